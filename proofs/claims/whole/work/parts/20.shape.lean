/-! THE WORLDS: the class's cells (51) and the reference's (47), by their places -/
def fsX0 : Nat → (Nat → Int32) → (Nat → Int64) → (Nat → Nat) → List Value := fun b f _ _ => [.ref (b + 45), .ref (b + 46), .ref (b + 47), .ref (b + 48), .ref (b + 49)]
def fsX1 : Nat → (Nat → Int32) → (Nat → Int64) → (Nat → Nat) → List Value := fun b f _ _ => [.ref (b + 40), .ref (b + 41), .ref (b + 42), .ref (b + 43), .int (f 4)]
def fsX2 : Nat → (Nat → Int32) → (Nat → Int64) → (Nat → Nat) → List Value := fun b f _ _ => [.ref (b + 22), .int (f 1)]
def fsX3 : Nat → (Nat → Int32) → (Nat → Int64) → (Nat → Nat) → List Value := fun b f _ _ => [.ref (b + 34), .ref (b + 35), .int (f 2)]
def fsX4 : Nat → (Nat → Int32) → (Nat → Int64) → (Nat → Nat) → List Value := fun b f _ h => [.ref (b + h 0), .ref (b + 21), .ref (b + 33), .ref (b + 36), .ref (b + 37), .ref (b + 38)]
def fsX5 : Nat → (Nat → Int32) → (Nat → Int64) → (Nat → Nat) → List Value := fun _ f _ _ => [.int (f 0), .int (f 1), .int (f 2), .int (f 3)]
def fsX6 : Nat → (Nat → Int32) → (Nat → Int64) → (Nat → Nat) → List Value := fun b f _ _ => [.ref (b + 2), .int (f 1)]
def fsX7 : Nat → (Nat → Int32) → (Nat → Int64) → (Nat → Nat) → List Value := fun b f g h => [.ref (b + 4), .ref (b + h 1), .int (f 2), .int (f 3), .long (g 4), .int (f 5), .int (f 6), .int (f 7), .int (f 8), .int (f 9), .ref (b + 18), .ref (b + 19), .ref (b + 20), .int (f 13)]
def fsX8 : Nat → (Nat → Int32) → (Nat → Int64) → (Nat → Nat) → List Value := fun b f _ _ => [.ref (b + 5), .ref (b + 6), .ref (b + 7), .int (f 3), .ref (b + 8)]
def fsX9 (r : Nat) : Nat → (Nat → Int32) → (Nat → Int64) → (Nat → Nat) → List Value := fun b f _ _ => [.int (f 0), .int (f 1), .int (f 2), .int (f 3), .int (f 4), .ref (b + (r + 1)), .ref (b + (r + 2)), .ref (b + (r + 3)), .ref (b + (r + 4)), .ref (b + (r + 5)), .ref (b + (r + 6)), .ref (b + (r + 7)), .ref (b + (r + 8)), .int (f 13)]
def fsX10 : Nat → (Nat → Int32) → (Nat → Int64) → (Nat → Nat) → List Value := fun b f _ _ => [.ref (b + 1), .ref (b + 3), .ref (b + 21), .ref (b + 23), .ref (b + 39), .ref (b + 44), .ref (b + 50)]
def fsX11 : Nat → (Nat → Int32) → (Nat → Int64) → (Nat → Nat) → List Value := fun b f _ _ => [.int (f 0), .ref (b + 1), .int (f 2), .ref (b + 2), .int (f 4), .ref (b + 3), .ref (b + 4), .ref (b + 5), .ref (b + 6), .ref (b + 7), .int (f 10), .int (f 11), .int (f 12), .int (f 13), .int (f 14), .int (f 15), .int (f 16), .int (f 17), .int (f 18), .int (f 19), .int (f 20), .ref (b + 8), .ref (b + 9), .ref (b + 10), .ref (b + 11), .ref (b + 12), .ref (b + 13), .ref (b + 14), .ref (b + 15), .ref (b + 16), .ref (b + 17), .ref (b + 18), .ref (b + 19), .ref (b + 20), .ref (b + 21), .ref (b + 22), .ref (b + 23), .int (f 37), .ref (b + 24), .ref (b + 25), .ref (b + 26), .ref (b + 27), .ref (b + 28), .ref (b + 29), .int (f 44), .ref (b + 30), .ref (b + 31), .ref (b + 32), .int (f 48), .ref (b + 33), .ref (b + 34), .int (f 51), .ref (b + 35), .ref (b + 36), .ref (b + 37), .ref (b + 38), .ref (b + 39), .ref (b + 40), .ref (b + 41), .ref (b + 42), .int (f 60), .ref (b + 43), .ref (b + 44), .ref (b + 45), .ref (b + 46)]
def evC (c : Nat → ClassId) (b k : Nat) (f : Nat → Int32) (g : Nat → Int64) (h : Nat → Nat) : va_E := match k with
  | 0 => .inr (10, fsX10 b f g h)
  | 1 => .inr (6, fsX6 b f g h)
  | 2 => .inl (c 0, 2000, .inl f)
  | 3 => .inr (7, fsX7 b f g h)
  | 4 => .inr (8, fsX8 b f g h)
  | 5 => .inl (c 0, 401, .inl f)
  | 6 => .inl (c 0, 401, .inl f)
  | 7 => .inl (c 1, 401, .inr (.inl g))
  | 8 => .inl (c 1, 23, .inr (.inl g))
  | 9 => .inr (9, fsX9 9 b f g h)
  | 10 => .inl (c 0, 16, .inl f)
  | 11 => .inl (c 0, 40, .inl f)
  | 12 => .inl (c 0, 40, .inl f)
  | 13 => .inl (c 0, 40, .inl f)
  | 14 => .inl (c 0, 26, .inl f)
  | 15 => .inl (c 0, 26, .inl f)
  | 16 => .inl (c 0, 400, .inl f)
  | 17 => .inl (c 0, 400, .inl f)
  | 18 => .inl (c 1, 30, .inr (.inl g))
  | 19 => .inl (c 0, 30, .inl f)
  | 20 => .inl (c 0, 30, .inl f)
  | 21 => .inr (2, fsX2 b f g h)
  | 22 => .inl (c 0, 240, .inl f)
  | 23 => .inr (4, fsX4 b f g h)
  | 24 => .inr (9, fsX9 24 b f g h)
  | 25 => .inl (c 0, 16, .inl f)
  | 26 => .inl (c 0, 40, .inl f)
  | 27 => .inl (c 0, 40, .inl f)
  | 28 => .inl (c 0, 40, .inl f)
  | 29 => .inl (c 0, 26, .inl f)
  | 30 => .inl (c 0, 26, .inl f)
  | 31 => .inl (c 0, 400, .inl f)
  | 32 => .inl (c 0, 400, .inl f)
  | 33 => .inr (3, fsX3 b f g h)
  | 34 => .inl (c 0, 21, .inl f)
  | 35 => .inl (c 0, 40, .inl f)
  | 36 => .inl (c 0, 20, .inl f)
  | 37 => .inl (c 0, 20, .inl f)
  | 38 => .inl (c 0, 20, .inl f)
  | 39 => .inr (1, fsX1 b f g h)
  | 40 => .inl (c 0, 60, .inl f)
  | 41 => .inl (c 0, 60, .inl f)
  | 42 => .inl (c 0, 60, .inl f)
  | 43 => .inl (c 3, 60, .inl f)
  | 44 => .inr (0, fsX0 b f g h)
  | 45 => .inl (c 1, 441, .inr (.inl g))
  | 46 => .inl (c 1, 31, .inr (.inl g))
  | 47 => .inl (c 1, 31, .inr (.inl g))
  | 48 => .inl (c 1, 21, .inr (.inl g))
  | 49 => .inl (c 1, 21, .inr (.inl g))
  | _ => .inr (5, fsX5 b f g h)
def vC : gV := (51, evC)
def evR (c : Nat → ClassId) (b k : Nat) (f : Nat → Int32) (g : Nat → Int64) (h : Nat → Nat) : va_E := match k with
  | 0 => .inr (11, fsX11 b f g h)
  | 1 => .inl (c 2, 2000, .inl f)
  | 2 => .inl (c 2, 2000, .inl f)
  | 3 => .inl (c 0, 403, .inl f)
  | 4 => .inl (c 0, 403, .inl f)
  | 5 => .inl (c 0, 403, .inl f)
  | 6 => .inl (c 1, 403, .inr (.inl g))
  | 7 => .inl (c 1, 23, .inr (.inl g))
  | 8 => .inl (c 1, 40, .inr (.inl g))
  | 9 => .inl (c 0, 40, .inl f)
  | 10 => .inl (c 0, 40, .inl f)
  | 11 => .inl (c 0, 2, .inl f)
  | 12 => .inl (c 0, 2, .inl f)
  | 13 => .inl (c 0, 2, .inl f)
  | 14 => .inl (c 0, 2, .inl f)
  | 15 => .inl (c 0, 32, .inl f)
  | 16 => .inl (c 0, 2, .inl f)
  | 17 => .inl (c 0, 80, .inl f)
  | 18 => .inl (c 0, 80, .inl f)
  | 19 => .inl (c 0, 80, .inl f)
  | 20 => .inl (c 0, 52, .inl f)
  | 21 => .inl (c 0, 52, .inl f)
  | 22 => .inl (c 0, 52, .inl f)
  | 23 => .inl (c 0, 52, .inl f)
  | 24 => .inl (c 0, 300, .inl f)
  | 25 => .inl (c 3, 300, .inl f)
  | 26 => .inl (c 3, 300, .inl f)
  | 27 => .inl (c 0, 300, .inl f)
  | 28 => .inl (c 0, 300, .inl f)
  | 29 => .inl (c 0, 300, .inl f)
  | 30 => .inl (c 0, 840, .inl f)
  | 31 => .inl (c 0, 840, .inl f)
  | 32 => .inl (c 0, 64, .inl f)
  | 33 => .inl (c 0, 21, .inl f)
  | 34 => .inl (c 0, 400, .inl f)
  | 35 => .inl (c 0, 20, .inl f)
  | 36 => .inl (c 0, 20, .inl f)
  | 37 => .inl (c 0, 20, .inl f)
  | 38 => .inl (c 0, 20, .inl f)
  | 39 => .inl (c 0, 160, .inl f)
  | 40 => .inl (c 3, 16, .inl f)
  | 41 => .inl (c 1, 21, .inr (.inl g))
  | 42 => .inl (c 1, 21, .inr (.inl g))
  | 43 => .inl (c 0, 60, .inl f)
  | 44 => .inl (c 0, 60, .inl f)
  | 45 => .inl (c 0, 60, .inl f)
  | _ => .inl (c 3, 60, .inl f)
def vR : gV := (47, evR)
/-- the places of the two texts told -/
def tR (r : Nat) : Bool := r == 9 || r == 24
theorem tR_or {r : Nat} (h : tR r = true) : r = 9 ∨ r = 24 := by
  simp only [tR, Bool.or_eq_true, beq_iff_eq] at h; exact h
theorem uwX0 : ∀ w ∈ u_ws RX0 TX0 5, w ∈ gTBL := by
  have h1 : (u_ws RX0 TX0 5).all (fun w => goodWord w) = true := by decide +kernel
  have h2 : ∀ w ∈ u_ws RX0 TX0 5, w ∈ tables_1 := by decide +kernel
  exact fun w hw => List.mem_filter.mpr ⟨List.mem_append_right _ (h2 w hw), List.all_eq_true.mp h1 w hw⟩
theorem okTX0 : okT TX0 5 := ⟨tyX0, tyX0_ok, nmX0⟩
theorem uwX1 : ∀ w ∈ u_ws RX1 TX1 5, w ∈ gTBL := by
  have h1 : (u_ws RX1 TX1 5).all (fun w => goodWord w) = true := by decide +kernel
  have h2 : ∀ w ∈ u_ws RX1 TX1 5, w ∈ tables_1 := by decide +kernel
  exact fun w hw => List.mem_filter.mpr ⟨List.mem_append_right _ (h2 w hw), List.all_eq_true.mp h1 w hw⟩
theorem okTX1 : okT TX1 5 := ⟨tyX1, tyX1_ok, nmX1⟩
theorem uwX2 : ∀ w ∈ u_ws RX2 TX2 2, w ∈ gTBL := by
  have h1 : (u_ws RX2 TX2 2).all (fun w => goodWord w) = true := by decide +kernel
  have h2 : ∀ w ∈ u_ws RX2 TX2 2, w ∈ tables_1 := by decide +kernel
  exact fun w hw => List.mem_filter.mpr ⟨List.mem_append_right _ (h2 w hw), List.all_eq_true.mp h1 w hw⟩
theorem okTX2 : okT TX2 2 := ⟨tyX2, tyX2_ok, nmX2⟩
theorem uwX3 : ∀ w ∈ u_ws RX3 TX3 3, w ∈ gTBL := by
  have h1 : (u_ws RX3 TX3 3).all (fun w => goodWord w) = true := by decide +kernel
  have h2 : ∀ w ∈ u_ws RX3 TX3 3, w ∈ tables_1 := by decide +kernel
  exact fun w hw => List.mem_filter.mpr ⟨List.mem_append_right _ (h2 w hw), List.all_eq_true.mp h1 w hw⟩
theorem okTX3 : okT TX3 3 := ⟨tyX3, tyX3_ok, nmX3⟩
theorem uwX4 : ∀ w ∈ u_ws RX4 TX4 6, w ∈ gTBL := by
  have h1 : (u_ws RX4 TX4 6).all (fun w => goodWord w) = true := by decide +kernel
  have h2 : ∀ w ∈ u_ws RX4 TX4 6, w ∈ tables_1 := by decide +kernel
  exact fun w hw => List.mem_filter.mpr ⟨List.mem_append_right _ (h2 w hw), List.all_eq_true.mp h1 w hw⟩
theorem okTX4 : okT TX4 6 := ⟨tyX4, tyX4_ok, nmX4⟩
theorem uwX5 : ∀ w ∈ u_ws RX5 TX5 4, w ∈ gTBL := by
  have h1 : (u_ws RX5 TX5 4).all (fun w => goodWord w) = true := by decide +kernel
  have h2 : ∀ w ∈ u_ws RX5 TX5 4, w ∈ tables_1 := by decide +kernel
  exact fun w hw => List.mem_filter.mpr ⟨List.mem_append_right _ (h2 w hw), List.all_eq_true.mp h1 w hw⟩
theorem okTX5 : okT TX5 4 := ⟨tyX5, tyX5_ok, nmX5⟩
theorem uwX6 : ∀ w ∈ u_ws RX6 TX6 2, w ∈ gTBL := by
  have h1 : (u_ws RX6 TX6 2).all (fun w => goodWord w) = true := by decide +kernel
  have h2 : ∀ w ∈ u_ws RX6 TX6 2, w ∈ tables_1 := by decide +kernel
  exact fun w hw => List.mem_filter.mpr ⟨List.mem_append_right _ (h2 w hw), List.all_eq_true.mp h1 w hw⟩
theorem okTX6 : okT TX6 2 := ⟨tyX6, tyX6_ok, nmX6⟩
theorem uwX7 : ∀ w ∈ u_ws RX7 TX7 14, w ∈ gTBL := by
  have h1 : (u_ws RX7 TX7 14).all (fun w => goodWord w) = true := by decide +kernel
  have h2 : ∀ w ∈ u_ws RX7 TX7 14, w ∈ tables_1 := by decide +kernel
  exact fun w hw => List.mem_filter.mpr ⟨List.mem_append_right _ (h2 w hw), List.all_eq_true.mp h1 w hw⟩
theorem okTX7 : okT TX7 14 := ⟨tyX7, tyX7_ok, nmX7⟩
theorem uwX8 : ∀ w ∈ u_ws RX8 TX8 5, w ∈ gTBL := by
  have h1 : (u_ws RX8 TX8 5).all (fun w => goodWord w) = true := by decide +kernel
  have h2 : ∀ w ∈ u_ws RX8 TX8 5, w ∈ tables_1 := by decide +kernel
  exact fun w hw => List.mem_filter.mpr ⟨List.mem_append_right _ (h2 w hw), List.all_eq_true.mp h1 w hw⟩
theorem okTX8 : okT TX8 5 := ⟨tyX8, tyX8_ok, nmX8⟩
theorem uwX9 : ∀ w ∈ u_ws RX9 TX9 14, w ∈ gTBL := by
  have h1 : (u_ws RX9 TX9 14).all (fun w => goodWord w) = true := by decide +kernel
  have h2 : ∀ w ∈ u_ws RX9 TX9 14, w ∈ tables_1 := by decide +kernel
  exact fun w hw => List.mem_filter.mpr ⟨List.mem_append_right _ (h2 w hw), List.all_eq_true.mp h1 w hw⟩
theorem okTX9 : okT TX9 14 := ⟨tyX9, tyX9_ok, nmX9⟩
theorem uwX10 : ∀ w ∈ u_ws RX10 TX10 7, w ∈ gTBL := by
  have h1 : (u_ws RX10 TX10 7).all (fun w => goodWord w) = true := by decide +kernel
  have h2 : ∀ w ∈ u_ws RX10 TX10 7, w ∈ tables_1 := by decide +kernel
  exact fun w hw => List.mem_filter.mpr ⟨List.mem_append_right _ (h2 w hw), List.all_eq_true.mp h1 w hw⟩
theorem okTX10 : okT TX10 7 := ⟨tyX10, tyX10_ok, nmX10⟩
theorem uwX11 : ∀ w ∈ u_ws RX11 TX11 65, w ∈ gTBL := by
  have h1 : (u_ws RX11 TX11 65).all (fun w => goodWord w) = true := by decide +kernel
  have h2 : ∀ w ∈ u_ws RX11 TX11 65, w ∈ tables_1 := by decide +kernel
  exact fun w hw => List.mem_filter.mpr ⟨List.mem_append_right _ (h2 w hw), List.all_eq_true.mp h1 w hw⟩
theorem okTX11 : okT TX11 65 := ⟨tyX11, tyX11_ok, nmX11⟩
theorem shX10 : shO vC 0 10 RX10 TX10 7 fsX10 := ⟨by decide, rfl, uwX10, fun _ _ _ _ _ => rfl⟩
theorem shX6 : shO vC 1 6 RX6 TX6 2 fsX6 := ⟨by decide, rfl, uwX6, fun _ _ _ _ _ => rfl⟩
theorem shX7 : shO vC 3 7 RX7 TX7 14 fsX7 := ⟨by decide, rfl, uwX7, fun _ _ _ _ _ => rfl⟩
theorem shX8 : shO vC 4 8 RX8 TX8 5 fsX8 := ⟨by decide, rfl, uwX8, fun _ _ _ _ _ => rfl⟩
theorem shX2 : shO vC 21 2 RX2 TX2 2 fsX2 := ⟨by decide, rfl, uwX2, fun _ _ _ _ _ => rfl⟩
theorem shX4 : shO vC 23 4 RX4 TX4 6 fsX4 := ⟨by decide, rfl, uwX4, fun _ _ _ _ _ => rfl⟩
theorem shX3 : shO vC 33 3 RX3 TX3 3 fsX3 := ⟨by decide, rfl, uwX3, fun _ _ _ _ _ => rfl⟩
theorem shX1 : shO vC 39 1 RX1 TX1 5 fsX1 := ⟨by decide, rfl, uwX1, fun _ _ _ _ _ => rfl⟩
theorem shX0 : shO vC 44 0 RX0 TX0 5 fsX0 := ⟨by decide, rfl, uwX0, fun _ _ _ _ _ => rfl⟩
theorem shX5 : shO vC 50 5 RX5 TX5 4 fsX5 := ⟨by decide, rfl, uwX5, fun _ _ _ _ _ => rfl⟩
theorem shX11 : shO vR 0 11 RX11 TX11 65 fsX11 := ⟨by decide, rfl, uwX11, fun _ _ _ _ _ => rfl⟩
theorem shX9 {r : Nat} (hr : tR r = true) : shO vC r 9 RX9 TX9 14 (fsX9 r) := by
  rcases tR_or hr with rfl | rfl <;> exact ⟨by decide, rfl, uwX9, fun _ _ _ _ _ => rfl⟩
theorem fX0_takings : fA vC 44 0 0 RX0 TX0 5 fsX0 45 := ⟨shX0, by decide, fun _ _ _ _ => rfl⟩
theorem aX0_takings : shL vC 45 441 := ⟨by decide, fun _ _ _ _ _ => rfl⟩
theorem fX0_thirds : fA vC 44 1 0 RX0 TX0 5 fsX0 46 := ⟨shX0, by decide, fun _ _ _ _ => rfl⟩
theorem aX0_thirds : shL vC 46 31 := ⟨by decide, fun _ _ _ _ _ => rfl⟩
theorem fX0_halves : fA vC 44 2 0 RX0 TX0 5 fsX0 47 := ⟨shX0, by decide, fun _ _ _ _ => rfl⟩
theorem aX0_halves : shL vC 47 31 := ⟨by decide, fun _ _ _ _ _ => rfl⟩
theorem fX0_spread : fA vC 44 3 0 RX0 TX0 5 fsX0 48 := ⟨shX0, by decide, fun _ _ _ _ => rfl⟩
theorem aX0_spread : shL vC 48 21 := ⟨by decide, fun _ _ _ _ _ => rfl⟩
theorem fX0_wider : fA vC 44 4 0 RX0 TX0 5 fsX0 49 := ⟨shX0, by decide, fun _ _ _ _ => rfl⟩
theorem aX0_wider : shL vC 49 21 := ⟨by decide, fun _ _ _ _ _ => rfl⟩
theorem fX1_kinds : fA vC 39 0 1 RX1 TX1 5 fsX1 40 := ⟨shX1, by decide, fun _ _ _ _ => rfl⟩
theorem aX1_kinds : shI vC 40 0 60 := ⟨by decide, fun _ _ _ _ _ => rfl⟩
theorem fX1_subjects : fA vC 39 1 1 RX1 TX1 5 fsX1 41 := ⟨shX1, by decide, fun _ _ _ _ => rfl⟩
theorem aX1_subjects : shI vC 41 0 60 := ⟨by decide, fun _ _ _ _ _ => rfl⟩
theorem fX1_values : fA vC 39 2 1 RX1 TX1 5 fsX1 42 := ⟨shX1, by decide, fun _ _ _ _ => rfl⟩
theorem aX1_values : shI vC 42 0 60 := ⟨by decide, fun _ _ _ _ _ => rfl⟩
theorem fX1_known : fA vC 39 3 1 RX1 TX1 5 fsX1 43 := ⟨shX1, by decide, fun _ _ _ _ => rfl⟩
theorem aX1_known : shI vC 43 3 60 := ⟨by decide, fun _ _ _ _ _ => rfl⟩
theorem fX1_size : fI vC 39 4 1 RX1 TX1 5 fsX1 := ⟨shX1, by decide, fun _ _ _ _ => rfl⟩
theorem pwX1_size : pI 4 TX1 5 fsX1 := ⟨rfl, rfl, fun _ _ _ _ _ => rfl⟩
theorem fX2_traits : fA vC 21 0 2 RX2 TX2 2 fsX2 22 := ⟨shX2, by decide, fun _ _ _ _ => rfl⟩
theorem aX2_traits : shI vC 22 0 240 := ⟨by decide, fun _ _ _ _ _ => rfl⟩
theorem fX2_size : fI vC 21 1 2 RX2 TX2 2 fsX2 := ⟨shX2, by decide, fun _ _ _ _ => rfl⟩
theorem pwX2_size : pI 1 TX2 2 fsX2 := ⟨rfl, rfl, fun _ _ _ _ _ => rfl⟩
theorem fX3_slots : fA vC 33 0 3 RX3 TX3 3 fsX3 34 := ⟨shX3, by decide, fun _ _ _ _ => rfl⟩
theorem aX3_slots : shI vC 34 0 21 := ⟨by decide, fun _ _ _ _ _ => rfl⟩
theorem fX3_stack : fA vC 33 1 3 RX3 TX3 3 fsX3 35 := ⟨shX3, by decide, fun _ _ _ _ => rfl⟩
theorem aX3_stack : shI vC 35 0 40 := ⟨by decide, fun _ _ _ _ _ => rfl⟩
theorem fX3_top : fI vC 33 2 3 RX3 TX3 3 fsX3 := ⟨shX3, by decide, fun _ _ _ _ => rfl⟩
theorem pwX3_top : pI 2 TX3 3 fsX3 := ⟨rfl, rfl, fun _ _ _ _ _ => rfl⟩
theorem fX4_told : fR vC 23 0 4 RX4 TX4 6 fsX4 := ⟨shX4, by decide, fun _ _ _ _ => rfl⟩
theorem pwX4_told : pR 0 TX4 6 fsX4 "SkyTrial$Told" := ⟨rfl, rfl, fun _ _ _ _ _ => rfl⟩
theorem fX4_people : fA vC 23 1 4 RX4 TX4 6 fsX4 21 := ⟨shX4, by decide, fun _ _ _ _ => rfl⟩
theorem fX4_reckoner : fA vC 23 2 4 RX4 TX4 6 fsX4 33 := ⟨shX4, by decide, fun _ _ _ _ => rfl⟩
theorem fX4_ups : fA vC 23 3 4 RX4 TX4 6 fsX4 36 := ⟨shX4, by decide, fun _ _ _ _ => rfl⟩
theorem aX4_ups : shI vC 36 0 20 := ⟨by decide, fun _ _ _ _ _ => rfl⟩
theorem fX4_truths : fA vC 23 4 4 RX4 TX4 6 fsX4 37 := ⟨shX4, by decide, fun _ _ _ _ => rfl⟩
theorem aX4_truths : shI vC 37 0 20 := ⟨by decide, fun _ _ _ _ _ => rfl⟩
theorem fX4_fits : fA vC 23 5 4 RX4 TX4 6 fsX4 38 := ⟨shX4, by decide, fun _ _ _ _ => rfl⟩
theorem aX4_fits : shI vC 38 0 20 := ⟨by decide, fun _ _ _ _ _ => rfl⟩
theorem fX5_all : fI vC 50 0 5 RX5 TX5 4 fsX5 := ⟨shX5, by decide, fun _ _ _ _ => rfl⟩
theorem pwX5_all : pI 0 TX5 4 fsX5 := ⟨rfl, rfl, fun _ _ _ _ _ => rfl⟩
theorem fX5_up : fI vC 50 1 5 RX5 TX5 4 fsX5 := ⟨shX5, by decide, fun _ _ _ _ => rfl⟩
theorem pwX5_up : pI 1 TX5 4 fsX5 := ⟨rfl, rfl, fun _ _ _ _ _ => rfl⟩
theorem fX5_trueOnes : fI vC 50 2 5 RX5 TX5 4 fsX5 := ⟨shX5, by decide, fun _ _ _ _ => rfl⟩
theorem pwX5_trueOnes : pI 2 TX5 4 fsX5 := ⟨rfl, rfl, fun _ _ _ _ _ => rfl⟩
theorem fX5_both : fI vC 50 3 5 RX5 TX5 4 fsX5 := ⟨shX5, by decide, fun _ _ _ _ => rfl⟩
theorem pwX5_both : pI 3 TX5 4 fsX5 := ⟨rfl, rfl, fun _ _ _ _ _ => rfl⟩
theorem fX6_bytes : fA vC 1 0 6 RX6 TX6 2 fsX6 2 := ⟨shX6, by decide, fun _ _ _ _ => rfl⟩
theorem aX6_bytes : shI vC 2 0 2000 := ⟨by decide, fun _ _ _ _ _ => rfl⟩
theorem fX6_length : fI vC 1 1 6 RX6 TX6 2 fsX6 := ⟨shX6, by decide, fun _ _ _ _ => rfl⟩
theorem pwX6_length : pI 1 TX6 2 fsX6 := ⟨rfl, rfl, fun _ _ _ _ _ => rfl⟩
theorem fX7_tokens : fA vC 3 0 7 RX7 TX7 14 fsX7 4 := ⟨shX7, by decide, fun _ _ _ _ => rfl⟩
theorem fX7_draft : fR vC 3 1 7 RX7 TX7 14 fsX7 := ⟨shX7, by decide, fun _ _ _ _ => rfl⟩
theorem pwX7_draft : pR 1 TX7 14 fsX7 "SkyTrial$Told" := ⟨rfl, rfl, fun _ _ _ _ _ => rfl⟩
theorem fX7_at : fI vC 3 2 7 RX7 TX7 14 fsX7 := ⟨shX7, by decide, fun _ _ _ _ => rfl⟩
theorem pwX7_at : pI 2 TX7 14 fsX7 := ⟨rfl, rfl, fun _ _ _ _ _ => rfl⟩
theorem fX7_here : fI vC 3 3 7 RX7 TX7 14 fsX7 := ⟨shX7, by decide, fun _ _ _ _ => rfl⟩
theorem pwX7_here : pI 3 TX7 14 fsX7 := ⟨rfl, rfl, fun _ _ _ _ _ => rfl⟩
theorem fX7_value : fL vC 3 4 7 RX7 TX7 14 fsX7 := ⟨shX7, by decide, fun _ _ _ _ => rfl⟩
theorem pwX7_value : pL 4 TX7 14 fsX7 := ⟨rfl, rfl, fun _ _ _ _ _ => rfl⟩
theorem fX7_spot : fI vC 3 5 7 RX7 TX7 14 fsX7 := ⟨shX7, by decide, fun _ _ _ _ => rfl⟩
theorem pwX7_spot : pI 5 TX7 14 fsX7 := ⟨rfl, rfl, fun _ _ _ _ _ => rfl⟩
theorem fX7_fault : fI vC 3 6 7 RX7 TX7 14 fsX7 := ⟨shX7, by decide, fun _ _ _ _ => rfl⟩
theorem pwX7_fault : pI 6 TX7 14 fsX7 := ⟨rfl, rfl, fun _ _ _ _ _ => rfl⟩
theorem fX7_faultAt : fI vC 3 7 7 RX7 TX7 14 fsX7 := ⟨shX7, by decide, fun _ _ _ _ => rfl⟩
theorem pwX7_faultAt : pI 7 TX7 14 fsX7 := ⟨rfl, rfl, fun _ _ _ _ _ => rfl⟩
theorem fX7_laterFault : fI vC 3 8 7 RX7 TX7 14 fsX7 := ⟨shX7, by decide, fun _ _ _ _ => rfl⟩
theorem pwX7_laterFault : pI 8 TX7 14 fsX7 := ⟨rfl, rfl, fun _ _ _ _ _ => rfl⟩
theorem fX7_laterAt : fI vC 3 9 7 RX7 TX7 14 fsX7 := ⟨shX7, by decide, fun _ _ _ _ => rfl⟩
theorem pwX7_laterAt : pI 9 TX7 14 fsX7 := ⟨rfl, rfl, fun _ _ _ _ _ => rfl⟩
theorem fX7_names : fA vC 3 10 7 RX7 TX7 14 fsX7 18 := ⟨shX7, by decide, fun _ _ _ _ => rfl⟩
theorem aX7_names : shL vC 18 30 := ⟨by decide, fun _ _ _ _ _ => rfl⟩
theorem fX7_nameKinds : fA vC 3 11 7 RX7 TX7 14 fsX7 19 := ⟨shX7, by decide, fun _ _ _ _ => rfl⟩
theorem aX7_nameKinds : shI vC 19 0 30 := ⟨by decide, fun _ _ _ _ _ => rfl⟩
theorem fX7_nameNumbers : fA vC 3 12 7 RX7 TX7 14 fsX7 20 := ⟨shX7, by decide, fun _ _ _ _ => rfl⟩
theorem aX7_nameNumbers : shI vC 20 0 30 := ⟨by decide, fun _ _ _ _ _ => rfl⟩
theorem fX7_named : fI vC 3 13 7 RX7 TX7 14 fsX7 := ⟨shX7, by decide, fun _ _ _ _ => rfl⟩
theorem pwX7_named : pI 13 TX7 14 fsX7 := ⟨rfl, rfl, fun _ _ _ _ _ => rfl⟩
theorem fX8_kinds : fA vC 4 0 8 RX8 TX8 5 fsX8 5 := ⟨shX8, by decide, fun _ _ _ _ => rfl⟩
theorem aX8_kinds : shI vC 5 0 401 := ⟨by decide, fun _ _ _ _ _ => rfl⟩
theorem fX8_starts : fA vC 4 1 8 RX8 TX8 5 fsX8 6 := ⟨shX8, by decide, fun _ _ _ _ => rfl⟩
theorem aX8_starts : shI vC 6 0 401 := ⟨by decide, fun _ _ _ _ _ => rfl⟩
theorem fX8_values : fA vC 4 2 8 RX8 TX8 5 fsX8 7 := ⟨shX8, by decide, fun _ _ _ _ => rfl⟩
theorem aX8_values : shL vC 7 401 := ⟨by decide, fun _ _ _ _ _ => rfl⟩
theorem fX8_size : fI vC 4 3 8 RX8 TX8 5 fsX8 := ⟨shX8, by decide, fun _ _ _ _ => rfl⟩
theorem pwX8_size : pI 3 TX8 5 fsX8 := ⟨rfl, rfl, fun _ _ _ _ _ => rfl⟩
theorem fX8_words : fA vC 4 4 8 RX8 TX8 5 fsX8 8 := ⟨shX8, by decide, fun _ _ _ _ => rfl⟩
theorem aX8_words : shL vC 8 23 := ⟨by decide, fun _ _ _ _ _ => rfl⟩
theorem fX9_signs {r : Nat} (hr : tR r = true) : fI vC r 0 9 RX9 TX9 14 (fsX9 r) := ⟨(shX9 hr), by decide, fun _ _ _ _ => rfl⟩
theorem pwX9_signs {r : Nat} : pI 0 TX9 14 (fsX9 r) := ⟨rfl, rfl, fun _ _ _ _ _ => rfl⟩
theorem fX9_says {r : Nat} (hr : tR r = true) : fI vC r 1 9 RX9 TX9 14 (fsX9 r) := ⟨(shX9 hr), by decide, fun _ _ _ _ => rfl⟩
theorem pwX9_says {r : Nat} : pI 1 TX9 14 (fsX9 r) := ⟨rfl, rfl, fun _ _ _ _ _ => rfl⟩
theorem fX9_books {r : Nat} (hr : tR r = true) : fI vC r 2 9 RX9 TX9 14 (fsX9 r) := ⟨(shX9 hr), by decide, fun _ _ _ _ => rfl⟩
theorem pwX9_books {r : Nat} : pI 2 TX9 14 (fsX9 r) := ⟨rfl, rfl, fun _ _ _ _ _ => rfl⟩
theorem fX9_whens {r : Nat} (hr : tR r = true) : fI vC r 3 9 RX9 TX9 14 (fsX9 r) := ⟨(shX9 hr), by decide, fun _ _ _ _ => rfl⟩
theorem pwX9_whens {r : Nat} : pI 3 TX9 14 (fsX9 r) := ⟨rfl, rfl, fun _ _ _ _ _ => rfl⟩
theorem fX9_laws {r : Nat} (hr : tR r = true) : fI vC r 4 9 RX9 TX9 14 (fsX9 r) := ⟨(shX9 hr), by decide, fun _ _ _ _ => rfl⟩
theorem pwX9_laws {r : Nat} : pI 4 TX9 14 (fsX9 r) := ⟨rfl, rfl, fun _ _ _ _ _ => rfl⟩
theorem fX9_sorts {r : Nat} (hr : tR r = true) : fA vC r 5 9 RX9 TX9 14 (fsX9 r) (r + 1) := ⟨(shX9 hr), by decide, fun _ _ _ _ => rfl⟩
theorem aX9_sorts {r : Nat} (hr : tR r = true) : shI vC (r + 1) 0 16 := by
  rcases tR_or hr with rfl | rfl <;> exact ⟨by decide, fun _ _ _ _ _ => rfl⟩
theorem fX9_whenBooks {r : Nat} (hr : tR r = true) : fA vC r 6 9 RX9 TX9 14 (fsX9 r) (r + 2) := ⟨(shX9 hr), by decide, fun _ _ _ _ => rfl⟩
theorem aX9_whenBooks {r : Nat} (hr : tR r = true) : shI vC (r + 2) 0 40 := by
  rcases tR_or hr with rfl | rfl <;> exact ⟨by decide, fun _ _ _ _ _ => rfl⟩
theorem fX9_whenSigns {r : Nat} (hr : tR r = true) : fA vC r 7 9 RX9 TX9 14 (fsX9 r) (r + 3) := ⟨(shX9 hr), by decide, fun _ _ _ _ => rfl⟩
theorem aX9_whenSigns {r : Nat} (hr : tR r = true) : shI vC (r + 3) 0 40 := by
  rcases tR_or hr with rfl | rfl <;> exact ⟨by decide, fun _ _ _ _ _ => rfl⟩
theorem fX9_whenSays {r : Nat} (hr : tR r = true) : fA vC r 8 9 RX9 TX9 14 (fsX9 r) (r + 4) := ⟨(shX9 hr), by decide, fun _ _ _ _ => rfl⟩
theorem aX9_whenSays {r : Nat} (hr : tR r = true) : shI vC (r + 4) 0 40 := by
  rcases tR_or hr with rfl | rfl <;> exact ⟨by decide, fun _ _ _ _ _ => rfl⟩
theorem fX9_formulaStarts {r : Nat} (hr : tR r = true) : fA vC r 9 9 RX9 TX9 14 (fsX9 r) (r + 5) := ⟨(shX9 hr), by decide, fun _ _ _ _ => rfl⟩
theorem aX9_formulaStarts {r : Nat} (hr : tR r = true) : shI vC (r + 5) 0 26 := by
  rcases tR_or hr with rfl | rfl <;> exact ⟨by decide, fun _ _ _ _ _ => rfl⟩
theorem fX9_formulaEnds {r : Nat} (hr : tR r = true) : fA vC r 10 9 RX9 TX9 14 (fsX9 r) (r + 6) := ⟨(shX9 hr), by decide, fun _ _ _ _ => rfl⟩
theorem aX9_formulaEnds {r : Nat} (hr : tR r = true) : shI vC (r + 6) 0 26 := by
  rcases tR_or hr with rfl | rfl <;> exact ⟨by decide, fun _ _ _ _ _ => rfl⟩
theorem fX9_stepKinds {r : Nat} (hr : tR r = true) : fA vC r 11 9 RX9 TX9 14 (fsX9 r) (r + 7) := ⟨(shX9 hr), by decide, fun _ _ _ _ => rfl⟩
theorem aX9_stepKinds {r : Nat} (hr : tR r = true) : shI vC (r + 7) 0 400 := by
  rcases tR_or hr with rfl | rfl <;> exact ⟨by decide, fun _ _ _ _ _ => rfl⟩
theorem fX9_stepValues {r : Nat} (hr : tR r = true) : fA vC r 12 9 RX9 TX9 14 (fsX9 r) (r + 8) := ⟨(shX9 hr), by decide, fun _ _ _ _ => rfl⟩
theorem aX9_stepValues {r : Nat} (hr : tR r = true) : shI vC (r + 8) 0 400 := by
  rcases tR_or hr with rfl | rfl <;> exact ⟨by decide, fun _ _ _ _ _ => rfl⟩
theorem fX9_steps {r : Nat} (hr : tR r = true) : fI vC r 13 9 RX9 TX9 14 (fsX9 r) := ⟨(shX9 hr), by decide, fun _ _ _ _ => rfl⟩
theorem pwX9_steps {r : Nat} : pI 13 TX9 14 (fsX9 r) := ⟨rfl, rfl, fun _ _ _ _ _ => rfl⟩
theorem fX10_tape : fA vC 0 0 10 RX10 TX10 7 fsX10 1 := ⟨shX10, by decide, fun _ _ _ _ => rfl⟩
theorem fX10_reader : fA vC 0 1 10 RX10 TX10 7 fsX10 3 := ⟨shX10, by decide, fun _ _ _ _ => rfl⟩
theorem fX10_people : fA vC 0 2 10 RX10 TX10 7 fsX10 21 := ⟨shX10, by decide, fun _ _ _ _ => rfl⟩
theorem fX10_sky : fA vC 0 3 10 RX10 TX10 7 fsX10 23 := ⟨shX10, by decide, fun _ _ _ _ => rfl⟩
theorem fX10_facts : fA vC 0 4 10 RX10 TX10 7 fsX10 39 := ⟨shX10, by decide, fun _ _ _ _ => rfl⟩
theorem fX10_chance : fA vC 0 5 10 RX10 TX10 7 fsX10 44 := ⟨shX10, by decide, fun _ _ _ _ => rfl⟩
theorem fX10_tally : fA vC 0 6 10 RX10 TX10 7 fsX10 50 := ⟨shX10, by decide, fun _ _ _ _ => rfl⟩
theorem fX11_thrown : fI vR 0 0 11 RX11 TX11 65 fsX11 := ⟨shX11, by decide, fun _ _ _ _ => rfl⟩
theorem pwX11_thrown : pI 0 TX11 65 fsX11 := ⟨rfl, rfl, fun _ _ _ _ _ => rfl⟩
theorem fX11_tape : fA vR 0 1 11 RX11 TX11 65 fsX11 1 := ⟨shX11, by decide, fun _ _ _ _ => rfl⟩
theorem aX11_tape : shI vR 1 2 2000 := ⟨by decide, fun _ _ _ _ _ => rfl⟩
theorem fX11_taped : fI vR 0 2 11 RX11 TX11 65 fsX11 := ⟨shX11, by decide, fun _ _ _ _ => rfl⟩
theorem pwX11_taped : pI 2 TX11 65 fsX11 := ⟨rfl, rfl, fun _ _ _ _ _ => rfl⟩
theorem fX11_text : fA vR 0 3 11 RX11 TX11 65 fsX11 2 := ⟨shX11, by decide, fun _ _ _ _ => rfl⟩
theorem aX11_text : shI vR 2 2 2000 := ⟨by decide, fun _ _ _ _ _ => rfl⟩
theorem fX11_size : fI vR 0 4 11 RX11 TX11 65 fsX11 := ⟨shX11, by decide, fun _ _ _ _ => rfl⟩
theorem pwX11_size : pI 4 TX11 65 fsX11 := ⟨rfl, rfl, fun _ _ _ _ _ => rfl⟩
theorem fX11_tKind : fA vR 0 5 11 RX11 TX11 65 fsX11 3 := ⟨shX11, by decide, fun _ _ _ _ => rfl⟩
theorem aX11_tKind : shI vR 3 0 403 := ⟨by decide, fun _ _ _ _ _ => rfl⟩
theorem fX11_tPlace : fA vR 0 6 11 RX11 TX11 65 fsX11 4 := ⟨shX11, by decide, fun _ _ _ _ => rfl⟩
theorem aX11_tPlace : shI vR 4 0 403 := ⟨by decide, fun _ _ _ _ _ => rfl⟩
theorem fX11_tValue : fA vR 0 7 11 RX11 TX11 65 fsX11 5 := ⟨shX11, by decide, fun _ _ _ _ => rfl⟩
theorem aX11_tValue : shI vR 5 0 403 := ⟨by decide, fun _ _ _ _ _ => rfl⟩
theorem fX11_tName : fA vR 0 8 11 RX11 TX11 65 fsX11 6 := ⟨shX11, by decide, fun _ _ _ _ => rfl⟩
theorem aX11_tName : shL vR 6 403 := ⟨by decide, fun _ _ _ _ _ => rfl⟩
theorem fX11_keys : fA vR 0 9 11 RX11 TX11 65 fsX11 7 := ⟨shX11, by decide, fun _ _ _ _ => rfl⟩
theorem aX11_keys : shL vR 7 23 := ⟨by decide, fun _ _ _ _ _ => rfl⟩
theorem fX11_tokens : fI vR 0 10 11 RX11 TX11 65 fsX11 := ⟨shX11, by decide, fun _ _ _ _ => rfl⟩
theorem pwX11_tokens : pI 10 TX11 65 fsX11 := ⟨rfl, rfl, fun _ _ _ _ _ => rfl⟩
theorem fX11_t : fI vR 0 11 11 RX11 TX11 65 fsX11 := ⟨shX11, by decide, fun _ _ _ _ => rfl⟩
theorem pwX11_t : pI 11 TX11 65 fsX11 := ⟨rfl, rfl, fun _ _ _ _ _ => rfl⟩
theorem fX11_open : fI vR 0 12 11 RX11 TX11 65 fsX11 := ⟨shX11, by decide, fun _ _ _ _ => rfl⟩
theorem pwX11_open : pI 12 TX11 65 fsX11 := ⟨rfl, rfl, fun _ _ _ _ _ => rfl⟩
theorem fX11_fault : fI vR 0 13 11 RX11 TX11 65 fsX11 := ⟨shX11, by decide, fun _ _ _ _ => rfl⟩
theorem pwX11_fault : pI 13 TX11 65 fsX11 := ⟨rfl, rfl, fun _ _ _ _ _ => rfl⟩
theorem fX11_faultPlace : fI vR 0 14 11 RX11 TX11 65 fsX11 := ⟨shX11, by decide, fun _ _ _ _ => rfl⟩
theorem pwX11_faultPlace : pI 14 TX11 65 fsX11 := ⟨rfl, rfl, fun _ _ _ _ _ => rfl⟩
theorem fX11_worst : fI vR 0 15 11 RX11 TX11 65 fsX11 := ⟨shX11, by decide, fun _ _ _ _ => rfl⟩
theorem pwX11_worst : pI 15 TX11 65 fsX11 := ⟨rfl, rfl, fun _ _ _ _ _ => rfl⟩
theorem fX11_worstPlace : fI vR 0 16 11 RX11 TX11 65 fsX11 := ⟨shX11, by decide, fun _ _ _ _ => rfl⟩
theorem pwX11_worstPlace : pI 16 TX11 65 fsX11 := ⟨rfl, rfl, fun _ _ _ _ _ => rfl⟩
theorem fX11_place : fI vR 0 17 11 RX11 TX11 65 fsX11 := ⟨shX11, by decide, fun _ _ _ _ => rfl⟩
theorem pwX11_place : pI 17 TX11 65 fsX11 := ⟨rfl, rfl, fun _ _ _ _ _ => rfl⟩
theorem fX11_live : fI vR 0 18 11 RX11 TX11 65 fsX11 := ⟨shX11, by decide, fun _ _ _ _ => rfl⟩
theorem pwX11_live : pI 18 TX11 65 fsX11 := ⟨rfl, rfl, fun _ _ _ _ _ => rfl⟩
theorem fX11_side : fI vR 0 19 11 RX11 TX11 65 fsX11 := ⟨shX11, by decide, fun _ _ _ _ => rfl⟩
theorem pwX11_side : pI 19 TX11 65 fsX11 := ⟨rfl, rfl, fun _ _ _ _ _ => rfl⟩
theorem fX11_names : fI vR 0 20 11 RX11 TX11 65 fsX11 := ⟨shX11, by decide, fun _ _ _ _ => rfl⟩
theorem pwX11_names : pI 20 TX11 65 fsX11 := ⟨rfl, rfl, fun _ _ _ _ _ => rfl⟩
theorem fX11_nameOf : fA vR 0 21 11 RX11 TX11 65 fsX11 8 := ⟨shX11, by decide, fun _ _ _ _ => rfl⟩
theorem aX11_nameOf : shL vR 8 40 := ⟨by decide, fun _ _ _ _ _ => rfl⟩
theorem fX11_nameSort : fA vR 0 22 11 RX11 TX11 65 fsX11 9 := ⟨shX11, by decide, fun _ _ _ _ => rfl⟩
theorem aX11_nameSort : shI vR 9 0 40 := ⟨by decide, fun _ _ _ _ _ => rfl⟩
theorem fX11_nameAt : fA vR 0 23 11 RX11 TX11 65 fsX11 10 := ⟨shX11, by decide, fun _ _ _ _ => rfl⟩
theorem aX11_nameAt : shI vR 10 0 40 := ⟨by decide, fun _ _ _ _ _ => rfl⟩
theorem fX11_signs : fA vR 0 24 11 RX11 TX11 65 fsX11 11 := ⟨shX11, by decide, fun _ _ _ _ => rfl⟩
theorem aX11_signs : shI vR 11 0 2 := ⟨by decide, fun _ _ _ _ _ => rfl⟩
theorem fX11_says : fA vR 0 25 11 RX11 TX11 65 fsX11 12 := ⟨shX11, by decide, fun _ _ _ _ => rfl⟩
theorem aX11_says : shI vR 12 0 2 := ⟨by decide, fun _ _ _ _ _ => rfl⟩
theorem fX11_books : fA vR 0 26 11 RX11 TX11 65 fsX11 13 := ⟨shX11, by decide, fun _ _ _ _ => rfl⟩
theorem aX11_books : shI vR 13 0 2 := ⟨by decide, fun _ _ _ _ _ => rfl⟩
theorem fX11_laws : fA vR 0 27 11 RX11 TX11 65 fsX11 14 := ⟨shX11, by decide, fun _ _ _ _ => rfl⟩
theorem aX11_laws : shI vR 14 0 2 := ⟨by decide, fun _ _ _ _ _ => rfl⟩
theorem fX11_sortOf : fA vR 0 28 11 RX11 TX11 65 fsX11 15 := ⟨shX11, by decide, fun _ _ _ _ => rfl⟩
theorem aX11_sortOf : shI vR 15 0 32 := ⟨by decide, fun _ _ _ _ _ => rfl⟩
theorem fX11_whens : fA vR 0 29 11 RX11 TX11 65 fsX11 16 := ⟨shX11, by decide, fun _ _ _ _ => rfl⟩
theorem aX11_whens : shI vR 16 0 2 := ⟨by decide, fun _ _ _ _ _ => rfl⟩
theorem fX11_whenBook : fA vR 0 30 11 RX11 TX11 65 fsX11 17 := ⟨shX11, by decide, fun _ _ _ _ => rfl⟩
theorem aX11_whenBook : shI vR 17 0 80 := ⟨by decide, fun _ _ _ _ _ => rfl⟩
theorem fX11_whenSign : fA vR 0 31 11 RX11 TX11 65 fsX11 18 := ⟨shX11, by decide, fun _ _ _ _ => rfl⟩
theorem aX11_whenSign : shI vR 18 0 80 := ⟨by decide, fun _ _ _ _ _ => rfl⟩
theorem fX11_whenSay : fA vR 0 32 11 RX11 TX11 65 fsX11 19 := ⟨shX11, by decide, fun _ _ _ _ => rfl⟩
theorem aX11_whenSay : shI vR 19 0 80 := ⟨by decide, fun _ _ _ _ _ => rfl⟩
theorem fX11_litFirst : fA vR 0 33 11 RX11 TX11 65 fsX11 20 := ⟨shX11, by decide, fun _ _ _ _ => rfl⟩
theorem aX11_litFirst : shI vR 20 0 52 := ⟨by decide, fun _ _ _ _ _ => rfl⟩
theorem fX11_litLast : fA vR 0 34 11 RX11 TX11 65 fsX11 21 := ⟨shX11, by decide, fun _ _ _ _ => rfl⟩
theorem aX11_litLast : shI vR 21 0 52 := ⟨by decide, fun _ _ _ _ _ => rfl⟩
theorem fX11_lawFrom : fA vR 0 35 11 RX11 TX11 65 fsX11 22 := ⟨shX11, by decide, fun _ _ _ _ => rfl⟩
theorem aX11_lawFrom : shI vR 22 0 52 := ⟨by decide, fun _ _ _ _ _ => rfl⟩
theorem fX11_lawTo : fA vR 0 36 11 RX11 TX11 65 fsX11 23 := ⟨shX11, by decide, fun _ _ _ _ => rfl⟩
theorem aX11_lawTo : shI vR 23 0 52 := ⟨by decide, fun _ _ _ _ _ => rfl⟩
theorem fX11_lits : fI vR 0 37 11 RX11 TX11 65 fsX11 := ⟨shX11, by decide, fun _ _ _ _ => rfl⟩
theorem pwX11_lits : pI 37 TX11 65 fsX11 := ⟨rfl, rfl, fun _ _ _ _ _ => rfl⟩
theorem fX11_litSort : fA vR 0 38 11 RX11 TX11 65 fsX11 24 := ⟨shX11, by decide, fun _ _ _ _ => rfl⟩
theorem aX11_litSort : shI vR 24 0 300 := ⟨by decide, fun _ _ _ _ _ => rfl⟩
theorem fX11_litNot : fA vR 0 39 11 RX11 TX11 65 fsX11 25 := ⟨shX11, by decide, fun _ _ _ _ => rfl⟩
theorem aX11_litNot : shI vR 25 3 300 := ⟨by decide, fun _ _ _ _ _ => rfl⟩
theorem fX11_litOr : fA vR 0 40 11 RX11 TX11 65 fsX11 26 := ⟨shX11, by decide, fun _ _ _ _ => rfl⟩
theorem aX11_litOr : shI vR 26 3 300 := ⟨by decide, fun _ _ _ _ _ => rfl⟩
theorem fX11_litLeft : fA vR 0 41 11 RX11 TX11 65 fsX11 27 := ⟨shX11, by decide, fun _ _ _ _ => rfl⟩
theorem aX11_litLeft : shI vR 27 0 300 := ⟨by decide, fun _ _ _ _ _ => rfl⟩
theorem fX11_litRight : fA vR 0 42 11 RX11 TX11 65 fsX11 28 := ⟨shX11, by decide, fun _ _ _ _ => rfl⟩
theorem aX11_litRight : shI vR 28 0 300 := ⟨by decide, fun _ _ _ _ _ => rfl⟩
theorem fX11_litEnd : fA vR 0 43 11 RX11 TX11 65 fsX11 29 := ⟨shX11, by decide, fun _ _ _ _ => rfl⟩
theorem aX11_litEnd : shI vR 29 0 300 := ⟨by decide, fun _ _ _ _ _ => rfl⟩
theorem fX11_codes : fI vR 0 44 11 RX11 TX11 65 fsX11 := ⟨shX11, by decide, fun _ _ _ _ => rfl⟩
theorem pwX11_codes : pI 44 TX11 65 fsX11 := ⟨rfl, rfl, fun _ _ _ _ _ => rfl⟩
theorem fX11_code : fA vR 0 45 11 RX11 TX11 65 fsX11 30 := ⟨shX11, by decide, fun _ _ _ _ => rfl⟩
theorem aX11_code : shI vR 30 0 840 := ⟨by decide, fun _ _ _ _ _ => rfl⟩
theorem fX11_codeInt : fA vR 0 46 11 RX11 TX11 65 fsX11 31 := ⟨shX11, by decide, fun _ _ _ _ => rfl⟩
theorem aX11_codeInt : shI vR 31 0 840 := ⟨by decide, fun _ _ _ _ _ => rfl⟩
theorem fX11_waits : fA vR 0 47 11 RX11 TX11 65 fsX11 32 := ⟨shX11, by decide, fun _ _ _ _ => rfl⟩
theorem aX11_waits : shI vR 32 0 64 := ⟨by decide, fun _ _ _ _ _ => rfl⟩
theorem fX11_waiting : fI vR 0 48 11 RX11 TX11 65 fsX11 := ⟨shX11, by decide, fun _ _ _ _ => rfl⟩
theorem pwX11_waiting : pI 48 TX11 65 fsX11 := ⟨rfl, rfl, fun _ _ _ _ _ => rfl⟩
theorem fX11_variables : fA vR 0 49 11 RX11 TX11 65 fsX11 33 := ⟨shX11, by decide, fun _ _ _ _ => rfl⟩
theorem aX11_variables : shI vR 33 0 21 := ⟨by decide, fun _ _ _ _ _ => rfl⟩
theorem fX11_pile : fA vR 0 50 11 RX11 TX11 65 fsX11 34 := ⟨shX11, by decide, fun _ _ _ _ => rfl⟩
theorem aX11_pile : shI vR 34 0 400 := ⟨by decide, fun _ _ _ _ _ => rfl⟩
theorem fX11_people : fI vR 0 51 11 RX11 TX11 65 fsX11 := ⟨shX11, by decide, fun _ _ _ _ => rfl⟩
theorem pwX11_people : pI 51 TX11 65 fsX11 := ⟨rfl, rfl, fun _ _ _ _ _ => rfl⟩
theorem fX11_minutes : fA vR 0 52 11 RX11 TX11 65 fsX11 35 := ⟨shX11, by decide, fun _ _ _ _ => rfl⟩
theorem aX11_minutes : shI vR 35 0 20 := ⟨by decide, fun _ _ _ _ _ => rfl⟩
theorem fX11_months : fA vR 0 53 11 RX11 TX11 65 fsX11 36 := ⟨shX11, by decide, fun _ _ _ _ => rfl⟩
theorem aX11_months : shI vR 36 0 20 := ⟨by decide, fun _ _ _ _ _ => rfl⟩
theorem fX11_years : fA vR 0 54 11 RX11 TX11 65 fsX11 37 := ⟨shX11, by decide, fun _ _ _ _ => rfl⟩
theorem aX11_years : shI vR 37 0 20 := ⟨by decide, fun _ _ _ _ _ => rfl⟩
theorem fX11_coats : fA vR 0 55 11 RX11 TX11 65 fsX11 38 := ⟨shX11, by decide, fun _ _ _ _ => rfl⟩
theorem aX11_coats : shI vR 38 0 20 := ⟨by decide, fun _ _ _ _ _ => rfl⟩
theorem fX11_ways : fA vR 0 56 11 RX11 TX11 65 fsX11 39 := ⟨shX11, by decide, fun _ _ _ _ => rfl⟩
theorem aX11_ways : shI vR 39 0 160 := ⟨by decide, fun _ _ _ _ _ => rfl⟩
theorem fX11_isTrueNow : fA vR 0 57 11 RX11 TX11 65 fsX11 40 := ⟨shX11, by decide, fun _ _ _ _ => rfl⟩
theorem aX11_isTrueNow : shI vR 40 3 16 := ⟨by decide, fun _ _ _ _ _ => rfl⟩
theorem fX11_rows : fA vR 0 58 11 RX11 TX11 65 fsX11 41 := ⟨shX11, by decide, fun _ _ _ _ => rfl⟩
theorem aX11_rows : shL vR 41 21 := ⟨by decide, fun _ _ _ _ _ => rfl⟩
theorem fX11_after : fA vR 0 59 11 RX11 TX11 65 fsX11 42 := ⟨shX11, by decide, fun _ _ _ _ => rfl⟩
theorem aX11_after : shL vR 42 21 := ⟨by decide, fun _ _ _ _ _ => rfl⟩
theorem fX11_facts : fI vR 0 60 11 RX11 TX11 65 fsX11 := ⟨shX11, by decide, fun _ _ _ _ => rfl⟩
theorem pwX11_facts : pI 60 TX11 65 fsX11 := ⟨rfl, rfl, fun _ _ _ _ _ => rfl⟩
theorem fX11_factSort : fA vR 0 61 11 RX11 TX11 65 fsX11 43 := ⟨shX11, by decide, fun _ _ _ _ => rfl⟩
theorem aX11_factSort : shI vR 43 0 60 := ⟨by decide, fun _ _ _ _ _ => rfl⟩
theorem fX11_factA : fA vR 0 62 11 RX11 TX11 65 fsX11 44 := ⟨shX11, by decide, fun _ _ _ _ => rfl⟩
theorem aX11_factA : shI vR 44 0 60 := ⟨by decide, fun _ _ _ _ _ => rfl⟩
theorem fX11_factB : fA vR 0 63 11 RX11 TX11 65 fsX11 45 := ⟨shX11, by decide, fun _ _ _ _ => rfl⟩
theorem aX11_factB : shI vR 45 0 60 := ⟨by decide, fun _ _ _ _ _ => rfl⟩
theorem fX11_isRight : fA vR 0 64 11 RX11 TX11 65 fsX11 46 := ⟨shX11, by decide, fun _ _ _ _ => rfl⟩
theorem aX11_isRight : shI vR 46 3 60 := ⟨by decide, fun _ _ _ _ _ => rfl⟩
