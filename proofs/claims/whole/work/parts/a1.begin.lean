/-! read: how it begins, both sides -/
theorem scan_un {σ : gS} : pX8_scan σ = bn1 (lpP scF (0, 1, 0, wI σ 4 3 0)) (fun z2 => some z2) := rfl
theorem cut_un {τ : gS} : pX11_cut τ = bnS (lpP ctF (0, wI τ 0 10 0)) (fun z2 => some z2) := rfl
def pfE (z5 : gS) : Option (Int32 × gS) := if (z5.1 3 6) = 0 then lt' (wI z5 3 6 (z5.1 3 8)) (fun s30 => lt' (wI s30 3 7 (s30.1 3 9)) (fun s31 => some (s31.1 3 6, s31))) else lt' (wI z5 3 7 (z5.1 3 5)) (fun s32 => some (s32.1 3 6, s32))
theorem parse_un {σ : gS} : pX7_parse σ = bn1 (pX8_scan σ) (fun s2 => bn1 (pX7_start s2) (fun s4 => bn1 (lpP prF (0, s4)) pfE)) := rfl
def rdE (z22 : gS) : Option (Int32 × gS) := bn1 (if (z22.1 0 13) ≤ 0 then if (z22.1 0 15) ≤ 0 then some (-1 : Int32) else some (z22.1 0 16) else some (z22.1 0 14)) (fun (z28 : Int32) => lt' (wI z22 0 17 z28) (fun s29 => if (s29.1 0 13) ≤ 0 then if (s29.1 0 15) ≤ 0 then lt' (wI s29 0 18 (s29.1 0 19)) (fun s30 => some ((0 : Int32), s30)) else some (s29.1 0 15, s29) else some (s29.1 0 13, s29)))
noncomputable def rdI (s8 : gS) : Option (Int32 × gS) := lt' (wI s8 0 11 (0 : Int32)) (fun s9 => lt' (wI s9 0 12 (0 : Int32)) (fun s10 => lt' (wI s10 0 13 (0 : Int32)) (fun s11 => lt' (wI s11 0 15 (0 : Int32)) (fun s12 => lt' (wI s12 0 19 ((1 : Int32) - (s12.1 0 18))) (fun s13 => lt' (wI s13 0 20 (0 : Int32)) (fun s14 => gx (s14.1 0 19) 2 (lt' (wI s14 11 (s14.1 0 19).toNatClampNeg (0 : Int32)) (fun s15 => gx (s15.1 0 19) 2 (lt' (wI s15 12 (s15.1 0 19).toNatClampNeg (0 : Int32)) (fun s16 => gx (s16.1 0 19) 2 (lt' (wI s16 13 (s16.1 0 19).toNatClampNeg (0 : Int32)) (fun s17 => gx (s17.1 0 19) 2 (lt' (wI s17 14 (s17.1 0 19).toNatClampNeg (0 : Int32)) (fun s18 => gx (s18.1 0 19) 2 (lt' (wI s18 16 (s18.1 0 19).toNatClampNeg (0 : Int32)) (fun s19 => lt' (wI s19 0 37 ((150 : Int32) * (s19.1 0 19))) (fun s20 => lt' (wI s20 0 44 ((420 : Int32) * (s20.1 0 19))) (fun s21 => bn1 (lpP rdLp s21) rdE))))))))))))))))))
theorem read_un {τ : gS} : pX11_read τ = bn1 (lpP cpF (0, wI τ 0 4 (τ.1 0 2))) (fun z2 => bn1 (pX11_cut (wI z2 0 2 0)) rdI) := rfl
def iniR (s : gS) (L : Nat) : gS := wI (wI (wI (wI (wI (wI (wI (wI (wI (wI (wI (wI (wI s 0 11 0) 0 12 0) 0 13 0) 0 15 0) 0 19 (nI L)) 0 20 0) 11 L 0) 12 L 0) 13 L 0) 14 L 0) 16 L 0) 0 37 (nI (150 * L))) 0 44 (nI (420 * L))
theorem rdI_go {s : gS} {M L : Nat} (h18 : s.1 0 18 = nI M) (hM : M < 2) (hL : L = 1 - M) : rdI s = bn1 (lpP rdLp (iniR s L)) rdE := by
  have k19 : ∀ (s : gS) (o j : Nat) (v : Int32), ¬ (o = 0 ∧ j = 19) → (wI s o j v).1 0 19 = s.1 0 19 := fun s o j v h => by rw [wI_1, if_neg (fun z => h ⟨z.1.symm, z.2.symm⟩)]
  have k18 : ∀ (s : gS) (o j : Nat) (v : Int32), ¬ (o = 0 ∧ j = 18) → (wI s o j v).1 0 18 = s.1 0 18 := fun s o j v h => by rw [wI_1, if_neg (fun z => h ⟨z.1.symm, z.2.symm⟩)]
  have e1 : (1 : Int32) - nI M = nI L := by
    rcases (show M = 0 ∨ M = 1 by omega) with rfl | rfl
    · subst hL; rfl
    · subst hL; rfl
  have hL2 : L < 2 := by omega
  unfold rdI iniR
  rw [lt_b, lt_b, lt_b, lt_b, k18 _ 0 15 _ (by omega), k18 _ 0 13 _ (by omega), k18 _ 0 12 _ (by omega), k18 _ 0 11 _ (by omega), h18, e1, lt_b, lt_b]
  generalize ea : wI (wI (wI (wI (wI (wI s 0 11 0) 0 12 0) 0 13 0) 0 15 0) 0 19 (nI L)) 0 20 0 = sa
  have g0 : sa.1 0 19 = nI L := by rw [← ea, k19 _ 0 20 _ (by omega), wI_s]
  have g1 : (wI sa 11 L 0).1 0 19 = nI L := by rw [k19 _ 11 _ _ (by omega), g0]
  have g2 : (wI (wI sa 11 L 0) 12 L 0).1 0 19 = nI L := by rw [k19 _ 12 _ _ (by omega), g1]
  have g3 : (wI (wI (wI sa 11 L 0) 12 L 0) 13 L 0).1 0 19 = nI L := by rw [k19 _ 13 _ _ (by omega), g2]
  have g4 : (wI (wI (wI (wI sa 11 L 0) 12 L 0) 13 L 0) 14 L 0).1 0 19 = nI L := by rw [k19 _ 14 _ _ (by omega), g3]
  have g5 : (wI (wI (wI (wI (wI sa 11 L 0) 12 L 0) 13 L 0) 14 L 0) 16 L 0).1 0 19 = nI L := by rw [k19 _ 16 _ _ (by omega), g4]
  have m1 : (150 : Int32) * nI L = nI (150 * L) := by rw [show (150 : Int32) = nI 150 from rfl, nI_mulS]
  have m2 : (420 : Int32) * nI L = nI (420 * L) := by rw [show (420 : Int32) = nI 420 from rfl, nI_mulS]
  rw [g0, gx_i hL2 (by decide), nI_clamp (by omega), lt_b, g1, gx_i hL2 (by decide), nI_clamp (by omega), lt_b, g2, gx_i hL2 (by decide), nI_clamp (by omega), lt_b, g3, gx_i hL2 (by decide), nI_clamp (by omega), lt_b, g4, gx_i hL2 (by decide), nI_clamp (by omega), lt_b, g5, m1, lt_b, k19 _ 0 37 _ (by omega), g5, m2, lt_b]
def clC (s : gS) (r : Nat) : gS := wI (wI (wI (wI (wI (wI s r 0 0) r 1 0) r 2 0) r 3 0) r 4 0) r 13 0
def iniC (s : gS) (r : Nat) (T : Int32) (v : Int64) (P : Int32) : gS := wI (wI (wI (wI (wI (wI (wL (wI (wI (clC s r) 3 2 0) 3 3 T) 3 4 v) 3 5 P) 3 6 0) 3 7 (-1)) 3 8 0) 3 9 (-1)) 3 13 0
theorem start_go {s : gS} {r : Nat} {T P : Int32} {v : Int64} (hr : tR r = true) (hd : s.2.2 3 1 = r) (h5 : s.1 5 0 = T) (h6 : s.1 6 0 = P) (h7 : s.2.1 7 0 = v) : pX7_start s = some (iniC s r T v P) := by
  have h9 := tR_9 hr
  have ec : pX9_clear r s = some (clC s r) := by
    unfold pX9_clear clC
    rw [lt_b, lt_b, lt_b, lt_b, lt_b, lt_b]
  have c1 : ∀ o j, o < 9 → (clC s r).1 o j = s.1 o j := fun o j ho => by
    unfold clC
    rw [wI_1, if_neg (by omega), wI_1, if_neg (by omega), wI_1, if_neg (by omega), wI_1, if_neg (by omega), wI_1, if_neg (by omega), wI_1, if_neg (by omega)]
  have g5 : (wI (clC s r) 3 2 0).1 5 0 = T := by rw [wI_1, if_neg (by omega), c1 5 0 (by omega), h5]
  have g7 : (wI (wI (clC s r) 3 2 0) 3 3 T).2.1 7 0 = v := h7
  have g6 : (wL (wI (wI (clC s r) 3 2 0) 3 3 T) 3 4 v).1 6 0 = P := by rw [wL_1, wI_1, if_neg (by omega), wI_1, if_neg (by omega), c1 6 0 (by omega), h6]
  unfold pX7_start iniC
  rw [hd, gT_p hr, ec, bn1_s, lt_b, show (0 : Int32) = nI 0 from rfl, gx_i (by decide) (by decide), nI_clamp (by decide)]
  rw [show (nI 0 : Int32) = 0 from rfl, g5, lt_b, show gx (0 : Int32) 401 = gx (nI 0) 401 from rfl, gx_i (by decide) (by decide), g7, lt_b, gx_i (by decide) (by decide), g6, lt_b, lt_b, lt_b, lt_b, lt_b, lt_b]
def Θ0 : Tld := ((0, 0, 0, 0, 0), fun _ => 0, fun _ => 0, fun _ => 0, fun _ => 0, fun _ => [], fun _ => [])
theorem iniC_o {s : gS} {r o j : Nat} {T P : Int32} {v : Int64} (h : o ≠ 3 ∧ o ≠ r) : (iniC s r T v P).1 o j = s.1 o j := by
  unfold iniC clC
  rw [wI_1, if_neg (by omega), wI_1, if_neg (by omega), wI_1, if_neg (by omega), wI_1, if_neg (by omega), wI_1, if_neg (by omega), wI_1, if_neg (by omega), wL_1, wI_1, if_neg (by omega), wI_1, if_neg (by omega), wI_1, if_neg (by omega), wI_1, if_neg (by omega), wI_1, if_neg (by omega), wI_1, if_neg (by omega), wI_1, if_neg (by omega), wI_1, if_neg (by omega)]
theorem iniC_r {s : gS} {r : Nat} {T P : Int32} {v : Int64} (hr : 9 ≤ r) : ((iniC s r T v P).1 r 0 = 0 ∧ (iniC s r T v P).1 r 1 = 0 ∧ (iniC s r T v P).1 r 2 = 0 ∧ (iniC s r T v P).1 r 3 = 0 ∧ (iniC s r T v P).1 r 4 = 0) ∧ (iniC s r T v P).1 r 13 = 0 := by
  have e : ∀ j, (iniC s r T v P).1 r j = (clC s r).1 r j := fun j => by
    unfold iniC
    rw [wI_1, if_neg (by omega), wI_1, if_neg (by omega), wI_1, if_neg (by omega), wI_1, if_neg (by omega), wI_1, if_neg (by omega), wI_1, if_neg (by omega), wL_1, wI_1, if_neg (by omega), wI_1, if_neg (by omega)]
  rw [e, e, e, e, e, e]
  unfold clC
  simp [wI_1]
theorem iniC_3 {s : gS} {r : Nat} {T P : Int32} {v : Int64} (hr : 9 ≤ r) : (iniC s r T v P).1 3 2 = 0 ∧ (iniC s r T v P).1 3 3 = T ∧ (iniC s r T v P).2.1 3 4 = v ∧ (iniC s r T v P).1 3 5 = P ∧ (iniC s r T v P).1 3 6 = 0 ∧ (iniC s r T v P).1 3 8 = 0 ∧ (iniC s r T v P).1 3 9 = -1 ∧ (iniC s r T v P).1 3 13 = 0 := by
  unfold iniC
  refine ⟨?_, ?_, ?_, ?_, ?_, ?_, ?_, ?_⟩
  · simp [wI_1, wL_1]
  · simp [wI_1, wL_1]
  · rw [wI_2, wI_2, wI_2, wI_2, wI_2, wI_2, wL_s]
  · simp [wI_1]
  · simp [wI_1]
  · simp [wI_1]
  · simp [wI_1]
  · simp [wI_1]
theorem iniR_o {s : gS} {L o j : Nat} (h : ¬ (o = 0 ∧ (j = 11 ∨ j = 12 ∨ j = 13 ∨ j = 15 ∨ j = 19 ∨ j = 20 ∨ j = 37 ∨ j = 44)) ∧ ¬ (11 ≤ o ∧ o ≤ 16 ∧ o ≠ 15 ∧ j = L)) : (iniR s L).1 o j = s.1 o j := by
  unfold iniR
  rw [wI_1, if_neg (by omega), wI_1, if_neg (by omega), wI_1, if_neg (by omega), wI_1, if_neg (by omega), wI_1, if_neg (by omega), wI_1, if_neg (by omega), wI_1, if_neg (by omega), wI_1, if_neg (by omega), wI_1, if_neg (by omega), wI_1, if_neg (by omega), wI_1, if_neg (by omega), wI_1, if_neg (by omega), wI_1, if_neg (by omega)]
theorem iniR_0 {s : gS} {L : Nat} : ((iniR s L).1 0 11 = 0 ∧ (iniR s L).1 0 12 = 0 ∧ (iniR s L).1 0 13 = 0 ∧ (iniR s L).1 0 15 = 0 ∧ (iniR s L).1 0 19 = nI L ∧ (iniR s L).1 0 20 = 0 ∧ (iniR s L).1 0 37 = nI (150 * L) ∧ (iniR s L).1 0 44 = nI (420 * L)) ∧ (iniR s L).1 11 L = 0 ∧ (iniR s L).1 12 L = 0 ∧ (iniR s L).1 13 L = 0 ∧ (iniR s L).1 14 L = 0 ∧ (iniR s L).1 16 L = 0 := by
  unfold iniR
  refine ⟨⟨?_, ?_, ?_, ?_, ?_, ?_, ?_, ?_⟩, ?_, ?_, ?_, ?_, ?_⟩ <;> simp [wI_1]
section BEGIN
variable {N : Nat} {tk pl : Nat → Nat} {vl : Nat → Int64} {r L : Nat}
theorem MX_begin (hT : TkOK N tk pl) (hr : tR r = true) {σ τ : gS} (hd : σ.2.2 3 1 = r) (hc : tkC tk pl vl N σ) (hq : tkQ tk pl vl N τ) : MX N tk pl vl r L 0 [] [] [] Θ0 [] [] (iniC σ r (nI (tk 0)) (vl 0) (nI (pl 0))) (iniR τ L) := by
  have h9 := tR_9 hr
  obtain ⟨⟨a0, a1, a2, a3, a4⟩, a13⟩ := iniC_r (s := σ) (r := r) (T := nI (tk 0)) (P := nI (pl 0)) (v := vl 0) h9.1
  obtain ⟨b2, b3, b4, b5, b6, b8, b9, b13⟩ := iniC_3 (s := σ) (r := r) (T := nI (tk 0)) (P := nI (pl 0)) (v := vl 0) h9.1
  obtain ⟨⟨c11, c12, c13, c15, c19, c20, c37, c44⟩, d11, d12, d13, d14, d16⟩ := iniR_0 (s := τ) (L := L)
  have n0 : ∀ {P : Nat → Prop} (k : Nat), k < 0 → P k := fun k h => absurd h (Nat.not_lt_zero k)
  have ne : ∀ {α : Type} {P : Nat → α → Prop} (i : Nat) (x : α), ([] : List α)[i]? = some x → P i x := fun i x h => absurd h (by simp)
  refine ⟨⟨⟨hT.1, b2, b3, b4, b5, b6, fun i hi => ?_⟩, ⟨c11, c13, fun i hi => ?_⟩, hd, ⟨a13, fun i q e => absurd e (by simp)⟩, ⟨c44, fun i q e => absurd e (by simp)⟩, c12, Or.inl ⟨b8, b9, c15⟩, Nat.le_refl _, Nat.le_refl _⟩, ⟨c37, fun i x e => absurd e (by simp)⟩, Nat.le_refl _, ⟨⟨Nat.zero_le _, Nat.zero_le _, Nat.zero_le _, Nat.zero_le _, Nat.zero_le _⟩, ⟨a0, a1, a2, a3, a4⟩, d11, d12, d13, d16, d14⟩, c19, c20, ⟨0, Nat.zero_le _, b13⟩, fun _ => ⟨⟨fun j hj => absurd hj (Nat.not_lt_zero j), fun j hj => absurd hj (Nat.not_lt_zero j), fun j hj => absurd hj (Nat.not_lt_zero j), fun j hj => absurd hj (Nat.not_lt_zero j), fun j hj => absurd hj (Nat.not_lt_zero j)⟩, ⟨b13, fun i x e => absurd e (by simp)⟩, ⟨Nat.zero_le _, c20, fun i x e => absurd e (by simp)⟩, fun i j x y e => absurd e (by simp), fun x hx => absurd hx (by simp)⟩⟩
  · obtain ⟨y1, y2, y3⟩ := hc i hi
    exact ⟨(iniC_o (by omega)).trans y1, (iniC_o (by omega)).trans y2, by
      unfold iniC clC
      rw [wI_2, wI_2, wI_2, wI_2, wI_2, wI_2, wL_2, if_neg (by omega)]
      exact y3⟩
  · obtain ⟨y1, y2, y3, y4⟩ := hq i hi
    refine ⟨(iniR_o (by omega)).trans y1, (iniR_o (by omega)).trans y2, fun q => ?_, y4⟩
    obtain ⟨x, x1, x2, x3⟩ := y3 q
    exact ⟨x, x1, x2, (iniR_o ⟨fun z => absurd z.1 (by decide), fun z => absurd z.1 (by decide)⟩).trans x3⟩
end BEGIN
def rw2 (o _j : Nat) : Bool := o == 2
theorem cp_go {n : Nat} {b : Nat → Nat} {τ : gS} (hn : n ≤ 2000) (h4 : τ.1 0 4 = nI n) (h1 : ∀ i, i < n → τ.1 1 i &&& 255 = nI (b i)) : ∃ t, lpP cpF (0, τ) = some t ∧ fr rw2 τ t ∧ ∀ i, i < n → t.1 2 i &&& 255 = nI (b i) := by
  refine lp_cnt (I := fun i s => ∃ t, s = (nI i, t) ∧ fr rw2 τ t ∧ ∀ j, j < i → t.1 2 j &&& 255 = nI (b j)) n (Post := fun t => fr rw2 τ t ∧ ∀ i, i < n → t.1 2 i &&& 255 = nI (b i)) (fun i s hi hI => ?_) (fun s hI => ?_) (k := 0) (Nat.zero_le n) ⟨τ, rfl, fr_rf, fun j hj => absurd hj (Nat.not_lt_zero j)⟩
  · obtain ⟨t, rfl, f, g⟩ := hI
    have e4 : t.1 0 4 = nI n := (fr_1 f rfl).trans h4
    have e1 : t.1 1 i = τ.1 1 i := fr_1 f rfl
    refine ⟨(nI (i + 1), wI t 2 i (t.1 1 i).toInt8.toInt32), ?_, _, rfl, fr_tr f (fr_wI rfl), fun j hj => ?_⟩
    · unfold cpF
      dsimp only
      rw [e4, if_neg (show ¬ nI n ≤ nI i from nI_ge hi (by omega)), gx_i (by omega) (by decide), gx_i (by omega) (by decide), nI_clamp (by omega), lt_b, lt_b, nI_1]
    · rw [wI_1]
      by_cases c : j = i
      · rw [if_pos ⟨rfl, c⟩, bp_b, e1, c]
        exact h1 i hi
      · rw [if_neg (fun z => c z.2)]
        exact g j (by omega)
  · obtain ⟨t, rfl, f, g⟩ := hI
    have e4 : t.1 0 4 = nI n := (fr_1 f rfl).trans h4
    refine ⟨t, ?_, f, g⟩
    unfold cpF
    dsimp only
    rw [e4, if_pos (Int32.le_refl _)]
