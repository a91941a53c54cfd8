theorem tT1 {w : Cond} (i : Nat) (h : tables_1_1[i]? = some w) : w ∈ lw_tbl := List.mem_append_right _ ((List.mem_append_left _ (List.mem_of_getElem? h)))
theorem tT2 {w : Cond} (i : Nat) (h : tables_1_2[i]? = some w) : w ∈ lw_tbl := List.mem_append_right _ (List.mem_append_right _ ((List.mem_append_left _ (List.mem_of_getElem? h))))
theorem tT3 {w : Cond} (i : Nat) (h : tables_1_3[i]? = some w) : w ∈ lw_tbl := List.mem_append_right _ (List.mem_append_right _ (List.mem_append_right _ ((List.mem_append_left _ (List.mem_of_getElem? h)))))
theorem tT4 {w : Cond} (i : Nat) (h : tables_1_4[i]? = some w) : w ∈ lw_tbl := List.mem_append_right _ (List.mem_append_right _ (List.mem_append_right _ (List.mem_append_right _ ((List.mem_append_left _ (List.mem_of_getElem? h))))))
theorem tT5 {w : Cond} (i : Nat) (h : tables_1_5[i]? = some w) : w ∈ lw_tbl := List.mem_append_right _ (List.mem_append_right _ (List.mem_append_right _ (List.mem_append_right _ (List.mem_append_right _ ((List.mem_append_left _ (List.mem_of_getElem? h)))))))
theorem tT6 {w : Cond} (i : Nat) (h : tables_1_6[i]? = some w) : w ∈ lw_tbl := List.mem_append_right _ (List.mem_append_right _ (List.mem_append_right _ (List.mem_append_right _ (List.mem_append_right _ (List.mem_append_right _ ((List.mem_append_left _ (List.mem_of_getElem? h))))))))
theorem tT7 {w : Cond} (i : Nat) (h : tables_1_7[i]? = some w) : w ∈ lw_tbl := List.mem_append_right _ (List.mem_append_right _ (List.mem_append_right _ (List.mem_append_right _ (List.mem_append_right _ (List.mem_append_right _ (List.mem_append_right _ ((List.mem_of_getElem? h))))))))
theorem si_X0 : (Cond.instantiable "SkyTrial$Chance" (5 : Nat)) ∈ gTBL := tIn2 90 (by decide +kernel) rfl
theorem si_X1 : (Cond.instantiable "SkyTrial$Facts" (5 : Nat)) ∈ gTBL := tIn2 65 (by decide +kernel) rfl
theorem si_X2 : (Cond.instantiable "SkyTrial$People" (2 : Nat)) ∈ gTBL := tIn2 3 (by decide +kernel) rfl
theorem si_X3 : (Cond.instantiable "SkyTrial$Reckoner" (3 : Nat)) ∈ gTBL := tIn2 26 (by decide +kernel) rfl
theorem si_X4 : (Cond.instantiable "SkyTrial$Sky" (6 : Nat)) ∈ gTBL := tIn2 18 (by decide +kernel) rfl
theorem si_X5 : (Cond.instantiable "SkyTrial$Table" (4 : Nat)) ∈ gTBL := tIn2 112 (by decide +kernel) rfl
theorem si_X6 : (Cond.instantiable "SkyTrial$Tape" (2 : Nat)) ∈ gTBL := tIn1 30 (by decide +kernel) rfl
theorem si_X7 : (Cond.instantiable "SkyTrial$TextReader" (14 : Nat)) ∈ gTBL := tIn1 45 (by decide +kernel) rfl
theorem si_X8 : (Cond.instantiable "SkyTrial$Tokens" (5 : Nat)) ∈ gTBL := tIn1 51 (by decide +kernel) rfl
theorem si_X9 : (Cond.instantiable "SkyTrial$Told" (14 : Nat)) ∈ gTBL := tIn1 131 (by decide +kernel) rfl
theorem si_X10 : (Cond.instantiable "SkyTrial" (7 : Nat)) ∈ gTBL := tIn1 22 (by decide +kernel) rfl
theorem si_X11 : (Cond.instantiable "SkyTrialModel" (65 : Nat)) ∈ gTBL := tIn5 71 (by decide +kernel) rfl
theorem sa_int : (Cond.arrayClass Jvm.ClassFile.FieldType.int) ∈ gTBL := tIn1 43 (by decide +kernel) rfl
theorem sa_long : (Cond.arrayClass Jvm.ClassFile.FieldType.long) ∈ gTBL := tIn1 128 (by decide +kernel) rfl
theorem sa_byte : (Cond.arrayClass Jvm.ClassFile.FieldType.byte) ∈ gTBL := tIn1 129 (by decide +kernel) rfl
theorem sa_boolean : (Cond.arrayClass Jvm.ClassFile.FieldType.boolean) ∈ gTBL := tIn2 88 (by decide +kernel) rfl
theorem sl_ts : (Cond.laysStatic "SkyTrial" "TRAIT_SIZES" "[I") ∈ lw_tbl := tT3 120 (by decide +kernel)
theorem sl_cs : (Cond.laysStatic "java/lang/String" "COMPACT_STRINGS" "Z") ∈ lw_tbl := tT1 66 (by decide +kernel)
theorem sl_fm : (Cond.laysStatic "jdk/internal/util/Preconditions" "SIOOBE_FORMATTER" "Ljava/util/function/BiFunction;") ∈ lw_tbl := tT1 82 (by decide +kernel)
theorem sn_sky : (Cond.initialized "SkyTrial") ∈ gTBL := tIn1 1 (by decide +kernel) rfl
theorem sn_str : (Cond.initialized "java/lang/String") ∈ gTBL := tIn1 5 (by decide +kernel) rfl
theorem sn_pre : (Cond.initialized "jdk/internal/util/Preconditions") ∈ gTBL := tIn1 7 (by decide +kernel) rfl
theorem sr_tk : (Cond.stringRef "SkyTrial$Tokens" (29 : Nat) "sign if say book when law or and not way minute month years coat true false all kind two sharp known age wrong ") ∈ lw_tbl := tT1 56 (by decide +kernel)
/-! THE LAW'S START: what the Statement gives, the two objects made, the loop -/
theorem st_arr {s : State} {args : Array Value} {ty : FieldType} (h : (Cond.arrayClass ty).before args s = true) : ∃ cA : ClassId, ArrOfT s cA ty ∧ s.vm.findClass ("[" ++ ty.toString) = some cA := by
  obtain ⟨cA, kA, comp, h1, h2, h3⟩ := Cond.arrayClass_spec h
  exact ⟨cA, fun n z => ⟨fun k h => (by cases h), kA, h2, comp, h3⟩, h1⟩
theorem st_cls {s : State} {args : Array Value} (hts : ∀ w ∈ gTBL, w.before args s = true) : ∃ D : va_G, ∀ (k : Nat) (q : vw_C), vwCl[k]? = some q → u_Kn s q.1 q.2.1 q.2.2 (D.1 k) (D.2 k) := by
  have key : ∀ k : Nat, ∃ d : ClassId × (Nat → Nat), ∀ q : vw_C, vwCl[k]? = some q → u_Kn s q.1 q.2.1 q.2.2 d.1 d.2 := by
    intro k
    match k with
    | 0 => obtain ⟨c, i, h⟩ := u_known (C := RX0) (T := TX0) (N := 5) (n := 5) hts uwX0 (hts _ si_X0); exact ⟨(c, i), fun q hq => by cases hq; exact h⟩
    | 1 => obtain ⟨c, i, h⟩ := u_known (C := RX1) (T := TX1) (N := 5) (n := 5) hts uwX1 (hts _ si_X1); exact ⟨(c, i), fun q hq => by cases hq; exact h⟩
    | 2 => obtain ⟨c, i, h⟩ := u_known (C := RX2) (T := TX2) (N := 2) (n := 2) hts uwX2 (hts _ si_X2); exact ⟨(c, i), fun q hq => by cases hq; exact h⟩
    | 3 => obtain ⟨c, i, h⟩ := u_known (C := RX3) (T := TX3) (N := 3) (n := 3) hts uwX3 (hts _ si_X3); exact ⟨(c, i), fun q hq => by cases hq; exact h⟩
    | 4 => obtain ⟨c, i, h⟩ := u_known (C := RX4) (T := TX4) (N := 6) (n := 6) hts uwX4 (hts _ si_X4); exact ⟨(c, i), fun q hq => by cases hq; exact h⟩
    | 5 => obtain ⟨c, i, h⟩ := u_known (C := RX5) (T := TX5) (N := 4) (n := 4) hts uwX5 (hts _ si_X5); exact ⟨(c, i), fun q hq => by cases hq; exact h⟩
    | 6 => obtain ⟨c, i, h⟩ := u_known (C := RX6) (T := TX6) (N := 2) (n := 2) hts uwX6 (hts _ si_X6); exact ⟨(c, i), fun q hq => by cases hq; exact h⟩
    | 7 => obtain ⟨c, i, h⟩ := u_known (C := RX7) (T := TX7) (N := 14) (n := 14) hts uwX7 (hts _ si_X7); exact ⟨(c, i), fun q hq => by cases hq; exact h⟩
    | 8 => obtain ⟨c, i, h⟩ := u_known (C := RX8) (T := TX8) (N := 5) (n := 5) hts uwX8 (hts _ si_X8); exact ⟨(c, i), fun q hq => by cases hq; exact h⟩
    | 9 => obtain ⟨c, i, h⟩ := u_known (C := RX9) (T := TX9) (N := 14) (n := 14) hts uwX9 (hts _ si_X9); exact ⟨(c, i), fun q hq => by cases hq; exact h⟩
    | 10 => obtain ⟨c, i, h⟩ := u_known (C := RX10) (T := TX10) (N := 7) (n := 7) hts uwX10 (hts _ si_X10); exact ⟨(c, i), fun q hq => by cases hq; exact h⟩
    | 11 => obtain ⟨c, i, h⟩ := u_known (C := RX11) (T := TX11) (N := 65) (n := 65) hts uwX11 (hts _ si_X11); exact ⟨(c, i), fun q hq => by cases hq; exact h⟩
    | k + 12 => exact ⟨(0, fun _ => 0), fun q hq => by simp [vwCl] at hq⟩
  exact ⟨(fun k => (Classical.choose (key k)).1, fun k => (Classical.choose (key k)).2), fun k q hq => Classical.choose_spec (key k) q hq⟩
theorem sf_arr : Cond.arrayOf (.static "SkyTrial" "TRAIT_SIZES" "[I") .int ∈ flatC (Jvm.Cond.and given_1 narrow_1) := by decide +kernel
theorem sf_len : Cond.eq (.length (.static "SkyTrial" "TRAIT_SIZES" "[I")) (.int (Int32.ofNat 12)) ∈ flatC (Jvm.Cond.and given_1 narrow_1) := by decide +kernel
theorem sf_el : ∀ j, j < 12 → Cond.eq (.elem (.static "SkyTrial" "TRAIT_SIZES" "[I") (.int (Int32.ofNat j))) (.int (gTS j)) ∈ flatC (Jvm.Cond.and given_1 narrow_1) := by decide +kernel
theorem sf_cs : Cond.eq (.static "java/lang/String" "COMPACT_STRINGS" "Z") (.int 1) ∈ flatC (Jvm.Cond.and given_1 narrow_1) := by decide +kernel
theorem sf_fm : Cond.isRef (.static "jdk/internal/util/Preconditions" "SIOOBE_FORMATTER" "Ljava/util/function/BiFunction;") ∈ flatC (Jvm.Cond.and given_1 narrow_1) := by decide +kernel
theorem sf_ex : Cond.exactly (.string "SkyTrial$Tokens" 29) "java/lang/String" ∈ flatC (Jvm.Cond.and given_1 narrow_1) := by decide +kernel
theorem sf_co : Cond.eq (.field (.string "SkyTrial$Tokens" 29) "java/lang/String" "coder" "B") (.int 0) ∈ flatC (Jvm.Cond.and given_1 narrow_1) := by decide +kernel
theorem sf_ar : Cond.arrayOf (.field (.string "SkyTrial$Tokens" 29) "java/lang/String" "value" "[B") .byte ∈ flatC (Jvm.Cond.and given_1 narrow_1) := by decide +kernel
theorem sf_le : Cond.eq (.length (.field (.string "SkyTrial$Tokens" 29) "java/lang/String" "value" "[B")) (.int (Int32.ofNat 111)) ∈ flatC (Jvm.Cond.and given_1 narrow_1) := by decide +kernel
theorem sf_sel : ∀ j, j < 111 → Cond.eq (.elem (.field (.string "SkyTrial$Tokens" 29) "java/lang/String" "value" "[B") (.int (Int32.ofNat j))) (.int (gBY j)) ∈ flatC (Jvm.Cond.and given_1 narrow_1) := by decide +kernel
theorem st_by {j : Nat} (hj : j < 111) : (([(List.range 111).map gBY] : List (List Int32)).getD 0 []).getD j 0 = gBY j := by
  show ((List.range 111).map gBY).getD j 0 = gBY j
  rw [List.getD_eq_getElem?_getD, List.getElem?_map, List.getElem?_range hj]
  rfl
set_option maxRecDepth 100000 in
theorem st_gK {p : Program} {s : State} {m : MethodId} {meth : Method} {c : Code} {B L : Nat} {xs : Nat → Int32} (C0 : lw_At p s m meth c B L xs) : ∃ G : gG, gK G s.heap.size s s.heap := by
  obtain ⟨hx, hb, hr, hml, hown, hts, hX, hbl, hlocks, hgv⟩ := C0
  have hts1 : ∀ w ∈ gTBL, w.before #[Value.ref B] s = true := fun w hw => hts w (List.mem_filter.mp hw).1
  have hs := flat_of_before _ hgv
  have hA : ∀ a : Nat, a < s.heap.size → ¬ (fun q => s.heap.size ≤ q) a := fun a h => Nat.not_le.mpr h
  obtain ⟨D, hD⟩ := st_cls hts1
  obtain ⟨c0, i0, j0⟩ := st_arr (hts1 _ sa_int)
  obtain ⟨c1, i1, j1⟩ := st_arr (hts1 _ sa_long)
  obtain ⟨c2, i2, j2⟩ := st_arr (hts1 _ sa_byte)
  obtain ⟨c3, i3, j3⟩ := st_arr (hts1 _ sa_boolean)
  obtain ⟨ts, ht1, ht2⟩ := va_Tof (f := fun j => .int (gTS j)) (A := fun q => s.heap.size ≤ q) (N := 12) (by decide) (hs _ sf_arr) (va_eqt (hs _ sf_len)) (fun j hj => va_eqt (hs _ (sf_el j hj))) hA
  have hz := va_Zref (hts _ sl_ts) (hts1 _ sn_sky) ht1 hA
  have hcs := va_Zof (hts _ sl_cs) (hts1 _ sn_str) (va_eqt (hs _ sf_cs)) hA
  have hfm : ∃ v : Value, va_Z "jdk/internal/util/Preconditions" "SIOOBE_FORMATTER" "Ljava/util/function/BiFunction;" v (fun q => s.heap.size ≤ q) s s.heap ∧ (v = .null ∨ ∃ a : Nat, v = .ref a) := by
    rcases va_Zqof (A := fun q => s.heap.size ≤ q) (hts _ sl_fm) (hts1 _ sn_pre) (hs _ sf_fm) hA with h | ⟨t, h⟩
    · exact ⟨_, h, Or.inl rfl⟩
    · exact ⟨_, h, Or.inr ⟨t, rfl⟩⟩
  obtain ⟨fv, hf1, hf2⟩ := hfm
  obtain ⟨adK, adV, hS1, hS2⟩ := vk_Sof (N := 1) (tm := fun _ => (.string "SkyTrial$Tokens" 29)) (len := [111]) (byt := [(List.range 111).map gBY]) (A := fun q => s.heap.size ≤ q) (args := #[Value.ref B]) (s := s) (fun i hi => by rw [show i = 0 by omega]; decide) (fun _ _ => hs _ sf_ex) (fun _ _ => hs _ sf_co) (fun _ _ => hs _ sf_ar) (fun i hi => by rw [show i = 0 by omega]; exact hs _ sf_le) (fun i hi j hj => by
      obtain rfl : i = 0 := by omega
      have hj' : j < 111 := hj
      rw [st_by hj']
      exact hs _ (sf_sel j hj')) (fun i j hi hj hne => by omega) hA
  obtain ⟨q1, q2, q3, q4⟩ := hS1.1 0 (by decide)
  have hvk : vk_R "SkyTrial$Tokens" 29 gTX (adK 0) s := vk_R.of (hts _ sr_tk) (hS2 0 (by decide))
  have hT4 : va_T .byte (adV 0) 111 (fun j => .int (gBY j)) (fun q => s.heap.size ≤ q) s s.heap := by
    obtain ⟨cell, g1, g2, g3, g4, g5, g6, g7⟩ := q4
    refine ⟨cell, g1, g2, g3, g4, g5, fun j hj => ?_, g7⟩
    rw [g6 j hj]
    show some (Value.int _) = some (Value.int _)
    rw [st_by hj]
  have hty : ∀ (k : Nat) (q : ClassId × FieldType), ([(c0, .int), (c1, .long), (c2, .byte), (c3, .boolean)] : List (ClassId × FieldType))[k]? = some q → ArrOfT s q.1 q.2 ∧ va_RA s q.1 q.2 := by
    intro k q hq
    match k, hq with
    | 0, hq => cases hq; exact ⟨i0, j0⟩
    | 1, hq => cases hq; exact ⟨i1, j1⟩
    | 2, hq => cases hq; exact ⟨i2, j2⟩
    | 3, hq => cases hq; exact ⟨i3, j3⟩
    | k + 4, hq => simp at hq
  have hnw : ∀ w ∈ gNest, va_Nw w s := by
    intro w hw
    have h9 := (List.mem_filter.mp hw)
    exact va_Nw.of (by have := h9.2; cases w <;> first | rfl | cases this) (hts w (List.mem_append_right _ h9.1))
  exact ⟨(D, fun t => if t = 0 then c0 else if t = 1 then c1 else if t = 2 then c2 else c3, ts, adK 0, adV 0, fv), ⟨hD, hty⟩, hnw, hz, ht2, hvk, q1, q2, q3, hT4, hcs, hf1, hf2⟩
