/-! holds -/
theorem isTrueOfR {A : Abs} {τ : gS} {p s : Nat} (ho : okA A) (h : RR A τ) (hp : p < aPn A) (hs : s < nSy (aTd A)) : ∃ τ', pX11_isTrueOf (nI s) (nI p) τ = some (b01 (upB A p (nI (aPt A p 0)) (6 + s)), τ') ∧ fr o334 τ τ' := by
  have hn := ho.2.1.1
  obtain ⟨s1, e1, f1, v1⟩ := looksAtR (pl := nI (aPt A p 0)) ho h hp
  obtain ⟨L, hL, hL2, hT⟩ := h.2.2.2.1
  have hT' := ho.2.2.2
  have h16 := hT'.1.2.1
  have hc := hT.2.2.2.2.1 s hs
  have hc1 : cnR s1 (26 * L + 6 + s) (cnd (aTd A) (6 + s)) := cnR_fr f1 (fun o k q1 q2 => by simp only [onO, beq_eq_false_iff_ne]; omega) hc
  obtain ⟨s2, e2, f2⟩ := holdsR (V := Vp A p (nI (aPt A p 0))) (ρ := 26 * L + 6 + s) (by omega) hc1 (hT'.2.2.2.2.1 s hs).2 v1
  have e18 : s1.1 0 18 = nI L := (fr_1 f1 rfl).trans hL2
  unfold pX11_isTrueOf
  rw [gx_i (by omega) (by decide), nI_clamp (by omega), (h.2.1.2 p hp).1, e1, bn1_s, e18, show (26 : Int32) * nI L + 6 + nI s = nI (26 * L + 6 + s) by rw [show (26 : Int32) = nI 26 from rfl, show (6 : Int32) = nI 6 from rfl, nI_mulS, nI_add, nI_add], e2, bn2_s, b01_a]
  exact ⟨s2, rfl, fr_tr (o334_3 f1) (o334_4 f2)⟩
theorem trueOfC {A : Abs} {σ : gS} {p : Nat} (ho : okA A) (h : RC A σ) (hp : p < aPn A) : ∃ σ', pX4_trueOf (nI p) σ = some (bitsN (fun k => upB A p (nI (aPt A p 0)) (6 + k)) (nSy (aTd A)), σ') ∧ fr scC σ σ' := by
  obtain ⟨s1, e1, f1, v1⟩ := setPersonC ho h hp
  have hR : RC A s1 := RC_fr f1 (fun o k q => o34_us q) h
  obtain ⟨r, r1, r2, r3, hC⟩ := hR.2.2.2.1
  obtain ⟨s3, e3, f3⟩ := bitsOfC (p := p) (pl := nI (aPt A p 0)) (b := 6) ho hR (Or.inr ⟨rfl, rfl⟩) v1
  unfold pX4_trueOf
  rw [e1, bn1_s, r2, gT_p r1, hC.1.2.1, show (6 : Int32) = nI 6 from rfl, e3, bn2_s]
  exact ⟨s3, rfl, fr_tr (fr_up (fun o k q => o34_sc q) f1) (fr_up (fun o k q => vfr_sc q) f3)⟩
theorem bt_1 : ∀ i, i < 32 → bt 1 i = decide (i = 0) := by decide +kernel
theorem bt_N {f : Nat → Bool} : ∀ {n i : Nat}, n ≤ 32 → i < 32 → bt (bitsN f n) i = (decide (i < n) && f i)
  | 0, i, _, _ => by
    show bt 0 i = _
    rw [b_0, decide_eq_false (by omega), Bool.false_and]
  | n + 1, i, hn, hi => by
    have ih := bt_N (f := f) (n := n) (i := i) (by omega) hi
    unfold bitsN
    cases hf : f n with
    | false =>
      rw [if_neg (by decide), ih]
      by_cases hc : i = n
      · subst hc; rw [hf, Bool.and_false, Bool.and_false]
      · rw [show decide (i < n + 1) = decide (i < n) from decide_eq_decide.mpr (by omega)]
    | true =>
      rw [if_pos rfl, b_or, ih, b_shl n (by omega) 1 hi, bt_1 _ (by omega)]
      by_cases hc : i = n
      · subst hc
        rw [hf]
        simp
      · have e : decide (i - n = 0) = decide (i ≤ n) := decide_eq_decide.mpr (by omega)
        rw [e, show decide (i < n + 1) = decide (i < n) from decide_eq_decide.mpr (by omega)]
        by_cases h2 : n ≤ i
        · rw [show decide (i ≤ n) = false from decide_eq_false (by omega), Bool.and_false, Bool.or_false]
        · rw [show decide (n ≤ i) = false from decide_eq_false h2, Bool.false_and, Bool.or_false]
theorem bitOfN {f : Nat → Bool} {n s : Nat} (hn : n ≤ 32) (hs : s < n) : pX10_bitOf (bitsN f n) (nI s) = some (b01 (f s)) := by
  unfold pX10_bitOf ushrI
  congr 1
  apply b_ext
  intro i hi
  rw [b_and, b_ushr s (by omega), bt_1 i hi]
  have hb : bt (b01 (f s)) i = (decide (i = 0) && f s) := by
    cases f s with
    | false => rw [b01_f, b_0, Bool.and_false]
    | true => rw [b01_t, bt_1 i hi, Bool.and_true]
  rw [hb]
  by_cases h0 : i = 0
  · subst h0
    rw [Nat.add_zero, bt_N hn (by omega), decide_eq_true hs]
    simp
  · rw [decide_eq_false h0, Bool.and_false, Bool.false_and]
theorem h_10 {a1 a2 a3 a4 a5 : Int32} {u : gS × gS} (hu : Inv u) : ∃ t, q10 a1 a2 a3 a4 a5 u = some (.inl t) ∧ Inv t := by
  obtain ⟨A, ho, h1, h2⟩ := hu
  have hn := ho.2.1.1
  have h16 := ho.2.2.2.1.2.1
  have no : Inv (u.1, u.2) := ⟨A, ho, h1, h2⟩
  suffices hs : ∃ v s1 s2, pX10_holds a1 a2 u.1 = some (v, s1) ∧ pX11_holds a1 a2 u.2 = some (v, s2) ∧ Inv (s1, s2) by
    obtain ⟨v, s1, s2, e1, e2, e3⟩ := hs
    refine ⟨(s1, s2), ?_, e3⟩
    unfold q10
    rw [e1, bn2_s, e2, bn2_s, if_pos rfl]
  unfold pX10_holds pX11_holds
  rw [isSyC ho h1, isSyR ho h2, hasC ho h1, isPR ho h2]
  simp only [bn1_s]
  by_cases hx : ixB (nSy (aTd A)) a1 = true
  case neg =>
    have hx' : ixB (nSy (aTd A)) a1 = false := by simpa using hx
    simp only [hx', if_b0]
    exact ⟨-1, u.1, u.2, rfl, rfl, no⟩
  by_cases hy : ixB (aPn A) a2 = true
  case neg =>
    have hy' : ixB (aPn A) a2 = false := by simpa using hy
    simp only [hx, hy', if_b0, if_b1]
    exact ⟨-1, u.1, u.2, rfl, rfl, no⟩
  simp only [hx, hy, if_b1]
  obtain ⟨s, hs, rfl⟩ := ix_T (by omega) hx
  obtain ⟨p, hp, rfl⟩ := ix_T (by omega) hy
  obtain ⟨s1, e1, f1⟩ := trueOfC ho h1 hp
  obtain ⟨s2, e2, f2⟩ := isTrueOfR ho h2 hp hs
  rw [e1, bn2_s, bitOfN (by omega) hs, bn1_s, e2, bn2_s]
  refine ⟨_, s1, s2, rfl, ?_, ask ho h1 h2 f1 (fr_up (fun o k q => o334_sc q) f2)⟩
  cases upB A p (nI (aPt A p 0)) (6 + s) <;> rfl
