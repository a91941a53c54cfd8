/-! rounded -/
theorem g0_same {α : Type} {y : Int32} {X : Option α} (h : y ≠ 0) : g0 y X = X := g0_p h
theorem isStepC {v : Int32} : pX10_isStep v = some (b01 (decide ((2 : Int32) ≤ v ∧ v ≤ 30))) := by
  unfold pX10_isStep
  rw [inR, bn1_s, in_b, b01_a]
theorem h_8 {a1 a2 a3 a4 a5 : Int32} {u : gS × gS} (hu : Inv u) : ∃ t, q8 a1 a2 a3 a4 a5 u = some (.inl t) ∧ Inv t := by
  obtain ⟨A, ho, h1, h2⟩ := hu
  have hn := ho.2.1.1
  have no : Inv (u.1, u.2) := ⟨A, ho, h1, h2⟩
  suffices hs : ∃ v s1 s2, pX10_rounded a1 a2 u.1 = some (v, s1) ∧ pX11_rounded a1 a2 u.2 = some (v, s2) ∧ Inv (s1, s2) by
    obtain ⟨v, s1, s2, e1, e2, e3⟩ := hs
    refine ⟨(s1, s2), ?_, e3⟩
    unfold q8
    rw [e1, bn2_s, e2, bn2_s, if_pos rfl]
  unfold pX10_rounded pX11_rounded
  rw [hasC ho h1, isPR ho h2, isStepC, inRR, in_b]
  simp only [bn1_s]
  by_cases hx : ixB (aPn A) a1 = true
  case neg =>
    have hx' : ixB (aPn A) a1 = false := by simpa using hx
    simp only [hx', if_b0]
    exact ⟨-1, u.1, u.2, rfl, rfl, no⟩
  by_cases hy : (2 : Int32) ≤ a2 ∧ a2 ≤ 30
  case neg =>
    simp only [hx, decide_eq_false hy, if_b0, if_b1]
    exact ⟨-1, u.1, u.2, rfl, rfl, no⟩
  obtain ⟨p, hp, rfl⟩ := ix_T (by omega) hx
  have ht := traitC (j := 0) ho h1 hp (by decide)
  simp only [show nI 0 = 0 from rfl] at ht
  have hr : ∃ m, pX10_roundedMinute (nI p) a2 u.1 = some m ∧ pX11_round (nI (aPt A p 0)) a2 = some m := by
    unfold pX10_roundedMinute pX11_round
    rw [isStepC, bn1_s, decide_eq_true hy, if_b1, ht, bn1_s]
    obtain ⟨k, k1, k2, rfl⟩ := in_T (a := 2) (c := 30) (by decide) (by decide) hy
    have n0 : (2 : Int32) * nI k ≠ 0 := fun q => by
      rw [show (2 : Int32) = nI 2 from rfl, nI_mulS] at q
      have := (nI_eq (b := 0) (by omega) (by decide)).mp q
      omega
    rw [g0_p n0, g0_p n0, lt_b, g0_p (show (60 : Int32) ≠ 0 by decide)]
    exact ⟨_, rfl, rfl⟩
  obtain ⟨m, m1, m2⟩ := hr
  simp only [hx, decide_eq_true hy, if_b1]
  obtain ⟨s1, e1, f1⟩ := upAtC (pl := m) ho h1 hp
  obtain ⟨s2, e2, f2⟩ := signsOfR (pl := m) ho h2 hp
  rw [m1, bn1_s, e1, bn2_s, gx_i (by omega) (by decide), nI_clamp (by omega), (h2.2.1.2 p hp).1, m2, bn1_s, e2, bn2_s]
  exact ⟨_, s1, s2, rfl, rfl, ask ho h1 h2 f1 (fr_up (fun o k q => o334_sc q) f2)⟩
