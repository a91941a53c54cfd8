/-! signs -/
theorem h_7 {a1 a2 a3 a4 a5 : Int32} {u : gS × gS} (hu : Inv u) : ∃ t, q7 a1 a2 a3 a4 a5 u = some (.inl t) ∧ Inv t := by
  obtain ⟨A, ho, h1, h2⟩ := hu
  have hn := ho.2.1.1
  have no : Inv (u.1, u.2) := ⟨A, ho, h1, h2⟩
  suffices hs : ∃ v s1 s2, pX10_signs a1 a2 u.1 = some (v, s1) ∧ pX11_signs a1 a2 u.2 = some (v, s2) ∧ Inv (s1, s2) by
    obtain ⟨v, s1, s2, e1, e2, e3⟩ := hs
    refine ⟨(s1, s2), ?_, e3⟩
    unfold q7
    rw [e1, bn2_s, e2, bn2_s, if_pos rfl]
  unfold pX10_signs pX11_signs
  rw [hasC ho h1, isPR ho h2, bn1_s, bn1_s]
  by_cases hx : ixB (aPn A) a1 = true
  case neg =>
    have hx' : ixB (aPn A) a1 = false := by simpa using hx
    rw [hx', if_b0, if_b0]
    exact ⟨-1, u.1, u.2, rfl, rfl, no⟩
  rw [hx, if_b1, if_b1]
  obtain ⟨p, hp, rfl⟩ := ix_T (by omega) hx
  have main : ∀ pl : Int32, ∃ v s1 s2, bn2 (pX4_upAt (nI p) pl u.1) (fun v s => some (v, s)) = some (v, s1) ∧ bn2 (pX11_signsOf (nI p) pl u.2) (fun v s => some (v, s)) = some (v, s2) ∧ Inv (s1, s2) := by
    intro pl
    obtain ⟨s1, e1, f1⟩ := upAtC (pl := pl) ho h1 hp
    obtain ⟨s2, e2, f2⟩ := signsOfR (pl := pl) ho h2 hp
    exact ⟨_, s1, s2, by rw [e1, bn2_s], by rw [e2, bn2_s], ask ho h1 h2 f1 (fr_up (fun o k q => o334_sc q) f2)⟩
  rw [inR, bn1_s]
  by_cases hm : a2 = -1
  · rw [if_pos (show (-1 : Int32) ≤ a2 ∧ a2 ≤ 59 by rw [hm]; decide), if_10, if_pos hm, if_pos hm, bnS_l, if_pos hm, show (0 : Int32) = nI 0 from rfl, traitC ho h1 hp (by decide), bn1_s, gx_i (by omega) (by decide), nI_clamp (by omega), (h2.2.1.2 p hp).1]
    exact main _
  · rw [if_neg hm, if_neg hm, if_neg hm, inRR, bn1_s]
    by_cases hr : (0 : Int32) ≤ a2 ∧ a2 ≤ 59
    · rw [if_pos hr, if_10, bnS_l, if_pos (show (-1 : Int32) ≤ a2 ∧ a2 ≤ 59 from ⟨by
        have := hr.1
        rw [fa_le] at this ⊢
        exact Int.le_trans (by decide) this, hr.2⟩), if_10]
      exact main _
    · have hr2 : ¬ ((-1 : Int32) ≤ a2 ∧ a2 ≤ 59) := fun q => hr ⟨by
        have q1 := q.1
        rw [fa_le] at q1 ⊢
        have q2 : a2.toInt ≠ (-1 : Int32).toInt := fun z => hm (Int32.toInt_inj.mp z)
        have e1 : (-1 : Int32).toInt = -1 := by decide
        have e0 : (0 : Int32).toInt = 0 := by decide
        rw [e1] at q1 q2
        rw [e0]
        omega, q.2⟩
      rw [if_neg hr, if_neg hr2, if_00, if_00, bnS_r]
      exact ⟨-1, u.1, u.2, rfl, rfl, no⟩
