/-! paper -/
theorem upNowC {A : Abs} {σ : gS} {p : Nat} (ho : okA A) (h : RC A σ) (hp : p < aPn A) : ∃ σ', pX4_upNow (nI p) σ = some (bitsN (upB A p (nI (aPt A p 0))) (nSg (aTd A)), σ') ∧ fr scC σ σ' := by
  obtain ⟨s1, e1, f1⟩ := upAtC (pl := nI (aPt A p 0)) ho h hp
  unfold pX4_upNow
  rw [show (0 : Int32) = nI 0 from rfl, traitC ho h hp (by decide), bn1_s, e1, bn2_s]
  exact ⟨s1, rfl, f1⟩
theorem paperOfR {A : Abs} {τ : gS} {p b : Nat} (ho : okA A) (h : RR A τ) (hp : p < aPn A) (hb : b < 4) : ∃ τ', pX11_paperOf (nI b) (nI p) τ = some (ppN A b (upB A p (nI (aPt A p 0))) (nWh (aTd A)), τ') ∧ fr scR τ τ' := by
  have hn := ho.2.1.1
  obtain ⟨s2, e2, f2⟩ := signsOfR (pl := nI (aPt A p 0)) ho h hp
  have f3 : fr scR τ s2 := fr_up (fun o k q => o334_sc q) f2
  unfold pX11_paperOf
  rw [gx_i (by omega) (by decide), nI_clamp (by omega), (h.2.1.2 p hp).1, e2, bn2_s, paperR ho (RR_sc f3 h) hb, bn1_s]
  exact ⟨s2, rfl, f3⟩
theorem h_12 {a1 a2 a3 a4 a5 : Int32} {u : gS × gS} (hu : Inv u) : ∃ t, q12 a1 a2 a3 a4 a5 u = some (.inl t) ∧ Inv t := by
  obtain ⟨A, ho, h1, h2⟩ := hu
  have hn := ho.2.1.1
  have h4 := ho.2.2.2.1.2.2.1
  have no : Inv (u.1, u.2) := ⟨A, ho, h1, h2⟩
  suffices hs : ∃ v s1 s2, pX10_paper a1 a2 u.1 = some (v, s1) ∧ pX11_paper a1 a2 u.2 = some (v, s2) ∧ Inv (s1, s2) by
    obtain ⟨v, s1, s2, e1, e2, e3⟩ := hs
    refine ⟨(s1, s2), ?_, e3⟩
    unfold q12
    rw [e1, bn2_s, e2, bn2_s, if_pos rfl]
  unfold pX10_paper pX11_paper
  rw [isBkC ho h1, isBkR ho h2, hasC ho h1, isPR ho h2]
  simp only [bn1_s]
  by_cases hx : ixB (nBk (aTd A)) a1 = true
  case neg =>
    have hx' : ixB (nBk (aTd A)) a1 = false := by simpa using hx
    simp only [hx', if_b0]
    exact ⟨-1, u.1, u.2, rfl, rfl, no⟩
  by_cases hy : ixB (aPn A) a2 = true
  case neg =>
    have hy' : ixB (aPn A) a2 = false := by simpa using hy
    simp only [hx, hy', if_b0, if_b1]
    exact ⟨-1, u.1, u.2, rfl, rfl, no⟩
  simp only [hx, hy, if_b1]
  obtain ⟨b, hb, rfl⟩ := ix_T (by omega) hx
  obtain ⟨p, hp, rfl⟩ := ix_T (by omega) hy
  obtain ⟨s1, e1, f1⟩ := upNowC ho h1 hp
  obtain ⟨s2, e2, f2⟩ := paperOfR (b := b) ho h2 hp (by omega)
  obtain ⟨r, r1, r2, r3, hC⟩ := h1.2.2.2.1
  obtain ⟨r', r1', r2', r3', hC'⟩ := (RC_sc f1 h1).2.2.2.1
  have er : r' = r := by rw [← r2', ← r2]; exact fr_3 f1 rfl
  subst er
  rw [r2, gT_p r1, e1, bn2_s, paperC ho hC' (by omega), bn1_s, e2, bn2_s]
  exact ⟨_, s1, s2, rfl, rfl, ask ho h1 h2 f1 f2⟩
