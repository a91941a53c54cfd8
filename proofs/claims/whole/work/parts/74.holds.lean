/-! holds -/
theorem isTrueOfR {A : Abs} {τ : gS} {p s : Nat} (ho : okA A) (h : RR A τ) (hp : p < aPn A) (hs : s < nSy (aTd A)) : ∃ τ', pX11_isTrueOf (nI s) (nI p) τ = some (b01 (upB A p (nI (aPt A p 0)) (6 + s)), τ') ∧ fr o334 τ τ' := by
  have hn := ho.2.1.1
  obtain ⟨s1, e1, f1, v1⟩ := looksAtR (pl := nI (aPt A p 0)) ho h hp
  obtain ⟨L, hL, hL2, hT⟩ := h.2.2.2.1
  have hT' := ho.2.2.2
  have h16 := hT'.1.2.1
  have hc := hT.2.2.2.2.1 s hs
  have hc1 : cnR s1 (26 * L + 6 + s) (cnd (aTd A) (6 + s)) := cnR_fr f1 (fun o k q1 q2 => by simp only [onO, beq_eq_false_iff_ne]; omega) hc
  obtain ⟨s2, e2, f2⟩ := holdsR (V := Vp A p (nI (aPt A p 0))) (ρ := 26 * L + 6 + s) (by omega) hc1 (hT'.2.2.2.2.1 s hs).2 v1
  have e18 : s1.1 0 18 = nI L := (fr_1 f1 rfl).trans hL2
  unfold pX11_isTrueOf
  rw [gx_i (by omega) (by decide), nI_clamp (by omega), (h.2.1.2 p hp).1, e1, bn1_s, e18, show (26 : Int32) * nI L + 6 + nI s = nI (26 * L + 6 + s) by rw [show (26 : Int32) = nI 26 from rfl, show (6 : Int32) = nI 6 from rfl, nI_mulS, nI_add, nI_add], e2, bn2_s, b01_a]
  exact ⟨s2, rfl, fr_tr (o334_3 f1) (o334_4 f2)⟩
theorem trueOfC {A : Abs} {σ : gS} {p : Nat} (ho : okA A) (h : RC A σ) (hp : p < aPn A) : ∃ σ', pX4_trueOf (nI p) σ = some (bitsN (fun k => upB A p (nI (aPt A p 0)) (6 + k)) (nSy (aTd A)), σ') ∧ fr scC σ σ' := by
  obtain ⟨s1, e1, f1, v1⟩ := setPersonC ho h hp
  have hR : RC A s1 := RC_fr f1 (fun o k q => o34_us q) h
  obtain ⟨r, r1, r2, r3, hC⟩ := hR.2.2.2.1
  obtain ⟨s3, e3, f3⟩ := bitsOfC (p := p) (pl := nI (aPt A p 0)) (b := 6) ho hR (Or.inr ⟨rfl, rfl⟩) v1
  unfold pX4_trueOf
  rw [e1, bn1_s, r2, gT_p r1, hC.1.2.1, show (6 : Int32) = nI 6 from rfl, e3, bn2_s]
  exact ⟨s3, rfl, fr_tr (fr_up (fun o k q => o34_sc q) f1) (fr_up (fun o k q => vfr_sc q) f3)⟩
