/-! survey -/
def UP (A : Abs) (p : Nat) : Int32 := bitsN (upB A p (nI (aPt A p 0))) (nSg (aTd A))
def TR (A : Abs) (p : Nat) : Int32 := bitsN (fun k => upB A p (nI (aPt A p 0)) (6 + k)) (nSy (aTd A))
/-- what survey leaves -/
def Sv (A : Abs) (σ : gS) : Prop := ∀ p, p < aPn A → σ.1 36 p = UP A p ∧ σ.1 37 p = TR A p
theorem sc_wI {o k : Nat} {σ : gS} {v : Int32} (h : scC o k = true) : fr scC σ (wI σ o k v) := fr_wI h
theorem surveyC {A : Abs} {σ : gS} (ho : okA A) (h : RC A σ) : ∃ σ', pX4_survey σ = some σ' ∧ fr scC σ σ' ∧ Sv A σ' := by
  have hn := ho.2.1.1
  unfold pX4_survey
  suffices hs : ∃ r, lpP (fun (z2 : (Int32 × gS)) => if (z2.2.1 21 1) ≤ z2.1 then (some (.inr z2.2) : Option ((Int32 × gS) ⊕ gS)) else bn1 (pX4_setPerson z2.1 z2.2) (fun s4 => gT (s4.2.2 23 0) tR (fun rr5 => bn2 (pX4_bitsOf (0 : Int32) (s4.1 rr5 0) s4) (fun v6 s7 => gx z2.1 20 (lt' (wI s7 36 z2.1.toNatClampNeg v6) (fun s8 => gT (s8.2.2 23 0) tR (fun rr9 => bn2 (pX4_bitsOf (6 : Int32) (s8.1 rr9 1) s8) (fun v10 s11 => gx z2.1 20 (lt' (wI s11 37 z2.1.toNatClampNeg v10) (fun s12 => lt' (z2.1 + (1 : Int32)) (fun x13 => some (.inl (x13, s12))))))))))))) ((0 : Int32), σ) = some r ∧ (fr scC σ r ∧ Sv A r) by
    obtain ⟨r, e, q⟩ := hs
    exact ⟨r, by rw [e, bn1_s], q⟩
  refine lp_cnt (fun k (z : Int32 × gS) => z.1 = nI k ∧ fr scC σ z.2 ∧ ∀ p, p < k → z.2.1 36 p = UP A p ∧ z.2.1 37 p = TR A p) (aPn A) ?_ ?_ (k := 0) (by omega) ⟨rfl, fr_rf, fun i hi => absurd hi (Nat.not_lt_zero i)⟩
  · rintro p ⟨z, τ⟩ hp ⟨rfl, hf, hv⟩
    dsimp only at hf hv ⊢
    have hC := RC_sc hf h
    obtain ⟨s1, e1, f1, v1⟩ := setPersonC ho hC hp
    have f1' : fr scC τ s1 := fr_up (fun o k q => o34_sc q) f1
    have hC1 := RC_sc f1' hC
    obtain ⟨r, r1, r2, r3, hD⟩ := hC1.2.2.2.1
    obtain ⟨s2, e2, f2⟩ := bitsOfC (p := p) (pl := nI (aPt A p 0)) (b := 0) ho hC1 (Or.inl ⟨rfl, rfl⟩) v1
    have f3 : fr scC s2 (wI s2 36 p (UP A p)) := fr_wI rfl
    have f2' : fr scC s1 s2 := fr_up (fun o k q => vfr_sc q) f2
    have hC3 := RC_sc (fr_tr f2' f3) hC1
    obtain ⟨r', r1', r2', r3', hD'⟩ := hC3.2.2.2.1
    have v3 : ∀ j, j ≤ 20 → (wI s2 36 p (UP A p)).1 34 j = Wp A p (nI (aPt A p 0)) j := fun j hj => by
      rw [wI_1, if_neg (fun q => absurd q.1 (by decide)), fr_1 f2 vfr_34, v1 j hj]
    obtain ⟨s4, e4, f4⟩ := bitsOfC (p := p) (pl := nI (aPt A p 0)) (b := 6) ho hC3 (Or.inr ⟨rfl, rfl⟩) v3
    have f4' : fr scC (wI s2 36 p (UP A p)) s4 := fr_up (fun o k q => vfr_sc q) f4
    simp only [Nat.zero_add] at e2
    have eU : bitsN (fun k => upB A p (nI (aPt A p 0)) k) (nSg (aTd A)) = UP A p := rfl
    rw [eU] at e2
    simp only [show nI 0 = 0 from rfl] at e2
    simp only [show nI 6 = 6 from rfl] at e4
    rw [hC.2.1.1, if_neg (nI_ge hp (by omega)), e1, bn1_s, r2, gT_p r1, hD.1.1, e2, bn2_s, gx_i (by omega) (by decide), lt_b, nI_clamp (by omega), r2', gT_p r1', hD'.1.2.1, e4, bn2_s, gx_i (by omega) (by decide), lt_b, lt_b, nI_1]
    refine ⟨_, rfl, rfl, fr_tr hf (fr_tr f1' (fr_tr f2' (fr_tr f3 (fr_tr f4' (fr_wI rfl))))), fun i hi => ?_⟩
    have k36 : ∀ i, s4.1 36 i = (wI s2 36 p (UP A p)).1 36 i := fun i => fr_1 f4 rfl
    have k37 : ∀ i, s4.1 37 i = (wI s2 36 p (UP A p)).1 37 i := fun i => fr_1 f4 rfl
    have j36 : ∀ i, s2.1 36 i = τ.1 36 i := fun i => (fr_1 f2 rfl).trans (fr_1 f1 rfl)
    have j37 : ∀ i, s2.1 37 i = τ.1 37 i := fun i => (fr_1 f2 rfl).trans (fr_1 f1 rfl)
    show (wI s4 37 p _).1 36 i = _ ∧ (wI s4 37 p _).1 37 i = _
    rw [wI_1, wI_1, if_neg (fun q => absurd q.1 (by decide)), k36, k37, wI_1, wI_1, j36, j37]
    by_cases hc : i = p
    · subst hc
      rw [if_pos ⟨rfl, rfl⟩, if_pos ⟨rfl, rfl⟩]
      exact ⟨rfl, rfl⟩
    · rw [if_neg (fun q => hc q.2), if_neg (fun q => hc q.2), if_neg (fun q => hc q.2)]
      exact hv i (by omega)
  · rintro ⟨z, τ⟩ ⟨rfl, hf, hv⟩
    dsimp only at hf hv ⊢
    rw [(RC_sc hf h).2.1.1, if_pos (nI_le (Nat.le_refl _) (by omega))]
    exact ⟨_, rfl, hf, hv⟩
