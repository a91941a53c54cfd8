/-! a PERSON looked at from a place -/
def Vp (A : Abs) (p : Nat) (pl : Int32) (j : Nat) : Int32 := if j < 8 then nI (aPt A p (4 + j)) else if j = 8 then pl else if j < 12 then nI (aPt A p (j - 8)) else 0
def Wp (A : Abs) (p : Nat) (pl : Int32) (k : Nat) : Int32 := if k = 0 then pl else if k < 12 then nI (aPt A p k) else 0
theorem Wp_V {A : Abs} {p : Nat} {pl : Int32} {j : Nat} (_h : j ≤ 20) : Wp A p pl (piV j) = Vp A p pl j := by
  unfold Wp Vp piV
  by_cases h1 : j < 8
  · rw [if_pos h1, if_pos h1, if_neg (by omega), if_pos (by omega), Nat.add_comm]
  · rw [if_neg h1, if_neg h1]
    by_cases h2 : j = 8
    · subst h2; rfl
    · rw [if_neg h2]
      by_cases h3 : j < 12
      · rw [if_pos h3, if_pos h3, if_neg (by omega), if_pos (by omega)]
      · rw [if_neg h3, if_neg h3, if_neg (by omega), if_neg h3]
theorem o34_us {o k : Nat} (h : usC o k = true) : onO 34 o k = false := by
  have := scC_us h
  simp only [scC, onO, Bool.or_eq_false_iff] at this ⊢
  exact this.1.1.1.1.1.1.1.1.1.1.2
theorem setPersonC {A : Abs} {σ : gS} {p : Nat} (ho : okA A) (h : RC A σ) (hp : p < aPn A) : ∃ σ', pX4_setPerson (nI p) σ = some σ' ∧ fr (onO 34) σ σ' ∧ ∀ k, k ≤ 20 → σ'.1 34 k = Wp A p (nI (aPt A p 0)) k := by
  unfold pX4_setPerson
  suffices hs : ∃ r, lpP (fun (z2 : (Int32 × gS)) => if (21 : Int32) ≤ z2.1 then (some (.inr z2.2) : Option ((Int32 × gS) ⊕ gS)) else if (12 : Int32) ≤ z2.1 then gx z2.1 21 (lt' (wI z2.2 34 z2.1.toNatClampNeg (0 : Int32)) (fun s3 => lt' (z2.1 + (1 : Int32)) (fun x4 => some (.inl (x4, s3))))) else bn1 (pX2_trait (nI p) z2.1 z2.2) (fun v5 => gx z2.1 21 (lt' (wI z2.2 34 z2.1.toNatClampNeg v5) (fun s7 => lt' (z2.1 + (1 : Int32)) (fun x8 => some (.inl (x8, s7))))))) ((0 : Int32), σ) = some r ∧ (fr (onO 34) σ r ∧ ∀ k, k < 21 → r.1 34 k = Wp A p (nI (aPt A p 0)) k) by
    obtain ⟨r, e, f, g⟩ := hs
    exact ⟨r, by rw [e, bn1_s], f, fun k hk => g k (by omega)⟩
  refine lp_cnt (fun k (z : Int32 × gS) => z.1 = nI k ∧ fr (onO 34) σ z.2 ∧ ∀ i, i < k → z.2.1 34 i = Wp A p (nI (aPt A p 0)) i) 21 ?_ ?_ (k := 0) (by omega) ⟨rfl, fr_rf, fun i hi => absurd hi (Nat.not_lt_zero i)⟩
  · rintro k ⟨z, τ⟩ hk ⟨rfl, hf, hv⟩
    dsimp only at hf hv ⊢
    have fin : ∀ v : Int32, v = Wp A p (nI (aPt A p 0)) k → fr (onO 34) σ (wI τ 34 k v) ∧ ∀ i, i < k + 1 → (wI τ 34 k v).1 34 i = Wp A p (nI (aPt A p 0)) i := by
      intro v hv2
      refine ⟨fr_tr hf (fr_wI rfl), fun i hi => ?_⟩
      rw [wI_1]
      by_cases hc : i = k
      · subst hc; rw [if_pos ⟨rfl, rfl⟩, hv2]
      · rw [if_neg (fun q => hc q.2)]; exact hv i (by omega)
    rw [if_neg (show ¬ (21 : Int32) ≤ nI k from nI_ge (b := 21) hk (by decide))]
    by_cases h12 : 12 ≤ k
    · rw [if_pos (show (12 : Int32) ≤ nI k from nI_le (a := 12) h12 (by omega)), gx_i hk (by decide), lt_b, lt_b, nI_clamp (by omega), nI_1]
      exact ⟨_, rfl, rfl, fin 0 (by unfold Wp; rw [if_neg (by omega), if_neg (by omega)])⟩
    · rw [if_neg (show ¬ (12 : Int32) ≤ nI k from nI_ge (b := 12) (by omega) (by decide)), traitC ho (RC_fr hf (fun o k q => o34_us q) h) hp (by omega), bn1_s, gx_i hk (by decide), lt_b, lt_b, nI_clamp (by omega), nI_1]
      refine ⟨_, rfl, rfl, fin _ ?_⟩
      unfold Wp
      by_cases h0 : k = 0
      · rw [if_pos h0, h0]
      · rw [if_neg h0, if_pos (by omega)]
  · rintro ⟨z, τ⟩ ⟨rfl, hf, hv⟩
    dsimp only at hf hv ⊢
    rw [if_pos (show (21 : Int32) ≤ nI 21 by decide)]
    exact ⟨_, rfl, hf, hv⟩
