/-! a PERSON looked at from a place -/
def Vp (A : Abs) (p : Nat) (pl : Int32) (j : Nat) : Int32 := if j < 8 then nI (aPt A p (4 + j)) else if j = 8 then pl else if j < 12 then nI (aPt A p (j - 8)) else 0
def Wp (A : Abs) (p : Nat) (pl : Int32) (k : Nat) : Int32 := if k = 0 then pl else if k < 12 then nI (aPt A p k) else 0
theorem Wp_V {A : Abs} {p : Nat} {pl : Int32} {j : Nat} (_h : j ≤ 20) : Wp A p pl (piV j) = Vp A p pl j := by
  unfold Wp Vp piV
  by_cases h1 : j < 8
  · rw [if_pos h1, if_pos h1, if_neg (by omega), if_pos (by omega), Nat.add_comm]
  · rw [if_neg h1, if_neg h1]
    by_cases h2 : j = 8
    · subst h2; rfl
    · rw [if_neg h2]
      by_cases h3 : j < 12
      · rw [if_pos h3, if_pos h3, if_neg (by omega), if_pos (by omega)]
      · rw [if_neg h3, if_neg h3, if_neg (by omega), if_neg h3]
theorem o34_us {o k : Nat} (h : usC o k = true) : onO 34 o k = false := by
  have := scC_us h
  simp only [scC, onO, Bool.or_eq_false_iff] at this ⊢
  exact this.1.1.1.1.1.1.1.1.1.1.2
theorem setPersonC {A : Abs} {σ : gS} {p : Nat} (ho : okA A) (h : RC A σ) (hp : p < aPn A) : ∃ σ', pX4_setPerson (nI p) σ = some σ' ∧ fr (onO 34) σ σ' ∧ ∀ k, k ≤ 20 → σ'.1 34 k = Wp A p (nI (aPt A p 0)) k := by
  unfold pX4_setPerson
  suffices hs : ∃ r, lpP (fun (z2 : (Int32 × gS)) => if (21 : Int32) ≤ z2.1 then (some (.inr z2.2) : Option ((Int32 × gS) ⊕ gS)) else if (12 : Int32) ≤ z2.1 then gx z2.1 21 (lt' (wI z2.2 34 z2.1.toNatClampNeg (0 : Int32)) (fun s3 => lt' (z2.1 + (1 : Int32)) (fun x4 => some (.inl (x4, s3))))) else bn1 (pX2_trait (nI p) z2.1 z2.2) (fun v5 => gx z2.1 21 (lt' (wI z2.2 34 z2.1.toNatClampNeg v5) (fun s7 => lt' (z2.1 + (1 : Int32)) (fun x8 => some (.inl (x8, s7))))))) ((0 : Int32), σ) = some r ∧ (fr (onO 34) σ r ∧ ∀ k, k < 21 → r.1 34 k = Wp A p (nI (aPt A p 0)) k) by
    obtain ⟨r, e, f, g⟩ := hs
    exact ⟨r, by rw [e, bn1_s], f, fun k hk => g k (by omega)⟩
  refine lp_cnt (fun k (z : Int32 × gS) => z.1 = nI k ∧ fr (onO 34) σ z.2 ∧ ∀ i, i < k → z.2.1 34 i = Wp A p (nI (aPt A p 0)) i) 21 ?_ ?_ (k := 0) (by omega) ⟨rfl, fr_rf, fun i hi => absurd hi (Nat.not_lt_zero i)⟩
  · rintro k ⟨z, τ⟩ hk ⟨rfl, hf, hv⟩
    dsimp only at hf hv ⊢
    have fin : ∀ v : Int32, v = Wp A p (nI (aPt A p 0)) k → fr (onO 34) σ (wI τ 34 k v) ∧ ∀ i, i < k + 1 → (wI τ 34 k v).1 34 i = Wp A p (nI (aPt A p 0)) i := by
      intro v hv2
      refine ⟨fr_tr hf (fr_wI rfl), fun i hi => ?_⟩
      rw [wI_1]
      by_cases hc : i = k
      · subst hc; rw [if_pos ⟨rfl, rfl⟩, hv2]
      · rw [if_neg (fun q => hc q.2)]; exact hv i (by omega)
    rw [if_neg (show ¬ (21 : Int32) ≤ nI k from nI_ge (b := 21) hk (by decide))]
    by_cases h12 : 12 ≤ k
    · rw [if_pos (show (12 : Int32) ≤ nI k from nI_le (a := 12) h12 (by omega)), gx_i hk (by decide), lt_b, lt_b, nI_clamp (by omega), nI_1]
      exact ⟨_, rfl, rfl, fin 0 (by unfold Wp; rw [if_neg (by omega), if_neg (by omega)])⟩
    · rw [if_neg (show ¬ (12 : Int32) ≤ nI k from nI_ge (b := 12) (by omega) (by decide)), traitC ho (RC_fr hf (fun o k q => o34_us q) h) hp (by omega), bn1_s, gx_i hk (by decide), lt_b, lt_b, nI_clamp (by omega), nI_1]
      refine ⟨_, rfl, rfl, fin _ ?_⟩
      unfold Wp
      by_cases h0 : k = 0
      · rw [if_pos h0, h0]
      · rw [if_neg h0, if_pos (by omega)]
  · rintro ⟨z, τ⟩ ⟨rfl, hf, hv⟩
    dsimp only at hf hv ⊢
    rw [if_pos (show (21 : Int32) ≤ nI 21 by decide)]
    exact ⟨_, rfl, hf, hv⟩
theorem w33 {τ : gS} {j k : Nat} {v : Int32} (h : k ≠ j) : (wI τ 33 j v).1 33 k = τ.1 33 k := by
  rw [wI_1, if_neg (fun q => h q.2)]
theorem looksAtR {A : Abs} {τ : gS} {p : Nat} {pl : Int32} (ho : okA A) (h : RR A τ) (hp : p < aPn A) : ∃ τ', pX11_looksAt (nI p) pl τ = some τ' ∧ fr (onO 33) τ τ' ∧ ∀ j, j ≤ 20 → τ'.1 33 j = Vp A p pl j := by
  have hn := ho.2.1.1
  obtain ⟨p35, p36, p37, p38, p39⟩ := h.2.1.2 p hp
  unfold pX11_looksAt
  have L : ∃ r, lpP (fun (z2 : (Int32 × gS)) => if (8 : Int32) ≤ z2.1 then (some (.inr z2.2) : Option ((Int32 × gS) ⊕ gS)) else gx (((8 : Int32) * nI p) + z2.1) 160 (gx z2.1 21 (lt' (wI z2.2 33 z2.1.toNatClampNeg (z2.2.1 39 (((8 : Int32) * nI p) + z2.1).toNatClampNeg)) (fun s3 => lt' (z2.1 + (1 : Int32)) (fun x4 => some (.inl (x4, s3))))))) ((0 : Int32), τ) = some r ∧ (fr (onO 33) τ r ∧ ∀ k, k < 8 → r.1 33 k = nI (aPt A p (4 + k))) := by
    refine lp_cnt (fun k (z : Int32 × gS) => z.1 = nI k ∧ fr (onO 33) τ z.2 ∧ ∀ i, i < k → z.2.1 33 i = nI (aPt A p (4 + i))) 8 ?_ ?_ (k := 0) (by omega) ⟨rfl, fr_rf, fun i hi => absurd hi (Nat.not_lt_zero i)⟩
    · rintro k ⟨z, υ⟩ hk ⟨rfl, hf, hv⟩
      dsimp only at hf hv ⊢
      have e8 : (8 : Int32) * nI p + nI k = nI (8 * p + k) := by
        rw [show (8 : Int32) = nI 8 from rfl, nI_mulS, nI_add]
      rw [if_neg (show ¬ (8 : Int32) ≤ nI k from nI_ge (b := 8) hk (by decide)), e8, gx_i (by omega) (by decide), gx_i (by omega) (by decide), lt_b, lt_b, nI_clamp (by omega), nI_clamp (by omega), nI_1, (fr_1 hf rfl).trans (p39 k hk)]
      refine ⟨_, rfl, rfl, fr_tr hf (fr_wI rfl), fun i hi => ?_⟩
      show (wI υ 33 k _).1 33 i = _
      rw [wI_1]
      by_cases hc : i = k
      · subst hc; rw [if_pos ⟨rfl, rfl⟩]
      · rw [if_neg (fun q => hc q.2)]; exact hv i (by omega)
    · rintro ⟨z, υ⟩ ⟨rfl, hf, hv⟩
      dsimp only at hf hv ⊢
      rw [if_pos (show (8 : Int32) ≤ nI 8 by decide)]
      exact ⟨_, rfl, hf, hv⟩
  obtain ⟨r, e, hf, hv⟩ := L
  rw [e, bn1_s]
  have q36 : r.1 36 p = nI (aPt A p 1) := (fr_1 hf rfl).trans p36
  have q37 : r.1 37 p = nI (aPt A p 2) := (fr_1 hf rfl).trans p37
  have q38 : r.1 38 p = nI (aPt A p 3) := (fr_1 hf rfl).trans p38
  have o33 : ∀ (σ : gS) (j o k : Nat) (v : Int32), o ≠ 33 → (wI σ 33 j v).1 o k = σ.1 o k := fun σ j o k v ho => by rw [wI_1, if_neg (fun q => ho q.1)]
  simp only [show (8 : Int32) = nI 8 from rfl, show (9 : Int32) = nI 9 from rfl, show (10 : Int32) = nI 10 from rfl, show (11 : Int32) = nI 11 from rfl, gx_i (show 8 < 21 by decide) (show 21 < 2 ^ 31 by decide), gx_i (show 9 < 21 by decide) (show 21 < 2 ^ 31 by decide), gx_i (show 10 < 21 by decide) (show 21 < 2 ^ 31 by decide), gx_i (show 11 < 21 by decide) (show 21 < 2 ^ 31 by decide), gx_i (show p < 20 by omega) (show 20 < 2 ^ 31 by decide), lt_b, nI_clamp (show p < 2 ^ 31 by omega), nI_clamp (show 8 < 2 ^ 31 by decide), nI_clamp (show 9 < 2 ^ 31 by decide), nI_clamp (show 10 < 2 ^ 31 by decide), nI_clamp (show 11 < 2 ^ 31 by decide)]
  rw [o33 _ _ 36 p _ (by decide), q36, o33 _ _ 37 p _ (by decide), o33 _ _ 37 p _ (by decide), q37, o33 _ _ 38 p _ (by decide), o33 _ _ 38 p _ (by decide), o33 _ _ 38 p _ (by decide), q38]
  generalize hs0 : wI (wI (wI (wI r 33 8 pl) 33 9 (nI (aPt A p 1))) 33 10 (nI (aPt A p 2))) 33 11 (nI (aPt A p 3)) = s0
  have f0 : fr (onO 33) τ s0 := by
    rw [← hs0]
    exact fr_tr hf (fr_tr (fr_wI rfl) (fr_tr (fr_wI rfl) (fr_tr (fr_wI rfl) (fr_wI rfl))))
  have v0 : ∀ j, j < 12 → s0.1 33 j = Vp A p pl j := by
    intro j hj
    rw [← hs0]
    unfold Vp
    rcases (show j < 8 ∨ j = 8 ∨ j = 9 ∨ j = 10 ∨ j = 11 by omega) with q | q | q | q | q
    · rw [w33 (by omega), w33 (by omega), w33 (by omega), w33 (by omega), if_pos q, hv j q]
    · subst q; rw [w33 (by decide), w33 (by decide), w33 (by decide), wI_s]; rfl
    · subst q; rw [w33 (by decide), w33 (by decide), wI_s]; rfl
    · subst q; rw [w33 (by decide), wI_s]; rfl
    · subst q; rw [wI_s]; rfl
  suffices hs : ∃ r, lpP (fun (z10 : (Int32 × gS)) => if (21 : Int32) ≤ z10.1 then (some (.inr z10.2) : Option ((Int32 × gS) ⊕ gS)) else gx z10.1 21 (lt' (wI z10.2 33 z10.1.toNatClampNeg (0 : Int32)) (fun s11 => lt' (z10.1 + (1 : Int32)) (fun x12 => some (.inl (x12, s11)))))) ((12 : Int32), s0) = some r ∧ (fr (onO 33) τ r ∧ ∀ k, k < 21 → r.1 33 k = Vp A p pl k) by
    obtain ⟨r, e, f, g⟩ := hs
    refine ⟨r, ?_, f, fun k hk => g k (by omega)⟩
    simp only [lt_b] at e
    rw [e, bn1_s]
  refine lp_cnt (fun k (z : Int32 × gS) => z.1 = nI (12 + k) ∧ fr (onO 33) τ z.2 ∧ ∀ i, i < 12 + k → z.2.1 33 i = Vp A p pl i) 9 ?_ ?_ (k := 0) (by omega) ⟨rfl, f0, v0⟩
  · rintro k ⟨z, υ⟩ hk ⟨rfl, hf, hv⟩
    dsimp only at hf hv ⊢
    rw [if_neg (show ¬ (21 : Int32) ≤ nI (12 + k) from nI_ge (b := 21) (by omega) (by decide)), gx_i (by omega) (by decide), lt_b, lt_b, nI_clamp (by omega), nI_1]
    refine ⟨_, rfl, rfl, fr_tr hf (fr_wI rfl), fun i hi => ?_⟩
    show (wI υ 33 (12 + k) 0).1 33 i = _
    rw [wI_1]
    by_cases hc : i = 12 + k
    · rw [if_pos ⟨rfl, hc⟩, hc]
      unfold Vp
      rw [if_neg (by omega), if_neg (by omega), if_neg (by omega)]
    · rw [if_neg (fun q => hc q.2)]; exact hv i (by omega)
  · rintro ⟨z, υ⟩ ⟨rfl, hf, hv⟩
    dsimp only at hf hv ⊢
    rw [if_pos (show (21 : Int32) ≤ nI (12 + 9) by decide)]
    exact ⟨_, rfl, hf, hv⟩
