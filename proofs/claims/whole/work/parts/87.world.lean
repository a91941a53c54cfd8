/-! world -/
theorem traitT {σ : gS} {p j : Nat} {v : Int32} (hp : p < 20) (hj : j < 12) (h : σ.1 22 (p * 12 + j) = v) : pX2_trait (nI p) (nI j) σ = some v := by
  unfold pX2_trait
  have h1 : (0 : Int32) ≤ nI p ∧ nI p ≤ 19 := ⟨nI_pos' (by omega), nI_le (b := 19) (by omega) (by decide)⟩
  have h2 : (0 : Int32) ≤ nI j ∧ nI j ≤ 11 := ⟨nI_pos' (by omega), nI_le (b := 11) (by omega) (by decide)⟩
  rw [inR, bn1_s, if_pos h1, if_10, inR, bn1_s, if_pos h2, if_10, show (12 : Int32) = nI 12 from rfl, pk_mul, nI_add, gx_i (by omega) (by decide), nI_clamp (by omega), h]
def Wt (t : Nat → Nat) (k : Nat) : Int32 := if k < 12 then nI (t k) else 0
def Vt (t : Nat → Nat) (j : Nat) : Int32 := if j < 8 then nI (t (4 + j)) else if j < 12 then nI (t (j - 8)) else 0
theorem Wt_V {t : Nat → Nat} {j : Nat} (_h : j ≤ 20) : Wt t (piV j) = Vt t j := by
  unfold Wt Vt piV
  by_cases h1 : j < 8
  · rw [if_pos h1, if_pos h1, if_pos (by omega), Nat.add_comm]
  · rw [if_neg h1, if_neg h1]
    by_cases h3 : j < 12
    · rw [if_pos h3, if_pos h3, if_pos (by omega)]
    · rw [if_neg h3, if_neg h3, if_neg h3]
/-- PERSON p has traits t: the class, the reference -/
def prC (t : Nat → Nat) (p : Nat) (σ : gS) : Prop := ∀ j, j < 12 → σ.1 22 (p * 12 + j) = nI (t j)
def prR (t : Nat → Nat) (p : Nat) (τ : gS) : Prop := τ.1 35 p = nI (t 0) ∧ τ.1 36 p = nI (t 1) ∧ τ.1 37 p = nI (t 2) ∧ τ.1 38 p = nI (t 3) ∧ ∀ j, j < 8 → τ.1 39 (8 * p + j) = nI (t (4 + j))
theorem setPerT {σ : gS} {p : Nat} {t : Nat → Nat} (hp : p < 20) (ht : ∀ j, j < 12 → σ.1 22 (p * 12 + j) = nI (t j)) : ∃ σ', pX4_setPerson (nI p) σ = some σ' ∧ fr (onO 34) σ σ' ∧ ∀ k, k ≤ 20 → σ'.1 34 k = Wt t k := by
  unfold pX4_setPerson
  suffices hs : ∃ r, lpP (fun (z2 : (Int32 × gS)) => if (21 : Int32) ≤ z2.1 then (some (.inr z2.2) : Option ((Int32 × gS) ⊕ gS)) else if (12 : Int32) ≤ z2.1 then gx z2.1 21 (lt' (wI z2.2 34 z2.1.toNatClampNeg (0 : Int32)) (fun s3 => lt' (z2.1 + (1 : Int32)) (fun x4 => some (.inl (x4, s3))))) else bn1 (pX2_trait (nI p) z2.1 z2.2) (fun v5 => gx z2.1 21 (lt' (wI z2.2 34 z2.1.toNatClampNeg v5) (fun s7 => lt' (z2.1 + (1 : Int32)) (fun x8 => some (.inl (x8, s7))))))) ((0 : Int32), σ) = some r ∧ (fr (onO 34) σ r ∧ ∀ k, k < 21 → r.1 34 k = Wt t k) by
    obtain ⟨r, e, f, g⟩ := hs
    exact ⟨r, by rw [e, bn1_s], f, fun k hk => g k (by omega)⟩
  refine lp_cnt (fun k (z : Int32 × gS) => z.1 = nI k ∧ fr (onO 34) σ z.2 ∧ ∀ i, i < k → z.2.1 34 i = Wt t i) 21 ?_ ?_ (k := 0) (by omega) ⟨rfl, fr_rf, fun i hi => absurd hi (Nat.not_lt_zero i)⟩
  · rintro k ⟨z, τ⟩ hk ⟨rfl, hf, hv⟩
    dsimp only at hf hv ⊢
    have fin : ∀ v : Int32, v = Wt t k → fr (onO 34) σ (wI τ 34 k v) ∧ ∀ i, i < k + 1 → (wI τ 34 k v).1 34 i = Wt t i := by
      intro v hv2
      refine ⟨fr_tr hf (fr_wI rfl), fun i hi => ?_⟩
      rw [wI_1]
      by_cases hc : i = k
      · subst hc; rw [if_pos ⟨rfl, rfl⟩, hv2]
      · rw [if_neg (fun q => hc q.2)]; exact hv i (by omega)
    rw [if_neg (show ¬ (21 : Int32) ≤ nI k from nI_ge (b := 21) hk (by decide))]
    by_cases h12 : 12 ≤ k
    · rw [if_pos (show (12 : Int32) ≤ nI k from nI_le (a := 12) h12 (by omega)), gx_i hk (by decide), lt_b, lt_b, nI_clamp (by omega), nI_1]
      exact ⟨_, rfl, rfl, fin 0 (by unfold Wt; rw [if_neg (by omega)])⟩
    · rw [if_neg (show ¬ (12 : Int32) ≤ nI k from nI_ge (b := 12) (by omega) (by decide)), traitT hp (show k < 12 by omega) ((fr_1 hf rfl).trans (ht k (by omega))), bn1_s, gx_i hk (by decide), lt_b, lt_b, nI_clamp (by omega), nI_1]
      refine ⟨_, rfl, rfl, fin _ ?_⟩
      unfold Wt
      rw [if_pos (by omega)]
  · rintro ⟨z, τ⟩ ⟨rfl, hf, hv⟩
    dsimp only at hf hv ⊢
    rw [if_pos (show (21 : Int32) ≤ nI 21 by decide)]
    exact ⟨_, rfl, hf, hv⟩
theorem looksT {τ : gS} {p : Nat} {t : Nat → Nat} (hp : p < 20) (hq : prR t p τ) : ∃ τ', pX11_looksAt (nI p) (nI (t 0)) τ = some τ' ∧ fr (onO 33) τ τ' ∧ ∀ j, j ≤ 20 → τ'.1 33 j = Vt t j := by
  obtain ⟨p35, p36, p37, p38, p39⟩ := hq
  unfold pX11_looksAt
  have L : ∃ r, lpP (fun (z2 : (Int32 × gS)) => if (8 : Int32) ≤ z2.1 then (some (.inr z2.2) : Option ((Int32 × gS) ⊕ gS)) else gx (((8 : Int32) * nI p) + z2.1) 160 (gx z2.1 21 (lt' (wI z2.2 33 z2.1.toNatClampNeg (z2.2.1 39 (((8 : Int32) * nI p) + z2.1).toNatClampNeg)) (fun s3 => lt' (z2.1 + (1 : Int32)) (fun x4 => some (.inl (x4, s3))))))) ((0 : Int32), τ) = some r ∧ (fr (onO 33) τ r ∧ ∀ k, k < 8 → r.1 33 k = nI (t (4 + k))) := by
    refine lp_cnt (fun k (z : Int32 × gS) => z.1 = nI k ∧ fr (onO 33) τ z.2 ∧ ∀ i, i < k → z.2.1 33 i = nI (t (4 + i))) 8 ?_ ?_ (k := 0) (by omega) ⟨rfl, fr_rf, fun i hi => absurd hi (Nat.not_lt_zero i)⟩
    · rintro k ⟨z, υ⟩ hk ⟨rfl, hf, hv⟩
      dsimp only at hf hv ⊢
      have e8 : (8 : Int32) * nI p + nI k = nI (8 * p + k) := by
        rw [show (8 : Int32) = nI 8 from rfl, nI_mulS, nI_add]
      rw [if_neg (show ¬ (8 : Int32) ≤ nI k from nI_ge (b := 8) hk (by decide)), e8, gx_i (by omega) (by decide), gx_i (by omega) (by decide), lt_b, lt_b, nI_clamp (by omega), nI_clamp (by omega), nI_1, (fr_1 hf rfl).trans (p39 k hk)]
      refine ⟨_, rfl, rfl, fr_tr hf (fr_wI rfl), fun i hi => ?_⟩
      show (wI υ 33 k _).1 33 i = _
      rw [wI_1]
      by_cases hc : i = k
      · subst hc; rw [if_pos ⟨rfl, rfl⟩]
      · rw [if_neg (fun q => hc q.2)]; exact hv i (by omega)
    · rintro ⟨z, υ⟩ ⟨rfl, hf, hv⟩
      dsimp only at hf hv ⊢
      rw [if_pos (show (8 : Int32) ≤ nI 8 by decide)]
      exact ⟨_, rfl, hf, hv⟩
  obtain ⟨r, e, hf, hv⟩ := L
  rw [e, bn1_s]
  have q36 : r.1 36 p = nI (t 1) := (fr_1 hf rfl).trans p36
  have q37 : r.1 37 p = nI (t 2) := (fr_1 hf rfl).trans p37
  have q38 : r.1 38 p = nI (t 3) := (fr_1 hf rfl).trans p38
  have o33 : ∀ (σ : gS) (j o k : Nat) (v : Int32), o ≠ 33 → (wI σ 33 j v).1 o k = σ.1 o k := fun σ j o k v ho => by rw [wI_1, if_neg (fun q => ho q.1)]
  simp only [show (8 : Int32) = nI 8 from rfl, show (9 : Int32) = nI 9 from rfl, show (10 : Int32) = nI 10 from rfl, show (11 : Int32) = nI 11 from rfl, gx_i (show 8 < 21 by decide) (show 21 < 2 ^ 31 by decide), gx_i (show 9 < 21 by decide) (show 21 < 2 ^ 31 by decide), gx_i (show 10 < 21 by decide) (show 21 < 2 ^ 31 by decide), gx_i (show 11 < 21 by decide) (show 21 < 2 ^ 31 by decide), gx_i (show p < 20 by omega) (show 20 < 2 ^ 31 by decide), lt_b, nI_clamp (show p < 2 ^ 31 by omega), nI_clamp (show 8 < 2 ^ 31 by decide), nI_clamp (show 9 < 2 ^ 31 by decide), nI_clamp (show 10 < 2 ^ 31 by decide), nI_clamp (show 11 < 2 ^ 31 by decide)]
  rw [o33 _ _ 36 p _ (by decide), q36, o33 _ _ 37 p _ (by decide), o33 _ _ 37 p _ (by decide), q37, o33 _ _ 38 p _ (by decide), o33 _ _ 38 p _ (by decide), o33 _ _ 38 p _ (by decide), q38]
  generalize hs0 : wI (wI (wI (wI r 33 8 (nI (t 0))) 33 9 (nI (t 1))) 33 10 (nI (t 2))) 33 11 (nI (t 3)) = s0
  have f0 : fr (onO 33) τ s0 := by
    rw [← hs0]
    exact fr_tr hf (fr_tr (fr_wI rfl) (fr_tr (fr_wI rfl) (fr_tr (fr_wI rfl) (fr_wI rfl))))
  have v0 : ∀ j, j < 12 → s0.1 33 j = Vt t j := by
    intro j hj
    rw [← hs0]
    unfold Vt
    rcases (show j < 8 ∨ j = 8 ∨ j = 9 ∨ j = 10 ∨ j = 11 by omega) with q | q | q | q | q
    · rw [w33 (by omega), w33 (by omega), w33 (by omega), w33 (by omega), if_pos q, hv j q]
    · subst q; rw [w33 (by decide), w33 (by decide), w33 (by decide), wI_s]; rfl
    · subst q; rw [w33 (by decide), w33 (by decide), wI_s]; rfl
    · subst q; rw [w33 (by decide), wI_s]; rfl
    · subst q; rw [wI_s]; rfl
  suffices hs : ∃ r, lpP (fun (z10 : (Int32 × gS)) => if (21 : Int32) ≤ z10.1 then (some (.inr z10.2) : Option ((Int32 × gS) ⊕ gS)) else gx z10.1 21 (lt' (wI z10.2 33 z10.1.toNatClampNeg (0 : Int32)) (fun s11 => lt' (z10.1 + (1 : Int32)) (fun x12 => some (.inl (x12, s11)))))) ((12 : Int32), s0) = some r ∧ (fr (onO 33) τ r ∧ ∀ k, k < 21 → r.1 33 k = Vt t k) by
    obtain ⟨r, e, f, g⟩ := hs
    refine ⟨r, ?_, f, fun k hk => g k (by omega)⟩
    simp only [lt_b] at e
    rw [e, bn1_s]
  refine lp_cnt (fun k (z : Int32 × gS) => z.1 = nI (12 + k) ∧ fr (onO 33) τ z.2 ∧ ∀ i, i < 12 + k → z.2.1 33 i = Vt t i) 9 ?_ ?_ (k := 0) (by omega) ⟨rfl, f0, v0⟩
  · rintro k ⟨z, υ⟩ hk ⟨rfl, hf, hv⟩
    dsimp only at hf hv ⊢
    rw [if_neg (show ¬ (21 : Int32) ≤ nI (12 + k) from nI_ge (b := 21) (by omega) (by decide)), gx_i (by omega) (by decide), lt_b, lt_b, nI_clamp (by omega), nI_1]
    refine ⟨_, rfl, rfl, fr_tr hf (fr_wI rfl), fun i hi => ?_⟩
    show (wI υ 33 (12 + k) 0).1 33 i = _
    rw [wI_1]
    by_cases hc : i = 12 + k
    · rw [if_pos ⟨rfl, hc⟩, hc]
      unfold Vt
      rw [if_neg (by omega), if_neg (by omega)]
    · rw [if_neg (fun q => hc q.2)]; exact hv i (by omega)
  · rintro ⟨z, υ⟩ ⟨rfl, hf, hv⟩
    dsimp only at hf hv ⊢
    rw [if_pos (show (21 : Int32) ≤ nI (12 + 9) by decide)]
    exact ⟨_, rfl, hf, hv⟩
def wCf (o k : Nat) : Bool := ppC o k || scC o k
def wRf (o k : Nat) : Bool := ppR o k || scR o k
theorem wCf_us {o k : Nat} (h : usC o k = true) (h2 : ppC o k = false) : wCf o k = false := by
  unfold wCf
  rw [h2, scC_us h]; rfl
theorem wRf_us {o k : Nat} (h : usR o k = true) (h2 : ppR o k = false) : wRf o k = false := by
  unfold wRf
  rw [h2, scR_us h]; rfl
theorem us_told {r : Nat} (h : tR r = true) {j : Nat} (hj : j ≤ 8) (k : Nat) : usC (r + j) k = true := by
  rcases tR_or h with rfl | rfl
  · rcases (show j = 0 ∨ j = 1 ∨ j = 2 ∨ j = 3 ∨ j = 4 ∨ j = 5 ∨ j = 6 ∨ j = 7 ∨ j = 8 by omega) with rfl | rfl | rfl | rfl | rfl | rfl | rfl | rfl | rfl <;> rfl
  · rcases (show j = 0 ∨ j = 1 ∨ j = 2 ∨ j = 3 ∨ j = 4 ∨ j = 5 ∨ j = 6 ∨ j = 7 ∨ j = 8 by omega) with rfl | rfl | rfl | rfl | rfl | rfl | rfl | rfl | rfl <;> rfl
theorem tdCw {A : Abs} {σ τ : gS} (h : RC A σ) (hf : fr wCf σ τ) : ∃ r, tR r = true ∧ τ.2.2 23 0 = r ∧ TdC (aTd A) r τ := by
  obtain ⟨r, r1, r2, r3⟩ := tdC h
  exact ⟨r, r1, (fr_3 hf rfl).trans r2, TdC_fr hf (fun j k hj => wCf_us (us_told r1 hj k) (pp_toldC r1 hj k)) r3⟩
theorem tdRw {A : Abs} {σ τ : gS} (h : RR A σ) (hf : fr wRf σ τ) : ∃ L, L < 2 ∧ τ.1 0 18 = nI L ∧ TdR (aTd A) L τ := by
  obtain ⟨L, l1, l2, l3⟩ := tdR h
  refine ⟨L, l1, (fr_1 hf rfl).trans l2, TdR_fr hf (fun o k g1 g2 => wRf_us (by simp [usR, g1, g2]) ?_) l3⟩
  simp only [ppR, Bool.or_eq_false_iff, Bool.and_eq_false_iff, beq_eq_false_iff_ne, decide_eq_false_iff_not]
  omega
def szT (j : Nat) : Nat := if j = 0 then 60 else if j = 1 then 12 else if j = 2 then 10 else if j = 3 then 4 else 10
theorem gTS_n : ∀ j, j < 12 → gTS j = nI (szT j) := by decide +kernel
theorem szT_p (j : Nat) : 0 < szT j ∧ szT j ≤ 60 := by
  unfold szT
  split
  · omega
  · split
    · omega
    · split
      · omega
      · split <;> omega
/-- trait j of PERSON i as it is drawn -/
noncomputable def dT (seed : Int32) (i j : Nat) : Nat := ((pX2_lot (gTS j) seed ((20 : Int32) * nI i + nI j)).getD 0).toNatClampNeg
theorem dT_s {seed : Int32} {i j : Nat} (hj : j < 12) : dT seed i j < szT j ∧ pX2_lot (gTS j) seed ((20 : Int32) * nI i + nI j) = some (nI (dT seed i j)) ∧ pX11_lot seed ((20 : Int32) * nI i + nI j) (nI (szT j)) = some (nI (dT seed i j)) := by
  have := szT_p j
  obtain ⟨x, x1, x2, x3⟩ := lotQ (n := szT j) (by omega) (by omega) seed ((20 : Int32) * nI i + nI j)
  rw [← gTS_n j hj] at x2
  have e : dT seed i j = x := by
    unfold dT
    rw [x2]
    exact nI_clamp (by omega)
  rw [e]
  exact ⟨x1, x2, x3⟩
theorem dT_ok {seed : Int32} {i : Nat} : okP (dT seed i) := by
  refine ⟨(dT_s (j := 0) (by decide)).1, (dT_s (j := 1) (by decide)).1, (dT_s (j := 2) (by decide)).1, (dT_s (j := 3) (by decide)).1, fun j h1 h2 => ?_⟩
  have := (dT_s (seed := seed) (i := i) h2).1
  unfold szT at this
  rw [if_neg (by omega), if_neg (by omega), if_neg (by omega), if_neg (by omega)] at this
  exact this
def rwP (i o k : Nat) : Bool := o == 22 && (decide (i * 12 ≤ k) && decide (k < i * 12 + 12))
theorem rwP_in {i j : Nat} (h : j < 12) : rwP i 22 (i * 12 + j) = true := by
  unfold rwP
  rw [decide_eq_true (show i * 12 ≤ i * 12 + j by omega), decide_eq_true (show i * 12 + j < i * 12 + 12 by omega)]
  rfl
theorem drawC {σ : gS} {i : Nat} {seed : Int32} (hi : i < 20) : ∃ σ', pX2_draw (nI i) seed σ = some σ' ∧ fr (rwP i) σ σ' ∧ prC (dT seed i) i σ' := by
  unfold pX2_draw
  refine lp_then (fun r => fr (rwP i) σ r ∧ prC (dT seed i) i r) ?_ (fun r hr => ⟨_, rfl, hr⟩)
  refine lp_cnt (fun k (z : Int32 × gS) => z.1 = nI k ∧ fr (rwP i) σ z.2 ∧ ∀ j, j < k → z.2.1 22 (i * 12 + j) = nI (dT seed i j)) 12 ?_ ?_ (k := 0) (by omega) ⟨rfl, fr_rf, fun j hj => absurd hj (Nat.not_lt_zero j)⟩
  · rintro k ⟨z, τ⟩ hk ⟨rfl, hf, hv⟩
    dsimp only at hf hv ⊢
    rw [if_neg (show ¬ (12 : Int32) ≤ nI k from nI_ge (b := 12) hk (by decide)), gx_i hk (by decide), nI_clamp (by omega), (dT_s hk).2.1, bn1_s, setTraitC hi hk, bn1_s, lt_b, nI_1]
    refine ⟨_, rfl, rfl, fr_tr hf (fr_wI (rwP_in hk)), fun j hj => ?_⟩
    show (wI τ 22 _ _).1 22 _ = _
    rw [wI_1]
    by_cases hc : j = k
    · subst hc; rw [if_pos ⟨rfl, rfl⟩]
    · rw [if_neg (by omega)]; exact hv j (by omega)
  · rintro ⟨z, τ⟩ ⟨rfl, hf, hv⟩
    dsimp only at hf hv ⊢
    rw [if_pos (show (12 : Int32) ≤ nI 12 by decide)]
    exact ⟨_, rfl, hf, hv⟩
def rwR (i o k : Nat) : Bool := (decide (35 ≤ o) && (decide (o ≤ 38) && k == i)) || (o == 39 && (decide (8 * i ≤ k) && decide (k < 8 * i + 8)))
theorem rwR_39 {i j : Nat} (h : j < 8) : rwR i 39 (8 * i + j) = true := by
  unfold rwR
  rw [decide_eq_true (show 8 * i ≤ 8 * i + j by omega), decide_eq_true (show 8 * i + j < 8 * i + 8 by omega)]
  simp
theorem rwR_k {i o : Nat} (h1 : 35 ≤ o) (h2 : o ≤ 38) : rwR i o i = true := by
  unfold rwR
  rw [decide_eq_true h1, decide_eq_true h2]
  simp
theorem two_r1 {S T R Q T1 B : Type} {I : S → T → Prop} {P : R → Q → Prop} {g : T1 → Option (T1 ⊕ B)} {t : T1} {x : Option (S ⊕ R)} {g' : B → Option (T ⊕ Q)} (P2 : B → Prop) (h : ∃ q, lpP g t = some q ∧ P2 q) (h2 : ∀ q, P2 q → two I P x (g' q)) : two I P x (bn1 (lpP g t) g') := by
  obtain ⟨q, e, hq⟩ := h
  rw [e]; exact h2 q hq
/-- what world may write at PERSON i -/
def mkC (i o k : Nat) : Bool := rwP i o k || scC o k
def mkR (i o k : Nat) : Bool := rwR i o k || scR o k
theorem mkC_p {i : Nat} {σ τ : gS} (h : fr (rwP i) σ τ) : fr (mkC i) σ τ := fr_up (fun o k q => by simp only [mkC, Bool.or_eq_false_iff] at q; exact q.1) h
theorem mkC_s {i : Nat} {σ τ : gS} (h : fr scC σ τ) : fr (mkC i) σ τ := fr_up (fun o k q => by simp only [mkC, Bool.or_eq_false_iff] at q; exact q.2) h
theorem mkR_p {i : Nat} {σ τ : gS} (h : fr (rwR i) σ τ) : fr (mkR i) σ τ := fr_up (fun o k q => by simp only [mkR, Bool.or_eq_false_iff] at q; exact q.1) h
theorem mkR_s {i : Nat} {σ τ : gS} (h : fr scR σ τ) : fr (mkR i) σ τ := fr_up (fun o k q => by simp only [mkR, Bool.or_eq_false_iff] at q; exact q.2) h
theorem mkC_w {i : Nat} {σ τ : gS} (h : fr (mkC i) σ τ) : fr wCf σ τ := fr_up (fun o k q => by
  simp only [wCf, ppC, Bool.or_eq_false_iff] at q
  simp only [mkC, rwP, Bool.or_eq_false_iff]
  exact ⟨by rw [q.1.2]; rfl, q.2⟩) h
theorem mkR_w {i : Nat} {σ τ : gS} (h : fr (mkR i) σ τ) : fr wRf σ τ := fr_up (fun o k q => by
  simp only [wRf, ppR, Bool.or_eq_false_iff, Bool.and_eq_false_iff, beq_eq_false_iff_ne, decide_eq_false_iff_not] at q
  simp only [mkR, rwR, Bool.or_eq_false_iff, Bool.and_eq_false_iff, beq_eq_false_iff_ne, decide_eq_false_iff_not]
  exact ⟨⟨by omega, by omega⟩, q.2⟩) h
theorem mkC_o {i p j : Nat} (hp : p ≠ i) (hj : j < 12) : mkC i 22 (p * 12 + j) = false := by
  simp only [mkC, rwP, Bool.or_eq_false_iff, Bool.and_eq_false_iff, decide_eq_false_iff_not]
  refine ⟨Or.inr ?_, rfl⟩
  omega
theorem prC_o {t : Nat → Nat} {i p : Nat} {σ τ : gS} (hp : p ≠ i) (h : fr (mkC i) σ τ) (ht : prC t p σ) : prC t p τ := fun j hj => (fr_1 h (mkC_o hp hj)).trans (ht j hj)
theorem prR_o {t : Nat → Nat} {i p : Nat} {σ τ : gS} (hp : p ≠ i) (h : fr (mkR i) σ τ) (ht : prR t p σ) : prR t p τ := by
  obtain ⟨h0, h1, h2, h3, h4⟩ := ht
  have e : ∀ o, 35 ≤ o → o ≤ 38 → mkR i o p = false := fun o q1 q2 => by
    simp only [mkR, rwR, scR, Bool.or_eq_false_iff, Bool.and_eq_false_iff, beq_eq_false_iff_ne, decide_eq_false_iff_not]
    omega
  refine ⟨(fr_1 h (e _ (by omega) (by omega))).trans h0, (fr_1 h (e _ (by omega) (by omega))).trans h1, (fr_1 h (e _ (by omega) (by omega))).trans h2, (fr_1 h (e _ (by omega) (by omega))).trans h3, fun j hj => (fr_1 h ?_).trans (h4 j hj)⟩
  simp only [mkR, rwR, scR, Bool.or_eq_false_iff, Bool.and_eq_false_iff, beq_eq_false_iff_ne, decide_eq_false_iff_not]
  omega
theorem prC_s {t : Nat → Nat} {p : Nat} {σ τ : gS} (h : fr scC σ τ) (ht : prC t p σ) : prC t p τ := fun j hj => (fr_1 h rfl).trans (ht j hj)
theorem prR_s {t : Nat → Nat} {p : Nat} {σ τ : gS} (h : fr scR σ τ) (ht : prR t p σ) : prR t p τ := by
  obtain ⟨h0, h1, h2, h3, h4⟩ := ht
  exact ⟨(fr_1 h rfl).trans h0, (fr_1 h rfl).trans h1, (fr_1 h rfl).trans h2, (fr_1 h rfl).trans h3, fun j hj => (fr_1 h rfl).trans (h4 j hj)⟩
theorem okP_9 {t : Nat → Nat} {k : Nat} (h : okP t) : okP (fun j => if j = 4 + k then 9 else t j) := by
  obtain ⟨h0, h1, h2, h3, h4⟩ := h
  have e : ∀ j, j < 4 → (if j = 4 + k then 9 else t j) = t j := fun j hj => if_neg (by omega)
  refine ⟨?_, ?_, ?_, ?_, fun j q1 q2 => ?_⟩
  · dsimp only; rw [e 0 (by omega)]; exact h0
  · dsimp only; rw [e 1 (by omega)]; exact h1
  · dsimp only; rw [e 2 (by omega)]; exact h2
  · dsimp only; rw [e 3 (by omega)]; exact h3
  · dsimp only
    split
    · omega
    · exact h4 j q1 q2
theorem h_5 {a1 a2 a3 a4 a5 : Int32} {u : gS × gS} (hu : Inv u) : ∃ t, q5 a1 a2 a3 a4 a5 u = some (.inl t) ∧ Inv t := by
  obtain ⟨A, ho, h1, h2⟩ := hu
  have hT := ho.2.2.2
  have h6 := hT.1.1
  have no : Inv (u.1, u.2) := ⟨A, ho, h1, h2⟩
  unfold q5
  suffices hs : ∃ v s1 s2, pX10_world a1 a2 a3 u.1 = some (v, s1) ∧ pX11_world a1 a2 a3 u.2 = some (v, s2) ∧ Inv (s1, s2) by
    obtain ⟨v, s1, s2, e1, e2, e3⟩ := hs
    refine ⟨(s1, s2), ?_, e3⟩
    rw [e1, bn2_s, e2, bn2_s, if_pos rfl]
  unfold pX10_world pX11_world
  simp only [inR, inRR, bn1_s, in_b]
  by_cases hx : (0 : Int32) ≤ a2 ∧ a2 ≤ 20
  case neg =>
    simp only [decide_eq_false hx, if_b0]
    exact ⟨-1, u.1, u.2, rfl, rfl, no⟩
  by_cases hy : (0 : Int32) ≤ a3 ∧ a3 ≤ 10
  case neg =>
    simp only [decide_eq_true hx, decide_eq_false hy, if_b0, if_b1]
    exact ⟨-1, u.1, u.2, rfl, rfl, no⟩
  simp only [decide_eq_true hx, decide_eq_true hy, if_b1]
  obtain ⟨n, -, hn, rfl⟩ := in_T (a := 0) (c := 20) (by decide) (by decide) hx
  rw [lt_b, lt_b]
  apply ans_bn1 (P := fun w x => Inv (w, x))
  refine lp_two (fun i (z : Int32 × gS) (y : Int32 × gS) => z.1 = nI i ∧ y.1 = nI i ∧ fr wCf u.1 z.2 ∧ fr wRf u.2 y.2 ∧ z.2.1 21 1 = nI n ∧ y.2.1 0 51 = nI n ∧ ∃ T : Nat → Nat → Nat, ∀ p, p < i → okP (T p) ∧ prC (T p) p z.2 ∧ prR (T p) p y.2) n ?_ ?_ (k := 0) (by omega) ⟨rfl, rfl, fr_wI rfl, fr_wI rfl, wI_s, wI_s, fun _ _ => 0, fun p hp => absurd hp (Nat.not_lt_zero p)⟩
  · rintro i ⟨z, σ⟩ ⟨y, τ⟩ hi ⟨rfl, rfl, hf, hg, hz, hw, T, hTT⟩
    dsimp only at hf hg hz hw hTT ⊢
    obtain ⟨s1, d1, f1, c1⟩ := drawC (σ := σ) (seed := a1) (show i < 20 by omega)
    have m0 := (dT_s (seed := a1) (i := i) (j := 0) (by decide)).2.2
    have m1 := (dT_s (seed := a1) (i := i) (j := 1) (by decide)).2.2
    have m2 := (dT_s (seed := a1) (i := i) (j := 2) (by decide)).2.2
    have m3 := (dT_s (seed := a1) (i := i) (j := 3) (by decide)).2.2
    rw [aI_0] at m0
    simp only [show nI (szT 0) = 60 from rfl] at m0
    simp only [show nI (szT 1) = 12 from rfl, show nI 1 = 1 from rfl] at m1
    simp only [show nI (szT 2) = 10 from rfl, show nI 2 = 2 from rfl] at m2
    simp only [show nI (szT 3) = 4 from rfl, show nI 3 = 3 from rfl] at m3
    rw [if_neg (nI_ge hi (by omega)), if_neg (nI_ge hi (by omega)), d1, bn1_s, m0, m1, m2, m3]
    simp only [bn1_s, gx_i (show i < 20 by omega) (show 20 < 2 ^ 31 by decide), nI_clamp (show i < 2 ^ 31 by omega), lt_b]
    generalize hb : wI (wI (wI (wI τ 35 i (nI (dT a1 i 0))) 36 i (nI (dT a1 i 1))) 37 i (nI (dT a1 i 2))) 38 i (nI (dT a1 i 3)) = t0
    have ft0 : fr (rwR i) τ t0 := by
      rw [← hb]
      exact fr_tr (fr_tr (fr_tr (fr_wI (rwR_k (by omega) (by omega))) (fr_wI (rwR_k (by omega) (by omega)))) (fr_wI (rwR_k (by omega) (by omega)))) (fr_wI (rwR_k (by omega) (by omega)))
    have vt0 : t0.1 35 i = nI (dT a1 i 0) ∧ t0.1 36 i = nI (dT a1 i 1) ∧ t0.1 37 i = nI (dT a1 i 2) ∧ t0.1 38 i = nI (dT a1 i 3) := by
      rw [← hb]
      simp [wI_1]
    refine two_r1 (fun r => fr (rwR i) τ r ∧ prR (dT a1 i) i r) ?_ (fun t1 ht1 => ?_)
    · refine lp_cnt (fun k (z : Int32 × gS) => z.1 = nI k ∧ fr (rwR i) τ z.2 ∧ (z.2.1 35 i = nI (dT a1 i 0) ∧ z.2.1 36 i = nI (dT a1 i 1) ∧ z.2.1 37 i = nI (dT a1 i 2) ∧ z.2.1 38 i = nI (dT a1 i 3)) ∧ ∀ j, j < k → z.2.1 39 (8 * i + j) = nI (dT a1 i (4 + j))) 8 ?_ ?_ (k := 0) (by omega) ⟨rfl, ft0, vt0, fun j hj => absurd hj (Nat.not_lt_zero j)⟩
      · rintro k ⟨z, υ⟩ hk ⟨rfl, hf2, hv0, hv⟩
        dsimp only at hf2 hv0 hv ⊢
        have ml := (dT_s (seed := a1) (i := i) (j := 4 + k) (by omega)).2.2
        have e4 : (20 : Int32) * nI i + nI (4 + k) = (20 : Int32) * nI i + 4 + nI k := by
          rw [← nI_add, Int32.add_assoc]; rfl
        have es : szT (4 + k) = 10 := by
          unfold szT
          rw [if_neg (by omega), if_neg (by omega), if_neg (by omega), if_neg (by omega)]
        rw [es, e4] at ml
        simp only [show nI 10 = 10 from rfl] at ml
        rw [if_neg (show ¬ (8 : Int32) ≤ nI k from nI_ge (b := 8) hk (by decide)), ml, bn1_s, show (8 : Int32) = nI 8 from rfl, nI_mulS, nI_add, gx_i (by omega) (by decide), nI_clamp (by omega), nI_1]
        refine ⟨_, rfl, rfl, fr_tr hf2 (fr_wI (rwR_39 hk)), ?_, fun j hj => ?_⟩
        · simp only [wI_1]
          simp
          exact hv0
        · show (wI υ 39 _ _).1 39 _ = _
          rw [wI_1]
          by_cases hc : j = k
          · subst hc; rw [if_pos ⟨rfl, rfl⟩]
          · rw [if_neg (by omega)]; exact hv j (by omega)
      · rintro ⟨z, υ⟩ ⟨rfl, hf2, ⟨hv0, hv1, hv2, hv3⟩, hv⟩
        dsimp only at hf2 hv0 hv1 hv2 hv3 hv ⊢
        rw [if_pos (show (8 : Int32) ≤ nI 8 by decide)]
        exact ⟨_, rfl, hf2, hv0, hv1, hv2, hv3, hv⟩
    · obtain ⟨ft1, pt1⟩ := ht1
      unfold pX4_markBySigns
      refine two_b11 (fun r q => fr (mkC i) σ r ∧ fr (mkR i) τ q ∧ ∃ t, okP t ∧ prC t i r ∧ prR t i q) ?_ (fun r q hrq => ?_)
      · refine lp_two (fun k (z : Int32 × gS) (y : Int32 × gS) => z.1 = nI k ∧ y.1 = nI k ∧ fr (mkC i) σ z.2 ∧ fr (mkR i) τ y.2 ∧ ∃ t, okP t ∧ prC t i z.2 ∧ prR t i y.2) (nSg (aTd A)) ?_ ?_ (k := 0) (by omega) ⟨rfl, rfl, mkC_p f1, mkR_p ft1, dT a1 i, dT_ok, c1, pt1⟩
        · rintro k ⟨z, σ2⟩ ⟨y, τ2⟩ hk ⟨rfl, rfl, hf2, hg2, t, ht1, ht2, ht3⟩
          dsimp only at hf2 hg2 ht2 ht3 ⊢
          obtain ⟨ρ, r1, r2, r3⟩ := tdCw h1 (fr_tr hf (mkC_w hf2))
          obtain ⟨L, l1, l2, l3⟩ := tdRw h2 (fr_tr hg (mkR_w hg2))
          obtain ⟨s3, e3, f3, v3⟩ := setPerT (show i < 20 by omega) ht2
          have f3' : fr scC σ2 s3 := fr_up (fun o k q => o34_sc q) f3
          obtain ⟨ρ', r1', r2', r3'⟩ := tdCw h1 (fr_tr hf (mkC_w (fr_tr hf2 (mkC_s (i := i) f3'))))
          have hwf := hT.2.2.2.1 k hk
          obtain ⟨s4, e4, f4⟩ := valueC (W := Wt t) (tR_24 r1') (show k < 26 by omega) (r3'.2.2.2.1 k hk) v3 (evK_cond (V := Vt t) (fun j hj => Wt_V hj) hwf)
          have f4' : fr scC s3 s4 := fr_up (fun o k q => vfr_sc q) f4
          obtain ⟨t3, g3, k3, w3⟩ := looksT (show i < 20 by omega) ht3
          have hc1 : cnR t3 (26 * L + k) (cnd (aTd A) k) := cnR_fr k3 (fun o k q1 q2 => by simp only [onO, beq_eq_false_iff_ne]; omega) (l3.2.2.2.1 k hk)
          obtain ⟨t4, g4, k4⟩ := holdsR (V := Vt t) (ρ := 26 * L + k) (by omega) hc1 hwf.2 w3
          have e18 : t3.1 0 18 = nI L := (fr_1 k3 rfl).trans l2
          have kS : fr scR τ2 t4 := fr_up (fun o k q => o334_sc q) (fr_tr (o334_3 k3) (o334_4 k4))
          have hup : pX11_isUp (nI k) (nI i) (nI (t 0)) τ2 = some (b01 (tC (Vt t) false (cnd (aTd A) k)), t4) := by
            unfold pX11_isUp
            rw [g3, bn1_s, e18, show (26 : Int32) * nI L + nI k = nI (26 * L + k) by rw [show (26 : Int32) = nI 26 from rfl, nI_mulS, nI_add], g4, bn2_s, b01_a]
          have F1 : fr (mkC i) σ s4 := fr_tr hf2 (mkC_s (fr_tr f3' f4'))
          have F2 : fr (mkR i) τ t4 := fr_tr hg2 (mkR_s kS)
          have P1 := prC_s (fr_tr f3' f4') ht2
          have P2 := prR_s kS ht3
          obtain ⟨x, x1, x2, x3⟩ := lotQ (n := 10) (by decide) (by decide) a1 ((20 : Int32) * nI i + 12 + nI k)
          simp only [show nI 10 = 10 from rfl] at x2 x3
          rw [r2, gT_p r1, r3.1.1, if_neg (nI_ge hk (by omega)), e3, bn1_s, r2', gT_p r1', Int32.zero_add, e4, bn2_s, l2, gx_i l1 (by decide), nI_clamp (show L < 2 ^ 31 by omega), l3.1.1, if_neg (nI_ge hk (by omega)), ht3.1, hup, bn2_s]
          cases hb2 : tC (Vt t) false (cnd (aTd A) k) with
          | false =>
            rw [if_neg (show ¬ b01 false = 1 by decide), bn1_s, if_00, if_b0]
            exact Or.inl ⟨_, _, rfl, rfl, nI_1 k, nI_1 k, F1, F2, t, ht1, P1, P2⟩
          | true =>
            rw [if_pos (show b01 true = 1 from rfl), bn1_s, if_10, if_b1, x2, x3, bn1_s, bn1_s]
            by_cases hst : a3 ≤ nI x
            · rw [if_pos hst, if_pos hst]
              exact Or.inl ⟨_, _, rfl, rfl, nI_1 k, nI_1 k, F1, F2, t, ht1, P1, P2⟩
            · rw [if_neg hst, if_neg hst, show (4 : Int32) = nI 4 from rfl, nI_add, setTraitC (by omega) (by omega), bn1_s, show (8 : Int32) = nI 8 from rfl, nI_mulS, nI_add, gx_i (by omega) (by decide), nI_clamp (by omega)]
              refine Or.inl ⟨_, _, rfl, rfl, nI_1 k, nI_1 k, fr_tr F1 (mkC_p (fr_wI (rwP_in (by omega)))), fr_tr F2 (mkR_p (fr_wI (rwR_39 (by omega)))), fun j => if j = 4 + k then 9 else t j, okP_9 ht1, fun j hj => ?_, ?_⟩
              · show (wI s4 22 _ _).1 22 _ = nI (if j = 4 + k then 9 else t j)
                rw [wI_1]
                by_cases hc : j = 4 + k
                · rw [if_pos ⟨rfl, by omega⟩, if_pos hc]; rfl
                · rw [if_neg (by omega), if_neg hc]; exact P1 j hj
              · obtain ⟨q0, q1, q2, q3, q4⟩ := P2
                have w39 : ∀ o p v, o ≠ 39 → (wI t4 39 (8 * i + k) v).1 o p = t4.1 o p := fun o p v ho => by rw [wI_1, if_neg (fun q => ho q.1)]
                refine ⟨?_, ?_, ?_, ?_, fun j hj => ?_⟩
                · dsimp only; rw [w39 35 i 9 (by decide), q0, if_neg (by omega)]
                · dsimp only; rw [w39 36 i 9 (by decide), q1, if_neg (by omega)]
                · dsimp only; rw [w39 37 i 9 (by decide), q2, if_neg (by omega)]
                · dsimp only; rw [w39 38 i 9 (by decide), q3, if_neg (by omega)]
                · show (wI t4 39 _ _).1 39 _ = nI (if 4 + j = 4 + k then 9 else t (4 + j))
                  rw [wI_1]
                  by_cases hc : j = k
                  · rw [if_pos ⟨rfl, by omega⟩, if_pos (by omega)]; rfl
                  · rw [if_neg (by omega), if_neg (by omega)]; exact q4 j hj
        · rintro ⟨z, σ2⟩ ⟨y, τ2⟩ ⟨rfl, rfl, hf2, hg2, ht⟩
          dsimp only at hf2 hg2 ht ⊢
          obtain ⟨ρ, r1, r2, r3⟩ := tdCw h1 (fr_tr hf (mkC_w hf2))
          obtain ⟨L, l1, l2, l3⟩ := tdRw h2 (fr_tr hg (mkR_w hg2))
          rw [r2, gT_p r1, r3.1.1, if_pos (nI_le (Nat.le_refl _) (by omega)), l2, gx_i l1 (by decide), nI_clamp (by omega), l3.1.1, if_pos (nI_le (Nat.le_refl _) (by omega))]
          exact ⟨_, _, rfl, rfl, hf2, hg2, ht⟩
      · obtain ⟨hf2, hg2, t, q1, q2, q3⟩ := hrq
        refine Or.inl ⟨_, _, rfl, rfl, nI_1 i, nI_1 i, fr_tr hf (mkC_w hf2), fr_tr hg (mkR_w hg2), (fr_1 hf2 rfl).trans hz, (fr_1 hg2 rfl).trans hw, fun p => if p = i then t else T p, fun p hp => ?_⟩
        by_cases hc : p = i
        · subst hc
          simp only [if_true]
          exact ⟨q1, q2, q3⟩
        · simp only [if_neg hc]
          obtain ⟨z1, z2, z3⟩ := hTT p (by omega)
          exact ⟨z1, prC_o hc hf2 z2, prR_o hc hg2 z3⟩
  · rintro ⟨z, σ⟩ ⟨y, τ⟩ ⟨rfl, rfl, hf, hg, hz, hw, T, hTT⟩
    dsimp only at hf hg hz hw hTT ⊢
    rw [if_pos (nI_le (Nat.le_refl _) (by omega)), if_pos (nI_le (Nat.le_refl _) (by omega))]
    refine ⟨_, _, rfl, rfl, _, _, _, rfl, rfl, setP A n T, ⟨ho.1, ⟨hn, fun p hp => (hTT p hp).1⟩, ho.2.2⟩, RC_ppl h1 hf (fun o k q1 q2 => wCf_us q1 q2) hz (fun p j hp hj => (hTT p hp).2.1 j hj), RR_ppl h2 hg (fun o k q1 q2 => wRf_us q1 q2) hw (fun p hp => (hTT p hp).2.2)⟩
