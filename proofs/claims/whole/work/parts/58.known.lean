/-! WHAT IS KNOWN: isFact, know; sums -/
theorem aI_0 (a : Int32) : a + nI 0 = a := by
  show a + 0 = a
  exact Int32.add_zero a
/-- a loop that adds up -/
theorem lp_sum {f : Int32 × Int32 → Option ((Int32 × Int32) ⊕ Int32)} (w : Nat → Nat) (N : Nat) (a0 : Int32) (step : ∀ k a, k < N → f (nI k, a) = some (.inl (nI (k + 1), a + nI (w k)))) (fin : ∀ a, f (nI N, a) = some (.inr a)) : lpP f ((0 : Int32), a0) = some (a0 + nI (fb_sm w N)) := by
  have h := lp_seq (f := f) (fun k => (nI k, a0 + nI (fb_sm w k))) N (r := a0 + nI (fb_sm w N)) (fun k hk => by
    rw [step k _ hk, fb_sm_succ, ← nI_add (fb_sm w k) (w k), ← Int32.add_assoc]) (fin _)
  have e : (nI 0, a0 + nI (fb_sm w 0)) = ((0 : Int32), a0) := by
    show (nI 0, a0 + nI 0) = _
    rw [aI_0]; rfl
  rw [← e]
  exact h
theorem lp_bnS {S T R : Type} {f : S → Option (S ⊕ (T ⊕ R))} {s : S} {g : T → Option R} {v : Option R} (h : ∃ r, lpP f s = some r ∧ bnS (some r) g = v) : bnS (lpP f s) g = v := by
  obtain ⟨r, e, h⟩ := h
  rw [e]; exact h
theorem lp_bn1 {S T R : Type} {f : S → Option (S ⊕ T)} {s : S} {g : T → Option R} {v : Option R} (h : ∃ r, lpP f s = some r ∧ g r = v) : bn1 (lpP f s) g = v := by
  obtain ⟨r, e, h⟩ := h
  rw [e]; exact h
/-- a VOID among the first n names k -/
def vd (A : Abs) (n k : Nat) : Bool := (List.range n).any (fun j => aFk A j == 5 && aFa A j == k)
theorem vd_iff {A : Abs} {n k : Nat} : vd A n k = true ↔ ∃ j, j < n ∧ aFk A j = 5 ∧ aFa A j = k := by
  simp [vd, List.any_eq_true]
/-- FACT k is KNOWN by n -/
def kn (A : Abs) (n k : Nat) : Bool := decide (k < n) && !vd A n k
theorem b01_t : b01 true = 1 := rfl
theorem b01_f : b01 false = 0 := rfl
theorem isFactR {A : Abs} {τ : gS} {k n s : Nat} (ho : okA A) (h : RR A τ) (hn : n ≤ aFn A) (hk : k < n) (hs : s < 10) : pX11_isFact (nI k) (nI s) (nI n) τ = some (b01 (decide (kR (aFk A k) = s) && kn A n k)) := by
  have h60 := ho.2.2.1.1
  have hkr : ∀ i, i < aFn A → kR (aFk A i) ≤ 4 := fun i hi => by
    have := (ho.2.2.1.2 i hi).2.2.2.2
    unfold kR; split <;> omega
  unfold pX11_isFact
  rw [gx_i (by omega) (by decide), nI_clamp (by omega), (h.2.2.1.2 k (by omega)).1]
  by_cases hc : kR (aFk A k) = s
  · rw [if_pos (by rw [hc]), lt_b, nI_1, decide_eq_true hc, Bool.true_and]
    unfold kn
    rw [decide_eq_true hk, Bool.true_and]
    apply lp_bnS
    refine lp_cntE (fun j (z : Int32) => z = nI j ∧ ∀ i, i < j → ¬ (aFk A i = 5 ∧ aFa A i = k)) n ?_ ?_ (k := k + 1) (by omega) ⟨rfl, fun i hi q => ?_⟩
    · rintro j z hj ⟨rfl, hI⟩
      obtain ⟨g1, g2, -, -⟩ := h.2.2.1.2 j (by omega)
      rw [if_neg (nI_ge hj (by omega)), gx_i (by omega) (by decide), nI_clamp (by omega), g1, g2]
      have h4 : nI (kR (aFk A j)) = (4 : Int32) ↔ aFk A j = 5 := by
        have a1 := hkr j (by omega)
        have a2 := (ho.2.2.1.2 j (by omega)).2.2.2.2
        refine ⟨fun q => ?_, fun q => by rw [q]; rfl⟩
        have := (nI_eq (b := 4) (by omega) (by decide)).mp q
        unfold kR at this
        split at this <;> omega
      have hlt : aFa A j < 2 ^ 31 := by
        obtain ⟨x1, x2, x3, x4, x5⟩ := ho.2.2.1.2 j (by omega)
        rcases (show aFk A j ≤ 1 ∨ (aFk A j = 2 ∨ aFk A j = 3) ∨ aFk A j = 4 ∨ aFk A j = 5 by omega) with q | q | q | q
        · have := (x1 q).1; omega
        · have := (x2 q).1; omega
        · have := (x3 q).1; omega
        · have := (x4 q).1; omega
      by_cases h5 : aFk A j = 5
      · rw [if_pos (h4.mpr h5), gx_i (by omega) (by decide)]
        by_cases ha : aFa A j = k
        · rw [if_pos (by rw [ha])]
          exact Or.inr ⟨_, rfl, by rw [vd_iff.mpr ⟨j, hj, h5, ha⟩]; rfl⟩
        · rw [if_neg (fun q => ha ((nI_eq hlt (by omega)).mp q)), lt_b, nI_1]
          refine Or.inl ⟨_, rfl, rfl, fun i hi q => ?_⟩
          rcases Nat.lt_or_ge i j with z | z
          · exact hI i z q
          · rw [show i = j by omega] at q; exact ha q.2
      · rw [if_neg (fun q => h5 (h4.mp q)), lt_b, nI_1]
        refine Or.inl ⟨_, rfl, rfl, fun i hi q => ?_⟩
        rcases Nat.lt_or_ge i j with z | z
        · exact hI i z q
        · rw [show i = j by omega] at q; exact h5 q.1
    · rintro z ⟨rfl, hI⟩
      rw [if_pos (nI_le (Nat.le_refl n) (by omega))]
      refine ⟨_, rfl, ?_⟩
      have hv : vd A n k = false := by
        rcases Bool.eq_false_or_eq_true (vd A n k) with q | q
        · obtain ⟨j, j1, j2⟩ := vd_iff.mp q
          exact absurd j2 (hI j j1)
        · exact q
      rw [hv]; rfl
    · have := ((ho.2.2.1.2 i (by omega)).2.2.2.1 q.1).1
      omega
  · have := hkr k (by omega)
    rw [if_neg (fun q => hc ((nI_eq (by omega) (by omega)).mp q)), decide_eq_false hc]
    rfl
def c43 (o _k : Nat) : Bool := o == 43
theorem c43_sc {o k : Nat} (h : scC o k = false) : c43 o k = false := by
  simp only [scC, c43, Bool.or_eq_false_iff] at h ⊢
  exact h.1.1.1.1.1.2
theorem knowC {A : Abs} {σ : gS} {n : Nat} (ho : okA A) (h : RC A σ) (hn : n ≤ aFn A) : ∃ σ', pX1_know (nI n) σ = some σ' ∧ fr c43 σ σ' ∧ RC A σ' ∧ ∀ i, i < aFn A → σ'.1 43 i = b01 (kn A n i) := by
  have h60 := ho.2.2.1.1
  have hus : ∀ o k, usC o k = true → c43 o k = false := fun o k q => c43_sc (scC_us q)
  unfold pX1_know
  have L1 : ∃ r, lpP (fun (z2 : (Int32 × gS)) => if (z2.2.1 39 4) ≤ z2.1 then (some (.inr z2.2) : Option ((Int32 × gS) ⊕ gS)) else if nI n ≤ z2.1 then gx z2.1 60 (lt' (wI z2.2 43 z2.1.toNatClampNeg ((0 : Int32) &&& 1)) (fun s3 => lt' (z2.1 + (1 : Int32)) (fun x4 => some (.inl (x4, s3))))) else gx z2.1 60 (lt' (wI z2.2 43 z2.1.toNatClampNeg ((1 : Int32) &&& 1)) (fun s5 => lt' (z2.1 + (1 : Int32)) (fun x6 => some (.inl (x6, s5)))))) ((0 : Int32), σ) = some r ∧ (fr c43 σ r ∧ ∀ i, i < aFn A → r.1 43 i = b01 (decide (i < n))) := by
    refine lp_cnt (fun k (z : Int32 × gS) => z.1 = nI k ∧ fr c43 σ z.2 ∧ ∀ i, i < k → z.2.1 43 i = b01 (decide (i < n))) (aFn A) ?_ ?_ (k := 0) (by omega) ⟨rfl, fr_rf, fun i hi => absurd hi (Nat.not_lt_zero i)⟩
    · rintro k ⟨z, τ⟩ hk ⟨rfl, hf, hv⟩
      dsimp only at hf hv ⊢
      have e1 : τ.1 39 4 = nI (aFn A) := (fr_1 hf rfl).trans h.2.2.1.1
      have fin : ∀ b : Bool, decide (k < n) = b → fr c43 σ (wI τ 43 k (b01 b)) ∧ ∀ i, i < k + 1 → (wI τ 43 k (b01 b)).1 43 i = b01 (decide (i < n)) := by
        intro b hb
        refine ⟨fr_tr hf (fr_wI rfl), fun i hi => ?_⟩
        rw [wI_1]
        by_cases hc : i = k
        · subst hc; rw [if_pos ⟨rfl, rfl⟩, hb]
        · rw [if_neg (fun q => hc q.2)]; exact hv i (by omega)
      rw [e1, if_neg (nI_ge hk (by omega))]
      by_cases hc : n ≤ k
      · rw [if_pos (nI_le hc (by omega)), gx_i (by omega) (by decide), lt_b, lt_b, nI_clamp (by omega), nI_1]
        exact ⟨_, rfl, rfl, fin false (decide_eq_false (by omega))⟩
      · rw [if_neg (nI_ge (by omega) (by omega)), gx_i (by omega) (by decide), lt_b, lt_b, nI_clamp (by omega), nI_1]
        exact ⟨_, rfl, rfl, fin true (decide_eq_true (by omega))⟩
    · rintro ⟨z, τ⟩ ⟨rfl, hf, hv⟩
      dsimp only at hf hv ⊢
      have e1 : τ.1 39 4 = nI (aFn A) := (fr_1 hf rfl).trans h.2.2.1.1
      rw [e1, if_pos (nI_le (Nat.le_refl _) (by omega))]
      exact ⟨_, rfl, hf, hv⟩
  obtain ⟨s1, e1, f1, v1⟩ := L1
  rw [e1, bn1_s]
  have h1 : RC A s1 := RC_fr f1 hus h
  suffices hs : ∃ r, lpP _ ((0 : Int32), s1) = some r ∧ (fr c43 s1 r ∧ ∀ i, i < aFn A → r.1 43 i = b01 (kn A n i)) by
    obtain ⟨r, e2, f2, v2⟩ := hs
    exact ⟨r, by rw [e2, bn1_s], fr_tr f1 f2, RC_fr f2 hus h1, v2⟩
  refine lp_cnt (fun k (z : Int32 × gS) => z.1 = nI k ∧ fr c43 s1 z.2 ∧ ∀ i, i < aFn A → z.2.1 43 i = b01 (decide (i < n) && !vd A k i)) n ?_ ?_ (k := 0) (by omega) ⟨rfl, fr_rf, fun i hi => ?_⟩
  · rintro k ⟨z, τ⟩ hk ⟨rfl, hf, hv⟩
    dsimp only at hf hv ⊢
    have hR : RC A τ := RC_fr hf hus h1
    obtain ⟨g1, g2, -⟩ := hR.2.2.1.2 k (by omega)
    have hk5 := (ho.2.2.1.2 k (by omega)).2.2.2.2
    have vs : ∀ i, vd A (k + 1) i = (vd A k i || (aFk A k == 5 && aFa A k == i)) := fun i => by
      simp [vd, List.range_succ, List.any_append]
    rw [if_neg (nI_ge hk (by omega)), hR.2.2.1.1, if_neg (nI_ge (by omega) (by omega)), gx_i (by omega) (by decide), nI_clamp (by omega), g1, g2, hasF ho hR, bn1_s]
    by_cases h5 : aFk A k = 5
    · have ha := ((ho.2.2.1.2 k (by omega)).2.2.2.1 h5).1
      have hx : ixB (aFn A) (nI (aFa A k)) = true := by rw [ix_nI (by omega)]; exact decide_eq_true (by omega)
      rw [if_pos (show nI (aFk A k) = (5 : Int32) by rw [h5]; rfl), gx_i (by omega) (by decide), hx, if_b1, gx_i (by omega) (by decide), gx_i (by omega) (by decide), lt_b, lt_b, nI_clamp (by omega), nI_1]
      refine ⟨_, rfl, rfl, fr_tr hf (fr_wI rfl), fun i hi => ?_⟩
      show (wI τ 43 (aFa A k) 0).1 43 i = _
      rw [wI_1, vs]
      by_cases hc : i = aFa A k
      · rw [if_pos ⟨rfl, hc⟩]
        simp [h5, hc, b01]
      · rw [if_neg (fun q => hc q.2), hv i hi]
        have : (aFa A k == i) = false := by simpa using fun q => hc q.symm
        rw [this, Bool.and_false, Bool.or_false]
    · rw [if_neg (show ¬ nI (aFk A k) = (5 : Int32) from fun q => h5 ((nI_eq (b := 5) (by omega) (by decide)).mp q)), lt_b, nI_1]
      refine ⟨_, rfl, rfl, hf, fun i hi => ?_⟩
      have : (aFk A k == 5) = false := by simpa using h5
      show τ.1 43 i = _
      rw [hv i hi, vs, this, Bool.false_and, Bool.or_false]
  · rintro ⟨z, τ⟩ ⟨rfl, hf, hv⟩
    dsimp only at hf hv ⊢
    rw [if_pos (nI_le (Nat.le_refl _) (by omega))]
    exact ⟨_, rfl, hf, hv⟩
  · show s1.1 43 i = _
    rw [v1 i hi]
    simp [vd]
theorem canC {A : Abs} {σ : gS} {p : Int32} (ho : okA A) (h : RC A σ) : pX1_canKnow p σ = some (b01 (ixB (aFn A + 1) p)) := by
  have h60 := ho.2.2.1.1
  unfold pX1_canKnow
  rw [h.2.2.1.1]
  have e := has_i (n := aFn A + 1) (p := p) (by omega)
  rw [← e]
  have : (nI (aFn A) < p) ↔ (nI (aFn A + 1) ≤ p) := by
    rw [fa_lt, fa_le, nI_toInt (by omega), nI_toInt (by omega)]
    omega
  by_cases hc : nI (aFn A) < p
  · rw [if_pos hc, if_pos (this.mp hc)]
  · rw [if_neg hc, if_neg (fun q => hc (this.mpr q))]
theorem canR {A : Abs} {τ : gS} {p : Int32} (ho : okA A) (h : RR A τ) : pX11_isKnown p τ = some (b01 (ixB (aFn A + 1) p)) := by
  have h60 := ho.2.2.1.1
  unfold pX11_isKnown
  rw [inRR, bn1_s, h.2.2.1.1, in0L (by omega), b01_a]
