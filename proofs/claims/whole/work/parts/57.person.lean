/-! person -/
theorem setTraitC {σ : gS} {p j : Nat} {v : Int32} (hp : p < 20) (hj : j < 12) : pX2_setTrait (nI p) (nI j) v σ = some (wI σ 22 (p * 12 + j) v) := by
  unfold pX2_setTrait
  have h1 : (0 : Int32) ≤ nI p ∧ nI p ≤ 19 := ⟨nI_pos' (by omega), nI_le (b := 19) (by omega) (by decide)⟩
  have h2 : (0 : Int32) ≤ nI j ∧ nI j ≤ 11 := ⟨nI_pos' (by omega), nI_le (b := 11) (by omega) (by decide)⟩
  rw [inR, bn1_s, if_pos h1, if_10, inR, bn1_s, if_pos h2, if_10, show (12 : Int32) = nI 12 from rfl, pk_mul, nI_add, gx_i (by omega) (by decide), nI_clamp (by omega), lt_b]
def rowP (p o k : Nat) : Bool := o == 22 && (decide (p * 12 + 4 ≤ k) && decide (k < p * 12 + 12))
theorem setWaysC {σ : gS} {p d : Nat} (hp : p < 20) (hd : d < 100000000) : ∃ σ', pX2_setWays (nI p) (nI d) σ = some σ' ∧ fr (rowP p) σ σ' ∧ ∀ j, j < 8 → σ'.1 22 (p * 12 + (4 + j)) = nI (d / 10 ^ j % 10) := by
  unfold pX2_setWays
  suffices hs : ∃ r, lpP _ ((0 : Int32), nI d, σ) = some r ∧ (fr (rowP p) σ r ∧ ∀ j, j < 8 → r.1 22 (p * 12 + (4 + j)) = nI (d / 10 ^ j % 10)) by
    obtain ⟨r, e1, e2, e3⟩ := hs
    exact ⟨r, by rw [e1, bn1_s], e2, e3⟩
  refine lp_cnt (fun k (z : Int32 × Int32 × gS) => z.1 = nI k ∧ z.2.1 = nI (d / 10 ^ k) ∧ fr (rowP p) σ z.2.2 ∧ ∀ j, j < k → z.2.2.1 22 (p * 12 + (4 + j)) = nI (d / 10 ^ j % 10)) 8 ?_ ?_ (k := 0) (by omega) ⟨rfl, by simp, fr_rf, fun j hj => absurd hj (Nat.not_lt_zero j)⟩
  · rintro k ⟨w, r, τ⟩ hk ⟨rfl, rfl, hf, hv⟩
    dsimp only at hf hv ⊢
    have hdk : d / 10 ^ k < 2 ^ 31 := by have := Nat.div_le_self d (10 ^ k); omega
    rw [if_neg (show ¬ (8 : Int32) ≤ nI k from nI_ge (b := 8) hk (by decide)), g0_p (by decide), show (4 : Int32) = nI 4 from rfl, nI_add, show (10 : Int32) = nI 10 from rfl, pk_rem hdk (by decide) (by decide), setTraitC hp (by omega), bn1_s, g0_p (by decide), lt_b, lt_b, pk_div hdk (by decide) (by decide), nI_1]
    refine ⟨_, rfl, rfl, ?_, fr_tr hf (fr_wI ?_), fun j hj => ?_⟩
    · rw [Nat.div_div_eq_div_mul, ← Nat.pow_succ]
    · show (22 == 22 && (decide (p * 12 + 4 ≤ p * 12 + (4 + k)) && decide (p * 12 + (4 + k) < p * 12 + 12))) = true
      rw [decide_eq_true (show p * 12 + 4 ≤ p * 12 + (4 + k) by omega), decide_eq_true (show p * 12 + (4 + k) < p * 12 + 12 by omega)]
      rfl
    · show (wI τ 22 (p * 12 + (4 + k)) _).1 22 (p * 12 + (4 + j)) = _
      rw [wI_1]
      by_cases hc : j = k
      · subst hc; rw [if_pos ⟨rfl, rfl⟩]
      · rw [if_neg (by omega)]; exact hv j (by omega)
  · rintro ⟨w, r, τ⟩ ⟨rfl, -, hf, hv⟩
    dsimp only at hf hv ⊢
    rw [if_pos (show (8 : Int32) ≤ nI 8 by decide)]
    exact ⟨_, rfl, hf, hv⟩
def rowR (p o k : Nat) : Bool := o == 39 && (decide (8 * p ≤ k) && decide (k < 8 * p + 8))
theorem setWaysR {σ : gS} {p d : Nat} (hp : p < 20) (hd : d < 100000000) (h0 : σ.1 0 51 = nI p) : ∃ σ', lpP (fun (z16 : (Int32 × Int32 × gS)) => if (8 : Int32) ≤ z16.1 then (some (.inr z16.2.2) : Option ((Int32 × Int32 × gS) ⊕ gS)) else g0 (10 : Int32) (gx (((8 : Int32) * (z16.2.2.1 0 51)) + z16.1) 160 (lt' (wI z16.2.2 39 (((8 : Int32) * (z16.2.2.1 0 51)) + z16.1).toNatClampNeg (z16.2.1 - z16.2.1 / (10 : Int32) * (10 : Int32))) (fun s17 => g0 (10 : Int32) (lt' (z16.2.1 / (10 : Int32)) (fun x18 => lt' (z16.1 + (1 : Int32)) (fun x19 => some (.inl (x19, x18, s17))))))))) ((0 : Int32), nI d, σ) = some σ' ∧ fr (rowR p) σ σ' ∧ ∀ j, j < 8 → σ'.1 39 (8 * p + j) = nI (d / 10 ^ j % 10) := by
  refine lp_cnt (fun k (z : Int32 × Int32 × gS) => z.1 = nI k ∧ z.2.1 = nI (d / 10 ^ k) ∧ fr (rowR p) σ z.2.2 ∧ ∀ j, j < k → z.2.2.1 39 (8 * p + j) = nI (d / 10 ^ j % 10)) 8 ?_ ?_ (k := 0) (by omega) ⟨rfl, by simp, fr_rf, fun j hj => absurd hj (Nat.not_lt_zero j)⟩
  · rintro k ⟨w, r, τ⟩ hk ⟨rfl, rfl, hf, hv⟩
    dsimp only at hf hv ⊢
    have hdk : d / 10 ^ k < 2 ^ 31 := by have := Nat.div_le_self d (10 ^ k); omega
    have h51 : τ.1 0 51 = nI p := (fr_1 hf (by simp [rowR])).trans h0
    rw [if_neg (show ¬ (8 : Int32) ≤ nI k from nI_ge (b := 8) hk (by decide)), g0_p (by decide), h51, show (8 : Int32) = nI 8 from rfl, pk_mul, nI_add, show (10 : Int32) = nI 10 from rfl, pk_rem hdk (by decide) (by decide), gx_i (by omega) (by decide), lt_b, nI_clamp (by omega), g0_p (by decide), lt_b, lt_b, pk_div hdk (by decide) (by decide), nI_1]
    refine ⟨_, rfl, rfl, ?_, fr_tr hf (fr_wI ?_), fun j hj => ?_⟩
    · rw [Nat.div_div_eq_div_mul, ← Nat.pow_succ]
    · show (39 == 39 && (decide (8 * p ≤ 8 * p + k) && decide (8 * p + k < 8 * p + 8))) = true
      rw [decide_eq_true (show 8 * p ≤ 8 * p + k by omega), decide_eq_true (show 8 * p + k < 8 * p + 8 by omega)]
      rfl
    · show (wI τ 39 (8 * p + k) _).1 39 (8 * p + j) = _
      rw [wI_1]
      by_cases hc : j = k
      · subst hc; rw [if_pos ⟨rfl, rfl⟩]
      · rw [if_neg (by omega)]; exact hv j (by omega)
  · rintro ⟨w, r, τ⟩ ⟨rfl, -, hf, hv⟩
    dsimp only at hf hv ⊢
    rw [if_pos (show (8 : Int32) ≤ nI 8 by decide)]
    exact ⟨_, rfl, hf, hv⟩
/-- a PERSON's traits out of what is said -/
def newT (m mo y c d j : Nat) : Nat := if j = 0 then m else if j = 1 then mo else if j = 2 then y else if j = 3 then c else d / 10 ^ (j - 4) % 10
theorem newT_ok {m mo y c d : Nat} (h1 : m < 60) (h2 : mo < 12) (h3 : y < 10) (h4 : c < 4) : okP (newT m mo y c d) := by
  refine ⟨h1, h2, h3, h4, fun j hj1 hj2 => ?_⟩
  unfold newT
  rw [if_neg (by omega), if_neg (by omega), if_neg (by omega), if_neg (by omega)]
  exact Nat.mod_lt _ (by decide)
theorem h_4 {a1 a2 a3 a4 a5 : Int32} {u : gS × gS} (hu : Inv u) : ∃ t, q4 a1 a2 a3 a4 a5 u = some (.inl t) ∧ Inv t := by
  obtain ⟨A, ho, h1, h2⟩ := hu
  have hn := ho.2.1.1
  have no : Inv (u.1, u.2) := ⟨A, ho, h1, h2⟩
  suffices hs : ∃ v s1 s2, pX10_person a1 a2 a3 a4 a5 u.1 = some (v, s1) ∧ pX11_person a1 a2 a3 a4 a5 u.2 = some (v, s2) ∧ Inv (s1, s2) by
    obtain ⟨v, s1, s2, e1, e2, e3⟩ := hs
    exact ⟨(s1, s2), qII e1 e2, e3⟩
  unfold pX10_person pX11_person
  simp only [inR, inRR, bn1_s, in_b]
  rw [h1.2.1.1, h2.2.1.1]
  by_cases hf : aPn A = 20
  · rw [if_pos (show (20 : Int32) ≤ nI (aPn A) by rw [hf]; decide), if_pos (show nI (aPn A) = (20 : Int32) by rw [hf]; rfl)]
    exact ⟨-1, u.1, u.2, rfl, rfl, no⟩
  rw [if_neg (show ¬ (20 : Int32) ≤ nI (aPn A) from nI_ge (b := 20) (by omega) (by decide)), if_neg (show ¬ nI (aPn A) = (20 : Int32) from fun q => hf ((nI_eq (b := 20) (by omega) (by decide)).mp q))]
  by_cases k1 : (0 : Int32) ≤ a1 ∧ a1 ≤ 59
  case neg =>
    simp only [decide_eq_false k1, if_b0]
    refine ⟨-1, u.1, u.2, ?_, rfl, no⟩
    split
    · rfl
    · split <;> rfl
  by_cases k2 : (0 : Int32) ≤ a2 ∧ a2 ≤ 11
  case neg =>
    simp only [decide_eq_true k1, decide_eq_false k2, if_b0, if_b1]
    refine ⟨-1, u.1, u.2, ?_, rfl, no⟩
    split
    · rfl
    · split <;> rfl
  by_cases k3 : (0 : Int32) ≤ a3 ∧ a3 ≤ 9
  case neg =>
    simp only [decide_eq_true k1, decide_eq_true k2, decide_eq_false k3, if_b0, if_b1]
    refine ⟨-1, u.1, u.2, ?_, rfl, no⟩
    split
    · rfl
    · split <;> rfl
  by_cases k4 : (0 : Int32) ≤ a4 ∧ a4 ≤ 3
  case neg =>
    simp only [decide_eq_true k1, decide_eq_true k2, decide_eq_true k3, decide_eq_false k4, if_b0, if_b1]
    refine ⟨-1, u.1, u.2, ?_, rfl, no⟩
    split
    · rfl
    · split <;> rfl
  by_cases k5 : (0 : Int32) ≤ a5 ∧ a5 ≤ 99999999
  case neg =>
    simp only [decide_eq_true k1, decide_eq_true k2, decide_eq_true k3, decide_eq_true k4, decide_eq_false k5, if_b0, if_b1]
    refine ⟨-1, u.1, u.2, ?_, rfl, no⟩
    by_cases z : a5 < 0
    · rw [if_pos z]
    · rw [if_neg z, if_neg (fun q => k5 ⟨Int32.not_lt.mp z, q⟩)]
  simp only [decide_eq_true k1, decide_eq_true k2, decide_eq_true k3, decide_eq_true k4, decide_eq_true k5, if_b1]
  rw [if_neg (Int32.not_lt.mpr k5.1), if_pos k5.2]
  obtain ⟨m, -, m2, rfl⟩ := in_T (a := 0) (c := 59) (by decide) (by decide) k1
  obtain ⟨mo, -, mo2, rfl⟩ := in_T (a := 0) (c := 11) (by decide) (by decide) k2
  obtain ⟨y, -, y2, rfl⟩ := in_T (a := 0) (c := 9) (by decide) (by decide) k3
  obtain ⟨c, -, c2, rfl⟩ := in_T (a := 0) (c := 3) (by decide) (by decide) k4
  obtain ⟨d, -, d2, rfl⟩ := in_T (a := 0) (c := 99999999) (by decide) (by decide) k5
  have hp : aPn A < 20 := by omega
  -- the class
  rw [lt_b, lt_b, nI_1]
  generalize e0 : wI u.1 21 1 (nI (aPn A + 1)) = s0
  rw [show (0 : Int32) = nI 0 from rfl, setTraitC hp (by decide), bn1_s, show (1 : Int32) = nI 1 from rfl, setTraitC hp (by decide), bn1_s, show (2 : Int32) = nI 2 from rfl, setTraitC hp (by decide), bn1_s, show (3 : Int32) = nI 3 from rfl, setTraitC hp (by decide), bn1_s]
  generalize e4 : wI (wI (wI (wI s0 22 (aPn A * 12 + 0) (nI m)) 22 (aPn A * 12 + 1) (nI mo)) 22 (aPn A * 12 + 2) (nI y)) 22 (aPn A * 12 + 3) (nI c) = s4
  obtain ⟨s5, w1, w2, w3⟩ := setWaysC (σ := s4) (p := aPn A) (d := d) hp (by omega)
  rw [w1, bn1_s]
  have v4 : ∀ o k, s4.1 o k = if o = 22 ∧ k = aPn A * 12 + 3 then nI c else if o = 22 ∧ k = aPn A * 12 + 2 then nI y else if o = 22 ∧ k = aPn A * 12 + 1 then nI mo else if o = 22 ∧ k = aPn A * 12 + 0 then nI m else if o = 21 ∧ k = 1 then nI (aPn A + 1) else u.1.1 o k := by
    intro o k
    rw [← e4, wI_1, wI_1, wI_1, wI_1, ← e0, wI_1]
  have fC : fr ppC u.1 s5 := by
    refine fr_tr (τ := s4) ?_ (fr_up (fun o k hq => ?_) w2)
    · rw [← e4, ← e0]
      exact fr_tr (fr_tr (fr_tr (fr_tr (fr_wI rfl) (fr_wI rfl)) (fr_wI rfl)) (fr_wI rfl)) (fr_wI rfl)
    · have : (o == 22) = false := by
        simp only [ppC, Bool.or_eq_false_iff] at hq
        exact hq.2
      unfold rowP
      rw [this]; rfl
  have vC : ∀ p j, p < aPn A + 1 → j < 12 → s5.1 22 (p * 12 + j) = nI (if p = aPn A then newT m mo y c d j else aPt A p j) := by
    intro p j hp' hj
    by_cases hpe : p = aPn A
    · rw [if_pos hpe]
      subst hpe
      by_cases h4 : 4 ≤ j
      · have := w3 (j - 4) (by omega)
        rw [show 4 + (j - 4) = j by omega] at this
        rw [this]
        unfold newT
        rw [if_neg (by omega), if_neg (by omega), if_neg (by omega), if_neg (by omega)]
      · rw [fr_1 w2 (show rowP (aPn A) 22 (aPn A * 12 + j) = false by unfold rowP; rw [decide_eq_false (show ¬ aPn A * 12 + 4 ≤ aPn A * 12 + j by omega)]; rfl), v4]
        rcases (show j = 0 ∨ j = 1 ∨ j = 2 ∨ j = 3 by omega) with rfl | rfl | rfl | rfl
        · rw [if_neg (by omega), if_neg (by omega), if_neg (by omega), if_pos (by omega)]; rfl
        · rw [if_neg (by omega), if_neg (by omega), if_pos (by omega)]; rfl
        · rw [if_neg (by omega), if_pos (by omega)]; rfl
        · rw [if_pos (by omega)]; rfl
    · rw [if_neg hpe, fr_1 w2 (show rowP (aPn A) 22 (p * 12 + j) = false by unfold rowP; rw [decide_eq_false (show ¬ aPn A * 12 + 4 ≤ p * 12 + j by omega)]; rfl), v4, if_neg (by omega), if_neg (by omega), if_neg (by omega), if_neg (by omega), if_neg (by omega)]
      exact h1.2.1.2 p j (by omega) hj
  have nC : s5.1 21 1 = nI (aPn A + 1) := by
    rw [fr_1 w2 (show rowP (aPn A) 21 1 = false from rfl), v4, if_neg (by omega), if_neg (by omega), if_neg (by omega), if_neg (by omega), if_pos (by omega)]
  -- the reference
  rw [gx_i hp (by decide), lt_b, nI_clamp (by omega)]
  generalize g1 : wI u.2 35 (aPn A) (nI m) = r1
  have n1 : r1.1 0 51 = nI (aPn A) := by rw [← g1, wI_1, if_neg (by omega), h2.2.1.1]
  rw [n1, gx_i hp (by decide), lt_b, nI_clamp (by omega)]
  generalize g2 : wI r1 36 (aPn A) (nI mo) = r2
  have n2 : r2.1 0 51 = nI (aPn A) := by rw [← g2, wI_1, if_neg (by omega), n1]
  rw [n2, gx_i hp (by decide), lt_b, nI_clamp (by omega)]
  generalize g3 : wI r2 37 (aPn A) (nI y) = r3
  have n3 : r3.1 0 51 = nI (aPn A) := by rw [← g3, wI_1, if_neg (by omega), n2]
  rw [n3, gx_i hp (by decide), lt_b, nI_clamp (by omega)]
  generalize g4 : wI r3 38 (aPn A) (nI c) = r4
  have n4 : r4.1 0 51 = nI (aPn A) := by rw [← g4, wI_1, if_neg (by omega), n3]
  obtain ⟨r5, x1, x2, x3⟩ := setWaysR (σ := r4) (p := aPn A) (d := d) hp (by omega) n4
  have x1' := x1
  simp only [show (0 : Int32) = nI 0 from rfl, show (1 : Int32) = nI 1 from rfl] at x1' ⊢
  rw [x1', bn1_s, lt_b]
  have n5 : r5.1 0 51 = nI (aPn A) := (fr_1 x2 (by simp [rowR])).trans n4
  rw [n5, wI_s, nI_add, pk_sub (by omega)]
  have vR4 : ∀ o k, r4.1 o k = if o = 38 ∧ k = aPn A then nI c else if o = 37 ∧ k = aPn A then nI y else if o = 36 ∧ k = aPn A then nI mo else if o = 35 ∧ k = aPn A then nI m else u.2.1 o k := by
    intro o k
    rw [← g4, wI_1, ← g3, wI_1, ← g2, wI_1, ← g1, wI_1]
  have fR : fr ppR u.2 (wI r5 0 51 (nI (aPn A + 1))) := by
    refine fr_tr (τ := r5) (fr_tr (τ := r4) ?_ (fr_up (fun o k hq => ?_) x2)) (fr_wI rfl)
    · rw [← g4, ← g3, ← g2, ← g1]
      exact fr_tr (fr_tr (fr_tr (fr_wI rfl) (fr_wI rfl)) (fr_wI rfl)) (fr_wI rfl)
    · have : (o == 39) = false := by
        simp only [ppR, Bool.or_eq_false_iff, Bool.and_eq_false_iff, beq_eq_false_iff_ne, decide_eq_false_iff_not] at hq
        rw [beq_eq_false_iff_ne]
        omega
      unfold rowR
      rw [this]; rfl
  refine ⟨nI (aPn A), s5, wI r5 0 51 (nI (aPn A + 1)), rfl, rfl, setP A (aPn A + 1) (fun p j => if p = aPn A then newT m mo y c d j else aPt A p j), ⟨ho.1, ⟨by show aPn A + 1 ≤ 20; omega, fun p hp' => ?_⟩, ho.2.2⟩, RC_ppl h1 fC (fun o k _ q => q) nC vC, RR_ppl h2 fR (fun o k _ q => q) wI_s (fun p hp' => ?_)⟩
  · have hp2 : p < aPn A + 1 := hp'
    show okP (fun j => if p = aPn A then newT m mo y c d j else aPt A p j)
    by_cases hpe : p = aPn A
    · simp only [hpe, if_true]
      exact newT_ok (by omega) (by omega) (by omega) (by omega)
    · simp only [if_neg hpe]
      exact ho.2.1.2 p (by omega)
  · have hrow : ∀ o, o ≠ 39 → ∀ k, rowR (aPn A) o k = false := fun o h k => by
      unfold rowR
      rw [beq_eq_false_iff_ne.mpr h]; rfl
    have k35 : ∀ o k, o ≠ 39 → o ≠ 0 → (wI r5 0 51 (nI (aPn A + 1))).1 o k = r4.1 o k := fun o k ho1 ho2 => by
      rw [wI_1, if_neg (by omega), fr_1 x2 (hrow o ho1 k)]
    rw [k35 35 p (by decide) (by decide), k35 36 p (by decide) (by decide), k35 37 p (by decide) (by decide), k35 38 p (by decide) (by decide), vR4, vR4, vR4, vR4]
    by_cases hpe : p = aPn A
    · subst hpe
      simp only [if_true]
      refine ⟨by simp [newT], by simp [newT], by simp [newT], by simp [newT], fun j hj => ?_⟩
      rw [wI_1, if_neg (by omega), x3 j hj]
      unfold newT
      rw [if_neg (by omega), if_neg (by omega), if_neg (by omega), if_neg (by omega), show 4 + j - 4 = j by omega]
    · obtain ⟨z0, z1, z2, z3, z4⟩ := h2.2.1.2 p (by omega)
      simp only [if_neg hpe]
      refine ⟨by simp [hpe, z0], by simp [hpe, z1], by simp [hpe, z2], by simp [hpe, z3], fun j hj => ?_⟩
      rw [wI_1, if_neg (by omega), fr_1 x2 (show rowR (aPn A) 39 (8 * p + j) = false by unfold rowR; rw [decide_eq_false (show ¬ 8 * aPn A ≤ 8 * p + j by omega)]; rfl), vR4, if_neg (by omega), if_neg (by omega), if_neg (by omega), if_neg (by omega)]
      exact z4 j hj
