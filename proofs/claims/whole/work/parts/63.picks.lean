/-! picks, power, a row of tries -/
theorem pc_le : ∀ n k, pc n k ≤ 2 ^ n
  | 0, 0 => by decide
  | 0, k + 1 => by rw [pc_gt 0 (k + 1) (by omega)]; omega
  | n + 1, 0 => by rw [pc_0]; exact Nat.one_le_two_pow
  | n + 1, k + 1 => by
    rw [pc_s, Nat.pow_succ]
    have := pc_le n k
    have := pc_le n (k + 1)
    omega
theorem pc_ab : ∀ n k, pc (n + 1) (k + 1) * (k + 1) = pc n k * (n + 1)
  | 0, 0 => by decide
  | 0, k + 1 => by rw [pc_gt 1 (k + 2) (by omega), pc_gt 0 (k + 1) (by omega), Nat.zero_mul, Nat.zero_mul]
  | n + 1, 0 => by
    have h := pc_ab n 0
    have e : pc (n + 1 + 1) (0 + 1) = pc (n + 1) 0 + pc (n + 1) (0 + 1) := rfl
    rw [pc_0 n] at h
    rw [e, pc_0 (n + 1)]
    omega
  | n + 1, k + 1 => by
    have h1 := pc_ab n k
    have h2 := pc_ab n (k + 1)
    have e : pc (n + 1 + 1) (k + 1 + 1) = pc (n + 1) (k + 1) + pc (n + 1) (k + 1 + 1) := rfl
    have e2 : pc (n + 1) (k + 1) = pc n k + pc n (k + 1) := rfl
    rw [e, Nat.add_mul, h2]
    have e3 : pc (n + 1) (k + 1) * (k + 1 + 1) = pc n k * (n + 1) + pc (n + 1) (k + 1) := by rw [Nat.mul_add, h1, Nat.mul_one]
    have e4 : pc (n + 1) (k + 1) * (n + 1 + 1) = pc (n + 1) (k + 1) * (n + 1) + pc (n + 1) (k + 1) := by rw [Nat.mul_add _ (n + 1), Nat.mul_one]
    rw [e3, e4, e2, Nat.add_mul]
    omega
theorem aL_0 (a : Int64) : a + lN 0 = a := by
  show a + 0 = a
  exact Int64.add_zero a
theorem lp_sumL {f : Int32 × Int64 → Option ((Int32 × Int64) ⊕ Int64)} (w : Nat → Nat) (s N : Nat) (a0 : Int64) (step : ∀ k a, k < N → f (nI (s + k), a) = some (.inl (nI (s + k + 1), a + lN (w k)))) (fin : ∀ a, f (nI (s + N), a) = some (.inr a)) : lpP f (nI s, a0) = some (a0 + lN (fb_sm w N)) := by
  have h := lp_seq (f := f) (fun k => (nI (s + k), a0 + lN (fb_sm w k))) N (r := a0 + lN (fb_sm w N)) (fun k hk => by
    rw [step k _ hk, fb_sm_succ, ← lN_add (fb_sm w k) (w k), ← Int64.add_assoc]
    rfl) (fin _)
  have e : (nI (s + 0), a0 + lN (fb_sm w 0)) = (nI s, a0) := by
    show (nI s, a0 + lN 0) = _
    rw [aL_0]
  rw [← e]
  exact h
theorem nI_p (k : Nat) : nI (k + 1) - 1 = nI k := by
  rw [← nI_1]
  exact Int32.add_sub_cancel (nI k) 1
theorem nI_m {k : Nat} : nI (k + 1) + (-1 : Int32) = nI k := by
  rw [← nI_p k, Int32.sub_eq_add_neg]
theorem nI_subS {a b : Nat} (h : b ≤ a) : nI a - nI b = nI (a - b) := by
  obtain ⟨c, rfl⟩ : ∃ c, a = c + b := ⟨a - b, by omega⟩
  rw [← nI_add, Nat.add_sub_cancel]
  exact Int32.add_sub_cancel (nI c) (nI b)
theorem picksR {n k : Nat} (hn : n ≤ 30) (hk : k ≤ 60) : pX11_picks (nI n) (nI k) = some (lN (pc n k)) := by
  unfold pX11_picks
  rw [if_neg (show ¬ nI k < 0 from fun q => by
    have := (nI_ltI (a := k) (b := 0) (by omega) (by decide)).mp q
    omega)]
  by_cases h : k ≤ n
  · rw [if_pos (nI_le h (by omega))]
    apply lp_bn1
    have e := lp_seq (f := fun (z2 : (Int32 × Int64)) => if nI k < z2.1 then (some (.inr z2.2) : Option ((Int32 × Int64) ⊕ Int64)) else g0L (z2.1.toInt64) (lt' ((z2.2 * (((nI n - nI k) + z2.1).toInt64)) / (z2.1.toInt64)) (fun x3 => lt' (z2.1 + (1 : Int32)) (fun x4 => some (.inl (x4, x3)))))) (fun i => (nI (i + 1), lN (pc (n - k + i) i))) k (r := lN (pc n k)) (fun i hi => ?_) ?_
    · have e0 : (nI (0 + 1), lN (pc (n - k + 0) 0)) = ((1 : Int32), (1 : Int64)) := by rw [pc_0]; rfl
      rw [← e0]
      exact ⟨_, e, rfl⟩
    · dsimp only
      have hp : pc (n - k + i) i ≤ 2 ^ 30 := Nat.le_trans (pc_le _ _) (Nat.pow_le_pow_right (by decide) (by omega))
      have hm : pc (n - k + i) i * (n - k + (i + 1)) < 2 ^ 63 := by
        have : pc (n - k + i) i * (n - k + (i + 1)) ≤ 2 ^ 30 * 31 := Nat.mul_le_mul hp (by omega)
        omega
      have hd : pc (n - k + i) i * (n - k + (i + 1)) / (i + 1) = pc (n - k + (i + 1)) (i + 1) := by
        have := pc_ab (n - k + i) i
        rw [show n - k + (i + 1) = n - k + i + 1 by omega, ← this]
        exact Nat.mul_div_cancel _ (by omega)
      rw [if_neg (fun q => by
        have := (nI_ltI (a := k) (b := i + 1) (by omega) (by omega)).mp q
        omega), nI_subS h, nI_add, nI_l (by omega), nI_l (by omega), g0L_p (fun q => by
        have := (lN_eq (a := i + 1) (b := 0) (by omega) (by decide)).mp q
        omega), lt_b, lt_b, lN_mul, pk_lDiv hm (by omega) (by omega), hd, nI_1]
    · dsimp only
      rw [if_pos (nI_lt (by omega) (by omega)), show n - k + k = n by omega]
  · rw [if_neg (nI_ge (by omega) (by omega)), pc_gt n k (by omega)]
    rfl
theorem powR {a k : Nat} (hk : k < 2 ^ 31) : pX11_power (lN a) (nI k) = some (lN (a ^ k)) := by
  unfold pX11_power
  apply lp_bn1
  have e := lp_seq (f := fun (z2 : (Int32 × Int64)) => if nI k ≤ z2.1 then (some (.inr z2.2) : Option ((Int32 × Int64) ⊕ Int64)) else lt' (z2.2 * lN a) (fun x3 => lt' (z2.1 + (1 : Int32)) (fun x4 => some (.inl (x4, x3))))) (fun i => (nI i, lN (a ^ i))) k (r := lN (a ^ k)) (fun i hi => ?_) ?_
  · exact ⟨_, e, rfl⟩
  · dsimp only
    rw [if_neg (nI_ge hi hk), lt_b, lt_b, nI_1, lN_mul, Nat.pow_succ]
  · dsimp only
    rw [if_pos (nI_le (Nat.le_refl _) hk)]
/-- k of m tries, each a of a + b -/
def rwN (a b m k : Nat) : Nat := pc m k * a ^ k * b ^ (m - k)
theorem rwN_s {a b m k : Nat} : rwN a b (m + 1) (k + 1) = rwN a b m (k + 1) * b + rwN a b m k * a := by
  unfold rwN
  rw [pc_s, Nat.add_mul, Nat.add_mul, Nat.add_comm (_ * _) (pc m (k + 1) * _ * _), show m + 1 - (k + 1) = m - k by omega]
  congr 1
  · by_cases h : k + 1 ≤ m
    · rw [show m - k = (m - (k + 1)) + 1 by omega, show b ^ (m - (k + 1) + 1) = b ^ (m - (k + 1)) * b from rfl, ← Nat.mul_assoc (pc m (k + 1) * a ^ (k + 1))]
    · rw [pc_gt m (k + 1) (by omega)]
      simp
  · rw [Nat.pow_succ]
    simp only [Nat.mul_assoc, Nat.mul_comm, Nat.mul_left_comm]
theorem rwN_0 {a b m : Nat} : rwN a b (m + 1) 0 = rwN a b m 0 * b := by
  unfold rwN
  rw [pc_0, pc_0, Nat.sub_zero, Nat.sub_zero, Nat.pow_succ, Nat.mul_assoc (1 * a ^ 0)]
theorem rwN_gt {a b m k : Nat} (h : m < k) : rwN a b m k = 0 := by
  unfold rwN
  rw [pc_gt m k h, Nat.zero_mul, Nat.zero_mul]
theorem tailR {n f a b : Nat} (hn : n ≤ 30) (hf : f ≤ 31) (ha : a ≤ b) (hb : b < 100) : pX11_tailOf (nI n) (nI f) (nI a) (nI b) = some (lN (fb_sm (fun j => rwN a (b - a) n (f + j)) (n + 1 - f))) := by
  unfold pX11_tailOf
  apply lp_bn1
  refine ⟨_, lp_sumL (fun j => rwN a (b - a) n (f + j)) f (n + 1 - f) 0 (fun k c hk => ?_) (fun c => ?_), ?_⟩
  · dsimp only
    rw [if_neg (fun q => by
      have := (nI_ltI (a := n) (b := f + k) (by omega) (by omega)).mp q
      omega), picksR hn (by omega), bn1_s, nI_subS ha, nI_l (by omega), nI_l (by omega), powR (by omega), bn1_s, nI_subS (by omega), powR (by omega), bn1_s, lt_b, lt_b, nI_1, lN_mul, lN_mul]
    rfl
  · dsimp only
    rw [if_pos (nI_lt (by omega) (by omega))]
  · rw [Int64.zero_add]
/-- a row of the class -/
def rwC (a b m o : Nat) (σ : gS) : Prop := ∀ k, k < 31 → σ.2.1 o k = lN (rwN a b m k)
def onO (o : Nat) (o' _k : Nat) : Bool := o' == o
theorem startC {a b o : Nat} {σ : gS} : ∃ σ', pX0_startRow o 31 σ = some σ' ∧ fr (onO o) σ σ' ∧ rwC a b 0 o σ' := by
  unfold pX0_startRow
  suffices hs : ∃ r, lpP (fun (z2 : (Int32 × gS)) => if (Int32.ofNat 31) ≤ z2.1 then (some (.inr z2.2) : Option ((Int32 × gS) ⊕ gS)) else if z2.1 = 0 then gx z2.1 31 (lt' (wL z2.2 o z2.1.toNatClampNeg (1 : Int64)) (fun s3 => lt' (z2.1 + (1 : Int32)) (fun x4 => some (.inl (x4, s3))))) else gx z2.1 31 (lt' (wL z2.2 o z2.1.toNatClampNeg (0 : Int64)) (fun s5 => lt' (z2.1 + (1 : Int32)) (fun x6 => some (.inl (x6, s5)))))) ((0 : Int32), σ) = some r ∧ (fr (onO o) σ r ∧ rwC a b 0 o r) by
    obtain ⟨r, e, h⟩ := hs
    exact ⟨r, by rw [e, bn1_s], h⟩
  refine lp_cnt (fun k (z : Int32 × gS) => z.1 = nI k ∧ fr (onO o) σ z.2 ∧ ∀ i, i < k → z.2.2.1 o i = lN (rwN a b 0 i)) 31 ?_ ?_ (k := 0) (by omega) ⟨rfl, fr_rf, fun i hi => absurd hi (Nat.not_lt_zero i)⟩
  · rintro k ⟨z, τ⟩ hk ⟨rfl, hf, hv⟩
    dsimp only at hf hv ⊢
    have fin : ∀ v : Int64, v = lN (rwN a b 0 k) → fr (onO o) σ (wL τ o k v) ∧ ∀ i, i < k + 1 → (wL τ o k v).2.1 o i = lN (rwN a b 0 i) := by
      intro v hv2
      refine ⟨fr_tr hf (fr_wL (by simp [onO])), fun i hi => ?_⟩
      rw [wL_2]
      by_cases hc : i = k
      · subst hc; rw [if_pos ⟨rfl, rfl⟩, hv2]
      · rw [if_neg (fun q => hc q.2)]; exact hv i (by omega)
    rw [show Int32.ofNat 31 = nI 31 from rfl, if_neg (show ¬ nI 31 ≤ nI k from nI_ge hk (by omega)), gx_i (by omega) (by decide), gx_i (by omega) (by decide)]
    simp only [lt_b, nI_1, nI_clamp (show k < 2 ^ 31 by omega)]
    by_cases h0 : k = 0
    · subst h0
      rw [if_pos (show nI 0 = 0 from rfl)]
      exact ⟨_, rfl, rfl, fin 1 rfl⟩
    · rw [if_neg (show ¬ nI k = 0 from fun q => h0 ((nI_eq (b := 0) (by omega) (by decide)).mp q))]
      exact ⟨_, rfl, rfl, fin 0 (by rw [rwN_gt (by omega)]; rfl)⟩
  · rintro ⟨z, τ⟩ ⟨rfl, hf, hv⟩
    dsimp only at hf hv ⊢
    rw [show Int32.ofNat 31 = nI 31 from rfl, if_pos (show nI 31 ≤ nI 31 from nI_le (Nat.le_refl _) (by decide))]
    exact ⟨_, rfl, hf, hv⟩
theorem addTryC {a b m o : Nat} {σ : gS} (ha : a < 2 ^ 31) (hb : b < 2 ^ 31) (hm : m < 30) (h : rwC a b m o σ) : ∃ σ', pX0_addTry o 31 (nI (m + 1)) (nI a) (nI b) σ = some σ' ∧ fr (onO o) σ σ' ∧ rwC a b (m + 1) o σ' := by
  unfold pX0_addTry pJ9_min_7cf53
  rw [show Int32.ofNat 31 - 1 = nI 30 from rfl, if_neg (fun q => by
    have := (nI_ltI (a := 30) (b := m + 1) (by decide) (by omega)).mp q
    omega), bn1_s]
  have L : ∃ r, lpP (fun (z4 : (Int32 × gS)) => if z4.1 ≤ 0 then (some (.inr z4.2) : Option ((Int32 × gS) ⊕ gS)) else gx z4.1 31 (gx (z4.1 - (1 : Int32)) 31 (gx z4.1 31 (lt' (wL z4.2 o z4.1.toNatClampNeg (((z4.2.2.1 o z4.1.toNatClampNeg) * ((nI b).toInt64)) + ((z4.2.2.1 o (z4.1 - (1 : Int32)).toNatClampNeg) * ((nI a).toInt64)))) (fun s5 => lt' (z4.1 + (-1 : Int32)) (fun x6 => some (.inl (x6, s5)))))))) (nI (m + 1), σ) = some r ∧ (fr (onO o) σ r ∧ r.2.1 o 0 = lN (rwN a b m 0) ∧ ∀ k, k < 31 → 0 < k → r.2.1 o k = lN (rwN a b (m + 1) k)) := by
    refine lp_cnt (fun j (z : Int32 × gS) => z.1 = nI (m + 1 - j) ∧ fr (onO o) σ z.2 ∧ (∀ k, k ≤ m + 1 - j → z.2.2.1 o k = lN (rwN a b m k)) ∧ ∀ k, k < 31 → m + 1 - j < k → z.2.2.1 o k = lN (rwN a b (m + 1) k)) (m + 1) ?_ ?_ (k := 0) (by omega) ⟨rfl, fr_rf, fun k hk => h k (by omega), fun k hk hk2 => ?_⟩
    · rintro j ⟨z, τ⟩ hj ⟨rfl, hf, hv, hw⟩
      dsimp only at hf hv hw ⊢
      obtain ⟨i, hi⟩ : ∃ i, m + 1 - j = i + 1 := ⟨m - j, by omega⟩
      have hi2 : m + 1 - (j + 1) = i := by omega
      rw [hi] at hv hw ⊢
      rw [hi2, if_neg (show ¬ nI (i + 1) ≤ 0 from nI_ge (a := 0) (by omega) (by omega)), gx_i (by omega) (by decide), nI_p, gx_i (by omega) (by decide), gx_i (by omega) (by decide), lt_b, lt_b, nI_m, nI_clamp (by omega), nI_clamp (by omega), hv (i + 1) (by omega), hv i (by omega), nI_l ha, nI_l hb, lN_mul, lN_mul, lN_add, ← rwN_s]
      refine ⟨_, rfl, rfl, fr_tr hf (fr_wL (by simp [onO])), fun k hk => ?_, fun k hk hk2 => ?_⟩
      · show (wL τ o (i + 1) _).2.1 o k = _
        rw [wL_2, if_neg (fun q => by omega)]
        exact hv k (by omega)
      · show (wL τ o (i + 1) _).2.1 o k = _
        rw [wL_2]
        by_cases hc : k = i + 1
        · rw [if_pos ⟨rfl, hc⟩, hc]
        · rw [if_neg (fun q => hc q.2)]
          exact hw k hk (by omega)
    · rintro ⟨z, τ⟩ ⟨rfl, hf, hv, hw⟩
      dsimp only at hf hv hw ⊢
      rw [Nat.sub_self] at hv hw ⊢
      rw [if_pos (show nI 0 ≤ 0 by decide)]
      exact ⟨_, rfl, hf, hv 0 (by omega), fun k hk hk2 => hw k hk hk2⟩
    · rw [h k hk, rwN_gt (by omega), rwN_gt (by omega)]
  obtain ⟨r, e, hf, h0, hk⟩ := L
  rw [e, bn1_s, show (0 : Int32) = nI 0 from rfl, gx_i (by decide) (by decide), gx_i (by decide) (by decide), lt_b, nI_clamp (by decide), h0, nI_l hb, lN_mul, ← rwN_0]
  refine ⟨_, rfl, fr_tr hf (fr_wL (by simp [onO])), fun k hk2 => ?_⟩
  rw [wL_2]
  by_cases hc : k = 0
  · rw [if_pos ⟨rfl, hc⟩, hc]
  · rw [if_neg (fun q => hc q.2)]
    exact hk k hk2 (by omega)
theorem sumC {o f e : Nat} {a3 : Int32} {R : Nat → Nat} {σ : gS} (h : ∀ k, k < 31 → σ.2.1 o k = lN (R k)) (hf : f ≤ 31) (he : e ≤ 31) (hto : ∀ k, k ≤ 31 → (a3 < nI k ↔ e ≤ k)) : pX0_sumOf o 31 (nI f) a3 σ = some (lN (fb_sm (fun j => R (f + j)) (e - f))) := by
  unfold pX0_sumOf pJ9_max_7cf53
  rw [if_neg (show ¬ nI f < 0 from fun q => by
    have := (nI_ltI (a := f) (b := 0) (by omega) (by decide)).mp q
    omega), bn1_s]
  apply lp_bn1
  refine ⟨_, lp_sumL (fun j => R (f + j)) f (e - f) 0 (fun k c hk => ?_) (fun c => ?_), ?_⟩
  · dsimp only
    rw [if_neg (fun q => by
      have := (hto (f + k) (by omega)).mp q
      omega), show Int32.ofNat 31 = nI 31 from rfl, if_neg (nI_ge (by omega) (by decide)), gx_i (by omega) (by decide), lt_b, lt_b, nI_1, nI_clamp (by omega), h _ (by omega)]
  · dsimp only
    rw [if_pos ((hto (f + (e - f)) (by omega)).mpr (by omega))]
  · rw [Int64.zero_add]
