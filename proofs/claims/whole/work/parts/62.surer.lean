/-! surer -/
theorem sm_mul (c : Nat) (f : Nat → Nat) : ∀ n, fb_sm (fun k => c * f k) n = c * fb_sm f n
  | 0 => rfl
  | n + 1 => by rw [fb_sm_succ, fb_sm_succ, sm_mul c f n, Nat.mul_add]
theorem sm_swap (f : Nat → Nat → Nat) (M : Nat) : ∀ N, fb_sm (fun j => fb_sm (fun h => f h j) N) M = fb_sm (fun h => fb_sm (fun j => f h j) M) N
  | 0 => by
    show fb_sm (fun _ => 0) M = 0
    rw [fb_sm_const]; omega
  | N + 1 => by
    rw [fb_sm_succ, ← sm_swap f M N, ← fb_sm_add]
    rfl
theorem sm_5 (f : Nat → Nat) : fb_sm f 5 = f 0 + f 1 + f 2 + f 3 + f 4 := by
  simp only [fb_sm_succ]
  show 0 + f 0 + f 1 + f 2 + f 3 + f 4 = _
  omega
/-- a sum over the facts of a kind, sorted by sureness -/
theorem by_sure {A : Abs} (ho : okA A) {n kind : Nat} (hn : n ≤ aFn A) (hk : kind ≤ 1) (F : Nat → Nat) : fb_sm (fun i => if kn A n i = true ∧ aFk A i = kind then F (aFv A i) else 0) n = fb_sm (fun h => F (h + 1) * fb_sm (wS A n kind (h + 1)) n) 5 := by
  have e : ∀ i, i < n → (if kn A n i = true ∧ aFk A i = kind then F (aFv A i) else 0) = fb_sm (fun h => F (h + 1) * wS A n kind (h + 1) i) 5 := by
    intro i hi
    rw [sm_5]
    unfold wS
    by_cases q : kn A n i = true ∧ aFk A i = kind
    · have hv := (ho.2.2.1.2 i (by omega)).1 (by omega)
      rw [if_pos q]
      obtain ⟨q1, q2⟩ := q
      rcases (show aFv A i = 1 ∨ aFv A i = 2 ∨ aFv A i = 3 ∨ aFv A i = 4 ∨ aFv A i = 5 by omega) with z | z | z | z | z <;> simp [q1, q2, z]
    · rw [if_neg q]
      have : ∀ s, ¬ (kn A n i = true ∧ aFk A i = kind ∧ aFv A i = s) := fun s z => q ⟨z.1, z.2.1⟩
      simp [this]
  rw [fb_sm_cong e, sm_swap (fun h i => F (h + 1) * wS A n kind (h + 1) i)]
  exact fb_sm_cong (fun h _ => sm_mul _ _ _)
theorem lp_sum1 {f : Int32 × Int32 → Option ((Int32 × Int32) ⊕ Int32)} (w : Nat → Nat) (N : Nat) (a0 : Int32) (step : ∀ k a, k < N → f (nI (k + 1), a) = some (.inl (nI (k + 2), a + nI (w k)))) (fin : ∀ a, f (nI (N + 1), a) = some (.inr a)) : lpP f ((1 : Int32), a0) = some (a0 + nI (fb_sm w N)) := by
  have h := lp_seq (f := f) (fun k => (nI (k + 1), a0 + nI (fb_sm w k))) N (r := a0 + nI (fb_sm w N)) (fun k hk => by
    rw [step k _ hk, fb_sm_succ, ← nI_add (fb_sm w k) (w k), ← Int32.add_assoc]) (fin _)
  have e : (nI (0 + 1), a0 + nI (fb_sm w 0)) = ((1 : Int32), a0) := by
    show (nI 1, a0 + nI 0) = _
    rw [aI_0]; rfl
  rw [← e]
  exact h
theorem n5_nl {k : Nat} (h : k < 6) : ¬ (5 : Int32) < nI k := fun q => by
  have := (nI_ltI (a := 5) (b := k) (by decide) (by omega)).mp q
  omega
theorem nI_mulS (a b : Nat) : nI a * nI b = nI (a * b) := (Int32.ofNat_mul a b).symm
def rl (a b : Nat) : Nat := if a ≤ b then (if a = b then 1 else 2) else 0
theorem cmpN {a b : Nat} (ha : a < 100) (hb : b < 100) : ∃ v, pJ6_compare_7cf53 (nI a) (nI b) = some v ∧ (1 : Int32) - v = nI (rl a b) := by
  unfold pJ6_compare_7cf53 rl
  by_cases h : b ≤ a
  · rw [if_pos (nI_le h (by omega))]
    by_cases h2 : a = b
    · subst h2
      rw [if_pos rfl, if_pos (Nat.le_refl _), if_pos rfl]
      exact ⟨_, rfl, rfl⟩
    · rw [if_neg (fun q => h2 ((nI_eq (by omega) (by omega)).mp q)), if_neg (by omega)]
      exact ⟨_, rfl, rfl⟩
  · rw [if_neg (nI_ge (by omega) (by omega)), if_pos (by omega), if_neg (by omega)]
    exact ⟨_, rfl, rfl⟩
theorem rl_2 {a b : Nat} : rl a b ≤ 2 := by unfold rl; split <;> (try split) <;> omega
theorem h_35 {a1 a2 a3 a4 a5 : Int32} {u : gS × gS} (hu : Inv u) : ∃ t, q35 a1 a2 a3 a4 a5 u = some (.inl t) ∧ Inv t := by
  obtain ⟨A, ho, h1, h2⟩ := hu
  have h60 := ho.2.2.1.1
  have no : Inv (u.1, u.2) := ⟨A, ho, h1, h2⟩
  suffices hs : ∃ v s1, pX10_surer a1 a2 u.1 = some (v, s1) ∧ pX11_surer a1 a2 u.2 = some v ∧ Inv (s1, u.2) by
    obtain ⟨v, s1, e1, e2, e3⟩ := hs
    refine ⟨(s1, u.2), ?_, e3⟩
    unfold q35
    rw [e1, bn2_s, e2, bn1_s, if_pos rfl]
  unfold pX10_surer pX11_surer
  simp only [inR, inRR, bn1_s, in_b, canC ho h1, canR ho h2]
  by_cases hx : ixB (aFn A + 1) a1 = true
  case neg =>
    have hx' : ixB (aFn A + 1) a1 = false := by simpa using hx
    simp only [hx', if_b0]
    exact ⟨-1, u.1, rfl, rfl, no⟩
  by_cases hz : (0 : Int32) ≤ a2 ∧ a2 ≤ 2
  case neg =>
    simp only [hx, decide_eq_false hz, if_b0, if_b1]
    exact ⟨-1, u.1, rfl, rfl, no⟩
  simp only [hx, decide_eq_true hz, if_b1]
  obtain ⟨n, hn, rfl⟩ := ix_T (by omega) hx
  obtain ⟨w, -, hw, rfl⟩ := in_T (a := 0) (c := 2) (by decide) (by decide) hz
  obtain ⟨s1, e1, e2, e3, e4⟩ := knowC (n := n) ho h1 (by omega)
  rw [e1, bn1_s]
  let S0 : Nat → Nat := fun s => fb_sm (wS A n 0 s) n
  let S1 : Nat → Nat := fun s => fb_sm (wS A n 1 s) n
  let I : Nat → Nat := fun v => fb_sm (fun j => if kn A n j = true ∧ aFk A j = 1 then (if rl v (aFv A j) = w then 1 else 0) else 0) n
  have hI : ∀ v, I v = fb_sm (fun h => (if rl v (h + 1) = w then 1 else 0) * S1 (h + 1)) 5 := fun v => by_sure (kind := 1) ho (by omega) (Nat.le_refl 1) (fun x => if rl v x = w then 1 else 0)
  have hT : fb_sm (fun i => if kn A n i = true ∧ aFk A i = 0 then I (aFv A i) else 0) n = fb_sm (fun g => I (g + 1) * S0 (g + 1)) 5 := by_sure (kind := 0) ho (by omega) (by omega) I
  refine ⟨nI (fb_sm (fun g => I (g + 1) * S0 (g + 1)) 5), s1, ?_, ?_, A, ho, e3, h2⟩
  · apply lp_bn1
    refine ⟨_, lp_sum1 (fun g => I (g + 1) * S0 (g + 1)) 5 0 (fun g a hg => ?_) (fun a => ?_), by rw [Int32.zero_add]⟩
    · dsimp only
      rw [if_neg (show ¬ (5 : Int32) < nI (g + 1) from n5_nl (by omega))]
      apply lp_bn1
      refine ⟨_, lp_sum1 (fun h => (if rl (g + 1) (h + 1) = w then 1 else 0) * S1 (h + 1) * S0 (g + 1)) 5 a (fun h b hh => ?_) (fun b => ?_), ?_⟩
      · dsimp only
        obtain ⟨v, c1, c2⟩ := cmpN (a := g + 1) (b := h + 1) (by omega) (by omega)
        have H0 := howC (kind := 0) (s := g + 1) ho e3 (by omega) e4 (by decide) (by omega)
        have H1 := howC (kind := 1) (s := h + 1) ho e3 (by omega) e4 (by decide) (by omega)
        simp only [show nI 0 = 0 from rfl] at H0
        simp only [show nI 1 = 1 from rfl] at H1
        rw [if_neg (show ¬ (5 : Int32) < nI (h + 1) from n5_nl (by omega)), c1, bn1_s, c2, H0, bn1_s, H1, bn1_s]
        simp only [lt_b, nI_1]
        have hr := rl_2 (a := g + 1) (b := h + 1)
        by_cases hc : rl (g + 1) (h + 1) = w
        · rw [if_pos (show nI (rl (g + 1) (h + 1)) = nI w by rw [hc]), if_pos hc, nI_mulS, Nat.one_mul, Nat.mul_comm (S1 (h + 1))]
        · rw [if_neg (fun q => hc ((nI_eq (by omega) (by omega)).mp q)), if_neg hc, Nat.zero_mul, Nat.zero_mul, aI_0]
      · dsimp only
        rw [if_pos (show (5 : Int32) < nI (5 + 1) by decide)]
      · rw [lt_b, nI_1, hI, ← Nat.mul_comm (S0 (g + 1)), ← sm_mul]
        congr 4
        exact congrArg nI (fb_sm_cong (fun h _ => Nat.mul_comm _ _))
    · dsimp only
      rw [if_pos (show (5 : Int32) < nI (5 + 1) by decide)]
  · rw [← hT]
    apply lp_bn1
    refine ⟨_, lp_sum (fun i => if kn A n i = true ∧ aFk A i = 0 then I (aFv A i) else 0) n 0 (fun k a hk => ?_) (fun a => ?_), by rw [Int32.zero_add]⟩
    · obtain ⟨g1, g2, g3, g4⟩ := h2.2.2.1.2 k (by omega)
      dsimp only
      rw [if_neg (nI_ge hk (by omega)), show (0 : Int32) = nI 0 from rfl, isFactR (s := 0) ho h2 (by omega) hk (by decide), bn1_s]
      have hcond : (kn A n k = true ∧ aFk A k = 0) ↔ ((decide (kR (aFk A k) = 0) && kn A n k) = true ∧ aFk A k = 0) := by
        simp only [Bool.and_eq_true, decide_eq_true_eq, kR_0]
        constructor
        · rintro ⟨x, y⟩; exact ⟨⟨by omega, x⟩, y⟩
        · rintro ⟨⟨_, x⟩, y⟩; exact ⟨x, y⟩
      simp only [hcond]
      generalize hbb : (decide (kR (aFk A k) = 0) && kn A n k) = bb
      cases bb with
      | false =>
        rw [show (b01 false = nI 0) from rfl]
        simp only [if_true, lt_b, nI_1, Bool.false_eq_true, if_false, aI_0, false_and]
      | true =>
        rw [if_neg (show ¬ b01 true = nI 0 by decide), gx_i (by omega) (by decide), nI_clamp (by omega), g4]
        by_cases hk0 : aFk A k = 0
        · rw [if_pos (show true = true ∧ aFk A k = 0 from ⟨rfl, hk0⟩), if_neg (show ¬ b01 (aFk A k == 0) = nI 0 by rw [hk0]; decide)]
          apply lp_bn1
          refine ⟨_, lp_sum (fun j => if kn A n j = true ∧ aFk A j = 1 then (if rl (aFv A k) (aFv A j) = w then 1 else 0) else 0) n a (fun j b hj => ?_) (fun b => ?_), ?_⟩
          · obtain ⟨f1, f2, f3, f4⟩ := h2.2.2.1.2 j (by omega)
            dsimp only
            rw [if_neg (nI_ge hj (by omega)), isFactR (s := 0) ho h2 (by omega) hj (by decide), bn1_s]
            have hcond2 : (kn A n j = true ∧ aFk A j = 1) ↔ ((decide (kR (aFk A j) = 0) && kn A n j) = true ∧ aFk A j ≠ 0) := by
              simp only [Bool.and_eq_true, decide_eq_true_eq, kR_0]
              constructor
              · rintro ⟨x, y⟩; exact ⟨⟨by omega, x⟩, by omega⟩
              · rintro ⟨⟨z, x⟩, y⟩; exact ⟨x, by omega⟩
            simp only [hcond2]
            generalize hbb2 : (decide (kR (aFk A j) = 0) && kn A n j) = bb2
            cases bb2 with
            | false =>
              rw [show (b01 false = nI 0) from rfl]
              simp only [if_true, lt_b, nI_1, Bool.false_eq_true, if_false, aI_0, false_and]
            | true =>
              rw [if_neg (show ¬ b01 true = nI 0 by decide), gx_i (by omega) (by decide), nI_clamp (by omega), f4]
              by_cases hj0 : aFk A j = 0
              · rw [if_neg (show ¬ (true = true ∧ aFk A j ≠ 0) from fun z => z.2 hj0), if_neg (show ¬ b01 (aFk A j == 0) = nI 0 by rw [hj0]; decide), lt_b, nI_1, aI_0]
              · have hb2 : b01 (aFk A j == 0) = nI 0 := by
                  have : (aFk A j == 0) = false := by simpa using hj0
                  rw [this]; rfl
                rw [if_pos (show true = true ∧ aFk A j ≠ 0 from ⟨rfl, hj0⟩), if_pos hb2]
                simp only [gx_i (show k < 60 by omega) (show 60 < 2 ^ 31 by decide), gx_i (show j < 60 by omega) (show 60 < 2 ^ 31 by decide), nI_clamp (show k < 2 ^ 31 by omega), nI_clamp (show j < 2 ^ 31 by omega), g3, f3, lt_b, nI_1]
                have vk := val_lt ho (i := k) (by omega)
                have vj := val_lt ho (i := j) (by omega)
                have e9 : (if nI (aFv A k) ≤ nI (aFv A j) then (if nI (aFv A k) = nI (aFv A j) then some (1 : Int32) else some (2 : Int32)) else some (nI 0)) = some (nI (rl (aFv A k) (aFv A j))) := by
                  unfold rl
                  by_cases y1 : aFv A k ≤ aFv A j
                  · rw [if_pos (nI_le y1 vj), if_pos y1]
                    by_cases y2 : aFv A k = aFv A j
                    · rw [if_pos (by rw [y2]), if_pos y2]; rfl
                    · rw [if_neg (fun q => y2 ((nI_eq vk vj).mp q)), if_neg y2]; rfl
                  · rw [if_neg (nI_ge (by omega) vk), if_neg y1]
                rw [e9, bn1_s]
                have hr := rl_2 (a := aFv A k) (b := aFv A j)
                by_cases hc : rl (aFv A k) (aFv A j) = w
                · rw [if_pos (by rw [hc]), if_pos hc]; rfl
                · rw [if_neg (fun q => hc ((nI_eq (by omega) (by omega)).mp q)), if_neg hc, aI_0]
          · dsimp only
            rw [if_pos (nI_le (Nat.le_refl _) (by omega))]
          · rw [lt_b, nI_1]
        · have hb2 : b01 (aFk A k == 0) = nI 0 := by
            have : (aFk A k == 0) = false := by simpa using hk0
            rw [this]; rfl
          rw [if_neg (show ¬ (true = true ∧ aFk A k = 0) from fun z => hk0 z.2), if_pos hb2, lt_b, nI_1, aI_0]
    · dsimp only
      rw [if_pos (nI_le (Nat.le_refl _) (by omega))]
