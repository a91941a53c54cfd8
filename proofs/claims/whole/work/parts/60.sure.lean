/-! sure, on -/
def wS (A : Abs) (n kind s i : Nat) : Nat := if kn A n i = true ∧ aFk A i = kind ∧ aFv A i = s then 1 else 0
theorem wS_to {A : Abs} {n kind s : Nat} (hn : n ≤ aFn A) : fb_sm (wS A n kind s) (aFn A) = fb_sm (wS A n kind s) n := sm_to hn (fun i hi => by unfold wS; rw [if_neg (fun z => by rw [kn_off hi] at z; exact absurd z.1 (by decide))])
theorem howC {A : Abs} {σ : gS} {n kind s : Nat} (ho : okA A) (h : RC A σ) (hn : n ≤ aFn A) (hv : ∀ i, i < aFn A → σ.1 43 i = b01 (kn A n i)) (hk : kind ≤ 5) (hs : s < 100) : pX1_howManySure (nI kind) (nI s) σ = some (nI (fb_sm (wS A n kind s) n)) := by
  have h60 := ho.2.2.1.1
  rw [← wS_to hn]
  unfold pX1_howManySure
  apply lp_bn1
  refine ⟨_, lp_sum (wS A n kind s) (aFn A) 0 (fun k a hk' => ?_) (fun a => ?_), by rw [Int32.zero_add]⟩
  · obtain ⟨g1, g2, g3⟩ := h.2.2.1.2 k hk'
    dsimp only
    rw [h.2.2.1.1, if_neg (nI_ge hk' (by omega)), gx_i (by omega) (by decide), gx_i (by omega) (by decide), gx_i (by omega) (by decide), nI_clamp (by omega), hv k hk', g1, g3]
    simp only [lt_b, nI_1]
    rcases Bool.eq_false_or_eq_true (kn A n k) with q | q
    · rw [q, if_b1]
      by_cases hc : aFk A k = kind
      · rw [if_pos (show nI (aFk A k) = nI kind by rw [hc])]
        by_cases hd : aFv A k = s
        · have ew : wS A n kind s k = 1 := if_pos ⟨q, hc, hd⟩
          rw [if_pos (show nI (aFv A k) = nI s by rw [hd]), ew]; rfl
        · have ew : wS A n kind s k = 0 := if_neg (fun z => hd z.2.2)
          rw [if_neg (fun z => hd ((nI_eq (val_lt ho hk') (by omega)).mp z)), ew, aI_0]
      · have ew : wS A n kind s k = 0 := if_neg (fun z => hc z.2.1)
        rw [if_neg (fun z => hc ((nI_eq (kind_lt ho hk') (by omega)).mp z)), ew, aI_0]
    · have ew : wS A n kind s k = 0 := if_neg (fun z => by rw [q] at z; exact absurd z.1 (by decide))
      rw [q, if_b0, ew, aI_0]
  · dsimp only
    rw [h.2.2.1.1, if_pos (nI_le (Nat.le_refl _) (by omega))]
def wU (A : Abs) (n s what k : Nat) : Nat := if kn A n k = true ∧ aFk A k ≤ 1 ∧ aFv A k = s ∧ (what = 0 ∨ aFk A k = 0) then 1 else 0
theorem wU_0 {A : Abs} {n s k : Nat} : wU A n s 0 k = wS A n 0 s k + wS A n 1 s k := by
  unfold wU wS
  by_cases q : kn A n k = true
  · by_cases h0 : aFk A k = 0
    · simp [q, h0]
    · by_cases h1 : aFk A k = 1
      · simp [q, h1]
      · have : ¬ aFk A k ≤ 1 := by omega
        simp [q, h0, h1, this]
  · simp [q]
theorem wU_1 {A : Abs} {n s k : Nat} : wU A n s 1 k = wS A n 0 s k := by
  unfold wU wS
  by_cases q : kn A n k = true
  · by_cases h0 : aFk A k = 0
    · simp [q, h0]
    · simp [q, h0]
  · simp [q]
theorem h_34 {a1 a2 a3 a4 a5 : Int32} {u : gS × gS} (hu : Inv u) : ∃ t, q34 a1 a2 a3 a4 a5 u = some (.inl t) ∧ Inv t := by
  obtain ⟨A, ho, h1, h2⟩ := hu
  have h60 := ho.2.2.1.1
  have no : Inv (u.1, u.2) := ⟨A, ho, h1, h2⟩
  suffices hs : ∃ v s1, pX10_sure a1 a2 a3 u.1 = some (v, s1) ∧ pX11_sure a1 a2 a3 u.2 = some v ∧ Inv (s1, u.2) by
    obtain ⟨v, s1, e1, e2, e3⟩ := hs
    refine ⟨(s1, u.2), ?_, e3⟩
    unfold q34
    rw [e1, bn2_s, e2, bn1_s, if_pos rfl]
  unfold pX10_sure pX11_sure
  simp only [inR, inRR, bn1_s, in_b, canC ho h1, canR ho h2]
  by_cases hx : ixB (aFn A + 1) a1 = true
  case neg =>
    have hx' : ixB (aFn A + 1) a1 = false := by simpa using hx
    simp only [hx', if_b0]
    exact ⟨-1, u.1, rfl, rfl, no⟩
  by_cases hy : (1 : Int32) ≤ a2 ∧ a2 ≤ 5
  case neg =>
    simp only [hx, decide_eq_false hy, if_b0, if_b1]
    exact ⟨-1, u.1, rfl, rfl, no⟩
  by_cases hz : (0 : Int32) ≤ a3 ∧ a3 ≤ 1
  case neg =>
    simp only [hx, decide_eq_true hy, decide_eq_false hz, if_b0, if_b1]
    exact ⟨-1, u.1, rfl, rfl, no⟩
  simp only [hx, decide_eq_true hy, decide_eq_true hz, if_b1]
  obtain ⟨n, hn, rfl⟩ := ix_T (by omega) hx
  obtain ⟨s, hs1, hs2, rfl⟩ := in_T (a := 1) (c := 5) (by decide) (by decide) hy
  obtain ⟨w, -, hw, rfl⟩ := in_T (a := 0) (c := 1) (by decide) (by decide) hz
  obtain ⟨s1, e1, e2, e3, e4⟩ := knowC (n := n) ho h1 (by omega)
  have S0 := howC (kind := 0) (s := s) ho e3 (by omega) e4 (by decide) (by omega)
  have S1 := howC (kind := 1) (s := s) ho e3 (by omega) e4 (by decide) (by omega)
  simp only [show nI 0 = 0 from rfl] at S0
  simp only [show nI 1 = 1 from rfl] at S1
  rw [e1, bn1_s, S0, bn1_s, S1, bn1_s]
  refine ⟨nI (fb_sm (wU A n s w) n), s1, ?_, ?_, A, ho, e3, h2⟩
  · rcases (show w = 0 ∨ w = 1 by omega) with rfl | rfl
    · rw [if_neg (show ¬ nI 0 = 1 by decide), nI_add, ← fb_sm_add, fb_sm_cong (f := wU A n s 0) (fun k _ => wU_0)]
    · rw [if_pos (show nI 1 = 1 from rfl), fb_sm_cong (f := wU A n s 1) (fun k _ => wU_1)]
  · apply lp_bn1
    refine ⟨_, lp_sum (wU A n s w) n 0 (fun k a hk => ?_) (fun a => ?_), by rw [Int32.zero_add]⟩
    · obtain ⟨g1, g2, g3, g4⟩ := h2.2.2.1.2 k (by omega)
      dsimp only
      rw [if_neg (nI_ge hk (by omega)), show (0 : Int32) = nI 0 from rfl, isFactR (s := 0) ho h2 (by omega) hk (by decide), bn1_s]
      have hw9 : wU A n s w k = if (decide (kR (aFk A k) = 0) && kn A n k) = true then (if aFv A k = s then (if w = 0 then 1 else if aFk A k = 0 then 1 else 0) else 0) else 0 := by
        unfold wU
        by_cases q1 : kn A n k = true <;> by_cases q2 : aFk A k ≤ 1 <;> by_cases q3 : aFv A k = s <;> by_cases q4 : w = 0 <;> by_cases q5 : aFk A k = 0 <;> simp [q1, q2, q3, q4, q5, kR_0]
        all_goals omega
      rw [hw9]
      generalize (decide (kR (aFk A k) = 0) && kn A n k) = bb
      cases bb with
      | false =>
        rw [show (b01 false = nI 0) from rfl]
        simp only [if_true, lt_b, nI_1, Bool.false_eq_true, if_false, aI_0]
      | true =>
        simp only [gx_i (show k < 60 by omega) (show 60 < 2 ^ 31 by decide), nI_clamp (show k < 2 ^ 31 by omega), g3, g4, lt_b, nI_1, if_true]
        have hv : nI (aFv A k) = nI s ↔ aFv A k = s := nI_eq (val_lt ho (by omega)) (by omega)
        rw [if_neg (show ¬ b01 true = nI 0 by decide)]
        by_cases q3 : aFv A k = s
        · rw [if_pos (hv.mpr q3), if_pos q3]
          rcases (show w = 0 ∨ w = 1 by omega) with rfl | rfl
          · rfl
          · rw [if_neg (show ¬ nI 1 = nI 0 by decide), if_neg (show ¬ (1 : Nat) = 0 by decide)]
            by_cases q5 : aFk A k = 0
            · rw [q5]; rfl
            · have hb1 : (aFk A k == 0) = false := by simpa using q5
              rw [hb1, if_neg q5, aI_0]; rfl
        · rw [if_neg (fun z => q3 (hv.mp z)), if_neg q3, aI_0]
    · dsimp only
      rw [if_pos (nI_le (Nat.le_refl _) (by omega))]
