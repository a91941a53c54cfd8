/-! choices, sure, on -/
theorem sm_to {f : Nat → Nat} {n N : Nat} (h : n ≤ N) (hz : ∀ i, n ≤ i → f i = 0) : fb_sm f N = fb_sm f n := by
  obtain ⟨m, rfl⟩ : ∃ m, N = n + m := ⟨N - n, by omega⟩
  rw [fb_sm_split]
  have : fb_sm (fun k => f (n + k)) m = 0 := by
    rw [fb_sm_cong (g := fun _ => 0) (fun k _ => hz (n + k) (by omega)), fb_sm_const]
    omega
  omega
theorem kn_off {A : Abs} {n i : Nat} (h : n ≤ i) : kn A n i = false := by
  unfold kn
  rw [decide_eq_false (by omega), Bool.false_and]
/-- what a FACT of this kind counts -/
def wF (A : Abs) (n kind b i : Nat) : Nat := if kn A n i = true ∧ aFk A i = kind then (if b = 0 then 1 else aFv A i) else 0
theorem kind_lt {A : Abs} (ho : okA A) {i : Nat} (hi : i < aFn A) : aFk A i < 2 ^ 31 := by
  have := (ho.2.2.1.2 i hi).2.2.2.2
  omega
theorem val_lt {A : Abs} (ho : okA A) {i : Nat} (hi : i < aFn A) : aFv A i < 2 ^ 31 := by
  obtain ⟨x1, x2, x3, x4, x5⟩ := ho.2.2.1.2 i hi
  rcases (show aFk A i ≤ 1 ∨ (aFk A i = 2 ∨ aFk A i = 3) ∨ aFk A i = 4 ∨ aFk A i = 5 by omega) with q | q | q | q
  · have := (x1 q).2.2; omega
  · have := (x2 q).2; omega
  · have := (x3 q).2; omega
  · have := (x4 q).2.2; omega
theorem subj_lt {A : Abs} (ho : okA A) {i : Nat} (hi : i < aFn A) : aFa A i < 60 := by
  have h60 := ho.2.2.1.1
  obtain ⟨x1, x2, x3, x4, x5⟩ := ho.2.2.1.2 i hi
  rcases (show aFk A i ≤ 1 ∨ (aFk A i = 2 ∨ aFk A i = 3) ∨ aFk A i = 4 ∨ aFk A i = 5 by omega) with q | q | q | q
  · have := (x1 q).1; omega
  · have := (x2 q).1; omega
  · have := (x3 q).1; omega
  · have := (x4 q).1; omega
theorem sumOfC {A : Abs} {σ : gS} {n kind b : Nat} (ho : okA A) (h : RC A σ) (hv : ∀ i, i < aFn A → σ.1 43 i = b01 (kn A n i)) (hk : kind ≤ 5) (hb : b ≤ 1) : pX1_sumOf (nI kind) (nI b) σ = some (nI (fb_sm (wF A n kind b) (aFn A))) := by
  have h60 := ho.2.2.1.1
  unfold pX1_sumOf
  apply lp_bn1
  refine ⟨_, lp_sum (wF A n kind b) (aFn A) 0 (fun k a hk' => ?_) (fun a => ?_), by rw [Int32.zero_add]⟩
  · obtain ⟨g1, g2, g3⟩ := h.2.2.1.2 k hk'
    dsimp only
    rw [h.2.2.1.1, if_neg (nI_ge hk' (by omega)), gx_i (by omega) (by decide), nI_clamp (by omega), hv k hk', g1, g3]
    rcases Bool.eq_false_or_eq_true (kn A n k) with q | q
    · rw [q, if_b1, gx_i (by omega) (by decide)]
      by_cases hc : aFk A k = kind
      · rw [if_pos (by rw [hc])]
        have ew : wF A n kind b k = if b = 0 then 1 else aFv A k := if_pos ⟨q, hc⟩
        rw [ew]
        by_cases hb0 : b = 0
        · subst hb0
          rw [if_pos (show nI 0 = 0 from rfl), if_pos (show (0 : Nat) = 0 from rfl), bn1_s, lt_b, lt_b, nI_1]; rfl
        · have : b = 1 := by omega
          subst this
          rw [if_neg (show ¬ nI 1 = 0 by decide), if_neg (show ¬ (1 : Nat) = 0 by decide), gx_i (by omega) (by decide), bn1_s, lt_b, lt_b, nI_1]
      · rw [if_neg (fun z => hc ((nI_eq (kind_lt ho hk') (by omega)).mp z)), lt_b, nI_1]
        unfold wF
        rw [if_neg (fun z => hc z.2), aI_0]
    · rw [q, if_b0, lt_b, nI_1]
      unfold wF
      rw [if_neg (fun z => by rw [q] at z; exact absurd z.1 (by decide)), aI_0]
  · dsimp only
    rw [h.2.2.1.1, if_pos (nI_le (Nat.le_refl _) (by omega))]
/-- what FACT k adds to the answer of choices -/
def wC (A : Abs) (n what k : Nat) : Nat := if kn A n k = true ∧ aFk A k ≤ 1 then (if what = 0 then 1 else if what = 1 then (if aFk A k = 0 then 1 else 0) else if what = 2 then (if aFk A k = 0 then aFv A k else 0) else (if aFk A k = 0 then 0 else aFv A k)) else 0
theorem kR_0 {k : Nat} : kR k = 0 ↔ k ≤ 1 := by unfold kR; split <;> omega
theorem wF_to {A : Abs} {n kind b : Nat} (hn : n ≤ aFn A) : fb_sm (wF A n kind b) (aFn A) = fb_sm (wF A n kind b) n := sm_to hn (fun i hi => by unfold wF; rw [if_neg (fun z => by rw [kn_off hi] at z; exact absurd z.1 (by decide))])
theorem wC_0 {A : Abs} {n k : Nat} : wC A n 0 k = wF A n 0 0 k + wF A n 1 0 k := by
  unfold wC wF
  by_cases q : kn A n k = true
  · by_cases h0 : aFk A k = 0
    · simp [q, h0]
    · by_cases h1 : aFk A k = 1
      · simp [q, h1]
      · have : ¬ aFk A k ≤ 1 := by omega
        simp [q, h0, h1, this]
  · simp [q]
theorem wC_1 {A : Abs} {n k : Nat} : wC A n 1 k = wF A n 0 0 k := by
  unfold wC wF
  by_cases q : kn A n k = true
  · by_cases h0 : aFk A k = 0
    · simp [q, h0]
    · simp [q, h0]
  · simp [q]
theorem wC_2 {A : Abs} {n k : Nat} : wC A n 2 k = wF A n 0 1 k := by
  unfold wC wF
  by_cases q : kn A n k = true
  · by_cases h0 : aFk A k = 0
    · simp [q, h0]
    · simp [q, h0]
  · simp [q]
theorem wC_3 {A : Abs} {n k : Nat} : wC A n 3 k = wF A n 1 1 k := by
  unfold wC wF
  by_cases q : kn A n k = true
  · by_cases h0 : aFk A k = 0
    · simp [q, h0]
    · by_cases h1 : aFk A k = 1
      · simp [q, h1]
      · have : ¬ aFk A k ≤ 1 := by omega
        simp [q, h1, this]
  · simp [q]
theorem h_33 {a1 a2 a3 a4 a5 : Int32} {u : gS × gS} (hu : Inv u) : ∃ t, q33 a1 a2 a3 a4 a5 u = some (.inl t) ∧ Inv t := by
  obtain ⟨A, ho, h1, h2⟩ := hu
  have h60 := ho.2.2.1.1
  have no : Inv (u.1, u.2) := ⟨A, ho, h1, h2⟩
  suffices hs : ∃ v s1, pX10_choices a1 a2 u.1 = some (v, s1) ∧ pX11_choices a1 a2 u.2 = some v ∧ Inv (s1, u.2) by
    obtain ⟨v, s1, e1, e2, e3⟩ := hs
    refine ⟨(s1, u.2), ?_, e3⟩
    unfold q33
    rw [e1, bn2_s, e2, bn1_s, if_pos rfl]
  unfold pX10_choices pX11_choices
  rw [canC ho h1, canR ho h2, bn1_s, bn1_s, inR, inRR, bn1_s, bn1_s, in_b]
  by_cases hx : ixB (aFn A + 1) a1 = true
  case neg =>
    have hx' : ixB (aFn A + 1) a1 = false := by simpa using hx
    simp only [hx', if_b0]
    exact ⟨-1, u.1, rfl, rfl, no⟩
  by_cases hy : (0 : Int32) ≤ a2 ∧ a2 ≤ 3
  case neg =>
    simp only [hx, decide_eq_false hy, if_b0, if_b1]
    exact ⟨-1, u.1, rfl, rfl, no⟩
  simp only [hx, decide_eq_true hy, if_b1]
  obtain ⟨n, hn, rfl⟩ := ix_T (by omega) hx
  obtain ⟨w, -, hw, rfl⟩ := in_T (a := 0) (c := 3) (by decide) (by decide) hy
  obtain ⟨s1, e1, e2, e3, e4⟩ := knowC (n := n) ho h1 (by omega)
  rw [e1, bn1_s]
  have hR : bn1 (lpP (fun (z6 : (Int32 × Int32)) => if nI n ≤ z6.1 then (some (.inr z6.2) : Option ((Int32 × Int32) ⊕ Int32)) else bn1 (pX11_isFact z6.1 (0 : Int32) (nI n) u.2) (fun v7 => if v7 = 0 then lt' (z6.1 + (1 : Int32)) (fun x9 => some (.inl (x9, z6.2))) else bn1 (if nI w = 0 then lt' (z6.2 + (1 : Int32)) (fun x11 => some x11) else if nI w = (1 : Int32) then gx z6.1 60 (if (u.2.1 46 z6.1.toNatClampNeg) = 0 then some z6.2 else lt' (z6.2 + (1 : Int32)) (fun x12 => some x12)) else some z6.2) (fun (z10 : Int32) => if nI w = (2 : Int32) then gx z6.1 60 (if (u.2.1 46 z6.1.toNatClampNeg) = 0 then if nI w = (3 : Int32) then gx z6.1 60 (if (u.2.1 46 z6.1.toNatClampNeg) = 0 then gx z6.1 60 (lt' (z10 + (u.2.1 45 z6.1.toNatClampNeg)) (fun x13 => lt' (z6.1 + (1 : Int32)) (fun x14 => some (.inl (x14, x13))))) else lt' (z6.1 + (1 : Int32)) (fun x15 => some (.inl (x15, z10)))) else lt' (z6.1 + (1 : Int32)) (fun x16 => some (.inl (x16, z10))) else gx z6.1 60 (lt' (z10 + (u.2.1 45 z6.1.toNatClampNeg)) (fun x17 => lt' (z6.1 + (1 : Int32)) (fun x18 => some (.inl (x18, x17)))))) else if nI w = (3 : Int32) then gx z6.1 60 (if (u.2.1 46 z6.1.toNatClampNeg) = 0 then gx z6.1 60 (lt' (z10 + (u.2.1 45 z6.1.toNatClampNeg)) (fun x19 => lt' (z6.1 + (1 : Int32)) (fun x20 => some (.inl (x20, x19))))) else lt' (z6.1 + (1 : Int32)) (fun x21 => some (.inl (x21, z10)))) else lt' (z6.1 + (1 : Int32)) (fun x22 => some (.inl (x22, z10)))))) ((0 : Int32), (0 : Int32))) (fun (z5 : Int32) => some (z5)) = some (nI (fb_sm (wC A n w) n)) := by
    apply lp_bn1
    refine ⟨_, lp_sum (wC A n w) n 0 (fun k a hk => ?_) (fun a => ?_), by rw [Int32.zero_add]⟩
    · obtain ⟨g1, g2, g3, g4⟩ := h2.2.2.1.2 k (by omega)
      dsimp only
      rw [if_neg (nI_ge hk (by omega)), show (0 : Int32) = nI 0 from rfl, isFactR (s := 0) ho h2 (by omega) hk (by decide), bn1_s]
      have hw9 : wC A n w k = if (decide (kR (aFk A k) = 0) && kn A n k) = true then (if w = 0 then 1 else if w = 1 then (if aFk A k = 0 then 1 else 0) else if w = 2 then (if aFk A k = 0 then aFv A k else 0) else (if aFk A k = 0 then 0 else aFv A k)) else 0 := by
        unfold wC
        by_cases q1 : kn A n k = true <;> by_cases q2 : aFk A k ≤ 1 <;> simp [q1, q2, kR_0]
      rw [hw9]
      generalize (decide (kR (aFk A k) = 0) && kn A n k) = bb
      cases bb with
      | false =>
        rw [show (b01 false = nI 0) from rfl]
        simp only [if_true, lt_b, nI_1, Bool.false_eq_true, if_false, aI_0]
      | true =>
        simp only [gx_i (show k < 60 by omega) (show 60 < 2 ^ 31 by decide), nI_clamp (show k < 2 ^ 31 by omega), g3, g4, lt_b, nI_1, if_true]
        have hb0 : b01 (aFk A k == 0) = 0 ↔ ¬ aFk A k = 0 := by rw [b01_z]; simp
        rcases (show w = 0 ∨ w = 1 ∨ w = 2 ∨ w = 3 by omega) with rfl | rfl | rfl | rfl
        all_goals
          by_cases hk0 : aFk A k = 0
          · have hb1 : b01 (aFk A k == 0) = 1 := by rw [hk0]; rfl
            simp [hb1, hk0, nI, b01, bn1, aI_0]
            try rfl
          · have hb1 : b01 (aFk A k == 0) = 0 := hb0.mpr hk0
            simp [hb1, hk0, nI, b01, bn1, aI_0]
            try rfl
    · dsimp only
      rw [if_pos (nI_le (Nat.le_refl _) (by omega))]
  have S : ∀ kind b, kind ≤ 5 → b ≤ 1 → pX1_sumOf (nI kind) (nI b) s1 = some (nI (fb_sm (wF A n kind b) n)) := fun kind b g1 g2 => by rw [sumOfC ho e3 e4 g1 g2, wF_to (by omega)]
  have S00 := S 0 0 (by decide) (by decide)
  have S10 := S 1 0 (by decide) (by decide)
  have S01 := S 0 1 (by decide) (by decide)
  have S11 := S 1 1 (by decide) (by decide)
  simp only [show nI 0 = 0 from rfl, show nI 1 = 1 from rfl] at S00 S10 S01 S11
  refine ⟨nI (fb_sm (wC A n w) n), s1, ?_, hR, A, ho, e3, h2⟩
  rw [S00, S10, S01, S11, bn1_s, bn1_s, bn1_s, bn1_s]
  rcases (show w = 0 ∨ w = 1 ∨ w = 2 ∨ w = 3 by omega) with rfl | rfl | rfl | rfl
  · rw [if_pos (show nI 0 = 0 from rfl), nI_add, ← fb_sm_add, fb_sm_cong (f := wC A n 0) (fun k _ => wC_0)]
  · rw [if_neg (show ¬ nI 1 = 0 by decide), if_pos (show nI 1 = 1 from rfl), fb_sm_cong (f := wC A n 1) (fun k _ => wC_1)]
  · rw [if_neg (show ¬ nI 2 = 0 by decide), if_neg (show ¬ nI 2 = 1 by decide), if_pos (show nI 2 = 2 from rfl), fb_sm_cong (f := wC A n 2) (fun k _ => wC_2)]
  · rw [if_neg (show ¬ nI 3 = 0 by decide), if_neg (show ¬ nI 3 = 1 by decide), if_neg (show ¬ nI 3 = 2 by decide), fb_sm_cong (f := wC A n 3) (fun k _ => wC_3)]
    rfl
