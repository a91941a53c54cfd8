/-! PEOPLE: traits, of, person -/
theorem lit_n {n : Nat} : (OfNat.ofNat n : Int32) = nI n := rfl
/-- a trait, asked of the class -/
theorem traitC {A : Abs} {σ : gS} {p j : Nat} (ho : okA A) (h : RC A σ) (hp : p < aPn A) (hj : j < 12) : pX2_trait (nI p) (nI j) σ = some (nI (aPt A p j)) := by
  have hn := ho.2.1.1
  unfold pX2_trait
  have h1 : (0 : Int32) ≤ nI p ∧ nI p ≤ 19 := ⟨nI_pos' (by omega), nI_le (b := 19) (by omega) (by decide)⟩
  have h2 : (0 : Int32) ≤ nI j ∧ nI j ≤ 11 := ⟨nI_pos' (by omega), nI_le (b := 11) (by omega) (by decide)⟩
  rw [inR, bn1_s, if_pos h1, if_10, inR, bn1_s, if_pos h2, if_10, show (12 : Int32) = nI 12 from rfl, pk_mul, nI_add, gx_i (by omega) (by decide), nI_clamp (by omega), h.2.1.2 p j hp hj]
theorem h_6 {a1 a2 a3 a4 a5 : Int32} {u : gS × gS} (hu : Inv u) : ∃ t, q6 a1 a2 a3 a4 a5 u = some (.inl t) ∧ Inv t := by
  obtain ⟨A, ho, h1, h2⟩ := hu
  have hn := ho.2.1.1
  have no : Inv (u.1, u.2) := ⟨A, ho, h1, h2⟩
  suffices hs : ∃ v, pX10_of a1 a2 u.1 = some v ∧ pX11_of a1 a2 u.2 = some v by
    obtain ⟨v, e1, e2⟩ := hs
    exact ⟨(u.1, u.2), qPP e1 e2, no⟩
  unfold pX10_of pX11_of
  rw [hasC ho h1, isPR ho h2, bn1_s, bn1_s]
  by_cases hx : ixB (aPn A) a1 = true
  · obtain ⟨p, hp, rfl⟩ := ix_T (by omega) hx
    obtain ⟨g0, g1, g2, g3, g4⟩ := h2.2.1.2 p hp
    simp only [hx, if_b1]
    rw [inR, bn1_s, inR, bn1_s, inRR, bn1_s]
    by_cases hy : (0 : Int32) ≤ a2 ∧ a2 ≤ 3
    · obtain ⟨j, hj1, hj2, rfl⟩ := in_T (a := 0) (c := 3) (by decide) (by decide) hy
      rw [if_pos hy, if_10, show (0 : Int32) = nI 0 from rfl, nI_add, Nat.zero_add, traitC ho h1 hp (by omega), bn1_s, gx_i (by omega) (by decide), gx_i (by omega) (by decide), gx_i (by omega) (by decide), gx_i (by omega) (by decide), nI_clamp (by omega), g0, g1, g2, g3]
      refine ⟨nI (aPt A p j), rfl, ?_⟩
      rcases (show j = 0 ∨ j = 1 ∨ j = 2 ∨ j = 3 by omega) with rfl | rfl | rfl | rfl
      · rfl
      · rw [if_neg (by decide), if_pos (by decide)]
      · rw [if_neg (by decide), if_neg (by decide), if_pos (by decide)]
      · rw [if_neg (by decide), if_neg (by decide), if_neg (by decide), if_pos (by decide)]
    · rw [if_neg hy, if_00]
      have n0 : ¬ a2 = 0 := fun q => hy (by rw [q]; decide)
      have n1 : ¬ a2 = 1 := fun q => hy (by rw [q]; decide)
      have n2 : ¬ a2 = 2 := fun q => hy (by rw [q]; decide)
      have n3 : ¬ a2 = 3 := fun q => hy (by rw [q]; decide)
      rw [if_neg n0, if_neg n1, if_neg n2, if_neg n3]
      by_cases hz : (10 : Int32) ≤ a2 ∧ a2 ≤ 17
      · obtain ⟨j, hj1, hj2, rfl⟩ := in_T (a := 10) (c := 17) (by decide) (by decide) hz
        rw [if_pos hz, if_10, if_10, show (4 : Int32) = nI 4 from rfl, show (10 : Int32) = nI 10 from rfl, show (8 : Int32) = nI 8 from rfl, nI_add, pk_sub (by omega), pk_mul, nI_add, pk_sub (by omega), traitC ho h1 hp (by omega), bn1_s, gx_i (by omega) (by decide), nI_clamp (by omega), show 8 * p + j - 10 = 8 * p + (j - 10) by omega, g4 (j - 10) (by omega), show 4 + j - 10 = 4 + (j - 10) by omega]
        exact ⟨_, rfl, rfl⟩
      · rw [if_neg hz, if_00, if_00]
        exact ⟨_, rfl, rfl⟩
  · have hx' : ixB (aPn A) a1 = false := by simpa using hx
    simp only [hx', if_b0]
    exact ⟨_, rfl, rfl⟩
/-- where people lie -/
def ppC (o k : Nat) : Bool := (o == 21 && k == 1) || o == 22
def ppR (o k : Nat) : Bool := (o == 0 && k == 51) || (35 ≤ o && o ≤ 39)
def setP (A : Abs) (n : Nat) (T : Nat → Nat → Nat) : Abs := (A.1, (n, T), A.2.2)
theorem pp_toldC {r : Nat} (h : tR r = true) {j : Nat} (hj : j ≤ 8) (k : Nat) : ppC (r + j) k = false := by
  rcases tR_or h with rfl | rfl
  · rcases (show j = 0 ∨ j = 1 ∨ j = 2 ∨ j = 3 ∨ j = 4 ∨ j = 5 ∨ j = 6 ∨ j = 7 ∨ j = 8 by omega) with rfl | rfl | rfl | rfl | rfl | rfl | rfl | rfl | rfl <;> rfl
  · rcases (show j = 0 ∨ j = 1 ∨ j = 2 ∨ j = 3 ∨ j = 4 ∨ j = 5 ∨ j = 6 ∨ j = 7 ∨ j = 8 by omega) with rfl | rfl | rfl | rfl | rfl | rfl | rfl | rfl | rfl <;> rfl
theorem RC_ppl {A : Abs} {σ σ' : gS} {n : Nat} {T : Nat → Nat → Nat} {P : Nat → Nat → Bool} (h : RC A σ) (f : fr P σ σ') (hP : ∀ o k, usC o k = true → ppC o k = false → P o k = false) (h1 : σ'.1 21 1 = nI n) (h2 : ∀ p j, p < n → j < 12 → σ'.1 22 (p * 12 + j) = nI (T p j)) : RC (setP A n T) σ' := by
  obtain ⟨⟨a1, a2⟩, -, ⟨c1, c2⟩, ⟨r, d1, d2, d3, d4⟩, e, g, g'⟩ := h
  have F1 : ∀ o k, usC o k = true → ppC o k = false → σ'.1 o k = σ.1 o k := fun o k q1 q2 => fr_1 f (hP o k q1 q2)
  refine ⟨⟨(F1 _ _ rfl rfl).trans a1, fun i hi => (F1 2 i rfl rfl).trans (a2 i hi)⟩, ⟨h1, h2⟩, ⟨(F1 _ _ rfl rfl).trans c1, fun i hi => ?_⟩, ⟨r, d1, (fr_3 f (hP _ _ rfl rfl)).trans d2, (fr_3 f (hP _ _ rfl rfl)).trans d3, TdC_fr f (fun j k hj => hP _ _ ?_ (pp_toldC d1 hj k)) d4⟩, (F1 _ _ rfl rfl).trans e, fun j hj => (fr_2 f (hP 8 j rfl rfl)).trans (g j hj), fun n k hn hk => (fr_2 f (hP 45 _ rfl rfl)).trans (g' n k hn hk)⟩
  · obtain ⟨x1, x2, x3⟩ := c2 i hi
    exact ⟨(F1 40 i rfl rfl).trans x1, (F1 41 i rfl rfl).trans x2, (F1 42 i rfl rfl).trans x3⟩
  · rcases tR_or d1 with rfl | rfl
    · rcases (show j = 0 ∨ j = 1 ∨ j = 2 ∨ j = 3 ∨ j = 4 ∨ j = 5 ∨ j = 6 ∨ j = 7 ∨ j = 8 by omega) with rfl | rfl | rfl | rfl | rfl | rfl | rfl | rfl | rfl <;> rfl
    · rcases (show j = 0 ∨ j = 1 ∨ j = 2 ∨ j = 3 ∨ j = 4 ∨ j = 5 ∨ j = 6 ∨ j = 7 ∨ j = 8 by omega) with rfl | rfl | rfl | rfl | rfl | rfl | rfl | rfl | rfl <;> rfl
theorem RR_ppl {A : Abs} {τ τ' : gS} {n : Nat} {T : Nat → Nat → Nat} {P : Nat → Nat → Bool} (h : RR A τ) (f : fr P τ τ') (hP : ∀ o k, usR o k = true → ppR o k = false → P o k = false) (h1 : τ'.1 0 51 = nI n) (h2 : ∀ p, p < n → τ'.1 35 p = nI (T p 0) ∧ τ'.1 36 p = nI (T p 1) ∧ τ'.1 37 p = nI (T p 2) ∧ τ'.1 38 p = nI (T p 3) ∧ ∀ j, j < 8 → τ'.1 39 (8 * p + j) = nI (T p (4 + j))) : RR (setP A n T) τ' := by
  obtain ⟨⟨a1, a2⟩, -, ⟨c1, c2⟩, ⟨L, d1, d2, d3⟩, e, g⟩ := h
  have F1 : ∀ o k, usR o k = true → ppR o k = false → τ'.1 o k = τ.1 o k := fun o k q1 q2 => fr_1 f (hP o k q1 q2)
  refine ⟨⟨(F1 _ _ rfl rfl).trans a1, fun i hi => by rw [F1 1 i rfl rfl]; exact a2 i hi⟩, ⟨h1, h2⟩, ⟨(F1 _ _ rfl rfl).trans c1, fun i hi => ?_⟩, ⟨L, d1, (F1 _ _ rfl rfl).trans d2, TdR_fr f (fun o k g1 g2 => hP o k (by simp [usR, g1, g2]) ?_) d3⟩, (F1 _ _ rfl rfl).trans e, fun j hj => (fr_2 f (hP 7 j rfl rfl)).trans (g j hj)⟩
  · obtain ⟨x1, x2, x3, x4⟩ := c2 i hi
    exact ⟨(F1 43 i rfl rfl).trans x1, (F1 44 i rfl rfl).trans x2, (F1 45 i rfl rfl).trans x3, (F1 46 i rfl rfl).trans x4⟩
  · simp only [ppR, Bool.or_eq_false_iff, Bool.and_eq_false_iff, beq_eq_false_iff_ne, decide_eq_false_iff_not]
    omega
