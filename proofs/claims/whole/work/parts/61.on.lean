/-! on -/
def onF (A : Abs) (n p : Nat) : Nat → Bool
  | 0 => false
  | i + 1 => if kn A n i = true ∧ aFa A i = p ∧ (aFk A i = 2 ∨ aFk A i = 3) then decide (aFk A i = 2) else onF A n p i
theorem onF_s {A : Abs} {n p i : Nat} : onF A n p (i + 1) = if kn A n i = true ∧ aFa A i = p ∧ (aFk A i = 2 ∨ aFk A i = 3) then decide (aFk A i = 2) else onF A n p i := rfl
theorem onF_to {A : Abs} {n p : Nat} : ∀ m, onF A n p (n + m) = onF A n p n
  | 0 => rfl
  | m + 1 => by
    rw [← Nat.add_assoc, onF_s, if_neg (fun z => by rw [kn_off (by omega)] at z; exact absurd z.1 (by decide))]
    exact onF_to m
/-- PERSON p is on THE LIST as KNOWN by n -/
def onL (A : Abs) (n p : Nat) : Bool := onF A n p n
theorem isListedC {A : Abs} {σ : gS} {n p : Nat} (ho : okA A) (h : RC A σ) (hn : n ≤ aFn A) (hv : ∀ i, i < aFn A → σ.1 43 i = b01 (kn A n i)) (hp : p < 100) : pX1_isListed (nI p) σ = some (b01 (onL A n p)) := by
  have h60 := ho.2.2.1.1
  unfold pX1_isListed
  apply lp_bn1
  refine ⟨b01 (onF A n p (aFn A)), lp_seq (fun k => (nI k, b01 (onF A n p k))) (aFn A) (fun k hk => ?_) ?_, ?_⟩
  · obtain ⟨g1, g2, g3⟩ := h.2.2.1.2 k hk
    have hk5 := (ho.2.2.1.2 k hk).2.2.2.2
    have i2 : nI (aFk A k) = (2 : Int32) ↔ aFk A k = 2 := nI_eq (b := 2) (by omega) (by decide)
    have i3 : nI (aFk A k) = (3 : Int32) ↔ aFk A k = 3 := nI_eq (b := 3) (by omega) (by decide)
    have ia : nI (aFa A k) = nI p ↔ aFa A k = p := nI_eq (by have := subj_lt ho hk; omega) (by omega)
    simp only [h.2.2.1.1, gx_i (show k < 60 by omega) (show 60 < 2 ^ 31 by decide), nI_clamp (show k < 2 ^ 31 by omega), hv k hk, g1, g2, lt_b, nI_1]
    rw [if_neg (nI_ge hk (by omega)), onF_s]
    rcases Bool.eq_false_or_eq_true (kn A n k) with q | q
    · rw [q, if_b1]
      by_cases ha : aFa A k = p
      · rw [if_pos (ia.mpr ha)]
        by_cases h2 : aFk A k = 2
        · rw [if_pos (i2.mpr h2), if_pos (i2.mpr h2), if_pos ⟨rfl, ha, Or.inl h2⟩, decide_eq_true h2]; rfl
        · rw [if_neg (fun z => h2 (i2.mp z))]
          by_cases h3 : aFk A k = 3
          · rw [if_pos (i3.mpr h3), if_neg (fun z => h2 (i2.mp z)), if_pos ⟨rfl, ha, Or.inr h3⟩, decide_eq_false h2]; rfl
          · rw [if_neg (fun z => h3 (i3.mp z)), if_neg (fun z => by rcases z.2.2 with y | y; exact h2 y; exact h3 y)]
      · rw [if_neg (fun z => ha (ia.mp z)), if_neg (fun z => ha z.2.1)]
    · rw [q, if_b0, if_neg (fun z => absurd z.1 (by decide))]
  · dsimp only
    rw [h.2.2.1.1, if_pos (nI_le (Nat.le_refl _) (by omega))]
  · rw [b01_a]
    unfold onL
    obtain ⟨m, hm⟩ : ∃ m, aFn A = n + m := ⟨aFn A - n, by omega⟩
    rw [hm, onF_to]
theorem isOnR {A : Abs} {τ : gS} {n p : Nat} (ho : okA A) (h : RR A τ) (hn : n ≤ aFn A) (hp : p < 100) : pX11_isOn (nI p) (nI n) τ = some (b01 (onL A n p)) := by
  have h60 := ho.2.2.1.1
  unfold pX11_isOn
  apply lp_bn1
  refine ⟨b01 (onF A n p n), lp_seq (fun k => (nI k, b01 (onF A n p k))) n (fun k hk => ?_) ?_, ?_⟩
  · obtain ⟨g1, g2, g3, g4⟩ := h.2.2.1.2 k (by omega)
    have hk5 := (ho.2.2.1.2 k (by omega)).2.2.2.2
    have ia : nI (aFa A k) = nI p ↔ aFa A k = p := nI_eq (by have := subj_lt ho (show k < aFn A by omega); omega) (by omega)
    have f1 := isFactR (s := 1) ho h hn hk (by decide)
    have f2 := isFactR (s := 2) ho h hn hk (by decide)
    have k1 : (decide (kR (aFk A k) = 1)) = decide (aFk A k = 2) := decide_eq_decide.mpr (by unfold kR; split <;> omega)
    have k2 : (decide (kR (aFk A k) = 2)) = decide (aFk A k = 3) := decide_eq_decide.mpr (by unfold kR; split <;> omega)
    rw [k1] at f1
    rw [k2] at f2
    simp only [show nI 1 = 1 from rfl] at f1
    simp only [show nI 2 = 2 from rfl] at f2
    simp only [f1, f2, bn1_s, gx_i (show k < 60 by omega) (show 60 < 2 ^ 31 by decide), nI_clamp (show k < 2 ^ 31 by omega), g2, lt_b, nI_1]
    rw [if_neg (nI_ge hk (by omega)), onF_s]
    by_cases ha : aFa A k = p
    · rw [if_pos (ia.mpr ha)]
      rcases Bool.eq_false_or_eq_true (kn A n k) with q | q
      · rw [q, Bool.and_true, Bool.and_true]
        by_cases h2 : aFk A k = 2
        · have h3 : ¬ aFk A k = 3 := by omega
          rw [decide_eq_true h2, decide_eq_false h3, if_b1, bn1_s, if_b0, if_pos ⟨rfl, ha, Or.inl h2⟩]; rfl
        · rw [decide_eq_false h2, if_b0, bn1_s]
          by_cases h3 : aFk A k = 3
          · rw [decide_eq_true h3, if_b1, if_pos ⟨rfl, ha, Or.inr h3⟩]; rfl
          · rw [decide_eq_false h3, if_b0, if_neg (fun z => by rcases z.2.2 with y | y; exact h2 y; exact h3 y)]
      · rw [q, Bool.and_false, Bool.and_false, if_b0, bn1_s, if_b0, if_neg (fun z => absurd z.1 (by decide))]
    · rw [if_neg (fun z => ha (ia.mp z)), if_neg (fun z => ha z.2.1)]
  · dsimp only
    rw [if_pos (nI_le (Nat.le_refl _) (by omega))]
  · rw [b01_a]; rfl
theorem b01_if {b : Bool} {α : Type} {x y : α} : (if b01 b = 0 then x else y) = if b = true then y else x := by cases b <;> rfl
theorem h_36 {a1 a2 a3 a4 a5 : Int32} {u : gS × gS} (hu : Inv u) : ∃ t, q36 a1 a2 a3 a4 a5 u = some (.inl t) ∧ Inv t := by
  obtain ⟨A, ho, h1, h2⟩ := hu
  have h60 := ho.2.2.1.1
  have hpn := ho.2.1.1
  have no : Inv (u.1, u.2) := ⟨A, ho, h1, h2⟩
  suffices hs : ∃ v s1, pX10_on a1 a2 u.1 = some (v, s1) ∧ pX11_on a1 a2 u.2 = some v ∧ Inv (s1, u.2) by
    obtain ⟨v, s1, e1, e2, e3⟩ := hs
    refine ⟨(s1, u.2), ?_, e3⟩
    unfold q36
    rw [e1, bn2_s, e2, bn1_s, if_pos rfl]
  unfold pX10_on pX11_on
  simp only [bn1_s, canC ho h1, canR ho h2, hasC ho h1, isPR ho h2]
  by_cases hx : ixB (aPn A) a1 = true
  case neg =>
    have hx' : ixB (aPn A) a1 = false := by simpa using hx
    simp only [hx', if_b0]
    exact ⟨-1, u.1, rfl, rfl, no⟩
  by_cases hy : ixB (aFn A + 1) a2 = true
  case neg =>
    have hy' : ixB (aFn A + 1) a2 = false := by simpa using hy
    simp only [hx, hy', if_b0, if_b1]
    exact ⟨-1, u.1, rfl, rfl, no⟩
  simp only [hx, hy, if_b1]
  obtain ⟨p, hp, rfl⟩ := ix_T (by omega) hx
  obtain ⟨n, hn, rfl⟩ := ix_T (by omega) hy
  obtain ⟨s1, e1, e2, e3, e4⟩ := knowC (n := n) ho h1 (by omega)
  rw [e1, bn1_s, isListedC ho e3 (by omega) e4 (by omega), bn1_s, isOnR ho h2 (by omega) (by omega), bn1_s]
  refine ⟨b01 (onL A n p), s1, ?_, ?_, A, ho, e3, h2⟩ <;> cases onL A n p <;> rfl
