/-! read: bytes and their runs -/
def txC (n : Nat) (b : Nat → Nat) (σ : gS) : Prop := σ.1 1 1 = nI n ∧ ∀ i, i < n → σ.1 2 i = nI (b i)
def txR (n : Nat) (b : Nat → Nat) (τ : gS) : Prop := τ.1 0 4 = nI n ∧ ∀ i, i < n → τ.1 2 i &&& 255 = nI (b i)
section BYTES
variable {n : Nat} {b : Nat → Nat} {σ τ : gS} (hn : n ≤ 2000) (hb : ∀ i, i < n → b i < 256)
theorem byC (hn : n ≤ 2000) (h : txC n b σ) {i : Nat} (hi : i < n) : pX6_byteAt (nI i) σ = some (nI (b i)) := by
  unfold pX6_byteAt
  rw [if_neg (nI_pos (by omega)), h.1, if_neg (nI_ge hi (by omega)), gx_i (by omega) (by decide), nI_clamp (by omega), h.2 i hi]
theorem byC_o (hn : n ≤ 2000) (h : txC n b σ) {i : Nat} (hi : n ≤ i) (h2 : i < 5000) : pX6_byteAt (nI i) σ = some (-1) := by
  unfold pX6_byteAt
  rw [if_neg (nI_pos (by omega)), h.1, if_pos (nI_le hi (by omega))]
theorem byR (hn : n ≤ 2000) (h : txR n b τ) {i : Nat} (hi : i < n) : pX11_byteAt (nI i) τ = some (nI (b i)) := by
  unfold pX11_byteAt
  rw [h.1, if_neg (nI_ge hi (by omega)), gx_i (by omega) (by decide), nI_clamp (by omega), h.2 i hi]
theorem byR_o (hn : n ≤ 2000) (h : txR n b τ) {i : Nat} (hi : n ≤ i) (h2 : i < 5000) : pX11_byteAt (nI i) τ = some 0 := by
  unfold pX11_byteAt
  rw [h.1, if_pos (nI_le hi (by omega))]
end BYTES
/-- the first that isn't P -/
theorem run_e (P : Nat → Prop) [DecidablePred P] (n : Nat) : ∀ (m i : Nat), n - i = m → i ≤ n → ∃ e, i ≤ e ∧ e ≤ n ∧ (∀ j, i ≤ j → j < e → P j) ∧ (e < n → ¬ P e)
  | 0, i, hm, hi => ⟨i, Nat.le_refl _, hi, fun j h1 h2 => by omega, fun h => by omega⟩
  | m + 1, i, hm, hi => by
    by_cases hp : P i
    · obtain ⟨e, h1, h2, h3, h4⟩ := run_e P n m (i + 1) (by omega) (by omega)
      refine ⟨e, by omega, h2, fun j j1 j2 => ?_, h4⟩
      rcases Nat.eq_or_lt_of_le j1 with q | q
      · rw [← q]; exact hp
      · exact h3 j q j2
    · exact ⟨i, Nat.le_refl _, hi, fun j h1 h2 => by omega, fun _ => hp⟩
def blB (c : Nat) : Prop := c = 9 ∨ c = 10 ∨ c = 13 ∨ c = 32
def ltB (c : Nat) : Prop := 97 ≤ c ∧ c ≤ 122
def dgB2 (c : Nat) : Prop := 48 ≤ c ∧ c ≤ 57
theorem nIq {a : Nat} (ha : a < 256) (k : Nat) (hk : k < 256) : nI a = nI k ↔ a = k := nI_eq (by omega) (by omega)
theorem bl_if {α : Type} {c : Nat} (hc : c < 256) {x y : Option α} : (if nI c = (9 : Int32) then x else if nI c = (10 : Int32) then x else if nI c = (13 : Int32) then x else if nI c = (32 : Int32) then x else y) = if c = 9 ∨ c = 10 ∨ c = 13 ∨ c = 32 then x else y := by
  have i9 : nI c = (9 : Int32) ↔ c = 9 := nIq hc 9 (by decide)
  have i10 : nI c = (10 : Int32) ↔ c = 10 := nIq hc 10 (by decide)
  have i13 : nI c = (13 : Int32) ↔ c = 13 := nIq hc 13 (by decide)
  have i32 : nI c = (32 : Int32) ↔ c = 32 := nIq hc 32 (by decide)
  simp only [i9, i10, i13, i32]
  by_cases h9 : c = 9
  · rw [if_pos h9, if_pos (Or.inl h9)]
  · by_cases h10 : c = 10
    · rw [if_neg h9, if_pos h10, if_pos (Or.inr (Or.inl h10))]
    · by_cases h13 : c = 13
      · rw [if_neg h9, if_neg h10, if_pos h13, if_pos (Or.inr (Or.inr (Or.inl h13)))]
      · by_cases h32 : c = 32
        · rw [if_neg h9, if_neg h10, if_neg h13, if_pos h32, if_pos (Or.inr (Or.inr (Or.inr h32)))]
        · rw [if_neg h9, if_neg h10, if_neg h13, if_neg h32, if_neg (by omega)]
theorem blanksC {n : Nat} {b : Nat → Nat} {σ : gS} (hn : n ≤ 2000) (hb : ∀ i, i < n → b i < 256) (h : txC n b σ) {i e : Nat} (hi : i ≤ e) (he : e ≤ n) (h1 : ∀ j, i ≤ j → j < e → (b j = 9 ∨ b j = 10 ∨ b j = 13 ∨ b j = 32)) (h2 : e < n → ¬ (b e = 9 ∨ b e = 10 ∨ b e = 13 ∨ b e = 32)) : pX6_afterBlanks (nI i) σ = some (nI e) := by
  unfold pX6_afterBlanks
  rw [h.1]
  apply lp_bnS
  refine lp_cnt (fun k (z : Int32) => z = nI (i + k)) (e - i) ?_ ?_ (k := 0) (by omega) rfl
  · rintro k z hk rfl
    rw [if_neg (nI_ge (by omega) (by omega)), byC hn h (by omega), bn1_s]
    simp only [lt_b, nI_1]
    rw [bl_if (hb _ (by omega)), if_pos (h1 _ (by omega) (by omega))]
    exact ⟨_, rfl, rfl⟩
  · rintro z rfl
    rw [show i + (e - i) = e by omega]
    by_cases hc : e < n
    · rw [if_neg (nI_ge hc (by omega)), byC hn h hc, bn1_s]
      simp only [lt_b, nI_1]
      rw [bl_if (hb _ hc), if_neg (h2 hc)]
      exact ⟨_, rfl, rfl⟩
    · rw [if_pos (nI_le (by omega) (by omega))]
      exact ⟨_, rfl, by rw [bnS_l, show e = n by omega]⟩
theorem runC {n : Nat} {b : Nat → Nat} {σ : gS} (hn : n ≤ 2000) (hb : ∀ i, i < n → b i < 256) (h : txC n b σ) {i e lo hi' : Nat} (hlo : lo < 256) (hhi : hi' < 256) (hi : i ≤ e) (he : e ≤ n) (h1 : ∀ j, i ≤ j → j < e → (lo ≤ b j ∧ b j ≤ hi')) (h2 : e < n → ¬ (lo ≤ b e ∧ b e ≤ hi')) : pX6_afterRun (nI i) (nI lo) (nI hi') σ = some (nI e) := by
  have inb : ∀ c, c < 256 → pX10_inRange (nI c) (nI lo) (nI hi') = some (b01 (decide (lo ≤ c ∧ c ≤ hi'))) := fun c hc => by
    rw [inR, in_b]
    congr 2
    exact decide_eq_decide.mpr (by rw [nI_leI (by omega) (by omega), nI_leI (by omega) (by omega)])
  unfold pX6_afterRun
  rw [h.1]
  apply lp_bnS
  refine lp_cnt (fun k (z : Int32) => z = nI (i + k)) (e - i) ?_ ?_ (k := 0) (by omega) rfl
  · rintro k z hk rfl
    rw [if_neg (nI_ge (by omega) (by omega)), byC hn h (by omega), bn1_s, inb _ (hb _ (by omega)), bn1_s, decide_eq_true (h1 _ (by omega) (by omega)), if_b1, lt_b, nI_1]
    exact ⟨_, rfl, rfl⟩
  · rintro z rfl
    rw [show i + (e - i) = e by omega]
    by_cases hc : e < n
    · rw [if_neg (nI_ge hc (by omega)), byC hn h hc, bn1_s, inb _ (hb _ hc), bn1_s, decide_eq_false (h2 hc), if_b0]
      exact ⟨_, rfl, rfl⟩
    · rw [if_pos (nI_le (by omega) (by omega))]
      exact ⟨_, rfl, by rw [bnS_l, show e = n by omega]⟩
/-- letters and digits as numbers -/
def wn (b : Nat → Nat) (i : Nat) : Nat → Nat
  | 0 => 0
  | j + 1 => wn b i j * 27 + (b (i + j) - 96)
def dn (b : Nat → Nat) (i : Nat) : Nat → Nat
  | 0 => 0
  | j + 1 => dn b i j * 10 + (b (i + j) - 48)
theorem let_l {c : Nat} (h : 97 ≤ c ∧ c ≤ 122) : ((nI c - 97) + 1).toInt64 = lN (c - 96) := by
  have e : nI c - (97 : Int32) + 1 = nI (c - 96) := by
    rw [show (97 : Int32) = nI 97 from rfl, nI_subS h.1, nI_1]
    congr 1
    omega
  rw [e, nI_l (by omega)]
theorem dig_l {c : Nat} (h : 48 ≤ c ∧ c ≤ 57) : (nI c - 48).toInt64 = lN (c - 48) := by
  rw [show (48 : Int32) = nI 48 from rfl, nI_subS h.1, nI_l (by omega)]
theorem wn_lo {b : Nat → Nat} {i : Nat} : ∀ j, (∀ k, k < j + 1 → 97 ≤ b (i + k) ∧ b (i + k) ≤ 122) → 27 ^ j ≤ wn b i (j + 1)
  | 0, h => by
    have := h 0 (by omega)
    show 1 ≤ 0 * 27 + (b (i + 0) - 96)
    omega
  | j + 1, h => by
    have ih := wn_lo j (fun k hk => h k (by omega))
    show 27 ^ (j + 1) ≤ wn b i (j + 1) * 27 + (b (i + (j + 1)) - 96)
    rw [Nat.pow_succ]
    exact Nat.le_trans (Nat.mul_le_mul_right 27 ih) (Nat.le_add_right _ _)
theorem wn_hi {b : Nat → Nat} {i : Nat} : ∀ j, (∀ k, k < j → 97 ≤ b (i + k) ∧ b (i + k) ≤ 122) → wn b i j < 27 ^ j
  | 0, h => Nat.zero_lt_one
  | j + 1, h => by
    have ih := wn_hi j (fun k hk => h k (by omega))
    have := h j (by omega)
    show wn b i j * 27 + (b (i + j) - 96) < _
    rw [Nat.pow_succ]
    omega
theorem dn_hi {b : Nat → Nat} {i : Nat} : ∀ j, (∀ k, k < j → 48 ≤ b (i + k) ∧ b (i + k) ≤ 57) → dn b i j < 10 ^ j
  | 0, h => Nat.zero_lt_one
  | j + 1, h => by
    have ih := dn_hi j (fun k hk => h k (by omega))
    have := h j (by omega)
    show dn b i j * 10 + (b (i + j) - 48) < _
    rw [Nat.pow_succ]
    omega
theorem lc_eq {x y : Int64} : lg_cmp x y = 0 ↔ x = y := by
  constructor
  · intro h
    unfold lg_cmp at h
    split at h
    · exact absurd h (by decide)
    · split at h
      · assumption
      · exact absurd h (by decide)
  · rintro rfl; exact lc_rf
