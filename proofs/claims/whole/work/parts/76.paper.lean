/-! papers -/
theorem sbitN {f : Nat → Bool} {n s : Nat} (hn : n ≤ 31) (hs : s < n) : (bitsN f n >>> (nI s &&& (31 : Int32))) &&& (1 : Int32) = b01 (f s) := by
  apply b_ext
  intro i hi
  rw [b_and, b_sshr s (by omega) _ hi, bt_1 i hi]
  have hb : bt (b01 (f s)) i = (decide (i = 0) && f s) := by
    cases f s with
    | false => rw [b01_f, b_0, Bool.and_false]
    | true => rw [b01_t, bt_1 i hi, Bool.and_true]
  rw [hb]
  by_cases h0 : i = 0
  · subst h0
    rw [Nat.add_zero, if_pos (by omega), bt_N (by omega) (by omega), decide_eq_true hs]
    simp
  · rw [decide_eq_false h0, Bool.and_false, Bool.false_and]
/-- the paper of book b, by what is up: the first n WHENs -/
def ppN (A : Abs) (b : Nat) (f : Nat → Bool) : Nat → Int32
  | 0 => 0
  | k + 1 => if wBk (aTd A) k = b ∧ f (wSg (aTd A) k) = true then ppN A b f k ||| ((1 : Int32) <<< (nI (wSy (aTd A) k) &&& (31 : Int32))) else ppN A b f k
theorem ppN_s {A : Abs} {b : Nat} {f : Nat → Bool} {k : Nat} : ppN A b f (k + 1) = if wBk (aTd A) k = b ∧ f (wSg (aTd A) k) = true then ppN A b f k ||| ((1 : Int32) <<< (nI (wSy (aTd A) k) &&& (31 : Int32))) else ppN A b f k := rfl
theorem paperC {A : Abs} {σ : gS} {r b : Nat} {f : Nat → Bool} (ho : okA A) (hC : TdC (aTd A) r σ) (hb : b < 4) : pX9_paperOf r (nI b) (bitsN f (nSg (aTd A))) σ = some (ppN A b f (nWh (aTd A))) := by
  have hT := ho.2.2.2
  obtain ⟨t1, t2, t3, t4, t5⟩ := hT.1
  unfold pX9_paperOf
  apply lp_bn1
  refine ⟨_, lp_seq (fun k => (nI k, ppN A b f k)) (nWh (aTd A)) (fun k hk => ?_) ?_, rfl⟩
  · obtain ⟨w1, w2, w3⟩ := hT.2.2.1 k hk
    obtain ⟨c1, c2, c3⟩ := hC.2.2.1 k hk
    dsimp only
    rw [hC.1.2.2.2.1, if_neg (nI_ge hk (by omega)), gx_i (by omega) (by decide), nI_clamp (by omega), c1, c2, c3, bitOfN (by omega) w2, bn1_s]
    simp only [gx_i (show k < 40 by omega) (show 40 < 2 ^ 31 by decide), lt_b, nI_1]
    rw [ppN_s]
    by_cases h1 : wBk (aTd A) k = b
    · rw [if_pos (show nI (wBk (aTd A) k) = nI b by rw [h1])]
      cases hf : f (wSg (aTd A) k) with
      | false => rw [if_neg (show ¬ b01 false = 1 by decide), if_neg (fun z => absurd z.2 (by decide))]
      | true => rw [if_pos (show b01 true = 1 from rfl), if_pos ⟨h1, rfl⟩]
    · rw [if_neg (fun z => h1 ((nI_eq (by omega) (by omega)).mp z)), if_neg (fun z => h1 z.1)]
  · dsimp only
    rw [hC.1.2.2.2.1, if_pos (nI_le (Nat.le_refl _) (by omega))]
theorem paperR {A : Abs} {τ : gS} {b : Nat} {f : Nat → Bool} (ho : okA A) (h : RR A τ) (hb : b < 4) : pX11_paperBy (nI b) (bitsN f (nSg (aTd A))) τ = some (ppN A b f (nWh (aTd A))) := by
  have hT := ho.2.2.2
  obtain ⟨t1, t2, t3, t4, t5⟩ := hT.1
  obtain ⟨L, hL, hL2, hR⟩ := h.2.2.2.1
  have e40 : (40 : Int32) * nI L = nI (40 * L) := by rw [show (40 : Int32) = nI 40 from rfl, nI_mulS]
  unfold pX11_paperBy
  rw [hL2, e40, lt_b]
  apply lp_bn1
  refine ⟨_, lp_seq (fun k => (nI (40 * L + k), ppN A b f k)) (nWh (aTd A)) (fun k hk => ?_) ?_, rfl⟩
  · obtain ⟨w1, w2, w3⟩ := hT.2.2.1 k hk
    obtain ⟨c1, c2, c3⟩ := hR.2.2.1 k hk
    dsimp only
    rw [gx_i hL (by decide), nI_clamp (show L < 2 ^ 31 by omega), hR.1.2.2.2.1, nI_add, if_neg (nI_ge (by omega) (by omega)), gx_i (by omega) (by decide), nI_clamp (by omega), c1, c2, c3, sbitN (by omega) w2]
    simp only [gx_i (show 40 * L + k < 80 by omega) (show 80 < 2 ^ 31 by decide), lt_b, nI_1]
    rw [ppN_s]
    by_cases h1 : wBk (aTd A) k = b
    · rw [if_pos (show nI (wBk (aTd A) k) = nI b by rw [h1])]
      cases hf : f (wSg (aTd A) k) with
      | false => rw [if_neg (show ¬ b01 false = 1 by decide), if_neg (fun z => by first | (rw [hf] at z; exact absurd z.2 (by decide)) | exact absurd z.2 (by decide))]; rfl
      | true => rw [if_pos (show b01 true = 1 from rfl), if_pos (by first | exact ⟨h1, hf⟩ | exact ⟨h1, rfl⟩)]; rfl
    · rw [if_neg (fun z => h1 ((nI_eq (by omega) (by omega)).mp z)), if_neg (fun z => h1 z.1)]; rfl
  · dsimp only
    rw [gx_i hL (by decide), nI_clamp (show L < 2 ^ 31 by omega), hR.1.2.2.2.1, nI_add, if_pos (nI_le (Nat.le_refl _) (by omega))]
