/-! read: what stands at a place -/
def TokAt (n : Nat) (b : Nat → Nat) (i K e : Nat) (v : Int64) (vr : Int32) (w : Int64) : Prop := (K ≤ 35 ∨ K = 37) ∧ i < e ∧ e ≤ n ∧ (K = 24 → ∃ m, m < 10000 ∧ v = lN m ∧ vr = nI m) ∧ (K = 23 → w = v) ∧ (∀ σ c, txC n b σ → wdsC σ → σ.1 4 3 = nI c → c ≤ 400 → pX8_scanOne (nI i) σ = some (nI e, puC c (nI K) (nI i) v σ)) ∧ (∀ τ c, txR n b τ → wdsR τ → τ.1 0 10 = nI c → c ≤ 400 → ctF (nI i, τ) = some (.inl (nI e, tkR c (nI (kp K)) (nI i) vr w τ)))
theorem inb_c {c lo hi : Nat} (hc : c < 256) (h1 : lo < 256) (h2 : hi < 256) : pX10_inRange (nI c) (nI lo) (nI hi) = some (b01 (decide (lo ≤ c ∧ c ≤ hi))) := by
  rw [inR, in_b]
  congr 2
  exact decide_eq_decide.mpr (by rw [nI_leI (by omega) (by omega), nI_leI (by omega) (by omega)])
theorem ne_m1 {c : Nat} (hc : c < 256) : ¬ nI c = (-1 : Int32) := fun q => by
  have := congrArg Int32.toInt q
  rw [nI_toInt (by omega)] at this
  have e : (-1 : Int32).toInt = -1 := by decide
  rw [e] at this
  omega
section TOK1
variable {n : Nat} {b : Nat → Nat} {i : Nat}
theorem letR {τ : gS} (hn : n ≤ 2000) (hb : ∀ i, i < n → b i < 256) (h : txR n b τ) {j : Nat} (hj : j < 4000) : ∃ v, pX11_byteAt (nI j) τ = some v ∧ pX11_isLetter v = some (b01 (decide (j < n ∧ 97 ≤ b j ∧ b j ≤ 122))) ∧ (j < n → v = nI (b j)) := by
  by_cases hc : j < n
  · refine ⟨_, byR hn h hc, ?_, fun _ => rfl⟩
    rw [isLtR (hb j hc)]
    congr 2
    exact decide_eq_decide.mpr ⟨fun q => ⟨hc, q⟩, fun q => q.2⟩
  · refine ⟨0, byR_o hn h (by omega) (by omega), ?_, fun q => absurd q hc⟩
    rw [decide_eq_false (fun q => hc q.1)]
    exact isLtR (c := 0) (by decide)
theorem digR {τ : gS} (hn : n ≤ 2000) (hb : ∀ i, i < n → b i < 256) (h : txR n b τ) {j : Nat} (hj : j < 4000) : ∃ v, pX11_byteAt (nI j) τ = some v ∧ pX11_isDigit v = some (b01 (decide (j < n ∧ 48 ≤ b j ∧ b j ≤ 57))) ∧ (j < n → v = nI (b j)) := by
  by_cases hc : j < n
  · refine ⟨_, byR hn h hc, ?_, fun _ => rfl⟩
    rw [isDgR (hb j hc)]
    congr 2
    exact decide_eq_decide.mpr ⟨fun q => ⟨hc, q⟩, fun q => q.2⟩
  · refine ⟨0, byR_o hn h (by omega) (by omega), ?_, fun q => absurd q hc⟩
    rw [decide_eq_false (fun q => hc q.1)]
    exact isDgR (c := 0) (by decide)
theorem tokW (hn : n ≤ 2000) (hb : ∀ i, i < n → b i < 256) (hi : i < n) (hl : 97 ≤ b i ∧ b i ≤ 122) : ∃ K e v vr w, TokAt n b i K e v vr w := by
  obtain ⟨e, e1, e2, e3, e4⟩ := run_e (fun j => 97 ≤ b j ∧ b j ≤ 122) n (n - i) i rfl (by omega)
  have hie : i < e := by
    rcases Nat.eq_or_lt_of_le e1 with q | q
    · exact absurd hl (q ▸ e4 (by omega))
    · exact q
  have hlet : ∀ k, k < e - i → 97 ≤ b (i + k) ∧ b (i + k) ≤ 122 := fun k hk => e3 (i + k) (by omega) (by omega)
  obtain ⟨K0, q1, q2, q3, q4⟩ := wkQ (lN (wn b i (e - i)))
  have hK8 : e - i = 8 → K0 = 23 := fun h8 => by
    rcases Nat.eq_or_lt_of_le q1 with z | z
    · exact z
    · have hw := q4 z
      obtain ⟨m1, m2⟩ := wd_lt K0 z
      have lo : 27 ^ 7 ≤ wn b i 8 := wn_lo (b := b) (i := i) 7 (fun k hk => hlet k (by omega))
      have hh := wn_hi (b := b) (i := i) 8 (fun k hk => hlet k (by omega))
      rw [m2, h8] at hw
      have := (pk_lEQ (by omega) (by omega)).mp hw
      omega
  have cl : ∀ σ, txC n b σ → pX6_afterRun (nI i) (97 : Int32) (122 : Int32) σ = some (nI e) := fun σ h => runC (lo := 97) (hi' := 122) hn hb h (by decide) (by decide) (by omega) e2 e3 e4
  refine ⟨if e - i ≤ 8 then K0 else 37, e, lN (wn b i (e - i)), 0, lN (wn b i (min (e - i) 8)), ?_, hie, e2, ?_, ?_, ?_, ?_⟩
  · split
    · exact Or.inl (by omega)
    · exact Or.inr rfl
  · intro q
    split at q <;> omega
  · intro q
    split at q
    · rw [show min (e - i) 8 = e - i by omega]
    · omega
  · intro σ c h hw h4 hc
    have hbi := hb i hi
    unfold pX8_scanOne
    rw [byC hn h hi, bn1_s, if_neg (ne_m1 hbi), show pX10_inRange (nI (b i)) 97 122 = some (b01 (decide (97 ≤ b i ∧ b i ≤ 122))) from inb_c hbi (by decide) (by decide), bn1_s, decide_eq_true hl, if_b1]
    unfold pX8_scanWord
    rw [cl σ h, bn1_s]
    have L : lpP (fun (z4 : (Int32 × Int64)) => if nI e ≤ z4.1 then (some (.inr z4.2) : Option ((Int32 × Int64) ⊕ Int64)) else bn1 (pX6_byteAt z4.1 σ) (fun v5 => bn1 (pX8_withLetter z4.2 v5) (fun v7 => lt' (z4.1 + (1 : Int32)) (fun x9 => some (.inl (x9, v7)))))) (nI i, (0 : Int64)) = some (lN (wn b i (e - i))) := by
      refine lp_seq (fun j => (nI (i + j), lN (wn b i j))) (e - i) (fun j hj => ?_) ?_
      · dsimp only
        rw [if_neg (nI_ge (by omega) (by omega)), byC hn h (by omega), bn1_s]
        unfold pX8_withLetter
        rw [let_l (hlet j hj), bn1_s, lt_b, nI_1, show (27 : Int64) = lN 27 from rfl, lN_mul, lN_add]
        rfl
      · dsimp only
        rw [if_pos (nI_le (by omega) (by omega))]
    rw [L, bn1_s, nI_subS (by omega)]
    by_cases h8 : e - i ≤ 8
    · rw [if_pos (show nI (e - i) ≤ 8 from nI_le (b := 8) h8 (by decide)), q2 σ hw, bn1_s, bn1_s, putC h4 hc, bn1_s, bn2_s, if_pos h8]
    · rw [if_neg (show ¬ nI (e - i) ≤ 8 from nI_ge (a := 8) (by omega) (by omega)), bn1_s, putC h4 hc, bn1_s, bn2_s, if_neg h8]
      rfl
  · intro τ c h hw h10 hc
    have hbi := hb i hi
    unfold ctF
    dsimp only
    rw [h10, if_neg (show ¬ (400 : Int32) < nI c from nI_nlt (a := 400) (by omega) (by decide)), byR hn h hi, bn1_s, h.1, if_pos (nI_lt hi (by omega)), bl_if hbi, if_neg (by omega), isLtR hbi, bn1_s, decide_eq_true hl, if_b1]
    apply lp_bn1
    refine ⟨(nI (e - i), lN (wn b i (min (e - i) 8))), lp_seq (fun j => (lN (wn b i (min j 8)), nI j)) (e - i) (fun j hj => ?_) ?_, ?_⟩
    · dsimp only
      obtain ⟨v, v1, v2, v3⟩ := letR hn hb h (j := i + j) (by omega)
      have hlj := hlet j hj
      rw [nI_add, v1, bn1_s, v2, bn1_s, decide_eq_true ⟨by omega, hlj⟩, if_b1]
      by_cases h8 : 8 ≤ j
      · rw [if_pos (show (8 : Int32) ≤ nI j from nI_le (a := 8) h8 (by omega)), lt_b, nI_1, show min (j + 1) 8 = min j 8 by omega]
      · rw [if_neg (show ¬ (8 : Int32) ≤ nI j from nI_ge (b := 8) (by omega) (by decide)), bn1_s, v3 (by omega)]
        unfold pX11_appends
        have n0 : ¬ nI (b (i + j)) = 0 := nI_ne0 (by omega) (by have := hb (i + j) (by omega); omega)
        rw [if_neg n0, let_l hlj, bn1_s, lt_b, nI_1, show (27 : Int64) = lN 27 from rfl, lN_mul, lN_add, show min (j + 1) 8 = j + 1 by omega, show min j 8 = j by omega, Nat.mul_comm]
        rfl
    · dsimp only
      obtain ⟨v, v1, v2, v3⟩ := letR hn hb h (j := i + (e - i)) (by omega)
      rw [nI_add, v1, bn1_s, v2, bn1_s, decide_eq_false (fun q => by
        rw [show i + (e - i) = e by omega] at q
        exact e4 q.1 q.2), if_b0]
    · dsimp only
      by_cases h8 : e - i ≤ 8
      · rw [if_pos (show nI (e - i) ≤ 8 from nI_le (b := 8) h8 (by decide)), bn1_s, if_pos h8]
        by_cases h7 : 7 < e - i
        · rw [if_pos (show (7 : Int32) < nI (e - i) from nI_lt (a := 7) h7 (by omega)), bn1_s, tokenR h10 (by omega), bn1_s, lt_b, nI_add, show i + (e - i) = e by omega, hK8 (by omega)]
          rfl
        · rw [if_neg (show ¬ (7 : Int32) < nI (e - i) from nI_nlt (a := 7) (by omega) (by decide)), keysR hw, bn1_s, tokenR h10 (by omega), bn1_s, lt_b, nI_add, show i + (e - i) = e by omega, show min (e - i) 8 = e - i by omega, q3]
      · rw [if_neg (show ¬ nI (e - i) ≤ 8 from nI_ge (a := 8) (by omega) (by omega)), bn1_s, if_neg h8, if_pos (show (7 : Int32) < nI (e - i) from nI_lt (a := 7) (by omega) (by omega)), bn1_s, tokenR h10 (by omega), bn1_s, lt_b, nI_add, show i + (e - i) = e by omega]
        rfl
theorem tokI (hn : n ≤ 2000) (hb : ∀ i, i < n → b i < 256) (hi : i < n) (hl : 48 ≤ b i ∧ b i ≤ 57) : ∃ K e v vr w, TokAt n b i K e v vr w := by
  obtain ⟨e, e1, e2, e3, e4⟩ := run_e (fun j => 48 ≤ b j ∧ b j ≤ 57) n (n - i) i rfl (by omega)
  have hie : i < e := by
    rcases Nat.eq_or_lt_of_le e1 with q | q
    · exact absurd hl (q ▸ e4 (by omega))
    · exact q
  have hdig : ∀ k, k < e - i → 48 ≤ b (i + k) ∧ b (i + k) ≤ 57 := fun k hk => e3 (i + k) (by omega) (by omega)
  have cl : ∀ σ, txC n b σ → pX6_afterRun (nI i) (48 : Int32) (57 : Int32) σ = some (nI e) := fun σ h => runC (lo := 48) (hi' := 57) hn hb h (by decide) (by decide) (by omega) e2 e3 e4
  refine ⟨if e - i ≤ 4 then 24 else 37, e, lN (dn b i (e - i)), nI (dn b i (min (e - i) 4)), 0, ?_, hie, e2, ?_, ?_, ?_, ?_⟩
  · split
    · exact Or.inl (by omega)
    · exact Or.inr rfl
  · intro q
    split at q
    · rw [show min (e - i) 4 = e - i by omega]
      have := dn_hi (b := b) (i := i) (e - i) hdig
      refine ⟨_, Nat.lt_of_lt_of_le this (Nat.pow_le_pow_right (by decide) (show e - i ≤ 4 by omega)), rfl, rfl⟩
    · omega
  · intro q
    split at q <;> omega
  · intro σ c h hw h4 hc
    have hbi := hb i hi
    unfold pX8_scanOne
    rw [byC hn h hi, bn1_s, if_neg (ne_m1 hbi), show pX10_inRange (nI (b i)) 97 122 = some (b01 (decide (97 ≤ b i ∧ b i ≤ 122))) from inb_c hbi (by decide) (by decide), bn1_s, decide_eq_false (by omega), if_b0, show pX10_inRange (nI (b i)) 48 57 = some (b01 (decide (48 ≤ b i ∧ b i ≤ 57))) from inb_c hbi (by decide) (by decide), bn1_s, decide_eq_true hl, if_b1]
    unfold pX8_scanInt
    rw [cl σ h, bn1_s]
    have L : lpP (fun (z4 : (Int32 × Int64)) => if nI e ≤ z4.1 then (some (.inr z4.2) : Option ((Int32 × Int64) ⊕ Int64)) else bn1 (pX6_byteAt z4.1 σ) (fun v5 => lt' ((z4.2 * (10 : Int64)) + ((v5 - (48 : Int32)).toInt64)) (fun x7 => lt' (z4.1 + (1 : Int32)) (fun x8 => some (.inl (x8, x7)))))) (nI i, (0 : Int64)) = some (lN (dn b i (e - i))) := by
      refine lp_seq (fun j => (nI (i + j), lN (dn b i j))) (e - i) (fun j hj => ?_) ?_
      · dsimp only
        rw [if_neg (nI_ge (by omega) (by omega)), byC hn h (by omega), bn1_s, dig_l (hdig j hj), lt_b, lt_b, nI_1, show (10 : Int64) = lN 10 from rfl, lN_mul, lN_add]
        rfl
      · dsimp only
        rw [if_pos (nI_le (by omega) (by omega))]
    rw [L, bn1_s, nI_subS (by omega)]
    by_cases h8 : e - i ≤ 4
    · rw [if_pos (show nI (e - i) ≤ 4 from nI_le (b := 4) h8 (by decide)), bn1_s, putC h4 hc, bn1_s, bn2_s, if_pos h8]
      rfl
    · rw [if_neg (show ¬ nI (e - i) ≤ 4 from nI_ge (a := 4) (by omega) (by omega)), bn1_s, putC h4 hc, bn1_s, bn2_s, if_neg h8]
      rfl
  · intro τ c h hw h10 hc
    have hbi := hb i hi
    unfold ctF
    dsimp only
    rw [h10, if_neg (show ¬ (400 : Int32) < nI c from nI_nlt (a := 400) (by omega) (by decide)), byR hn h hi, bn1_s, h.1, if_pos (nI_lt hi (by omega)), bl_if hbi, if_neg (by omega), isLtR hbi, bn1_s, decide_eq_false (by omega), if_b0, isDgR hbi, bn1_s, decide_eq_true hl, if_b1]
    apply lp_bn1
    refine ⟨(nI (e - i), nI (dn b i (min (e - i) 4))), lp_seq (fun j => (nI (dn b i (min j 4)), nI j)) (e - i) (fun j hj => ?_) ?_, ?_⟩
    · dsimp only
      obtain ⟨v, v1, v2, v3⟩ := digR hn hb h (j := i + j) (by omega)
      have hlj := hdig j hj
      rw [nI_add, v1, bn1_s, v2, bn1_s, decide_eq_true ⟨by omega, hlj⟩, if_b1]
      by_cases h8 : 4 ≤ j
      · rw [if_pos (show (4 : Int32) ≤ nI j from nI_le (a := 4) h8 (by omega)), lt_b, nI_1, show min (j + 1) 4 = min j 4 by omega]
      · rw [if_neg (show ¬ (4 : Int32) ≤ nI j from nI_ge (b := 4) (by omega) (by decide)), bn1_s, v3 (by omega), lt_b, lt_b, nI_1, show (10 : Int32) = nI 10 from rfl, nI_mulS, nI_add, show (48 : Int32) = nI 48 from rfl, nI_subS (by omega), show min (j + 1) 4 = j + 1 by omega, show min j 4 = j by omega]
        show _ = some (Sum.inl (nI (dn b i j * 10 + (b (i + j) - 48)), nI (j + 1)))
        rw [show 10 * dn b i j + b (i + j) - 48 = dn b i j * 10 + (b (i + j) - 48) by omega]
    · dsimp only
      obtain ⟨v, v1, v2, v3⟩ := digR hn hb h (j := i + (e - i)) (by omega)
      rw [nI_add, v1, bn1_s, v2, bn1_s, decide_eq_false (fun q => by
        rw [show i + (e - i) = e by omega] at q
        exact e4 q.1 q.2), if_b0]
    · dsimp only
      by_cases h8 : e - i ≤ 4
      · rw [if_pos (show nI (e - i) ≤ 4 from nI_le (b := 4) h8 (by decide)), bn1_s, if_pos h8, tokenR h10 (by omega), bn1_s, lt_b, nI_add, show i + (e - i) = e by omega]
        rfl
      · rw [if_neg (show ¬ nI (e - i) ≤ 4 from nI_ge (a := 4) (by omega) (by omega)), bn1_s, if_neg h8, tokenR h10 (by omega), bn1_s, lt_b, nI_add, show i + (e - i) = e by omega]
        rfl
end TOK1
