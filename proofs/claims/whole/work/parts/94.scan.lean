/-! read: marks, and the whole row of tokens -/
def mkK (c : Nat) (q : Bool) : Nat := if c = 33 then (if q then 31 else 37) else if c = 40 then 34 else if c = 41 then 35 else if c = 42 then 29 else if c = 43 then 27 else if c = 45 then 28 else if c = 59 then 25 else if c = 60 then (if q then 33 else 32) else if c = 61 then (if q then 30 else 26) else 37
def mkE (c : Nat) (q : Bool) : Nat := if q = true ∧ (c = 33 ∨ c = 60 ∨ c = 61) then 2 else 1
theorem c_nine (c : Nat) : c = 33 ∨ c = 40 ∨ c = 41 ∨ c = 42 ∨ c = 43 ∨ c = 45 ∨ c = 59 ∨ c = 60 ∨ c = 61 ∨ (c ≠ 33 ∧ c ≠ 40 ∧ c ≠ 41 ∧ c ≠ 42 ∧ c ≠ 43 ∧ c ≠ 45 ∧ c ≠ 59 ∧ c ≠ 60 ∧ c ≠ 61) := by omega
theorem mk_oth {c : Nat} {q : Bool} (h : c ≠ 33 ∧ c ≠ 40 ∧ c ≠ 41 ∧ c ≠ 42 ∧ c ≠ 43 ∧ c ≠ 45 ∧ c ≠ 59 ∧ c ≠ 60 ∧ c ≠ 61) : mkK c q = 37 ∧ mkE c q = 1 := by
  obtain ⟨h1, h2, h3, h4, h5, h6, h7, h8, h9⟩ := h
  unfold mkK mkE
  rw [if_neg h1, if_neg h2, if_neg h3, if_neg h4, if_neg h5, if_neg h6, if_neg h7, if_neg h8, if_neg h9]
  exact ⟨rfl, if_neg (by omega)⟩
theorem markC {c : Nat} {q : Bool} {v : Int32} (hc : c < 256) (hv : v = (61 : Int32) ↔ q = true) : pX8_markKind (nI c) v = some (nI (mkK c q)) := by
  unfold pX8_markKind
  have e : (if v = (61 : Int32) then some (1 : Int32) else some (0 : Int32)) = some (b01 q) := by
    cases q with
    | true => rw [if_pos (hv.mpr rfl)]; rfl
    | false => rw [if_neg (fun z => absurd (hv.mp z) (by decide))]; rfl
  rw [e, bn1_s]
  rcases c_nine c with rfl | rfl | rfl | rfl | rfl | rfl | rfl | rfl | rfl | h
  · cases q <;> rfl
  · cases q <;> rfl
  · cases q <;> rfl
  · cases q <;> rfl
  · cases q <;> rfl
  · cases q <;> rfl
  · cases q <;> rfl
  · cases q <;> rfl
  · cases q <;> rfl
  · rw [(mk_oth h).1]
    obtain ⟨h1, h2, h3, h4, h5, h6, h7, h8, h9⟩ := h
    have n33 : ¬ nI c = (33 : Int32) := fun z => h1 ((nIq hc 33 (by decide)).mp z)
    have n40 : ¬ nI c = (40 : Int32) := fun z => h2 ((nIq hc 40 (by decide)).mp z)
    have n41 : ¬ nI c = (41 : Int32) := fun z => h3 ((nIq hc 41 (by decide)).mp z)
    have n42 : ¬ nI c = (42 : Int32) := fun z => h4 ((nIq hc 42 (by decide)).mp z)
    have n43 : ¬ nI c = (43 : Int32) := fun z => h5 ((nIq hc 43 (by decide)).mp z)
    have n45 : ¬ nI c = (45 : Int32) := fun z => h6 ((nIq hc 45 (by decide)).mp z)
    have n59 : ¬ nI c = (59 : Int32) := fun z => h7 ((nIq hc 59 (by decide)).mp z)
    have n60 : ¬ nI c = (60 : Int32) := fun z => h8 ((nIq hc 60 (by decide)).mp z)
    have n61 : ¬ nI c = (61 : Int32) := fun z => h9 ((nIq hc 61 (by decide)).mp z)
    simp only [if_neg n33, if_neg n40, if_neg n41, if_neg n42, if_neg n43, if_neg n45, if_neg n59, if_neg n60, if_neg n61, bn1_s]
    rfl
theorem signR {c c0 : Nat} {q : Bool} {v i : Int32} {τ : gS} (hc : c < 256) (hv : v = (61 : Int32) ↔ q = true) (h : τ.1 0 10 = nI c0) (h0 : c0 ≤ 400) : pX11_sign i (nI c) v τ = some (nI (mkE c q), tkR c0 (nI (kp (mkK c q))) i 0 0 τ) := by
  unfold pX11_sign
  simp only [tokenR h (show c0 ≤ 402 by omega), bn1_s]
  cases q with
  | true =>
    rw [if_pos (hv.mpr rfl)]
    rcases c_nine c with rfl | rfl | rfl | rfl | rfl | rfl | rfl | rfl | rfl | h
    · rfl
    · rfl
    · rfl
    · rfl
    · rfl
    · rfl
    · rfl
    · rfl
    · rfl
    · rw [(mk_oth h).1, (mk_oth h).2]
      obtain ⟨h1, h2, h3, h4, h5, h6, h7, h8, h9⟩ := h
      have n33 : ¬ nI c = (33 : Int32) := fun z => h1 ((nIq hc 33 (by decide)).mp z)
      have n40 : ¬ nI c = (40 : Int32) := fun z => h2 ((nIq hc 40 (by decide)).mp z)
      have n41 : ¬ nI c = (41 : Int32) := fun z => h3 ((nIq hc 41 (by decide)).mp z)
      have n42 : ¬ nI c = (42 : Int32) := fun z => h4 ((nIq hc 42 (by decide)).mp z)
      have n43 : ¬ nI c = (43 : Int32) := fun z => h5 ((nIq hc 43 (by decide)).mp z)
      have n45 : ¬ nI c = (45 : Int32) := fun z => h6 ((nIq hc 45 (by decide)).mp z)
      have n59 : ¬ nI c = (59 : Int32) := fun z => h7 ((nIq hc 59 (by decide)).mp z)
      have n60 : ¬ nI c = (60 : Int32) := fun z => h8 ((nIq hc 60 (by decide)).mp z)
      have n61 : ¬ nI c = (61 : Int32) := fun z => h9 ((nIq hc 61 (by decide)).mp z)
      simp only [if_neg n33, if_neg n40, if_neg n41, if_neg n42, if_neg n43, if_neg n45, if_neg n59, if_neg n60, if_neg n61, bn1_s]
      rfl
  | false =>
    rw [if_neg (fun z => absurd (hv.mp z) (by decide))]
    rcases c_nine c with rfl | rfl | rfl | rfl | rfl | rfl | rfl | rfl | rfl | h
    · rfl
    · rfl
    · rfl
    · rfl
    · rfl
    · rfl
    · rfl
    · rfl
    · rfl
    · rw [(mk_oth h).1, (mk_oth h).2]
      obtain ⟨h1, h2, h3, h4, h5, h6, h7, h8, h9⟩ := h
      have n33 : ¬ nI c = (33 : Int32) := fun z => h1 ((nIq hc 33 (by decide)).mp z)
      have n40 : ¬ nI c = (40 : Int32) := fun z => h2 ((nIq hc 40 (by decide)).mp z)
      have n41 : ¬ nI c = (41 : Int32) := fun z => h3 ((nIq hc 41 (by decide)).mp z)
      have n42 : ¬ nI c = (42 : Int32) := fun z => h4 ((nIq hc 42 (by decide)).mp z)
      have n43 : ¬ nI c = (43 : Int32) := fun z => h5 ((nIq hc 43 (by decide)).mp z)
      have n45 : ¬ nI c = (45 : Int32) := fun z => h6 ((nIq hc 45 (by decide)).mp z)
      have n59 : ¬ nI c = (59 : Int32) := fun z => h7 ((nIq hc 59 (by decide)).mp z)
      have n60 : ¬ nI c = (60 : Int32) := fun z => h8 ((nIq hc 60 (by decide)).mp z)
      have n61 : ¬ nI c = (61 : Int32) := fun z => h9 ((nIq hc 61 (by decide)).mp z)
      simp only [if_neg n33, if_neg n40, if_neg n41, if_neg n42, if_neg n43, if_neg n45, if_neg n59, if_neg n60, if_neg n61, bn1_s]
      rfl
theorem mkK_c {c : Nat} {q : Bool} : (mkK c q ≤ 35 ∨ mkK c q = 37) ∧ 25 ≤ mkK c q ∧ (mkE c q = if mkK c q = 30 ∨ mkK c q = 31 ∨ mkK c q = 33 then 2 else 1) ∧ (mkE c q = 2 → q = true) := by
  rcases c_nine c with rfl | rfl | rfl | rfl | rfl | rfl | rfl | rfl | rfl | h
  · cases q <;> decide
  · cases q <;> decide
  · cases q <;> decide
  · cases q <;> decide
  · cases q <;> decide
  · cases q <;> decide
  · cases q <;> decide
  · cases q <;> decide
  · cases q <;> decide
  · rw [(mk_oth h).1, (mk_oth h).2]
    exact ⟨by decide, by decide, by decide, fun z => absurd z (by decide)⟩
theorem tokM {n : Nat} {b : Nat → Nat} {i : Nat} (hn : n ≤ 2000) (hb : ∀ i, i < n → b i < 256) (hi : i < n) (hl : ¬ (97 ≤ b i ∧ b i ≤ 122)) (hd : ¬ (48 ≤ b i ∧ b i ≤ 57)) (hs : ¬ (b i = 9 ∨ b i = 10 ∨ b i = 13 ∨ b i = 32)) : ∃ K e v vr w, TokAt n b i K e v vr w := by
  let q : Bool := decide (i + 1 < n ∧ b (i + 1) = 61)
  have hbi := hb i hi
  obtain ⟨m1, m2, m3, m4⟩ := mkK_c (c := b i) (q := q)
  have he2 : mkE (b i) q = 2 → i + 1 < n := fun z => (of_decide_eq_true (m4 z)).1
  have he : 1 ≤ mkE (b i) q ∧ mkE (b i) q ≤ 2 := by unfold mkE; split <;> omega
  refine ⟨mkK (b i) q, i + mkE (b i) q, 0, 0, 0, m1, by omega, ?_, fun z => by omega, fun z => by omega, ?_, ?_⟩
  · rcases (show mkE (b i) q = 1 ∨ mkE (b i) q = 2 by omega) with z | z
    · omega
    · have := he2 z; omega
  · intro σ c h hw h4 hc
    have hv : ∃ v, pX6_byteAt (nI i + 1) σ = some v ∧ (v = (61 : Int32) ↔ q = true) := by
      rw [nI_1]
      by_cases hc1 : i + 1 < n
      · refine ⟨_, byC hn h hc1, ?_⟩
        rw [show (61 : Int32) = nI 61 from rfl, nIq (hb _ hc1) 61 (by decide)]
        show _ ↔ decide _ = true
        rw [decide_eq_true_iff]
        exact ⟨fun z => ⟨hc1, z⟩, fun z => z.2⟩
      · refine ⟨-1, byC_o hn h (by omega) (by omega), ⟨fun z => absurd z (by decide), fun z => absurd (of_decide_eq_true z).1 hc1⟩⟩
    obtain ⟨v, v1, v2⟩ := hv
    unfold pX8_scanOne
    rw [byC hn h hi, bn1_s, if_neg (ne_m1 hbi), show pX10_inRange (nI (b i)) 97 122 = some (b01 (decide (97 ≤ b i ∧ b i ≤ 122))) from inb_c hbi (by decide) (by decide), bn1_s, decide_eq_false hl, if_b0, show pX10_inRange (nI (b i)) 48 57 = some (b01 (decide (48 ≤ b i ∧ b i ≤ 57))) from inb_c hbi (by decide) (by decide), bn1_s, decide_eq_false hd, if_b0, v1, bn1_s, markC hbi v2, bn1_s, putC h4 hc, bn1_s, m3]
    have k30 : nI (mkK (b i) q) = (30 : Int32) ↔ mkK (b i) q = 30 := nI_eq (b := 30) (by omega) (by decide)
    have k31 : nI (mkK (b i) q) = (31 : Int32) ↔ mkK (b i) q = 31 := nI_eq (b := 31) (by omega) (by decide)
    have k33 : nI (mkK (b i) q) = (33 : Int32) ↔ mkK (b i) q = 33 := nI_eq (b := 33) (by omega) (by decide)
    simp only [k30, k31, k33]
    generalize mkK (b i) q = K
    by_cases z1 : K = 30
    · rw [if_pos z1, if_pos (Or.inl z1), bnS_l, show (2 : Int32) = nI 2 from rfl, nI_add]
    · by_cases z2 : K = 31
      · rw [if_neg z1, if_pos z2, if_pos (Or.inr (Or.inl z2)), bnS_l, show (2 : Int32) = nI 2 from rfl, nI_add]
      · by_cases z3 : K = 33
        · rw [if_neg z1, if_neg z2, if_pos z3, if_pos (Or.inr (Or.inr z3)), bnS_l, show (2 : Int32) = nI 2 from rfl, nI_add]
        · rw [if_neg z1, if_neg z2, if_neg z3, if_neg (by omega), bnS_r, nI_1]
  · intro τ c h hw h10 hc
    have hv : ∃ v, pX11_byteAt (nI i + 1) τ = some v ∧ (v = (61 : Int32) ↔ q = true) := by
      rw [nI_1]
      by_cases hc1 : i + 1 < n
      · refine ⟨_, byR hn h hc1, ?_⟩
        rw [show (61 : Int32) = nI 61 from rfl, nIq (hb _ hc1) 61 (by decide)]
        show _ ↔ decide _ = true
        rw [decide_eq_true_iff]
        exact ⟨fun z => ⟨hc1, z⟩, fun z => z.2⟩
      · refine ⟨0, byR_o hn h (by omega) (by omega), ⟨fun z => absurd z (by decide), fun z => absurd (of_decide_eq_true z).1 hc1⟩⟩
    obtain ⟨v, v1, v2⟩ := hv
    unfold ctF
    dsimp only
    rw [h10, if_neg (show ¬ (400 : Int32) < nI c from nI_nlt (a := 400) (by omega) (by decide)), byR hn h hi, bn1_s, h.1, if_pos (nI_lt hi (by omega)), bl_if hbi, if_neg hs, isLtR hbi, bn1_s, decide_eq_false hl, if_b0, isDgR hbi, bn1_s, decide_eq_false hd, if_b0, v1, bn1_s, signR hbi v2 h10 hc, bn2_s, lt_b, nI_add]
theorem tok1 {n : Nat} {b : Nat → Nat} {i : Nat} (hn : n ≤ 2000) (hb : ∀ i, i < n → b i < 256) (hi : i < n) (hs : ¬ (b i = 9 ∨ b i = 10 ∨ b i = 13 ∨ b i = 32)) : ∃ K e v vr w, TokAt n b i K e v vr w := by
  by_cases hl : 97 ≤ b i ∧ b i ≤ 122
  · exact tokW hn hb hi hl
  · by_cases hd : 48 ≤ b i ∧ b i ≤ 57
    · exact tokI hn hb hi hd
    · exact tokM hn hb hi hl hd hs
/-- the reference goes over blanks -/
theorem ct_bl {n : Nat} {b : Nat → Nat} {τ : gS} (hn : n ≤ 2000) (hb : ∀ i, i < n → b i < 256) (h : txR n b τ) {c : Nat} (h10 : τ.1 0 10 = nI c) (hc : c ≤ 400) : ∀ (m i : Nat), i + m ≤ n → (∀ j, i ≤ j → j < i + m → (b j = 9 ∨ b j = 10 ∨ b j = 13 ∨ b j = 32)) → lpP ctF (nI i, τ) = lpP ctF (nI (i + m), τ)
  | 0, i, _, _ => rfl
  | m + 1, i, hi, hs => by
    have e : ctF (nI i, τ) = some (.inl (nI (i + 1), τ)) := by
      unfold ctF
      dsimp only
      rw [h10, if_neg (show ¬ (400 : Int32) < nI c from nI_nlt (a := 400) (by omega) (by decide)), byR hn h (by omega), bn1_s, h.1, if_pos (nI_lt (by omega) (by omega)), bl_if (hb i (by omega)), if_pos (hs i (by omega) (by omega)), lt_b, nI_1]
    rw [lpP_inl e, ct_bl hn hb h h10 hc m (i + 1) (by omega) (fun j j1 j2 => hs j (by omega) (by omega)), show i + 1 + m = i + (m + 1) by omega]
theorem ct_end {n : Nat} {b : Nat → Nat} {τ : gS} (hn : n ≤ 2000) (h : txR n b τ) {c : Nat} (h10 : τ.1 0 10 = nI c) (hc : c ≤ 400) : ctF (nI n, τ) = some (.inr (.inr (tkR c 0 (nI n) 0 0 τ))) := by
  unfold ctF
  dsimp only
  rw [h10, if_neg (show ¬ (400 : Int32) < nI c from nI_nlt (a := 400) (by omega) (by decide)), byR_o hn h (Nat.le_refl _) (by omega), bn1_s, h.1, if_neg (nI_nlt (Nat.le_refl _) (by omega)), tokenR h10 (by omega), bn1_s]
theorem ct_full {τ : gS} {i : Int32} (h10 : τ.1 0 10 = nI 401) : ctF (i, τ) = some (.inr (.inl τ)) := by
  unfold ctF
  dsimp only
  rw [h10, if_pos (show (400 : Int32) < nI 401 by decide)]
