/-! THE TAPE: back, feed -/
def setT (A : Abs) (n : Nat) (B : Nat → Nat) : Abs := ((n, B), A.2)
def tpC (o k : Nat) : Bool := (o == 1 && k == 1) || o == 2
def tpR (o k : Nat) : Bool := (o == 0 && k == 2) || o == 1
theorem tp_toldC {r : Nat} (h : tR r = true) {j : Nat} (hj : j ≤ 8) (k : Nat) : tpC (r + j) k = false := by
  rcases tR_or h with rfl | rfl
  · rcases (show j = 0 ∨ j = 1 ∨ j = 2 ∨ j = 3 ∨ j = 4 ∨ j = 5 ∨ j = 6 ∨ j = 7 ∨ j = 8 by omega) with rfl | rfl | rfl | rfl | rfl | rfl | rfl | rfl | rfl <;> rfl
  · rcases (show j = 0 ∨ j = 1 ∨ j = 2 ∨ j = 3 ∨ j = 4 ∨ j = 5 ∨ j = 6 ∨ j = 7 ∨ j = 8 by omega) with rfl | rfl | rfl | rfl | rfl | rfl | rfl | rfl | rfl <;> rfl
theorem RC_tape {A : Abs} {σ σ' : gS} {n : Nat} {B : Nat → Nat} (h : RC A σ) (f : fr tpC σ σ') (h1 : σ'.1 1 1 = nI n) (h2 : ∀ i, i < n → σ'.1 2 i = nI (B i)) : RC (setT A n B) σ' := by
  obtain ⟨-, ⟨b1, b2⟩, ⟨c1, c2⟩, ⟨r, d1, d2, d3, d4⟩, e, g, g'⟩ := h
  refine ⟨⟨h1, h2⟩, ⟨(fr_1 f rfl).trans b1, fun p j hp hj => (fr_1 f (o := 22) rfl).trans (b2 p j hp hj)⟩, ⟨(fr_1 f rfl).trans c1, fun i hi => ?_⟩, ⟨r, d1, (fr_3 f rfl).trans d2, (fr_3 f rfl).trans d3, TdC_fr f (fun j k hj => tp_toldC d1 hj k) d4⟩, (fr_1 f rfl).trans e, fun j hj => (fr_2 f (o := 8) rfl).trans (g j hj), fun n k hn hk => (fr_2 f (o := 45) rfl).trans (g' n k hn hk)⟩
  obtain ⟨x1, x2, x3⟩ := c2 i hi
  exact ⟨(fr_1 f (o := 40) rfl).trans x1, (fr_1 f (o := 41) rfl).trans x2, (fr_1 f (o := 42) rfl).trans x3⟩
theorem RR_tape {A : Abs} {τ τ' : gS} {n : Nat} {B : Nat → Nat} (h : RR A τ) (f : fr tpR τ τ') (h1 : τ'.1 0 2 = nI n) (h2 : ∀ i, i < n → τ'.1 1 i &&& 255 = nI (B i)) : RR (setT A n B) τ' := by
  obtain ⟨-, ⟨b1, b2⟩, ⟨c1, c2⟩, ⟨L, d1, d2, d3⟩, e, g⟩ := h
  refine ⟨⟨h1, h2⟩, ⟨(fr_1 f rfl).trans b1, fun p hp => ?_⟩, ⟨(fr_1 f rfl).trans c1, fun i hi => ?_⟩, ⟨L, d1, (fr_1 f rfl).trans d2, TdR_fr f (fun o k g1 g2 => ?_) d3⟩, (fr_1 f rfl).trans e, fun j hj => (fr_2 f (o := 7) rfl).trans (g j hj)⟩
  · obtain ⟨g1, g2, g3, g4, g5⟩ := b2 p hp
    exact ⟨(fr_1 f (o := 35) rfl).trans g1, (fr_1 f (o := 36) rfl).trans g2, (fr_1 f (o := 37) rfl).trans g3, (fr_1 f (o := 38) rfl).trans g4, fun j hj => (fr_1 f (o := 39) rfl).trans (g5 j hj)⟩
  · obtain ⟨x1, x2, x3, x4⟩ := c2 i hi
    exact ⟨(fr_1 f (o := 43) rfl).trans x1, (fr_1 f (o := 44) rfl).trans x2, (fr_1 f (o := 45) rfl).trans x3, (fr_1 f (o := 46) rfl).trans x4⟩
  · simp only [tpR, Bool.or_eq_false_iff, Bool.and_eq_false_iff, beq_eq_false_iff_ne]
    omega
theorem h_1 {a1 a2 a3 a4 a5 : Int32} {u : gS × gS} (hu : Inv u) : ∃ t, q1 a1 a2 a3 a4 a5 u = some (.inl t) ∧ Inv t := by
  obtain ⟨A, ho, h1, h2⟩ := hu
  have hn := ho.1.1
  have no : Inv (u.1, u.2) := ⟨A, ho, h1, h2⟩
  suffices hs : ∃ v s1 s2, pX10_back a1 u.1 = some (v, s1) ∧ pX11_back a1 u.2 = some (v, s2) ∧ Inv (s1, s2) by
    obtain ⟨v, s1, s2, e1, e2, e3⟩ := hs
    exact ⟨(s1, s2), qII e1 e2, e3⟩
  unfold pX10_back pX11_back
  rw [h1.1.1, h2.1.1]
  by_cases hc : a1 < 0
  · rw [if_pos hc, if_pos hc]
    exact ⟨-1, u.1, u.2, rfl, rfl, no⟩
  · rw [if_neg hc, if_neg hc]
    by_cases hd : a1 ≤ nI (aTn A)
    · rw [if_pos hd, if_pos hd, lt_b, lt_b, wI_s, wI_s]
      obtain ⟨j, hj, rfl⟩ := nI_of hc
      have hj2 : j ≤ aTn A := (nI_leI hj (by omega)).mp hd
      rw [pk_sub hj2]
      refine ⟨_, _, _, rfl, rfl, setT A (aTn A - j) (aTb A), ⟨⟨by show aTn A - j ≤ 2000; omega, fun i hi => ho.1.2 i (by have : i < aTn A - j := hi; omega)⟩, ho.2⟩, RC_tape h1 (fr_wI rfl) wI_s (fun i hi => ?_), RR_tape h2 (fr_wI rfl) wI_s (fun i hi => ?_)⟩
      · rw [wI_1, if_neg (by omega)]; exact h1.1.2 i (by omega)
      · rw [wI_1, if_neg (by omega)]; exact h2.1.2 i (by omega)
    · rw [if_neg hd, if_neg hd]
      exact ⟨-1, u.1, u.2, rfl, rfl, no⟩
/-- the low byte of a word moved down: either way -/
theorem by_same {w : Int32} {s : Nat} (hs : s ≤ 24) : ((w >>> (nI s &&& 31)).toInt8.toInt32).toInt8.toInt32 &&& 255 = ushrI w (nI s) &&& 255 := by
  rw [bp_b, bp_b]
  unfold ushrI
  apply b_ext
  intro i hi
  rw [b_and, b_and, b_255, b_sshr s (by omega) w hi, b_ushr s (by omega)]
  by_cases h8 : i < 8
  · rw [if_pos (by omega)]
  · simp [h8]
theorem by_nI (x : Int32) : ∃ b, b < 256 ∧ x &&& 255 = nI b := pk_andE x (m := 255) 8 (by decide)
/-- one byte more -/
def psh (A : Abs) (b : Nat) : Abs := setT A (aTn A + 1) (fun i => if i = aTn A then b else aTb A i)
theorem psh_n {A : Abs} {b : Nat} : aTn (psh A b) = aTn A + 1 := rfl
theorem psh_ok {A : Abs} {b : Nat} (ho : okA A) (hn : aTn A < 2000) (hb : b < 256) : okA (psh A b) := by
  refine ⟨⟨by rw [psh_n]; omega, fun i hi => ?_⟩, ho.2⟩
  show (if i = aTn A then b else aTb A i) < 256
  rw [psh_n] at hi
  split
  · exact hb
  · exact ho.1.2 i (by omega)
def p1C (σ : gS) (n : Nat) (v : Int32) : gS := wI (wI σ 2 n v) 1 1 (nI (n + 1))
def p1R (σ : gS) (n : Nat) (v : Int32) : gS := wI (wI σ 1 n v) 0 2 (nI (n + 1))
theorem pshC {A : Abs} {σ : gS} {b : Nat} (h : RC A σ) : RC (psh A b) (p1C σ (aTn A) (nI b)) := by
  refine RC_tape h (fr_tr (fr_wI rfl) (fr_wI rfl)) wI_s (fun i hi => ?_)
  unfold p1C
  rw [wI_1, if_neg (by omega), wI_1]
  by_cases hc : i = aTn A
  · rw [if_pos ⟨rfl, hc⟩, if_pos hc]
  · rw [if_neg (fun q => hc q.2), if_neg hc]
    exact h.1.2 i (by omega)
theorem pshR {A : Abs} {σ : gS} {b : Nat} {v : Int32} (h : RR A σ) (hv : v &&& 255 = nI b) : RR (psh A b) (p1R σ (aTn A) v) := by
  refine RR_tape h (fr_tr (fr_wI rfl) (fr_wI rfl)) wI_s (fun i hi => ?_)
  unfold p1R
  rw [wI_1, if_neg (by omega), wI_1]
  by_cases hc : i = aTn A
  · rw [if_pos ⟨rfl, hc⟩, if_pos hc]; exact hv
  · rw [if_neg (fun q => hc q.2), if_neg hc]
    exact h.1.2 i (by omega)
/-- both sides take four bytes -/
theorem four {A : Abs} {σ τ : gS} {w : Int32} (ho : okA A) (h1 : RC A σ) (h2 : RR A τ) (hn : aTn A + 4 ≤ 2000) : ∃ A' σ' τ', pX6_addFour w σ = some σ' ∧ pX11_put w τ = some τ' ∧ okA A' ∧ RC A' σ' ∧ RR A' τ' ∧ aTn A' = aTn A + 4 := by
  have step : ∀ (s : Nat) (A : Abs) (σ τ : gS), s ≤ 24 → okA A → RC A σ → RR A τ → aTn A < 2000 → ∃ b, b < 256 ∧ ushrI w (nI s) &&& 255 = nI b ∧ RC (psh A b) (p1C σ (aTn A) (ushrI w (nI s) &&& 255)) ∧ RR (psh A b) (p1R τ (aTn A) (((w >>> (nI s &&& 31)).toInt8.toInt32).toInt8.toInt32)) ∧ okA (psh A b) := by
    intro s A σ τ hs ho h1 h2 hn
    obtain ⟨b, hb, e⟩ := by_nI (ushrI w (nI s))
    exact ⟨b, hb, e, by rw [e]; exact pshC h1, pshR h2 ((by_same hs).trans e), psh_ok ho hn hb⟩
  obtain ⟨b1, -, -, c1, r1, o1⟩ := step 24 A σ τ (by omega) ho h1 h2 (by omega)
  obtain ⟨b2, -, -, c2, r2, o2⟩ := step 16 _ _ _ (by omega) o1 c1 r1 (by rw [psh_n]; omega)
  obtain ⟨b3, -, -, c3, r3, o3⟩ := step 8 _ _ _ (by omega) o2 c2 r2 (by rw [psh_n, psh_n]; omega)
  obtain ⟨b4, -, -, c4, r4, o4⟩ := step 0 _ _ _ (by omega) o3 c3 r3 (by rw [psh_n, psh_n, psh_n]; omega)
  refine ⟨_, _, _, ?_, ?_, o4, c4, r4, rfl⟩
  · have st : ∀ (s : Nat) (A : Abs) (σ : gS), RC A σ → aTn A < 2000 → s ≤ 24 → (fun (z2 : (Int32 × gS)) => if z2.1 < 0 then (some (.inr z2.2) : Option ((Int32 × gS) ⊕ gS)) else if (2000 : Int32) ≤ (z2.2.1 1 1) then lt' (z2.1 + (-8 : Int32)) (fun x3 => some (.inl (x3, z2.2))) else gx (z2.2.1 1 1) 2000 (lt' (wI z2.2 2 (z2.2.1 1 1).toNatClampNeg ((ushrI w z2.1) &&& (255 : Int32))) (fun s4 => lt' (wI s4 1 1 ((s4.1 1 1) + (1 : Int32))) (fun s5 => lt' (z2.1 + (-8 : Int32)) (fun x6 => some (.inl (x6, s5))))))) (nI s, σ) = some (.inl (nI s + -8, p1C σ (aTn A) (ushrI w (nI s) &&& 255))) := by
      intro s A σ hc hn hs
      have e1 := hc.1.1
      dsimp only
      rw [if_neg (nI_pos (by omega)), e1, if_neg (show ¬ (2000 : Int32) ≤ nI (aTn A) from nI_ge (b := 2000) hn (by decide)), gx_i hn (by decide), lt_b, nI_clamp (by omega), lt_b, lt_b, wI_1, if_neg (by omega), e1, nI_1]
      rfl
    unfold pX6_addFour
    rw [show ((24 : Int32), σ) = (nI 24, σ) from rfl, lpP_inl (st 24 A σ h1 (by omega) (by omega)), show nI 24 + -8 = nI 16 from by decide, lpP_inl (st 16 _ _ c1 (by rw [psh_n]; omega) (by omega)), show nI 16 + -8 = nI 8 from by decide, lpP_inl (st 8 _ _ c2 (by rw [psh_n, psh_n]; omega) (by omega)), show nI 8 + -8 = nI 0 from by decide, lpP_inl (st 0 _ _ c3 (by rw [psh_n, psh_n, psh_n]; omega) (by omega))]
    rw [lpP_inr (r := p1C _ (aTn (psh (psh (psh A b1) b2) b3)) (ushrI w (nI 0) &&& 255)) (by dsimp only; rw [if_pos (show nI 0 + -8 < (0 : Int32) by decide)])]
    rfl
  · have st : ∀ (s : Nat) (A : Abs) (σ : gS), RR A σ → aTn A < 2000 → s ≤ 24 → (fun (z2 : (Int32 × gS)) => if z2.1 < 0 then (some (.inr z2.2) : Option ((Int32 × gS) ⊕ gS)) else gx (z2.2.1 0 2) 2000 (lt' (wI z2.2 1 (z2.2.1 0 2).toNatClampNeg ((w >>> (z2.1 &&& (31 : Int32))).toInt8.toInt32).toInt8.toInt32) (fun s3 => lt' (wI s3 0 2 ((s3.1 0 2) + (1 : Int32))) (fun s4 => lt' (z2.1 + (-8 : Int32)) (fun x5 => some (.inl (x5, s4))))))) (nI s, σ) = some (.inl (nI s + -8, p1R σ (aTn A) (((w >>> (nI s &&& 31)).toInt8.toInt32).toInt8.toInt32))) := by
      intro s A σ hc hn hs
      have e1 := hc.1.1
      dsimp only
      rw [if_neg (nI_pos (by omega)), e1, gx_i hn (by decide), lt_b, nI_clamp (by omega), lt_b, lt_b, wI_1, if_neg (by omega), e1, nI_1]
      rfl
    unfold pX11_put
    rw [show ((24 : Int32), τ) = (nI 24, τ) from rfl, lpP_inl (st 24 A τ h2 (by omega) (by omega)), show nI 24 + -8 = nI 16 from by decide, lpP_inl (st 16 _ _ r1 (by rw [psh_n]; omega) (by omega)), show nI 16 + -8 = nI 8 from by decide, lpP_inl (st 8 _ _ r2 (by rw [psh_n, psh_n]; omega) (by omega)), show nI 8 + -8 = nI 0 from by decide, lpP_inl (st 0 _ _ r3 (by rw [psh_n, psh_n, psh_n]; omega) (by omega))]
    rw [lpP_inr (r := p1R _ (aTn (psh (psh (psh A b1) b2) b3)) (((w >>> (nI 0 &&& 31)).toInt8.toInt32).toInt8.toInt32)) (by dsimp only; rw [if_pos (show nI 0 + -8 < (0 : Int32) by decide)])]
    rfl
theorem h_0 {a1 a2 a3 a4 a5 : Int32} {u : gS × gS} (hu : Inv u) : ∃ t, q0 a1 a2 a3 a4 a5 u = some (.inl t) ∧ Inv t := by
  obtain ⟨A, ho, h1, h2⟩ := hu
  have hn := ho.1.1
  have no : Inv (u.1, u.2) := ⟨A, ho, h1, h2⟩
  suffices hs : ∃ v s1 s2, pX10_feed a1 a2 a3 a4 a5 u.1 = some (v, s1) ∧ pX11_feed a1 a2 a3 a4 a5 u.2 = some (v, s2) ∧ Inv (s1, s2) by
    obtain ⟨v, s1, s2, e1, e2, e3⟩ := hs
    exact ⟨(s1, s2), qII e1 e2, e3⟩
  unfold pX10_feed pX11_feed
  rw [h1.1.1, h2.1.1, show (20 : Int32) = nI 20 from rfl, nI_add, show (2000 : Int32) = nI 2000 from rfl]
  by_cases hc : aTn A + 20 ≤ 2000
  · rw [if_pos (nI_le hc (by decide)), if_pos (nI_le hc (by decide))]
    obtain ⟨A1, x1, y1, e1, f1, o1, c1, r1, n1⟩ := four (w := a1) ho h1 h2 (by omega)
    obtain ⟨A2, x2, y2, e2, f2, o2, c2, r2, n2⟩ := four (w := a2) o1 c1 r1 (by omega)
    obtain ⟨A3, x3, y3, e3, f3, o3, c3, r3, n3⟩ := four (w := a3) o2 c2 r2 (by omega)
    obtain ⟨A4, x4, y4, e4, f4, o4, c4, r4, n4⟩ := four (w := a4) o3 c3 r3 (by omega)
    obtain ⟨A5, x5, y5, e5, f5, o5, c5, r5, n5⟩ := four (w := a5) o4 c4 r4 (by omega)
    rw [e1, bn1_s, e2, bn1_s, e3, bn1_s, e4, bn1_s, e5, bn1_s, f1, bn1_s, f2, bn1_s, f3, bn1_s, f4, bn1_s, f5, bn1_s, c5.1.1, r5.1.1]
    exact ⟨_, _, _, rfl, rfl, A5, o5, c5, r5⟩
  · rw [if_neg (nI_ge (by omega) (by omega)), if_neg (nI_ge (by omega) (by omega))]
    exact ⟨-1, u.1, u.2, rfl, rfl, no⟩
