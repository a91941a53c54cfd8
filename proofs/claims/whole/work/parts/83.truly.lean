/-! truly, left -/
theorem lp_then {S T R : Type} {f : S → Option (S ⊕ T)} {s : S} {g : T → Option R} {Q : R → Prop} (P : T → Prop) (h1 : ∃ r, lpP f s = some r ∧ P r) (h2 : ∀ r, P r → ∃ v, g r = some v ∧ Q v) : ∃ v, bn1 (lpP f s) g = some v ∧ Q v := by
  obtain ⟨r, e, h⟩ := h1
  rw [e]
  exact h2 r h
theorem ex_pair {α β : Type} {x : Option (α × β)} {a : α} {P : β → Prop} (h : ∃ v, x = some v ∧ (v.1 = a ∧ P v.2)) : ∃ b, x = some (a, b) ∧ P b := by
  obtain ⟨⟨v, w⟩, e, h1, h2⟩ := h
  dsimp only at h1 h2
  subst h1
  exact ⟨w, e, h2⟩
theorem bitOfX {x : Int32} {s : Nat} (hs : s < 32) : pX10_bitOf x (nI s) = some (b01 (bt x s)) := by
  unfold pX10_bitOf ushrI
  congr 1
  apply b_ext
  intro i hi
  rw [b_and, b_ushr s hs, bt_1 i hi]
  have hb : bt (b01 (bt x s)) i = (decide (i = 0) && bt x s) := by
    cases bt x s with
    | false => rw [b01_f, b_0, Bool.and_false]
    | true => rw [b01_t, bt_1 i hi, Bool.and_true]
  rw [hb]
  by_cases h0 : i = 0
  · subst h0
    rw [Nat.add_zero, Bool.and_comm]
  · rw [decide_eq_false h0, Bool.and_false, Bool.false_and]
theorem sbitX {x : Int32} {s : Nat} (hs : s < 32) : (x >>> (nI s &&& (31 : Int32))) &&& (1 : Int32) = b01 (bt x s) := by
  apply b_ext
  intro i hi
  rw [b_and, b_sshr s hs _ hi, bt_1 i hi]
  have hb : bt (b01 (bt x s)) i = (decide (i = 0) && bt x s) := by
    cases bt x s with
    | false => rw [b01_f, b_0, Bool.and_false]
    | true => rw [b01_t, bt_1 i hi, Bool.and_true]
  rw [hb]
  by_cases h0 : i = 0
  · subst h0
    rw [Nat.add_zero, if_pos hs, Bool.and_comm]
  · rw [decide_eq_false h0, Bool.and_false, Bool.false_and]
/-- the PAPER of PERSON p out of book b -/
def PP (A : Abs) (b p : Nat) : Int32 := ppN A b (upB A p (nI (aPt A p 0))) (nWh (aTd A))
theorem ppCl {A : Abs} {σ : gS} {b p : Nat} (ho : okA A) (h : RC A σ) (hb : b < 4) : ∃ r, tR r = true ∧ σ.2.2 23 0 = r ∧ pX9_paperOf r (nI b) (UP A p) σ = some (PP A b p) := by
  obtain ⟨r, r1, r2, r3⟩ := tdC h
  exact ⟨r, r1, r2, paperC ho r3 hb⟩
theorem ppRf {A : Abs} {τ : gS} {p b : Nat} (ho : okA A) (h : RR A τ) (hp : p < aPn A) (hb : b < 4) : ∃ τ', pX11_paperOf (nI b) (nI p) τ = some (PP A b p, τ') ∧ fr scR τ τ' := paperOfR ho h hp hb
theorem trueOfR {A : Abs} {τ : gS} {s : Nat} (ho : okA A) (h : RR A τ) (hs : s < nSy (aTd A)) : ∃ τ', pX11_trueOf (nI s) τ = some (nI (fb_ct (tB A s) (aPn A)), τ') ∧ fr scR τ τ' := by
  have hn := ho.2.1.1
  unfold pX11_trueOf
  apply ex_pair
  refine lp_then (fun r => r.1 = nI (fb_ct (tB A s) (aPn A)) ∧ fr scR τ r.2) ?_ (fun r hr => ⟨_, rfl, hr⟩)
  refine lp_cnt (fun k (z : Int32 × Int32 × gS) => z.1 = nI k ∧ z.2.1 = nI (fb_ct (tB A s) k) ∧ fr scR τ z.2.2) (aPn A) ?_ ?_ (k := 0) (by omega) ⟨rfl, rfl, fr_rf⟩
  · rintro p ⟨z, w, υ⟩ hp ⟨rfl, rfl, hf⟩
    dsimp only at hf ⊢
    have hR : RR A υ := RR_sc hf h
    obtain ⟨s1, e1, f1⟩ := isTrueOfR ho hR hp hs
    have f1' : fr scR υ s1 := fr_up (fun o k q => o334_sc q) f1
    rw [hR.2.1.1, if_neg (nI_ge hp (by omega)), e1, bn2_s]
    simp only [lt_b, nI_1, ct_s]
    have e : tB A s p = upB A p (nI (aPt A p 0)) (6 + s) := rfl
    rw [e]
    cases hb : upB A p (nI (aPt A p 0)) (6 + s) with
    | false =>
      rw [if_b0]
      exact ⟨_, rfl, rfl, rfl, fr_tr hf f1'⟩
    | true =>
      rw [if_b1]
      exact ⟨_, rfl, rfl, rfl, fr_tr hf f1'⟩
  · rintro ⟨z, w, υ⟩ ⟨rfl, rfl, hf⟩
    dsimp only at hf ⊢
    rw [(RR_sc hf h).2.1.1, if_pos (nI_le (Nat.le_refl _) (by omega))]
    exact ⟨_, rfl, rfl, hf⟩
theorem b01_n {b : Bool} : b01 b = nI (bN b) := by cases b <;> rfl
theorem ct_w (f : Nat → Bool) (n : Nat) : fb_sm (fun k => bN (f k)) n = fb_ct f n := (ct_sm f n).symm
theorem howManyC {A : Abs} {σ : gS} {s : Nat} (ho : okA A) (h : RC A σ) (hv : Sv A σ) (hs : s < nSy (aTd A)) : pX4_howManyTrue (nI s) σ = some (nI (fb_ct (tB A s) (aPn A))) := by
  have hn := ho.2.1.1
  unfold pX4_howManyTrue
  apply lp_bn1
  refine ⟨_, lp_sum (fun k => bN (tB A s k)) (aPn A) 0 (fun p a hp => ?_) (fun a => ?_), by rw [Int32.zero_add, ct_w]⟩
  · dsimp only
    rw [h.2.1.1, if_neg (nI_ge hp (by omega)), gx_i (by omega) (by decide), nI_clamp (by omega), (hv p hp).2, TRbit ho hs, bn1_s, lt_b, lt_b, nI_1, b01_n]
  · dsimp only
    rw [h.2.1.1, if_pos (nI_le (Nat.le_refl _) (by omega))]
/-- what PERSON p adds to the answer of truly -/
def wT (A : Abs) (s b w p : Nat) : Nat := if w = 0 then bN (tB A s p) else if w = 1 then bN (tB A s p && bt (PP A b p) s) else if w = 2 then bN (tB A s p && !bt (PP A b p) s) else bN (bt (PP A b p) s)
theorem wT_1 {A : Abs} {s b p : Nat} : wT A s b 1 p = bN (tB A s p && bt (PP A b p) s) := rfl
theorem wT_2 {A : Abs} {s b p : Nat} : wT A s b 2 p = bN (tB A s p && !bt (PP A b p) s) := rfl
theorem wT_3 {A : Abs} {s b p : Nat} : wT A s b 3 p = bN (bt (PP A b p) s) := rfl
theorem h_14 {a1 a2 a3 a4 a5 : Int32} {u : gS × gS} (hu : Inv u) : ∃ t, q14 a1 a2 a3 a4 a5 u = some (.inl t) ∧ Inv t := by
  obtain ⟨A, ho, h1, h2⟩ := hu
  have hn := ho.2.1.1
  have h4 := ho.2.2.2.1.2.2.1
  have h16 := ho.2.2.2.1.2.1
  have no : Inv (u.1, u.2) := ⟨A, ho, h1, h2⟩
  unfold q14
  suffices hs : ∃ v s1 s2, pX10_truly a1 a2 a3 u.1 = some (v, s1) ∧ pX11_truly a1 a2 a3 u.2 = some (v, s2) ∧ Inv (s1, s2) by
    obtain ⟨v, s1, s2, e1, e2, e3⟩ := hs
    refine ⟨(s1, s2), ?_, e3⟩
    rw [e1, bn2_s, e2, bn2_s, if_pos rfl]
  unfold pX10_truly pX11_truly
  rw [isSyC ho h1, isSyR ho h2, isBkC ho h1, isBkR ho h2, inR, inRR, in_b]
  simp only [bn1_s]
  by_cases hx : ixB (nSy (aTd A)) a1 = true
  case neg =>
    have hx' : ixB (nSy (aTd A)) a1 = false := by simpa using hx
    simp only [hx', if_b0]
    exact ⟨-1, u.1, u.2, rfl, rfl, no⟩
  by_cases hy : ixB (nBk (aTd A)) a2 = true
  case neg =>
    have hy' : ixB (nBk (aTd A)) a2 = false := by simpa using hy
    simp only [hx, hy', if_b0, if_b1]
    exact ⟨-1, u.1, u.2, rfl, rfl, no⟩
  by_cases hz : (0 : Int32) ≤ a3 ∧ a3 ≤ 3
  case neg =>
    simp only [hx, hy, decide_eq_false hz, if_b0, if_b1]
    exact ⟨-1, u.1, u.2, rfl, rfl, no⟩
  simp only [hx, hy, decide_eq_true hz, if_b1]
  obtain ⟨s, hs, rfl⟩ := ix_T (by omega) hx
  obtain ⟨b, hb, rfl⟩ := ix_T (by omega) hy
  obtain ⟨w, -, hw, rfl⟩ := in_T (a := 0) (c := 3) (by decide) (by decide) hz
  obtain ⟨s1, e1, f1, v1⟩ := surveyC ho h1
  have hC1 := RC_sc f1 h1
  rw [e1, bn1_s]
  have eC : ∀ {f : Int32 × Int32 → Option ((Int32 × Int32) ⊕ Int32)}, (∀ k a, k < aPn A → f (nI k, a) = some (.inl (nI (k + 1), a + nI (wT A s b w k)))) → (∀ a, f (nI (aPn A), a) = some (.inr a)) → bn1 (lpP f ((0 : Int32), (0 : Int32))) (fun z9 => some (z9, s1)) = some (nI (fb_sm (wT A s b w) (aPn A)), s1) := fun q1 q2 => by
    apply lp_bn1
    exact ⟨_, lp_sum (wT A s b w) (aPn A) 0 q1 q2, by rw [Int32.zero_add]⟩
  rw [eC]
  rotate_left
  · intro p a hp
    obtain ⟨r, r1, r2, r3⟩ := ppCl (p := p) ho hC1 (show b < 4 by omega)
    dsimp only
    rw [hC1.2.1.1, if_neg (nI_ge hp (by omega)), gx_i (by omega) (by decide), nI_clamp (by omega), (v1 p hp).2, TRbit ho hs, bn1_s, r2, gT_p r1, gx_i (by omega) (by decide), (v1 p hp).1, r3, bn1_s, bitOfX (by omega), bn1_s]
    simp only [lt_b, nI_1]
    unfold wT
    rcases (show w = 0 ∨ w = 1 ∨ w = 2 ∨ w = 3 by omega) with rfl | rfl | rfl | rfl
    · rw [if_pos (show nI 0 = 0 from rfl), if_pos rfl, b01_n]
    · rw [if_neg (show ¬ nI 1 = 0 by decide), if_pos (show nI 1 = 1 from rfl), if_neg (by decide), if_pos rfl, b_1a, b01_n]
    · rw [if_neg (show ¬ nI 2 = 0 by decide), if_neg (show ¬ nI 2 = 1 by decide), if_pos (show nI 2 = 2 from rfl), if_neg (by decide), if_neg (by decide), if_pos rfl, not_b, b_1a, b01_n]
    · rw [if_neg (show ¬ nI 3 = 0 by decide), if_neg (show ¬ nI 3 = 1 by decide), if_neg (show ¬ nI 3 = 2 by decide), if_neg (by decide), if_neg (by decide), if_neg (by decide), b01_n]
  · intro a
    dsimp only
    rw [hC1.2.1.1, if_pos (nI_le (Nat.le_refl _) (by omega))]
  suffices hR : ∃ s2, (if nI w = 0 then bn2 (pX11_trueOf (nI s) u.2) (fun v7 s8 => some (v7, s8)) else _) = some (nI (fb_sm (wT A s b w) (aPn A)), s2) ∧ fr scR u.2 s2 by
    obtain ⟨s2, q1, q2⟩ := hR
    exact ⟨_, s1, s2, rfl, q1, ask ho h1 h2 f1 q2⟩
  by_cases hw0 : w = 0
  · subst hw0
    rw [if_pos (show nI 0 = 0 from rfl)]
    obtain ⟨s2, g1, g2⟩ := trueOfR ho h2 hs
    rw [g1, bn2_s]
    exact ⟨s2, by rw [← ct_w]; rfl, g2⟩
  · rw [if_neg (show ¬ nI w = 0 from fun q => hw0 ((nI_eq (b := 0) (by omega) (by decide)).mp q))]
    apply ex_pair
    refine lp_then (fun r => r.1 = nI (fb_sm (wT A s b w) (aPn A)) ∧ fr scR u.2 r.2) ?_ (fun r hr => ⟨_, rfl, hr⟩)
    refine lp_cnt (fun k (z : Int32 × Int32 × gS) => z.1 = nI k ∧ z.2.1 = nI (fb_sm (wT A s b w) k) ∧ fr scR u.2 z.2.2) (aPn A) ?_ ?_ (k := 0) (by omega) ⟨rfl, rfl, fr_rf⟩
    · rintro p ⟨z, a, υ⟩ hp ⟨rfl, rfl, hf⟩
      dsimp only at hf ⊢
      have hR : RR A υ := RR_sc hf h2
      obtain ⟨t1, g1, k1⟩ := ppRf (b := b) ho hR hp (by omega)
      have hR1 := RR_sc k1 hR
      obtain ⟨t2, g2, k2⟩ := isTrueOfR ho hR1 hp hs
      have k2' : fr scR t1 t2 := fr_up (fun o k q => o334_sc q) k2
      have eT : upB A p (nI (aPt A p 0)) (6 + s) = tB A s p := rfl
      rw [eT] at g2
      rw [hR.2.1.1, if_neg (nI_ge hp (by omega)), g1, bn2_s, sbitX (by omega)]
      rw [show (if b01 (bt (PP A b p) s) = (1 : Int32) then some (1 : Int32) else some (0 : Int32)) = some (b01 (bt (PP A b p) s)) by cases bt (PP A b p) s <;> rfl, bn1_s, g2, bn2_s]
      simp only [lt_b, nI_1, fb_sm_succ]
      have F1 := fr_tr hf k1
      have F2 := fr_tr F1 k2'
      rcases (show w = 1 ∨ w = 2 ∨ w = 3 by omega) with rfl | rfl | rfl
      · rw [if_neg (show ¬ nI 1 = 3 by decide), if_pos (show nI 1 = 1 from rfl), bn1_s, wT_1]
        cases bt (PP A b p) s <;> cases tB A s p
        · exact ⟨_, rfl, rfl, rfl, F1⟩
        · exact ⟨_, rfl, rfl, rfl, F1⟩
        · exact ⟨_, rfl, rfl, rfl, F2⟩
        · exact ⟨_, rfl, rfl, rfl, F2⟩
      · rw [if_neg (show ¬ nI 2 = 3 by decide), if_neg (show ¬ nI 2 = 1 by decide), bn1_s, wT_2]
        cases bt (PP A b p) s <;> cases tB A s p
        · exact ⟨_, rfl, rfl, rfl, F2⟩
        · exact ⟨_, rfl, rfl, rfl, F2⟩
        · exact ⟨_, rfl, rfl, rfl, F1⟩
        · exact ⟨_, rfl, rfl, rfl, F1⟩
      · rw [if_pos (show nI 3 = 3 from rfl), wT_3]
        cases bt (PP A b p) s
        · exact ⟨_, rfl, rfl, rfl, F1⟩
        · exact ⟨_, rfl, rfl, rfl, F1⟩
    · rintro ⟨z, a, υ⟩ ⟨rfl, rfl, hf⟩
      dsimp only at hf ⊢
      rw [(RR_sc hf h2).2.1.1, if_pos (nI_le (Nat.le_refl _) (by omega))]
      exact ⟨_, rfl, rfl, hf⟩
theorem h_15 {a1 a2 a3 a4 a5 : Int32} {u : gS × gS} (hu : Inv u) : ∃ t, q15 a1 a2 a3 a4 a5 u = some (.inl t) ∧ Inv t := by
  obtain ⟨A, ho, h1, h2⟩ := hu
  have hn := ho.2.1.1
  have h4 := ho.2.2.2.1.2.2.1
  have h16 := ho.2.2.2.1.2.1
  have no : Inv (u.1, u.2) := ⟨A, ho, h1, h2⟩
  unfold q15
  suffices hs : ∃ v s1 s2, pX10_left a1 a2 a3 u.1 = some (v, s1) ∧ pX11_left a1 a2 a3 u.2 = some (v, s2) ∧ Inv (s1, s2) by
    obtain ⟨v, s1, s2, e1, e2, e3⟩ := hs
    refine ⟨(s1, s2), ?_, e3⟩
    rw [e1, bn2_s, e2, bn2_s, if_pos rfl]
  unfold pX10_left pX11_left
  rw [isBkC ho h1, isBkR ho h2, hasC ho h1, isPR ho h2, inR, inRR, in_b]
  simp only [bn1_s]
  by_cases hx : ixB (nBk (aTd A)) a1 = true
  case neg =>
    have hx' : ixB (nBk (aTd A)) a1 = false := by simpa using hx
    simp only [hx', if_b0]
    exact ⟨-1, u.1, u.2, rfl, rfl, no⟩
  by_cases hy : ixB (aPn A) a2 = true
  case neg =>
    have hy' : ixB (aPn A) a2 = false := by simpa using hy
    simp only [hx, hy', if_b0, if_b1]
    exact ⟨-1, u.1, u.2, rfl, rfl, no⟩
  by_cases hz : (0 : Int32) ≤ a3 ∧ a3 ≤ 20
  case neg =>
    simp only [hx, hy, decide_eq_false hz, if_b0, if_b1]
    exact ⟨-1, u.1, u.2, rfl, rfl, no⟩
  simp only [hx, hy, decide_eq_true hz, if_b1]
  obtain ⟨b, hb, rfl⟩ := ix_T (by omega) hx
  obtain ⟨p, hp, rfl⟩ := ix_T (by omega) hy
  obtain ⟨s1, e1, f1, v1⟩ := surveyC ho h1
  have hC1 := RC_sc f1 h1
  obtain ⟨r, r1, r2, r3⟩ := ppCl (p := p) ho hC1 (show b < 4 by omega)
  obtain ⟨r', r1', r2', r4⟩ := tdC hC1
  have er : r' = r := by rw [← r2', ← r2]
  subst er
  obtain ⟨t1, g1, k1⟩ := ppRf (b := b) ho h2 hp (by omega)
  rw [e1, bn1_s, r2, gT_p r1, gx_i (by omega) (by decide), nI_clamp (by omega), (v1 p hp).1, (v1 p hp).2, r3, bn1_s, gx_i (by omega) (by decide), lt_b, g1, bn2_s]
  apply ans_bn1 (P := fun w x => Inv (w, x))
  refine lp_two (fun k (z : Int32 × Int32) (y : Int32 × Int32 × gS) => z.1 = nI k ∧ y.1 = nI k ∧ z.2 = y.2.1 ∧ fr scR u.2 y.2.2) (nSy (aTd A)) ?_ ?_ (k := 0) (by omega) ⟨rfl, rfl, rfl, k1⟩
  · rintro s ⟨z, n⟩ ⟨y, n', τ⟩ hs ⟨rfl, rfl, rfl, hg⟩
    dsimp only at hg ⊢
    have hR := RR_sc hg h2
    obtain ⟨L, l1, l2, l3⟩ := tdR hR
    obtain ⟨t2, g2, k2⟩ := isTrueOfR ho hR hp hs
    have k2' : fr scR τ t2 := fr_up (fun o k q => o334_sc q) k2
    have hR2 := RR_sc k2' hR
    obtain ⟨t3, g3, k3⟩ := trueOfR ho hR2 hs
    have eT : upB A p (nI (aPt A p 0)) (6 + s) = tB A s p := rfl
    rw [eT] at g2
    have eb : bt (PP A b p &&& TR A p) s = (bt (PP A b p) s && tB A s p) := by
      rw [b_and]
      congr 1
      unfold TR
      rw [bt_N (by omega) (by omega), decide_eq_true hs, Bool.true_and]
      rfl
    rw [gT_p r1, r4.1.2.1, if_neg (nI_ge hs (by omega)), bitOfX (by omega), bn1_s, eb, l2, gx_i l1 (by decide), nI_clamp (by omega), l3.1.2.1, if_neg (nI_ge hs (by omega)), sbitX (by omega), howManyC ho hC1 v1 hs, bn1_s, g2, bn2_s, g3, bn2_s]
    simp only [lt_b]
    cases bt (PP A b p) s with
    | false => exact Or.inl ⟨_, _, rfl, rfl, nI_1 s, nI_1 s, rfl, hg⟩
    | true =>
      cases tB A s p with
      | false => exact Or.inl ⟨_, _, rfl, rfl, nI_1 s, nI_1 s, rfl, fr_tr hg k2'⟩
      | true =>
        rw [Bool.true_and, if_pos (show b01 true = 1 from rfl), if_pos (show b01 true = 1 from rfl), if_b1]
        by_cases hc : a3 < nI (fb_ct (tB A s) (aPn A))
        · rw [if_pos hc, if_pos hc]
          exact Or.inl ⟨_, _, rfl, rfl, nI_1 s, nI_1 s, rfl, fr_tr hg (fr_tr k2' k3)⟩
        · rw [if_neg hc, if_neg hc]
          exact Or.inl ⟨_, _, rfl, rfl, nI_1 s, nI_1 s, rfl, fr_tr hg (fr_tr k2' k3)⟩
  · rintro ⟨z, n⟩ ⟨y, n', τ⟩ ⟨rfl, rfl, rfl, hg⟩
    dsimp only at hg ⊢
    obtain ⟨L, l1, l2, l3⟩ := tdR (RR_sc hg h2)
    rw [gT_p r1, r4.1.2.1, if_pos (nI_le (Nat.le_refl _) (by omega)), l2, gx_i l1 (by decide), nI_clamp (by omega), l3.1.2.1, if_pos (nI_le (Nat.le_refl _) (by omega))]
    exact ⟨_, _, rfl, rfl, _, _, _, rfl, rfl, ask ho h1 h2 f1 hg⟩
