/-! read: a condition, both sides -/
noncomputable def coF : Int32 × Int32 × Int32 × Int32 × gS → Option ((Int32 × Int32 × Int32 × Int32 × gS) ⊕ gS) := fun (z2 : (Int32 × Int32 × Int32 × Int32 × gS)) => if (400 : Int32) < z2.1 then some (.inr z2.2.2.2.2) else if z2.2.1 = 0 then some (.inr z2.2.2.2.2) else bn1 (pX7_literal z2.2.2.2.2) (fun s4 => bn1 (if z2.2.2.2.1 = 0 then some s4 else gT (s4.2.2 3 1) tR (fun rr6 => bn1 (pX9_addStep rr6 (7 : Int32) (0 : Int32) s4) (fun s8 => some s8))) (fun (z5 : gS) => bn1 (if (z5.1 3 3) = (7 : Int32) then some (1 : Int32) else some (0 : Int32)) (fun (z9 : Int32) => bn1 (if z9 = 0 then bn1 (if z2.2.2.1 = 0 then some z5 else gT (z5.2.2 3 1) tR (fun rr12 => bn1 (pX9_addStep rr12 (6 : Int32) (0 : Int32) z5) (fun s14 => some s14))) (fun (z11 : gS) => if (z11.1 3 3) = (6 : Int32) then some ((1 : Int32), z11) else some ((0 : Int32), z11)) else some (z2.2.2.1, z5)) (fun (z10 : (Int32 × gS)) => bn1 (if z9 = 0 then if z10.1 = 0 then some (0 : Int32) else some (1 : Int32) else some (1 : Int32)) (fun (z15 : Int32) => if z15 = 0 then lt' (z2.1 + (1 : Int32)) (fun x16 => some (.inl (x16, z15, z10.1, z9, z10.2))) else bn1 (pX7_take z10.2) (fun s18 => lt' (z2.1 + (1 : Int32)) (fun x19 => some (.inl (x19, z15, z10.1, z9, s18)))))))))
noncomputable def crF : Int32 × Int32 × gS → Option ((Int32 × Int32 × gS) ⊕ gS) := fun (z5 : (Int32 × Int32 × gS)) => if z5.1 = 0 then some (.inr z5.2.2) else if (z5.2.2.1 0 13) = 0 then bn1 (pX11_literal z5.2.1 z5.2.2) (fun s7 => bn1 (pX11_is (33 : Int32) s7) (fun v8 => bn1 (if v8 = 0 then bn1 (pX11_is (34 : Int32) s7) (fun v11 => if v11 = 0 then some (0 : Int32) else some (1 : Int32)) else some (1 : Int32)) (fun (z10 : Int32) => if z10 = 0 then some (.inl (z10, v8, s7)) else bn1 (pX11_goesOn s7) (fun s14 => some (.inl (z10, v8, s14)))))) else some (.inr z5.2.2)
theorem co_un {σ : gS} : pX7_condition σ = bn1 (lpP coF (0, 1, 0, 0, σ)) (fun z1 => some z1) := rfl
theorem co_out {i w t : Int32} {σ : gS} : coF (i, 0, w, t, σ) = some (.inr σ) := by
  unfold coF
  dsimp only
  rw [if_00]
  split <;> rfl
theorem cr_out {v : Int32} {τ : gS} : crF (0, v, τ) = some (.inr τ) := by
  unfold crF
  dsimp only
  rw [if_00]
theorem co_s1 {f p r : Nat} {i m w t : Int32} {σ s1 : gS} (h4 : ¬ (400 : Int32) < i) (hm : ¬ m = 0) (e1 : pX7_literal σ = some s1) (c1 : CS f p r s1) : ∃ s3, lpP coF (i, m, w, t, σ) = some s3 ∧ CS f p r s3 ∧ fr (sumF r) s1 s3 := by
  obtain ⟨s2, e2, c2, f2⟩ := (KC_if (c := t = 0) KC_id (KC_T (g := fun rr s => bn1 (pX9_addStep rr 7 0 s) (fun s8 => some s8)) (KC_b KC_add KC_id))) s1 c1
  obtain ⟨s3, e3, c3, f3⟩ := (KC_if (c := w = 0) KC_id (KC_T (g := fun rr s => bn1 (pX9_addStep rr 6 0 s) (fun s8 => some s8)) (KC_b KC_add KC_id))) s2 c2
  refine ⟨s3, ?_, c3, fr_tr f2 f3⟩
  rw [lpP_inl (t := (i + 1, 0, 0, 0, s3)), lpP_inr co_out]
  unfold coF
  dsimp only
  rw [if_neg h4, if_neg hm, e1, bn1_s]
  dsimp only at e2 e3
  rw [e2, bn1_s, c2.2.1.1, if_neg (show ¬ (38 : Int32) = 7 by decide), bn1_s, if_00, e3, bn1_s, c3.2.1.1, if_neg (show ¬ (38 : Int32) = 6 by decide), bn1_s]
  dsimp only
  rw [if_00, if_00, bn1_s, if_00, lt_b]
theorem co_s {f p r : Nat} {i m w t : Int32} {σ : gS} (h : CS f p r σ) : ∃ s3, lpP coF (i, m, w, t, σ) = some s3 ∧ CS f p r s3 ∧ fr (sumF r) σ s3 := by
  by_cases h4 : (400 : Int32) < i
  · exact ⟨σ, lpP_inr (by unfold coF; dsimp only; rw [if_pos h4]), h, fr_rf⟩
  by_cases hm : m = 0
  · subst hm
    exact ⟨σ, lpP_inr co_out, h, fr_rf⟩
  obtain ⟨s1, e1, c1, f1⟩ := KC_lit σ h
  obtain ⟨s3, e3, c3, f3⟩ := co_s1 (w := w) (t := t) h4 hm e1 c1
  exact ⟨s3, e3, c3, fr_tr f1 f3⟩
theorem KC_cond {f p r : Nat} : KC (sumF r) f p r pX7_condition := fun σ h => by
  obtain ⟨s1, e1, c1, f1⟩ := co_s (i := 0) (m := 1) (w := 0) (t := 0) h
  exact ⟨s1, by rw [co_un, e1, bn1_s], c1, f1⟩
section COST
variable {i ao aa : Int32} {σ s4 z5 z11 s : gS}
theorem co_7 (hi : ¬ (400 : Int32) < i) (e1 : pX7_literal σ = some s4) (e2 : (if aa = 0 then some s4 else gT (s4.2.2 3 1) tR (fun rr6 => bn1 (pX9_addStep rr6 (7 : Int32) (0 : Int32) s4) (fun s8 => some s8))) = some z5) (h : z5.1 3 3 = 7) (e3 : pX7_take z5 = some s) : coF (i, 1, ao, aa, σ) = some (.inl (i + 1, 1, ao, 1, s)) := by
  have e4 : coF (i, 1, ao, aa, σ) = bn1 (pX7_take z5) (fun s18 => some (.inl (i + 1, 1, ao, 1, s18))) := by
    unfold coF
    dsimp only
    rw [if_neg hi, if_10, e1, bn1_s, e2, bn1_s, if_pos h, bn1_s, if_10, bn1_s, if_10, bn1_s, if_10]
    rfl
  rw [e4, e3, bn1_s]
theorem co_6 (hi : ¬ (400 : Int32) < i) (e1 : pX7_literal σ = some s4) (e2 : (if aa = 0 then some s4 else gT (s4.2.2 3 1) tR (fun rr6 => bn1 (pX9_addStep rr6 (7 : Int32) (0 : Int32) s4) (fun s8 => some s8))) = some z5) (e3 : (if ao = 0 then some z5 else gT (z5.2.2 3 1) tR (fun rr12 => bn1 (pX9_addStep rr12 (6 : Int32) (0 : Int32) z5) (fun s14 => some s14))) = some z11) (h : ¬ z5.1 3 3 = 7) (h' : z11.1 3 3 = 6) (e4 : pX7_take z11 = some s) : coF (i, 1, ao, aa, σ) = some (.inl (i + 1, 1, 1, 0, s)) := by
  have e5 : coF (i, 1, ao, aa, σ) = bn1 (pX7_take z11) (fun s18 => some (.inl (i + 1, 1, 1, 0, s18))) := by
    unfold coF
    dsimp only
    rw [if_neg hi, if_10, e1, bn1_s, e2, bn1_s, if_neg h, bn1_s, if_00, e3, bn1_s, if_pos h', bn1_s]
    dsimp only
    rw [if_00, if_10, bn1_s, if_10]
    rfl
  rw [e5, e4, bn1_s]
theorem co_e (hi : ¬ (400 : Int32) < i) (e1 : pX7_literal σ = some s4) (e2 : (if aa = 0 then some s4 else gT (s4.2.2 3 1) tR (fun rr6 => bn1 (pX9_addStep rr6 (7 : Int32) (0 : Int32) s4) (fun s8 => some s8))) = some z5) (e3 : (if ao = 0 then some z5 else gT (z5.2.2 3 1) tR (fun rr12 => bn1 (pX9_addStep rr12 (6 : Int32) (0 : Int32) z5) (fun s14 => some s14))) = some z11) (h : ¬ z5.1 3 3 = 7) (h' : ¬ z11.1 3 3 = 6) : coF (i, 1, ao, aa, σ) = some (.inl (i + 1, 0, 0, 0, z11)) := by
  unfold coF
  dsimp only
  rw [if_neg hi, if_10, e1, bn1_s, e2, bn1_s, if_neg h, bn1_s, if_00, e3, bn1_s, if_neg h', bn1_s]
  dsimp only
  rw [if_00, if_00, bn1_s, if_00, lt_b]
end COST
section CONDQ
variable {N : Nat} {tk pl : Nat → Nat} {vl : Nat → Int64} {r L pc : Nat}
theorem addGO (hT : TkOK N tk pl) (hr : tR r = true) {c : Prop} [Decidable c] {a : Int32} {pc' k : Nat} {cs : List (Int32 × Int32)} {es : List cEl} {σ τ : gS} (h : GO N tk pl vl r L pc k cs es σ τ) (hp : (if c then 0 else 1) + pc' ≤ pc) : ∃ z, (if c then some σ else gT (σ.2.2 3 1) tR (fun rr => bn1 (pX9_addStep rr a (0 : Int32) σ) (fun s8 => some s8))) = some z ∧ GO N tk pl vl r L pc' k (cs ++ (if c then [] else [(a, 0)])) es z τ ∧ codS r σ z := by
  have h9 := tR_9 hr
  obtain ⟨h1, h2, h3, h4, h5, h7, h8, h10, h11⟩ := h
  have hk4 := k_400 hT h1.1
  obtain ⟨z, e1, e2, e3⟩ := addO (c := c) (a := a) hr h3 h4 (fun q => by rw [if_neg q] at hp; omega)
  refine ⟨z, e1, ⟨rdC_cod hr h1 e3, h2, by rw [e3.2]; exact h3, e2, h5, h7, WW_eq (e3.1 3 8 (by omega) (by omega) (by omega)) (e3.1 3 9 (by omega) (by omega) (by omega)) rfl rfl h8, ?_, h11⟩, e3⟩
  by_cases q : c
  · rw [if_pos q] at hp ⊢
    rw [List.append_nil]; omega
  · rw [if_neg q] at hp ⊢
    rw [List.length_append, List.length_singleton]; omega
theorem cr_s1 {f p : Nat} {v : Int32} {τ s7 : gS} (hf : fpO f p) (h0 : τ.1 0 13 = 0) (e1 : pX11_literal v τ = some s7) (h : spR N tk pl vl f p s7) : lpP crF (1, v, τ) = some s7 := by
  rw [lpP_inl (t := (0, 0, s7)), lpP_inr cr_out]
  unfold crF
  dsimp only
  rw [if_10, h0, if_00, e1, bn1_s, isR_s hf h, bn1_s, if_00, isR_s hf h, bn1_s, if_00, bn1_s, if_00]
theorem cr_s {f p : Nat} {v w : Int32} {τ : gS} (hf : fpO f p) (h : spR N tk pl vl f p τ) : lpP crF (w, v, τ) = some τ := by
  refine lpP_inr ?_
  unfold crF
  dsimp only
  rw [if_neg (sp_n hf h).1]
  split <;> rfl
def CO (N : Nat) (tk pl : Nat → Nat) (vl : Nat → Int64) (r L k : Nat) (ao fl : Bool) (cs : List (Int32 × Int32)) (es : List cEl) (lts : List lEl) (σ σ' τ' : gS) : Prop := (∃ k' d e nl, k + 3 ≤ k' ∧ GO N tk pl vl r L 0 k' (cs ++ d) (es ++ e) σ' τ' ∧ LX L (es ++ e) (lts ++ nl) τ' ∧ 3 * (lts ++ nl).length ≤ k' ∧ (∃ x t, nl = x :: t ∧ x.1 = fl) ∧ (∀ x ∈ nl, wfL x) ∧ (σ'.1 3 8 = 0 → σ.1 3 8 = 0 ∧ d = cmC ao nl)) ∨ SS N tk pl vl r σ' τ'
theorem condL (hT : TkOK N tk pl) (hr : tR r = true) (hL : L < 2) : ∀ (m i k : Nat) (ao fl : Bool) (cs : List (Int32 × Int32)) (es : List cEl) (lts : List lEl) (σ τ : gS), 401 - k ≤ m → i ≤ k → GO N tk pl vl r L (bN ao + bN (!fl)) k cs es σ τ → LX L es lts τ → 3 * lts.length ≤ k → ∃ σ' τ', lpP coF (nI i, 1, b01 ao, b01 (!fl), σ) = some σ' ∧ lpP crF (1, b01 fl, τ) = some τ' ∧ fr (sumF r) σ σ' ∧ fr (liF L) τ τ' ∧ CO N tk pl vl r L k ao fl cs es lts σ σ' τ' := by
  have h9 := tR_9 hr
  intro m
  induction m with
  | zero =>
    intro i k ao fl cs es lts σ τ hm hi h hx h3
    have := k_400 hT h.1.1
    omega
  | succ m ih =>
    intro i k ao fl cs es lts σ τ hm hi h hx h3
    have hk4 := k_400 hT h.1.1
    have hi4 : ¬ (400 : Int32) < nI i := nI_nlt (b := i) (a := 400) (by omega) (by decide)
    obtain ⟨s4, t4, a1, a2, a3, a4, out⟩ := litQ (fl := fl) hT hr hL h hx h3
    rcases out with ⟨k1, d, e, x, o1, o2, o3, o4, o5, o6⟩ | ⟨f, p, o1, o2⟩
    · have hk1 := o2.1.1
      have hk14 := k_400 hT hk1
      have htk := (hT.2.2.2.1 k1 hk1).1
      have hb1 : (if b01 (!fl) = 0 then 0 else 1) = bN (!fl) := by cases fl <;> rfl
      have hb2 : (if b01 ao = 0 then 0 else 1) = bN ao := by cases ao <;> rfl
      have hb3 : (if b01 (!fl) = 0 then ([] : List (Int32 × Int32)) else [(7, 0)]) = if x.1 then [] else [(7, 0)] := by rw [o4]; cases fl <;> rfl
      have hb4 : (if b01 ao = 0 then ([] : List (Int32 × Int32)) else [(6, 0)]) = if ao then [(6, 0)] else [] := by cases ao <;> rfl
      obtain ⟨z5, b1, b2, b3⟩ := addGO (c := b01 (!fl) = 0) (a := 7) (pc' := bN ao) hT hr o2 (by rw [hb1]; omega)
      have t5 : z5.1 3 3 = nI (tk k1) := b2.1.2.2.1
      have e58 : z5.1 3 8 = s4.1 3 8 := b3.1 3 8 (by omega) (by omega) (by omega)
      rw [hb3] at b2
      have l1 : (lts ++ [x]).length = lts.length + 1 := by rw [List.length_append]; rfl
      have i6 : pX11_is (33 : Int32) t4 = some (b01 (decide (tk k1 = 6))) := isR (K := 6) hT o2.2.1 hk1 (by decide)
      have i7 : pX11_is (34 : Int32) t4 = some (b01 (decide (tk k1 = 7))) := isR (K := 7) hT o2.2.1 hk1 (by decide)
      by_cases c7 : tk k1 = 7
      · obtain ⟨s18, t14, g1, g2, g3, g4, out2⟩ := goQ (pc' := bN ao + 1) hT hr b2 (by omega) (by omega)
        have est := co_7 (ao := b01 ao) hi4 a1 b1 (by rw [t5, c7]; rfl) g1
        have esr : crF (1, b01 fl, τ) = some (.inl (1, 0, t14)) := by
          unfold crF
          dsimp only
          rw [if_10, h.2.1.2.1, if_00, a2, bn1_s, i6, bn1_s, decide_eq_false (by omega), if_b0, i7, bn1_s, decide_eq_true c7, if_b1, bn1_s, if_10, g2, bn1_s]
          rfl
        rw [nI_1] at est
        rcases out2 with ⟨w1, w2, w3⟩ | ⟨f, p, w1, w2⟩
        · obtain ⟨σ', τ', p1, p2, p3, p4, p5⟩ := ih (i + 1) (k1 + 1) ao false _ _ _ s18 t14 (by omega) (by omega) w2 (LX_h o3 g4) (by rw [l1]; omega)
          refine ⟨σ', τ', by rw [lpP_inl est]; exact p1, by rw [lpP_inl esr]; exact p2, fr_tr a3 (fr_tr (codS_f b3) (fr_tr (hdC_s g3) p3)), fr_tr a4 (fr_tr (liF_x (xH_x (hdR_x g4))) p4), ?_⟩
          rcases p5 with ⟨k', d', e', nl, y1, y2, y3, y4, ⟨x', t', rfl, y5⟩, y6, y7⟩ | y
          · refine Or.inl ⟨k', d ++ (if x.1 then [] else [(7, 0)]) ++ d', e ++ e', x :: x' :: t', by omega, ?_, ?_, ?_, ⟨x, _, rfl, o4⟩, ?_, ?_⟩
            · simp only [List.append_assoc] at y2 ⊢; exact y2
            · simp only [List.append_assoc, List.singleton_append] at y3 ⊢; exact y3
            · simp only [List.append_assoc, List.singleton_append] at y4 ⊢; exact y4
            · intro y hy
              rcases List.mem_cons.mp hy with z | z
              · rw [z]; exact o5
              · exact y6 y z
            · intro z
              obtain ⟨z1, z2⟩ := y7 z
              rw [w3, e58] at z1
              obtain ⟨z3, z4⟩ := o6 z1
              refine ⟨z3, ?_⟩
              rw [z2, z4]
              show _ = cmL x ++ (if x.1 then [] else [(7, 0)]) ++ (if x'.1 && ao then [(6, 0)] else []) ++ cmC (x'.1 || ao) (x' :: t')
              rw [y5, Bool.false_and, Bool.false_or]
              rw [if_neg (show ¬ false = true by decide), List.append_nil]
          · exact Or.inr y
        · obtain ⟨σ', p1, p2, p3⟩ := co_s (i := nI (i + 1)) (m := 1) (w := b01 ao) (t := 1) w1
          exact ⟨σ', t14, by rw [lpP_inl est]; exact p1, by rw [lpP_inl esr]; exact cr_s w1.1 w2, fr_tr a3 (fr_tr (codS_f b3) (fr_tr (hdC_s g3) p3)), fr_tr a4 (liF_x (xH_x (hdR_x g4))), Or.inr ⟨f, p, p2, w2⟩⟩
      · have n7 : ¬ z5.1 3 3 = 7 := by rw [t5]; exact nI_neT (K := 7) c7 (by omega) (by omega)
        obtain ⟨z11, b4, b5, b6⟩ := addGO (c := b01 ao = 0) (a := 6) (pc' := 0) hT hr b2 (by rw [hb2]; omega)
        have t11 : z11.1 3 3 = nI (tk k1) := b5.1.2.2.1
        have e118 : z11.1 3 8 = s4.1 3 8 := (b6.1 3 8 (by omega) (by omega) (by omega)).trans e58
        rw [hb4] at b5
        by_cases c6 : tk k1 = 6
        · obtain ⟨s18, t14, g1, g2, g3, g4, out2⟩ := goQ (pc' := 1) hT hr b5 (by omega) (by omega)
          have est := co_6 hi4 a1 b1 b4 n7 (by rw [t11, c6]; rfl) g1
          have esr : crF (1, b01 fl, τ) = some (.inl (1, 1, t14)) := by
            unfold crF
            dsimp only
            rw [if_10, h.2.1.2.1, if_00, a2, bn1_s, i6, bn1_s, decide_eq_true c6, if_b1, bn1_s, if_10, g2, bn1_s]
            rfl
          rw [nI_1] at est
          rcases out2 with ⟨w1, w2, w3⟩ | ⟨f, p, w1, w2⟩
          · obtain ⟨σ', τ', p1, p2, p3, p4, p5⟩ := ih (i + 1) (k1 + 1) true true _ _ _ s18 t14 (by omega) (by omega) w2 (LX_h o3 g4) (by rw [l1]; omega)
            refine ⟨σ', τ', by rw [lpP_inl est]; exact p1, by rw [lpP_inl esr]; exact p2, fr_tr a3 (fr_tr (codS_f b3) (fr_tr (codS_f b6) (fr_tr (hdC_s g3) p3))), fr_tr a4 (fr_tr (liF_x (xH_x (hdR_x g4))) p4), ?_⟩
            rcases p5 with ⟨k', d', e', nl, y1, y2, y3, y4, ⟨x', t', rfl, y5⟩, y6, y7⟩ | y
            · refine Or.inl ⟨k', d ++ (if x.1 then [] else [(7, 0)]) ++ (if ao then [(6, 0)] else []) ++ d', e ++ e', x :: x' :: t', by omega, ?_, ?_, ?_, ⟨x, _, rfl, o4⟩, ?_, ?_⟩
              · simp only [List.append_assoc] at y2 ⊢; exact y2
              · simp only [List.append_assoc, List.singleton_append] at y3 ⊢; exact y3
              · simp only [List.append_assoc, List.singleton_append] at y4 ⊢; exact y4
              · intro y hy
                rcases List.mem_cons.mp hy with z | z
                · rw [z]; exact o5
                · exact y6 y z
              · intro z
                obtain ⟨z1, z2⟩ := y7 z
                rw [w3, e118] at z1
                obtain ⟨z3, z4⟩ := o6 z1
                refine ⟨z3, ?_⟩
                rw [z2, z4]
                show _ = cmL x ++ (if x.1 then [] else [(7, 0)]) ++ (if x'.1 && ao then [(6, 0)] else []) ++ cmC (x'.1 || ao) (x' :: t')
                rw [y5, Bool.true_and, Bool.true_or]
            · exact Or.inr y
          · obtain ⟨σ', p1, p2, p3⟩ := co_s (i := nI (i + 1)) (m := 1) (w := 1) (t := 0) w1
            exact ⟨σ', t14, by rw [lpP_inl est]; exact p1, by rw [lpP_inl esr]; exact cr_s w1.1 w2, fr_tr a3 (fr_tr (codS_f b3) (fr_tr (codS_f b6) (fr_tr (hdC_s g3) p3))), fr_tr a4 (liF_x (xH_x (hdR_x g4))), Or.inr ⟨f, p, p2, w2⟩⟩
        · have n6 : ¬ z11.1 3 3 = 6 := by rw [t11]; exact nI_neT (K := 6) c6 (by omega) (by omega)
          have est := co_e hi4 a1 b1 b4 n7 n6
          have esr : crF (1, b01 fl, τ) = some (.inl (0, 0, t4)) := by
            unfold crF
            dsimp only
            rw [if_10, h.2.1.2.1, if_00, a2, bn1_s, i6, bn1_s, decide_eq_false c6, if_b0, i7, bn1_s, decide_eq_false c7, if_b0, bn1_s, if_00]
            rfl
          refine ⟨z11, t4, by rw [lpP_inl est, lpP_inr co_out], by rw [lpP_inl esr, lpP_inr cr_out], fr_tr a3 (fr_tr (codS_f b3) (codS_f b6)), a4, Or.inl ⟨k1, d ++ (if x.1 then [] else [(7, 0)]) ++ (if ao then [(6, 0)] else []), e, [x], by omega, ?_, o3, by rw [l1]; omega, ⟨x, _, rfl, o4⟩, ?_, ?_⟩⟩
          · simp only [List.append_assoc] at b5 ⊢; exact b5
          · intro y hy
            rw [List.mem_singleton.mp hy]; exact o5
          · intro z
            rw [e118] at z
            obtain ⟨z3, z4⟩ := o6 z
            refine ⟨z3, ?_⟩
            rw [z4]
            show _ = cmL x ++ (if x.1 then [] else [(7, 0)]) ++ (if ao then [(6, 0)] else []) ++ []
            rw [List.append_nil]
    · obtain ⟨σ', p1, p2, p3⟩ := co_s1 (i := nI i) (m := 1) (w := b01 ao) (t := b01 (!fl)) hi4 (by decide) a1 o1
      exact ⟨σ', t4, p1, cr_s1 o1.1 h.2.1.2.1 a2 o2, fr_tr a3 p3, a4, Or.inr ⟨f, p, p2, o2⟩⟩
end CONDQ
