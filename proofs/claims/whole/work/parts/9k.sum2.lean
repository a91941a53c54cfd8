/-! read: a sum, both sides, to its end -/
theorem su_s1 {f p r : Nat} {g : Int32 → gS → Option gS} {a i m w t : Int32} {σ s1 : gS} (h4 : ¬ (400 : Int32) < i) (hm : ¬ m = 0) (e1 : g a σ = some s1) (c1 : CS f p r s1) : ∃ s3, lpP (suF g a) (i, m, w, t, σ) = some s3 ∧ CS f p r s3 ∧ fr (sumF r) s1 s3 := by
  obtain ⟨s2, e2, c2, f2⟩ := (KC_if (c := t = 0) KC_id (KC_T (g := fun rr s => bn1 (pX9_addStep rr 29 0 s) (fun s8 => some s8)) (KC_b KC_add KC_id))) s1 c1
  obtain ⟨s3, e3, c3, f3⟩ := (KC_if (c := w = -1) KC_id (KC_T (g := fun rr s => bn1 (pX9_addStep rr w 0 s) (fun s8 => some s8)) (KC_b KC_add KC_id))) s2 c2
  refine ⟨s3, ?_, c3, fr_tr f2 f3⟩
  rw [lpP_inl (t := (i + 1, 0, -1, 0, s3)), lpP_inr su_out]
  unfold suF
  dsimp only
  rw [if_neg h4, if_neg hm, e1, bn1_s]
  dsimp only at e2 e3
  rw [e2, bn1_s, c2.2.1.1, if_neg (show ¬ (38 : Int32) = 29 by decide), bn1_s, if_00, e3, bn1_s, c3.2.1.1, if_neg (show ¬ (38 : Int32) = 27 by decide), if_neg (show ¬ (38 : Int32) = 28 by decide), bn1_s]
  dsimp only
  rw [if_00, if_pos rfl, bn1_s, if_00, lt_b]
def x1O (l : Bool × Nat) : List (Int32 × Int32) := if b01 l.1 = 0 then [] else [(29, 0)]
def x2O (l : Bool × Nat) : List (Int32 × Int32) := if wz l.2 = -1 then [] else [(wz l.2, 0)]
theorem lv_6 {P : Bool × Nat → Prop} (h1 : P (false, 0)) (h2 : P (false, 8)) (h3 : P (false, 9)) (h4 : P (true, 0)) (h5 : P (true, 8)) (h6 : P (true, 9)) {l : Bool × Nat} (hl : lvOk l) : P l := by
  obtain ⟨b, w⟩ := l
  rcases hl with z | z | z
  · dsimp only at z; subst z; cases b <;> assumption
  · dsimp only at z; subst z; cases b <;> assumption
  · dsimp only at z; subst z; cases b <;> assumption
theorem lv_all {l : Bool × Nat} (hl : lvOk l) : x1O l ++ x2O l = (opsE l).map cm1 ∧ (x1O l).length + (x2O l).length = (opsL l).length ∧ (¬ b01 l.1 = 0 → (x1O l).length = 1) ∧ (¬ wz l.2 = -1 → (x2O l).length = 1) :=
  lv_6 (P := fun l => x1O l ++ x2O l = (opsE l).map cm1 ∧ (x1O l).length + (x2O l).length = (opsL l).length ∧ (¬ b01 l.1 = 0 → (x1O l).length = 1) ∧ (¬ wz l.2 = -1 → (x2O l).length = 1)) (by decide +kernel) (by decide +kernel) (by decide +kernel) (by decide +kernel) (by decide +kernel) (by decide +kernel) hl
def xs9 (l : Bool × Nat) : List Nat := if l.1 then [10] else []
def ws9 (l : Bool × Nat) : List Nat := if l.2 = 0 then [] else [l.2]
theorem lv_29 {l : Bool × Nat} (hl : lvOk l) : (∀ y ∈ xs9 l, y = 10) ∧ opsL l = xs9 l ++ ws9 l ∧ opsL (true, l.2) = 10 :: ws9 l ∧ x1O l = ((xs9 l).map (fun y => (opk y, (0 : Int32)))).map cm1 ∧ (x1O l).length = (xs9 l).length ∧ (opsL l).length + 1 = (xs9 l).length + (opsL (true, l.2)).length ∧ (ws9 l = [] ∨ ws9 l = [8] ∨ ws9 l = [9]) ∧ lvOk (true, l.2) :=
  lv_6 (P := fun l => (∀ y ∈ xs9 l, y = 10) ∧ opsL l = xs9 l ++ ws9 l ∧ opsL (true, l.2) = 10 :: ws9 l ∧ x1O l = ((xs9 l).map (fun y => (opk y, (0 : Int32)))).map cm1 ∧ (x1O l).length = (xs9 l).length ∧ (opsL l).length + 1 = (xs9 l).length + (opsL (true, l.2)).length ∧ (ws9 l = [] ∨ ws9 l = [8] ∨ ws9 l = [9]) ∧ lvOk (true, l.2)) (by unfold lvOk; decide +kernel) (by unfold lvOk; decide +kernel) (by unfold lvOk; decide +kernel) (by unfold lvOk; decide +kernel) (by unfold lvOk; decide +kernel) (by unfold lvOk; decide +kernel) hl
section SUMQ2
variable {N : Nat} {tk pl : Nat → Nat} {vl : Nat → Int64} {r L pc : Nat} {cs0 : List (Int32 × Int32)} {es0 : List cEl}
theorem sum_loop (hT : TkOK N tk pl) (hr : tR r = true) (hL : L < 2) {n dep : Nat} (hd : dep ≤ 6) (hU : UNp N tk pl vl r L pc cs0 es0 (n + 1) dep) {ls : List (Bool × Nat)} (hls : ls.length = dep) (hlv : ∀ m ∈ ls, lvOk m) : ∀ (m i k : Nat) (l : Bool × Nat) (d : List (Int32 × Int32)) (e : List cEl) (σ τ : gS), 401 - k ≤ m → i ≤ k → lvOk l → UX N tk pl vl r L pc cs0 es0 k l ls (hOf l ls) d e σ τ → ∃ σ', lpP (suF (pSU (n + 1)).2 (nI dep)) (nI i, 1, wz l.2, b01 l.1, σ) = some σ' ∧ fr (sumF r) σ σ' ∧ SO N tk pl vl r L pc cs0 es0 k ls σ τ σ' := by
  intro m
  induction m with
  | zero =>
    intro i k l d e σ τ hm hi hl hu
    have := k_400 hT hu.1.1
    omega
  | succ m ih =>
    intro i k l d e σ τ hm hi hl hu
    have hk4 := k_400 hT hu.1.1
    have hi4 : ¬ (400 : Int32) < nI i := nI_nlt (b := i) (a := 400) (by omega) (by decide)
    obtain ⟨s4, e1, f1, ho⟩ := hU k l ls d e σ τ hls hl hlv hu
    rcases ho with ⟨k1, d1, e1', τ1, hk1, hp, fp, hu1, mono⟩ | ⟨f, p, hcs, hrs⟩
    · have hu1' := hu1
      obtain ⟨v1, v2, v3, v4, v5, v6, v7, v8, v9, v10, v11⟩ := hu1'
      have h9 := tR_9 hr
      have hk14 := k_400 hT v1.1
      have htk := (hT.2.2.2.1 k1 v1.1).1
      have hor := hOf_r l ls
      obtain ⟨la1, la2, la3, la4⟩ := lv_all hl
      obtain ⟨z5, g1, g2, g3⟩ := addO (c := b01 l.1 = 0) (a := 29) hr v3 v4 (fun z => by have := la3 z; omega)
      have t5 : z5.1 3 3 = nI (tk k1) := (g3.1 3 3 (by omega) (by omega) (by omega)).trans v1.2.2.1
      have c5 : CX r (cs0 ++ (d1 ++ x1O l)) z5 := by rw [← List.append_assoc]; exact g2
      by_cases c29 : tk k1 = 29
      · obtain ⟨q1, q2, q3, q4, q5, q6, q7, q8⟩ := lv_29 hl
        obtain ⟨s, b1, b2, b3, out⟩ := opQ (l' := (true, l.2)) (xs := xs9 l) (w := ws9 l ++ restL ls) hT hr hL hu1 (by omega) (Or.inr (Or.inr c29)) (fun y hy => Or.inr (Or.inr (q1 y hy))) (Or.inr q1) (by rw [wOf_r, q2, List.append_assoc]) (by rw [wOf_r, q3, c29]; rfl) (by
          rcases q7 with z | z | z
          · rw [z, List.nil_append]
            exact (restL_s ls).imp id (fun y => Or.inl y)
          · exact Or.inr (Or.inr ⟨c29, 8, restL ls, by rw [z]; rfl, Or.inl rfl⟩)
          · exact Or.inr (Or.inr ⟨c29, 9, restL ls, by rw [z]; rfl, Or.inr rfl⟩)) (by rw [hOf_r l ls, hOf_r (true, l.2) ls]; omega) (by rw [hOf_r (true, l.2) ls, q3, List.length_cons]; omega) c5 q5 q4 g3
        have est := su_29 (w := wz l.2) hi4 e1 g1 (by rw [t5, c29]; rfl)
        rw [b1, bn1_s] at est
        rcases out with ⟨e', τ', h4, a1, a2, ux⟩ | ⟨cs, rs⟩
        · obtain ⟨σ', p1, p2, p3⟩ := ih (i + 1) (k1 + 1) (true, l.2) _ _ s τ' (by omega) (by omega) q8 ux
          refine ⟨σ', ?_, fr_tr f1 (fr_tr b2 p2), ?_⟩
          · rw [lpP_inl est, nI_1]
            exact p1
          · rcases p3 with ⟨k', l', d', e'', τ'', y1, y2, y3, y4, y5, y6, y7⟩ | ⟨f, p, y1, y2⟩
            · exact Or.inl ⟨k', l', d', e'', τ'', by omega, y2, by rw [hp, a1, y3], fr_tr fp (fr_tr a2 y4), y5, y6, fun z => mono (b3 ▸ y7 z)⟩
            · exact Or.inr ⟨f, p, y1, by rw [hp, a1]; exact RS_fr (fr_tr fp a2) y2⟩
        · obtain ⟨σ', p1, p2, p3⟩ := su_s (i := nI i + 1) (m := 1) (w := wz l.2) (t := 1) (KC_unitn (n := n) (a := nI dep)) cs
          exact ⟨σ', by rw [lpP_inl est]; exact p1, fr_tr f1 (fr_tr b2 p3), Or.inr ⟨2, _, p2, by rw [hp]; exact RS_fr fp rs⟩⟩
      · obtain ⟨z11, g4, g5, g6⟩ := addO (c := wz l.2 = -1) (a := wz l.2) hr (by rw [g3.2]; exact v3) c5 (fun z => by
          have := la4 z
          rw [← List.append_assoc, List.length_append]
          omega)
        have t11 : z11.1 3 3 = nI (tk k1) := (g6.1 3 3 (by omega) (by omega) (by omega)).trans t5
        have c11 : CX r (cs0 ++ (d1 ++ (x1O l ++ x2O l))) z11 := by
          rw [List.append_assoc, List.append_assoc] at g5
          exact g5
        have g7 := codS_tr g3 g6
        by_cases c27 : tk k1 = 27 ∨ tk k1 = 28
        · have hlv' : lvOk (false, kp (tk k1)) := by
            rcases c27 with z | z
            · rw [z]; exact Or.inr (Or.inl rfl)
            · rw [z]; exact Or.inr (Or.inr rfl)
          have hopl : opsL (false, kp (tk k1)) = [kp (tk k1)] := by
            rcases c27 with z | z
            · rw [z]; rfl
            · rw [z]; rfl
          have hwz : wz (kp (tk k1)) = nI (tk k1) := by
            rcases c27 with z | z
            · rw [z]; rfl
            · rw [z]; rfl
          obtain ⟨s, b1, b2, b3, out⟩ := opQ (l' := (false, kp (tk k1))) (xs := opsL l) (w := restL ls) (x := x1O l ++ x2O l) hT hr hL hu1 (by omega) (c27.imp id Or.inl) (ops_mem hl) (Or.inl c29) (wOf_r l ls) (by rw [wOf_r, hopl]; rfl) ((restL_s ls).imp id Or.inl) (by rw [hOf_r l ls, hOf_r (false, kp (tk k1)) ls, hopl, List.length_singleton]; omega) (by rw [hOf_r (false, kp (tk k1)) ls, hopl, List.length_singleton]; omega) c11 (by rw [List.length_append]; exact la2) la1 g7
          have est := su_op (T := tk k1) hi4 e1 g1 g4 t5 t11 c27
          rw [b1, bn1_s] at est
          rcases out with ⟨e', τ', h4, a1, a2, ux⟩ | ⟨cs, rs⟩
          · obtain ⟨σ', p1, p2, p3⟩ := ih (i + 1) (k1 + 1) (false, kp (tk k1)) _ _ s τ' (by omega) (by omega) hlv' ux
            refine ⟨σ', ?_, fr_tr f1 (fr_tr b2 p2), ?_⟩
            · rw [lpP_inl est, nI_1, ← hwz]
              exact p1
            · rcases p3 with ⟨k', l', d', e'', τ'', y1, y2, y3, y4, y5, y6, y7⟩ | ⟨f, p, y1, y2⟩
              · exact Or.inl ⟨k', l', d', e'', τ'', by omega, y2, by rw [hp, a1, y3], fr_tr fp (fr_tr a2 y4), y5, y6, fun z => mono (b3 ▸ y7 z)⟩
              · exact Or.inr ⟨f, p, y1, by rw [hp, a1]; exact RS_fr (fr_tr fp a2) y2⟩
          · obtain ⟨σ', p1, p2, p3⟩ := su_s (i := nI i + 1) (m := 1) (w := nI (tk k1)) (t := 0) (KC_unitn (n := n) (a := nI dep)) cs
            exact ⟨σ', by rw [lpP_inl est]; exact p1, fr_tr f1 (fr_tr b2 p3), Or.inr ⟨2, _, p2, by rw [hp]; exact RS_fr fp rs⟩⟩
        · have est := su_end (T := tk k1) hi4 e1 g1 g4 t5 t11 (by omega) ⟨fun z => c27 (Or.inl z), fun z => c27 (Or.inr z), c29⟩
          have z8 : z11.1 3 8 = s4.1 3 8 := g7.1 3 8 (by omega) (by omega) (by omega)
          have z9 : z11.1 3 9 = s4.1 3 9 := g7.1 3 9 (by omega) (by omega) (by omega)
          refine ⟨z11, by rw [lpP_inl est, lpP_inr su_out], fr_tr f1 (codS_f g7), Or.inl ⟨k1, l, d1 ++ (x1O l ++ x2O l), e1', τ1, hk1, hl, hp, fp, ⟨rdC_cod hr v1 g7, v2, by rw [g7.2]; exact v3, c11, WW_eq z8 z9 rfl rfl v5, ?_, ?_, v8, v9, ?_, v11⟩, ⟨fun z => c27 (Or.inl z), fun z => c27 (Or.inr z), c29⟩, fun z => mono (z8 ▸ z)⟩⟩
          · rw [List.length_append, List.length_append, v6, la2]
          · intro z
            rw [z8] at z
            rw [List.map_append, ← la1, v7 z]
          · have hxl : (x1O l ++ x2O l).length = (x1O l).length + (x2O l).length := List.length_append
            rw [← List.append_assoc, List.length_append]
            omega
    · obtain ⟨s3, p1, p2, p3⟩ := su_s1 (w := wz l.2) (t := b01 l.1) (i := nI i) (m := 1) hi4 (by decide) e1 hcs
      exact ⟨s3, p1, fr_tr f1 p3, Or.inr ⟨f, p, p2, hrs⟩⟩
theorem sum_of (hT : TkOK N tk pl) (hr : tR r = true) (hL : L < 2) {n dep : Nat} (hd : dep ≤ 6) (hU : UNp N tk pl vl r L pc cs0 es0 (n + 1) dep) : SMp N tk pl vl r L pc cs0 es0 (n + 2) dep := by
  intro k ls d e σ τ hls hlv hu
  obtain ⟨σ', e1, f1, o1⟩ := sum_loop hT hr hL hd hU hls hlv 401 0 k (false, 0) d e σ τ (by omega) (by omega) (Or.inl rfl) hu
  refine ⟨σ', ?_, f1, o1⟩
  show bX7_sum (pSU (n + 1)).2 (nI dep) σ = some σ'
  have e1' : lpP (suF (pSU (n + 1)).2 (nI dep)) (0, 1, -1, 0, σ) = some σ' := e1
  rw [su_un, e1', bn1_s]
theorem unitC_open {g : Int32 → gS → Option gS} {dep : Nat} {σ s4 s6 : gS} (h3 : σ.1 3 3 = nI 34) (hd : dep < 6) (e0 : pX7_take σ = some s4) (e1 : g (nI (dep + 1)) s4 = some s6) : bX7_unit g (nI dep) σ = if s6.1 3 3 = 35 then bn1 (pX7_take s6) (fun s => some s) else bn1 (pX7_fail 1 s6) (fun s => some s) := by
  unfold bX7_unit
  rw [h3, lt_b, if_pos (show nI 34 = 34 from rfl), if_pos (show nI dep < 6 from nI_lt (b := 6) hd (by decide)), e0, bn1_s, nI_1, e1, bn1_s, bnS_l]
theorem unitC_open6 {g : Int32 → gS → Option gS} {σ s : gS} (h3 : σ.1 3 3 = nI 34) (e0 : pX7_fail 2 σ = some s) : bX7_unit g (nI 6) σ = some s := by
  unfold bX7_unit
  rw [h3, lt_b, if_pos (show nI 34 = 34 from rfl), if_neg (show ¬ nI 6 < 6 by decide), e0, bn1_s, bnS_r]
theorem unit_of (hT : TkOK N tk pl) (hr : tR r = true) (hL : L < 2) {n dep : Nat} (hd : dep ≤ 6) (hS : dep < 6 → SMp N tk pl vl r L pc cs0 es0 (n + 2) (dep + 1)) : UNp N tk pl vl r L pc cs0 es0 (n + 3) dep := by
  intro k l ls d e σ τ hls hl hlv hu
  have hhl := hOf_l ls l
  by_cases ht : tk k = 34
  · obtain ⟨u1, u2, u3, u4, u5, u6, u7, u8, u9, u10, u11⟩ := hu
    have hk := u1.1
    have hk4 := k_400 hT hk
    have hf2 : fpO 2 (pl k) := ⟨Or.inr rfl, (hT.2.2.2.1 k hk).2⟩
    have h33 : σ.1 3 3 = nI 34 := by rw [u1.2.2.1, ht]
    by_cases hd6 : dep < 6
    · obtain ⟨o1, o2⟩ := u_open (L := L) hT u2 hk ht (by omega)
      by_cases h4 : k < 400
      · obtain ⟨s4, p1, p2, p3⟩ := takeC1 hT u1 (by omega) h4
        obtain ⟨τ1, q1, q2, q3⟩ := o1 h4
        have hux : UX N tk pl vl r L pc cs0 es0 (k + 1) (false, 0) (l :: ls) (hOf (false, 0) (l :: ls)) d e s4 τ1 := by
          have hz : hOf (false, 0) (l :: ls) = hOf l ls := Nat.zero_add _
          refine ⟨p2, q2, (fr_3 p3 rfl).trans u3, CX_h hr p3 u4, WW_up (Nat.le_of_lt (pl_next hT p2.1)) (WW_eq (fr_1 p3 rfl) (fr_1 p3 rfl) (fr_1 q3 rfl) (fr_1 q3 rfl) u5), u6, fun z => u7 ((fr_1 p3 rfl).symm.trans z), by rw [hz]; exact u8, u9, by rw [hz]; omega, by rw [hz]; omega⟩
        obtain ⟨s6, a1, a2, a3⟩ := hS hd6 (k + 1) (l :: ls) d e s4 τ1 (by rw [List.length_cons, hls]) (fun m hm => by
          rcases List.mem_cons.mp hm with z | z
          · rw [z]; exact hl
          · exact hlv m z) hux
        have m8 : s4.1 3 8 = σ.1 3 8 := fr_1 p3 rfl
        have eU : (pSU (n + 3)).2 (nI dep) σ = if s6.1 3 3 = 35 then bn1 (pX7_take s6) (fun s => some s) else bn1 (pX7_fail 1 s6) (fun s => some s) := unitC_open h33 hd6 p1 a1
        rcases a3 with ⟨k2, l2, d2, e2, τ2, y1, y2, y3, y4, y5, y6, y7⟩ | ⟨f, p, y1, y2⟩
        · obtain ⟨v1, v2, v3, v4, v5, v6, v7, v8, v9, v10, v11⟩ := y5
          have hk2 := v1.1
          have hk24 := k_400 hT hk2
          have htk2 := (hT.2.2.2.1 k2 hk2).1
          have hf3 : ∀ f, f = 1 ∨ f = 2 → fpO f (pl k2) := fun f z => ⟨z, (hT.2.2.2.1 k2 hk2).2⟩
          have hz : hOf (false, 0) (l :: ls) = hOf l ls := Nat.zero_add _
          have hor : hOf l2 (l :: ls) = (opsL l2).length + hOf l ls := rfl
          have hoe : (opsE l2).length = (opsL l2).length := List.length_map ..
          rw [hz] at v10
          rw [hor] at v11 v8
          have fτ : fr (xH L) τ τ2 := fr_tr (xH_x q3) y4
          have hlU : lpU τ = lpC τ2 := by rw [q1, y3]
          by_cases c35 : tk k2 = 35
          · have t6 : s6.1 3 3 = 35 := by rw [v1.2.2.1, c35]; rfl
            rw [if_pos t6] at eU
            by_cases h24 : k2 < 400
            · obtain ⟨σ', b1, b2, b3⟩ := takeC1 hT v1 (by omega) h24
              obtain ⟨τ3, w1, w2, w3⟩ := c_close (L := L) hT hL y2 v2 hk2 c35 (by omega) (Nat.le_refl _) (by omega) h24
              have e8 : σ'.1 3 8 = s6.1 3 8 := fr_1 b3 rfl
              refine ⟨σ', by rw [eU, b1, bn1_s], fr_tr (hdC_s p3) (fr_tr a2 (hdC_s b3)), Or.inl ⟨k2 + 1, d2, e2 ++ opsE l2, τ3, by omega, by rw [hlU, w1], fr_tr fτ (xH_x w3), ⟨b2, by rw [← List.append_assoc]; exact w2, (fr_3 b3 rfl).trans v3, CX_h hr b3 v4, WW_up (Nat.le_of_lt (pl_next hT b2.1)) (WW_eq e8 (fr_1 b3 rfl) (fr_1 w3 rfl) (fr_1 w3 rfl) v5), by rw [List.length_append, hoe]; exact v6, fun z => v7 (e8 ▸ z), ?_, ?_, by omega, ?_⟩, fun z => m8 ▸ y7 (e8 ▸ z)⟩⟩
              · rw [hg_app e2 _ 0 _ v8]
                exact hg_xs (opsL l2) (hOf l ls)
              · intro q hq
                rcases List.mem_append.mp hq with z | z
                · exact v9 q z
                · exact ok_xs q z
              · rw [← List.append_assoc, List.length_append, hoe]
                omega
            · obtain ⟨σ', b1, b2, b3⟩ := takeC2 v1 (by omega)
              have w1 := c_close4 (L := L) hT hL y2 hl v2 hk2 c35 (by omega) (Nat.le_refl _) (by have := ops_2 l; have := ops_2 l2; omega) (by omega)
              exact ⟨σ', by rw [eU, b1, bn1_s], fr_tr (hdC_s p3) (fr_tr a2 (hdC_s b3)), Or.inr ⟨2, _, CS_h hr (hf3 2 (Or.inr rfl)) b2 v3 ⟨_, by omega, v4.1⟩ b3, by rw [hlU]; exact RS_fr fτ w1⟩⟩
          · have t6 : ¬ s6.1 3 3 = 35 := by
              rw [v1.2.2.1]
              exact nI_neT (K := 35) c35 (by omega) (by omega)
            rw [if_neg t6] at eU
            obtain ⟨σ', b1, b2, b3⟩ := failC1 (f := 1) v1
            simp only [show nI 1 = 1 from rfl] at b1
            have w1 := c_left (L := L) hT hL y2 v2 hk2 y6 c35 (by omega) (Nat.le_refl _) (by omega)
            exact ⟨σ', by rw [eU, b1, bn1_s], fr_tr (hdC_s p3) (fr_tr a2 (hdC_s b3)), Or.inr ⟨1, _, CS_h hr (hf3 1 (Or.inl rfl)) b2 v3 ⟨_, by omega, v4.1⟩ b3, by rw [hlU]; exact RS_fr fτ w1⟩⟩
        · obtain ⟨σ', b1, b2, b3⟩ := (KC_fail (a := 1)) s6 y1
          exact ⟨σ', by rw [eU, y1.2.1.1, if_neg (show ¬ (38 : Int32) = 35 by decide), b1, bn1_s], fr_tr (hdC_s p3) (fr_tr a2 b3), Or.inr ⟨f, p, b2, by rw [q1]; exact RS_fr (xH_x q3) y2⟩⟩
      · have h4 : k = 400 := by omega
        obtain ⟨s4, p1, p2, p3⟩ := takeC2 u1 h4
        have q0 : CS 2 (pl k) r s4 := CS_h hr hf2 p2 u3 ⟨_, by omega, u4.1⟩ p3
        obtain ⟨s6, a1, a2, a3⟩ := (KC_sumn (n := n) (a := nI (dep + 1))) s4 q0
        obtain ⟨σ', b1, b2, b3⟩ := (KC_fail (a := 1)) s6 a2
        have eU : (pSU (n + 3)).2 (nI dep) σ = if s6.1 3 3 = 35 then bn1 (pX7_take s6) (fun s => some s) else bn1 (pX7_fail 1 s6) (fun s => some s) := unitC_open h33 hd6 p1 a1
        exact ⟨σ', by rw [eU, a2.2.1.1, if_neg (show ¬ (38 : Int32) = 35 by decide), b1, bn1_s], fr_tr (hdC_s p3) (fr_tr a3 b3), Or.inr ⟨2, _, b2, o2 h4⟩⟩
    · have hd6 : dep = 6 := by omega
      subst hd6
      obtain ⟨σ', b1, b2, b3⟩ := failC1 (f := 2) u1
      simp only [show nI 2 = 2 from rfl] at b1
      exact ⟨σ', unitC_open6 h33 b1, hdC_s b3, Or.inr ⟨2, _, CS_h hr hf2 b2 u3 ⟨_, by omega, u4.1⟩ b3, u_open6 hT u2 hk ht hls⟩⟩
  · obtain ⟨σ', τ', e1, e2, f1, f2, out⟩ := atomQ (g := (pSU (n + 2)).1) (a := nI dep) hT hr hL hu (by omega) (by omega) ht
    refine ⟨σ', e1, f1, ?_⟩
    have hrd := hu.2.1.1
    rcases out with ⟨k', d', e', y1, y2, y3⟩ | ⟨f, p, y1, y2⟩
    · exact Or.inl ⟨k', d', e', τ', y1, lpU_a hT hrd hu.1.1 ht e2 y2.2.1.1.2.1, f2, y2, y3⟩
    · exact Or.inr ⟨f, p, y1, lpU_f hT hrd hu.1.1 ht e2 y1.1 y2 f2⟩
theorem sum_0 (hT : TkOK N tk pl) (hr : tR r = true) (hL : L < 2) : SMp N tk pl vl r L pc cs0 es0 20 0 :=
  sum_of hT hr hL (n := 18) (by decide) (unit_of hT hr hL (n := 16) (by decide) fun _ =>
  sum_of hT hr hL (n := 16) (by decide) (unit_of hT hr hL (n := 14) (by decide) fun _ =>
  sum_of hT hr hL (n := 14) (by decide) (unit_of hT hr hL (n := 12) (by decide) fun _ =>
  sum_of hT hr hL (n := 12) (by decide) (unit_of hT hr hL (n := 10) (by decide) fun _ =>
  sum_of hT hr hL (n := 10) (by decide) (unit_of hT hr hL (n := 8) (by decide) fun _ =>
  sum_of hT hr hL (n := 8) (by decide) (unit_of hT hr hL (n := 6) (by decide) fun _ =>
  sum_of hT hr hL (n := 6) (by decide) (unit_of hT hr hL (n := 4) (by decide) fun h => absurd h (by decide))))))))
end SUMQ2
