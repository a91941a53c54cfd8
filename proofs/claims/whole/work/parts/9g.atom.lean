/-! read: a number, a VAR: both sides -/
def WW (q : Nat) (σ τ : gS) : Prop := (σ.1 3 8 = 0 ∧ σ.1 3 9 = -1 ∧ τ.1 0 15 = 0) ∨ ∃ w p, 3 ≤ w ∧ w ≤ 5 ∧ p < q ∧ p ≤ 2000 ∧ σ.1 3 8 = nI w ∧ σ.1 3 9 = nI p ∧ τ.1 0 15 = nI w ∧ τ.1 0 16 = nI p
theorem WW_up {q q' : Nat} {σ τ : gS} (h : q ≤ q') (hw : WW q σ τ) : WW q' σ τ := by
  rcases hw with z | ⟨w, p, h1, h2, h3, h4⟩
  · exact Or.inl z
  · exact Or.inr ⟨w, p, h1, h2, by omega, h4⟩
theorem WW_eq {q : Nat} {σ τ σ' τ' : gS} (a8 : σ'.1 3 8 = σ.1 3 8) (a9 : σ'.1 3 9 = σ.1 3 9) (b5 : τ'.1 0 15 = τ.1 0 15) (b6 : τ'.1 0 16 = τ.1 0 16) (hw : WW q σ τ) : WW q σ' τ' := by
  unfold WW
  rw [a8, a9, b5, b6]
  exact hw
def UX (N : Nat) (tk pl : Nat → Nat) (vl : Nat → Int64) (r L pc : Nat) (cs0 : List (Int32 × Int32)) (es0 : List cEl) (k : Nat) (l : Bool × Nat) (ls : List (Bool × Nat)) (h : Nat) (d : List (Int32 × Int32)) (e : List cEl) (σ τ : gS) : Prop := rdC N tk pl vl k σ ∧ XR N tk pl vl (420 * L) k l ls (es0 ++ e) τ ∧ σ.2.2 3 1 = r ∧ CX r (cs0 ++ d) σ ∧ WW (pl k) σ τ ∧ d.length = e.length ∧ (σ.1 3 8 = 0 → d = e.map cm1) ∧ hgE e 0 18 = some h ∧ (∀ q ∈ e, okE q) ∧ (cs0 ++ d).length + pc + hOf l ls ≤ k ∧ (es0 ++ e).length + hOf l ls ≤ k
theorem rdC_cod {N : Nat} {tk pl : Nat → Nat} {vl : Nat → Int64} {r k : Nat} {σ τ : gS} (hr : tR r = true) (h : rdC N tk pl vl k σ) (hc : codS r σ τ) : rdC N tk pl vl k τ := by
  obtain ⟨h0, h1, h2, h3, h5, h6, h7⟩ := h
  have h9 := tR_9 hr
  have g : ∀ o j, o < 9 → τ.1 o j = σ.1 o j := fun o j ho => hc.1 o j (by omega) (by omega) (by omega)
  refine ⟨h0, (g 3 _ (by decide)).trans h1, (g 3 _ (by decide)).trans h2, by rw [hc.2]; exact h3, (g 3 _ (by decide)).trans h5, (g 3 _ (by decide)).trans h6, fun i hi => ?_⟩
  obtain ⟨a1, a2, a3⟩ := h7 i hi
  exact ⟨(g 5 _ (by decide)).trans a1, (g 6 _ (by decide)).trans a2, by rw [hc.2]; exact a3⟩
section ATOM
variable {N : Nat} {tk pl : Nat → Nat} {vl : Nat → Int64} {r L pc : Nat} {cs0 : List (Int32 × Int32)} {es0 : List cEl}
theorem hg_1 {e : List cEl} {q : cEl} {h : Nat} (he : hgE e 0 18 = some h) (hq : q.1 < 2) (hh : h < 18) : hgE (e ++ [q]) 0 18 = some (h + 1) := by
  rw [hg_app e [q] 0 h he, hgE_c, if_pos hq, if_pos hh]
  rfl
theorem pl_next (hT : TkOK N tk pl) {k : Nat} (h : k + 1 < N) : pl k < pl (k + 1) := (hT.2.2.1 k h).2
/-- both put out one, and go on -/
theorem atom_core (hT : TkOK N tk pl) (hr : tR r = true) (hL : L < 2) {k h : Nat} {l : Bool × Nat} {ls : List (Bool × Nat)} {d : List (Int32 × Int32)} {e : List cEl} {q : cEl} {a v : Int32} {σ τ : gS} (ht : tk k ≤ 35) (hls : ls.length ≤ 6) (u1 : rdC N tk pl vl k σ) (u2 : XR N tk pl vl (420 * L) k l ls (es0 ++ e) τ) (u3 : σ.2.2 3 1 = r) (u4 : CX r (cs0 ++ d) σ) (u5 : WW (pl k + 1) σ τ) (u6 : d.length = e.length) (u7 : σ.1 3 8 = 0 → d = e.map cm1 ∧ (a, v) = cm1 q) (u8 : hgE e 0 18 = some h) (hh : h < 18) (u9 : ∀ q ∈ e, okE q) (q1 : q.1 < 2) (q2 : okE q) (u10 : (cs0 ++ d).length + pc + hOf l ls ≤ k) (u11 : (es0 ++ e).length + hOf l ls ≤ k) : ∃ s σ' t τ', pX9_addStep r a v σ = some s ∧ s.1 3 3 = nI (tk k) ∧ pX7_take s = some σ' ∧ fr (sumF r) σ σ' ∧ pX11_emit (nI q.1) q.2 τ = some t ∧ rdR N tk pl vl k t ∧ pX11_goesOn t = some τ' ∧ fr (xF L) τ τ' ∧ σ'.1 3 8 = σ.1 3 8 ∧ ((k < 400 ∧ UX N tk pl vl r L pc cs0 es0 (k + 1) l ls (h + 1) (d ++ [(a, v)]) (e ++ [q]) σ' τ') ∨ (k = 400 ∧ CS 2 (pl k) r σ' ∧ spR N tk pl vl 2 (pl k) τ')) := by
  have h9 := tR_9 hr
  have hk := u1.1
  have hk4 := k_400 hT hk
  have hf : fpO 2 (pl k) := ⟨Or.inr rfl, (hT.2.2.2.1 k hk).2⟩
  obtain ⟨x1, x2, x3⟩ := u2
  obtain ⟨t, e1, y1, y2, y3, y4⟩ := emitR (k := q.1) (v := q.2) hL x3 (Nat.le_refl _) (by omega)
  have dt : rdR N tk pl vl k t := rdR_same x1 (fun o j z1 z2 z3 _ => y3 o j z1 z2 z3) y4
  have o12 : t.1 0 12 = nI ls.length := (y3 0 12 (by decide) (by decide) (by decide)).trans x2
  have w5 : t.1 0 15 = τ.1 0 15 := y3 0 15 (by decide) (by decide) (by decide)
  have w6 : t.1 0 16 = τ.1 0 16 := y3 0 16 (by decide) (by decide) (by decide)
  by_cases h4 : k < 400
  · obtain ⟨s, a1, a2, a3⟩ := addSC (a := a) (v := v) hr u4 (by omega)
    have ds := rdC_cod hr u1 a3
    obtain ⟨σ', b1, b2, b3⟩ := takeC1 hT ds ht h4
    obtain ⟨τ', c1, c2, c3⟩ := goesR1 dt h4
    have e8 : σ'.1 3 8 = σ.1 3 8 := (fr_1 b3 rfl).trans (a3.1 3 8 (by omega) (by omega) (by omega))
    have e9 : σ'.1 3 9 = σ.1 3 9 := (fr_1 b3 rfl).trans (a3.1 3 9 (by omega) (by omega) (by omega))
    refine ⟨s, σ', t, τ', a1, ds.2.2.1, b1, fr_tr (codS_f a3) (hdC_s b3), e1, dt, c1, fr_tr y2 (hdR_x c3), e8, Or.inl ⟨h4, b2, ⟨c2, (fr_1 c3 rfl).trans o12, ?_⟩, (fr_3 b3 rfl).trans (by rw [a3.2]; exact u3), ?_, ?_, ?_, ?_, hg_1 u8 q1 hh, ?_, ?_, ?_⟩⟩
    · rw [← List.append_assoc]
      exact WX_h c3 y1
    · rw [← List.append_assoc]
      exact CX_h hr b3 a2
    · exact WW_up (pl_next hT b2.1) (WW_eq e8 e9 ((fr_1 c3 rfl).trans w5) ((fr_1 c3 rfl).trans w6) u5)
    · rw [List.length_append, List.length_append, u6]; rfl
    · intro z
      rw [e8] at z
      rw [(u7 z).1, (u7 z).2, List.map_append]
      rfl
    · intro x hx
      rcases List.mem_append.mp hx with z | z
      · exact u9 x z
      · rw [List.mem_singleton.mp z]; exact q2
    · rw [← List.append_assoc, List.length_append]
      simp only [List.length_cons, List.length_nil]
      omega
    · rw [← List.append_assoc, List.length_append]
      simp only [List.length_cons, List.length_nil]
      omega
  · have h4 : k = 400 := by omega
    obtain ⟨s, a1, a2, a3⟩ := addSC_z (a := a) (v := v) hr u4.1 (by omega)
    have ds := rdC_cod hr u1 a3
    obtain ⟨σ', b1, b2, b3⟩ := takeC2 ds h4
    obtain ⟨τ', c1, c2, c3⟩ := goesR2 dt hk hT h4
    have e8 : σ'.1 3 8 = σ.1 3 8 := (fr_1 b3 rfl).trans (a3.1 3 8 (by omega) (by omega) (by omega))
    exact ⟨s, σ', t, τ', a1, ds.2.2.1, b1, fr_tr (codS_f a3) (hdC_s b3), e1, dt, c1, fr_tr y2 (hdR_x c3), e8, Or.inr ⟨h4, CS_h hr hf b2 (by rw [a3.2]; exact u3) a2 b3, c2⟩⟩
theorem v_1 : ∀ T, T ≤ 22 → 10 ≤ T → T ≤ 13 → ((0 : Int32) + nI T) - (10 : Int32) = nI (piV (T - 2)) := by decide +kernel
theorem v_2 : ∀ T, T ≤ 22 → 14 ≤ T → ((12 : Int32) + nI T) - (14 : Int32) = nI (piV (T - 2)) := by decide +kernel
theorem v_3 : ∀ T, T ≤ 22 → 10 ≤ T → T ≤ 15 → ((8 : Int32) + nI (kp T)) - (37 : Int32) = nI (T - 2) ∧ ¬ nI (kp T) < (37 : Int32) ∧ ¬ (42 : Int32) < nI (kp T) := by decide +kernel
theorem v_4 : ∀ T, T ≤ 22 → 16 ≤ T → ((14 : Int32) + nI (kp T)) - (26 : Int32) = nI (T - 2) ∧ nI (kp T) < (37 : Int32) ∧ ¬ nI (kp T) < (26 : Int32) ∧ ¬ (32 : Int32) < nI (kp T) := by decide +kernel
theorem v_5a : ∀ T, T ≤ 37 → T = 24 ∨ T = 9 ∨ (10 ≤ T ∧ T ≤ 22) ∨ ((nI (kp T) < (37 : Int32) ∨ (42 : Int32) < nI (kp T)) ∧ (nI (kp T) < (26 : Int32) ∨ (32 : Int32) < nI (kp T))) := by decide +kernel
theorem v_5 (T : Nat) (h : T ≤ 37) (n1 : T ≠ 24) (n2 : T ≠ 9) (n3 : ¬ (10 ≤ T ∧ T ≤ 22)) : (nI (kp T) < (37 : Int32) ∨ (42 : Int32) < nI (kp T)) ∧ (nI (kp T) < (26 : Int32) ∨ (32 : Int32) < nI (kp T)) := by
  rcases v_5a T h with z | z | z | z
  · exact absurd z n1
  · exact absurd z n2
  · exact absurd z n3
  · exact z
theorem nI_neT {T K : Nat} (h : T ≠ K) (hT : T ≤ 100) (hK : K ≤ 100) : ¬ nI T = nI K := fun z => h ((nI_eq (by omega) (by omega)).mp z)
theorem unitC_var {T : Nat} {g : Int32 → gS → Option gS} {a : Int32} {σ s σ' : gS} (hr : tR r = true) (h1 : 10 ≤ T) (h2 : T ≤ 22) (h3 : σ.1 3 3 = nI T) (hd : σ.2.2 3 1 = r) (e1 : pX9_addStep r 9 (nI (piV (T - 2))) σ = some s) (e2 : s.1 3 3 = nI T) (e3 : pX7_take s = some σ') : bX7_unit g a σ = some σ' := by
  have n34 : ¬ nI T = (34 : Int32) := nI_neT (K := 34) (by omega) (by omega) (by omega)
  have n9 : ¬ nI T = (9 : Int32) := nI_neT (K := 9) (by omega) (by omega) (by omega)
  have n24 : ¬ nI T = (24 : Int32) := nI_neT (K := 24) (by omega) (by omega) (by omega)
  have i1 : pX10_inRange (nI T) (10 : Int32) (13 : Int32) = some (b01 (decide (10 ≤ T ∧ T ≤ 13))) := inb_c (lo := 10) (hi := 13) (by omega) (by decide) (by decide)
  have i2 : pX10_inRange (nI T) (14 : Int32) (22 : Int32) = some (b01 (decide (14 ≤ T ∧ T ≤ 22))) := inb_c (lo := 14) (hi := 22) (by omega) (by decide) (by decide)
  unfold bX7_unit
  rw [h3, lt_b, if_neg n34, if_neg n9, if_neg n24, i1, bn1_s]
  by_cases hc : T ≤ 13
  · rw [decide_eq_true ⟨h1, hc⟩, if_b1, hd, gT_p hr, v_1 T h2 h1 hc, e1, bn1_s, bnS_l]
    dsimp only
    rw [e2, if_pos rfl, e3, bn1_s]
  · rw [decide_eq_false (fun z => hc z.2), if_b0, i2, bn1_s, decide_eq_true ⟨by omega, h2⟩, if_b1, hd, gT_p hr, v_2 T h2 (by omega), e1, bn1_s, bnS_l]
    dsimp only
    rw [e2, if_pos rfl, e3, bn1_s]
theorem unitC_int {g : Int32 → gS → Option gS} {a : Int32} {σ s σ' : gS} (hr : tR r = true) (h3 : σ.1 3 3 = nI 24) (hd : σ.2.2 3 1 = r) (e1 : pX9_addStep r 24 (σ.2.1 3 4).toInt32 σ = some s) (e2 : s.1 3 3 = nI 24) (e3 : pX7_take s = some σ') : bX7_unit g a σ = some σ' := by
  unfold bX7_unit
  rw [h3, lt_b, if_neg (show ¬ nI 24 = 34 by decide), if_neg (show ¬ nI 24 = 9 by decide), if_pos (show nI 24 = 24 from rfl), hd, gT_p hr, e1, bn1_s, bnS_l]
  dsimp only
  rw [e2, if_pos rfl, e3, bn1_s]
theorem unitR_var (hT : TkOK N tk pl) {k T : Nat} {τ s s' : gS} (h : rdR N tk pl vl k τ) (hk : k < N) (ht : tk k = T) (h1 : 10 ≤ T) (h2 : T ≤ 22) (e1 : pX11_emit 1 (nI (T - 2)) τ = some s) (e2 : pX11_goesOn s = some s') : pX11_unit τ = some s' := by
  have hk4 := k_400 hT hk
  have i1 : pX11_is (2 : Int32) τ = some (b01 (decide (tk k = 24))) := isR (K := 24) hT h hk (by decide)
  have i2 : pX11_is (36 : Int32) τ = some (b01 (decide (tk k = 9))) := isR (K := 9) hT h hk (by decide)
  have c3 := (h.2.2 k hk).1
  rw [ht] at c3
  unfold pX11_unit
  rw [i1, bn1_s, decide_eq_false (by omega), if_b0, i2, bn1_s, decide_eq_false (by omega), if_b0, h.2.1, if_00, h.1, gx_i (by omega) (by decide), nI_clamp (by omega), c3]
  by_cases hc : T ≤ 15
  · obtain ⟨a1, a2, a3⟩ := v_3 T h2 h1 hc
    rw [if_neg a2, gx_i (by omega) (by decide), if_neg a3, gx_i (by omega) (by decide), a1, e1, bn1_s, e2, bn1_s, bnS_r]
  · obtain ⟨a1, a2, a3, a4⟩ := v_4 T h2 (by omega)
    rw [if_pos a2, bnS_l, h.2.1, if_00, h.1, gx_i (by omega) (by decide), nI_clamp (by omega), c3, if_neg a3, gx_i (by omega) (by decide), if_neg a4, gx_i (by omega) (by decide), a1, e1, bn1_s, e2, bn1_s, bnS_r]
theorem unitR_bad (hT : TkOK N tk pl) {k : Nat} {τ s : gS} (h : rdR N tk pl vl k τ) (hk : k < N) (n1 : tk k ≠ 24) (n2 : tk k ≠ 9) (n3 : ¬ (10 ≤ tk k ∧ tk k ≤ 22)) (e1 : pX11_fail 1 τ = some s) : pX11_unit τ = some s := by
  have hk4 := k_400 hT hk
  have i1 : pX11_is (2 : Int32) τ = some (b01 (decide (tk k = 24))) := isR (K := 24) hT h hk (by decide)
  have i2 : pX11_is (36 : Int32) τ = some (b01 (decide (tk k = 9))) := isR (K := 9) hT h hk (by decide)
  have c3 := (h.2.2 k hk).1
  obtain ⟨a1, a2⟩ := v_5 (tk k) (hT.2.2.2.1 k hk).1 n1 n2 n3
  have z1 : ∀ x : Option (gS ⊕ gS), (if nI (kp (tk k)) < (37 : Int32) then (some (.inl τ) : Option (gS ⊕ gS)) else gx (nI k) 403 (if (42 : Int32) < nI (kp (tk k)) then some (.inl τ) else x)) = some (.inl τ) := fun x => by
    by_cases z : nI (kp (tk k)) < (37 : Int32)
    · rw [if_pos z]
    · rw [if_neg z, gx_i (by omega) (by decide), if_pos (a1.resolve_left z)]
  have z2 : ∀ x : Option (gS ⊕ gS), (if nI (kp (tk k)) < (26 : Int32) then (some (.inl τ) : Option (gS ⊕ gS)) else gx (nI k) 403 (if (32 : Int32) < nI (kp (tk k)) then some (.inl τ) else x)) = some (.inl τ) := fun x => by
    by_cases z : nI (kp (tk k)) < (26 : Int32)
    · rw [if_pos z]
    · rw [if_neg z, gx_i (by omega) (by decide), if_pos (a2.resolve_left z)]
  unfold pX11_unit
  rw [i1, bn1_s, decide_eq_false n1, if_b0, i2, bn1_s, decide_eq_false n2, if_b0, h.2.1, if_00, h.1, gx_i (by omega) (by decide), nI_clamp (by omega), c3, z1, bnS_l, h.2.1, if_00, h.1, gx_i (by omega) (by decide), nI_clamp (by omega), c3, z2, bnS_l, e1, bn1_s]
theorem unitC_bad {T : Nat} {g : Int32 → gS → Option gS} {a : Int32} {σ s : gS} (h3 : σ.1 3 3 = nI T) (hT : T ≤ 37) (n0 : T ≠ 34) (n1 : T ≠ 24) (n2 : T ≠ 9) (n3 : ¬ (10 ≤ T ∧ T ≤ 22)) (e1 : pX7_fail 1 σ = some s) : bX7_unit g a σ = some s := by
  have n34 : ¬ nI T = (34 : Int32) := nI_neT (K := 34) (by omega) (by omega) (by omega)
  have n9 : ¬ nI T = (9 : Int32) := nI_neT (K := 9) (by omega) (by omega) (by omega)
  have n24 : ¬ nI T = (24 : Int32) := nI_neT (K := 24) (by omega) (by omega) (by omega)
  have i1 : pX10_inRange (nI T) (10 : Int32) (13 : Int32) = some (b01 (decide (10 ≤ T ∧ T ≤ 13))) := inb_c (lo := 10) (hi := 13) (by omega) (by decide) (by decide)
  have i2 : pX10_inRange (nI T) (14 : Int32) (22 : Int32) = some (b01 (decide (14 ≤ T ∧ T ≤ 22))) := inb_c (lo := 14) (hi := 22) (by omega) (by decide) (by decide)
  unfold bX7_unit
  rw [h3, lt_b, if_neg n34, if_neg n9, if_neg n24, i1, bn1_s, decide_eq_false (by omega), if_b0, i2, bn1_s, decide_eq_false (by omega), if_b0, bnS_l]
  dsimp only
  rw [h3, if_neg (ne_m1 (by omega)), e1, bn1_s]
end ATOM
