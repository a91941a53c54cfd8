/-! read: a literal, both sides -/
def GO (N : Nat) (tk pl : Nat → Nat) (vl : Nat → Int64) (r L pc k : Nat) (cs : List (Int32 × Int32)) (es : List cEl) (σ τ : gS) : Prop := rdC N tk pl vl k σ ∧ rdR N tk pl vl k τ ∧ σ.2.2 3 1 = r ∧ CX r cs σ ∧ (τ.1 0 44 = nI (420 * L + es.length) ∧ cdR τ (420 * L) es) ∧ τ.1 0 12 = 0 ∧ WW (pl k) σ τ ∧ cs.length + pc ≤ k ∧ es.length ≤ k
def SS (N : Nat) (tk pl : Nat → Nat) (vl : Nat → Int64) (r : Nat) (σ τ : gS) : Prop := ∃ f p, CS f p r σ ∧ spR N tk pl vl f p τ
section LITQ
variable {N : Nat} {tk pl : Nat → Nat} {vl : Nat → Int64} {r L pc : Nat}
theorem exp_go {τ : gS} (h13 : τ.1 0 13 = 0) (h12 : τ.1 0 12 = 0) : pX11_expression τ = bnS (lpU (wI τ 0 48 0)) (fun z => some z) := by
  have e1 : (wI τ 0 48 0).1 0 12 = 0 := by rw [wI_1, if_neg (by omega), h12]
  have e2 : (wI τ 0 48 0).1 0 13 = 0 := by rw [wI_1, if_neg (by omega), h13]
  rw [ex_un, e1, lpU_1 e2]
theorem exp_stop {f p : Nat} {τ : gS} (hf : fpO f p) (h : spR N tk pl vl f p τ) : ∃ τ', pX11_expression τ = some τ' ∧ spR N tk pl vl f p τ' ∧ fr (xH L) τ τ' := by
  have s0 : spR N tk pl vl f p (wI τ 0 48 0) := spR_w h ⟨by omega, by decide, by decide, by decide⟩
  have n0 : ¬ nI f = 0 := nI_ne0 (by have := hf.1; omega) (by have := hf.1; omega)
  refine ⟨wI τ 0 48 0, ?_, s0, xH_x (fr_wI rfl)⟩
  rw [ex_un, lpP_inr (r := .inl (wI τ 0 48 0)), bnS_l]
  unfold exF
  dsimp only
  rw [if_10, s0.1, if_neg n0]
theorem sumQ (hT : TkOK N tk pl) (hr : tR r = true) (hL : L < 2) {k : Nat} {cs : List (Int32 × Int32)} {es : List cEl} {σ τ : gS} (h : GO N tk pl vl r L pc k cs es σ τ) : ∃ σ' τ', pX7_sum 0 σ = some σ' ∧ pX11_expression τ = some τ' ∧ fr (sumF r) σ σ' ∧ fr (xH L) τ τ' ∧ ((∃ k' d e, k < k' ∧ GO N tk pl vl r L pc k' (cs ++ d) (es ++ e) σ' τ' ∧ wfE e ∧ (σ'.1 3 8 = 0 → σ.1 3 8 = 0 ∧ d = e.map cm1)) ∨ SS N tk pl vl r σ' τ') := by
  obtain ⟨h1, h2, h3, h4, ⟨h5, h6⟩, h7, h8, h9, h10⟩ := h
  have hk4 := k_400 hT h1.1
  have f0 : fr (xH L) τ (wI τ 0 48 0) := xH_x (fr_wI rfl)
  have hux : UX N tk pl vl r L pc cs es k (false, 0) [] (hOf (false, 0) []) [] [] σ (wI τ 0 48 0) := by
    refine ⟨h1, ⟨rdR_w h2 ⟨by omega, by decide, by decide, by decide⟩, ?_, ⟨wI_s, trivial, ?_, ?_⟩⟩, h3, by rw [List.append_nil]; exact h4, WW_eq rfl rfl ?_ ?_ h8, rfl, fun _ => rfl, rfl, fun q hq => absurd hq (by simp), by rw [List.append_nil]; exact h9, by rw [List.append_nil]; exact h10⟩
    · rw [wI_1, if_neg (by omega), h7]; rfl
    · rw [wI_1, if_neg (by omega), h5, List.append_nil]
    · rw [List.append_nil]; exact cdR_wO h6 (Or.inl ⟨by decide, by decide⟩)
    · rw [wI_1, if_neg (by omega)]
    · rw [wI_1, if_neg (by omega)]
  obtain ⟨σ', a1, a2, a3⟩ := sum_0 hT hr hL k [] [] [] σ (wI τ 0 48 0) rfl (fun m hm => absurd hm (by simp)) hux
  have eE := exp_go h2.2.1 h7
  rcases a3 with ⟨k', l', d', e', τ1, y1, y2, y3, y4, y5, y6, y7⟩ | ⟨f, p, y1, rr, τ', y2, y3, y4, y5⟩
  · obtain ⟨v1, v2, v3, v4, v5, v6, v7, v8, v9, v10, v11⟩ := y5
    have hk14 := k_400 hT v1.1
    have hor : hOf l' [] = (opsL l').length := rfl
    rw [hor] at v8 v11
    obtain ⟨τ', b1, b2, b3, b4, b5⟩ := c_end (L := L) hT hL y2 v2 v1.1 y6 (Nat.le_refl _) (by omega)
    have hoe : (opsE l').length = (opsL l').length := List.length_map ..
    refine ⟨σ', τ', a1, by rw [eE, y3, b1, bnS_r], a2, fr_tr f0 (fr_tr y4 (xH_x b5)), Or.inl ⟨k', d', e' ++ opsE l', y1, ⟨v1, b2, v3, v4, ⟨?_, ?_⟩, b3, WW_eq rfl rfl (fr_1 b5 rfl) (fr_1 b5 rfl) v5, v10, ?_⟩, ⟨?_, ?_⟩, fun z => ⟨y7 z, v7 z⟩⟩⟩
    · rw [← List.append_assoc]; exact b4.2.2.1
    · rw [← List.append_assoc]; exact b4.2.2.2
    · rw [← List.append_assoc, List.length_append, hoe]; exact v11
    · rw [hg_app e' _ 0 _ v8]
      exact hg_xs (opsL l') 0
    · intro q hq
      rcases List.mem_append.mp hq with z | z
      · exact v9 q z
      · exact ok_xs q z
  · exact ⟨σ', τ', a1, by rw [eE, y2]; exact y3, a2, fr_tr f0 y5, Or.inr ⟨f, p, y1, y4⟩⟩
/-- both take a token -/
theorem goQ (hT : TkOK N tk pl) (hr : tR r = true) {k pc' : Nat} {cs : List (Int32 × Int32)} {es : List cEl} {σ τ : gS} (h : GO N tk pl vl r L pc k cs es σ τ) (ht : tk k ≤ 35) (hp : pc' ≤ pc + 1) : ∃ σ' τ', pX7_take σ = some σ' ∧ pX11_goesOn τ = some τ' ∧ fr hdC σ σ' ∧ fr hdR τ τ' ∧ ((k < 400 ∧ GO N tk pl vl r L pc' (k + 1) cs es σ' τ' ∧ σ'.1 3 8 = σ.1 3 8) ∨ SS N tk pl vl r σ' τ') := by
  obtain ⟨h1, h2, h3, h4, ⟨h5, h6⟩, h7, h8, h9, h10⟩ := h
  have hk4 := k_400 hT h1.1
  by_cases hk : k < 400
  · obtain ⟨σ', e1, r1, f1⟩ := takeC1 hT h1 ht hk
    obtain ⟨τ', e2, r2, f2⟩ := goesR1 h2 hk
    refine ⟨σ', τ', e1, e2, f1, f2, Or.inl ⟨hk, ⟨r1, r2, (fr_3 f1 rfl).trans h3, CX_h hr f1 h4, ⟨(fr_1 f2 rfl).trans h5, fun i q e => ⟨(fr_1 f2 rfl).trans (h6 i q e).1, (fr_1 f2 rfl).trans (h6 i q e).2⟩⟩, (fr_1 f2 rfl).trans h7, WW_up (Nat.le_of_lt (pl_next hT r1.1)) (WW_eq (fr_1 f1 rfl) (fr_1 f1 rfl) (fr_1 f2 rfl) (fr_1 f2 rfl) h8), by omega, by omega⟩, fr_1 f1 rfl⟩⟩
  · obtain ⟨σ', e1, r1, f1⟩ := takeC2 h1 (by omega)
    obtain ⟨τ', e2, r2, f2⟩ := goesR2 h2 h1.1 hT (by omega)
    exact ⟨σ', τ', e1, e2, f1, f2, Or.inr ⟨2, _, CS_h hr ⟨Or.inr rfl, (hT.2.2.2.1 k h1.1).2⟩ r1 h3 ⟨_, by omega, h4.1⟩ f1, r2⟩⟩
theorem failGO (hT : TkOK N tk pl) (hr : tR r = true) {k f : Nat} {cs : List (Int32 × Int32)} {es : List cEl} {σ τ : gS} (hf : f = 1 ∨ f = 2) (h : GO N tk pl vl r L pc k cs es σ τ) : ∃ σ' τ', pX7_fail (nI f) σ = some σ' ∧ pX11_fail (nI f) τ = some τ' ∧ fr hdC σ σ' ∧ fr hdR τ τ' ∧ SS N tk pl vl r σ' τ' := by
  have hk4 := k_400 hT h.1.1
  obtain ⟨σ', τ', e1, e2, f1, f2, f, p, hf, s1, s2⟩ := failQ (f := f) hT hf h.1 h.2.1
  exact ⟨σ', τ', e1, e2, f1, f2, f, p, CS_h hr hf s1 h.2.2.1 ⟨_, by have := h.2.2.2.2.2.2.2.1; omega, h.2.2.2.1.1⟩ f1, s2⟩
noncomputable def nC : Int32 × Int32 × gS → Option ((Int32 × Int32 × gS) ⊕ (Int32 × gS)) := fun (z2 : (Int32 × Int32 × gS)) => if (400 : Int32) < z2.1 then some (.inr (z2.2.1, z2.2.2)) else if (z2.2.2.1 3 3) = (8 : Int32) then bn1 (if z2.2.1 = 0 then some (1 : Int32) else some (0 : Int32)) (fun (z3 : Int32) => bn1 (pX7_take z2.2.2) (fun s5 => lt' (z2.1 + (1 : Int32)) (fun x6 => some (.inl (x6, z3, s5))))) else some (.inr (z2.2.1, z2.2.2))
noncomputable def nR : Int32 × gS → Option ((Int32 × gS) ⊕ (Int32 × gS)) := fun (z2 : (Int32 × gS)) => bn1 (pX11_is (35 : Int32) z2.2) (fun v3 => if v3 = 0 then some (.inr (z2.1, z2.2)) else bn1 (if z2.1 = 0 then some (1 : Int32) else some (0 : Int32)) (fun (z5 : Int32) => bn1 (pX11_goesOn z2.2) (fun s7 => some (.inl (z5, s7)))))
theorem nC_out {i v : Int32} {σ : gS} (h : ¬ σ.1 3 3 = 8) : nC (i, v, σ) = some (.inr (v, σ)) := by
  unfold nC
  dsimp only
  rw [if_neg h]
  split <;> rfl
theorem flip_b {b : Bool} : (if b01 b = 0 then some (1 : Int32) else some (0 : Int32)) = some (b01 (!b)) := by cases b <;> rfl
theorem notQ (hT : TkOK N tk pl) (hr : tR r = true) {cs : List (Int32 × Int32)} {es : List cEl} : ∀ (m i k : Nat) (b : Bool) (σ τ : gS), 401 - k ≤ m → i ≤ k → GO N tk pl vl r L (pc + bN b) k cs es σ τ → ∃ b' σ' τ', lpP nC (nI i, b01 b, σ) = some (b01 b', σ') ∧ lpP nR (b01 b, τ) = some (b01 b', τ') ∧ fr hdC σ σ' ∧ fr hdR τ τ' ∧ ((∃ k', k ≤ k' ∧ GO N tk pl vl r L (pc + bN b') k' cs es σ' τ' ∧ σ'.1 3 8 = σ.1 3 8) ∨ SS N tk pl vl r σ' τ') := by
  intro m
  induction m with
  | zero =>
    intro i k b σ τ hm hi h
    have := k_400 hT h.1.1
    omega
  | succ m ih =>
    intro i k b σ τ hm hi h
    have hk4 := k_400 hT h.1.1
    have i8 : pX11_is (35 : Int32) τ = some (b01 (decide (tk k = 8))) := isR (K := 8) hT h.2.1 h.1.1 (by decide)
    by_cases c8 : tk k = 8
    · obtain ⟨σ1, τ1, e1, e2, f1, f2, out⟩ := goQ (pc' := pc + bN (!b)) hT hr h (by omega) (by cases b <;> simp [bN] <;> omega)
      have s1 : nC (nI i, b01 b, σ) = some (.inl (nI (i + 1), b01 (!b), σ1)) := by
        unfold nC
        dsimp only
        rw [if_neg (show ¬ (400 : Int32) < nI i from nI_nlt (b := i) (a := 400) (by omega) (by decide)), if_pos (by rw [h.1.2.2.1, c8]; rfl), flip_b, bn1_s, e1, bn1_s, lt_b, nI_1]
      have s2 : nR (b01 b, τ) = some (.inl (b01 (!b), τ1)) := by
        unfold nR
        dsimp only
        rw [i8, bn1_s, decide_eq_true c8, if_b1, flip_b, bn1_s, e2, bn1_s]
      rcases out with ⟨o1, o2, o3⟩ | ⟨f, p, o1, o2⟩
      · obtain ⟨b', σ', τ', p1, p2, p3, p4, p5⟩ := ih (i + 1) (k + 1) (!b) σ1 τ1 (by omega) (by omega) o2
        refine ⟨b', σ', τ', by rw [lpP_inl s1, p1], by rw [lpP_inl s2, p2], fr_tr f1 p3, fr_tr f2 p4, ?_⟩
        rcases p5 with ⟨k', q1, q2, q3⟩ | q
        · exact Or.inl ⟨k', by omega, q2, q3.trans o3⟩
        · exact Or.inr q
      · refine ⟨!b, σ1, τ1, by rw [lpP_inl s1, lpP_inr (nC_out (by rw [o1.2.1.1]; decide))], ?_, f1, f2, Or.inr ⟨f, p, o1, o2⟩⟩
        rw [lpP_inl s2]
        refine lpP_inr ?_
        unfold nR
        dsimp only
        rw [isR_s o1.1 o2, bn1_s, if_00]
    · refine ⟨b, σ, τ, lpP_inr (nC_out ?_), lpP_inr ?_, fr_rf, fr_rf, Or.inl ⟨k, Nat.le_refl _, h, rfl⟩⟩
      · rw [h.1.2.2.1]
        exact nI_neT (K := 8) c8 (by have := (hT.2.2.2.1 k h.1.1).1; omega) (by omega)
      · unfold nR
        dsimp only
        rw [i8, bn1_s, decide_eq_false c8, if_b0]
end LITQ
