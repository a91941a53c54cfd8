/-! read: the reference's sum: its end -/
section EXR4
variable {N : Nat} {tk pl : Nat → Nat} {vl : Nat → Int64}
theorem spR_same {f p : Nat} {σ τ : gS} (h : spR N tk pl vl f p σ) (h1 : ∀ o j, o ≠ 30 → o ≠ 31 → ¬ (o = 0 ∧ j = 44) → ¬ (o = 0 ∧ j = 48) → τ.1 o j = σ.1 o j) (h2 : τ.2 = σ.2) : spR N tk pl vl f p τ := by
  obtain ⟨a1, a2, ⟨t, t1, t2⟩, a3⟩ := h
  refine ⟨(h1 0 13 (by decide) (by decide) (by decide) (by decide)).trans a1, (h1 0 14 (by decide) (by decide) (by decide) (by decide)).trans a2, ⟨t, t1, (h1 0 11 (by decide) (by decide) (by decide) (by decide)).trans t2⟩, fun i hi => ?_⟩
  obtain ⟨b1, b2, b3, b4⟩ := a3 i hi
  have g : ∀ o, o ≠ 0 → o ≠ 30 → o ≠ 31 → τ.1 o i = σ.1 o i := fun o q0 q1 q2 => h1 o i q1 q2 (fun z => q0 z.1) (fun z => q0 z.1)
  refine ⟨(g 3 (by decide) (by decide) (by decide)).trans b1, (g 4 (by decide) (by decide) (by decide)).trans b2, fun q => ?_, fun q => by rw [h2]; exact b4 q⟩
  obtain ⟨x, x1, x2, x3⟩ := b3 q
  exact ⟨x, x1, x2, (g 5 (by decide) (by decide) (by decide)).trans x3⟩
theorem restL_s (ls : List (Bool × Nat)) : restL ls = [] ∨ ∃ w', restL ls = 6 :: w' := by
  cases ls with
  | nil => exact Or.inl rfl
  | cons m ls' => exact Or.inr ⟨_, rfl⟩
theorem lpC_s {L c0 f p : Nat} {l : Bool × Nat} {ls : List (Bool × Nat)} {es : List cEl} {τ : gS} (hL : L < 2) (hl : lvOk l) (hf : fpO f p) (h : spR N tk pl vl f p τ) (hW : WX c0 (wOf l ls) es τ) (hls : ls.length ≤ 7) (h1 : 420 * L ≤ c0) (h2 : c0 + es.length + (opsL l).length ≤ 420 * L + 420) : RS N tk pl vl L f p τ (lpC τ) := by
  have hw := wOf_l ls l
  rw [wOf_r] at hW hw
  obtain ⟨t1, e1, q1, q2, q3, q4⟩ := comesR (a := 0) (xs := opsL l) (w := restL ls) hL h1 (ops_mem hl) (Or.inl rfl) hW (by omega) h2 ((restL_s ls).imp id (fun z => Or.inl z))
  have eC : inC 0 τ = some (.inr τ) := by
    unfold inC
    rw [isR_s hf h, bn1_s, if_00]
  refine ⟨.inr t1, t1, ?_, rfl, spR_same h q3 q4, xH_x q2⟩
  unfold lpC bodyC
  rw [lpP_inr eC, bn1_s]
  unfold tlC
  rw [isR_s hf h, bn1_s, if_00, isR_s hf h, bn1_s, if_00, isR_s hf h, bn1_s, if_00, bn1_s, if_00, failR_s hf h, bn1_s]
  have e2 : (if τ.1 0 12 ≤ (0 : Int32) then some τ else some τ) = some τ := by split <;> rfl
  rw [e2, bn1_s, e1, bn1_s]
  rfl
/-- the sum ends, no bracket open -/
theorem c_end (hT : TkOK N tk pl) {L c0 k : Nat} {l : Bool × Nat} {es : List cEl} {τ : gS} (hL : L < 2) (hl : lvOk l) (h : XR N tk pl vl c0 k l [] es τ) (hk : k < N) (ht : tk k ≠ 27 ∧ tk k ≠ 28 ∧ tk k ≠ 29) (h1 : 420 * L ≤ c0) (h2 : c0 + es.length + (opsL l).length ≤ 420 * L + 420) : ∃ τ', lpC τ = some (.inr τ') ∧ rdR N tk pl vl k τ' ∧ τ'.1 0 12 = 0 ∧ WX c0 [] (es ++ opsE l) τ' ∧ fr (xF L) τ τ' := by
  obtain ⟨r1, r2, r3⟩ := h
  have hw := wOf_l [] l
  rw [wOf_r] at r3 hw
  rw [List.length_nil] at hw r2
  obtain ⟨t1, e1, q1, q2, q3, q4⟩ := comesR (a := 0) (xs := opsL l) (w := []) hL h1 (ops_mem hl) (Or.inl rfl) r3 (Nat.lt_of_le_of_lt hw (by decide)) h2 (Or.inl rfl)
  have i35 : pX11_is (7 : Int32) τ = some (b01 (decide (tk k = 35))) := isR (K := 35) hT r1 hk (by decide)
  have i27 : pX11_is (8 : Int32) τ = some (b01 (decide (tk k = 27))) := isR (K := 27) hT r1 hk (by decide)
  have i28 : pX11_is (9 : Int32) τ = some (b01 (decide (tk k = 28))) := isR (K := 28) hT r1 hk (by decide)
  have i29 : pX11_is (10 : Int32) τ = some (b01 (decide (tk k = 29))) := isR (K := 29) hT r1 hk (by decide)
  have z0 : nI 0 ≤ (0 : Int32) := by decide
  have eC : inC 0 τ = some (.inr τ) := by
    unfold inC
    rw [i35, bn1_s, r2, if_pos z0]
    split <;> rfl
  refine ⟨t1, ?_, rdR_same r1 q3 q4, (q3 0 12 (by decide) (by decide) (by decide) (by decide)).trans r2, q1, q2⟩
  unfold lpC bodyC
  rw [lpP_inr eC, bn1_s]
  unfold tlC
  rw [i27, bn1_s, i28, bn1_s, i29, bn1_s, decide_eq_false ht.1, decide_eq_false ht.2.1, decide_eq_false ht.2.2, if_b0, if_b0, if_b0, bn1_s, if_00, r2, if_pos z0, bn1_s, e1, bn1_s]
  rfl
/-- a bracket is left open -/
theorem c_left (hT : TkOK N tk pl) {L c0 k : Nat} {l m : Bool × Nat} {ls : List (Bool × Nat)} {es : List cEl} {τ : gS} (hL : L < 2) (hl : lvOk l) (h : XR N tk pl vl c0 k l (m :: ls) es τ) (hk : k < N) (ht : tk k ≠ 27 ∧ tk k ≠ 28 ∧ tk k ≠ 29) (h35 : tk k ≠ 35) (hls : ls.length < 6) (h1 : 420 * L ≤ c0) (h2 : c0 + es.length + (opsL l).length ≤ 420 * L + 420) : RS N tk pl vl L 1 (pl k) τ (lpC τ) := by
  obtain ⟨r1, r2, r3⟩ := h
  have hw := wOf_l (m :: ls) l
  rw [List.length_cons] at hw r2
  obtain ⟨t0, e0, s0, f0⟩ := failR1 (f := 1) r1 hk hT
  simp only [show nI 1 = 1 from rfl] at e0
  have W0 := WX_h f0 r3
  obtain ⟨t1, e1, q1, q2, q3, q4⟩ := comesR (a := 0) (xs := opsL l) (w := 6 :: wOf m ls) hL h1 (ops_mem hl) (Or.inl rfl) W0 (show (wOf l (m :: ls)).length < 60 by omega) h2 (Or.inr (Or.inl ⟨_, rfl⟩))
  have i35 : pX11_is (7 : Int32) τ = some (b01 (decide (tk k = 35))) := isR (K := 35) hT r1 hk (by decide)
  have i27 : pX11_is (8 : Int32) τ = some (b01 (decide (tk k = 27))) := isR (K := 27) hT r1 hk (by decide)
  have i28 : pX11_is (9 : Int32) τ = some (b01 (decide (tk k = 28))) := isR (K := 28) hT r1 hk (by decide)
  have i29 : pX11_is (10 : Int32) τ = some (b01 (decide (tk k = 29))) := isR (K := 29) hT r1 hk (by decide)
  have n12 : ¬ nI (ls.length + 1) ≤ (0 : Int32) := nI_nle (by omega) (by omega)
  have eC : inC 0 τ = some (.inr τ) := by
    unfold inC
    rw [i35, bn1_s, decide_eq_false h35, if_b0]
  refine ⟨.inr t1, t1, ?_, rfl, spR_same s0 q3 q4, xH_x (fr_tr (hdR_x f0) q2)⟩
  unfold lpC bodyC
  rw [lpP_inr eC, bn1_s]
  unfold tlC
  rw [i27, bn1_s, i28, bn1_s, i29, bn1_s, decide_eq_false ht.1, decide_eq_false ht.2.1, decide_eq_false ht.2.2, if_b0, if_b0, if_b0, bn1_s, if_00, r2, if_neg n12, e0, bn1_s, bn1_s, e1, bn1_s]
  rfl
end EXR4
