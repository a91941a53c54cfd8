/-! read: the reference's sum: brackets close, operators -/
section EXR2
variable {N : Nat} {tk pl : Nat → Nat} {vl : Nat → Int64}
theorem rdR_same {k : Nat} {σ τ : gS} (h : rdR N tk pl vl k σ) (h1 : ∀ o j, o ≠ 30 → o ≠ 31 → ¬ (o = 0 ∧ j = 44) → ¬ (o = 0 ∧ j = 48) → τ.1 o j = σ.1 o j) (h2 : τ.2 = σ.2) : rdR N tk pl vl k τ := by
  obtain ⟨a1, a2, a3⟩ := h
  refine ⟨(h1 0 11 (by decide) (by decide) (by decide) (by decide)).trans a1, (h1 0 13 (by decide) (by decide) (by decide) (by decide)).trans a2, fun i hi => ?_⟩
  obtain ⟨b1, b2, b3, b4⟩ := a3 i hi
  have g : ∀ o, o ≠ 0 → o ≠ 30 → o ≠ 31 → τ.1 o i = σ.1 o i := fun o q0 q1 q2 => h1 o i q1 q2 (fun z => q0 z.1) (fun z => q0 z.1)
  refine ⟨(g 3 (by decide) (by decide) (by decide)).trans b1, (g 4 (by decide) (by decide) (by decide)).trans b2, fun q => ?_, fun q => by rw [h2]; exact b4 q⟩
  obtain ⟨x, x1, x2, x3⟩ := b3 q
  exact ⟨x, x1, x2, (g 5 (by decide) (by decide) (by decide)).trans x3⟩
theorem ops_mem {l : Bool × Nat} (hl : lvOk l) : ∀ x ∈ opsL l, x = 8 ∨ x = 9 ∨ x = 10 := by
  intro x hx
  unfold opsL at hx
  rw [List.mem_append] at hx
  rcases hx with q | q
  · split at q
    · rw [List.mem_singleton] at q; omega
    · exact absurd q (by simp)
  · split at q
    · exact absurd q (by simp)
    · rw [List.mem_singleton] at q
      rcases hl with z | z | z <;> omega
def opsE (l : Bool × Nat) : List cEl := (opsL l).map (fun x => (opk x, 0))
/-- a bracket closes -/
theorem c_close (hT : TkOK N tk pl) {L c0 k : Nat} {l m : Bool × Nat} {ls : List (Bool × Nat)} {es : List cEl} {τ : gS} (hL : L < 2) (hl : lvOk l) (h : XR N tk pl vl c0 k l (m :: ls) es τ) (hk : k < N) (ht : tk k = 35) (hls : ls.length < 6) (h1 : 420 * L ≤ c0) (h2 : c0 + es.length + (opsL l).length ≤ 420 * L + 420) : k < 400 → ∃ τ', lpC τ = lpC τ' ∧ XR N tk pl vl c0 (k + 1) m ls (es ++ opsE l) τ' ∧ fr (xF L) τ τ' := by
  intro h4
  obtain ⟨r1, r2, r3⟩ := h
  have hw := wOf_l (m :: ls) l
  rw [List.length_cons] at hw r2
  have hi : pX11_is (7 : Int32) τ = some (b01 (decide (tk k = 35))) := isR (K := 35) hT r1 hk (by decide)
  obtain ⟨t1, e1, q1, q2, q3, q4⟩ := comesR (a := 0) (xs := opsL l) (w := 6 :: wOf m ls) hL h1 (ops_mem hl) (Or.inl rfl) r3 (show (wOf l (m :: ls)).length < 60 by omega) h2 (Or.inr (Or.inl ⟨_, rfl⟩))
  have d1 := rdR_same r1 q3 q4
  have o12 : t1.1 0 12 = nI (ls.length + 1) := (q3 0 12 (by decide) (by decide) (by decide) (by decide)).trans r2
  obtain ⟨a1, a2, a3, a4⟩ := q1
  rw [List.length_cons] at a1
  have W1 : WX c0 (wOf m ls) (es ++ opsE l) (wI (wI t1 0 48 (nI (wOf m ls).length)) 0 12 (nI ls.length)) := WX_12 ⟨wI_s, pile_o (by decide) a2.2, by rw [wI_1, if_neg (by omega)]; exact a3, cdR_wO a4 (Or.inl ⟨by decide, by decide⟩)⟩
  have d2 : rdR N tk pl vl k (wI (wI t1 0 48 (nI (wOf m ls).length)) 0 12 (nI ls.length)) := rdR_w (rdR_w d1 ⟨by omega, by decide, by decide, by decide⟩) ⟨by omega, by decide, by decide, by decide⟩
  obtain ⟨t2, e2, g1, g2⟩ := goesR1 d2 h4
  have st : inC 0 τ = some (.inl t2) := by
    unfold inC
    have n12 : ¬ nI (ls.length + 1) ≤ (0 : Int32) := nI_nle (by omega) (by omega)
    rw [hi, bn1_s, decide_eq_true ht, if_b1, r2, if_neg n12, e1, bn1_s, a1, lt_b, nI_p]
    have e3 : (wI t1 0 48 (nI (wOf m ls).length)).1 0 12 = nI (ls.length + 1) := by rw [wI_1, if_neg (by omega), o12]
    rw [e3, lt_b, nI_p, e2, bn1_s]
  refine ⟨t2, ?_, ⟨g1, (fr_1 g2 rfl).trans wI_s, WX_h g2 W1⟩, fr_tr q2 (fr_tr (fr_wI rfl) (fr_tr (fr_wI rfl) (hdR_x g2)))⟩
  unfold lpC bodyC
  rw [lpP_inl st]
end EXR2
