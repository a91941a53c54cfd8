/-! read: the reference's sum, place by place -/
noncomputable def inO : gS → Option (gS ⊕ gS) := fun (z6 : gS) => bn1 (pX11_is (6 : Int32) z6) (fun v7 => if v7 = 0 then some (.inr z6) else bn1 (if (z6.1 0 12) = (6 : Int32) then bn1 (pX11_fail (2 : Int32) z6) (fun s11 => some s11) else some z6) (fun (z9 : gS) => lt' (wI z9 0 12 ((z9.1 0 12) + (1 : Int32))) (fun s12 => bn1 (pX11_goesOn s12) (fun s14 => gx (s14.1 0 48) 64 (lt' (wI s14 32 (s14.1 0 48).toNatClampNeg (6 : Int32)) (fun s15 => lt' (wI s15 0 48 ((s15.1 0 48) + (1 : Int32))) (fun s16 => some (.inl s16))))))))
noncomputable def inC (x2 : Int32) : gS → Option (gS ⊕ gS) := fun (z20 : gS) => bn1 (pX11_is (7 : Int32) z20) (fun v21 => if v21 = 0 then some (.inr z20) else if (z20.1 0 12) ≤ x2 then some (.inr z20) else bn1 (pX11_comesOut (0 : Int32) z20) (fun s24 => lt' (wI s24 0 48 ((s24.1 0 48) - (1 : Int32))) (fun s25 => lt' (wI s25 0 12 ((s25.1 0 12) - (1 : Int32))) (fun s26 => bn1 (pX11_goesOn s26) (fun s28 => some (.inl s28))))))
noncomputable def tlC (x2 : Int32) : gS → Option ((Int32 × gS) ⊕ (gS ⊕ gS)) := fun (z19 : gS) => bn1 (pX11_is (8 : Int32) z19) (fun v29 => bn1 (if v29 = 0 then bn1 (pX11_is (9 : Int32) z19) (fun v32 => if v32 = 0 then bn1 (pX11_is (10 : Int32) z19) (fun v34 => if v34 = 0 then some (0 : Int32) else some (1 : Int32)) else some (1 : Int32)) else some (1 : Int32)) (fun (z31 : Int32) => if z31 = 0 then bn1 (if (z19.1 0 12) ≤ x2 then some z19 else bn1 (pX11_fail (1 : Int32) z19) (fun s38 => some s38)) (fun (z36 : gS) => bn1 (pX11_comesOut (0 : Int32) z36) (fun s40 => some (.inr (.inr s40)))) else bn1 (pX11_is (10 : Int32) z19) (fun v41 => bn1 (pX11_comesOut v41 z19) (fun s44 => gx (s44.1 0 11) 403 (gx (s44.1 0 48) 64 (lt' (wI s44 32 (s44.1 0 48).toNatClampNeg (s44.1 3 (s44.1 0 11).toNatClampNeg)) (fun s45 => lt' (wI s45 0 48 ((s45.1 0 48) + (1 : Int32))) (fun s46 => bn1 (pX11_goesOn s46) (fun s48 => some (.inl (z31, s48)))))))))))
noncomputable def bodyC (x2 : Int32) (s : gS) : Option ((Int32 × gS) ⊕ (gS ⊕ gS)) := bn1 (lpP (inC x2) s) (tlC x2)
noncomputable def bodyU (x2 : Int32) (s : gS) : Option ((Int32 × gS) ⊕ (gS ⊕ gS)) := bn1 (lpP inO s) (fun z5 => bn1 (pX11_unit z5) (fun s18 => if (s18.1 0 13) ≤ 0 then bodyC x2 s18 else some (.inr (.inr s18))))
noncomputable def exF (x2 : Int32) : Int32 × gS → Option ((Int32 × gS) ⊕ (gS ⊕ gS)) := fun z4 => if z4.1 = 0 then some (.inr (.inl z4.2)) else if (z4.2.1 0 13) = 0 then bodyU x2 z4.2 else some (.inr (.inl z4.2))
theorem ex_un {σ : gS} : pX11_expression σ = bnS (lpP (exF ((wI σ 0 48 0).1 0 12)) (1, wI σ 0 48 0)) (fun z3 => some z3) := rfl
noncomputable def ctn (x2 : Int32) (x : Option ((Int32 × gS) ⊕ (gS ⊕ gS))) : Option (gS ⊕ gS) := match x with
  | none => none
  | some (.inl s) => lpP (exF x2) s
  | some (.inr r) => some r
theorem lp_ctn {x2 : Int32} {s : Int32 × gS} : lpP (exF x2) s = ctn x2 (exF x2 s) := by
  cases h : exF x2 s with
  | none => exact lpP_none h
  | some x =>
    cases x with
    | inl t => exact lpP_inl h
    | inr r => exact lpP_inr h
/-- what a sum comes to from before a unit; from behind one -/
noncomputable def lpU (τ : gS) : Option (gS ⊕ gS) := ctn 0 (bodyU 0 τ)
noncomputable def lpC (τ : gS) : Option (gS ⊕ gS) := ctn 0 (bodyC 0 τ)
section EXR
variable {N : Nat} {tk pl : Nat → Nat} {vl : Nat → Int64} (hT : TkOK N tk pl)
/-- it ends, having failed -/
def RS (N : Nat) (tk pl : Nat → Nat) (vl : Nat → Int64) (L f p : Nat) (τ : gS) (x : Option (gS ⊕ gS)) : Prop := ∃ r τ', x = some r ∧ bnS (some r) (fun z => some z) = some τ' ∧ spR N tk pl vl f p τ' ∧ fr (xH L) τ τ'
theorem hdR_x {L : Nat} {σ τ : gS} (f : fr hdR σ τ) : fr (xF L) σ τ := fr_up (fun o k q => by
  simp only [xF, hdR, Bool.or_eq_false_iff, Bool.and_eq_false_iff, beq_eq_false_iff_ne] at q ⊢
  omega) f
theorem lpU_1 {τ : gS} (h : τ.1 0 13 = 0) : lpP (exF 0) (1, τ) = lpU τ := by
  rw [lp_ctn]
  unfold exF lpU
  dsimp only
  rw [if_neg (show ¬ (1 : Int32) = 0 by decide), h, if_pos rfl]
theorem unit_s {f p : Nat} {τ : gS} (hf : fpO f p) (h : spR N tk pl vl f p τ) : pX11_unit τ = some τ := by
  have n0 : ¬ nI f = 0 := nI_ne0 (by have := hf.1; omega) (by have := hf.1; omega)
  unfold pX11_unit
  rw [isR_s hf h, bn1_s, if_00, isR_s hf h, bn1_s, if_00, h.1, if_neg n0, bnS_l, h.1, if_neg n0, bnS_l, failR_s hf h, bn1_s]
theorem lpU_s {L f p : Nat} {τ : gS} (hf : fpO f p) (h : spR N tk pl vl f p τ) : RS N tk pl vl L f p τ (lpU τ) := by
  have e1 : inO τ = some (.inr τ) := by
    unfold inO
    rw [isR_s hf h, bn1_s, if_00]
  refine ⟨.inr τ, τ, ?_, rfl, h, fr_rf⟩
  unfold lpU bodyU
  rw [lpP_inr e1, bn1_s, unit_s hf h, bn1_s, h.1, if_neg (show ¬ nI f ≤ 0 from nI_nle (by have := hf.1; omega) (by have := hf.1; omega))]
  rfl
theorem RS_fr {L f p : Nat} {σ τ : gS} {x : Option (gS ⊕ gS)} (hf : fr (xH L) σ τ) (h : RS N tk pl vl L f p τ x) : RS N tk pl vl L f p σ x := by
  obtain ⟨r, τ', h1, h2, h3, h4⟩ := h
  exact ⟨r, τ', h1, h2, h3, fr_tr hf h4⟩
/-- the reference within a sum -/
def XR (N : Nat) (tk pl : Nat → Nat) (vl : Nat → Int64) (c0 k : Nat) (l : Bool × Nat) (ls : List (Bool × Nat)) (es : List cEl) (τ : gS) : Prop := rdR N tk pl vl k τ ∧ τ.1 0 12 = nI ls.length ∧ WX c0 (wOf l ls) es τ
theorem WX_h {c0 : Nat} {w : List Nat} {es : List cEl} {σ τ : gS} (f : fr hdR σ τ) (h : WX c0 w es σ) : WX c0 w es τ := by
  obtain ⟨h1, h2, h3, h4⟩ := h
  refine ⟨(fr_1 f rfl).trans h1, ?_, (fr_1 f rfl).trans h3, fun i q e => ⟨(fr_1 f rfl).trans (h4 i q e).1, (fr_1 f rfl).trans (h4 i q e).2⟩⟩
  clear h1 h3 h4
  generalize w.map nI = st at h2
  induction st with
  | nil => trivial
  | cons x r ih => exact ⟨(fr_1 f rfl).trans h2.1, ih h2.2⟩
theorem pile_push {w : List Nat} {x : Nat} {τ : gS} (h : pile 32 τ (w.map nI)) : pile 32 (wI τ 32 w.length (nI x)) ((x :: w).map nI) := by
  refine ⟨?_, pile_w h (by rw [List.length_map]; exact Nat.le_refl _)⟩
  rw [List.length_map, wI_s]
/-- a waiting one is pushed -/
theorem WX_push {c0 x : Nat} {w : List Nat} {es : List cEl} {τ : gS} (h : WX c0 w es τ) : WX c0 (x :: w) es (wI (wI τ 32 w.length (nI x)) 0 48 (nI (w.length + 1))) := by
  obtain ⟨h1, h2, h3, h4⟩ := h
  refine ⟨wI_s, pile_o (by decide) (pile_push h2), ?_, cdR_wO (cdR_wO h4 (Or.inl ⟨by decide, by decide⟩)) (Or.inl ⟨by decide, by decide⟩)⟩
  rw [wI_1, if_neg (by omega), wI_1, if_neg (by omega), h3]
theorem WX_12 {c0 : Nat} {w : List Nat} {es : List cEl} {τ : gS} {v : Int32} (h : WX c0 w es τ) : WX c0 w es (wI τ 0 12 v) := by
  obtain ⟨h1, h2, h3, h4⟩ := h
  exact ⟨by rw [wI_1, if_neg (by omega), h1], pile_o (by decide) h2, by rw [wI_1, if_neg (by omega), h3], cdR_wO h4 (Or.inl ⟨by decide, by decide⟩)⟩
theorem tkQ_w {o j : Nat} {τ : gS} {v : Int32} (h3 : tkQ tk pl vl N τ) (n3 : o ≠ 3) (n4 : o ≠ 4) (n5 : o ≠ 5) : tkQ tk pl vl N (wI τ o j v) := fun i hi => by
  obtain ⟨a1, a2, a3, a4⟩ := h3 i hi
  refine ⟨by rw [wI_1, if_neg (fun z => n3 z.1.symm), a1], by rw [wI_1, if_neg (fun z => n4 z.1.symm), a2], fun q => ?_, a4⟩
  obtain ⟨x, x1, x2, x3⟩ := a3 q
  exact ⟨x, x1, x2, by rw [wI_1, if_neg (fun z => n5 z.1.symm), x3]⟩
theorem rdR_w {k o j : Nat} {τ : gS} {v : Int32} (h : rdR N tk pl vl k τ) (ho : ¬ (o = 0 ∧ (j = 11 ∨ j = 13)) ∧ o ≠ 3 ∧ o ≠ 4 ∧ o ≠ 5) : rdR N tk pl vl k (wI τ o j v) := by
  obtain ⟨h1, h2, h3⟩ := h
  exact ⟨by rw [wI_1, if_neg (by omega), h1], by rw [wI_1, if_neg (by omega), h2], tkQ_w h3 ho.2.1 ho.2.2.1 ho.2.2.2⟩
theorem spR_w {f p o j : Nat} {τ : gS} {v : Int32} (h : spR N tk pl vl f p τ) (ho : ¬ (o = 0 ∧ (j = 11 ∨ j = 13 ∨ j = 14)) ∧ o ≠ 3 ∧ o ≠ 4 ∧ o ≠ 5) : spR N tk pl vl f p (wI τ o j v) := by
  obtain ⟨h1, h2, ⟨t, t1, t2⟩, h3⟩ := h
  exact ⟨by rw [wI_1, if_neg (by omega), h1], by rw [wI_1, if_neg (by omega), h2], ⟨t, t1, by rw [wI_1, if_neg (by omega), t2]⟩, tkQ_w h3 ho.2.1 ho.2.2.1 ho.2.2.2⟩
/-- a bracket opens -/
theorem u_open (hT : TkOK N tk pl) {L c0 k : Nat} {l : Bool × Nat} {ls : List (Bool × Nat)} {es : List cEl} {τ : gS} (h : XR N tk pl vl c0 k l ls es τ) (hk : k < N) (ht : tk k = 34) (hl : ls.length < 6) : (k < 400 → ∃ τ', lpU τ = lpU τ' ∧ XR N tk pl vl c0 (k + 1) (false, 0) (l :: ls) es τ' ∧ fr (xF L) τ τ') ∧ (k = 400 → RS N tk pl vl L 2 (pl k) τ (lpU τ)) := by
  obtain ⟨h1, h2, h3⟩ := h
  have hw := wOf_l ls l
  have r1 : rdR N tk pl vl k (wI τ 0 12 (nI (ls.length + 1))) := rdR_w h1 ⟨by omega, by decide, by decide, by decide⟩
  have hi : pX11_is (6 : Int32) τ = some (b01 (decide (tk k = 34))) := isR (K := 34) hT h1 hk (by decide)
  have st : ∀ s14, pX11_goesOn (wI τ 0 12 (nI (ls.length + 1))) = some s14 → s14.1 0 48 = nI (wOf l ls).length → inO τ = some (.inl (wI (wI s14 32 (wOf l ls).length (nI 6)) 0 48 (nI ((wOf l ls).length + 1)))) := fun s14 e1 e2 => by
    unfold inO
    rw [hi, bn1_s, decide_eq_true ht, if_b1, h2, if_neg (show ¬ nI ls.length = 6 from fun q => by
      have := (nI_eq (b := 6) (by omega) (by decide)).mp q
      omega), bn1_s, h2, lt_b, nI_1, e1, bn1_s, e2, gx_i (by omega) (by decide), lt_b, nI_clamp (by omega)]
    have e3 : (wI s14 32 (wOf l ls).length (6 : Int32)).1 0 48 = nI (wOf l ls).length := by rw [wI_1, if_neg (by omega), e2]
    rw [e3, lt_b, nI_1]
    rfl
  have hU : ∀ τ', inO τ = some (.inl τ') → lpU τ = lpU τ' := fun τ' e => by
    unfold lpU bodyU
    rw [lpP_inl e]
  have W12 := WX_12 (v := nI (ls.length + 1)) h3
  have f12 : fr (xF L) τ (wI τ 0 12 (nI (ls.length + 1))) := fr_wI rfl
  refine ⟨fun h4 => ?_, fun h4 => ?_⟩
  · obtain ⟨s14, e1, q1, q2⟩ := goesR1 r1 h4
    have W14 := WX_h q2 W12
    have o12 : s14.1 0 12 = nI (ls.length + 1) := (fr_1 q2 rfl).trans wI_s
    refine ⟨_, hU _ (st s14 e1 W14.1), ⟨rdR_w (rdR_w q1 ⟨by omega, by decide, by decide, by decide⟩) ⟨by omega, by decide, by decide, by decide⟩, ?_, WX_push (x := 6) W14⟩, fr_tr f12 (fr_tr (hdR_x q2) (fr_tr (fr_wI rfl) (fr_wI rfl)))⟩
    rw [wI_1, if_neg (by omega), wI_1, if_neg (by omega), o12, List.length_cons]
  · obtain ⟨s14, e1, q1, q2⟩ := goesR2 r1 hk hT h4
    have W14 := WX_h q2 W12
    rw [hU _ (st s14 e1 W14.1)]
    refine RS_fr (xH_x (fr_tr f12 (fr_tr (hdR_x q2) (fr_tr (fr_wI rfl) (fr_wI rfl))))) (lpU_s ⟨Or.inr rfl, (hT.2.2.2.1 k hk).2⟩ (spR_w (spR_w q1 ⟨by omega, by decide, by decide, by decide⟩) ⟨by omega, by decide, by decide, by decide⟩))
end EXR
