/-! read: the reference's sum: where there is no room -/
section EXR5
variable {N : Nat} {tk pl : Nat → Nat} {vl : Nat → Int64}
/-- one bracket too many -/
theorem u_open6 (hT : TkOK N tk pl) {L c0 k : Nat} {l : Bool × Nat} {ls : List (Bool × Nat)} {es : List cEl} {τ : gS} (h : XR N tk pl vl c0 k l ls es τ) (hk : k < N) (ht : tk k = 34) (hl : ls.length = 6) : RS N tk pl vl L 2 (pl k) τ (lpU τ) := by
  obtain ⟨h1, h2, h3⟩ := h
  have hw := wOf_l ls l
  have hf : fpO 2 (pl k) := ⟨Or.inr rfl, (hT.2.2.2.1 k hk).2⟩
  have hi : pX11_is (6 : Int32) τ = some (b01 (decide (tk k = 34))) := isR (K := 34) hT h1 hk (by decide)
  obtain ⟨t0, e0, s0, f0⟩ := failR1 (f := 2) h1 hk hT
  simp only [show nI 2 = 2 from rfl] at e0
  have o12 : t0.1 0 12 = nI ls.length := (fr_1 f0 rfl).trans h2
  have s1 : spR N tk pl vl 2 (pl k) (wI t0 0 12 (nI (ls.length + 1))) := spR_w s0 ⟨by omega, by decide, by decide, by decide⟩
  obtain ⟨t1, e1, s2, f1⟩ := goesR_s hf s1
  have W1 := WX_h f1 (WX_12 (v := nI (ls.length + 1)) (WX_h f0 h3))
  have st : inO τ = some (.inl (wI (wI t1 32 (wOf l ls).length (nI 6)) 0 48 (nI ((wOf l ls).length + 1)))) := by
    unfold inO
    rw [hi, bn1_s, decide_eq_true ht, if_b1, h2, if_pos (show nI ls.length = 6 by rw [hl]; rfl), e0, bn1_s, bn1_s, o12, lt_b, nI_1, e1, bn1_s, W1.1, gx_i (by omega) (by decide), lt_b, nI_clamp (by omega)]
    have e3 : (wI t1 32 (wOf l ls).length (6 : Int32)).1 0 48 = nI (wOf l ls).length := by rw [wI_1, if_neg (by omega), W1.1]
    rw [e3, lt_b, nI_1]
    rfl
  have hU : lpU τ = lpU (wI (wI t1 32 (wOf l ls).length (nI 6)) 0 48 (nI ((wOf l ls).length + 1))) := by
    unfold lpU bodyU
    rw [lpP_inl st]
  rw [hU]
  exact RS_fr (xH_x (fr_tr (hdR_x f0) (fr_tr (fr_wI rfl) (fr_tr (hdR_x f1) (fr_tr (fr_wI rfl) (fr_wI rfl)))))) (lpU_s hf (spR_w (spR_w s2 ⟨by omega, by decide, by decide, by decide⟩) ⟨by omega, by decide, by decide, by decide⟩))
/-- a bracket closes, and no token may follow -/
theorem c_close4 (hT : TkOK N tk pl) {L c0 k : Nat} {l m : Bool × Nat} {ls : List (Bool × Nat)} {es : List cEl} {τ : gS} (hL : L < 2) (hl : lvOk l) (hm : lvOk m) (h : XR N tk pl vl c0 k l (m :: ls) es τ) (hk : k < N) (ht : tk k = 35) (hls : ls.length < 6) (h1 : 420 * L ≤ c0) (h2 : c0 + es.length + (opsL l).length + (opsL m).length ≤ 420 * L + 420) (h4 : k = 400) : RS N tk pl vl L 2 (pl k) τ (lpC τ) := by
  obtain ⟨r1, r2, r3⟩ := h
  have hw := wOf_l (m :: ls) l
  rw [List.length_cons] at hw r2
  have hf : fpO 2 (pl k) := ⟨Or.inr rfl, (hT.2.2.2.1 k hk).2⟩
  have hi : pX11_is (7 : Int32) τ = some (b01 (decide (tk k = 35))) := isR (K := 35) hT r1 hk (by decide)
  obtain ⟨t1, e1, q1, q2, q3, q4⟩ := comesR (a := 0) (xs := opsL l) (w := 6 :: wOf m ls) hL h1 (ops_mem hl) (Or.inl rfl) r3 (show (wOf l (m :: ls)).length < 60 by omega) (by omega) (Or.inr (Or.inl ⟨_, rfl⟩))
  have d1 := rdR_same r1 q3 q4
  have o12 : t1.1 0 12 = nI (ls.length + 1) := (q3 0 12 (by decide) (by decide) (by decide) (by decide)).trans r2
  obtain ⟨a1, a2, a3, a4⟩ := q1
  rw [List.length_cons] at a1
  have W1 : WX c0 (wOf m ls) (es ++ opsE l) (wI (wI t1 0 48 (nI (wOf m ls).length)) 0 12 (nI ls.length)) := WX_12 ⟨wI_s, pile_o (by decide) a2.2, by rw [wI_1, if_neg (by omega)]; exact a3, cdR_wO a4 (Or.inl ⟨by decide, by decide⟩)⟩
  have d2 : rdR N tk pl vl k (wI (wI t1 0 48 (nI (wOf m ls).length)) 0 12 (nI ls.length)) := rdR_w (rdR_w d1 ⟨by omega, by decide, by decide, by decide⟩) ⟨by omega, by decide, by decide, by decide⟩
  obtain ⟨t2, e2, g1, g2⟩ := goesR2 d2 hk hT h4
  have st : inC 0 τ = some (.inl t2) := by
    unfold inC
    have n12 : ¬ nI (ls.length + 1) ≤ (0 : Int32) := nI_nle (by omega) (by omega)
    rw [hi, bn1_s, decide_eq_true ht, if_b1, r2, if_neg n12, e1, bn1_s, a1, lt_b, nI_p]
    have e3 : (wI t1 0 48 (nI (wOf m ls).length)).1 0 12 = nI (ls.length + 1) := by rw [wI_1, if_neg (by omega), o12]
    rw [e3, lt_b, nI_p, e2, bn1_s]
  have hC : lpC τ = lpC t2 := by
    unfold lpC bodyC
    rw [lpP_inl st]
  rw [hC]
  exact RS_fr (xH_x (fr_tr q2 (fr_tr (fr_wI rfl) (fr_tr (fr_wI rfl) (hdR_x g2))))) (lpC_s hL hm hf g1 (WX_h g2 W1) (by omega) h1 (by rw [List.length_append, show (opsE l).length = (opsL l).length from List.length_map ..]; omega))
end EXR5
