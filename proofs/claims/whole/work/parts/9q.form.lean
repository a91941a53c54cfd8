/-! read: formulas, both sides -/
theorem start_C {r f : Nat} {σ : gS} (hf : f < 26) : pX9_startFormula r (nI f) σ = some (wI σ (r + 5) f (σ.1 r 13)) := by
  have i1 : pX10_inRange (nI f) (0 : Int32) (25 : Int32) = some (b01 (decide (0 ≤ f ∧ f ≤ 25))) := inb_c (lo := 0) (hi := 25) (by omega) (by decide) (by decide)
  unfold pX9_startFormula
  rw [i1, bn1_s, decide_eq_true ⟨by omega, by omega⟩, if_b1, gx_i hf (by decide), nI_clamp (by omega), lt_b]
theorem end_C {r f : Nat} {σ : gS} (hf : f < 26) : pX9_endFormula r (nI f) σ = some (wI σ (r + 6) f (σ.1 r 13)) := by
  have i1 : pX10_inRange (nI f) (0 : Int32) (25 : Int32) = some (b01 (decide (0 ≤ f ∧ f ≤ 25))) := inb_c (lo := 0) (hi := 25) (by omega) (by decide) (by decide)
  unfold pX9_endFormula
  rw [i1, bn1_s, decide_eq_true ⟨by omega, by omega⟩, if_b1, gx_i hf (by decide), nI_clamp (by omega), lt_b]
theorem CS_w {f p r o j : Nat} {σ : gS} {v : Int32} (h : CS f p r σ) (h1 : o ≠ 3) (h2 : ¬ (o = r ∧ j = 13)) : CS f p r (wI σ o j v) := by
  obtain ⟨a1, ⟨a2, a3, a4⟩, a5, a6, z, z1, z2⟩ := h
  exact ⟨a1, ⟨by rw [wI_1, if_neg (by omega), a2], by rw [wI_1, if_neg (by omega), a3], by rw [wI_1, if_neg (by omega), a4]⟩, a5, a6, z, z1, by rw [wI_1, if_neg (by omega), z2]⟩
section FORM
variable {f p r : Nat}
theorem KC_start {g : Nat} (hg : g < 26) (hr : tR r = true) : KC (pcF r) f p r (pX9_startFormula r (nI g)) := fun σ h => ⟨_, start_C hg, CS_w h (by have := tR_9 hr; omega) (by omega), fr_wIp (by omega)⟩
theorem KC_end {g : Nat} (hg : g < 26) (hr : tR r = true) : KC (pcF r) f p r (pX9_endFormula r (nI g)) := fun σ h => ⟨_, end_C hg, CS_w h (by have := tR_9 hr; omega) (by omega), fr_wIp (by omega)⟩
theorem KC_inc {c : Nat} (hc : c ≤ 4) (hr : tR r = true) : KC (pcF r) f p r (fun s => gT (s.2.2 3 1) tR (fun rr => lt' (wI s rr c ((s.1 rr c) + (1 : Int32))) (fun s23 => some s23))) := KC_T (g := fun rr s => lt' (wI s rr c ((s.1 rr c) + (1 : Int32))) (fun s23 => some s23)) (fun σ h => ⟨_, lt_b, CS_w h (by have := tR_9 hr; omega) (by omega), fr_wIp (by omega)⟩)
end FORM
section WRITE
variable {N : Nat} {tk pl : Nat → Nat} {vl : Nat → Int64} {r L pc : Nat}
theorem GO_wR {k o j : Nat} {v : Int32} {cs : List (Int32 × Int32)} {es : List cEl} {σ τ : gS} (h : GO N tk pl vl r L pc k cs es σ τ) (ho : (8 ≤ o ∧ o ≤ 29) ∨ (o = 0 ∧ (j = 20 ∨ j = 37))) : GO N tk pl vl r L pc k cs es σ (wI τ o j v) := by
  obtain ⟨h1, h2, h3, h4, ⟨h5, h6⟩, h7, h8, h9, h10⟩ := h
  exact ⟨h1, rdR_w h2 (by omega), h3, h4, ⟨by rw [wI_1, if_neg (by omega), h5], cdR_wO h6 (by omega)⟩, by rw [wI_1, if_neg (by omega), h7], WW_eq rfl rfl (by rw [wI_1, if_neg (by omega)]) (by rw [wI_1, if_neg (by omega)]) h8, h9, h10⟩
theorem GO_wL {k o j : Nat} {v : Int64} {cs : List (Int32 × Int32)} {es : List cEl} {σ τ : gS} (h : GO N tk pl vl r L pc k cs es σ τ) (ho : o ≠ 6) : GO N tk pl vl r L pc k cs es σ (wL τ o j v) := by
  obtain ⟨h1, ⟨a1, a2, a3⟩, h3, h4, ⟨h5, h6⟩, h7, h8, h9, h10⟩ := h
  refine ⟨h1, ⟨a1, a2, fun i hi => ?_⟩, h3, h4, ⟨h5, h6⟩, h7, h8, h9, h10⟩
  obtain ⟨b1, b2, b3, b4⟩ := a3 i hi
  exact ⟨b1, b2, b3, fun q => by rw [wL_2, if_neg (by omega)]; exact b4 q⟩
theorem GO_wC (hr : tR r = true) {k o j : Nat} {v : Int32} {cs : List (Int32 × Int32)} {es : List cEl} {σ τ : gS} (h : GO N tk pl vl r L pc k cs es σ τ) (ho : r ≤ o ∧ o ≤ r + 6) (h2 : ¬ (o = r ∧ j = 13)) : GO N tk pl vl r L pc k cs es (wI σ o j v) τ := by
  have h9 := tR_9 hr
  obtain ⟨⟨c0, c1, c2, c3, c5, c6, c7⟩, g2, g3, ⟨g4, g5⟩, g6, g7, g8, g9, g10⟩ := h
  refine ⟨⟨c0, by rw [wI_1, if_neg (by omega), c1], by rw [wI_1, if_neg (by omega), c2], c3, by rw [wI_1, if_neg (by omega), c5], by rw [wI_1, if_neg (by omega), c6], fun i hi => ?_⟩, g2, g3, ⟨by rw [wI_1, if_neg (by omega), g4], stC_w g5 (Or.inl (by omega))⟩, g6, g7, WW_eq (by rw [wI_1, if_neg (by omega)]) (by rw [wI_1, if_neg (by omega)]) rfl rfl g8, g9, g10⟩
  obtain ⟨b1, b2, b3⟩ := c7 i hi
  exact ⟨by rw [wI_1, if_neg (by omega), b1], by rw [wI_1, if_neg (by omega), b2], b3⟩
theorem LX_w {o j : Nat} {v : Int32} {es : List cEl} {lts : List lEl} {τ : gS} (h : LX L es lts τ) (ho : ¬ (24 ≤ o ∧ o ≤ 29) ∧ ¬ (o = 0 ∧ j = 37)) : LX L es lts (wI τ o j v) := by
  have := LX_up (e := []) (τ' := wI τ o j v) h (by rw [wI_1, if_neg (by omega)]) (fun o' k a b => by rw [wI_1, if_neg (by omega)])
  rw [List.append_nil] at this
  exact this
theorem KpR_w {Θ : Tld} {o j : Nat} {v : Int32} {τ : gS} (h : ¬ (uR Θ L o j ∨ (8 ≤ o ∧ o ≤ 10) ∨ (o = 0 ∧ (j = 19 ∨ j = 20)))) : KpR Θ L τ (wI τ o j v) := fun o' j' q => by
  refine ⟨?_, rfl⟩
  rw [wI_1, if_neg]
  rintro ⟨rfl, rfl⟩
  exact h q
theorem KpC_w {Θ : Tld} {o j : Nat} {v : Int32} {σ : gS} (h : ¬ (uC Θ r o j ∨ (18 ≤ o ∧ o ≤ 20) ∨ (o = 3 ∧ j = 13))) : KpC Θ r σ (wI σ o j v) := fun o' j' q => by
  refine ⟨?_, rfl⟩
  rw [wI_1, if_neg]
  rintro ⟨rfl, rfl⟩
  exact h q
theorem MX_wR {k o j : Nat} {v : Int32} {cs : List (Int32 × Int32)} {es : List cEl} {lts : List lEl} {Θ : Tld} {nC nR : List nEl} {σ τ : gS} (h : MX N tk pl vl r L k cs es lts Θ nC nR σ τ) (ho : 11 ≤ o ∧ o ≤ 23) (hu : ¬ uR Θ L o j) : MX N tk pl vl r L k cs es lts Θ nC nR σ (wI τ o j v) :=
  MX_0 h (fun _ _ _ => ⟨rfl, rfl⟩) (KpR_w (fun z => by
    rcases z with z | z | z
    · exact hu z
    · omega
    · omega)) id (GO_wR h.1 (by omega)) (LX_w h.2.1 (by omega)) (Nat.le_refl _)
theorem MX_wC (hr : tR r = true) {k o j : Nat} {v : Int32} {cs : List (Int32 × Int32)} {es : List cEl} {lts : List lEl} {Θ : Tld} {nC nR : List nEl} {σ τ : gS} (h : MX N tk pl vl r L k cs es lts Θ nC nR σ τ) (ho : r ≤ o ∧ o ≤ r + 6) (h2 : ¬ (o = r ∧ j = 13)) (hu : ¬ uC Θ r o j) : MX N tk pl vl r L k cs es lts Θ nC nR (wI σ o j v) τ := by
  have h9 := tR_9 hr
  refine MX_0 h (KpC_w (fun z => ?_)) (fun _ _ _ => ⟨rfl, rfl⟩) (fun z => by rw [wI_1, if_neg (by omega)] at z; exact z) (GO_wC hr h.1 ho h2) h.2.1 (Nat.le_refl _)
  rcases z with z | z | z
  · exact hu z
  · rcases tR_or hr with rfl | rfl <;> omega
  · omega
theorem cond_un {q : Nat} {τ : gS} (hq : q < 52) : pX11_condition (nI q) τ = bn1 (pX11_must (21 : Int32) (wI τ 20 q (τ.1 0 37))) (fun s3 => bn1 (lpP crF (1, 1, s3)) (fun z4 => some (wI z4 21 q (z4.1 0 37)))) := by
  have e1 : pX11_condition (nI q) τ = gx (nI q) 52 (lt' (wI τ 20 (nI q).toNatClampNeg (τ.1 0 37)) (fun s1 => bn1 (pX11_must (21 : Int32) s1) (fun s3 => bn1 (lpP crF ((1 : Int32), (1 : Int32), s3)) (fun (z4 : gS) => gx (nI q) 52 (lt' (wI z4 21 (nI q).toNatClampNeg (z4.1 0 37)) (fun s15 => some s15)))))) := rfl
  rw [e1, gx_i hq (by decide), nI_clamp (by omega), lt_b]
  congr 1
  funext s3
  congr 1
  funext z4
  rw [gx_i hq (by decide), lt_b]
theorem tF_w {o j : Nat} {v : Int32} {τ : gS} (h : (o = 0 ∧ j = 20) ∨ (8 ≤ o ∧ o ≤ 10) ∨ (11 ≤ o ∧ o ≤ 16 ∧ o ≠ 15 ∧ j = L) ∨ (o = 15 ∧ 16 * L ≤ j ∧ j < 16 * L + 16) ∨ (17 ≤ o ∧ o ≤ 19 ∧ 40 * L ≤ j ∧ j < 40 * L + 40) ∨ (20 ≤ o ∧ o ≤ 23 ∧ 26 * L ≤ j ∧ j < 26 * L + 26)) : fr (tF L) τ (wI τ o j v) := fr_wI (decide_eq_true (by omega))
theorem KR_cond {f p q : Nat} (hf : fpO f p) (hq : q < 52) (h1 : 26 * L ≤ q) (h2 : q < 26 * L + 26) : KR N tk pl vl (tF L) f p (pX11_condition (nI q)) := fun τ h => by
  have s0 : spR N tk pl vl f p (wI τ 20 q (τ.1 0 37)) := spR_w h ⟨by omega, by decide, by decide, by decide⟩
  rw [cond_un hq, mustR_s hf s0, bn1_s, cr_s hf s0, bn1_s]
  exact ⟨_, rfl, spR_w s0 ⟨by omega, by decide, by decide, by decide⟩, fr_tr (tF_w (by omega)) (tF_w (by omega))⟩
/-- 'if', a condition: both sides -/
theorem condFQ (hT : TkOK N tk pl) (hr : tR r = true) (hL : L < 2) {k fC q : Nat} {cs : List (Int32 × Int32)} {es : List cEl} {lts : List lEl} {Θ : Tld} {nC nR : List nEl} {σ τ : gS} (hf : fC < 22) (hq : q = 26 * L + fC) (hn : ∀ o, ¬ uC Θ r (r + o) fC ∨ (o ≠ 5 ∧ o ≠ 6)) (hn' : ∀ o, ¬ uR Θ L o q ∨ (o ≠ 20 ∧ o ≠ 21)) (h : MX N tk pl vl r L k cs es lts Θ nC nR σ τ) : ∃ s11 s14 s16 s19 τ', pX7_need 1 σ = some s11 ∧ s11.2.2 3 1 = r ∧ pX9_startFormula r (nI fC) s11 = some s14 ∧ pX7_condition s14 = some s16 ∧ s16.2.2 3 1 = r ∧ pX9_endFormula r (nI fC) s16 = some s19 ∧ pX11_condition (nI q) τ = some τ' ∧ fr (pcF r) σ s19 ∧ fr (tF L) τ τ' ∧ ((∃ k' d e nl, k < k' ∧ MX N tk pl vl r L k' (cs ++ d) (es ++ e) (lts ++ nl) Θ nC nR s19 τ' ∧ (s19.1 3 8 = 0 → wfC nl ∧ FC r (cs ++ d) s19 fC (cmC false nl) ∧ RCn L (lts ++ nl) τ' q nl) ∧ (∀ j, s19.1 (r + 1) j = σ.1 (r + 1) j) ∧ ∀ j, τ'.1 15 j = τ.1 15 j) ∨ SS N tk pl vl r s19 τ') := by
  have h9 := tR_9 hr
  have m0 := MX_wR (o := 20) (j := q) (v := τ.1 0 37) h (by omega) ((hn' 20).resolve_right (by omega))
  have hq52 : q < 52 := by omega
  obtain ⟨s11, s3, a1, a2, a3, a4, out⟩ := needMX (K := 1) hT hr (by decide) m0
  have a1' : pX7_need 1 σ = some s11 := a1
  have a2' : pX11_must 21 (wI τ 20 q (τ.1 0 37)) = some s3 := a2
  have d11 : s11.2.2 3 1 = r := (fr_3 a3 rfl).trans h.1.2.2.1
  have f0 : fr (tF L) τ s3 := fr_tr (tF_w (by omega)) (hdR_t a4)
  have e14 := start_C (r := r) (f := fC) (σ := s11) (by omega)
  rcases out with ⟨o1, o2, o3⟩ | ⟨f, p, o1, o2⟩
  · have m1 := MX_wC (o := r + 5) (j := fC) (v := s11.1 r 13) hr o3 (by omega) (by omega) ((hn 5).resolve_right (by omega))
    obtain ⟨s16, z4, b1, b2, b3, b4, out2⟩ := condL hT hr hL 401 0 (k + 1) false true cs es lts _ s3 (by omega) (by omega) m1.1 m1.2.1 m1.2.2.1
    have b1' : pX7_condition (wI s11 (r + 5) fC (s11.1 r 13)) = some s16 := by
      rw [co_un]
      have : lpP coF (0, 1, 0, 0, wI s11 (r + 5) fC (s11.1 r 13)) = some s16 := b1
      rw [this, bn1_s]
    have b2' : lpP crF (1, 1, s3) = some z4 := b2
    have d16 : s16.2.2 3 1 = r := (fr_3 b3 (sumF_n (by omega))).trans d11
    have eR : pX11_condition (nI q) τ = some (wI z4 21 q (z4.1 0 37)) := by rw [cond_un hq52, a2', bn1_s, b2', bn1_s]
    refine ⟨s11, _, s16, _, _, a1', d11, e14, b1', d16, end_C (by omega), eR, fr_tr (hdC_p a3) (fr_tr (fr_wIp (by omega)) (fr_tr (sumF_p b3) (fr_wIp (by omega)))), fr_tr f0 (fr_tr (liF_t b4) (tF_w (by omega))), ?_⟩
    rcases out2 with ⟨k', d, e, nl, y1, y2, y3, y4, y5, y6, y7⟩ | ⟨f, p, y1, y2⟩
    · refine Or.inl ⟨k', d, e, nl, by omega, ?_, ?_, fun j => ?_, fun j => ?_⟩
      · refine MX_wR (MX_wC hr (MX_up m1 (KpC_s hr b3) (KpR_l b4) (fun z => (y7 z).1) y2 y3 y4) (by omega) (by omega) ((hn 6).resolve_right (by omega))) (by omega) ((hn' 21).resolve_right (by omega))
      · intro z
        rw [wI_1, if_neg (by omega)] at z
        refine ⟨⟨y5, y6⟩, ⟨cs, [], by rw [List.append_nil, (y7 z).2], ?_, ?_⟩, lts, [], by rw [List.append_nil], ?_, ?_⟩
        · rw [wI_1, if_neg (by omega), fr_1 b3 (sumF_n (by omega)), wI_s]
          exact o3.1.2.2.2.1.1
        · rw [wI_s, y2.2.2.2.1.1, List.length_append, (y7 z).2]
        · rw [wI_1, if_neg (by omega), fr_1 b4 (liF_n (by omega)), fr_1 a4 rfl, wI_s]
          exact h.2.1.1
        · rw [wI_s, y3.1, List.length_append, Nat.add_assoc]
      · rw [wI_1, if_neg (by omega), fr_1 b3 (sumF_n (by omega)), wI_1, if_neg (by omega), fr_1 (hdC_s (r := r) a3) (sumF_n (by omega))]
      · rw [wI_1, if_neg (by omega), fr_1 b4 (liF_n (by omega)), fr_1 a4 rfl, wI_1, if_neg (by omega)]
    · exact Or.inr ⟨f, p, CS_w y1 (by omega) (by omega), spR_w y2 ⟨by omega, by decide, by decide, by decide⟩⟩
  · obtain ⟨s14, b1, b2, b3⟩ := (KC_start (g := fC) (by omega) hr) s11 o1
    obtain ⟨s16, c1, c2, c3⟩ := KC_cond s14 b2
    obtain ⟨s19, g1, g2, g3⟩ := (KC_end (g := fC) (by omega) hr) s16 c2
    have eR : pX11_condition (nI q) τ = some (wI s3 21 q (s3.1 0 37)) := by rw [cond_un hq52, a2', bn1_s, cr_s o1.1 o2, bn1_s]
    exact ⟨s11, s14, s16, s19, _, a1', d11, b1, c1, c2.2.2.1, g1, eR, fr_tr (hdC_p a3) (fr_tr b3 (fr_tr (sumF_p c3) g3)), fr_tr f0 (tF_w (by omega)), Or.inr ⟨f, p, g2, spR_w o2 ⟨by omega, by decide, by decide, by decide⟩⟩⟩
end WRITE
