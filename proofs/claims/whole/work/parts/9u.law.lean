/-! read: a law, both sides -/
section LAWQ
variable {N : Nat} {tk pl : Nat → Nat} {vl : Nat → Int64} {r L : Nat}
theorem lawFQ (hT : TkOK N tk pl) (hr : tR r = true) (hL : L < 2) {k j q : Nat} {cs : List (Int32 × Int32)} {es : List cEl} {lts : List lEl} {Θ : Tld} {nm : List nEl} {σ τ : gS} (h : MX N tk pl vl r L k cs es lts Θ (nm ++ [(vl j, 5, nLw Θ)]) nm σ τ) (hj : j < N) (hjt : tk j = 23) (hlt : nLw Θ < 4) (hq : q = 26 * L + 22 + nLw Θ) : ∃ σ' τ', lwT (nI (22 + nLw Θ)) σ = some σ' ∧ lrT (nI q) (nI j) τ = some τ' ∧ fr (pcF r) σ σ' ∧ fr (tF L) τ τ' ∧ TO N tk pl vl r L k σ' τ' := by
  have h9 := tR_9 hr
  have hb := h.2.2.2.1.1
  have h30 : nTot Θ < 30 := by unfold nTot; omega
  have hq52 : q < 52 := by omega
  obtain ⟨s11, s7, a1, a2, a3, a4, out⟩ := needMX (K := 26) hT hr (by decide) h
  have a1' : pX7_need 26 σ = some s11 := a1
  have a2' : pX11_must 15 τ = some s7 := a2
  have d11 : s11.2.2 3 1 = r := (fr_3 a3 rfl).trans h.1.2.2.1
  rcases out with ⟨o1, o2, o3⟩ | ⟨f, p, o1, o2⟩
  · have m1 := MX_wC (o := r + 5) (j := 22 + nLw Θ) (v := s11.1 r 13) hr o3 (by omega) (by omega) (by unfold uC; omega)
    have m2 := MX_wR (o := 22) (j := q) (v := s7.1 0 44) m1 (by omega) (by unfold uR; omega)
    obtain ⟨s16, s10, b1, b2, b3, b4, out2⟩ := sumQ hT hr hL m2.1
    have d16 : s16.2.2 3 1 = r := (fr_3 b3 (sumF_n (by omega))).trans d11
    have eC : ∀ σ', bn1 (pX7_need (25 : Int32) (wI s16 (r + 6) (22 + nLw Θ) (s16.1 r 13))) (incC 4) = some σ' → lwT (nI (22 + nLw Θ)) σ = some σ' := fun σ' e => by
      unfold lwT
      rw [a1', bn1_s, d11, gT_p hr, start_C (by omega), bn1_s, b1, bn1_s, d16, gT_p hr, end_C (by omega), bn1_s, e]
    have eR : ∀ τ', bn1 (pX11_must (4 : Int32) (wI s10 23 q (s10.1 0 44))) (tlR (nI j) 14 3) = some τ' → lrT (nI q) (nI j) τ = some τ' := fun τ' e => by
      unfold lrT
      rw [a2', bn1_s, gx_i hq52 (by decide), nI_clamp (by omega), lt_b, b2, bn1_s, gx_i hq52 (by decide), lt_b, e]
    have fC1 : fr (pcF r) σ (wI s16 (r + 6) (22 + nLw Θ) (s16.1 r 13)) := fr_tr (hdC_p a3) (fr_tr (fr_wIp (by omega)) (fr_tr (sumF_p b3) (fr_wIp (by omega))))
    have fR1 : fr (tF L) τ (wI s10 23 q (s10.1 0 44)) := fr_tr (hdR_t a4) (fr_tr (tF_w (by omega)) (fr_tr (liF_t (liF_x b4)) (tF_w (by omega))))
    rcases out2 with ⟨k', d, e, y1, y2, y3, y4⟩ | ⟨f, p, y1, y2⟩
    · have lx : LX L (es ++ e) (lts ++ []) s10 := by
        rw [List.append_nil]
        exact LX_x m2.2.1 b4
      have m3 := MX_up (nl := []) m2 (KpC_s hr b3) (KpR_l (liF_x b4)) (fun z => (y4 z).1) y2 lx (by have := m2.2.2.1; rw [List.append_nil]; omega)
      rw [List.append_nil] at m3
      have m4 := MX_wC (o := r + 6) (j := 22 + nLw Θ) (v := s16.1 r 13) hr m3 (by omega) (by omega) (by unfold uC; omega)
      have m5 := MX_wR (o := 23) (j := q) (v := s10.1 0 44) m4 (by omega) (by unfold uR; omega)
      obtain ⟨s21, s13, c1, c2, c3, c4, out3⟩ := needMX (K := 25) hT hr (by decide) m5
      have c1' : pX7_need (25 : Int32) (wI s16 (r + 6) (22 + nLw Θ) (s16.1 r 13)) = some s21 := c1
      have c2' : pX11_must (4 : Int32) (wI s10 23 q (s10.1 0 44)) = some s13 := c2
      rcases out3 with ⟨g1, g2, g3⟩ | ⟨f, p, g1, g2⟩
      · have z := g3.2.2.2.1
        have kC : ∀ o j, r < o → o ≤ r + 6 → s21.1 o j = (wI s16 (r + 6) (22 + nLw Θ) (s16.1 r 13)).1 o j := fun o j z1 z2 => fr_1 (hdC_s (r := r) c3) (sumF_n (by omega))
        have kR : ∀ o j, 8 ≤ o → s13.1 o j = (wI s10 23 q (s10.1 0 44)).1 o j := fun o j z1 => fr_1 c4 (by
          simp only [hdR, Bool.and_eq_false_iff, beq_eq_false_iff_ne]
          omega)
        obtain ⟨σ', τ', w1, w2, w3, w4, w5⟩ := endQ (c := 4) (o := 14) (Θ' := addLw Θ e) hT hr hL g3 hj hjt (by omega) (by omega) z.2.1.2.2.2.2 z.2.2.2.2.2.2 (by show nSg Θ + nSy Θ + nBk Θ + (nLw Θ + 1) = nSg Θ + nSy Θ + nBk Θ + nLw Θ + 1; omega) h30 (fun σ' τ' y1 y2 y3 y4 => by
          obtain ⟨z0, ⟨z1, z2, z3, z4, z5⟩, z6, z7, z8, z9, z10⟩ := z
          exact ⟨⟨z0.1, z0.2.1, z0.2.2.1, z0.2.2.2.1, by show nLw Θ + 1 ≤ 4; omega⟩, ⟨(y1 0 (by omega) (by omega)).trans z1, (y1 1 (by omega) (by omega)).trans z2, (y1 2 (by omega) (by omega)).trans z3, (y1 3 (by omega) (by omega)).trans z4, y2⟩, (y3 11 (by omega) (by omega) (by omega)).trans z6, (y3 12 (by omega) (by omega) (by omega)).trans z7, (y3 13 (by omega) (by omega) (by omega)).trans z8, (y3 16 (by omega) (by omega) (by omega)).trans z9, y4⟩) (fun z0 dx => by
          have z1 : s16.1 3 8 = 0 := by
            rw [fr_1 c3 rfl, wI_1, if_neg (by omega)] at z0
            exact z0
          refine DX_lw dx y3 ⟨cs, [], by rw [List.append_nil, (y4 z1).2], ?_, ?_⟩ ⟨es, [], by rw [List.append_nil], ?_, ?_⟩
          · rw [kC _ _ (by omega) (by omega), wI_1, if_neg (by omega), fr_1 b3 (sumF_n (by omega)), wI_s]
            exact o3.1.2.2.2.1.1
          · rw [kC _ _ (by omega) (by omega), wI_s, y2.2.2.2.1.1, List.length_append, (y4 z1).2]
          · rw [kR _ _ (by omega), ← hq, wI_1, if_neg (by omega), fr_1 b4 (xH_24 (by omega) (by omega)), wI_s]
            exact o3.1.2.2.2.2.1.1
          · rw [kR _ _ (by omega), ← hq, wI_s, y2.2.2.2.2.1.1, List.length_append, Nat.add_assoc]) (fun z x hx => by
          rcases List.mem_append.mp hx with y | y
          · exact z x y
          · rw [List.mem_singleton.mp y]
            exact ⟨Or.inr (Or.inr (Or.inr rfl)), fun q => absurd q (by show ¬ 5 = 0; decide), fun q => absurd q (by show ¬ 5 = 2; decide)⟩)
        have w2' : tlR (nI j) 14 3 s13 = some τ' := w2
        exact ⟨σ', τ', eC _ (by rw [c1', bn1_s, w1]), eR _ (by rw [c2', bn1_s, w2']), fr_tr fC1 (fr_tr (hdC_p c3) w3), fr_tr fR1 (fr_tr (hdR_t c4) w4), Or.inl ⟨_, _, _, _, _, _, by omega, w5⟩⟩
      · obtain ⟨σ', w1, w2, w3⟩ := (KC_incC (c := 4) (by decide) hr) s21 g1
        obtain ⟨τ', z1, z2, z3⟩ := (KR_tl (L := L) g1.1 (v3 := nI j) (o := 14) (sr := 3)) s13 g2
        exact ⟨σ', τ', eC _ (by rw [c1', bn1_s, w1]), eR _ (by rw [c2', bn1_s, z1]), fr_tr fC1 (fr_tr (hdC_p c3) w3), fr_tr fR1 (fr_tr (hdR_t c4) z3), Or.inr ⟨f, p, w2, z2⟩⟩
    · have x1 := CS_w (o := r + 6) (j := 22 + nLw Θ) (v := s16.1 r 13) y1 (by omega) (by omega)
      have x2 : spR N tk pl vl f p (wI s10 23 q (s10.1 0 44)) := spR_w y2 ⟨by omega, by decide, by decide, by decide⟩
      obtain ⟨σ', w1, w2, w3⟩ := (KC_b (KC_p (KC_need (K := 25) (by decide))) (KC_incC (c := 4) (by decide) hr)) _ x1
      obtain ⟨τ', z1, z2, z3⟩ := (KR_tl (L := L) y1.1 (v3 := nI j) (o := 14) (sr := 3)) _ x2
      exact ⟨σ', τ', eC _ w1, eR _ (by rw [mustR_s y1.1 x2, bn1_s, z1]), fr_tr fC1 w3, fr_tr fR1 z3, Or.inr ⟨f, p, w2, z2⟩⟩
  · have s14 := CS_w (o := r + 5) (j := 22 + nLw Θ) (v := s11.1 r 13) o1 (by omega) (by omega)
    obtain ⟨s16, b1, b2, b3⟩ := (KC_sum (a := 0)) _ s14
    have s19 := CS_w (o := r + 6) (j := 22 + nLw Θ) (v := s16.1 r 13) b2 (by omega) (by omega)
    obtain ⟨σ', w1, w2, w3⟩ := (KC_b (KC_p (KC_need (K := 25) (by decide))) (KC_incC (c := 4) (by decide) hr)) _ s19
    have t8 : spR N tk pl vl f p (wI s7 22 q (s7.1 0 44)) := spR_w o2 ⟨by omega, by decide, by decide, by decide⟩
    obtain ⟨s10, e1, c1, f1⟩ := (KR_exp (L := L) o1.1) _ t8
    have t11 : spR N tk pl vl f p (wI s10 23 q (s10.1 0 44)) := spR_w c1 ⟨by omega, by decide, by decide, by decide⟩
    obtain ⟨τ', z1, z2, z3⟩ := (KR_tl (L := L) o1.1 (v3 := nI j) (o := 14) (sr := 3)) _ t11
    refine ⟨σ', τ', ?_, ?_, fr_tr (hdC_p a3) (fr_tr (fr_wIp (by omega)) (fr_tr (sumF_p b3) (fr_tr (fr_wIp (by omega)) w3))), fr_tr (hdR_t a4) (fr_tr (tF_w (by omega)) (fr_tr (liF_t (liF_x f1)) (fr_tr (tF_w (by omega)) z3))), Or.inr ⟨f, p, w2, z2⟩⟩
    · unfold lwT
      have w1' : bn1 (pX7_need (25 : Int32) (wI s16 (r + 6) (22 + nLw Θ) (s16.1 r 13))) (incC 4) = some σ' := w1
      rw [a1', bn1_s, d11, gT_p hr, start_C (by omega), bn1_s, b1, bn1_s, b2.2.2.1, gT_p hr, end_C (by omega), bn1_s, w1']
    · unfold lrT
      rw [a2', bn1_s, gx_i hq52 (by decide), nI_clamp (by omega), lt_b, e1, bn1_s, gx_i hq52 (by decide), lt_b, mustR_s o1.1 t11, bn1_s, z1]
theorem lawQ (hT : TkOK N tk pl) (hr : tR r = true) (hL : L < 2) {k : Nat} {cs : List (Int32 × Int32)} {es : List cEl} {lts : List lEl} {Θ : Tld} {nm : List nEl} {σ τ : gS} (h : MX N tk pl vl r L k cs es lts Θ nm nm σ τ) (ht : tk k = 5) : ∃ σ' τ', pX7_tellLaw σ = some σ' ∧ pX11_tell τ = some τ' ∧ fr (pcF r) σ σ' ∧ fr (tF L) τ τ' ∧ TO N tk pl vl r L k σ' τ' := by
  have hcn := h.2.2.2.1
  have h19 := h.2.2.2.2.1
  have hb := hcn.1
  rw [tell_un hT h.1.2.1 h.1.1.1 ht, if_neg (show ¬ nI (kp 5) = 20 by decide), if_neg (show ¬ nI (kp 5) = 22 by decide), if_neg (show ¬ nI (kp 5) = 23 by decide), if_neg (show ¬ nI (kp 5) = 24 by decide), if_pos (show nI (kp 5) = 25 from rfl), h19, gx_i hL (by decide), nI_clamp (by omega), hcn.2.2.2.2.2.2, law_un, h.1.2.2.1, gT_p hr, hcn.2.1.2.2.2.2]
  by_cases hf : nLw Θ = 4
  · obtain ⟨s4, s2, e1, e2, f1, f2, ss⟩ := openF hT hr h
    rw [if_pos (show (4 : Int32) ≤ nI (nLw Θ) from nI_le (a := 4) (by omega) (by omega)), bn1_s, e1, bn2_s, if_00, if_pos (show nI (nLw Θ) = 4 by rw [hf]; rfl), e2, bn1_s, bn1_s, sp_fail ss]
    exact ⟨s4, s2, rfl, rfl, hdC_p f1, hdR_t f2, Or.inr ss⟩
  · have hlt : nLw Θ < 4 := by omega
    have h30' : nTot Θ < 30 := by unfold nTot; omega
    have eqq : (26 : Int32) * nI L + (22 : Int32) + nI (nLw Θ) = nI (26 * L + 22 + nLw Θ) := by rw [show (26 : Int32) = nI 26 from rfl, show (22 : Int32) = nI 22 from rfl, nI_mulS, nI_add, nI_add]
    obtain ⟨v, s4, s2, e1, e2, f1, f2, out⟩ := openQ hT hr h (by omega)
    rw [if_neg (show ¬ (4 : Int32) ≤ nI (nLw Θ) from nI_ge (b := 4) hlt (by decide)), bn1_s, e1, bn2_s, if_neg (show ¬ nI (nLw Θ) = 4 from nI_neT (K := 4) hf (by omega) (by omega)), bn1_s, h.1.2.1.2.1, if_00, lawR_un, h19, gx_i hL (by decide), nI_clamp (by omega), hcn.2.2.2.2.2.2, eqq, lt_b, e2, bn1_s]
    rcases out with ⟨rfl, o1, o2⟩ | ⟨rfl, ss⟩
    · have hcn2 := o2.2.2.2.1
      have e6 : (22 : Int32) + nI (nLw Θ) = nI (22 + nLw Θ) := by rw [show (22 : Int32) = nI 22 from rfl, nI_add]
      rw [if_10, o2.1.2.2.1, gT_p hr, hcn2.2.1.2.2.2.2, lt_b, gT_p hr, hcn2.2.1.2.2.2.2, e6]
      obtain ⟨s9, t4, a1, a2, a3, a4, out2⟩ := nameQ (kd := 5) (num := nLw Θ) hT hr o2 h30'
      have a1' : pX7_tellName 5 (nI (nLw Θ)) s4 = some s9 := a1
      rw [a1', bn1_s, a2, bn2_s]
      have fC1 : fr (pcF r) σ s9 := fr_tr (hdC_p f1) a3
      have fR1 : fr (tF L) τ t4 := fr_tr (hdR_t f2) (hbR_t a4)
      rcases out2 with ⟨b1, b2, b3⟩ | ⟨f, p, b1, b2⟩
      · obtain ⟨σ', τ', y1, y2, y3, y4, y5⟩ := lawFQ (q := 26 * L + 22 + nLw Θ) hT hr hL b3 o2.1.1.1 b2 hlt rfl
        rw [y2, bn1_s]
        exact ⟨σ', τ', y1, rfl, fr_tr fC1 y3, fr_tr fR1 y4, TO_k (by omega) y5⟩
      · obtain ⟨σ', y1, y2, y3⟩ := (KC_lwT (g := 22 + nLw Θ) (by omega) hr) s9 b1
        obtain ⟨τ', z1, z2, z3⟩ := (KR_lrT (L := L) (q := 26 * L + 22 + nLw Θ) b1.1 (by omega) (by omega) (by omega) (v := nI (k + 1))) t4 b2
        rw [z1, bn1_s]
        exact ⟨σ', τ', y1, rfl, fr_tr fC1 y3, fr_tr fR1 z3, Or.inr ⟨f, p, y2, z2⟩⟩
    · obtain ⟨f, p, b1, b2⟩ := ss
      obtain ⟨τ', z1, z2, z3⟩ := (KR_lrT (L := L) (q := 26 * L + 22 + nLw Θ) b1.1 (by omega) (by omega) (by omega) (v := s2.1 0 11)) s2 b2
      rw [nd_un, lt_b, mustR_s b1.1 b2, bn1_s, nl_stop b1.1 b2, bn1_s, bn2_s, z1, bn1_s]
      exact ⟨s4, τ', if_00, rfl, hdC_p f1, fr_tr (hdR_t f2) z3, Or.inr ⟨f, p, b1, z2⟩⟩
end LAWQ
