/-! read: a book, a say, a law: both sides -/
noncomputable def syT (x6 : Int32) (s9 : gS) : Option gS := bn1 (pX10_inRange (s9.1 3 3) (16 : Int32) (22 : Int32)) (fun v10 => bn1 (if v10 = 0 then bn1 (pX7_fail (1 : Int32) s9) (fun s14 => some s14) else gT (s9.2.2 3 1) tR (fun rr15 => gT (s9.2.2 3 1) tR (fun rr16 => gx (s9.1 rr16 1) 16 (lt' (wI s9 (rr15 + 1) (s9.1 rr16 1).toNatClampNeg ((s9.1 3 3) - (16 : Int32))) (fun s17 => bn1 (pX7_take s17) (fun s19 => some s19)))))) (cdT x6 1))
theorem say_un {σ : gS} : pX7_tellSay σ = gT (σ.2.2 3 1) tR (fun rr1 => bn1 (if (16 : Int32) ≤ (σ.1 rr1 1) then some (0 : Int32) else some (1 : Int32)) (fun (z2 : Int32) => bn2 (pX7_open z2 σ) (fun v3 s4 => if v3 = 0 then some s4 else gT (s4.2.2 3 1) tR (fun rr5 => lt' ((6 : Int32) + (s4.1 rr5 1)) (fun x6 => gT (s4.2.2 3 1) tR (fun rr7 => bn1 (pX7_tellName (2 : Int32) (s4.1 rr7 1) s4) (syT x6))))))) := rfl
noncomputable def srU (v3 : Int32) (s10 : gS) : Option gS := bn1 (pX11_goesOn s10) (fun s12 => gx (s12.1 0 19) 2 (bn1 (pX11_condition ((((26 : Int32) * (s12.1 0 19)) + (6 : Int32)) + (s12.1 12 (s12.1 0 19).toNatClampNeg)) s12) (fun s14 => bn1 (pX11_must (4 : Int32) s14) (tlR v3 12 1))))
noncomputable def srT (v3 : Int32) (s4 : gS) : Option gS := bn1 (if (s4.1 0 13) = 0 then gx (s4.1 0 11) 403 (if (s4.1 3 (s4.1 0 11).toNatClampNeg) < (26 : Int32) then bn1 (pX11_fail (1 : Int32) s4) (fun s7 => some s7) else gx (s4.1 0 11) 403 (if (s4.1 3 (s4.1 0 11).toNatClampNeg) ≤ (32 : Int32) then some s4 else bn1 (pX11_fail (1 : Int32) s4) (fun s9 => some s9))) else some s4) (fun (z5 : gS) => if (z5.1 0 13) ≤ 0 then gx (z5.1 0 19) 2 (gx (z5.1 0 11) 403 (gx (((16 : Int32) * (z5.1 0 19)) + (z5.1 12 (z5.1 0 19).toNatClampNeg)) 32 (lt' (wI z5 15 (((16 : Int32) * (z5.1 0 19)) + (z5.1 12 (z5.1 0 19).toNatClampNeg)).toNatClampNeg ((z5.1 3 (z5.1 0 11).toNatClampNeg) - (26 : Int32))) (srU v3)))) else some z5)
theorem sayR_un {τ : gS} : pX11_tellSay τ = bn1 (pX11_goesOn τ) (fun s2 => bn2 (pX11_named s2) srT) := rfl
noncomputable def lwT (x6 : Int32) (s9 : gS) : Option gS := bn1 (pX7_need (26 : Int32) s9) (fun s11 => gT (s11.2.2 3 1) tR (fun rr12 => bn1 (pX9_startFormula rr12 x6 s11) (fun s14 => bn1 (pX7_sum (0 : Int32) s14) (fun s16 => gT (s16.2.2 3 1) tR (fun rr17 => bn1 (pX9_endFormula rr17 x6 s16) (fun s19 => bn1 (pX7_need (25 : Int32) s19) (incC 4)))))))
theorem law_un {σ : gS} : pX7_tellLaw σ = gT (σ.2.2 3 1) tR (fun rr1 => bn1 (if (4 : Int32) ≤ (σ.1 rr1 4) then some (0 : Int32) else some (1 : Int32)) (fun (z2 : Int32) => bn2 (pX7_open z2 σ) (fun v3 s4 => if v3 = 0 then some s4 else gT (s4.2.2 3 1) tR (fun rr5 => lt' ((22 : Int32) + (s4.1 rr5 4)) (fun x6 => gT (s4.2.2 3 1) tR (fun rr7 => bn1 (pX7_tellName (5 : Int32) (s4.1 rr7 4) s4) (lwT x6))))))) := rfl
noncomputable def lrT (x1 v4 : Int32) (s5 : gS) : Option gS := bn1 (pX11_must (15 : Int32) s5) (fun s7 => gx x1 52 (lt' (wI s7 22 x1.toNatClampNeg (s7.1 0 44)) (fun s8 => bn1 (pX11_expression s8) (fun s10 => gx x1 52 (lt' (wI s10 23 x1.toNatClampNeg (s10.1 0 44)) (fun s11 => bn1 (pX11_must (4 : Int32) s11) (tlR v4 14 3)))))))
theorem lawR_un {τ : gS} : pX11_tellLaw τ = gx (τ.1 0 19) 2 (lt' ((((26 : Int32) * (τ.1 0 19)) + (22 : Int32)) + (τ.1 14 (τ.1 0 19).toNatClampNeg)) (fun x1 => bn1 (pX11_goesOn τ) (fun s3 => bn2 (pX11_named s3) (lrT x1)))) := rfl
theorem KC_syT {f p r g : Nat} (hg : g < 26) (hr : tR r = true) : KC (pcF r) f p r (syT (nI g)) := fun σ h => by
  obtain ⟨s1, e1, c1, f1⟩ := (KC_p (KC_fail (a := 1))) σ h
  obtain ⟨s2, e2, c2, f2⟩ := (KC_cdT (g := g) (c := 1) hg (by decide) hr) s1 c1
  refine ⟨s2, ?_, c2, fr_tr f1 f2⟩
  unfold syT
  rw [h.2.1.1, inR, if_neg (show ¬ ((16 : Int32) ≤ 38 ∧ (38 : Int32) ≤ 22) by decide), bn1_s, if_00, e1, bn1_s, bn1_s, e2]
theorem KC_lwT {f p r g : Nat} (hg : g < 26) (hr : tR r = true) : KC (pcF r) f p r (lwT (nI g)) :=
  KC_b (KC_p (KC_need (K := 26) (by decide))) (KC_T (g := fun rr12 s11 => bn1 (pX9_startFormula rr12 (nI g) s11) (fun s14 => bn1 (pX7_sum (0 : Int32) s14) (fun s16 => gT (s16.2.2 3 1) tR (fun rr17 => bn1 (pX9_endFormula rr17 (nI g) s16) (fun s19 => bn1 (pX7_need (25 : Int32) s19) (incC 4)))))) (KC_b (KC_start hg hr) (KC_b (KC_p KC_sum) (KC_T (g := fun rr17 s16 => bn1 (pX9_endFormula rr17 (nI g) s16) (fun s19 => bn1 (pX7_need (25 : Int32) s19) (incC 4))) (KC_b (KC_end hg hr) (KC_b (KC_p (KC_need (K := 25) (by decide))) (KC_incC (by decide) hr)))))))
theorem v_7 : ∀ T, T ≤ 37 → (16 ≤ T ∧ T ≤ 22 ∧ ¬ nI (kp T) < (26 : Int32) ∧ nI (kp T) ≤ (32 : Int32) ∧ nI (kp T) - (26 : Int32) = nI (T - 16) ∧ nI T - (16 : Int32) = nI (T - 16)) ∨ (¬ (16 ≤ T ∧ T ≤ 22) ∧ (nI (kp T) < (26 : Int32) ∨ ¬ nI (kp T) ≤ (32 : Int32))) := by decide +kernel
section SAYQ
variable {N : Nat} {tk pl : Nat → Nat} {vl : Nat → Int64} {r L : Nat}
theorem TO_k {k k' : Nat} {σ τ : gS} (h : k ≤ k') (t : TO N tk pl vl r L k' σ τ) : TO N tk pl vl r L k σ τ := by
  rcases t with ⟨k2, x1, x2, x3, x4, x5, x6, x7⟩ | t
  · exact Or.inl ⟨k2, x1, x2, x3, x4, x5, by omega, x7⟩
  · exact Or.inr t
theorem KR_srT {f p : Nat} (hf : fpO f p) {v : Int32} : KR N tk pl vl (tF L) f p (srT v) := fun τ h => ⟨τ, by unfold srT; rw [if_neg (sp_n hf h).1, bn1_s, if_neg (sp_n hf h).2], h, fr_rf⟩
theorem KR_lrT {f p q : Nat} (hf : fpO f p) (hq : q < 52) (h1 : 26 * L ≤ q) (h2 : q < 26 * L + 26) {v : Int32} : KR N tk pl vl (tF L) f p (lrT (nI q) v) := fun τ h => by
  have s0 : spR N tk pl vl f p (wI τ 22 q (τ.1 0 44)) := spR_w h ⟨by omega, by decide, by decide, by decide⟩
  obtain ⟨s10, e1, c1, f1⟩ := (KR_exp (L := L) hf) _ s0
  have s1 : spR N tk pl vl f p (wI s10 23 q (s10.1 0 44)) := spR_w c1 ⟨by omega, by decide, by decide, by decide⟩
  obtain ⟨s2, e2, c2, f2⟩ := (KR_tl (L := L) hf (v3 := v) (o := 14) (sr := 3)) _ s1
  refine ⟨s2, ?_, c2, fr_tr (tF_w (by omega)) (fr_tr (liF_t (liF_x f1)) (fr_tr (tF_w (by omega)) f2))⟩
  unfold lrT
  rw [mustR_s hf h, bn1_s, gx_i hq (by decide), nI_clamp (by omega), lt_b, e1, bn1_s, gx_i hq (by decide), lt_b, mustR_s hf s1, bn1_s, e2]
theorem bookQ (hT : TkOK N tk pl) (hr : tR r = true) (hL : L < 2) {k : Nat} {cs : List (Int32 × Int32)} {es : List cEl} {lts : List lEl} {Θ : Tld} {nm : List nEl} {σ τ : gS} (h : MX N tk pl vl r L k cs es lts Θ nm nm σ τ) (ht : tk k = 3) : ∃ σ' τ', pX7_tellBook σ = some σ' ∧ pX11_tell τ = some τ' ∧ fr (pcF r) σ σ' ∧ fr (tF L) τ τ' ∧ TO N tk pl vl r L k σ' τ' := by
  have hcn := h.2.2.2.1
  have h19 := h.2.2.2.2.1
  have hb := hcn.1
  rw [tell_un hT h.1.2.1 h.1.1.1 ht, if_neg (show ¬ nI (kp 3) = 20 by decide), if_neg (show ¬ nI (kp 3) = 22 by decide), if_pos (show nI (kp 3) = 23 from rfl), h19, gx_i hL (by decide), nI_clamp (by omega), hcn.2.2.2.2.1, book_un, h.1.2.2.1, gT_p hr, hcn.2.1.2.2.1]
  by_cases hf : nBk Θ = 4
  · obtain ⟨s4, s2, e1, e2, f1, f2, ss⟩ := openF hT hr h
    rw [if_pos (show (4 : Int32) ≤ nI (nBk Θ) from nI_le (a := 4) (by omega) (by omega)), bn1_s, e1, bn2_s, if_00, if_pos (show nI (nBk Θ) = 4 by rw [hf]; rfl), e2, bn1_s, bn1_s, sp_fail ss]
    exact ⟨s4, s2, rfl, rfl, hdC_p f1, hdR_t f2, Or.inr ss⟩
  · have hlt : nBk Θ < 4 := by omega
    have h30' : nTot Θ < 30 := by unfold nTot; omega
    obtain ⟨v, s4, s2, e1, e2, f1, f2, out⟩ := openQ hT hr h (by omega)
    rw [if_neg (show ¬ (4 : Int32) ≤ nI (nBk Θ) from nI_ge (b := 4) hlt (by decide)), bn1_s, e1, bn2_s, if_neg (show ¬ nI (nBk Θ) = 4 from nI_neT (K := 4) hf (by omega) (by omega)), bn1_s, h.1.2.1.2.1, if_00, bookR_un, e2, bn1_s]
    rcases out with ⟨rfl, o1, o2⟩ | ⟨rfl, ss⟩
    · have hcn2 := o2.2.2.2.1
      rw [if_10, o2.1.2.2.1, gT_p hr, hcn2.2.1.2.2.1]
      obtain ⟨s7, t4, a1, a2, a3, a4, out2⟩ := nameQ (kd := 3) (num := nBk Θ) hT hr o2 h30'
      have a1' : pX7_tellName 3 (nI (nBk Θ)) s4 = some s7 := a1
      rw [a1', bn1_s, a2, bn2_s]
      have fC1 : fr (pcF r) σ s7 := fr_tr (hdC_p f1) a3
      have fR1 : fr (tF L) τ t4 := fr_tr (hdR_t f2) (hbR_t a4)
      rcases out2 with ⟨b1, b2, b3⟩ | ⟨f, p, b1, b2⟩
      · obtain ⟨s9, s6, c1, c2, c3, c4, out3⟩ := needMX (K := 25) hT hr (by decide) b3
        have c1' : pX7_need (25 : Int32) s7 = some s9 := c1
        have c2' : pX11_must (4 : Int32) t4 = some s6 := c2
        rw [c1', bn1_s, c2', bn1_s]
        rcases out3 with ⟨g1, g2, g3⟩ | ⟨f, p, g1, g2⟩
        · have z := g3.2.2.2.1
          obtain ⟨σ', τ', y1, y2, y3, y4, y5⟩ := endQ (c := 2) (o := 13) (Θ' := addBk Θ) hT hr hL g3 o2.1.1.1 b2 (by omega) (by omega) z.2.1.2.2.1 z.2.2.2.2.1 (by show nSg Θ + nSy Θ + (nBk Θ + 1) + nLw Θ = nSg Θ + nSy Θ + nBk Θ + nLw Θ + 1; omega) h30' (fun σ' τ' y1 y2 y3 y4 => by
            obtain ⟨z0, ⟨z1, z2, z3, z4, z5⟩, z6, z7, z8, z9, z10⟩ := z
            exact ⟨⟨z0.1, z0.2.1, by show nBk Θ + 1 ≤ 4; omega, z0.2.2.2⟩, ⟨(y1 0 (by omega) (by omega)).trans z1, (y1 1 (by omega) (by omega)).trans z2, y2, (y1 3 (by omega) (by omega)).trans z4, (y1 4 (by omega) (by omega)).trans z5⟩, (y3 11 (by omega) (by omega) (by omega)).trans z6, (y3 12 (by omega) (by omega) (by omega)).trans z7, y4, (y3 16 (by omega) (by omega) (by omega)).trans z9, (y3 14 (by omega) (by omega) (by omega)).trans z10⟩) (fun _ dx => DX_bk dx) (fun z x hx => by
            rcases List.mem_append.mp hx with y | y
            · exact z x y
            · rw [List.mem_singleton.mp y]
              exact ⟨Or.inr (Or.inr (Or.inl rfl)), fun q => absurd q (by show ¬ 3 = 0; decide), fun q => absurd q (by show ¬ 3 = 2; decide)⟩)
          have y2' : tlR (nI (k + 1)) 13 2 s6 = some τ' := y2
          rw [y2', bn1_s]
          exact ⟨σ', τ', y1, rfl, fr_tr fC1 (fr_tr (hdC_p c3) y3), fr_tr fR1 (fr_tr (hdR_t c4) y4), Or.inl ⟨_, _, _, _, _, _, by omega, y5⟩⟩
        · obtain ⟨σ', y1, y2, y3⟩ := (KC_incC (c := 2) (by decide) hr) s9 g1
          obtain ⟨τ', z1, z2, z3⟩ := (KR_tl (L := L) g1.1 (v3 := nI (k + 1)) (o := 13) (sr := 2)) s6 g2
          rw [z1, bn1_s]
          exact ⟨σ', τ', y1, rfl, fr_tr fC1 (fr_tr (hdC_p c3) y3), fr_tr fR1 (fr_tr (hdR_t c4) z3), Or.inr ⟨f, p, y2, z2⟩⟩
      · obtain ⟨σ', y1, y2, y3⟩ := (KC_b (KC_p (KC_need (K := 25) (by decide))) (KC_incC (c := 2) (by decide) hr)) s7 b1
        obtain ⟨τ', z1, z2, z3⟩ := (KR_tl (L := L) b1.1 (v3 := nI (k + 1)) (o := 13) (sr := 2)) t4 b2
        rw [mustR_s b1.1 b2, bn1_s, z1, bn1_s]
        exact ⟨σ', τ', y1, rfl, fr_tr fC1 y3, fr_tr fR1 z3, Or.inr ⟨f, p, y2, z2⟩⟩
    · obtain ⟨f, p, b1, b2⟩ := ss
      obtain ⟨τ', z1, z2, z3⟩ := (KR_tl (L := L) b1.1 (v3 := s2.1 0 11) (o := 13) (sr := 2)) s2 b2
      rw [nd_un, lt_b, mustR_s b1.1 b2, bn1_s, nl_stop b1.1 b2, bn1_s, bn2_s, mustR_s b1.1 b2, bn1_s, z1, bn1_s]
      exact ⟨s4, τ', if_00, rfl, hdC_p f1, fr_tr (hdR_t f2) z3, Or.inr ⟨f, p, b1, z2⟩⟩
theorem sayQ (hT : TkOK N tk pl) (hr : tR r = true) (hL : L < 2) {k : Nat} {cs : List (Int32 × Int32)} {es : List cEl} {lts : List lEl} {Θ : Tld} {nm : List nEl} {σ τ : gS} (h : MX N tk pl vl r L k cs es lts Θ nm nm σ τ) (ht : tk k = 2) : ∃ σ' τ', pX7_tellSay σ = some σ' ∧ pX11_tell τ = some τ' ∧ fr (pcF r) σ σ' ∧ fr (tF L) τ τ' ∧ TO N tk pl vl r L k σ' τ' := by
  have h9 := tR_9 hr
  have hcn := h.2.2.2.1
  have h19 := h.2.2.2.2.1
  have hb := hcn.1
  rw [tell_un hT h.1.2.1 h.1.1.1 ht, if_neg (show ¬ nI (kp 2) = 20 by decide), if_pos (show nI (kp 2) = 22 from rfl), h19, gx_i hL (by decide), nI_clamp (by omega), hcn.2.2.2.1, say_un, h.1.2.2.1, gT_p hr, hcn.2.1.2.1]
  by_cases hf : nSy Θ = 16
  · obtain ⟨s4, s2, e1, e2, f1, f2, ss⟩ := openF hT hr h
    rw [if_pos (show (16 : Int32) ≤ nI (nSy Θ) from nI_le (a := 16) (by omega) (by omega)), bn1_s, e1, bn2_s, if_00, if_pos (show nI (nSy Θ) = 16 by rw [hf]; rfl), e2, bn1_s, bn1_s, sp_fail ss]
    exact ⟨s4, s2, rfl, rfl, hdC_p f1, hdR_t f2, Or.inr ss⟩
  · have hlt : nSy Θ < 16 := by omega
    have h30' : nTot Θ < 30 := by unfold nTot; omega
    obtain ⟨v, s4, s2, e1, e2, f1, f2, out⟩ := openQ hT hr h (by omega)
    rw [if_neg (show ¬ (16 : Int32) ≤ nI (nSy Θ) from nI_ge (b := 16) hlt (by decide)), bn1_s, e1, bn2_s, if_neg (show ¬ nI (nSy Θ) = 16 from nI_neT (K := 16) hf (by omega) (by omega)), bn1_s, h.1.2.1.2.1, if_00, sayR_un, e2, bn1_s]
    rcases out with ⟨rfl, o1, o2⟩ | ⟨rfl, ss⟩
    · have hcn2 := o2.2.2.2.1
      have e6 : (6 : Int32) + nI (nSy Θ) = nI (6 + nSy Θ) := by rw [show (6 : Int32) = nI 6 from rfl, nI_add]
      rw [if_10, o2.1.2.2.1, gT_p hr, hcn2.2.1.2.1, lt_b, gT_p hr, hcn2.2.1.2.1, e6]
      obtain ⟨s9, t4, a1, a2, a3, a4, out2⟩ := nameQ (kd := 2) (num := nSy Θ) hT hr o2 h30'
      have a1' : pX7_tellName 2 (nI (nSy Θ)) s4 = some s9 := a1
      rw [a1', bn1_s, a2, bn2_s]
      have fC1 : fr (pcF r) σ s9 := fr_tr (hdC_p f1) a3
      have fR1 : fr (tF L) τ t4 := fr_tr (hdR_t f2) (hbR_t a4)
      rcases out2 with ⟨b1, b2, b3⟩ | ⟨f, p, b1, b2⟩
      · have hcn3 := b3.2.2.2.1
        have hk2 := b3.1.1.1
        have hk24 := k_400 hT hk2
        have htk2 := (hT.2.2.2.1 (k + 1 + 1) hk2).1
        have iC : pX10_inRange (nI (tk (k + 1 + 1))) (16 : Int32) (22 : Int32) = some (b01 (decide (16 ≤ tk (k + 1 + 1) ∧ tk (k + 1 + 1) ≤ 22))) := inb_c (lo := 16) (hi := 22) (by omega) (by decide) (by decide)
        unfold syT srT
        rw [b3.1.1.2.2.1, iC, bn1_s, b3.1.2.1.2.1, if_00, b3.1.2.1.1, gx_i (by omega) (by decide), nI_clamp (by omega), (b3.1.2.1.2.2 _ hk2).1]
        rcases (v_7 (tk (k + 1 + 1)) htk2).symm with ⟨z1, z2⟩ | ⟨z1, z2, z3, z4, z5, z6⟩
        · obtain ⟨s14, s7, c1, c2, c3, c4, f, p, c5, c6⟩ := failGO (f := 1) hT hr (Or.inl rfl) b3.1
          simp only [show nI 1 = 1 from rfl] at c1 c2
          obtain ⟨σ', y1, y2, y3⟩ := (KC_cdT (g := 6 + nSy Θ) (c := 1) (by omega) (by decide) hr) s14 c5
          have e0 : (if nI (kp (tk (k + 1 + 1))) < (26 : Int32) then bn1 (some s7) (fun s7 => some s7) else gx (nI (k + 1 + 1)) 403 (if nI (kp (tk (k + 1 + 1))) ≤ (32 : Int32) then some t4 else bn1 (some s7) (fun s9 => some s9))) = some s7 := by
            by_cases w1 : nI (kp (tk (k + 1 + 1))) < (26 : Int32)
            · rw [if_pos w1]; rfl
            · rw [if_neg w1, gx_i (by omega) (by decide), if_neg (z2.resolve_left w1)]; rfl
          rw [decide_eq_false z1, if_b0, c1, bn1_s, bn1_s, c2, e0, bn1_s, if_neg (sp_n c5.1 c6).2, bn1_s]
          exact ⟨σ', s7, y1, rfl, fr_tr fC1 (fr_tr (hdC_p c3) y3), fr_tr fR1 (hdR_t c4), Or.inr ⟨f, p, y2, c6⟩⟩
        · have m1 := MX_wC (o := r + 1) (j := nSy Θ) (v := nI (tk (k + 1 + 1) - 16)) hr b3 (by omega) (by omega) (by unfold uC; omega)
          have m2 := MX_wR (o := 15) (j := 16 * L + nSy Θ) (v := nI (tk (k + 1 + 1) - 16)) m1 (by omega) (by unfold uR; omega)
          obtain ⟨s19, s12, c1, c2, c3, c4, out3⟩ := goMX hT hr m2 (by omega)
          have e16 : (16 : Int32) * nI L + nI (nSy Θ) = nI (16 * L + nSy Θ) := by rw [show (16 : Int32) = nI 16 from rfl, nI_mulS, nI_add]
          have eqq : (26 : Int32) * nI L + (6 : Int32) + nI (nSy Θ) = nI (26 * L + 6 + nSy Θ) := by rw [show (26 : Int32) = nI 26 from rfl, show (6 : Int32) = nI 6 from rfl, nI_mulS, nI_add, nI_add]
          have g19 : s12.1 0 19 = nI L := by rw [fr_1 c4 rfl, wI_1, if_neg (by omega)]; exact b3.2.2.2.2.1
          have g12 : s12.1 12 L = nI (nSy Θ) := by rw [fr_1 c4 rfl, wI_1, if_neg (by omega)]; exact hcn3.2.2.2.1
          have x1 : s19.1 (r + 1) (nSy Θ) = nI (tk (k + 1 + 1) - 16) := by rw [fr_1 (hdC_s (r := r) c3) (sumF_n (by omega)), wI_s]
          have x2 : s12.1 15 (16 * L + nSy Θ) = nI (tk (k + 1 + 1) - 16) := by rw [fr_1 c4 rfl, wI_s]
          rw [decide_eq_true ⟨z1, z2⟩, if_b1, b3.1.2.2.1, gT_p hr, gT_p hr, hcn3.2.1.2.1, gx_i hlt (by decide), nI_clamp (by omega), z6, lt_b, c1, bn1_s, bn1_s, if_neg z3, gx_i (by omega) (by decide), if_pos z4, bn1_s, b3.1.2.1.2.1, if_pos (show (0 : Int32) ≤ 0 by decide), b3.2.2.2.2.1, gx_i hL (by decide), b3.1.2.1.1, gx_i (by omega) (by decide), nI_clamp (by omega), hcn3.2.2.2.1, e16, gx_i (by omega) (by decide), nI_clamp (by omega), nI_clamp (by omega), (b3.1.2.1.2.2 _ hk2).1, z5, lt_b]
          unfold srU
          rw [c2, bn1_s, g19, gx_i hL (by decide), nI_clamp (by omega), g12, eqq]
          have fC2 : fr (pcF r) σ s19 := fr_tr fC1 (fr_tr (fr_wIp (by omega)) (hdC_p c3))
          have fR2 : fr (tF L) τ s12 := fr_tr fR1 (fr_tr (tF_w (by omega)) (hdR_t c4))
          rcases out3 with ⟨g1, g2⟩ | ⟨f, p, g1, g2⟩
          · obtain ⟨σ', τ', y1, y2, y3, y4, y5⟩ := cdQ (c := 1) (o := 12) (fC := 6 + nSy Θ) (q := 26 * L + 6 + nSy Θ) hT hr hL (addSy Θ (tk (k + 1 + 1) - 16)) g2 o2.1.1.1 b2 (by omega) (by omega) (fun σ τ z => ⟨z.2.1.2.1, z.2.2.2.1⟩) (fun nl => by show nSg Θ + (nSy Θ + 1) + nBk Θ + nLw Θ = nSg Θ + nSy Θ + nBk Θ + nLw Θ + 1; omega) h30' (fun nl σ τ σ' τ' z y1 y2 y3 y4 => by
              obtain ⟨z0, ⟨z1, z2, z3, z4, z5⟩, z6, z7, z8, z9, z10⟩ := z
              exact ⟨⟨z0.1, by show nSy Θ + 1 ≤ 16; omega, z0.2.2⟩, ⟨(y1 0 (by omega) (by omega)).trans z1, y2, (y1 2 (by omega) (by omega)).trans z3, (y1 3 (by omega) (by omega)).trans z4, (y1 4 (by omega) (by omega)).trans z5⟩, (y3 11 (by omega) (by omega) (by omega)).trans z6, y4, (y3 13 (by omega) (by omega) (by omega)).trans z8, (y3 16 (by omega) (by omega) (by omega)).trans z9, (y3 14 (by omega) (by omega) (by omega)).trans z10⟩) (fun nl cs' es' lts' σ' τ' dx d1 d2 w1 w2 w3 => DX_sy dx hb.1 (by omega) ((d1 _).trans x1) ((d2 _).trans x2) w1 w2 w3) (fun nl z x hx => by
              rcases List.mem_append.mp hx with y | y
              · obtain ⟨y1, y2, y3⟩ := z x y
                exact ⟨y1, y2, fun q => Nat.lt_succ_of_lt (y3 q)⟩
              · rw [List.mem_singleton.mp y]
                exact ⟨Or.inr (Or.inl rfl), fun q => absurd q (by show ¬ 2 = 0; decide), fun _ => Nat.lt_succ_self _⟩) (by omega) (by omega) (fun o => by unfold uC; omega) (fun o => by unfold uR; omega)
            have y2' : bn1 (pX11_condition (nI (26 * L + 6 + nSy Θ)) s12) (fun s6 => bn1 (pX11_must (4 : Int32) s6) (tlR (nI (k + 1)) 12 1)) = some τ' := y2
            rw [y2', bn1_s]
            exact ⟨σ', τ', y1, rfl, fr_tr fC2 y3, fr_tr fR2 y4, TO_k (by omega) y5⟩
          · obtain ⟨σ', y1, y2, y3⟩ := (KC_cdT (g := 6 + nSy Θ) (c := 1) (by omega) (by decide) hr) s19 g1
            obtain ⟨τ', d1, d2, d3⟩ := (KR_cdT (L := L) (q := 26 * L + 6 + nSy Θ) g1.1 (by omega) (by omega) (by omega) (v3 := nI (k + 1)) (sr := 1) (o := 12)) s12 g2
            dsimp only at d1
            rw [d1, bn1_s]
            exact ⟨σ', τ', y1, rfl, fr_tr fC2 y3, fr_tr fR2 d3, Or.inr ⟨f, p, y2, d2⟩⟩
      · obtain ⟨σ', y1, y2, y3⟩ := (KC_syT (g := 6 + nSy Θ) (by omega) hr) s9 b1
        obtain ⟨τ', z1, z2, z3⟩ := (KR_srT (L := L) b1.1 (v := nI (k + 1))) t4 b2
        rw [z1, bn1_s]
        exact ⟨σ', τ', y1, rfl, fr_tr fC1 y3, fr_tr fR1 z3, Or.inr ⟨f, p, y2, z2⟩⟩
    · obtain ⟨f, p, b1, b2⟩ := ss
      obtain ⟨τ', z1, z2, z3⟩ := (KR_srT (L := L) b1.1 (v := s2.1 0 11)) s2 b2
      rw [nd_un, lt_b, mustR_s b1.1 b2, bn1_s, nl_stop b1.1 b2, bn1_s, bn2_s, z1, bn1_s]
      exact ⟨s4, τ', if_00, rfl, hdC_p f1, fr_tr (hdR_t f2) z3, Or.inr ⟨f, p, b1, z2⟩⟩
end SAYQ
