/-! read: a when, both sides, from its first token on -/
section WHENQ3
variable {N : Nat} {tk pl : Nat → Nat} {vl : Nat → Int64} {r L : Nat}
theorem when2 (hT : TkOK N tk pl) (hr : tR r = true) (hL : L < 2) {k : Nat} {cs : List (Int32 × Int32)} {es : List cEl} {lts : List lEl} {Θ : Tld} {nm : List nEl} {s8 s6 : gS} (M : MX N tk pl vl r L k cs es lts Θ nm nm s8 s6) (hlt : nWh Θ < 40) (hbk : nBk Θ = 0 → s8.1 3 8 ≠ 0) : ∃ σ' τ', wC2 s8 = some σ' ∧ wR2 (nI (40 * L + nWh Θ)) s6 = some τ' ∧ fr (pcF r) s8 σ' ∧ fr (tF L) s6 τ' ∧ TO N tk pl vl r L k σ' τ' := by
  have h9 := tR_9 hr
  have hcn := M.2.2.2.1
  have hb := hcn.1
  have hk := M.1.1.1
  have hk4 := k_400 hT hk
  have htk := (hT.2.2.2.1 k hk).1
  have hpl := (hT.2.2.2.1 k hk).2
  obtain ⟨v11, s12, w, t, a1, a2, a3, a4, ko⟩ := knownQ (kd := 0) (lim := nSg Θ) hT hr M (Or.inl rfl) (fun x e h2 _ => h2 e) (by omega)
  have a1' : pX7_nameAhead 0 s8 = some (v11, s12) := a1
  have a2' : pX11_known 0 s6 = some (w, t) := a2
  have c12 : s12.1 r 3 = nI (nWh Θ) := (fr_1 (blC_s (r := r) a3) (sumF_n (by omega))).trans hcn.2.1.2.2.2.1
  have d12 : s12.2.2 3 1 = r := (fr_3 a3 rfl).trans M.1.2.2.1
  have rd12 := rdC_bl a3 M.1.1
  have x12 := CX_bl hr a3 M.1.2.2.2.1
  have l12 : cs.length ≤ 400 := by have := M.1.2.2.2.2.2.2.2.1; omega
  have eC : ∀ σ', bn1 (pX7_need 23 s12) (wC3 (nI (nBk Θ) - 1) v11) = some σ' → wC2 s8 = some σ' := fun σ' e => by
    unfold wC2
    rw [M.1.2.2.1, gT_p hr, hcn.2.1.2.2.1, lt_b, a1', bn2_s, e]
  have eR : ∀ τ', wR3 (nI (40 * L + nWh Θ)) (w, t) = some τ' → wR2 (nI (40 * L + nWh Θ)) s6 = some τ' := fun τ' e => by
    unfold wR2
    rw [M.1.2.1.2.1, if_pos (show (0 : Int32) ≤ 0 by decide), a2', bn2_s, bn1_s, e]
  have fC1 : fr (pcF r) s8 s12 := sumF_p (blC_s a3)
  have fR1 : fr (tF L) s6 t := hbR_t a4
  rcases ko with ⟨k0, k1, k2, k3⟩ | ⟨f, hf, sp, k1⟩
  · obtain ⟨s14, b1, b2, b3⟩ := takeC1 hT rd12 (by omega) k0
    have n23 : pX7_need 23 s12 = some s14 := needC1 (K := 23) (by rw [rd12.2.2.1, k1]) b1
    have pl1 := pl_next hT b2.1
    have g8 : s14.1 3 8 = s12.1 3 8 ∧ s14.1 3 9 = s12.1 3 9 := ⟨fr_1 b3 rfl, fr_1 b3 rfl⟩
    have hm : (s14.1 3 8 = 0 → s8.1 3 8 = 0) ∧ WW (pl (k + 1)) s14 t ∧ (s14.1 3 8 = 0 → ∃ S, S < nSg Θ ∧ v11 = nI S ∧ w = nI S) := by
      rcases k3 with ⟨rfl, q1, q2, S, q3, q4, q5⟩ | ⟨q1, q2, q3, q4⟩ | ⟨rfl, q1, q2⟩
      · exact ⟨fun _ => q1, WW_up (by omega) (WW_eq g8.1 g8.2 rfl rfl q2), fun _ => ⟨S, q3, q4, q5⟩⟩
      · exact ⟨fun z => absurd (g8.1 ▸ z) q3, WW_up (by omega) (WW_eq g8.1 g8.2 rfl rfl q4), fun z => absurd (g8.1 ▸ z) q3⟩
      · exact ⟨fun z => absurd (g8.1 ▸ z) q1, WW_up (by omega) (WW_eq g8.1 g8.2 rfl rfl q2), fun z => absurd (g8.1 ▸ z) q1⟩
    have m1 := MX_hb hr M (fr_tr (blC_hb a3) (hdC_hb b3)) a4 b2 k2 (by omega) hm.2.1 hm.1
    obtain ⟨s16, s11, c1, c2, c3, c4, out⟩ := needMX (K := 2) hT hr (by decide) m1
    have c1' : pX7_need 2 s14 = some s16 := c1
    have c2' : pX11_must 22 t = some s11 := c2
    have g16 : s16.1 3 8 = s14.1 3 8 := fr_1 c3 rfl
    have fC2 : fr (pcF r) s8 s16 := fr_tr fC1 (fr_tr (hdC_p b3) (hdC_p c3))
    have fR2 : fr (tF L) s6 s11 := fr_tr fR1 (hdR_t c4)
    rcases out with ⟨o1, o2, o3⟩ | ⟨f, p, o1, o2⟩
    · obtain ⟨σ', τ', y1, y2, y3, y4, y5⟩ := when4 hT hr hL o3 hlt (fun z y => hbk z (hm.1 (g16 ▸ y))) (fun z => hm.2.2 (g16 ▸ z))
      refine ⟨σ', τ', eC _ (by unfold wC3; rw [n23, bn1_s, c1', bn1_s, y1]), eR _ (by unfold wR3; dsimp only; rw [c2', bn1_s, y2]), fr_tr fC2 y3, fr_tr fR2 y4, TO_k (by omega) y5⟩
    · obtain ⟨σ', y1, y2, y3⟩ := wC4_s (a := nI (nBk Θ) - 1) (b := v11) o1 ((fr_1 (hdC_s (r := r) c3) (sumF_n (by omega))).trans ((fr_1 (hdC_s (r := r) b3) (sumF_n (by omega))).trans c12)) (by omega)
      exact ⟨σ', s11, eC _ (by unfold wC3; rw [n23, bn1_s, c1', bn1_s, y1]), eR _ (by unfold wR3; dsimp only; rw [c2', bn1_s, wR4_s o1.1 o2]), fr_tr fC2 y3, fR2, Or.inr ⟨f, p, y2, o2⟩⟩
  · have stp : ∃ s14, pX7_need 23 s12 = some s14 ∧ CS f (pl k) r s14 ∧ fr hdC s12 s14 := by
      rcases k1 with ⟨rfl, k1, -⟩ | ⟨rfl, k1, k2⟩
      · obtain ⟨s26, b1, b2, b3⟩ := failC1 (f := 1) rd12
        simp only [show nI 1 = 1 from rfl] at b1
        exact ⟨s26, needC0 (K := 23) rd12.2.2.1 (by omega) (by omega) k1 b1, CS_h hr hf b2 d12 ⟨_, l12, x12.1⟩ b3, b3⟩
      · obtain ⟨s26, b1, b2, b3⟩ := takeC2 rd12 k2
        exact ⟨s26, needC1 (K := 23) (by rw [rd12.2.2.1, k1]) b1, CS_h hr hf b2 d12 ⟨_, l12, x12.1⟩ b3, b3⟩
    obtain ⟨s14, b1, b2, b3⟩ := stp
    obtain ⟨σ', y1, y2, y3⟩ := wC3_s (a := nI (nBk Θ) - 1) (b := v11) b2 ((fr_1 (hdC_s (r := r) b3) (sumF_n (by omega))).trans c12) (by omega)
    exact ⟨σ', t, eC _ (by rw [b1, bn1_s, y1]), eR _ (wR3_s hf sp), fr_tr fC1 (fr_tr (hdC_p b3) y3), fR1, Or.inr ⟨f, _, y2, sp⟩⟩
theorem whenQ (hT : TkOK N tk pl) (hr : tR r = true) (hL : L < 2) {k : Nat} {cs : List (Int32 × Int32)} {es : List cEl} {lts : List lEl} {Θ : Tld} {nm : List nEl} {σ τ : gS} (h : MX N tk pl vl r L k cs es lts Θ nm nm σ τ) (ht : tk k = 4) : ∃ σ' τ', pX7_tellWhen σ = some σ' ∧ pX11_tell τ = some τ' ∧ fr (pcF r) σ σ' ∧ fr (tF L) τ τ' ∧ TO N tk pl vl r L k σ' τ' := by
  have h9 := tR_9 hr
  have hcn := h.2.2.2.1
  have h19 := h.2.2.2.2.1
  have hb := hcn.1
  have hk := h.1.1.1
  have hk4 := k_400 hT hk
  have hpl := (hT.2.2.2.1 k hk).2
  have l0 : cs.length ≤ 400 := by have := h.1.2.2.2.2.2.2.2.1; omega
  rw [tell_un hT h.1.2.1 hk ht, if_neg (show ¬ nI (kp 4) = 20 by decide), if_neg (show ¬ nI (kp 4) = 22 by decide), if_neg (show ¬ nI (kp 4) = 23 by decide), if_pos (show nI (kp 4) = 24 from rfl), h19, gx_i hL (by decide), nI_clamp (by omega), hcn.2.2.2.2.2.1, when_un, h.1.2.2.1, gT_p hr, hcn.2.1.2.2.1]
  -- a when without a book
  have hz : ∃ z2 t2, (if nI (nBk Θ) = 0 then bn1 (pX7_blame (4 : Int32) σ) (fun s4 => some s4) else some σ) = some z2 ∧ (if nI (nBk Θ) = 0 then bn1 (pX11_wrong (4 : Int32) (nI k) τ) (fun s4 => some s4) else some τ) = some t2 ∧ fr blC σ z2 ∧ fr blR τ t2 ∧ WW (pl k + 1) z2 t2 ∧ (z2.1 3 8 = 0 → σ.1 3 8 = 0) ∧ (nBk Θ = 0 → z2.1 3 8 ≠ 0) := by
    by_cases hc : nBk Θ = 0
    · obtain ⟨z2, t2, w1, w2, w3, w4, w5, w6⟩ := blame_w (c := 4) (j := k) ⟨by decide, by decide⟩ hpl h.1.1.2.2.2.2.1 h.1.2.1.2.1 (h.1.2.1.2.2 k hk).2.1 (by omega) h.1.2.2.2.2.2.2.1
      simp only [show nI 4 = 4 from rfl] at w1 w2
      exact ⟨z2, t2, by rw [hc, if_pos (show nI 0 = 0 from rfl), w1, bn1_s], by rw [hc, if_pos (show nI 0 = 0 from rfl), w2, bn1_s], w5, w6, w3, fun z => absurd z w4, fun _ => w4⟩
    · have n0 : ¬ nI (nBk Θ) = 0 := nI_ne0 (by omega) (by omega)
      exact ⟨σ, τ, by rw [if_neg n0], by rw [if_neg n0], fr_rf, fr_rf, WW_up (by omega) h.1.2.2.2.2.2.2.1, id, fun z => absurd z hc⟩
  obtain ⟨z2, t2, e1, e2, f1, f2, hw, hm, hnb⟩ := hz
  have rz := rdC_bl f1 h.1.1
  have rt := rdR_bl f2 h.1.2.1
  have dz : z2.2.2 3 1 = r := (fr_3 f1 rfl).trans h.1.2.2.1
  have cz : z2.1 r 3 = nI (nWh Θ) := (fr_1 (blC_s (r := r) f1) (sumF_n (by omega))).trans hcn.2.1.2.2.2.1
  have xz := CX_bl hr f1 h.1.2.2.2.1
  rw [e1, bn1_s, dz, gT_p hr, cz]
  by_cases hf : nWh Θ = 40
  · obtain ⟨s8, b1, b2, b3⟩ := failC1 (f := 2) rz
    obtain ⟨s3, c1, c2, c3⟩ := failR1 (f := 2) h.1.2.1 hk hT
    simp only [show nI 2 = 2 from rfl] at b1 c1
    have hf2 : fpO 2 (pl k) := ⟨Or.inr rfl, hpl⟩
    have cs8 := CS_h hr hf2 b2 dz ⟨_, l0, xz.1⟩ b3
    have eo : pX7_open 0 z2 = some (0, s8) := by
      unfold pX7_open
      rw [if_00, b1, bn1_s, bn1_s, b2.2.1, if_neg (show ¬ nI 2 = 0 by decide)]
    rw [if_pos (show (40 : Int32) ≤ nI (nWh Θ) from nI_le (a := 40) (by omega) (by omega)), bn1_s, eo, bn2_s, if_00, if_pos (show nI (nWh Θ) = 40 by rw [hf]; rfl), c1, bn1_s, bn1_s, if_neg (sp_n hf2 c2).1]
    exact ⟨s8, s3, rfl, rfl, fr_tr (sumF_p (blC_s f1)) (hdC_p b3), hdR_t c3, Or.inr ⟨2, _, cs8, c2⟩⟩
  · have hlt : nWh Θ < 40 := by omega
    have e40 : (40 : Int32) * nI L + nI (nWh Θ) = nI (40 * L + nWh Θ) := by rw [show (40 : Int32) = nI 40 from rfl, nI_mulS, nI_add]
    rw [if_neg (show ¬ (40 : Int32) ≤ nI (nWh Θ) from nI_ge (b := 40) hlt (by decide)), bn1_s, if_neg (show ¬ nI (nWh Θ) = 40 from nI_neT (K := 40) hf (by omega) (by omega)), bn1_s, h.1.2.1.2.1, if_00, whenR_un, h19, gx_i hL (by decide), nI_clamp (by omega), hcn.2.2.2.2.2.1, e40, lt_b, gx_i hL (by decide), hcn.2.2.2.2.1, h.1.2.1.1, e2, bn1_s]
    by_cases hk0 : k < 400
    · obtain ⟨s8, b1, b2, b3⟩ := takeC1 hT rz (by omega) hk0
      obtain ⟨s6, c1, c2, c3⟩ := goesR1 rt hk0
      have pl1 := pl_next hT b2.1
      have eo : pX7_open 1 z2 = some (1, s8) := by
        unfold pX7_open
        rw [if_10, b1, bn1_s, bn1_s, b2.2.2.2.2.2.1, if_00]
      have g8 : s8.1 3 8 = z2.1 3 8 := fr_1 b3 rfl
      have m1 := MX_hb hr h (fr_tr (blC_hb f1) (hdC_hb b3)) (fr_tr (blR_b f2) (hdR_b c3)) b2 c2 (by omega) (WW_up (by omega) (WW_eq g8 (fr_1 b3 rfl) (fr_1 c3 rfl) (fr_1 c3 rfl) hw)) (fun z => hm (g8 ▸ z))
      obtain ⟨σ', τ', y1, y2, y3, y4, y5⟩ := when2 hT hr hL m1 hlt (fun z y => hnb z (g8 ▸ y))
      rw [eo, bn2_s, if_10, c1, bn1_s, y2, bn1_s]
      exact ⟨σ', τ', y1, rfl, fr_tr (sumF_p (blC_s f1)) (fr_tr (hdC_p b3) y3), fr_tr (hbR_t (blR_b f2)) (fr_tr (hdR_t c3) y4), TO_k (by omega) y5⟩
    · have hk0 : k = 400 := by omega
      have hf2 : fpO 2 (pl k) := ⟨Or.inr rfl, hpl⟩
      obtain ⟨s8, b1, b2, b3⟩ := takeC2 rz hk0
      obtain ⟨s6, c1, c2, c3⟩ := goesR2 rt hk hT hk0
      have cs8 := CS_h hr hf2 b2 dz ⟨_, l0, xz.1⟩ b3
      have eo : pX7_open 1 z2 = some (0, s8) := by
        unfold pX7_open
        rw [if_10, b1, bn1_s, bn1_s, b2.2.1, if_neg (show ¬ nI 2 = 0 by decide)]
      rw [eo, bn2_s, if_00, c1, bn1_s, wR2_s hf2 c2, bn1_s]
      exact ⟨s8, s6, rfl, rfl, fr_tr (sumF_p (blC_s f1)) (hdC_p b3), fr_tr (hbR_t (blR_b f2)) (hdR_t c3), Or.inr ⟨2, _, cs8, c2⟩⟩
end WHENQ3
