/-! read: a when, both sides, whole -/
theorem awR_sw {s : gS} {L n : Nat} {a b c x y v : Int32} : wI (wI (wI (wI (wI (wI s 17 n a) 18 n b) 19 n c) 0 15 x) 0 16 y) 16 L v = wI (wI (wI (wI (wI (wI s 0 15 x) 0 16 y) 17 n a) 18 n b) 19 n c) 16 L v := by
  refine Prod.ext (funext fun o => funext fun j => ?_) rfl
  simp only [wI_1]
  by_cases h0 : o = 0
  · subst h0
    simp
  · simp [h0]
theorem wR6_go {L n W : Nat} {w x12 w2 B : Int32} {s z : gS} (hL : L < 2) (hn : n < 80) (h13 : s.1 0 13 = 0) (h19 : s.1 0 19 = nI L) (hB : s.1 13 L = B) (e : lpP (wlF (nI n) x12 w w2) (nI (40 * L), wI (wI (wI s 17 n (B - 1)) 18 n w) 19 n w2) = some z) (z19 : z.1 0 19 = nI L) (z16 : z.1 16 L = nI W) : wR6 (nI n) w x12 w2 s = some (wI z 16 L (nI (W + 1))) := by
  have g19 : (wI (wI (wI s 17 n (B - 1)) 18 n w) 19 n w2).1 0 19 = nI L := by rw [wI_1, if_neg (by omega), wI_1, if_neg (by omega), wI_1, if_neg (by omega), h19]
  unfold wR6
  rw [h13, if_pos (show (0 : Int32) ≤ 0 by decide), h19, gx_i hL (by decide), gx_i hn (by decide), nI_clamp (by omega), nI_clamp (by omega), hB, lt_b, gx_i hn (by decide), lt_b, gx_i hn (by decide), lt_b, g19, show (40 : Int32) = nI 40 from rfl, nI_mulS, lt_b, e, bn1_s, z19, gx_i hL (by decide), gx_i hL (by decide), nI_clamp (by omega), z16, lt_b, nI_1]
section WHENQ2
variable {N : Nat} {tk pl : Nat → Nat} {vl : Nat → Int64} {r L : Nat}
theorem when4 (hT : TkOK N tk pl) (hr : tR r = true) (hL : L < 2) {k : Nat} {cs : List (Int32 × Int32)} {es : List cEl} {lts : List lEl} {Θ : Tld} {nm : List nEl} {s16 s11 : gS} (M : MX N tk pl vl r L k cs es lts Θ nm nm s16 s11) (hlt : nWh Θ < 40) (hbk : nBk Θ = 0 → s16.1 3 8 ≠ 0) {v11 w : Int32} (hv : s16.1 3 8 = 0 → ∃ S, S < nSg Θ ∧ v11 = nI S ∧ w = nI S) : ∃ σ' τ', wC4 (nI (nBk Θ) - 1) v11 s16 = some σ' ∧ wR4 (nI (40 * L + nWh Θ)) w s11 = some τ' ∧ fr (pcF r) s16 σ' ∧ fr (tF L) s11 τ' ∧ TO N tk pl vl r L k σ' τ' := by
  have h9 := tR_9 hr
  have hcn := M.2.2.2.1
  have hb := hcn.1
  have hk := M.1.1.1
  have hk4 := k_400 hT hk
  have htk := (hT.2.2.2.1 k hk).1
  have hpl := (hT.2.2.2.1 k hk).2
  obtain ⟨v17, s18, w2, t13, a1, a2, a3, a4, ko⟩ := knownQ (kd := 2) (lim := nSy Θ) hT hr M (Or.inr rfl) (fun x e _ h2 => h2 e) hb.2.1
  have a1' : pX7_nameAhead 2 s16 = some (v17, s18) := a1
  have a2' : pX11_known 1 s11 = some (w2, t13) := a2
  have c18 : s18.1 r 3 = nI (nWh Θ) := (fr_1 (blC_s (r := r) a3) (sumF_n (by omega))).trans hcn.2.1.2.2.2.1
  have d18 : s18.2.2 3 1 = r := (fr_3 a3 rfl).trans M.1.2.2.1
  have rd18 := rdC_bl a3 M.1.1
  have eR : ∀ τ', wR5 (nI (40 * L + nWh Θ)) w (nI k) (w2, t13) = some τ' → wR4 (nI (40 * L + nWh Θ)) w s11 = some τ' := fun τ' e => by
    unfold wR4
    rw [lt_b, M.1.2.1.2.1, if_pos (show (0 : Int32) ≤ 0 by decide), a2', bn2_s, bn1_s, M.1.2.1.1, e]
  -- what the class looks up
  have hz : ∃ z19, (if v11 = (-1 : Int32) then some s18 else if v17 = (-1 : Int32) then some s18 else gT (s18.2.2 3 1) tR (fun rr20 => bn1 (pX9_hasWhen rr20 (nI (nBk Θ) - 1) v11 v17 s18) (fun v21 => if v21 = 0 then some s18 else bn1 (pX7_blame (3 : Int32) s18) (fun s24 => some s24)))) = some z19 ∧ fr blC s18 z19 ∧ ((z19 = s18 ∧ (v11 = -1 ∨ v17 = -1 ∨ ∀ j, j < nWh Θ → ¬ (s18.1 (r + 2) j = nI (nBk Θ) - 1 ∧ s18.1 (r + 3) j = v11 ∧ s18.1 (r + 4) j = v17))) ∨ (¬ v17 = -1 ∧ pX7_blame 3 s18 = some z19 ∧ ∃ j, j < nWh Θ ∧ (s18.1 (r + 2) j = nI (nBk Θ) - 1 ∧ s18.1 (r + 3) j = v11 ∧ s18.1 (r + 4) j = v17))) := by
    by_cases c1 : v11 = -1
    · exact ⟨s18, if_pos c1, fr_rf, Or.inl ⟨rfl, Or.inl c1⟩⟩
    by_cases c2 : v17 = -1
    · exact ⟨s18, by rw [if_neg c1, if_pos c2], fr_rf, Or.inl ⟨rfl, Or.inr (Or.inl c2)⟩⟩
    rw [if_neg c1, if_neg c2, d18, gT_p hr]
    rcases hasW (a := nI (nBk Θ) - 1) (b := v11) (c := v17) (by omega) c18 with ⟨j1, j2⟩ | ⟨j1, j2⟩
    · obtain ⟨s, e1, e2⟩ := blame_any (c := 3) (σ := s18)
      exact ⟨s, by rw [j2, bn1_s, if_10, e1, bn1_s], e2, Or.inr ⟨c2, e1, j1⟩⟩
    · exact ⟨s18, by rw [j2, bn1_s, if_00], fr_rf, Or.inl ⟨rfl, Or.inr (Or.inr j1)⟩⟩
  obtain ⟨z19, e19, f19, q19⟩ := hz
  have eC : ∀ σ', wC5 (nI (nBk Θ) - 1) v11 v17 z19 = some σ' → wC4 (nI (nBk Θ) - 1) v11 s16 = some σ' := fun σ' e => by
    unfold wC4
    rw [a1', bn2_s, e19, bn1_s, e]
  have rd19 := rdC_bl f19 rd18
  have c19 : z19.1 r 3 = nI (nWh Θ) := (fr_1 (blC_s (r := r) f19) (sumF_n (by omega))).trans c18
  have d19 : z19.2.2 3 1 = r := (fr_3 f19 rfl).trans d18
  have x19 := CX_bl hr f19 (CX_bl hr a3 M.1.2.2.2.1)
  have l19 : cs.length ≤ 400 := by have := M.1.2.2.2.2.2.2.2.1; omega
  have fC1 : fr (pcF r) s16 z19 := sumF_p (fr_tr (blC_s a3) (blC_s f19))
  have fR1 : fr (tF L) s11 t13 := hbR_t a4
  rcases ko with ⟨k0, k1, k2, k3⟩ | ⟨f, hf, sp, k1⟩
  · obtain ⟨s26, b1, b2, b3⟩ := takeC1 hT rd19 (by omega) k0
    have n23 : pX7_need 23 z19 = some s26 := needC1 (K := 23) (by rw [rd19.2.2.1, k1]) b1
    have hk1 := b2.1
    have hk14 := k_400 hT hk1
    obtain ⟨s28, s17, g1, g2, g3, g4, g5⟩ := needQ (K := 25) hT (by decide) b2 k2
    have g1' : pX7_need 25 s26 = some s28 := g1
    have g2' : pX11_must 4 t13 = some s17 := g2
    have d28 : s28.2.2 3 1 = r := (fr_3 g3 rfl).trans ((fr_3 b3 rfl).trans d19)
    have c28 : s28.1 r 3 = nI (nWh Θ) := (fr_1 (hdC_s (r := r) g3) (sumF_n (by omega))).trans ((fr_1 (hdC_s (r := r) b3) (sumF_n (by omega))).trans c19)
    have eC6 : ∀ σ', pX9_addWhen r (nI (nBk Θ) - 1) v11 v17 s28 = some σ' → wC4 (nI (nBk Θ) - 1) v11 s16 = some σ' := fun σ' e => eC _ (by
      unfold wC5 wC6
      rw [n23, bn1_s, g1', bn1_s, d28, gT_p hr, e, bn1_s])
    have eR6 : ∀ τ', wR6 (nI (40 * L + nWh Θ)) w (nI k) w2 s17 = some τ' → wR4 (nI (40 * L + nWh Θ)) w s11 = some τ' := fun τ' e => eR _ (by
      unfold wR5
      dsimp only
      rw [g2', bn1_s, e])
    have fC2 : fr (pcF r) s16 s28 := fr_tr fC1 (fr_tr (hdC_p b3) (hdC_p g3))
    have fR2 : fr (tF L) s11 s17 := fr_tr fR1 (hdR_t g4)
    have stp : ∀ f p, fpO f p → spC f p s28 → spR N tk pl vl f p s17 → ∃ σ' τ', wC4 (nI (nBk Θ) - 1) v11 s16 = some σ' ∧ wR4 (nI (40 * L + nWh Θ)) w s11 = some τ' ∧ fr (pcF r) s16 σ' ∧ fr (tF L) s11 τ' ∧ TO N tk pl vl r L k σ' τ' := fun f p hf h1 h2 => by
      have cs28 : CS f p r s28 := CS_h hr hf h1 ((fr_3 b3 rfl).trans d19) ⟨_, l19, (CX_h hr b3 x19).1⟩ g3
      obtain ⟨σ', y1, y2, y3⟩ := addW_s (a := nI (nBk Θ) - 1) (b := v11) (c := v17) cs28 c28 (by omega)
      exact ⟨σ', s17, eC6 _ y1, eR6 _ (wR6_s hf h2), fr_tr fC2 y3, fR2, Or.inr ⟨f, p, y2, h2⟩⟩
    rcases g5 with ⟨-, ⟨y0, y1, y2⟩ | ⟨f, p, y0, y1, y2⟩⟩ | ⟨-, f, p, y0, y1, y2⟩
    · have hk2 := y1.1
      have pl1 := pl_next hT hk1
      have pl2 := pl_next hT hk2
      have fhC : fr hbC s16 s28 := fr_tr (blC_hb a3) (fr_tr (blC_hb f19) (fr_tr (hdC_hb b3) (hdC_hb g3)))
      have fhR : fr hbR s11 s17 := fr_tr a4 (hdR_b g4)
      have g8 : s28.1 3 8 = z19.1 3 8 ∧ s28.1 3 9 = z19.1 3 9 := ⟨(fr_1 g3 rfl).trans (fr_1 b3 rfl), (fr_1 g3 rfl).trans (fr_1 b3 rfl)⟩
      have h13 : s17.1 0 13 = 0 := y2.2.1
      have h19 : s17.1 0 19 = nI L := (fr_1 fhR rfl).trans M.2.2.2.2.1
      have hB : s17.1 13 L = nI (nBk Θ) := (fr_1 fhR rfl).trans hcn.2.2.2.2.1
      have hW : s17.1 16 L = nI (nWh Θ) := (fr_1 fhR rfl).trans hcn.2.2.2.2.2.1
      have h4 : s17.1 4 k = nI (pl k) := (y2.2.2 k hk).2.1
      have hn80 : 40 * L + nWh Θ < 80 := by omega
      -- the cells behind the three writes
      have w3o : ∀ o j, ¬ (17 ≤ o ∧ o ≤ 19 ∧ j = 40 * L + nWh Θ) → (wI (wI (wI s17 17 (40 * L + nWh Θ) (nI (nBk Θ) - 1)) 18 (40 * L + nWh Θ) w) 19 (40 * L + nWh Θ) w2).1 o j = s17.1 o j := fun o j q => by
        rw [wI_1, if_neg (by omega), wI_1, if_neg (by omega), wI_1, if_neg (by omega)]
      have w17 : (wI (wI (wI s17 17 (40 * L + nWh Θ) (nI (nBk Θ) - 1)) 18 (40 * L + nWh Θ) w) 19 (40 * L + nWh Θ) w2).1 17 (40 * L + nWh Θ) = nI (nBk Θ) - 1 := by
        rw [wI_1, if_neg (by omega), wI_1, if_neg (by omega), wI_s]
      -- where the loop leaves all as it is
      have fin : MX N tk pl vl r L (k + 1 + 1) cs es lts Θ nm nm s28 s17 → (s28.1 3 8 = 0 → ∃ B S Y, B < nBk Θ ∧ S < nSg Θ ∧ Y < nSy Θ ∧ (nI (nBk Θ) - 1 = nI B ∧ v11 = nI S ∧ v17 = nI Y) ∧ nI (nBk Θ) - 1 = nI B ∧ w = nI S ∧ w2 = nI Y) → ((∃ i, 40 * L ≤ i ∧ i < 40 * L + nWh Θ ∧ wMt w w2 (40 * L + nWh Θ) i (wI (wI (wI s17 17 (40 * L + nWh Θ) (nI (nBk Θ) - 1)) 18 (40 * L + nWh Θ) w) 19 (40 * L + nWh Θ) w2)) → pX11_wrong 3 (nI k) (wI (wI (wI s17 17 (40 * L + nWh Θ) (nI (nBk Θ) - 1)) 18 (40 * L + nWh Θ) w) 19 (40 * L + nWh Θ) w2) = some (wI (wI (wI s17 17 (40 * L + nWh Θ) (nI (nBk Θ) - 1)) 18 (40 * L + nWh Θ) w) 19 (40 * L + nWh Θ) w2)) → ∃ σ' τ', wC4 (nI (nBk Θ) - 1) v11 s16 = some σ' ∧ wR4 (nI (40 * L + nWh Θ)) w s11 = some τ' ∧ fr (pcF r) s16 σ' ∧ fr (tF L) s11 τ' ∧ TO N tk pl vl r L k σ' τ' := fun mx hx hw => by
        obtain ⟨Θ', mx'⟩ := whenEnd hr hL mx hlt hx
        have el := wl_same (x12 := nI k) (b := w) (c := w2) hn80 (40 * L) hw _ (40 * L) rfl (Nat.le_refl _) (by omega)
        have e6 := wR6_go (W := nWh Θ) hL hn80 h13 h19 hB el (by rw [w3o 0 19 (by omega)]; exact h19) (by rw [w3o 16 L (by omega)]; exact hW)
        refine ⟨_, _, eC6 _ (addW_un c28 hlt), eR6 _ e6, fr_tr fC2 ?_, fr_tr fR2 ?_, Or.inl ⟨_, _, _, _, _, _, by omega, mx'⟩⟩
        · unfold awC
          exact fr_tr (fr_tr (fr_tr (fr_wIp (by omega)) (fr_wIp (by omega))) (fr_wIp (by omega))) (fr_wIp (by omega))
        · exact fr_tr (fr_tr (fr_tr (tF_w (by omega)) (tF_w (by omega))) (tF_w (by omega))) (tF_w (by omega))
      rcases k3 with ⟨rfl, k4, k5, Y, k6, k7, k8⟩ | ⟨k4, k5, k6, k7⟩ | ⟨rfl, k4, k5⟩
      · -- nothing is wrong so far
        obtain ⟨S, z1, z2, z3⟩ := hv k4
        have hnb : 1 ≤ nBk Θ := by
          rcases Nat.eq_zero_or_pos (nBk Θ) with q | q
          · exact absurd k4 (hbk q)
          · exact q
        have eB : nI (nBk Θ) - 1 = nI (nBk Θ - 1) := nI_subS (b := 1) hnb
        obtain ⟨dx, -⟩ := M.2.2.2.2.2.2.2 k4
        have t15 : s17.1 0 15 = 0 ∧ s18.1 3 9 = -1 := by
          rcases k5 with q | ⟨w', p', q1, q2, q3, q4, q5, -⟩
          · exact ⟨(fr_1 g4 rfl).trans q.2.2, q.2.1⟩
          · rw [k4] at q5
            exact absurd q5.symm (nI_ne0 (by omega) (by omega))
        have nS : ¬ nI S = (-1 : Int32) := ne_m1 (by omega)
        have nY : ¬ nI Y = (-1 : Int32) := ne_m1 (by omega)
        have row : ∀ j, j < nWh Θ → (s18.1 (r + 2) j = nI (wBk Θ j) ∧ s18.1 (r + 3) j = nI (wSg Θ j) ∧ s18.1 (r + 4) j = nI (wSy Θ j)) ∧ s17.1 17 (40 * L + j) = nI (wBk Θ j) ∧ s17.1 18 (40 * L + j) = nI (wSg Θ j) ∧ s17.1 19 (40 * L + j) = nI (wSy Θ j) := fun j hj => by
          obtain ⟨-, y2, y3, y4, y5⟩ := dx.2.1 j hj
          exact ⟨y2, (fr_1 fhR rfl).trans y3, (fr_1 fhR rfl).trans y4, (fr_1 fhR rfl).trans y5⟩
        have same : ∀ j, j < nWh Θ → ((s18.1 (r + 2) j = nI (nBk Θ) - 1 ∧ s18.1 (r + 3) j = v11 ∧ s18.1 (r + 4) j = v17) ↔ wMt w w2 (40 * L + nWh Θ) (40 * L + j) (wI (wI (wI s17 17 (40 * L + nWh Θ) (nI (nBk Θ) - 1)) 18 (40 * L + nWh Θ) w) 19 (40 * L + nWh Θ) w2)) := fun j hj => by
          obtain ⟨⟨y1, y2, y3⟩, y4, y5, y6⟩ := row j hj
          unfold wMt
          rw [w17, w3o 17 _ (by omega), w3o 18 _ (by omega), w3o 19 _ (by omega), y1, y2, y3, y4, y5, y6, z2, z3, k7, k8]
          exact ⟨fun q => ⟨nS, nY, q.1, q.2.1, q.2.2⟩, fun q => ⟨q.2.2.1, q.2.2.2.1, q.2.2.2.2⟩⟩
        rcases q19 with ⟨rfl, q⟩ | ⟨-, q1, j, q2, q3⟩
        · have q : ∀ j, j < nWh Θ → ¬ (z19.1 (r + 2) j = nI (nBk Θ) - 1 ∧ z19.1 (r + 3) j = v11 ∧ z19.1 (r + 4) j = v17) := by
            rcases q with q | q | q
            · rw [z2] at q; exact absurd q nS
            · rw [k7] at q; exact absurd q nY
            · exact q
          refine fin (MX_hb hr M fhC fhR y1 y2 (by omega) (Or.inl ⟨g8.1.trans k4, g8.2.trans t15.2, t15.1⟩) (fun _ => k4)) (fun _ => ⟨nBk Θ - 1, S, Y, by omega, z1, k6, ⟨eB, z2, k7⟩, eB, z3, k8⟩) (fun ⟨i, i1, i2, i3⟩ => ?_)
          have := (same (i - 40 * L) (by omega)).mpr (by rw [show 40 * L + (i - 40 * L) = i by omega]; exact i3)
          exact absurd this (q _ (by omega))
        · rw [blame0 k4] at q1
          injection q1 with q1
          have s8 : s28.1 3 8 = nI 3 := by rw [g8.1, ← q1, wI_1, if_neg (by omega), wI_s]; rfl
          have s9 : s28.1 3 9 = nI (pl k) := by rw [g8.2, ← q1, wI_s]; exact M.1.1.2.2.2.2.1
          have f5 : fr blR s17 (wI (wI s17 0 15 3) 0 16 (nI (pl k))) := fr_tr (fr_wI rfl) (fr_wI rfl)
          have t5 : (wI (wI s17 0 15 3) 0 16 (nI (pl k))).1 0 15 = nI 3 := by rw [wI_1, if_neg (by omega), wI_s]; rfl
          have mx := MX_hb (k' := k + 1 + 1) hr M fhC (fr_tr fhR (blR_b f5)) y1 (rdR_bl f5 y2) (by omega) (Or.inr ⟨3, pl k, by decide, by decide, by omega, hpl, s8, s9, t5, wI_s⟩) (fun z => by rw [s8] at z; exact absurd z (by decide))
          obtain ⟨Θ', mx'⟩ := whenEnd (a := nI (nBk Θ) - 1) (b := v11) (c := v17) (a' := nI (nBk Θ) - 1) (b' := w) (c' := w2) hr hL mx hlt (fun z => by rw [s8] at z; exact absurd z (by decide))
          have ew := wrong0 (c := 3) (j := k) (p := pl k) (τ := wI (wI (wI s17 17 (40 * L + nWh Θ) (nI (nBk Θ) - 1)) 18 (40 * L + nWh Θ) w) 19 (40 * L + nWh Θ) w2) (by rw [w3o 0 13 (by omega)]; exact h13) (by rw [w3o 0 15 (by omega)]; exact t15.1) (by rw [w3o 4 k (by omega)]; exact h4) (by omega)
          have u15 : ∀ s : gS, (wI (wI s 0 15 3) 0 16 (nI (pl k))).1 0 15 = nI 3 := fun s => by rw [wI_1, if_neg (by omega), wI_s]; rfl
          have uo : ∀ (s : gS) o j, ¬ (o = 0 ∧ (j = 15 ∨ j = 16)) → (wI (wI s 0 15 3) 0 16 (nI (pl k))).1 o j = s.1 o j := fun s o j q => by rw [wI_1, if_neg (by omega), wI_1, if_neg (by omega)]
          have e2 := wrong1 (c := 3) (w := 3) (j := k) (p := pl k) (p' := pl k) (τ := wI (wI (wI (wI (wI s17 17 (40 * L + nWh Θ) (nI (nBk Θ) - 1)) 18 (40 * L + nWh Θ) w) 19 (40 * L + nWh Θ) w2) 0 15 3) 0 16 (nI (pl k))) (by rw [uo _ 0 13 (by omega), w3o 0 13 (by omega)]; exact h13) (u15 _) wI_s (by rw [uo _ 4 k (by omega), w3o 4 k (by omega)]; exact h4) (by omega) ⟨by decide, by decide⟩ ⟨hpl, hpl⟩ (Or.inr ⟨rfl, by decide, by decide⟩)
          have el := wl_hit (b := w) (c := w2) hn80 (40 * L) ew e2 _ (40 * L) rfl (Nat.le_refl _) (by omega) ⟨40 * L + j, by omega, by omega, (same j q2).mp q3⟩
          have e6 := wR6_go (W := nWh Θ) hL hn80 h13 h19 hB el (by rw [uo _ 0 19 (by omega), w3o 0 19 (by omega)]; exact h19) (by rw [uo _ 16 L (by omega), w3o 16 L (by omega)]; exact hW)
          rw [awR_sw] at e6
          refine ⟨_, _, eC6 _ (addW_un c28 hlt), eR6 _ e6, fr_tr fC2 ?_, fr_tr fR2 (fr_tr (hbR_t (blR_b f5)) ?_), Or.inl ⟨_, _, _, _, _, _, by omega, mx'⟩⟩
          · unfold awC
            exact fr_tr (fr_tr (fr_tr (fr_wIp (by omega)) (fr_wIp (by omega))) (fr_wIp (by omega))) (fr_wIp (by omega))
          · exact fr_tr (fr_tr (fr_tr (tF_w (by omega)) (tF_w (by omega))) (tF_w (by omega))) (tF_w (by omega))
      · -- the second name is not ahead
        have hz19 : z19 = s18 := by
          rcases q19 with ⟨q, -⟩ | ⟨q, -⟩
          · exact q
          · exact absurd k4 q
        have n8 : s28.1 3 8 ≠ 0 := by rw [g8.1, hz19]; exact k6
        refine fin (MX_hb hr M fhC fhR y1 y2 (by omega) (WW_up (by omega) (WW_eq (by rw [g8.1, hz19]) (by rw [g8.2, hz19]) (fr_1 g4 rfl) (fr_1 g4 rfl) k7)) (fun z => absurd z n8)) (fun z => absurd z n8) (fun ⟨i, i1, i2, i3⟩ => absurd k5 i3.2.1)
      · -- something was wrong ahead
        rcases k5 with q | ⟨w', p', q1, q2, q3, q4, q5, q6, q7, q8⟩
        · exact absurd q.1 k4
        have hz19 : z19 = s18 := by
          rcases q19 with ⟨q, -⟩ | ⟨-, q, -⟩
          · exact q
          · rw [blame1 q5 (by omega)] at q
            injection q with q
            exact q.symm
        have n8 : s28.1 3 8 ≠ 0 := by rw [g8.1, hz19]; exact k4
        refine fin (MX_hb hr M fhC fhR y1 y2 (by omega) (Or.inr ⟨w', p', q1, q2, by omega, q4, by rw [g8.1, hz19]; exact q5, by rw [g8.2, hz19]; exact q6, (fr_1 g4 rfl).trans q7, (fr_1 g4 rfl).trans q8⟩) (fun z => absurd z n8)) (fun z => absurd z n8) (fun _ => ?_)
        exact wrong1 (c := 3) (by rw [w3o 0 13 (by omega)]; exact h13) (by rw [w3o 0 15 (by omega)]; exact (fr_1 g4 rfl).trans q7) (by rw [w3o 0 16 (by omega)]; exact (fr_1 g4 rfl).trans q8) (by rw [w3o 4 k (by omega)]; exact h4) (by omega) (by omega) ⟨hpl, q4⟩ (Or.inl q3)
    · exact stp f p y0 y1 y2
    · exact stp f p y0 y1 y2
  · have stp : ∃ s26, pX7_need 23 z19 = some s26 ∧ CS f (pl k) r s26 ∧ fr hdC z19 s26 := by
      rcases k1 with ⟨rfl, k1, -⟩ | ⟨rfl, k1, k2⟩
      · obtain ⟨s26, b1, b2, b3⟩ := failC1 (f := 1) rd19
        simp only [show nI 1 = 1 from rfl] at b1
        exact ⟨s26, needC0 (K := 23) rd19.2.2.1 (by omega) (by omega) k1 b1, CS_h hr hf b2 d19 ⟨_, l19, x19.1⟩ b3, b3⟩
      · obtain ⟨s26, b1, b2, b3⟩ := takeC2 rd19 k2
        exact ⟨s26, needC1 (K := 23) (by rw [rd19.2.2.1, k1]) b1, CS_h hr hf b2 d19 ⟨_, l19, x19.1⟩ b3, b3⟩
    obtain ⟨s26, b1, b2, b3⟩ := stp
    obtain ⟨σ', y1, y2, y3⟩ := wC6_s (a := nI (nBk Θ) - 1) (b := v11) (c := v17) b2 ((fr_1 (hdC_s (r := r) b3) (sumF_n (by omega))).trans c19) (by omega)
    exact ⟨σ', t13, eC _ (by unfold wC5; rw [b1, bn1_s, y1]), eR _ (wR5_s hf sp), fr_tr fC1 (fr_tr (hdC_p b3) y3), fR1, Or.inr ⟨f, _, y2, sp⟩⟩
end WHENQ2
