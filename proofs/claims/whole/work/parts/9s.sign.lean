/-! read: a sign, a book: both sides -/
noncomputable def cdT (x6 : Int32) (c : Nat) (s9 : gS) : Option gS := bn1 (pX7_need (1 : Int32) s9) (fun s11 => gT (s11.2.2 3 1) tR (fun rr12 => bn1 (pX9_startFormula rr12 x6 s11) (fun s14 => bn1 (pX7_condition s14) (fun s16 => gT (s16.2.2 3 1) tR (fun rr17 => bn1 (pX9_endFormula rr17 x6 s16) (fun s19 => bn1 (pX7_need (25 : Int32) s19) (incC c)))))))
theorem sign_un {σ : gS} : pX7_tellSign σ = gT (σ.2.2 3 1) tR (fun rr1 => bn1 (if (6 : Int32) ≤ (σ.1 rr1 0) then some (0 : Int32) else some (1 : Int32)) (fun (z2 : Int32) => bn2 (pX7_open z2 σ) (fun v3 s4 => if v3 = 0 then some s4 else gT (s4.2.2 3 1) tR (fun rr5 => lt' ((0 : Int32) + (s4.1 rr5 0)) (fun x6 => gT (s4.2.2 3 1) tR (fun rr7 => bn1 (pX7_tellName (0 : Int32) (s4.1 rr7 0) s4) (cdT x6 0))))))) := rfl
theorem signR_un {τ : gS} : pX11_tellSign τ = bn1 (pX11_goesOn τ) (fun s2 => bn2 (pX11_named s2) (fun v3 s4 => gx (s4.1 0 19) 2 (bn1 (pX11_condition (((26 : Int32) * (s4.1 0 19)) + (s4.1 11 (s4.1 0 19).toNatClampNeg)) s4) (fun s6 => bn1 (pX11_must (4 : Int32) s6) (tlR v3 11 0))))) := rfl
theorem book_un {σ : gS} : pX7_tellBook σ = gT (σ.2.2 3 1) tR (fun rr1 => bn1 (if (4 : Int32) ≤ (σ.1 rr1 2) then some (0 : Int32) else some (1 : Int32)) (fun (z2 : Int32) => bn2 (pX7_open z2 σ) (fun v3 s4 => if v3 = 0 then some s4 else gT (s4.2.2 3 1) tR (fun rr5 => bn1 (pX7_tellName (3 : Int32) (s4.1 rr5 2) s4) (fun s7 => bn1 (pX7_need (25 : Int32) s7) (incC 2)))))) := rfl
theorem bookR_un {τ : gS} : pX11_tellBook τ = bn1 (pX11_goesOn τ) (fun s2 => bn2 (pX11_named s2) (fun v3 s4 => bn1 (pX11_must (4 : Int32) s4) (tlR v3 13 2))) := rfl
theorem KC_incC {f p r c : Nat} (hc : c ≤ 4) (hr : tR r = true) : KC (pcF r) f p r (incC c) := KC_inc hc hr
theorem KC_cdT {f p r c g : Nat} (hg : g < 26) (hc : c ≤ 4) (hr : tR r = true) : KC (pcF r) f p r (cdT (nI g) c) :=
  KC_b (KC_p (KC_need (K := 1) (by decide))) (KC_T (g := fun rr12 s11 => bn1 (pX9_startFormula rr12 (nI g) s11) (fun s14 => bn1 (pX7_condition s14) (fun s16 => gT (s16.2.2 3 1) tR (fun rr17 => bn1 (pX9_endFormula rr17 (nI g) s16) (fun s19 => bn1 (pX7_need (25 : Int32) s19) (incC c)))))) (KC_b (KC_start hg hr) (KC_b (KC_p KC_cond) (KC_T (g := fun rr17 s16 => bn1 (pX9_endFormula rr17 (nI g) s16) (fun s19 => bn1 (pX7_need (25 : Int32) s19) (incC c))) (KC_b (KC_end hg hr) (KC_b (KC_p (KC_need (K := 25) (by decide))) (KC_incC hc hr)))))))
section OPENQ
variable {N : Nat} {tk pl : Nat → Nat} {vl : Nat → Int64} {r L : Nat}
def TO (N : Nat) (tk pl : Nat → Nat) (vl : Nat → Int64) (r L k : Nat) (σ' τ' : gS) : Prop := (∃ k' cs' es' lts' Θ' nm', k < k' ∧ MX N tk pl vl r L k' cs' es' lts' Θ' nm' nm' σ' τ') ∨ SS N tk pl vl r σ' τ'
theorem openQ (hT : TkOK N tk pl) (hr : tR r = true) {k : Nat} {cs : List (Int32 × Int32)} {es : List cEl} {lts : List lEl} {Θ : Tld} {nC nR : List nEl} {σ τ : gS} (h : MX N tk pl vl r L k cs es lts Θ nC nR σ τ) (ht : tk k ≤ 35) : ∃ v s4 s2, pX7_open 1 σ = some (v, s4) ∧ pX11_goesOn τ = some s2 ∧ fr hdC σ s4 ∧ fr hdR τ s2 ∧ ((v = 1 ∧ k < 400 ∧ MX N tk pl vl r L (k + 1) cs es lts Θ nC nR s4 s2) ∨ (v = 0 ∧ SS N tk pl vl r s4 s2)) := by
  obtain ⟨s4, s2, e1, e2, f1, f2, out⟩ := goMX hT hr h ht
  unfold pX7_open
  rw [if_10, e1, bn1_s, bn1_s]
  rcases out with ⟨a, b⟩ | ⟨f, p, a, b⟩
  · rw [b.1.1.2.2.2.2.2.1, if_00]
    exact ⟨1, s4, s2, rfl, e2, f1, f2, Or.inl ⟨rfl, a, b⟩⟩
  · rw [a.2.1.2.1, if_neg (nI_ne0 (by have := a.1.1; omega) (by have := a.1.1; omega))]
    exact ⟨0, s4, s2, rfl, e2, f1, f2, Or.inr ⟨rfl, f, p, a, b⟩⟩
theorem openF (hT : TkOK N tk pl) (hr : tR r = true) {k : Nat} {cs : List (Int32 × Int32)} {es : List cEl} {lts : List lEl} {Θ : Tld} {nC nR : List nEl} {σ τ : gS} (h : MX N tk pl vl r L k cs es lts Θ nC nR σ τ) : ∃ s4 s2, pX7_open 0 σ = some (0, s4) ∧ pX11_fail 2 τ = some s2 ∧ fr hdC σ s4 ∧ fr hdR τ s2 ∧ SS N tk pl vl r s4 s2 := by
  obtain ⟨s4, s2, e1, e2, f1, f2, f, p, a, b⟩ := failGO (f := 2) hT hr (Or.inr rfl) h.1
  simp only [show nI 2 = 2 from rfl] at e1 e2
  unfold pX7_open
  rw [if_00, e1, bn1_s, bn1_s, a.2.1.2.1, if_neg (nI_ne0 (by have := a.1.1; omega) (by have := a.1.1; omega))]
  exact ⟨s4, s2, rfl, e2, f1, f2, f, p, a, b⟩
theorem hbR_t {σ τ : gS} (f : fr hbR σ τ) : fr (tF L) σ τ := liF_t (liF_x (hbR_x f))
/-- 'if', a condition, ';' and the end: both sides -/
theorem cdQ (hT : TkOK N tk pl) (hr : tR r = true) (hL : L < 2) {k j c o kd cnt fC q : Nat} {cs : List (Int32 × Int32)} {es : List cEl} {lts : List lEl} {Θ : Tld} (Θf : List lEl → Tld) {nm : List nEl} {σ τ : gS} (h : MX N tk pl vl r L k cs es lts Θ (nm ++ [(vl j, kd, cnt)]) nm σ τ) (hj : j < N) (hjt : tk j = 23) (hc : c ≤ 4) (ho : 11 ≤ o ∧ o ≤ 16 ∧ o ≠ 15) (hΘσ : ∀ σ τ, CNT Θ r L σ τ → σ.1 r c = nI cnt ∧ τ.1 o L = nI cnt) (ht : ∀ nl, nTot (Θf nl) = nTot Θ + 1) (ht30 : nTot Θ < 30) (hcnt : ∀ nl σ τ σ' τ', CNT Θ r L σ τ → (∀ j, j ≤ 4 → j ≠ c → σ'.1 r j = σ.1 r j) → σ'.1 r c = nI (cnt + 1) → (∀ o', 11 ≤ o' → o' ≤ 16 → o' ≠ o → τ'.1 o' L = τ.1 o' L) → τ'.1 o L = nI (cnt + 1) → CNT (Θf nl) r L σ' τ') (hd : ∀ nl cs' es' lts' σ' τ', DX r L cs' es' lts' Θ σ' τ' → (∀ j, σ'.1 (r + 1) j = σ.1 (r + 1) j) → (∀ j, τ'.1 15 j = τ.1 15 j) → wfC nl → FC r cs' σ' fC (cmC false nl) → RCn L lts' τ' q nl → DX r L cs' es' lts' (Θf nl) σ' τ') (hk : ∀ nl, okN Θ nm → okN (Θf nl) (nm ++ [(vl j, kd, cnt)])) (hf : fC < 22) (hq : q = 26 * L + fC) (hn : ∀ o, ¬ uC Θ r (r + o) fC ∨ (o ≠ 5 ∧ o ≠ 6)) (hn' : ∀ o, ¬ uR Θ L o q ∨ (o ≠ 20 ∧ o ≠ 21)) : ∃ σ' τ', cdT (nI fC) c σ = some σ' ∧ bn1 (pX11_condition (nI q) τ) (fun s6 => bn1 (pX11_must (4 : Int32) s6) (tlR (nI j) o (nI (sR kd)))) = some τ' ∧ fr (pcF r) σ σ' ∧ fr (tF L) τ τ' ∧ TO N tk pl vl r L k σ' τ' := by
  have h9 := tR_9 hr
  obtain ⟨s11, s14, s16, s19, t6, a1, a2, a3, a4, a5, a6, a7, a8, a9, out⟩ := condFQ hT hr hL hf hq hn hn' h
  have eC : ∀ σ', bn1 (pX7_need (25 : Int32) s19) (incC c) = some σ' → cdT (nI fC) c σ = some σ' := fun σ' e => by
    unfold cdT
    rw [a1, bn1_s, a2, gT_p hr, a3, bn1_s, a4, bn1_s, a5, gT_p hr, a6, bn1_s, e]
  rw [a7, bn1_s]
  rcases out with ⟨k', d, e, nl, b1, b2, b3, b4, b5⟩ | ⟨f, p, b1, b2⟩
  · obtain ⟨s21, s8, c1, c2, c3, c4, out2⟩ := needMX (K := 25) hT hr (by decide) b2
    have c1' : pX7_need (25 : Int32) s19 = some s21 := c1
    have c2' : pX11_must (4 : Int32) t6 = some s8 := c2
    rw [c2', bn1_s]
    have fC1 : fr (pcF r) σ s21 := fr_tr a8 (hdC_p c3)
    have fR1 : fr (tF L) τ s8 := fr_tr a9 (hdR_t c4)
    rcases out2 with ⟨g1, g2, g3⟩ | ⟨f, p, g1, g2⟩
    · obtain ⟨q1, q2⟩ := hΘσ _ _ g3.2.2.2.1
      have kC : ∀ o j, r < o → o ≤ r + 6 → s21.1 o j = s19.1 o j := fun o j z1 z2 => fr_1 (hdC_s (r := r) c3) (sumF_n (by omega))
      have kR : ∀ o j, 8 ≤ o → s8.1 o j = t6.1 o j := fun o j z1 => fr_1 c4 (by
        simp only [hdR, Bool.and_eq_false_iff, beq_eq_false_iff_ne]
        omega)
      obtain ⟨σ', τ', y1, y2, y3, y4, y5⟩ := endQ (Θ' := Θf nl) hT hr hL g3 hj hjt hc ho q1 q2 (ht nl) ht30 (fun σ' τ' => hcnt nl s21 s8 σ' τ' g3.2.2.2.1) (fun z dx => by
        obtain ⟨w1, w2, w3⟩ := b3 (by rw [← fr_1 c3 (show hdC 3 8 = false from rfl)]; exact z)
        have w2' := FC_up (d := []) (τ := s21) w2 (kC _ _ (by omega) (by omega)) (kC _ _ (by omega) (by omega))
        have w3' := RCn_up (d := []) (τ := s8) w3 (kR _ _ (by omega)) (kR _ _ (by omega))
        rw [List.append_nil] at w2' w3'
        exact hd nl _ _ _ _ _ dx (fun j => (kC _ _ (by omega) (by omega)).trans (b4 j)) (fun j => (kR _ _ (by omega)).trans (b5 j)) w1 w2' w3') (hk nl)
      exact ⟨σ', τ', eC _ (by rw [c1', bn1_s, y1]), y2, fr_tr fC1 y3, fr_tr fR1 y4, Or.inl ⟨_, _, _, _, _, _, by omega, y5⟩⟩
    · obtain ⟨σ', y1, y2, y3⟩ := (KC_incC hc hr) s21 g1
      obtain ⟨τ', z1, z2, z3⟩ := (KR_tl (L := L) g1.1 (v3 := nI j) (o := o) (sr := nI (sR kd))) s8 g2
      exact ⟨σ', τ', eC _ (by rw [c1', bn1_s, y1]), z1, fr_tr fC1 y3, fr_tr fR1 z3, Or.inr ⟨f, p, y2, z2⟩⟩
  · obtain ⟨s21, c1, c2, c3⟩ := (KC_need (K := 25) (by decide)) s19 b1
    have c1' : pX7_need (25 : Int32) s19 = some s21 := c1
    obtain ⟨σ', y1, y2, y3⟩ := (KC_incC hc hr) s21 c2
    obtain ⟨τ', z1, z2, z3⟩ := (KR_tl (L := L) b1.1 (v3 := nI j) (o := o) (sr := nI (sR kd))) t6 b2
    refine ⟨σ', τ', eC _ (by rw [c1', bn1_s, y1]), ?_, fr_tr a8 (fr_tr (sumF_p c3) y3), fr_tr a9 z3, Or.inr ⟨f, p, y2, z2⟩⟩
    rw [mustR_s b1.1 b2, bn1_s, z1]
theorem KR_cdT {f p q : Nat} (hf : fpO f p) (hq : q < 52) (h1 : 26 * L ≤ q) (h2 : q < 26 * L + 26) {v3 sr : Int32} {o : Nat} : KR N tk pl vl (tF L) f p (fun τ => bn1 (pX11_condition (nI q) τ) (fun s6 => bn1 (pX11_must (4 : Int32) s6) (tlR v3 o sr))) := KR_b (KR_cond hf hq h1 h2) (fun τ h => by
  obtain ⟨τ', z1, z2, z3⟩ := (KR_tl (L := L) hf (v3 := v3) (o := o) (sr := sr)) τ h
  exact ⟨τ', by show bn1 (pX11_must 4 τ) _ = _; rw [mustR_s hf h, bn1_s, z1], z2, z3⟩)
theorem nTot_30 {Θ : Tld} {σ τ : gS} (h : CNT Θ r L σ τ) : nTot Θ ≤ 30 := by
  have := h.1
  unfold nTot
  omega
theorem tell_un (hT : TkOK N tk pl) {k T : Nat} {τ : gS} (h : rdR N tk pl vl k τ) (hk : k < N) (ht : tk k = T) : pX11_tell τ = if nI (kp T) = (20 : Int32) then gx (τ.1 0 19) 2 (bn1 (if (τ.1 11 (τ.1 0 19).toNatClampNeg) = (6 : Int32) then bn1 (pX11_fail (2 : Int32) τ) (fun s3 => some s3) else some τ) (fun (z1 : gS) => if (z1.1 0 13) = 0 then bn1 (pX11_tellSign z1) (fun s5 => some s5) else some z1)) else if nI (kp T) = (22 : Int32) then gx (τ.1 0 19) 2 (bn1 (if (τ.1 12 (τ.1 0 19).toNatClampNeg) = (16 : Int32) then bn1 (pX11_fail (2 : Int32) τ) (fun s9 => some s9) else some τ) (fun (z7 : gS) => if (z7.1 0 13) = 0 then bn1 (pX11_tellSay z7) (fun s11 => some s11) else some z7)) else if nI (kp T) = (23 : Int32) then gx (τ.1 0 19) 2 (bn1 (if (τ.1 13 (τ.1 0 19).toNatClampNeg) = (4 : Int32) then bn1 (pX11_fail (2 : Int32) τ) (fun s15 => some s15) else some τ) (fun (z13 : gS) => if (z13.1 0 13) = 0 then bn1 (pX11_tellBook z13) (fun s17 => some s17) else some z13)) else if nI (kp T) = (24 : Int32) then gx (τ.1 0 19) 2 (bn1 (if (τ.1 16 (τ.1 0 19).toNatClampNeg) = (40 : Int32) then bn1 (pX11_fail (2 : Int32) τ) (fun s21 => some s21) else some τ) (fun (z19 : gS) => if (z19.1 0 13) = 0 then bn1 (pX11_tellWhen z19) (fun s23 => some s23) else some z19)) else if nI (kp T) = (25 : Int32) then gx (τ.1 0 19) 2 (bn1 (if (τ.1 14 (τ.1 0 19).toNatClampNeg) = (4 : Int32) then bn1 (pX11_fail (2 : Int32) τ) (fun s27 => some s27) else some τ) (fun (z25 : gS) => if (z25.1 0 13) = 0 then bn1 (pX11_tellLaw z25) (fun s29 => some s29) else some z25)) else bn1 (pX11_fail (1 : Int32) τ) (fun s32 => some s32) := by
  have hk4 := k_400 hT hk
  unfold pX11_tell
  rw [h.1, gx_i (by omega) (by decide), nI_clamp (by omega), (h.2.2 k hk).1, ht]
theorem sp_fail {s2 : gS} {m : gS → Option gS} {σ : gS} (h : SS N tk pl vl r σ s2) : (if (s2.1 0 13) = 0 then bn1 (m s2) (fun s5 => some s5) else some s2) = some s2 := by
  obtain ⟨f, p, h1, h2⟩ := h
  rw [if_neg (sp_n h1.1 h2).1]
/-- a sign is told -/
theorem signQ (hT : TkOK N tk pl) (hr : tR r = true) (hL : L < 2) {k : Nat} {cs : List (Int32 × Int32)} {es : List cEl} {lts : List lEl} {Θ : Tld} {nm : List nEl} {σ τ : gS} (h : MX N tk pl vl r L k cs es lts Θ nm nm σ τ) (ht : tk k = 0) : ∃ σ' τ', pX7_tellSign σ = some σ' ∧ pX11_tell τ = some τ' ∧ fr (pcF r) σ σ' ∧ fr (tF L) τ τ' ∧ TO N tk pl vl r L k σ' τ' := by
  have hcn := h.2.2.2.1
  have h30 := nTot_30 hcn
  have h19 := h.2.2.2.2.1
  have hb := hcn.1
  rw [tell_un hT h.1.2.1 h.1.1.1 ht, if_pos (show nI (kp 0) = 20 from rfl), h19, gx_i hL (by decide), nI_clamp (by omega), hcn.2.2.1, sign_un, h.1.2.2.1, gT_p hr, hcn.2.1.1]
  by_cases hf : nSg Θ = 6
  · obtain ⟨s4, s2, e1, e2, f1, f2, ss⟩ := openF hT hr h
    rw [if_pos (show (6 : Int32) ≤ nI (nSg Θ) from nI_le (a := 6) (by omega) (by omega)), bn1_s, e1, bn2_s, if_00, if_pos (show nI (nSg Θ) = 6 by rw [hf]; rfl), e2, bn1_s, bn1_s, sp_fail ss]
    exact ⟨s4, s2, rfl, rfl, hdC_p f1, hdR_t f2, Or.inr ss⟩
  · have hlt : nSg Θ < 6 := by omega
    have h30' : nTot Θ < 30 := by unfold nTot; omega
    obtain ⟨v, s4, s2, e1, e2, f1, f2, out⟩ := openQ hT hr h (by omega)
    rw [if_neg (show ¬ (6 : Int32) ≤ nI (nSg Θ) from nI_ge (b := 6) hlt (by decide)), bn1_s, e1, bn2_s, if_neg (show ¬ nI (nSg Θ) = 6 from nI_neT (K := 6) hf (by omega) (by omega)), bn1_s, h.1.2.1.2.1, if_00, signR_un, e2, bn1_s]
    rcases out with ⟨rfl, o1, o2⟩ | ⟨rfl, ss⟩
    · have hcn2 := o2.2.2.2.1
      rw [if_10, o2.1.2.2.1, gT_p hr, hcn2.2.1.1, lt_b, gT_p hr, hcn2.2.1.1, show (0 : Int32) = nI 0 from rfl, nI_add, Nat.zero_add]
      obtain ⟨s9, t4, a1, a2, a3, a4, out2⟩ := nameQ (kd := 0) (num := nSg Θ) hT hr o2 h30'
      have g19 : t4.1 0 19 = nI L := (fr_1 a4 rfl).trans o2.2.2.2.2.1
      have g11 : t4.1 11 L = nI (nSg Θ) := (fr_1 a4 rfl).trans hcn2.2.2.1
      have eq : (26 : Int32) * nI L + nI (nSg Θ) = nI (26 * L + nSg Θ) := by rw [show (26 : Int32) = nI 26 from rfl, nI_mulS, nI_add]
      rw [a1, bn1_s, a2, bn2_s, g19, gx_i hL (by decide), nI_clamp (by omega), g11, eq]
      have fC1 : fr (pcF r) σ s9 := fr_tr (hdC_p f1) a3
      have fR1 : fr (tF L) τ t4 := fr_tr (hdR_t f2) (hbR_t a4)
      rcases out2 with ⟨b1, b2, b3⟩ | ⟨f, p, b1, b2⟩
      · obtain ⟨σ', τ', c1, c2, c3, c4, c5⟩ := cdQ (c := 0) (o := 11) (fC := nSg Θ) (q := 26 * L + nSg Θ) hT hr hL (addSg Θ) b3 o2.1.1.1 b2 (by omega) (by omega) (fun σ τ z => ⟨z.2.1.1, z.2.2.1⟩) (fun nl => by show nSg Θ + 1 + nSy Θ + nBk Θ + nLw Θ = nSg Θ + nSy Θ + nBk Θ + nLw Θ + 1; omega) h30' (fun nl σ τ σ' τ' z y1 y2 y3 y4 => by
          obtain ⟨z0, ⟨z1, z2, z3, z4, z5⟩, z6, z7, z8, z9, z10⟩ := z
          exact ⟨⟨by show nSg Θ + 1 ≤ 6; omega, z0.2⟩, ⟨y2, (y1 1 (by omega) (by omega)).trans z2, (y1 2 (by omega) (by omega)).trans z3, (y1 3 (by omega) (by omega)).trans z4, (y1 4 (by omega) (by omega)).trans z5⟩, y4, (y3 12 (by omega) (by omega) (by omega)).trans z7, (y3 13 (by omega) (by omega) (by omega)).trans z8, (y3 16 (by omega) (by omega) (by omega)).trans z9, (y3 14 (by omega) (by omega) (by omega)).trans z10⟩) (fun nl cs' es' lts' σ' τ' dx _ _ w1 w2 w3 => DX_sg dx hlt w1 w2 w3) (fun nl z x hx => by
          rcases List.mem_append.mp hx with y | y
          · obtain ⟨y1, y2, y3⟩ := z x y
            exact ⟨y1, fun q => Nat.lt_succ_of_lt (y2 q), y3⟩
          · rw [List.mem_singleton.mp y]
            exact ⟨Or.inl rfl, fun _ => Nat.lt_succ_self _, fun q => absurd q (by show ¬ 0 = 2; decide)⟩) (by omega) rfl (fun o => by unfold uC; omega) (fun o => by unfold uR; omega)
        refine ⟨σ', τ', c1, ?_, fr_tr fC1 c3, fr_tr fR1 c4, ?_⟩
        · have c2' : bn1 (pX11_condition (nI (26 * L + nSg Θ)) t4) (fun s6 => bn1 (pX11_must (4 : Int32) s6) (tlR (nI (k + 1)) 11 (nI 0))) = some τ' := c2
          rw [c2', bn1_s]
        · rcases c5 with ⟨k', x1, x2, x3, x4, x5, x6, x7⟩ | c5
          · exact Or.inl ⟨k', x1, x2, x3, x4, x5, by omega, x7⟩
          · exact Or.inr c5
      · obtain ⟨σ', c1, c2, c3⟩ := (KC_cdT (g := nSg Θ) (c := 0) (by omega) (by omega) hr) s9 b1
        obtain ⟨τ', d1, d2, d3⟩ := (KR_cdT (L := L) (q := 26 * L + nSg Θ) b1.1 (by omega) (by omega) (by omega) (v3 := nI (k + 1)) (sr := nI 0) (o := 11)) t4 b2
        refine ⟨σ', τ', c1, ?_, fr_tr fC1 c3, fr_tr fR1 d3, Or.inr ⟨f, p, c2, d2⟩⟩
        dsimp only at d1
        rw [d1, bn1_s]
    · obtain ⟨f, p, b1, b2⟩ := ss
      have hcn2 : s2.1 11 L = nI (nSg Θ) := (fr_1 f2 rfl).trans hcn.2.2.1
      have g19 : s2.1 0 19 = nI L := (fr_1 f2 rfl).trans h19
      have eq : (26 : Int32) * nI L + nI (nSg Θ) = nI (26 * L + nSg Θ) := by rw [show (26 : Int32) = nI 26 from rfl, nI_mulS, nI_add]
      obtain ⟨τ', d1, d2, d3⟩ := (KR_cdT (L := L) (q := 26 * L + nSg Θ) b1.1 (by omega) (by omega) (by omega) (v3 := s2.1 0 11) (sr := nI 0) (o := 11)) s2 b2
      refine ⟨s4, τ', if_00, ?_, hdC_p f1, fr_tr (hdR_t f2) d3, Or.inr ⟨f, p, b1, d2⟩⟩
      rw [nd_un, lt_b, mustR_s b1.1 b2, bn1_s, nl_stop b1.1 b2, bn1_s, bn2_s, g19, gx_i hL (by decide), nI_clamp (by omega), hcn2, eq]
      dsimp only at d1
      have d1' : bn1 (pX11_condition (nI (26 * L + nSg Θ)) s2) (fun s6 => bn1 (pX11_must (4 : Int32) s6) (tlR (s2.1 0 11) 11 0)) = some τ' := d1
      rw [d1', bn1_s]
end OPENQ
