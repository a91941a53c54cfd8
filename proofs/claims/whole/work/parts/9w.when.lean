/-! read: a when, both sides -/
def addWh (Θ : Tld) (b s y : Nat) : Tld := ((nSg Θ, nSy Θ, nBk Θ, nWh Θ + 1, nLw Θ), srt Θ, (fun j => if j = nWh Θ then b else wBk Θ j), (fun j => if j = nWh Θ then s else wSg Θ j), (fun j => if j = nWh Θ then y else wSy Θ j), cnd Θ, lwc Θ)
def awC (σ : gS) (r n : Nat) (a b c : Int32) : gS := wI (wI (wI (wI σ (r + 2) n a) (r + 3) n b) (r + 4) n c) r 3 (nI (n + 1))
def awR (τ : gS) (L m n : Nat) (a b c : Int32) : gS := wI (wI (wI (wI τ 17 m a) 18 m b) 19 m c) 16 L (nI (n + 1))
theorem addW_un {r n : Nat} {a b c : Int32} {σ : gS} (h : σ.1 r 3 = nI n) (hn : n < 40) : pX9_addWhen r a b c σ = some (awC σ r n a b c) := by
  unfold pX9_addWhen awC
  rw [h, if_neg (show ¬ (40 : Int32) ≤ nI n from nI_ge (b := 40) hn (by decide)), gx_i hn (by decide), lt_b, nI_clamp (by omega)]
  have g1 : (wI σ (r + 2) n a).1 r 3 = nI n := by rw [wI_1, if_neg (by omega), h]
  rw [g1, gx_i hn (by decide), lt_b, nI_clamp (by omega)]
  have g2 : (wI (wI σ (r + 2) n a) (r + 3) n b).1 r 3 = nI n := by rw [wI_1, if_neg (by omega), g1]
  rw [g2, gx_i hn (by decide), lt_b, nI_clamp (by omega)]
  have g3 : (wI (wI (wI σ (r + 2) n a) (r + 3) n b) (r + 4) n c).1 r 3 = nI n := by rw [wI_1, if_neg (by omega), g2]
  rw [g3, lt_b, nI_1]
theorem addW_s {f p r n : Nat} {a b c : Int32} {σ : gS} (h : CS f p r σ) (h3 : σ.1 r 3 = nI n) (hn : n ≤ 40) : ∃ σ', pX9_addWhen r a b c σ = some σ' ∧ CS f p r σ' ∧ fr (pcF r) σ σ' := by
  have h9 := tR_9 h.2.2.2.1
  by_cases hc : n < 40
  · refine ⟨_, addW_un h3 hc, ?_, ?_⟩
    · unfold awC
      exact CS_w (CS_w (CS_w (CS_w h (by omega) (by omega)) (by omega) (by omega)) (by omega) (by omega)) (by omega) (by omega)
    · unfold awC
      exact fr_tr (fr_tr (fr_tr (fr_wIp (by omega)) (fr_wIp (by omega))) (fr_wIp (by omega))) (fr_wIp (by omega))
  · refine ⟨σ, ?_, h, fr_rf⟩
    unfold pX9_addWhen
    rw [h3, if_pos (show (40 : Int32) ≤ nI n from nI_le (a := 40) (by omega) (by omega))]
noncomputable def wC6 (x10 v11 v17 : Int32) (s26 : gS) : Option gS := bn1 (pX7_need (25 : Int32) s26) (fun s28 => gT (s28.2.2 3 1) tR (fun rr29 => bn1 (pX9_addWhen rr29 x10 v11 v17 s28) (fun s31 => some s31)))
noncomputable def wC5 (x10 v11 v17 : Int32) (z19 : gS) : Option gS := bn1 (pX7_need (23 : Int32) z19) (wC6 x10 v11 v17)
noncomputable def wC4 (x10 v11 : Int32) (s16 : gS) : Option gS := bn2 (pX7_nameAhead (2 : Int32) s16) (fun v17 s18 => bn1 (if v11 = (-1 : Int32) then some s18 else if v17 = (-1 : Int32) then some s18 else gT (s18.2.2 3 1) tR (fun rr20 => bn1 (pX9_hasWhen rr20 x10 v11 v17 s18) (fun v21 => if v21 = 0 then some s18 else bn1 (pX7_blame (3 : Int32) s18) (fun s24 => some s24)))) (wC5 x10 v11 v17))
noncomputable def wC3 (x10 v11 : Int32) (s14 : gS) : Option gS := bn1 (pX7_need (2 : Int32) s14) (wC4 x10 v11)
noncomputable def wC2 (s8 : gS) : Option gS := gT (s8.2.2 3 1) tR (fun rr9 => lt' ((s8.1 rr9 2) - (1 : Int32)) (fun x10 => bn2 (pX7_nameAhead (0 : Int32) s8) (fun v11 s12 => bn1 (pX7_need (23 : Int32) s12) (wC3 x10 v11))))
theorem when_un {σ : gS} : pX7_tellWhen σ = gT (σ.2.2 3 1) tR (fun rr1 => bn1 (if (σ.1 rr1 2) = 0 then bn1 (pX7_blame (4 : Int32) σ) (fun s4 => some s4) else some σ) (fun (z2 : gS) => gT (z2.2.2 3 1) tR (fun rr5 => bn1 (if (40 : Int32) ≤ (z2.1 rr5 3) then some (0 : Int32) else some (1 : Int32)) (fun (z6 : Int32) => bn2 (pX7_open z6 z2) (fun v7 s8 => if v7 = 0 then some s8 else wC2 s8))))) := rfl
noncomputable def wR6 (x1 w x12 w2 : Int32) (s17 : gS) : Option gS := if (s17.1 0 13) ≤ 0 then gx (s17.1 0 19) 2 (gx x1 80 (lt' (wI s17 17 x1.toNatClampNeg ((s17.1 13 (s17.1 0 19).toNatClampNeg) - (1 : Int32))) (fun s18 => gx x1 80 (lt' (wI s18 18 x1.toNatClampNeg w) (fun s19 => gx x1 80 (lt' (wI s19 19 x1.toNatClampNeg w2) (fun s20 => lt' ((40 : Int32) * (s20.1 0 19)) (fun x21 => bn1 (lpP (wlF x1 x12 w w2) (x21, s20)) (fun (z22 : gS) => gx (z22.1 0 19) 2 (gx (z22.1 0 19) 2 (lt' (wI z22 16 (z22.1 0 19).toNatClampNeg ((z22.1 16 (z22.1 0 19).toNatClampNeg) + (1 : Int32))) (fun s32 => some s32)))))))))))) else some s17
noncomputable def wR5 (x1 w x12 : Int32) (z13 : Int32 × gS) : Option gS := bn1 (pX11_must (4 : Int32) z13.2) (wR6 x1 w x12 z13.1)
noncomputable def wR4 (x1 w : Int32) (s11 : gS) : Option gS := lt' (s11.1 0 11) (fun x12 => bn1 (if (s11.1 0 13) ≤ 0 then bn2 (pX11_known (1 : Int32) s11) (fun v14 s15 => some (v14, s15)) else some ((-1 : Int32), s11)) (wR5 x1 w x12))
noncomputable def wR3 (x1 : Int32) (z7 : Int32 × gS) : Option gS := bn1 (pX11_must (22 : Int32) z7.2) (wR4 x1 z7.1)
noncomputable def wR2 (x1 : Int32) (s6 : gS) : Option gS := bn1 (if (s6.1 0 13) ≤ 0 then bn2 (pX11_known (0 : Int32) s6) (fun v8 s9 => some (v8, s9)) else some ((-1 : Int32), s6)) (wR3 x1)
theorem whenR_un {τ : gS} : pX11_tellWhen τ = gx (τ.1 0 19) 2 (lt' (((40 : Int32) * (τ.1 0 19)) + (τ.1 16 (τ.1 0 19).toNatClampNeg)) (fun x1 => gx (τ.1 0 19) 2 (bn1 (if (τ.1 13 (τ.1 0 19).toNatClampNeg) = 0 then bn1 (pX11_wrong (4 : Int32) (τ.1 0 11) τ) (fun s4 => some s4) else some τ) (fun (z2 : gS) => bn1 (pX11_goesOn z2) (wR2 x1))))) := rfl
section WSTOP
variable {N : Nat} {tk pl : Nat → Nat} {vl : Nat → Int64} {r f p n : Nat}
theorem wC6_s {a b c : Int32} {σ : gS} (h : CS f p r σ) (h3 : σ.1 r 3 = nI n) (hn : n ≤ 40) : ∃ σ', wC6 a b c σ = some σ' ∧ CS f p r σ' ∧ fr (pcF r) σ σ' := by
  have h9 := tR_9 h.2.2.2.1
  obtain ⟨s1, e1, c1, f1⟩ := (KC_need (K := 25) (by decide)) σ h
  have e1' : pX7_need 25 σ = some s1 := e1
  obtain ⟨s2, e2, c2, f2⟩ := addW_s (a := a) (b := b) (c := c) c1 ((fr_1 f1 (sumF_n (by omega))).trans h3) hn
  exact ⟨s2, by unfold wC6; rw [e1', bn1_s, c1.2.2.1, gT_p h.2.2.2.1, e2, bn1_s], c2, fr_tr (sumF_p f1) f2⟩
theorem wC5_s {a b c : Int32} {σ : gS} (h : CS f p r σ) (h3 : σ.1 r 3 = nI n) (hn : n ≤ 40) : ∃ σ', wC5 a b c σ = some σ' ∧ CS f p r σ' ∧ fr (pcF r) σ σ' := by
  have h9 := tR_9 h.2.2.2.1
  obtain ⟨s1, e1, c1, f1⟩ := (KC_need (K := 23) (by decide)) σ h
  have e1' : pX7_need 23 σ = some s1 := e1
  obtain ⟨s2, e2, c2, f2⟩ := wC6_s (a := a) (b := b) (c := c) c1 ((fr_1 f1 (sumF_n (by omega))).trans h3) hn
  exact ⟨s2, by unfold wC5; rw [e1', bn1_s, e2], c2, fr_tr (sumF_p f1) f2⟩
theorem wC4_s {a b : Int32} {σ : gS} (h : CS f p r σ) (h3 : σ.1 r 3 = nI n) (hn : n ≤ 40) : ∃ σ', wC4 a b σ = some σ' ∧ CS f p r σ' ∧ fr (pcF r) σ σ' := by
  obtain ⟨s2, e2, c2, f2⟩ := wC5_s (a := a) (b := b) (c := -1) h h3 hn
  refine ⟨s2, ?_, c2, f2⟩
  unfold wC4
  have e0 : ∀ x : Option gS, (if b = (-1 : Int32) then some σ else if (-1 : Int32) = (-1 : Int32) then some σ else x) = some σ := fun x => by
    rw [if_pos rfl]
    split <;> rfl
  rw [ahead_s (by rw [h.2.1.1]; decide), bn2_s, e0, bn1_s, e2]
theorem wC3_s {a b : Int32} {σ : gS} (h : CS f p r σ) (h3 : σ.1 r 3 = nI n) (hn : n ≤ 40) : ∃ σ', wC3 a b σ = some σ' ∧ CS f p r σ' ∧ fr (pcF r) σ σ' := by
  have h9 := tR_9 h.2.2.2.1
  obtain ⟨s1, e1, c1, f1⟩ := (KC_need (K := 2) (by decide)) σ h
  have e1' : pX7_need 2 σ = some s1 := e1
  obtain ⟨s2, e2, c2, f2⟩ := wC4_s (a := a) (b := b) c1 ((fr_1 f1 (sumF_n (by omega))).trans h3) hn
  exact ⟨s2, by unfold wC3; rw [e1', bn1_s, e2], c2, fr_tr (sumF_p f1) f2⟩
theorem wR6_s {a b c d : Int32} {τ : gS} (hf : fpO f p) (h : spR N tk pl vl f p τ) : wR6 a b c d τ = some τ := by
  unfold wR6
  rw [if_neg (sp_n hf h).2]
theorem wR5_s {a b c d : Int32} {τ : gS} (hf : fpO f p) (h : spR N tk pl vl f p τ) : wR5 a b c (d, τ) = some τ := by
  unfold wR5
  rw [mustR_s hf h, bn1_s, wR6_s hf h]
theorem wR4_s {a b : Int32} {τ : gS} (hf : fpO f p) (h : spR N tk pl vl f p τ) : wR4 a b τ = some τ := by
  unfold wR4
  rw [lt_b, if_neg (sp_n hf h).2, bn1_s, wR5_s hf h]
theorem wR3_s {a d : Int32} {τ : gS} (hf : fpO f p) (h : spR N tk pl vl f p τ) : wR3 a (d, τ) = some τ := by
  unfold wR3
  rw [mustR_s hf h, bn1_s, wR4_s hf h]
theorem wR2_s {a : Int32} {τ : gS} (hf : fpO f p) (h : spR N tk pl vl f p τ) : wR2 a τ = some τ := by
  unfold wR2
  rw [if_neg (sp_n hf h).2, bn1_s, wR3_s hf h]
end WSTOP
def hbC (o j : Nat) : Bool := hdC o j || blC o j
theorem hdC_hb {σ τ : gS} (f : fr hdC σ τ) : fr hbC σ τ := fr_up (fun o j q => by
  unfold hbC at q
  exact (Bool.or_eq_false_iff.mp q).1) f
theorem blC_hb {σ τ : gS} (f : fr blC σ τ) : fr hbC σ τ := fr_up (fun o j q => by
  unfold hbC at q
  exact (Bool.or_eq_false_iff.mp q).2) f
theorem hbC_s {r : Nat} {σ τ : gS} (f : fr hbC σ τ) : fr (sumF r) σ τ := fr_up (fun o j q => by
  simp only [sumF, hbC, hdC, blC, Bool.or_eq_false_iff, Bool.and_eq_false_iff, beq_eq_false_iff_ne, decide_eq_false_iff_not] at q ⊢
  omega) f
section WHENQ
variable {N : Nat} {tk pl : Nat → Nat} {vl : Nat → Int64} {r L : Nat}
theorem MX_hb (hr : tR r = true) {k k' : Nat} {cs : List (Int32 × Int32)} {es : List cEl} {lts : List lEl} {Θ : Tld} {nC nR : List nEl} {σ τ σ' τ' : gS} (h : MX N tk pl vl r L k cs es lts Θ nC nR σ τ) (f1 : fr hbC σ σ') (f2 : fr hbR τ τ') (g1 : rdC N tk pl vl k' σ') (g2 : rdR N tk pl vl k' τ') (hk : k ≤ k') (hw : WW (pl k') σ' τ') (hm : σ'.1 3 8 = 0 → σ.1 3 8 = 0) : MX N tk pl vl r L k' cs es lts Θ nC nR σ' τ' := by
  obtain ⟨h1, h2, h3, h4, ⟨h5, h6⟩, h7, h8, h9, h10⟩ := h.1
  have lx := LX_x (e := []) h.2.1 (hbR_x (L := L) f2)
  rw [List.append_nil] at lx
  refine MX_0 h (KpC_s hr (hbC_s f1)) (KpR_l (liF_x (hbR_x f2))) hm ⟨g1, g2, (fr_3 f1 rfl).trans h3, ?_, ⟨(fr_1 f2 rfl).trans h5, fun i q e => ⟨(fr_1 f2 rfl).trans (h6 i q e).1, (fr_1 f2 rfl).trans (h6 i q e).2⟩⟩, (fr_1 f2 rfl).trans h7, hw, by omega, by omega⟩ lx hk
  rcases tR_or hr with rfl | rfl
  · exact CX_fr f1 rfl (fun _ => rfl) (fun _ => rfl) h4
  · exact CX_fr f1 rfl (fun _ => rfl) (fun _ => rfl) h4
theorem awR_o {τ : gS} {m n o j : Nat} {a b c : Int32} (h : ¬ (17 ≤ o ∧ o ≤ 19 ∧ j = m) ∧ ¬ (o = 16 ∧ j = L)) : (awR τ L m n a b c).1 o j = τ.1 o j := by
  unfold awR
  rw [wI_1, if_neg (by omega), wI_1, if_neg (by omega), wI_1, if_neg (by omega), wI_1, if_neg (by omega)]
theorem awC_o {σ : gS} {n o j : Nat} {a b c : Int32} (h : ¬ (r + 2 ≤ o ∧ o ≤ r + 4 ∧ j = n) ∧ ¬ (o = r ∧ j = 3)) : (awC σ r n a b c).1 o j = σ.1 o j := by
  unfold awC
  rw [wI_1, if_neg (by omega), wI_1, if_neg (by omega), wI_1, if_neg (by omega), wI_1, if_neg (by omega)]
theorem whenEnd (hr : tR r = true) (hL : L < 2) {k : Nat} {cs : List (Int32 × Int32)} {es : List cEl} {lts : List lEl} {Θ : Tld} {nm : List nEl} {σ τ : gS} (h : MX N tk pl vl r L k cs es lts Θ nm nm σ τ) (hlt : nWh Θ < 40) {a b c a' b' c' : Int32} (hx : σ.1 3 8 = 0 → ∃ B S Y, B < nBk Θ ∧ S < nSg Θ ∧ Y < nSy Θ ∧ (a = nI B ∧ b = nI S ∧ c = nI Y) ∧ a' = nI B ∧ b' = nI S ∧ c' = nI Y) : ∃ Θ', MX N tk pl vl r L k cs es lts Θ' nm nm (awC σ r (nWh Θ) a b c) (awR τ L (40 * L + nWh Θ) (nWh Θ) a' b' c') := by
  obtain ⟨h1, h2, h3, h4, h5, h6, ⟨m, m1, m2⟩, h8⟩ := h
  have h9 := tR_9 hr
  have hr18 : ∀ j, j ≤ 4 → r + j ≠ 18 ∧ r + j ≠ 19 ∧ r + j ≠ 20 := fun j hj => by rcases tR_or hr with rfl | rfl <;> omega
  have hr0 := hr18 0 (by omega)
  have hr2 := hr18 2 (by omega)
  have hr3 := hr18 3 (by omega)
  have hr4 := hr18 4 (by omega)
  have key : ∀ B S Y, (σ.1 3 8 = 0 → B < nBk Θ ∧ S < nSg Θ ∧ Y < nSy Θ ∧ (a = nI B ∧ b = nI S ∧ c = nI Y) ∧ a' = nI B ∧ b' = nI S ∧ c' = nI Y) → MX N tk pl vl r L k cs es lts (addWh Θ B S Y) nm nm (awC σ r (nWh Θ) a b c) (awR τ L (40 * L + nWh Θ) (nWh Θ) a' b' c') := by
    intro B S Y hx
    refine ⟨?_, ?_, h3, ?_, ?_, ?_, ⟨m, m1, ?_⟩, fun z => ?_⟩
    · unfold awC awR
      exact GO_wC hr (GO_wC hr (GO_wC hr (GO_wC hr (GO_wR (GO_wR (GO_wR (GO_wR h1 (by omega)) (by omega)) (by omega)) (by omega)) (by omega) (by omega)) (by omega) (by omega)) (by omega) (by omega)) (by omega) (by omega)
    · unfold awR
      exact LX_w (LX_w (LX_w (LX_w h2 (by omega)) (by omega)) (by omega)) (by omega)
    · obtain ⟨z0, ⟨z1, z2, z3, z4, z5⟩, z6, z7, z8, z9, z10⟩ := h4
      refine ⟨⟨z0.1, z0.2.1, z0.2.2.1, by show nWh Θ + 1 ≤ 40; omega, z0.2.2.2.2⟩, ⟨?_, ?_, ?_, ?_, ?_⟩, ?_, ?_, ?_, ?_, ?_⟩
      · rw [awC_o (by omega)]; exact z1
      · rw [awC_o (by omega)]; exact z2
      · rw [awC_o (by omega)]; exact z3
      · unfold awC; exact wI_s
      · rw [awC_o (by omega)]; exact z5
      · rw [awR_o (by omega)]; exact z6
      · rw [awR_o (by omega)]; exact z7
      · rw [awR_o (by omega)]; exact z8
      · unfold awR; exact wI_s
      · rw [awR_o (by omega)]; exact z10
    · rw [awR_o (by omega)]; exact h5
    · rw [awR_o (by omega)]; exact h6
    · rw [awC_o (by omega)]; exact m2
    · rw [awC_o (by omega)] at z
      obtain ⟨⟨d1, d2, d3, d4, d5⟩, q2, q3, q4, q5⟩ := h8 z
      obtain ⟨x1, x2, x3, ⟨x4, x5, x6⟩, x7, x8, x9⟩ := hx z
      refine ⟨⟨fun j hj => ?_, fun j hj => ?_, fun j hj => ?_, fun j hj => ?_, fun j hj => ?_⟩, ⟨?_, fun i x hi => ?_⟩, ⟨q3.1, ?_, fun i x hi => ?_⟩, q4, q5⟩
      · obtain ⟨y1, y2, y3⟩ := d1 j hj
        exact ⟨y1, (awC_o (by omega)).trans y2, (awR_o (by omega)).trans y3⟩
      · have hj : j < nWh Θ + 1 := hj
        have e1 : wBk (addWh Θ B S Y) j = if j = nWh Θ then B else wBk Θ j := rfl
        have e2 : wSg (addWh Θ B S Y) j = if j = nWh Θ then S else wSg Θ j := rfl
        have e3 : wSy (addWh Θ B S Y) j = if j = nWh Θ then Y else wSy Θ j := rfl
        rw [e1, e2, e3]
        by_cases hc : j = nWh Θ
        · rw [if_pos hc, if_pos hc, if_pos hc, hc]
          refine ⟨⟨x1, x2, x3⟩, ⟨?_, ?_, ?_⟩, ?_, ?_, ?_⟩
          · unfold awC; rw [wI_1, if_neg (by omega), wI_1, if_neg (by omega), wI_1, if_neg (by omega), wI_s, x4]
          · unfold awC; rw [wI_1, if_neg (by omega), wI_1, if_neg (by omega), wI_s, x5]
          · unfold awC; rw [wI_1, if_neg (by omega), wI_s, x6]
          · unfold awR; rw [wI_1, if_neg (by omega), wI_1, if_neg (by omega), wI_1, if_neg (by omega), wI_s, x7]
          · unfold awR; rw [wI_1, if_neg (by omega), wI_1, if_neg (by omega), wI_s, x8]
          · unfold awR; rw [wI_1, if_neg (by omega), wI_s, x9]
        · rw [if_neg hc, if_neg hc, if_neg hc]
          obtain ⟨y1, ⟨y2, y3, y4⟩, y5, y6, y7⟩ := d2 j (by omega)
          exact ⟨y1, ⟨(awC_o (by omega)).trans y2, (awC_o (by omega)).trans y3, (awC_o (by omega)).trans y4⟩, (awR_o (by omega)).trans y5, (awR_o (by omega)).trans y6, (awR_o (by omega)).trans y7⟩
      · obtain ⟨y1, y2, y3⟩ := d3 j hj
        have y2' := FC_up (d := []) (τ := awC σ r (nWh Θ) a b c) y2 (awC_o (by omega)) (awC_o (by omega))
        have y3' := RCn_up (d := []) (τ := awR τ L (40 * L + nWh Θ) (nWh Θ) a' b' c') y3 (awR_o (by omega)) (awR_o (by omega))
        rw [List.append_nil] at y2' y3'
        exact ⟨y1, y2', y3'⟩
      · obtain ⟨y1, y2, y3⟩ := d4 j hj
        have y2' := FC_up (d := []) (τ := awC σ r (nWh Θ) a b c) y2 (awC_o (by omega)) (awC_o (by omega))
        have y3' := RCn_up (d := []) (τ := awR τ L (40 * L + nWh Θ) (nWh Θ) a' b' c') y3 (awR_o (by omega)) (awR_o (by omega))
        rw [List.append_nil] at y2' y3'
        exact ⟨y1, y2', y3'⟩
      · obtain ⟨y1, y2, y3⟩ := d5 j hj
        have y2' := FC_up (d := []) (τ := awC σ r (nWh Θ) a b c) y2 (awC_o (by omega)) (awC_o (by omega))
        have y3' := RLw_up (d := []) (τ := awR τ L (40 * L + nWh Θ) (nWh Θ) a' b' c') y3 (awR_o (by omega)) (awR_o (by omega))
        rw [List.append_nil] at y2' y3'
        exact ⟨y1, y2', y3'⟩
      · rw [awC_o (by omega)]; exact q2.1
      · obtain ⟨y1, y2, y3⟩ := q2.2 i x hi
        exact ⟨y1, (awC_o (by omega)).trans y2, (awC_o (by omega)).trans y3⟩
      · rw [awR_o (by omega)]; exact q3.2.1
      · obtain ⟨y1, y2, y3⟩ := q3.2.2 i x hi
        exact ⟨y1, (awR_o (by omega)).trans y2, (awR_o (by omega)).trans y3⟩
  by_cases h0 : σ.1 3 8 = 0
  · obtain ⟨B, S, Y, hb⟩ := hx h0
    exact ⟨_, key B S Y (fun _ => hb)⟩
  · exact ⟨_, key 0 0 0 (fun z => absurd z h0)⟩
end WHENQ
