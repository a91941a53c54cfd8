/-! read: a literal, both sides, to its end -/
noncomputable def lqE (nt x9 : Int32) (s17 : gS) : Option gS := gT (s17.2.2 3 1) tR (fun rr18 => bn1 (pX9_addStep rr18 x9 (0 : Int32) s17) (fun s20 => if nt = 0 then some s20 else gT (s20.2.2 3 1) tR (fun rr21 => bn1 (pX9_addStep rr21 (8 : Int32) (0 : Int32) s20) (fun s23 => some s23))))
noncomputable def lqD (nt x9 : Int32) (s15 : gS) : Option gS := bn1 (pX7_sum (0 : Int32) s15) (lqE nt x9)
noncomputable def lqC (nt x9 : Int32) (s8 : gS) : Option gS := bn1 (pX7_take s8) (lqD nt x9)
noncomputable def lqB (nt : Int32) (s8 : gS) : Option gS := lt' (s8.1 3 3) (fun x9 => bn1 (pX10_inRange x9 (30 : Int32) (33 : Int32)) (fun v10 => if v10 = 0 then bn1 (pX7_fail (1 : Int32) s8) (fun s13 => some s13) else lqC nt x9 s8))
noncomputable def lqA (z1 : Int32 × gS) : Option gS := bn1 (pX7_sum (0 : Int32) z1.2) (lqB z1.1)
theorem litC_un {σ : gS} : pX7_literal σ = bn1 (lpP nC (0, 0, σ)) lqA := rfl
noncomputable def lrE (a1 x8 nt z11 x19 : Int32) (s21 : gS) : Option gS := if (s21.1 0 13) ≤ 0 then gx (s21.1 0 37) 300 (lt' (wI s21 24 (s21.1 0 37).toNatClampNeg z11) (fun s22 => gx (s22.1 0 37) 300 (lt' (wI s22 25 (s22.1 0 37).toNatClampNeg (nt &&& 1)) (fun s23 => gx (s23.1 0 37) 300 (lt' (wI s23 26 (s23.1 0 37).toNatClampNeg (a1 &&& 1)) (fun s24 => gx (s24.1 0 37) 300 (lt' (wI s24 27 (s24.1 0 37).toNatClampNeg x8) (fun s25 => gx (s25.1 0 37) 300 (lt' (wI s25 28 (s25.1 0 37).toNatClampNeg x19) (fun s26 => gx (s26.1 0 37) 300 (lt' (wI s26 29 (s26.1 0 37).toNatClampNeg (s26.1 0 44)) (fun s27 => lt' (wI s27 0 37 ((s27.1 0 37) + (1 : Int32))) (fun s28 => some s28))))))))))))) else some s21
noncomputable def lrD (a1 x8 nt z11 : Int32) (s18 : gS) : Option gS := lt' (s18.1 0 44) (fun x19 => bn1 (pX11_expression s18) (lrE a1 x8 nt z11 x19))
noncomputable def lrC (a1 x8 nt z11 : Int32) (z12 : gS) : Option gS := bn1 (pX11_goesOn z12) (lrD a1 x8 nt z11)
noncomputable def lrB (a1 x8 nt : Int32) (s10 : gS) : Option gS := bn1 (if (s10.1 0 13) ≤ 0 then gx (s10.1 0 11) 403 (some ((s10.1 3 (s10.1 0 11).toNatClampNeg) - (11 : Int32))) else some (0 : Int32)) (fun (z11 : Int32) => bn1 (if (s10.1 0 13) = 0 then if z11 < 0 then bn1 (pX11_fail (1 : Int32) s10) (fun s14 => some s14) else if z11 ≤ (3 : Int32) then some s10 else bn1 (pX11_fail (1 : Int32) s10) (fun s16 => some s16) else some s10) (lrC a1 x8 nt z11))
noncomputable def lrA (a1 : Int32) (z1 : Int32 × gS) : Option gS := lt' (z1.2.1 0 44) (fun x8 => bn1 (pX11_expression z1.2) (lrB a1 x8 z1.1))
theorem litR_un {a1 : Int32} {τ : gS} : pX11_literal a1 τ = bn1 (lpP nR (0, τ)) (lrA a1) := rfl
section STOPL
variable {f p r : Nat}
theorem KC_dE {nt x9 : Int32} : KC (sumF r) f p r (lqE nt x9) := KC_T (g := fun rr18 s17 => bn1 (pX9_addStep rr18 x9 (0 : Int32) s17) (fun s20 => if nt = 0 then some s20 else gT (s20.2.2 3 1) tR (fun rr21 => bn1 (pX9_addStep rr21 (8 : Int32) (0 : Int32) s20) (fun s23 => some s23)))) (KC_b KC_add (KC_if KC_id (KC_T (g := fun rr21 s20 => bn1 (pX9_addStep rr21 (8 : Int32) (0 : Int32) s20) (fun s23 => some s23)) (KC_b KC_add KC_id))))
theorem KC_dD {nt x9 : Int32} : KC (sumF r) f p r (lqD nt x9) := KC_b KC_sum KC_dE
theorem KC_dB {nt : Int32} : KC (sumF r) f p r (lqB nt) := fun σ h => by
  obtain ⟨s1, e1, c1, f1⟩ := (KC_fail (a := 1)) σ h
  refine ⟨s1, ?_, c1, f1⟩
  unfold lqB
  rw [h.2.1.1, lt_b, inR, if_neg (show ¬ ((30 : Int32) ≤ 38 ∧ (38 : Int32) ≤ 33) by decide), bn1_s, if_00, e1, bn1_s]
theorem KC_dA {nt : Int32} : KC (sumF r) f p r (fun σ => lqA (nt, σ)) := KC_b KC_sum KC_dB
theorem KC_lit : KC (sumF r) f p r pX7_literal := fun σ h => by
  obtain ⟨s1, e1, c1, f1⟩ := (KC_dA (nt := 0)) σ h
  refine ⟨s1, ?_, c1, f1⟩
  rw [litC_un, lpP_inr (nC_out (by rw [h.2.1.1]; decide)), bn1_s]
  exact e1
end STOPL
def KR (N : Nat) (tk pl : Nat → Nat) (vl : Nat → Int64) (P : Nat → Nat → Bool) (f p : Nat) (m : gS → Option gS) : Prop := ∀ τ, spR N tk pl vl f p τ → ∃ τ', m τ = some τ' ∧ spR N tk pl vl f p τ' ∧ fr P τ τ'
section STOPR
variable {N : Nat} {tk pl : Nat → Nat} {vl : Nat → Int64} {L f p : Nat}
theorem KR_b {P : Nat → Nat → Bool} {m g : gS → Option gS} (h1 : KR N tk pl vl P f p m) (h2 : KR N tk pl vl P f p g) : KR N tk pl vl P f p (fun τ => bn1 (m τ) g) := fun τ h => by
  obtain ⟨s1, e1, c1, f1⟩ := h1 τ h
  obtain ⟨s2, e2, c2, f2⟩ := h2 s1 c1
  exact ⟨s2, by show bn1 (m τ) g = _; rw [e1, bn1_s, e2], c2, fr_tr f1 f2⟩
theorem KR_go (hf : fpO f p) : KR N tk pl vl (xH L) f p pX11_goesOn := fun τ h => by
  obtain ⟨s1, e1, c1, f1⟩ := goesR_s hf h
  exact ⟨s1, e1, c1, xH_x (hdR_x f1)⟩
theorem KR_exp (hf : fpO f p) : KR N tk pl vl (xH L) f p pX11_expression := fun τ h => exp_stop hf h
theorem sp_n (hf : fpO f p) {τ : gS} (h : spR N tk pl vl f p τ) : ¬ τ.1 0 13 = 0 ∧ ¬ τ.1 0 13 ≤ 0 := by
  rw [h.1]
  exact ⟨nI_ne0 (by have := hf.1; omega) (by have := hf.1; omega), nI_nle (by have := hf.1; omega) (by have := hf.1; omega)⟩
theorem KR_eE (hf : fpO f p) {a b c d e : Int32} : KR N tk pl vl (xH L) f p (lrE a b c d e) := fun τ h => ⟨τ, by unfold lrE; rw [if_neg (sp_n hf h).2], h, fr_rf⟩
theorem KR_eD (hf : fpO f p) {a b c d : Int32} : KR N tk pl vl (xH L) f p (lrD a b c d) := fun τ h => KR_b (KR_exp hf) (KR_eE hf) τ h
theorem KR_eC (hf : fpO f p) {a b c d : Int32} : KR N tk pl vl (xH L) f p (lrC a b c d) := KR_b (KR_go hf) (KR_eD hf)
theorem KR_eB (hf : fpO f p) {a b c : Int32} : KR N tk pl vl (xH L) f p (lrB a b c) := fun τ h => by
  obtain ⟨s1, e1, c1, f1⟩ := (KR_eC (L := L) hf (a := a) (b := b) (c := c) (d := 0)) τ h
  refine ⟨s1, ?_, c1, f1⟩
  unfold lrB
  rw [if_neg (sp_n hf h).2, bn1_s, if_neg (sp_n hf h).1, bn1_s, e1]
theorem KR_eA (hf : fpO f p) {a nt : Int32} : KR N tk pl vl (xH L) f p (fun τ => lrA a (nt, τ)) := fun τ h => KR_b (KR_exp hf) (KR_eB hf) τ h
theorem KR_lit (hf : fpO f p) {a : Int32} : KR N tk pl vl (xH L) f p (pX11_literal a) := fun τ h => by
  obtain ⟨s1, e1, c1, f1⟩ := (KR_eA (L := L) hf (a := a) (nt := 0)) τ h
  refine ⟨s1, ?_, c1, f1⟩
  have e0 : nR (0, τ) = some (.inr (0, τ)) := by
    unfold nR
    dsimp only
    rw [isR_s hf h, bn1_s, if_00]
  rw [litR_un, lpP_inr e0, bn1_s]
  exact e1
end STOPR
def li6 (s : gS) (j : Nat) (a b c d e f : Int32) : gS := wI (wI (wI (wI (wI (wI (wI s 24 j a) 25 j b) 26 j c) 27 j d) 28 j e) 29 j f) 0 37 (nI (j + 1))
theorem li6_o {s : gS} {j o k : Nat} {a b c d e f : Int32} (h1 : ¬ (24 ≤ o ∧ o ≤ 29 ∧ k = j)) (h2 : ¬ (o = 0 ∧ k = 37)) : (li6 s j a b c d e f).1 o k = s.1 o k := by
  unfold li6
  rw [wI_1, if_neg h2, wI_1, if_neg (by omega), wI_1, if_neg (by omega), wI_1, if_neg (by omega), wI_1, if_neg (by omega), wI_1, if_neg (by omega), wI_1, if_neg (by omega)]
theorem li6_j {s : gS} {j : Nat} {a b c d e f : Int32} : (li6 s j a b c d e f).1 24 j = a ∧ (li6 s j a b c d e f).1 25 j = b ∧ (li6 s j a b c d e f).1 26 j = c ∧ (li6 s j a b c d e f).1 27 j = d ∧ (li6 s j a b c d e f).1 28 j = e ∧ (li6 s j a b c d e f).1 29 j = f ∧ (li6 s j a b c d e f).1 0 37 = nI (j + 1) := by
  unfold li6
  refine ⟨?_, ?_, ?_, ?_, ?_, ?_, wI_s⟩
  · rw [wI_1, if_neg (by omega), wI_1, if_neg (by omega), wI_1, if_neg (by omega), wI_1, if_neg (by omega), wI_1, if_neg (by omega), wI_1, if_neg (by omega), wI_s]
  · rw [wI_1, if_neg (by omega), wI_1, if_neg (by omega), wI_1, if_neg (by omega), wI_1, if_neg (by omega), wI_1, if_neg (by omega), wI_s]
  · rw [wI_1, if_neg (by omega), wI_1, if_neg (by omega), wI_1, if_neg (by omega), wI_1, if_neg (by omega), wI_s]
  · rw [wI_1, if_neg (by omega), wI_1, if_neg (by omega), wI_1, if_neg (by omega), wI_s]
  · rw [wI_1, if_neg (by omega), wI_1, if_neg (by omega), wI_s]
  · rw [wI_1, if_neg (by omega), wI_s]
theorem eE_go {a b c d e : Int32} {s : gS} {j : Nat} (h13 : s.1 0 13 = 0) (h37 : s.1 0 37 = nI j) (hj : j < 300) : lrE a b c d e s = some (li6 s j d (c &&& 1) (a &&& 1) b e (s.1 0 44)) := by
  unfold lrE li6
  have g : ∀ (t : gS) (o : Nat) (v : Int32), o ≠ 0 → t.1 0 37 = nI j → (wI t o j v).1 0 37 = nI j := fun t o v ho ht => by rw [wI_1, if_neg (by omega), ht]
  have g4 : ∀ (t : gS) (o : Nat) (v : Int32), o ≠ 0 → (wI t o j v).1 0 44 = t.1 0 44 := fun t o v ho => by rw [wI_1, if_neg (by omega)]
  have g1 := g s 24 d (by decide) h37
  have g2 := g _ 25 (c &&& 1) (by decide) g1
  have g3 := g _ 26 (a &&& 1) (by decide) g2
  have g5 := g _ 27 b (by decide) g3
  have g6 := g _ 28 e (by decide) g5
  rw [h13, if_pos (show (0 : Int32) ≤ 0 by decide), h37, gx_i hj (by decide), nI_clamp (by omega), lt_b, g1, gx_i hj (by decide), nI_clamp (by omega), lt_b, g2, gx_i hj (by decide), nI_clamp (by omega), lt_b, g3, gx_i hj (by decide), nI_clamp (by omega), lt_b, g5, gx_i hj (by decide), nI_clamp (by omega), lt_b, g6, gx_i hj (by decide), nI_clamp (by omega), lt_b, g4 _ 28 e (by decide), g4 _ 27 b (by decide), g4 _ 26 _ (by decide), g4 _ 25 _ (by decide), g4 _ 24 _ (by decide)]
  have g7 := g _ 29 (s.1 0 44) (by decide) g6
  rw [g7, lt_b, nI_1]
/-- the reference's literals so far -/
def LR (L : Nat) (es : List cEl) (τ : gS) (i : Nat) (x : lEl) : Prop := τ.1 24 i = nI x.2.2.1 ∧ τ.1 25 i = b01 x.2.1 ∧ τ.1 26 i = b01 x.1 ∧ ∃ u v, es = u ++ (x.2.2.2.1 ++ x.2.2.2.2) ++ v ∧ τ.1 27 i = nI (420 * L + u.length) ∧ τ.1 28 i = nI (420 * L + u.length + x.2.2.2.1.length) ∧ τ.1 29 i = nI (420 * L + u.length + x.2.2.2.1.length + x.2.2.2.2.length)
def LX (L : Nat) (es : List cEl) (lts : List lEl) (τ : gS) : Prop := τ.1 0 37 = nI (150 * L + lts.length) ∧ ∀ i x, lts[i]? = some x → LR L es τ (150 * L + i) x
theorem LR_up {L i : Nat} {es e : List cEl} {τ τ' : gS} {x : lEl} (h : LR L es τ i x) (hf : ∀ o, 24 ≤ o → o ≤ 29 → τ'.1 o i = τ.1 o i) : LR L (es ++ e) τ' i x := by
  obtain ⟨h1, h2, h3, u, v, h4, h5, h6, h7⟩ := h
  exact ⟨(hf _ (by omega) (by omega)).trans h1, (hf _ (by omega) (by omega)).trans h2, (hf _ (by omega) (by omega)).trans h3, u, v ++ e, by rw [h4]; simp only [List.append_assoc], (hf _ (by omega) (by omega)).trans h5, (hf _ (by omega) (by omega)).trans h6, (hf _ (by omega) (by omega)).trans h7⟩
theorem LX_up {L : Nat} {es e : List cEl} {lts : List lEl} {τ τ' : gS} (h : LX L es lts τ) (h0 : τ'.1 0 37 = τ.1 0 37) (hf : ∀ o k, 24 ≤ o → o ≤ 29 → τ'.1 o k = τ.1 o k) : LX L (es ++ e) lts τ' := ⟨h0.trans h.1, fun i x hx => LR_up (h.2 i x hx) (fun o a b => hf o _ a b)⟩
theorem xH_24 {L o j : Nat} (h : 1 ≤ o) (h2 : o ≤ 29) : xH L o j = false := by
  simp only [xH, xF, Bool.or_eq_false_iff, Bool.and_eq_false_iff, beq_eq_false_iff_ne]
  omega
theorem LX_x {L : Nat} {es e : List cEl} {lts : List lEl} {τ τ' : gS} (h : LX L es lts τ) (f : fr (xH L) τ τ') : LX L (es ++ e) lts τ' := LX_up h (fr_1 f rfl) (fun o k a b => fr_1 f (xH_24 (by omega) b))
theorem LX_h {L : Nat} {es : List cEl} {lts : List lEl} {τ τ' : gS} (h : LX L es lts τ) (f : fr hdR τ τ') : LX L es lts τ' := by
  have := LX_x (e := []) h (xH_x (hdR_x f))
  rw [List.append_nil] at this
  exact this
def liF (L o j : Nat) : Bool := xH L o j || ((o == 0 && j == 37) || (decide (24 ≤ o) && (decide (o ≤ 29) && (decide (150 * L ≤ j) && decide (j < 150 * L + 150)))))
theorem liF_x {L : Nat} {σ τ : gS} (f : fr (xH L) σ τ) : fr (liF L) σ τ := fr_up (fun o j q => by
  unfold liF at q
  exact (Bool.or_eq_false_iff.mp q).1) f
theorem fr_li6 {L j : Nat} {s : gS} {a b c d e f : Int32} (h1 : 150 * L ≤ j) (h2 : j < 150 * L + 150) : fr (liF L) s (li6 s j a b c d e f) := fun o k q => by
  refine ⟨li6_o ?_ ?_, rfl, rfl⟩
  · rintro ⟨z1, z2, rfl⟩
    simp [liF, z1, z2, h1, h2] at q
  · rintro ⟨rfl, rfl⟩
    simp [liF] at q
theorem v_6a : ∀ T, T ≤ 37 → (30 ≤ T ∧ T ≤ 33 ∧ nI (kp T) - (11 : Int32) = nI (T - 30) ∧ ¬ nI (T - 30) < 0 ∧ nI (T - 30) ≤ 3) ∨ (¬ (30 ≤ T ∧ T ≤ 33) ∧ (nI (kp T) - (11 : Int32) < 0 ∨ ¬ nI (kp T) - (11 : Int32) ≤ 3)) := by decide +kernel
theorem b01_1 {b : Bool} : b01 b &&& 1 = b01 b := by cases b <;> decide
section LITQ2
variable {N : Nat} {tk pl : Nat → Nat} {vl : Nat → Int64} {r L pc : Nat}
def LO (N : Nat) (tk pl : Nat → Nat) (vl : Nat → Int64) (r L pc k : Nat) (fl : Bool) (cs : List (Int32 × Int32)) (es : List cEl) (lts : List lEl) (σ σ' τ' : gS) : Prop := (∃ k' d e x, k + 3 ≤ k' ∧ GO N tk pl vl r L pc k' (cs ++ d) (es ++ e) σ' τ' ∧ LX L (es ++ e) (lts ++ [x]) τ' ∧ x.1 = fl ∧ wfL x ∧ (σ'.1 3 8 = 0 → σ.1 3 8 = 0 ∧ d = cmL x)) ∨ SS N tk pl vl r σ' τ'
theorem litQ (hT : TkOK N tk pl) (hr : tR r = true) (hL : L < 2) {k : Nat} {fl : Bool} {cs : List (Int32 × Int32)} {es : List cEl} {lts : List lEl} {σ τ : gS} (h : GO N tk pl vl r L pc k cs es σ τ) (hx : LX L es lts τ) (h3 : 3 * lts.length ≤ k) : ∃ σ' τ', pX7_literal σ = some σ' ∧ pX11_literal (b01 fl) τ = some τ' ∧ fr (sumF r) σ σ' ∧ fr (liF L) τ τ' ∧ LO N tk pl vl r L pc k fl cs es lts σ σ' τ' := by
  have h9 := tR_9 hr
  obtain ⟨b, σ1, τ1, a1, a2, a3, a4, out1⟩ := notQ (L := L) (pc := pc) hT hr 401 0 k false σ τ (by omega) (by omega) h
  have a1' : lpP nC (0, 0, σ) = some (b01 b, σ1) := a1
  have a2' : lpP nR (0, τ) = some (b01 b, τ1) := a2
  rw [litC_un, litR_un, a1', a2', bn1_s, bn1_s]
  rcases out1.symm with ⟨f, p, o1, o2⟩ | ⟨k1, o1, o2, o3⟩
  · obtain ⟨σ', b1, b2, b3⟩ := (KC_dA (nt := b01 b)) σ1 o1
    obtain ⟨τ', c1, c2, c3⟩ := (KR_eA (L := L) o1.1 (a := b01 fl) (nt := b01 b)) τ1 o2
    exact ⟨σ', τ', b1, c1, fr_tr (hdC_s a3) b3, liF_x (fr_tr (xH_x (hdR_x a4)) c3), Or.inr ⟨f, p, b2, c2⟩⟩
  obtain ⟨s8, s10, b1, b2, b3, b4, out2⟩ := sumQ hT hr hL o2
  have x8 : τ1.1 0 44 = nI (420 * L + es.length) := o2.2.2.2.2.1.1
  have hx1 := LX_h hx a4
  unfold lqA lrA
  dsimp only
  rw [b1, bn1_s, lt_b, b2, bn1_s, x8]
  have fC1 : fr (sumF r) σ s8 := fr_tr (hdC_s a3) b3
  have fR1 : fr (xH L) τ s10 := fr_tr (xH_x (hdR_x a4)) b4
  rcases out2.symm with ⟨f, p, p1, p2⟩ | ⟨k2, d1, e1, p1, p2, p3, p4⟩
  · obtain ⟨σ', q1, q2, q3⟩ := (KC_dB (nt := b01 b)) s8 p1
    obtain ⟨τ', t1, t2, t3⟩ := (KR_eB (L := L) p1.1 (a := b01 fl) (b := nI (420 * L + es.length)) (c := b01 b)) s10 p2
    exact ⟨σ', τ', q1, t1, fr_tr fC1 q3, liF_x (fr_tr fR1 t3), Or.inr ⟨f, p, q2, t2⟩⟩
  have hk2 := p2.1.1
  have hk24 := k_400 hT hk2
  have htk := (hT.2.2.2.1 k2 hk2).1
  have hx2 : LX L (es ++ e1) lts s10 := LX_x hx1 b4
  have x9 : s8.1 3 3 = nI (tk k2) := p2.1.2.2.1
  have iC : pX10_inRange (nI (tk k2)) (30 : Int32) (33 : Int32) = some (b01 (decide (30 ≤ tk k2 ∧ tk k2 ≤ 33))) := inb_c (lo := 30) (hi := 33) (by omega) (by decide) (by decide)
  have kR : s10.1 3 k2 = nI (kp (tk k2)) := (p2.2.1.2.2 k2 hk2).1
  unfold lqB lrB
  rw [x9, lt_b, iC, bn1_s, p2.2.1.2.1, if_pos (show (0 : Int32) ≤ 0 by decide), p2.2.1.1, gx_i (by omega) (by decide), nI_clamp (by omega), kR, bn1_s, if_00]
  rcases (v_6a (tk k2) htk).symm with ⟨z1, z2⟩ | ⟨z1, z2, z3, z4, z5⟩
  · obtain ⟨s13, s14, q1, q2, q3, q4, f, p, q5, q6⟩ := failGO (f := 1) hT hr (Or.inl rfl) p2
    simp only [show nI 1 = 1 from rfl] at q1 q2
    obtain ⟨τ', t1, t2, t3⟩ := (KR_eC (L := L) q5.1 (a := b01 fl) (b := nI (420 * L + es.length)) (c := b01 b) (d := nI (kp (tk k2)) - (11 : Int32))) s14 q6
    refine ⟨s13, τ', ?_, ?_, fr_tr fC1 (hdC_s q3), liF_x (fr_tr fR1 (fr_tr (xH_x (hdR_x q4)) t3)), Or.inr ⟨f, p, q5, t2⟩⟩
    · rw [decide_eq_false z1, if_b0, q1, bn1_s]
    · have e0 : (if nI (kp (tk k2)) - (11 : Int32) < 0 then bn1 (some s14) (fun s14 => some s14) else if nI (kp (tk k2)) - (11 : Int32) ≤ (3 : Int32) then some s10 else bn1 (some s14) (fun s16 => some s16)) = some s14 := by
        by_cases w1 : nI (kp (tk k2)) - (11 : Int32) < 0
        · rw [if_pos w1]; rfl
        · rw [if_neg w1, if_neg (z2.resolve_left w1)]; rfl
      rw [q2, e0, bn1_s]
      exact t1
  obtain ⟨s15, s18, q1, q2, q3, q4, out3⟩ := goQ (pc' := pc + bN b + 1) hT hr p2 (by omega) (by omega)
  rw [decide_eq_true ⟨z1, z2⟩, if_b1, z3, if_neg z4, if_pos z5, bn1_s]
  unfold lqC lrC
  rw [q1, bn1_s, q2, bn1_s]
  have fC2 : fr (sumF r) σ s15 := fr_tr fC1 (hdC_s q3)
  have fR2 : fr (xH L) τ s18 := fr_tr fR1 (xH_x (hdR_x q4))
  rcases out3.symm with ⟨f, p, w1, w2⟩ | ⟨w1, w2, w3⟩
  · obtain ⟨σ', t1, t2, t3⟩ := (KC_dD (nt := b01 b) (x9 := nI (tk k2))) s15 w1
    obtain ⟨τ', y1, y2, y3⟩ := (KR_eD (L := L) w1.1 (a := b01 fl) (b := nI (420 * L + es.length)) (c := b01 b) (d := nI (tk k2 - 30))) s18 w2
    exact ⟨σ', τ', t1, y1, fr_tr fC2 t3, liF_x (fr_tr fR2 y3), Or.inr ⟨f, p, t2, y2⟩⟩
  obtain ⟨s17, s21, t1, t2, t3, t4, out4⟩ := sumQ hT hr hL w2
  have x19 : s18.1 0 44 = nI (420 * L + (es ++ e1).length) := w2.2.2.2.2.1.1
  unfold lqD lrD
  rw [t1, bn1_s, lt_b, t2, bn1_s, x19]
  have fC3 : fr (sumF r) σ s17 := fr_tr fC2 t3
  have fR3 : fr (xH L) τ s21 := fr_tr fR2 t4
  rcases out4.symm with ⟨f, p, y1, y2⟩ | ⟨k3, d2, e2, y1, y2, y3, y4⟩
  · obtain ⟨σ', m1, m2, m3⟩ := (KC_dE (nt := b01 b) (x9 := nI (tk k2))) s17 y1
    obtain ⟨τ', n1, n2, n3⟩ := (KR_eE (L := L) y1.1 (a := b01 fl) (b := nI (420 * L + es.length)) (c := b01 b) (d := nI (tk k2 - 30)) (e := nI (420 * L + (es ++ e1).length))) s21 y2
    exact ⟨σ', τ', m1, n1, fr_tr fC3 m3, liF_x (fr_tr fR3 n3), Or.inr ⟨f, p, m2, n2⟩⟩
  have hx4 : LX L (es ++ e1 ++ e2) lts s21 := LX_x (LX_h hx2 q4) t4
  obtain ⟨g1, g2, g3, g4, ⟨g5, g6⟩, g7, g8, g10, g11⟩ := y2
  have hk34 := k_400 hT g1.1
  obtain ⟨s20, m1, m2, m3⟩ := addSC (a := nI (tk k2)) (v := 0) hr g4 (by omega)
  have d20 : s20.2.2 3 1 = r := by rw [m3.2]; exact g3
  obtain ⟨s23, n1, n2, n3⟩ := addO (c := b01 b = 0) (a := 8) hr d20 m2 (fun z => by
    have hb : bN b = 1 := by cases b with
      | false => exact absurd rfl z
      | true => rfl
    rw [List.length_append, List.length_singleton]
    omega)
  have hn := codS_tr m3 n3
  have e8 : s23.1 3 8 = s17.1 3 8 := hn.1 3 8 (by omega) (by omega) (by omega)
  have e9 : s23.1 3 9 = s17.1 3 9 := hn.1 3 9 (by omega) (by omega) (by omega)
  have hxb : (if b01 b = 0 then ([] : List (Int32 × Int32)) else [(8, 0)]) = if b then [(8, 0)] else [] := by cases b <;> rfl
  have hbl : (if b then ([(8, 0)] : List (Int32 × Int32)) else []).length = bN b := by cases b <;> rfl
  rw [hxb] at n2
  have hE := eE_go (a := b01 fl) (b := nI (420 * L + es.length)) (c := b01 b) (d := nI (tk k2 - 30)) (e := nI (420 * L + (es ++ e1).length)) g2.2.1 hx4.1 (by omega)
  have hrd : ∀ o k, ¬ (24 ≤ o ∧ o ≤ 29) → ¬ (o = 0 ∧ k = 37) → (li6 s21 (150 * L + lts.length) (nI (tk k2 - 30)) (b01 b &&& 1) (b01 fl &&& 1) (nI (420 * L + es.length)) (nI (420 * L + (es ++ e1).length)) (s21.1 0 44)).1 o k = s21.1 o k := fun o k c1 c2 => li6_o (by omega) c2
  refine ⟨s23, _, ?_, hE, fr_tr fC3 (codS_f hn), fr_tr (liF_x fR3) (fr_li6 (by omega) (by omega)), Or.inl ⟨k3, d1 ++ d2 ++ [(nI (tk k2), 0)] ++ (if b then [(8, 0)] else []), e1 ++ e2, (fl, b, tk k2 - 30, e1, e2), by omega, ⟨rdC_cod hr g1 hn, ⟨?_, ?_, ?_⟩, by rw [hn.2]; exact g3, ?_, ⟨?_, ?_⟩, ?_, ?_, ?_, ?_⟩, ⟨?_, ?_⟩, rfl, ⟨p3, y3, by show tk k2 - 30 ≤ 3; omega⟩, ?_⟩⟩
  · unfold lqE
    rw [g3, gT_p hr, m1, bn1_s]
    exact n1
  · rw [hrd 0 11 (by omega) (by omega)]; exact g2.1
  · rw [hrd 0 13 (by omega) (by omega)]; exact g2.2.1
  · intro i hi
    obtain ⟨c1, c2, c3, c4⟩ := g2.2.2 i hi
    refine ⟨by rw [hrd 3 i (by omega) (by omega)]; exact c1, by rw [hrd 4 i (by omega) (by omega)]; exact c2, fun q => ?_, c4⟩
    obtain ⟨x, x1, x2, x3⟩ := c3 q
    exact ⟨x, x1, x2, by rw [hrd 5 i (fun z => absurd z.1 (by decide)) (fun z => absurd z.1 (by decide))]; exact x3⟩
  · simp only [List.append_assoc] at n2 ⊢
    exact n2
  · rw [hrd 0 44 (by omega) (by omega), ← List.append_assoc]; exact g5
  · rw [← List.append_assoc]
    exact fun i q e => ⟨(hrd 30 _ (by omega) (by omega)).trans (g6 i q e).1, (hrd 31 _ (by omega) (by omega)).trans (g6 i q e).2⟩
  · rw [hrd 0 12 (by omega) (by omega)]; exact g7
  · exact WW_eq e8 e9 (hrd 0 15 (by omega) (by omega)) (hrd 0 16 (by omega) (by omega)) g8
  · simp only [List.length_append, List.length_singleton, hbl] at g10 ⊢
    omega
  · rw [← List.append_assoc]; exact g11
  · rw [li6_j.2.2.2.2.2.2, List.length_append]; rfl
  · intro i x hi
    rcases Nat.lt_trichotomy i lts.length with z | z | z
    · rw [List.getElem?_append_left z] at hi
      rw [← List.append_assoc]
      have := LR_up (e := []) (τ' := li6 s21 (150 * L + lts.length) (nI (tk k2 - 30)) (b01 b &&& 1) (b01 fl &&& 1) (nI (420 * L + es.length)) (nI (420 * L + (es ++ e1).length)) (s21.1 0 44)) (hx4.2 i x hi) (fun o c1 c2 => li6_o (by omega) (by omega))
      rw [List.append_nil] at this
      exact this
    · subst z
      rw [List.getElem?_append_right (Nat.le_refl _), Nat.sub_self] at hi
      simp only [List.getElem?_cons_zero, Option.some.injEq] at hi
      subst hi
      obtain ⟨c1, c2, c3, c4, c5, c6, -⟩ := li6_j (s := s21) (j := 150 * L + lts.length) (a := nI (tk k2 - 30)) (b := b01 b &&& 1) (c := b01 fl &&& 1) (d := nI (420 * L + es.length)) (e := nI (420 * L + (es ++ e1).length)) (f := s21.1 0 44)
      refine ⟨c1, c2.trans b01_1, c3.trans b01_1, es, [], by rw [List.append_nil], c4, ?_, ?_⟩
      · rw [c5, List.length_append, Nat.add_assoc]
      · rw [c6, g5, List.length_append, List.length_append, Nat.add_assoc, Nat.add_assoc, Nat.add_assoc]
    · rw [List.getElem?_eq_none (by rw [List.length_append]; simp; omega)] at hi
      exact absurd hi (by simp)
  · intro z
    rw [e8] at z
    obtain ⟨c1, c2⟩ := y4 z
    rw [w3] at c1
    obtain ⟨c3, c4⟩ := p4 c1
    rw [o3] at c3
    refine ⟨c3, ?_⟩
    rw [c2, c4]
    show _ = e1.map cm1 ++ e2.map cm1 ++ [(nI (30 + (tk k2 - 30)), 0)] ++ (if b then [(8, 0)] else [])
    rw [show 30 + (tk k2 - 30) = tk k2 by omega]
end LITQ2
