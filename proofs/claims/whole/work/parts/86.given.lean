/-! given, trial, whole, pleased -/
theorem ush1 (x : Int32) : ∃ j, j < 2 ^ 31 ∧ ushrI x (1 : Int32) = nI j := by
  obtain ⟨n, hn, rfl⟩ := wb_of32 x
  refine ⟨n / 2, by omega, ?_⟩
  unfold ushrI
  exact pk_ushrN hn 1 1 (by decide)
/-- a LOT: both sides draw the same -/
theorem lotQ {n : Nat} (h0 : 0 < n) (hn : n < 2 ^ 31) (seed which : Int32) : ∃ j, j < n ∧ pX2_lot (nI n) seed which = some (nI j) ∧ pX11_lot seed which (nI n) = some (nI j) := by
  unfold pX2_lot pX11_lot pX2_mix pX11_mixed
  rw [if_pos (show (1 : Int32) ≤ nI n from nI_le (a := 1) h0 hn)]
  simp only [lt_b, bn1_s]
  have n0 : nI n ≠ 0 := nI_ne0 h0 hn
  rw [g0_p n0]
  generalize ((((seed ^^^ 7) * 1103515245 + 12345) ^^^ ushrI ((seed ^^^ 7) * 1103515245 + 12345) 15) ^^^ which) * 1103515245 + 12345 = x
  obtain ⟨j, j1, j2⟩ := ush1 (x ^^^ ushrI x 15)
  rw [j2]
  exact ⟨j % n, Nat.mod_lt _ h0, by rw [pk_rem j1 h0 hn], by rw [pk_rem j1 h0 hn]⟩
theorem ct_or_le (p q : Nat → Bool) : ∀ n, fb_ct (fun k => p k || q k) n ≤ fb_ct p n + fb_ct q n
  | 0 => Nat.le_refl _
  | n + 1 => by
    have := ct_or_le p q n
    rw [ct_s, ct_s, ct_s]
    unfold bN
    cases p n <;> cases q n <;> simp <;> omega
theorem ct_eq (x : Nat) : ∀ n, fb_ct (fun k => decide (k = x)) n = if x < n then 1 else 0
  | 0 => rfl
  | n + 1 => by
    rw [ct_s, ct_eq x n]
    unfold bN
    by_cases h : n = x
    · subst h
      simp
    · rw [decide_eq_false h]
      by_cases h2 : x < n
      · rw [if_pos h2, if_pos (show x < n + 1 by omega)]; rfl
      · rw [if_neg h2, if_neg (show ¬ x < n + 1 by omega)]; rfl
section OTHER
variable {A : Abs} {σ τ : gS} {nth x : Nat} {a2 a3 : Int32} {D : Nat → Bool}
theorem ct_bef {k : Nat} (hk : k < x) (hD : D k = false) : fb_ct (fun k => !D k) k < fb_ct (fun k => !D k) x := by
  have h1 : fb_ct (fun k => !D k) (k + 1) = fb_ct (fun k => !D k) k + 1 := by
    rw [ct_s, hD]; rfl
  have := fb_ct_mono (fun k => !D k) (m := k + 1) (n := x) (by omega)
  omega
theorem nthC (ho : okA A) (h : RC A σ) (hD : ∀ k, k < aPn A → ((nI k = a2 ∨ nI k = a3) ↔ D k = true)) (hx : x < aPn A) (hDx : D x = false) (hc : fb_ct (fun k => !D k) x = nth) : pX2_nthOther (nI nth) a2 a3 σ = some (nI x) := by
  have hn := ho.2.1.1
  have hle := fb_ct_le (fun k => !D k) x
  unfold pX2_nthOther
  apply lp_bnS
  refine lp_cnt (fun k (z : Int32 × Int32) => z.1 = nI k ∧ z.2 = nI (fb_ct (fun k => !D k) k)) x ?_ ?_ (k := 0) (by omega) ⟨rfl, rfl⟩
  · rintro k ⟨z, w⟩ hk ⟨rfl, rfl⟩
    dsimp only
    rw [h.2.1.1, if_neg (nI_ge (by omega) (by omega))]
    simp only [lt_b, nI_1]
    have hdk := hD k (by omega)
    cases hd : D k with
    | true =>
      have e : fb_ct (fun k => !D k) (k + 1) = fb_ct (fun k => !D k) k := by rw [ct_s, hd]; rfl
      by_cases c1 : nI k = a2
      · rw [if_pos c1]; exact ⟨_, rfl, rfl, by rw [e]⟩
      · have c2 := (hdk.mpr hd).resolve_left c1
        rw [if_neg c1, if_pos c2]; exact ⟨_, rfl, rfl, by rw [e]⟩
    | false =>
      have nd : ¬ (nI k = a2 ∨ nI k = a3) := fun q => by rw [hdk.mp q] at hd; cases hd
      have e : fb_ct (fun k => !D k) (k + 1) = fb_ct (fun k => !D k) k + 1 := by rw [ct_s, hd]; rfl
      have lt := ct_bef hk hd
      rw [if_neg (fun q => nd (Or.inl q)), if_neg (fun q => nd (Or.inr q)), if_neg (fun q => by
        have := (nI_eq (by omega) (by omega)).mp q
        omega)]
      exact ⟨_, rfl, rfl, by rw [e]⟩
  · rintro ⟨z, w⟩ ⟨rfl, rfl⟩
    dsimp only
    have nd : ¬ (nI x = a2 ∨ nI x = a3) := fun q => by rw [(hD x hx).mp q] at hDx; cases hDx
    rw [h.2.1.1, if_neg (nI_ge (by omega) (by omega)), if_neg (fun q => nd (Or.inl q)), if_neg (fun q => nd (Or.inr q)), if_pos (by rw [hc])]
    exact ⟨_, rfl, rfl⟩
theorem othR (ho : okA A) (h : RR A τ) (hD : ∀ k, k < aPn A → ((nI k = a2 ∨ nI k = a3) ↔ D k = true)) (hx : x < aPn A) (hDx : D x = false) (hc : fb_ct (fun k => !D k) x = nth) : pX11_other (nI nth) a2 a3 τ = some (nI x) := by
  have hn := ho.2.1.1
  have hle := fb_ct_le (fun k => !D k) x
  unfold pX11_other
  apply lp_bnS
  refine lp_cnt (fun k (z : Int32 × Int32) => z.1 = nI k ∧ z.2 = nI (nth - fb_ct (fun k => !D k) k)) x ?_ ?_ (k := 0) (by omega) ⟨rfl, rfl⟩
  · rintro k ⟨z, w⟩ hk ⟨rfl, rfl⟩
    dsimp only
    rw [h.2.1.1, if_neg (nI_ge (by omega) (by omega))]
    simp only [lt_b, nI_1]
    have hdk := hD k (by omega)
    cases hd : D k with
    | true =>
      have e : fb_ct (fun k => !D k) (k + 1) = fb_ct (fun k => !D k) k := by rw [ct_s, hd]; rfl
      by_cases c1 : nI k = a2
      · rw [if_pos c1]; exact ⟨_, rfl, rfl, by rw [e]⟩
      · have c2 := (hdk.mpr hd).resolve_left c1
        rw [if_neg c1, if_pos c2]; exact ⟨_, rfl, rfl, by rw [e]⟩
    | false =>
      have nd : ¬ (nI k = a2 ∨ nI k = a3) := fun q => by rw [hdk.mp q] at hd; cases hd
      have e : fb_ct (fun k => !D k) (k + 1) = fb_ct (fun k => !D k) k + 1 := by rw [ct_s, hd]; rfl
      have lt := ct_bef hk hd
      rw [if_neg (fun q => nd (Or.inl q)), if_neg (fun q => nd (Or.inr q)), if_neg (fun q => by
        have := (nI_eq (b := 0) (by omega) (by decide)).mp q
        omega)]
      refine ⟨_, rfl, rfl, ?_⟩
      show nI _ + -1 = nI _
      rw [e, show nth - fb_ct (fun k => !D k) k = (nth - (fb_ct (fun k => !D k) k + 1)) + 1 by omega, nI_m]
  · rintro ⟨z, w⟩ ⟨rfl, rfl⟩
    dsimp only
    have nd : ¬ (nI x = a2 ∨ nI x = a3) := fun q => by rw [(hD x hx).mp q] at hDx; cases hDx
    rw [h.2.1.1, if_neg (nI_ge (by omega) (by omega)), if_neg (fun q => nd (Or.inl q)), if_neg (fun q => nd (Or.inr q)), if_pos (by rw [hc, Nat.sub_self]; rfl)]
    exact ⟨_, rfl, rfl⟩
end OTHER
/-- who is given: both sides name the same two -/
theorem givenQ {A : Abs} {σ τ : gS} {p : Nat} (ho : okA A) (h1 : RC A σ) (h2 : RR A τ) (hp : p < aPn A) (h3 : 3 ≤ aPn A) (seed : Int32) : ∃ q r, q < aPn A ∧ r < aPn A ∧ pX2_firstGiven (nI p) seed σ = some (nI q) ∧ pX11_firstGiven (nI p) seed τ = some (nI q) ∧ pX2_secondGiven (nI p) (nI q) seed σ = some (nI r) ∧ pX11_secondGiven (nI p) seed τ = some (nI r) := by
  have hn := ho.2.1.1
  obtain ⟨j, j1, j2, j3⟩ := lotQ (n := aPn A - 1) (by omega) (by omega) seed ((2 : Int32) * nI p)
  obtain ⟨i, i1, i2, i3⟩ := lotQ (n := aPn A - 2) (by omega) (by omega) seed ((2 : Int32) * nI p + 1)
  have D1 := fb_ct_not (fun k => decide (k = p)) (aPn A)
  rw [ct_eq, if_pos hp] at D1
  obtain ⟨q, q1, q2, q3⟩ := fb_ct_kth (p := fun k => !decide (k = p)) (k := j) (n := aPn A) (by omega)
  have q2' : decide (q = p) = false := by
    cases hd : decide (q = p) with
    | false => rfl
    | true => rw [hd] at q2; cases q2
  have D2 := fb_ct_not (fun k => decide (k = p) || decide (k = q)) (aPn A)
  have D3 := ct_or_le (fun k => decide (k = p)) (fun k => decide (k = q)) (aPn A)
  rw [ct_eq, ct_eq, if_pos hp, if_pos q1] at D3
  obtain ⟨r, r1, r2, r3⟩ := fb_ct_kth (p := fun k => !(decide (k = p) || decide (k = q))) (k := i) (n := aPn A) (by omega)
  have r2' : (decide (r = p) || decide (r = q)) = false := by
    cases hd : (decide (r = p) || decide (r = q)) with
    | false => rfl
    | true => rw [hd] at r2; cases r2
  have c1 : pX2_nthOther (nI j) (nI p) (nI p) σ = some (nI q) := nthC (D := fun k => decide (k = p)) ho h1 (fun k hk => by
    rw [nI_eq (by omega) (by omega), decide_eq_true_iff]; omega) q1 q2' q3
  have c2 : pX11_other (nI j) (nI p) (-1) τ = some (nI q) := othR (D := fun k => decide (k = p)) ho h2 (fun k hk => by
    rw [nI_eq (by omega) (by omega), decide_eq_true_iff]
    refine ⟨fun z => z.resolve_right (fun z => ?_), Or.inl⟩
    have := congrArg Int32.toInt z
    rw [nI_toInt (by omega)] at this
    have e : (-1 : Int32).toInt = -1 := by decide
    rw [e] at this
    omega) q1 q2' q3
  have hD : ∀ k, k < aPn A → ((nI k = nI p ∨ nI k = nI q) ↔ (decide (k = p) || decide (k = q)) = true) := fun k hk => by
    rw [nI_eq (by omega) (by omega), nI_eq (by omega) (by omega), Bool.or_eq_true, decide_eq_true_iff, decide_eq_true_iff]
  have c3 : pX2_nthOther (nI i) (nI p) (nI q) σ = some (nI r) := nthC (D := fun k => decide (k = p) || decide (k = q)) ho h1 hD r1 r2' r3
  have c4 : pX11_other (nI i) (nI p) (nI q) τ = some (nI r) := othR (D := fun k => decide (k = p) || decide (k = q)) ho h2 hD r1 r2' r3
  have e1 : nI (aPn A) - 1 = nI (aPn A - 1) := nI_subS (b := 1) (by omega)
  have e2 : nI (aPn A) - 2 = nI (aPn A - 2) := nI_subS (b := 2) (by omega)
  have F : pX11_firstGiven (nI p) seed τ = some (nI q) := by
    unfold pX11_firstGiven
    rw [h2.2.1.1, e1, j3, bn1_s, c2, bn1_s]
  refine ⟨q, r, q1, r1, ?_, F, ?_, ?_⟩
  · unfold pX2_firstGiven
    rw [h1.2.1.1, e1, j2, bn1_s, c1, bn1_s]
  · unfold pX2_secondGiven
    rw [h1.2.1.1, e2, i2, bn1_s, c3, bn1_s]
  · unfold pX11_secondGiven
    rw [h2.2.1.1, e2, i3, bn1_s, F, bn1_s, c4, bn1_s]
theorem h_19 {a1 a2 a3 a4 a5 : Int32} {u : gS × gS} (hu : Inv u) : ∃ t, q19 a1 a2 a3 a4 a5 u = some (.inl t) ∧ Inv t := by
  obtain ⟨A, ho, h1, h2⟩ := hu
  have hn := ho.2.1.1
  have no : Inv (u.1, u.2) := ⟨A, ho, h1, h2⟩
  suffices hs : ∃ v, pX10_given a1 a2 a3 u.1 = some v ∧ pX11_given a1 a2 a3 u.2 = some v by
    obtain ⟨v, e1, e2⟩ := hs
    exact ⟨(u.1, u.2), qPP e1 e2, no⟩
  unfold pX10_given pX11_given
  rw [hasC ho h1, isPR ho h2, inR, inRR, in_b, h1.2.1.1, h2.2.1.1]
  simp only [bn1_s]
  by_cases hx : ixB (aPn A) a1 = true
  case neg =>
    have hx' : ixB (aPn A) a1 = false := by simpa using hx
    simp only [hx', if_b0]
    exact ⟨_, rfl, rfl⟩
  by_cases h3 : nI (aPn A) < (3 : Int32)
  · simp only [hx, if_pos h3, if_b1]
    exact ⟨_, rfl, rfl⟩
  by_cases hy : (0 : Int32) ≤ a3 ∧ a3 ≤ 1
  case neg =>
    simp only [hx, if_neg h3, decide_eq_false hy, if_b0, if_b1]
    exact ⟨_, rfl, rfl⟩
  simp only [hx, if_neg h3, decide_eq_true hy, if_b1]
  obtain ⟨p, hp, rfl⟩ := ix_T (by omega) hx
  have h3' : 3 ≤ aPn A := by
    rcases Nat.lt_or_ge (aPn A) 3 with q | q
    · exact absurd (nI_lt (b := 3) q (by decide)) h3
    · exact q
  obtain ⟨q, r, -, -, e1, e2, e3, e4⟩ := givenQ ho h1 h2 hp h3' a2
  rw [e1, e2]
  simp only [bn1_s]
  rw [e3, e4]
  simp only [bn1_s]
  by_cases h0 : a3 = 0
  · simp only [if_pos h0]; exact ⟨_, rfl, rfl⟩
  · simp only [if_neg h0]; exact ⟨_, rfl, rfl⟩
theorem h_18 {a1 a2 a3 a4 a5 : Int32} {u : gS × gS} (hu : Inv u) : ∃ t, q18 a1 a2 a3 a4 a5 u = some (.inl t) ∧ Inv t := by
  obtain ⟨A, ho, h1, h2⟩ := hu
  have hn := ho.2.1.1
  have h4 := ho.2.2.2.1.2.2.1
  have hL4 := ho.2.2.2.1.2.2.2.2
  have no : Inv (u.1, u.2) := ⟨A, ho, h1, h2⟩
  unfold q18
  suffices hs : ∃ v s1 s2, pX10_trial a1 a2 a3 u.1 = some (v, s1) ∧ pX11_trial a1 a2 a3 u.2 = some (v, s2) ∧ Inv (s1, s2) by
    obtain ⟨v, s1, s2, e1, e2, e3⟩ := hs
    refine ⟨(s1, s2), ?_, e3⟩
    rw [e1, bn2_s, e2, bn2_s, if_pos rfl]
  unfold pX10_trial pX11_trial
  rw [isLwC ho h1, isLwR ho h2, isBkC ho h1, isBkR ho h2, h1.2.1.1, h2.2.1.1]
  simp only [bn1_s]
  by_cases hx : ixB (nLw (aTd A)) a1 = true
  case neg =>
    have hx' : ixB (nLw (aTd A)) a1 = false := by simpa using hx
    simp only [hx', if_b0]
    exact ⟨_, u.1, u.2, rfl, rfl, no⟩
  by_cases hy : ixB (nBk (aTd A)) a2 = true
  case neg =>
    have hy' : ixB (nBk (aTd A)) a2 = false := by simpa using hy
    simp only [hx, hy', if_b0, if_b1]
    exact ⟨_, u.1, u.2, rfl, rfl, no⟩
  by_cases h3 : (3 : Int32) ≤ nI (aPn A)
  case neg =>
    simp only [hx, hy, if_neg h3, if_b1]
    exact ⟨_, u.1, u.2, rfl, rfl, no⟩
  simp only [hx, hy, if_pos h3, if_b1]
  have h3' : 3 ≤ aPn A := by
    rcases Nat.lt_or_ge (aPn A) 3 with q | q
    · exact absurd h3 (nI_ge (b := 3) q (by decide))
    · exact q
  obtain ⟨l, hl, rfl⟩ := ix_T (by omega) hx
  obtain ⟨b, hb, rfl⟩ := ix_T (by omega) hy
  obtain ⟨s1, e1, f1, v1⟩ := surveyC ho h1
  have hC1 := RC_sc f1 h1
  rw [e1, bn1_s]
  apply ans_bn1 (P := fun w x => Inv (w, x))
  refine lp_two (fun k (z : Int32 × Int32 × gS) (y : Int32 × Int32 × gS) => z.1 = nI k ∧ y.1 = nI k ∧ z.2.1 = y.2.1 ∧ fr cW s1 z.2.2 ∧ fr scR u.2 y.2.2) (aPn A) ?_ ?_ (k := 0) (by omega) ⟨rfl, rfl, rfl, fr_rf, fr_rf⟩
  · rintro p ⟨z, n, σ⟩ ⟨y, n', τ⟩ hp ⟨rfl, rfl, rfl, hf, hg⟩
    dsimp only at hf hg ⊢
    have hC := RC_W hC1 hf
    have hR := RR_sc hg h2
    obtain ⟨q, r, q1, r1, d1, d2, d3, d4⟩ := givenQ ho hC hR hp h3' a3
    obtain ⟨s2, e2, f2⟩ := sixthsC (b := b) ho hC (Sv_W v1 hf) hl (by omega) hp q1 r1
    obtain ⟨t2, g2, k2⟩ := sixthsR (b := b) ho hR hl (by omega) hp q1 r1
    rw [hC.2.1.1, hR.2.1.1, if_neg (nI_ge hp (by omega)), if_neg (nI_ge hp (by omega)), d1, bn1_s, d3, bn1_s, e2, bn2_s, d2, bn1_s, d4, bn1_s, g2, bn2_s]
    exact Or.inl ⟨_, _, rfl, rfl, nI_1 p, nI_1 p, rfl, fr_tr hf f2, fr_tr hg k2⟩
  · rintro ⟨z, n, σ⟩ ⟨y, n', τ⟩ ⟨rfl, rfl, rfl, hf, hg⟩
    dsimp only at hf hg ⊢
    rw [(RC_W hC1 hf).2.1.1, (RR_sc hg h2).2.1.1, if_pos (nI_le (Nat.le_refl _) (by omega)), if_pos (nI_le (Nat.le_refl _) (by omega))]
    exact ⟨_, _, rfl, rfl, _, _, _, rfl, rfl, ask ho h1 h2 (fr_tr f1 (fr_up (fun o k q => cW_sc q) hf)) hg⟩
theorem weighAllC {A : Abs} {σ : gS} {l b p : Nat} (ho : okA A) (h : RC A σ) (hS : Sv A σ) (hl : l < nLw (aTd A)) (hb : b < 4) (hp : p < aPn A) : ∃ σ', pX4_weighAll (nI l) (nI b) (nI p) σ = some σ' ∧ fr cW σ σ' ∧ ∀ f, f < aPn A → σ'.1 38 f = FF A l b p f := by
  have hn := ho.2.1.1
  unfold pX4_weighAll
  refine lp_then (fun r => fr cW σ r ∧ ∀ f, f < aPn A → r.1 38 f = FF A l b p f) ?_ (fun r hr => ⟨_, rfl, hr⟩)
  refine lp_cnt (fun k (z : Int32 × gS) => z.1 = nI k ∧ fr cW σ z.2 ∧ ∀ f, f < k → z.2.1 38 f = FF A l b p f) (aPn A) ?_ ?_ (k := 0) (by omega) ⟨rfl, fr_rf, fun i hi => absurd hi (Nat.not_lt_zero i)⟩
  · rintro f ⟨z, τ⟩ hf ⟨rfl, hg, hv⟩
    dsimp only at hg hv ⊢
    have hC := RC_W h hg
    obtain ⟨s1, e1, f1, v1⟩ := weighC ho hC (Sv_W hS hg) hl hb hp hf
    rw [hC.2.1.1, if_neg (nI_ge hf (by omega)), e1, bn2_s, lt_b, nI_1]
    refine ⟨_, rfl, rfl, fr_tr hg f1, fun g hg2 => ?_⟩
    show s1.1 38 g = _
    rw [v1]
    by_cases hc : g = f
    · rw [if_pos hc, hc]
    · rw [if_neg hc]; exact hv g (by omega)
  · rintro ⟨z, τ⟩ ⟨rfl, hg, hv⟩
    dsimp only at hg hv ⊢
    rw [(RC_W h hg).2.1.1, if_pos (nI_le (Nat.le_refl _) (by omega))]
    exact ⟨_, rfl, hg, hv⟩
theorem two_b11 {S T R Q S1 T1 A B : Type} {I : S → T → Prop} {P : R → Q → Prop} {f : S1 → Option (S1 ⊕ A)} {g : T1 → Option (T1 ⊕ B)} {s : S1} {t : T1} {f' : A → Option (S ⊕ R)} {g' : B → Option (T ⊕ Q)} (P2 : A → B → Prop) (h : ∃ r q, lpP f s = some r ∧ lpP g t = some q ∧ P2 r q) (h2 : ∀ r q, P2 r q → two I P (f' r) (g' q)) : two I P (bn1 (bn1 (lpP f s) (fun z => some z)) f') (bn1 (lpP g t) g') := by
  obtain ⟨r, q, e1, e2, e3⟩ := h
  rw [e1, e2]; exact h2 r q e3
theorem h_20 {a1 a2 a3 a4 a5 : Int32} {u : gS × gS} (hu : Inv u) : ∃ t, q20 a1 a2 a3 a4 a5 u = some (.inl t) ∧ Inv t := by
  obtain ⟨A, ho, h1, h2⟩ := hu
  have hn := ho.2.1.1
  have h4 := ho.2.2.2.1.2.2.1
  have hL4 := ho.2.2.2.1.2.2.2.2
  have no : Inv (u.1, u.2) := ⟨A, ho, h1, h2⟩
  unfold q20
  suffices hs : ∃ v s1 s2, pX10_whole a1 a2 u.1 = some (v, s1) ∧ pX11_whole a1 a2 u.2 = some (v, s2) ∧ Inv (s1, s2) by
    obtain ⟨v, s1, s2, e1, e2, e3⟩ := hs
    refine ⟨(s1, s2), ?_, e3⟩
    rw [e1, bn2_s, e2, bn2_s, if_pos rfl]
  unfold pX10_whole pX11_whole
  rw [isLwC ho h1, isLwR ho h2, isBkC ho h1, isBkR ho h2]
  simp only [bn1_s]
  by_cases hx : ixB (nLw (aTd A)) a1 = true
  case neg =>
    have hx' : ixB (nLw (aTd A)) a1 = false := by simpa using hx
    simp only [hx', if_b0]
    exact ⟨_, u.1, u.2, rfl, rfl, no⟩
  by_cases hy : ixB (nBk (aTd A)) a2 = true
  case neg =>
    have hy' : ixB (nBk (aTd A)) a2 = false := by simpa using hy
    simp only [hx, hy', if_b0, if_b1]
    exact ⟨_, u.1, u.2, rfl, rfl, no⟩
  simp only [hx, hy, if_b1]
  obtain ⟨l, hl, rfl⟩ := ix_T (by omega) hx
  obtain ⟨b, hb, rfl⟩ := ix_T (by omega) hy
  obtain ⟨s1, e1, f1, v1⟩ := surveyC ho h1
  have hC1 := RC_sc f1 h1
  rw [e1, bn1_s]
  apply ans_bn1 (P := fun w x => Inv (w, x))
  refine lp_two (fun k (z : Int32 × Int32 × gS) (y : Int32 × Int32 × gS) => z.1 = nI k ∧ y.1 = nI k ∧ z.2.1 = y.2.1 ∧ fr cW s1 z.2.2 ∧ fr scR u.2 y.2.2) (aPn A) ?_ ?_ (k := 0) (by omega) ⟨rfl, rfl, rfl, fr_rf, fr_rf⟩
  · rintro p ⟨z, n, σ⟩ ⟨y, n', τ⟩ hp ⟨rfl, rfl, rfl, hf, hg⟩
    dsimp only at hf hg ⊢
    have hC := RC_W hC1 hf
    have hR := RR_sc hg h2
    obtain ⟨s2, e2, f2, v2⟩ := weighAllC (b := b) ho hC (Sv_W v1 hf) hl (by omega) hp
    have hC2 := RC_W hC f2
    rw [hC.2.1.1, hR.2.1.1, if_neg (nI_ge hp (by omega)), if_neg (nI_ge hp (by omega)), e2, bn1_s]
    unfold pX4_sixthsOfAllTwos
    refine two_b11 (fun r q => q.1 = n + r ∧ fr scR u.2 q.2) ?_ (fun r q hrq => Or.inl ⟨_, _, rfl, rfl, nI_1 p, nI_1 p, hrq.1.symm, fr_tr hf f2, hrq.2⟩)
    · refine lp_two (fun k (z : Int32 × Int32) (y : Int32 × Int32 × gS) => z.1 = nI k ∧ y.1 = nI k ∧ y.2.1 = n + z.2 ∧ fr scR u.2 y.2.2) (aPn A) ?_ ?_ (k := 0) (by omega) ⟨rfl, rfl, (Int32.add_zero n).symm, hg⟩
      · rintro q ⟨z, m⟩ ⟨y, m', τ2⟩ hq ⟨rfl, rfl, hm, hg2⟩
        dsimp only at hm hg2 ⊢
        rw [hC2.2.1.1, (RR_sc hg2 h2).2.1.1, if_neg (nI_ge hq (by omega)), if_neg (nI_ge hq (by omega)), lt_b, lt_b, nI_1]
        apply two_bn1
        refine lp_two (fun k (z : Int32 × Int32) (y : Int32 × Int32 × gS) => z.1 = nI (q + 1 + k) ∧ y.1 = nI (q + 1 + k) ∧ y.2.1 = n + z.2 ∧ fr scR u.2 y.2.2) (aPn A - (q + 1)) ?_ ?_ (k := 0) (by omega) ⟨rfl, rfl, hm, hg2⟩
        · rintro k ⟨z, m⟩ ⟨y, m', τ3⟩ hk ⟨rfl, rfl, hm, hg3⟩
          dsimp only at hm hg3 ⊢
          have hR3 := RR_sc hg3 h2
          rw [hR3.2.1.1, if_neg (nI_ge (by omega) (by omega)), if_neg (nI_ge (by omega) (by omega))]
          simp only [lt_b]
          by_cases c1 : nI q = nI p
          · rw [if_pos c1, if_pos c1]
            exact Or.inl ⟨_, _, rfl, rfl, nI_1 _, nI_1 _, hm, hg3⟩
          · rw [if_neg c1, if_neg c1]
            by_cases c2 : nI (q + 1 + k) = nI p
            · rw [if_pos c2, if_pos c2]
              exact Or.inl ⟨_, _, rfl, rfl, nI_1 _, nI_1 _, hm, hg3⟩
            · obtain ⟨t2, g2, k2⟩ := sixthsR (b := b) (q := q) (r := q + 1 + k) ho hR3 hl (by omega) hp hq (by omega)
              rw [if_neg c2, if_neg c2, g2, bn2_s, sixC (by omega) (by omega) (by omega), bn1_s, v2 p hp, v2 q hq, v2 (q + 1 + k) (by omega)]
              refine Or.inl ⟨_, _, rfl, rfl, nI_1 _, nI_1 _, ?_, fr_tr hg3 k2⟩
              show m' + _ = n + (m + _)
              rw [hm, Int32.add_assoc]
              rfl
        · rintro ⟨z, m⟩ ⟨y, m', τ3⟩ ⟨rfl, rfl, hm, hg3⟩
          dsimp only at hm hg3 ⊢
          rw [(RR_sc hg3 h2).2.1.1, if_pos (nI_le (by omega) (by omega)), if_pos (nI_le (by omega) (by omega))]
          exact ⟨_, _, rfl, rfl, Or.inl ⟨_, _, rfl, rfl, rfl, rfl, hm, hg3⟩⟩
      · rintro ⟨z, m⟩ ⟨y, m', τ2⟩ ⟨rfl, rfl, hm, hg2⟩
        dsimp only at hm hg2 ⊢
        rw [hC2.2.1.1, (RR_sc hg2 h2).2.1.1, if_pos (nI_le (Nat.le_refl _) (by omega)), if_pos (nI_le (Nat.le_refl _) (by omega))]
        exact ⟨_, _, rfl, rfl, hm, hg2⟩
  · rintro ⟨z, n, σ⟩ ⟨y, n', τ⟩ ⟨rfl, rfl, rfl, hf, hg⟩
    dsimp only at hf hg ⊢
    rw [(RC_W hC1 hf).2.1.1, (RR_sc hg h2).2.1.1, if_pos (nI_le (Nat.le_refl _) (by omega)), if_pos (nI_le (Nat.le_refl _) (by omega))]
    exact ⟨_, _, rfl, rfl, _, _, _, rfl, rfl, ask ho h1 h2 (fr_tr f1 (fr_up (fun o k q => cW_sc q) hf)) hg⟩
theorem h_21 {a1 a2 a3 a4 a5 : Int32} {u : gS × gS} (hu : Inv u) : ∃ t, q21 a1 a2 a3 a4 a5 u = some (.inl t) ∧ Inv t := by
  obtain ⟨A, ho, h1, h2⟩ := hu
  have hn := ho.2.1.1
  have h4 := ho.2.2.2.1.2.2.1
  have hL4 := ho.2.2.2.1.2.2.2.2
  have no : Inv (u.1, u.2) := ⟨A, ho, h1, h2⟩
  unfold q21
  have hbz : bz a4 = 0 ∨ bz a4 = 1 := by
    unfold bz
    split
    · exact Or.inl rfl
    · exact Or.inr rfl
  generalize bz a4 = a4 at hbz
  suffices hs : ∃ v s1 s2, pX10_pleased a1 a2 a3 a4 u.1 = some (v, s1) ∧ pX11_pleased a1 a2 a3 a4 u.2 = some (v, s2) ∧ Inv (s1, s2) by
    obtain ⟨v, s1, s2, e1, e2, e3⟩ := hs
    refine ⟨(s1, s2), ?_, e3⟩
    rw [e1, bn2_s, e2, bn2_s, if_pos rfl]
  unfold pX10_pleased pX11_pleased
  rw [isLwC ho h1, isLwR ho h2, isBkC ho h1, isBkR ho h2]
  simp only [bn1_s]
  by_cases hx : ixB (nLw (aTd A)) a1 = true
  case neg =>
    have hx' : ixB (nLw (aTd A)) a1 = false := by simpa using hx
    simp only [hx', if_b0]
    exact ⟨_, u.1, u.2, rfl, rfl, no⟩
  by_cases hy : ixB (nBk (aTd A)) a2 = true
  case neg =>
    have hy' : ixB (nBk (aTd A)) a2 = false := by simpa using hy
    simp only [hx, hy', if_b0, if_b1]
    exact ⟨_, u.1, u.2, rfl, rfl, no⟩
  simp only [hx, hy, if_b1]
  obtain ⟨l, hl, rfl⟩ := ix_T (by omega) hx
  obtain ⟨b, hb, rfl⟩ := ix_T (by omega) hy
  obtain ⟨s1, e1, f1, v1⟩ := surveyC ho h1
  have hC1 := RC_sc f1 h1
  rw [e1, bn1_s]
  apply ans_bn1 (P := fun w x => Inv (w, x))
  refine lp_two (fun k (z : Int32 × Int32 × gS) (y : Int32 × Int32 × gS) => z.1 = nI k ∧ y.1 = nI k ∧ z.2.1 = y.2.1 ∧ fr cW s1 z.2.2 ∧ fr scR u.2 y.2.2) (aPn A) ?_ ?_ (k := 0) (by omega) ⟨rfl, rfl, rfl, fr_rf, fr_rf⟩
  · rintro p ⟨z, n, σ⟩ ⟨y, n', τ⟩ hp ⟨rfl, rfl, rfl, hf, hg⟩
    dsimp only at hf hg ⊢
    rw [(RC_W hC1 hf).2.1.1, (RR_sc hg h2).2.1.1, if_neg (nI_ge hp (by omega)), if_neg (nI_ge hp (by omega))]
    apply two_bn1
    refine lp_two (fun k (z : Int32 × Int32 × gS) (y : Int32 × Int32 × gS) => z.1 = nI k ∧ y.1 = nI k ∧ z.2.1 = y.2.1 ∧ fr cW s1 z.2.2 ∧ fr scR u.2 y.2.2) (aPn A) ?_ ?_ (k := 0) (by omega) ⟨rfl, rfl, rfl, hf, hg⟩
    · rintro f ⟨z, n, σ⟩ ⟨y, n', τ⟩ hf2 ⟨rfl, rfl, rfl, hf, hg⟩
      dsimp only at hf hg ⊢
      have hC := RC_W hC1 hf
      have hR := RR_sc hg h2
      obtain ⟨s2, e2, f2, v2⟩ := weighC (b := b) ho hC (Sv_W v1 hf) hl (by omega) hp hf2
      obtain ⟨t1, t2, g1, g2, k2⟩ := ffR (b := b) (p := p) ho hR hl (by omega) hp hf2
      rw [hC.2.1.1, hR.2.1.1, if_neg (nI_ge hf2 (by omega)), if_neg (nI_ge hf2 (by omega)), e2, bn2_s, g1, bn2_s, g2, bn2_s]
      simp only [lt_b]
      have sk : two (fun (z : Int32 × Int32 × gS) (y : Int32 × Int32 × gS) => z.1 = nI (f + 1) ∧ y.1 = nI (f + 1) ∧ z.2.1 = y.2.1 ∧ fr cW s1 z.2.2 ∧ fr scR u.2 y.2.2) (fun (r q : Int32 × gS) => two (fun (z : Int32 × Int32 × gS) (y : Int32 × Int32 × gS) => z.1 = nI (p + 1) ∧ y.1 = nI (p + 1) ∧ z.2.1 = y.2.1 ∧ fr cW s1 z.2.2 ∧ fr scR u.2 y.2.2) (fun (r q : Int32 × gS) => ∃ v w x, some (r.1, r.2) = some (v, w) ∧ some (q.1, q.2) = some (v, x) ∧ Inv (w, x)) (some (Sum.inl (nI p + 1, r.1, r.2))) (some (Sum.inl (nI p + 1, q.1, q.2)))) (some (.inl (nI f + 1, n, σ))) (some (.inl (nI f + 1, n, τ))) := Or.inl ⟨_, _, rfl, rfl, nI_1 f, nI_1 f, rfl, hf, hg⟩
      have ev : two (fun (z : Int32 × Int32 × gS) (y : Int32 × Int32 × gS) => z.1 = nI (f + 1) ∧ y.1 = nI (f + 1) ∧ z.2.1 = y.2.1 ∧ fr cW s1 z.2.2 ∧ fr scR u.2 y.2.2) (fun (r q : Int32 × gS) => two (fun (z : Int32 × Int32 × gS) (y : Int32 × Int32 × gS) => z.1 = nI (p + 1) ∧ y.1 = nI (p + 1) ∧ z.2.1 = y.2.1 ∧ fr cW s1 z.2.2 ∧ fr scR u.2 y.2.2) (fun (r q : Int32 × gS) => ∃ v w x, some (r.1, r.2) = some (v, w) ∧ some (q.1, q.2) = some (v, x) ∧ Inv (w, x)) (some (Sum.inl (nI p + 1, r.1, r.2))) (some (Sum.inl (nI p + 1, q.1, q.2)))) (if FF A l b p f < a3 then some (Sum.inl (nI f + 1, n, s2)) else some (Sum.inl (nI f + 1, n + 1, s2))) (if FF A l b p f < a3 then some (Sum.inl (nI f + 1, n, t2)) else some (Sum.inl (nI f + 1, n + 1, t2))) := by
        by_cases hc : FF A l b p f < a3
        · rw [if_pos hc, if_pos hc]
          exact Or.inl ⟨_, _, rfl, rfl, nI_1 f, nI_1 f, rfl, fr_tr hf f2, fr_tr hg k2⟩
        · rw [if_neg hc, if_neg hc]
          exact Or.inl ⟨_, _, rfl, rfl, nI_1 f, nI_1 f, rfl, fr_tr hf f2, fr_tr hg k2⟩
      by_cases hc : f = p
      · subst hc
        rw [if_pos rfl, if_pos rfl, bn1_s, bn1_s]
        rcases hbz with rfl | rfl
        · exact ev
        · exact sk
      · rw [if_neg (fun q => hc ((nI_eq (by omega) (by omega)).mp q)), if_neg (fun q => hc ((nI_eq (by omega) (by omega)).mp q).symm), bn1_s, bn1_s]
        rcases hbz with rfl | rfl
        · exact sk
        · exact ev
    · rintro ⟨z, n, σ⟩ ⟨y, n', τ⟩ ⟨rfl, rfl, rfl, hf, hg⟩
      dsimp only at hf hg ⊢
      rw [(RC_W hC1 hf).2.1.1, (RR_sc hg h2).2.1.1, if_pos (nI_le (Nat.le_refl _) (by omega)), if_pos (nI_le (Nat.le_refl _) (by omega))]
      exact ⟨_, _, rfl, rfl, Or.inl ⟨_, _, rfl, rfl, nI_1 p, nI_1 p, rfl, hf, hg⟩⟩
  · rintro ⟨z, n, σ⟩ ⟨y, n', τ⟩ ⟨rfl, rfl, rfl, hf, hg⟩
    dsimp only at hf hg ⊢
    rw [(RC_W hC1 hf).2.1.1, (RR_sc hg h2).2.1.1, if_pos (nI_le (Nat.le_refl _) (by omega)), if_pos (nI_le (Nat.le_refl _) (by omega))]
    exact ⟨_, _, rfl, rfl, _, _, _, rfl, rfl, ask ho h1 h2 (fr_tr f1 (fr_up (fun o k q => cW_sc q) hf)) hg⟩
