/-! altered -/
theorem roundMin {A : Abs} {σ : gS} {p : Nat} {a2 : Int32} (ho : okA A) (h : RC A σ) (hp : p < aPn A) (hy : (2 : Int32) ≤ a2 ∧ a2 ≤ 30) : ∃ m, pX10_roundedMinute (nI p) a2 σ = some m ∧ pX11_round (nI (aPt A p 0)) a2 = some m := by
  have ht := traitC (j := 0) ho h hp (by decide)
  simp only [show nI 0 = 0 from rfl] at ht
  unfold pX10_roundedMinute pX11_round
  rw [isStepC, bn1_s, decide_eq_true hy, if_b1, ht, bn1_s]
  obtain ⟨k, k1, k2, rfl⟩ := in_T (a := 2) (c := 30) (by decide) (by decide) hy
  have n0 : (2 : Int32) * nI k ≠ 0 := fun q => by
    rw [show (2 : Int32) = nI 2 from rfl, nI_mulS] at q
    have := (nI_eq (b := 0) (by omega) (by decide)).mp q
    omega
  rw [g0_p n0, g0_p n0, lt_b, g0_p (show (60 : Int32) ≠ 0 by decide)]
  exact ⟨_, rfl, rfl⟩
theorem paperC2 {A : Abs} {σ σ' : gS} {b : Nat} {f : Nat → Bool} (ho : okA A) (h : RC A σ) (hf : fr scC σ σ') (hb : b < 4) : ∃ r, tR r = true ∧ σ.2.2 23 0 = r ∧ pX9_paperOf r (nI b) (bitsN f (nSg (aTd A))) σ' = some (ppN A b f (nWh (aTd A))) := by
  obtain ⟨r, r1, r2, r3, hC⟩ := h.2.2.2.1
  obtain ⟨r', r1', r2', r3', hC'⟩ := (RC_sc hf h).2.2.2.1
  have er : r' = r := by rw [← r2', ← r2]; exact fr_3 hf rfl
  subst er
  exact ⟨r', r1, r2, paperC ho hC' hb⟩
theorem ans_bn1 {S1 T1 A B V W X : Type} {P : W → X → Prop} {f : S1 → Option (S1 ⊕ A)} {g : T1 → Option (T1 ⊕ B)} {s : S1} {t : T1} {f' : A → Option (V × W)} {g' : B → Option (V × X)} (h : ∃ r q, lpP f s = some r ∧ lpP g t = some q ∧ ∃ v w x, f' r = some (v, w) ∧ g' q = some (v, x) ∧ P w x) : ∃ v w x, bn1 (lpP f s) f' = some (v, w) ∧ bn1 (lpP g t) g' = some (v, x) ∧ P w x := by
  obtain ⟨r, q, h1, h2, h3⟩ := h
  rw [h1, h2]; exact h3
theorem h_13 {a1 a2 a3 a4 a5 : Int32} {u : gS × gS} (hu : Inv u) : ∃ t, q13 a1 a2 a3 a4 a5 u = some (.inl t) ∧ Inv t := by
  obtain ⟨A, ho, h1, h2⟩ := hu
  have hn := ho.2.1.1
  have h4 := ho.2.2.2.1.2.2.1
  have no : Inv (u.1, u.2) := ⟨A, ho, h1, h2⟩
  suffices hs : ∃ v s1 s2, pX10_altered a1 a2 u.1 = some (v, s1) ∧ pX11_altered a1 a2 u.2 = some (v, s2) ∧ Inv (s1, s2) by
    obtain ⟨v, s1, s2, e1, e2, e3⟩ := hs
    refine ⟨(s1, s2), ?_, e3⟩
    unfold q13
    rw [e1, bn2_s, e2, bn2_s, if_pos rfl]
  unfold pX10_altered pX11_altered
  rw [isBkC ho h1, isBkR ho h2, isStepC, inRR, in_b]
  simp only [bn1_s]
  by_cases hx : ixB (nBk (aTd A)) a1 = true
  case neg =>
    have hx' : ixB (nBk (aTd A)) a1 = false := by simpa using hx
    simp only [hx', if_b0]
    exact ⟨-1, u.1, u.2, rfl, rfl, no⟩
  by_cases hy : (2 : Int32) ≤ a2 ∧ a2 ≤ 30
  case neg =>
    simp only [hx, decide_eq_false hy, if_b0, if_b1]
    exact ⟨-1, u.1, u.2, rfl, rfl, no⟩
  simp only [hx, decide_eq_true hy, if_b1]
  obtain ⟨b, hb, rfl⟩ := ix_T (by omega) hx
  apply ans_bn1 (P := fun w x => Inv (w, x))
  refine lp_two (fun k (z : Int32 × Int32 × gS) (y : Int32 × Int32 × gS) => z.1 = nI k ∧ y.1 = nI k ∧ z.2.1 = y.2.1 ∧ fr scC u.1 z.2.2 ∧ fr scR u.2 y.2.2) (aPn A) ?_ ?_ (k := 0) (by omega) ⟨rfl, rfl, rfl, fr_rf, fr_rf⟩
  · rintro p ⟨z, n, σ⟩ ⟨y, n', τ⟩ hp ⟨rfl, rfl, rfl, hf, hg⟩
    dsimp only at hf hg ⊢
    have hC := RC_sc hf h1
    have hR := RR_sc hg h2
    obtain ⟨s1, e1, f1⟩ := upNowC ho hC hp
    have hC1 := RC_sc f1 hC
    obtain ⟨r, r1, r2, r3⟩ := paperC2 (f := upB A p (nI (aPt A p 0))) (b := b) ho hC f1 (by omega)
    obtain ⟨m, m1, m2⟩ := roundMin (p := p) ho hC1 hp hy
    obtain ⟨s2, e2, f2⟩ := upAtC (pl := m) ho hC1 hp
    obtain ⟨r', q1, q2, q3⟩ := paperC2 (f := upB A p m) (b := b) ho hC1 f2 (by omega)
    obtain ⟨t1, g1, k1⟩ := paperOfR (b := b) ho hR hp (by omega)
    have hR1 := RR_sc k1 hR
    obtain ⟨t2, g2, k2⟩ := signsOfR (pl := m) ho hR1 hp
    have k2' : fr scR t1 t2 := fr_up (fun o k q => o334_sc q) k2
    have g3 := paperR (f := upB A p m) (b := b) ho (RR_sc k2' hR1) (by omega)
    rw [hC.2.1.1, hR.2.1.1, if_neg (nI_ge hp (by omega)), if_neg (nI_ge hp (by omega)), r2, gT_p r1, e1, bn2_s, r3, bn1_s, q2, gT_p q1, m1, bn1_s, e2, bn2_s, q3, bn1_s, g1, bn2_s, gx_i (by omega) (by decide), nI_clamp (by omega), (hR1.2.1.2 p hp).1, m2, bn1_s, g2, bn2_s, g3, bn1_s]
    by_cases hc : ppN A b (upB A p (nI (aPt A p 0))) (nWh (aTd A)) = ppN A b (upB A p m) (nWh (aTd A))
    · rw [if_pos hc, if_pos hc]
      exact Or.inl ⟨_, _, rfl, rfl, nI_1 p, nI_1 p, rfl, fr_tr hf (fr_tr f1 f2), fr_tr hg (fr_tr k1 k2')⟩
    · rw [if_neg hc, if_neg hc]
      exact Or.inl ⟨_, _, rfl, rfl, nI_1 p, nI_1 p, rfl, fr_tr hf (fr_tr f1 f2), fr_tr hg (fr_tr k1 k2')⟩
  · rintro ⟨z, n, σ⟩ ⟨y, n', τ⟩ ⟨rfl, rfl, rfl, hf, hg⟩
    dsimp only at hf hg ⊢
    rw [(RC_sc hf h1).2.1.1, (RR_sc hg h2).2.1.1, if_pos (nI_le (Nat.le_refl _) (by omega)), if_pos (nI_le (Nat.le_refl _) (by omega))]
    exact ⟨_, _, rfl, rfl, _, _, _, rfl, rfl, ask ho h1 h2 hf hg⟩
