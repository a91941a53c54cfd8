/-! tail -/
theorem lc_rf {x : Int64} : lg_cmp x x = 0 := by
  unfold lg_cmp
  simp
theorem o47_sc {o k : Nat} (h : scC o k = false) : onO 47 o k = false := by
  simp only [scC, onO, Bool.or_eq_false_iff] at h ⊢
  exact h.1.1.1.2
theorem o46_sc {o k : Nat} (h : scC o k = false) : onO 46 o k = false := by
  simp only [scC, onO, Bool.or_eq_false_iff] at h ⊢
  exact h.1.1.1.1.2
theorem tailC {σ : gS} {n f a b : Nat} (hn : n ≤ 30) (hf : f ≤ 31) (ha : a ≤ b) (hb : b < 100) : ∃ σ', pX0_tailOf (nI n) (nI f) (nI a) (nI b) σ = some (lN (fb_sm (fun j => rwN a (b - a) n (f + j)) (n + 1 - f)), σ') ∧ fr (onO 47) σ σ' := by
  unfold pX0_tailOf
  obtain ⟨s1, e1, f1, r1⟩ := startC (a := a) (b := b - a) (o := 47) (σ := σ)
  rw [e1, bn1_s, nI_subS ha]
  have L : ∃ r, lpP (fun (z4 : (Int32 × gS)) => if nI n < z4.1 then (some (.inr z4.2) : Option ((Int32 × gS) ⊕ gS)) else bn1 (pX0_addTry 47 31 z4.1 (nI a) (nI (b - a)) z4.2) (fun s6 => lt' (z4.1 + (1 : Int32)) (fun x7 => some (.inl (x7, s6))))) ((1 : Int32), s1) = some r ∧ (fr (onO 47) σ r ∧ rwC a (b - a) n 47 r) := by
    refine lp_cnt (fun j (z : Int32 × gS) => z.1 = nI (j + 1) ∧ fr (onO 47) σ z.2 ∧ rwC a (b - a) j 47 z.2) n ?_ ?_ (k := 0) (by omega) ⟨rfl, f1, r1⟩
    · rintro j ⟨z, τ⟩ hj ⟨rfl, hf, hv⟩
      dsimp only at hf hv ⊢
      obtain ⟨s2, e2, f2, r2⟩ := addTryC (a := a) (b := b - a) (by omega) (by omega) (show j < 30 by omega) hv
      rw [if_neg (fun q => by
        have := (nI_ltI (a := n) (b := j + 1) (by omega) (by omega)).mp q
        omega), e2, bn1_s, lt_b, nI_1]
      exact ⟨_, rfl, rfl, fr_tr hf f2, r2⟩
    · rintro ⟨z, τ⟩ ⟨rfl, hf, hv⟩
      dsimp only at hf hv ⊢
      rw [if_pos (nI_lt (by omega) (by omega))]
      exact ⟨_, rfl, hf, hv⟩
  obtain ⟨r, e, hfr, hr⟩ := L
  rw [e, bn1_s, sumC (e := n + 1) (R := rwN a (b - a) n) hr hf (by omega) (fun k hk => by
    rw [nI_ltI (by omega) (by omega)]
    omega), bn1_s]
  exact ⟨r, rfl, hfr⟩
theorem h_22 {a1 a2 a3 a4 a5 : Int32} {u : gS × gS} (hu : Inv u) : ∃ t, q22 a1 a2 a3 a4 a5 u = some (.inl t) ∧ Inv t := by
  obtain ⟨A, ho, h1, h2⟩ := hu
  have no : Inv (u.1, u.2) := ⟨A, ho, h1, h2⟩
  suffices hs : ∃ v s1, pX10_tail a1 a2 a3 a4 u.1 = some (v, s1) ∧ pX11_tail a1 a2 a3 a4 u.2 = some v ∧ Inv (s1, u.2) by
    obtain ⟨v, s1, e1, e2, e3⟩ := hs
    refine ⟨(s1, u.2), ?_, e3⟩
    unfold q22
    rw [e1, bn2_s, e2, bn1_s, if_pos lc_rf]
  unfold pX10_tail pX11_tail
  simp only [inR, inRR, bn1_s, in_b]
  by_cases hx : (0 : Int32) ≤ a1 ∧ a1 ≤ 30
  case neg =>
    simp only [decide_eq_false hx, if_b0]
    exact ⟨-1, u.1, rfl, rfl, no⟩
  by_cases hy : (0 : Int32) ≤ a2 ∧ a2 ≤ 31
  case neg =>
    simp only [decide_eq_true hx, decide_eq_false hy, if_b0, if_b1]
    exact ⟨-1, u.1, rfl, rfl, no⟩
  by_cases hz : (1 : Int32) ≤ a4 ∧ a4 ≤ 4
  case neg =>
    simp only [decide_eq_true hx, decide_eq_true hy, decide_eq_false hz, if_b0, if_b1]
    exact ⟨-1, u.1, rfl, rfl, no⟩
  by_cases hw : (0 : Int32) ≤ a3 ∧ a3 ≤ a4
  case neg =>
    simp only [decide_eq_true hx, decide_eq_true hy, decide_eq_true hz, decide_eq_false hw, if_b0, if_b1]
    exact ⟨-1, u.1, rfl, rfl, no⟩
  simp only [decide_eq_true hx, decide_eq_true hy, decide_eq_true hz, decide_eq_true hw, if_b1]
  obtain ⟨n, -, hn, rfl⟩ := in_T (a := 0) (c := 30) (by decide) (by decide) hx
  obtain ⟨f, -, hf, rfl⟩ := in_T (a := 0) (c := 31) (by decide) (by decide) hy
  obtain ⟨b, -, hb, rfl⟩ := in_T (a := 1) (c := 4) (by decide) (by decide) hz
  obtain ⟨a, -, ha, rfl⟩ := in_T (a := 0) (c := b) (by decide) (by omega) hw
  obtain ⟨s1, e1, f1⟩ := tailC (σ := u.1) hn hf ha (by omega)
  rw [e1, bn2_s, tailR hn hf ha (by omega), bn1_s]
  exact ⟨_, s1, rfl, rfl, ask ho h1 h2 (fr_up (fun o k q => o47_sc q) f1) fr_rf⟩
