/-! what a code comes to: the class -/
noncomputable def jnC (a x y : Int32) : Int32 := (pX3_joined a x y).getD 0
theorem joinC (a x y : Int32) : pX3_joined a x y = some (jnC a x y) := by
  unfold jnC pX3_joined
  repeat' split
  all_goals rfl
noncomputable def evK (W : Nat → Int32) : List (Int32 × Int32) → List Int32 → Option (List Int32)
  | [], st => some st
  | q :: cs, st => if q.1 = 24 then (if st.length < 40 then evK W cs (q.2 :: st) else none) else if q.1 = 9 then (if ixB 21 q.2 = true ∧ st.length < 40 then evK W cs (W q.2.toNatClampNeg :: st) else none) else if q.1 = 8 then (match st with
      | x :: r => if r.length < 40 then evK W cs ((1 - x) :: r) else none
      | [] => none) else (match st with
      | y :: x :: r => if r.length < 39 then evK W cs (jnC q.1 x y :: r) else none
      | _ => none)
def vfr (o k : Nat) : Bool := (o == 33 && k == 2) || o == 35
def cst (σ : gS) (st : List Int32) : Prop := σ.1 33 2 = nI st.length ∧ pile 35 σ st
theorem pushC {σ : gS} {st : List Int32} {v : Int32} (h : cst σ st) (hl : st.length < 40) : ∃ σ', pX3_push v σ = some σ' ∧ fr vfr σ σ' ∧ cst σ' (v :: st) := by
  unfold pX3_push
  rw [h.1, if_neg (show ¬ (40 : Int32) ≤ nI st.length from nI_ge (b := 40) hl (by decide)), gx_i hl (by decide), lt_b, lt_b, nI_clamp (by omega)]
  refine ⟨_, rfl, fr_tr (fr_wI rfl) (fr_wI rfl), ?_, ?_, ?_⟩
  · rw [wI_s, wI_1, if_neg (fun q => by omega), h.1, nI_1]; rfl
  · rw [wI_1, if_neg (fun q => by omega), wI_s]
  · exact pile_o (by decide) (pile_w h.2 (Nat.le_refl _))
theorem popC {σ : gS} {st : List Int32} {x : Int32} (h : cst σ (x :: st)) (hl : st.length < 40) : ∃ σ', pX3_pop σ = some (x, σ') ∧ fr vfr σ σ' ∧ cst σ' st := by
  unfold pX3_pop
  have h1 : σ.1 33 2 = nI (st.length + 1) := h.1
  rw [h1, if_pos (show 0 < nI (st.length + 1) from nI_lt (a := 0) (by omega) (by omega)), lt_b, nI_p, wI_s, gx_i hl (by decide), nI_clamp (by omega)]
  refine ⟨wI σ 33 2 (nI st.length), ?_, fr_wI rfl, wI_s, pile_o (by decide) h.2.2⟩
  rw [wI_1, if_neg (fun q => by omega), h.2.1]
theorem vfr_34 {k : Nat} : vfr 34 k = false := rfl
theorem stepC {W : Nat → Int32} {q : Int32 × Int32} {cs : List (Int32 × Int32)} {st out : List Int32} {σ : gS} (h : cst σ st) (hv : ∀ j, j ≤ 20 → σ.1 34 j = W j) (he : evK W (q :: cs) st = some out) : ∃ σ' st', pX3_step q.1 q.2 σ = some σ' ∧ fr vfr σ σ' ∧ cst σ' st' ∧ evK W cs st' = some out := by
  unfold evK at he
  unfold pX3_step
  by_cases h24 : q.1 = 24
  · rw [if_pos h24] at he ⊢
    by_cases hl : st.length < 40
    case neg => rw [if_neg hl] at he; exact absurd he (by simp)
    rw [if_pos hl] at he
    obtain ⟨s1, e1, f1, c1⟩ := pushC (v := q.2) h hl
    rw [e1, bn1_s]
    exact ⟨s1, _, rfl, f1, c1, he⟩
  rw [if_neg h24] at he ⊢
  by_cases h9 : q.1 = 9
  · rw [if_pos h9] at he ⊢
    by_cases hl : ixB 21 q.2 = true ∧ st.length < 40
    case neg => rw [if_neg hl] at he; exact absurd he (by simp)
    rw [if_pos hl] at he
    obtain ⟨hj, hl⟩ := hl
    obtain ⟨j, j1, j2⟩ := ix_T (by decide) hj
    have j1 : j ≤ 20 := by omega
    rw [j2, nI_clamp (by omega)] at he
    obtain ⟨s1, e1, f1, c1⟩ := pushC (v := W j) h hl
    rw [inR, bn1_s, j2, if_pos (show (0 : Int32) ≤ nI j ∧ nI j ≤ 20 from ⟨nI_le (a := 0) (by omega) (by omega), nI_le (b := 20) j1 (by decide)⟩), if_10, gx_i (by omega) (by decide), nI_clamp (by omega), hv j j1, e1, bn1_s]
    exact ⟨s1, _, rfl, f1, c1, he⟩
  rw [if_neg h9] at he ⊢
  by_cases h8 : q.1 = 8
  · rw [if_pos h8] at he ⊢
    rcases st with _ | ⟨x, r⟩
    · exact absurd he (by simp)
    · dsimp only at he
      by_cases hl : r.length < 40
      case neg => rw [if_neg hl] at he; exact absurd he (by simp)
      rw [if_pos hl] at he
      obtain ⟨s1, e1, f1, c1⟩ := popC h hl
      obtain ⟨s2, e2, f2, c2⟩ := pushC (v := 1 - x) c1 hl
      rw [e1, bn2_s, e2, bn1_s]
      exact ⟨s2, _, rfl, fr_tr f1 f2, c2, he⟩
  rw [if_neg h8] at he ⊢
  rcases st with _ | ⟨y, _ | ⟨x, r⟩⟩
  · exact absurd he (by simp)
  · exact absurd he (by simp)
  · dsimp only at he
    by_cases hl : r.length < 39
    case neg => rw [if_neg hl] at he; exact absurd he (by simp)
    rw [if_pos hl] at he
    obtain ⟨s1, e1, f1, c1⟩ := popC h (by simp only [List.length_cons]; omega)
    obtain ⟨s2, e2, f2, c2⟩ := popC c1 (by omega)
    obtain ⟨s3, e3, f3, c3⟩ := pushC (v := jnC q.1 x y) c2 (by omega)
    rw [e1, bn2_s, e2, bn2_s, joinC, bn1_s, e3, bn1_s]
    exact ⟨s3, _, rfl, fr_tr f1 (fr_tr f2 f3), c3, he⟩
theorem stC_fr2 {r s : Nat} {σ τ : gS} {c : List (Int32 × Int32)} (hr : r ≤ 24) (h : fr vfr σ τ) (hc : stC r σ s c) : stC r τ s c := fun i q e => by
  obtain ⟨h1, h2⟩ := hc i q e
  have n1 : ∀ k, vfr (r + 7) k = false := fun k => by simp [vfr]; omega
  have n2 : ∀ k, vfr (r + 8) k = false := fun k => by simp [vfr]; omega
  exact ⟨(fr_1 h (n1 _)).trans h1, (fr_1 h (n2 _)).trans h2⟩
theorem stC_t {r s : Nat} {σ : gS} {q : Int32 × Int32} {c : List (Int32 × Int32)} (h : stC r σ s (q :: c)) : stC r σ (s + 1) c := fun i x e => by
  have := h (i + 1) x (by simpa using e)
  rw [show s + 1 + i = s + (i + 1) by omega]
  exact this
noncomputable def vlF (r1 : Nat) (e : Int32) : Int32 × gS → Option ((Int32 × gS) ⊕ gS) := fun (z11 : (Int32 × gS)) => if e ≤ z11.1 then some (.inr z11.2) else gx z11.1 400 (gx z11.1 400 (bn1 (pX3_step (z11.2.1 (r1 + 7) z11.1.toNatClampNeg) (z11.2.1 (r1 + 8) z11.1.toNatClampNeg) z11.2) (fun s13 => lt' (z11.1 + (1 : Int32)) (fun x14 => some (.inl (x14, s13))))))
theorem vl_run {W : Nat → Int32} {r e : Nat} {out : List Int32} (hr : r ≤ 24) (he : e ≤ 400) : ∀ (cs : List (Int32 × Int32)) (p : Nat) (st : List Int32) (σ : gS), p + cs.length = e → stC r σ p cs → (∀ j, j ≤ 20 → σ.1 34 j = W j) → cst σ st → evK W cs st = some out → ∃ σ', lpP (vlF r (nI e)) (nI p, σ) = some σ' ∧ fr vfr σ σ' ∧ cst σ' out
  | [], p, st, σ, hp, hc, hv, hs, hk => by
    simp only [List.length_nil, Nat.add_zero] at hp
    subst hp
    simp only [evK, Option.some.injEq] at hk
    subst hk
    refine ⟨σ, lpP_inr ?_, fr_rf, hs⟩
    unfold vlF
    dsimp only
    rw [if_pos (nI_le (Nat.le_refl _) (by omega))]
  | q :: cs, p, st, σ, hp, hc, hv, hs, hk => by
    simp only [List.length_cons] at hp
    have c1 : σ.1 (r + 7) p = q.1 := (hc 0 q rfl).1
    have c2 : σ.1 (r + 8) p = q.2 := (hc 0 q rfl).2
    obtain ⟨s1, st1, e1, f1, k1, g1⟩ := stepC hs hv hk
    obtain ⟨s2, e2, f2, k2⟩ := vl_run hr he cs (p + 1) st1 s1 (by omega) (stC_fr2 hr f1 (stC_t hc)) (fun j hj => (fr_1 f1 vfr_34).trans (hv j hj)) k1 g1
    refine ⟨s2, ?_, fr_tr f1 f2, k2⟩
    rw [← e2]
    apply lpP_inl
    unfold vlF
    dsimp only
    rw [if_neg (nI_ge (by omega) (by omega)), gx_i (by omega) (by decide), gx_i (by omega) (by decide), nI_clamp (by omega), c1, c2, e1, bn1_s, lt_b, nI_1]
theorem valueC {W : Nat → Int32} {r f : Nat} {σ : gS} {c : List (Int32 × Int32)} {v : Int32} (hr : r ≤ 24) (hf : f < 26) (h : fmC r σ f c) (hv : ∀ j, j ≤ 20 → σ.1 34 j = W j) (hk : evK W c [] = some [v]) : ∃ σ', pX3_valueOf r (nI f) σ = some (v, σ') ∧ fr vfr σ σ' := by
  obtain ⟨s, z, h1, h2, h3, h4, h5, h6⟩ := h
  have f0 : fr vfr σ (wI σ 33 2 0) := fr_wI rfl
  have n0 : ∀ o k, r ≤ o → o ≤ r + 8 → vfr o k = false := fun o k q1 q2 => by simp [vfr]; omega
  obtain ⟨s1, e1, f1, k1⟩ := vl_run (W := W) hr (show s + c.length ≤ 400 by omega) c s [] (wI σ 33 2 0) rfl (stC_fr2 hr f0 h6) (fun j hj => (fr_1 f0 vfr_34).trans (hv j hj)) ⟨wI_s, trivial⟩ hk
  obtain ⟨s2, e2, f2, k2⟩ := popC k1 (by decide)
  refine ⟨s2, ?_, fr_tr f0 (fr_tr f1 f2)⟩
  unfold pX3_valueOf pJ9_min_7cf53 pJ9_max_7cf53
  rw [lt_b, inR, bn1_s, if_pos (show (0 : Int32) ≤ nI f ∧ nI f ≤ 25 from ⟨nI_le (a := 0) (by omega) (by omega), nI_le (b := 25) (by omega) (by decide)⟩), if_10, gx_i hf (by decide), nI_clamp (by omega), (fr_1 f0 (n0 (r + 6) f (by omega) (by omega))).trans h5, (fr_1 f0 (n0 r 13 (by omega) (by omega))).trans h3, if_neg (show ¬ nI z < nI (s + c.length) from fun q => by
    have := (nI_ltI (by omega) (by omega)).mp q
    omega), bn1_s, gx_i hf (by decide), (fr_1 f0 (n0 (r + 5) f (by omega) (by omega))).trans h4, if_neg (show ¬ nI s < 0 from fun q => by
    have := (nI_ltI (a := s) (b := 0) (by omega) (by decide)).mp q
    omega), bn1_s]
  show bn1 (lpP (vlF r (nI (s + c.length))) (nI s, wI σ 33 2 0)) _ = _
  rw [e1, bn1_s, e2, bn2_s]
