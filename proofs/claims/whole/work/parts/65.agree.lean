/-! agree: two loops side by side -/
def two {S T R Q : Type} (I : S → T → Prop) (P : R → Q → Prop) (x : Option (S ⊕ R)) (y : Option (T ⊕ Q)) : Prop := (∃ s t, x = some (.inl s) ∧ y = some (.inl t) ∧ I s t) ∨ (∃ r q, x = some (.inr r) ∧ y = some (.inr q) ∧ P r q)
theorem lp_two {S T R Q : Type} {f : S → Option (S ⊕ R)} {g : T → Option (T ⊕ Q)} (I : Nat → S → T → Prop) (n : Nat) {P : R → Q → Prop} (step : ∀ k s t, k < n → I k s t → two (I (k + 1)) P (f s) (g t)) (fin : ∀ s t, I n s t → ∃ r q, f s = some (.inr r) ∧ g t = some (.inr q) ∧ P r q) {k : Nat} {s : S} {t : T} (hk : k ≤ n) (h : I k s t) : ∃ r q, lpP f s = some r ∧ lpP g t = some q ∧ P r q := by
  have key : ∀ m k s t, n - k = m → k ≤ n → I k s t → ∃ r q, lpP f s = some r ∧ lpP g t = some q ∧ P r q := by
    intro m
    induction m with
    | zero =>
      intro k s t hm hk h
      have : k = n := by omega
      subst this
      obtain ⟨r, q, h1, h2, h3⟩ := fin s t h
      exact ⟨r, q, lpP_inr h1, lpP_inr h2, h3⟩
    | succ m ih =>
      intro k s t hm hk h
      rcases step k s t (by omega) h with ⟨s', t', h1, h2, h3⟩ | ⟨r, q, h1, h2, h3⟩
      · obtain ⟨r, q, h4, h5, h6⟩ := ih (k + 1) s' t' (by omega) (by omega) h3
        exact ⟨r, q, by rw [lpP_inl h1]; exact h4, by rw [lpP_inl h2]; exact h5, h6⟩
      · exact ⟨r, q, lpP_inr h1, lpP_inr h2, h3⟩
  exact key (n - k) k s t rfl hk h
theorem two_bnS {S T R Q S1 T1 A B : Type} {I : S → T → Prop} {P : R → Q → Prop} {f : S1 → Option (S1 ⊕ (A ⊕ (S ⊕ R)))} {g : T1 → Option (T1 ⊕ (B ⊕ (T ⊕ Q)))} {s : S1} {t : T1} {f' : A → Option (S ⊕ R)} {g' : B → Option (T ⊕ Q)} (h : ∃ r q, lpP f s = some r ∧ lpP g t = some q ∧ two I P (bnS (some r) f') (bnS (some q) g')) : two I P (bnS (lpP f s) f') (bnS (lpP g t) g') := by
  obtain ⟨r, q, h1, h2, h3⟩ := h
  rw [h1, h2]; exact h3
theorem ans_bnS {S1 T1 A B V W : Type} {P : W → Prop} {f : S1 → Option (S1 ⊕ (A ⊕ (V × W)))} {g : T1 → Option (T1 ⊕ (B ⊕ V))} {s : S1} {t : T1} {f' : A → Option (V × W)} {g' : B → Option V} (h : ∃ r q, lpP f s = some r ∧ lpP g t = some q ∧ ∃ v w, bnS (some r) f' = some (v, w) ∧ bnS (some q) g' = some v ∧ P w) : ∃ v w, bnS (lpP f s) f' = some (v, w) ∧ bnS (lpP g t) g' = some v ∧ P w := by
  obtain ⟨r, q, h1, h2, h3⟩ := h
  rw [h1, h2]; exact h3
theorem bn2_e {V W : Type} {x : Option (V × W)} : bn2 x (fun v w => some (v, w)) = x := by
  cases x <;> rfl
theorem rw_11 {n k : Nat} : rwN 1 1 n k = pc n k := by simp [rwN]
theorem pc_half (n : Nat) : ∀ N, fb_sm (pc (n + 1)) (N + 1) = fb_sm (pc n) N + fb_sm (pc n) (N + 1)
  | 0 => by
    rw [fb_sm_succ, fb_sm_succ, pc_0, pc_0]
    rfl
  | N + 1 => by
    rw [fb_sm_succ, pc_half n N, pc_s, fb_sm_succ (pc n) (N + 1), fb_sm_succ (pc n) N]
    omega
theorem pc_row : ∀ n, fb_sm (pc n) (n + 1) = 2 ^ n
  | 0 => rfl
  | n + 1 => by
    rw [pc_half, fb_sm_succ (pc n) (n + 1), pc_row n, pc_gt n (n + 1) (by omega), Nat.pow_succ]
    omega
theorem low_11 {n k : Nat} (hk : k ≤ n + 1) : 2 ^ n - fb_sm (fun j => rwN 1 (2 - 1) n (k + j)) (n + 1 - k) = fb_sm (fun j => rwN 1 1 n (0 + j)) (k - 0) ∧ fb_sm (fun j => rwN 1 (2 - 1) n (k + j)) (n + 1 - k) ≤ 2 ^ n := by
  have h := fb_sm_split (pc n) k (n + 1 - k)
  rw [show k + (n + 1 - k) = n + 1 by omega, pc_row] at h
  have e1 : fb_sm (fun j => rwN 1 (2 - 1) n (k + j)) (n + 1 - k) = fb_sm (fun j => pc n (k + j)) (n + 1 - k) := fb_sm_cong (fun j _ => rw_11)
  have e2 : fb_sm (fun j => rwN 1 1 n (0 + j)) (k - 0) = fb_sm (pc n) k := fb_sm_cong (fun j _ => by rw [rw_11, Nat.zero_add])
  rw [e1, e2]
  omega
def o4 (o _k : Nat) : Bool := o == 46 || o == 47
theorem o4_sc {o k : Nat} (h : scC o k = false) : o4 o k = false := by
  have h1 := o46_sc h
  have h2 := o47_sc h
  simp only [onO, o4] at *
  rw [h1, h2]; rfl
theorem o4_46 {σ τ : gS} (h : fr (onO 46) σ τ) : fr o4 σ τ := fr_up (fun o k q => by simp only [o4, onO, Bool.or_eq_false_iff] at *; exact q.1) h
theorem o4_47 {σ τ : gS} (h : fr (onO 47) σ τ) : fr o4 σ τ := fr_up (fun o k q => by simp only [o4, onO, Bool.or_eq_false_iff] at *; exact q.2) h
theorem rwC_46 {a b m : Nat} {σ τ : gS} (h : fr (onO 47) σ τ) (r : rwC a b m 46 σ) : rwC a b m 46 τ := fun k hk => (fr_2 h (by rfl)).trans (r k hk)
theorem rwC_47 {a b m : Nat} {σ τ : gS} (h : fr (onO 46) σ τ) (r : rwC a b m 47 σ) : rwC a b m 47 τ := fun k hk => (fr_2 h (by rfl)).trans (r k hk)
theorem h_23 {a1 a2 a3 a4 a5 : Int32} {u : gS × gS} (hu : Inv u) : ∃ t, q23 a1 a2 a3 a4 a5 u = some (.inl t) ∧ Inv t := by
  obtain ⟨A, ho, h1, h2⟩ := hu
  have no : Inv (u.1, u.2) := ⟨A, ho, h1, h2⟩
  suffices hs : ∃ v s1, pX10_agree a1 a2 a3 u.1 = some (v, s1) ∧ pX11_agree a1 a2 a3 u.2 = some v ∧ Inv (s1, u.2) by
    obtain ⟨v, s1, e1, e2, e3⟩ := hs
    refine ⟨(s1, u.2), ?_, e3⟩
    unfold q23
    rw [e1, bn2_s, e2, bn1_s, if_pos rfl]
  unfold pX10_agree pX11_agree
  simp only [inR, inRR, bn1_s, in_b]
  by_cases hx : (2 : Int32) ≤ a1 ∧ a1 ≤ 1000
  case neg =>
    simp only [decide_eq_false hx, if_b0]
    exact ⟨-1, u.1, rfl, rfl, no⟩
  by_cases hy : (2 : Int32) ≤ a2 ∧ a2 ≤ 1000
  case neg =>
    simp only [decide_eq_true hx, decide_eq_false hy, if_b0, if_b1]
    exact ⟨-1, u.1, rfl, rfl, no⟩
  by_cases hz : (0 : Int32) ≤ a3 ∧ a3 ≤ 1
  case neg =>
    simp only [decide_eq_true hx, decide_eq_true hy, decide_eq_false hz, if_b0, if_b1]
    exact ⟨-1, u.1, rfl, rfl, no⟩
  simp only [decide_eq_true hx, decide_eq_true hy, decide_eq_true hz, if_b1]
  rw [bn2_e]
  unfold pX0_agreed
  obtain ⟨s1, e1, f1, r1⟩ := startC (a := 1) (b := 2) (o := 46) (σ := u.1)
  obtain ⟨s2, e2, f2, r2⟩ := startC (a := 1) (b := 1) (o := 47) (σ := s1)
  rw [e1, bn1_s, e2, bn1_s]
  have fin : ∀ s, fr o4 u.1 s → Inv (s, u.2) := fun s hf => ask ho h1 h2 (fr_up (fun o k q => o4_sc q) hf) fr_rf
  apply ans_bnS
  refine lp_two (fun n (z : Int32 × Int64 × Int64 × gS) (y : Int32) => z.1 = nI (n + 1) ∧ y = nI (n + 1) ∧ z.2.1 = lN (2 ^ n) ∧ z.2.2.1 = lN (3 ^ n) ∧ fr o4 u.1 z.2.2.2 ∧ rwC 1 2 n 46 z.2.2.2 ∧ rwC 1 1 n 47 z.2.2.2) 30 ?_ ?_ (k := 0) (by omega) ⟨rfl, rfl, rfl, rfl, fr_tr (o4_46 f1) (o4_47 f2), rwC_46 f2 r1, r2⟩
  · rintro n ⟨z, x2, x3, τ⟩ y hn ⟨rfl, rfl, rfl, rfl, hf, g1, g2⟩
    dsimp only at hf g1 g2 ⊢
    obtain ⟨s3, e3, f3, r3⟩ := addTryC (a := 1) (b := 2) (by decide) (by decide) hn g1
    obtain ⟨s4, e4, f4, r4⟩ := addTryC (a := 1) (b := 1) (by decide) (by decide) hn (rwC_47 f3 g2)
    have r5 := rwC_46 f4 r3
    have hf5 : fr o4 u.1 s4 := fr_tr hf (fr_tr (o4_46 f3) (o4_47 f4))
    have c30 : ¬ (30 : Int32) < nI (n + 1) := fun q => by
      have := (nI_ltI (a := 30) (b := n + 1) (by decide) (by omega)).mp q
      omega
    simp only [show nI 1 = 1 from rfl, show nI 2 = 2 from rfl] at e3 e4
    rw [if_neg c30, if_neg c30, e3, bn1_s, e4, bn1_s, lt_b, lt_b, show lN (3 ^ n) * 3 = lN (3 ^ (n + 1)) from lN_mul (3 ^ n) 3, show lN (2 ^ n) * 2 = lN (2 ^ (n + 1)) from lN_mul (2 ^ n) 2]
    apply two_bnS
    refine lp_two (fun k (z : Int32) (y : Int32) => z = nI k ∧ y = nI k) (n + 2) ?_ ?_ (k := 0) (by omega) ⟨rfl, rfl⟩
    · rintro k z y hk ⟨rfl, rfl⟩
      have ck : ¬ nI (n + 1) < nI k := fun q => by
        have := (nI_ltI (a := n + 1) (b := k) (by omega) (by omega)).mp q
        omega
      have t3 := tailR (n := n + 1) (f := k) (a := 1) (b := 3) (by omega) (by omega) (by decide) (by decide)
      have t2 := tailR (n := n + 1) (f := k) (a := 1) (b := 2) (by omega) (by omega) (by decide) (by decide)
      have p3 : pX11_power (3 : Int64) (nI (n + 1)) = some (lN (3 ^ (n + 1))) := powR (a := 3) (by omega)
      have p2 : pX11_power (2 : Int64) (nI (n + 1)) = some (lN (2 ^ (n + 1))) := powR (a := 2) (by omega)
      have c3 := sumC (o := 46) (f := k) (e := n + 2) (a3 := nI (n + 1)) (R := rwN 1 2 (n + 1)) r5 (by omega) (by omega) (fun j hj => by
        rw [nI_ltI (by omega) (by omega)]; omega)
      have c2 := sumC (o := 47) (f := 0) (e := k) (a3 := nI k - 1) (R := rwN 1 1 (n + 1)) r4 (by omega) (by omega) (fun j hj => by
        rcases (show k = 0 ∨ ∃ i, k = i + 1 by cases k; exact Or.inl rfl; exact Or.inr ⟨_, rfl⟩) with rfl | ⟨i, rfl⟩
        · refine ⟨fun _ => by omega, fun _ => ?_⟩
          rw [fa_lt, nI_toInt (by omega)]
          show (-1 : Int) < _
          omega
        · rw [nI_p, nI_ltI (by omega) (by omega)]; omega)
      simp only [show nI 1 = 1 from rfl, show nI 3 = 3 from rfl, show nI 2 = 2 from rfl] at t3 t2
      simp only [show nI 0 = 0 from rfl] at c2
      obtain ⟨l1, l2⟩ := low_11 (n := n + 1) (k := k) (by omega)
      rw [if_neg ck, if_neg ck, c3, bn1_s, t3, bn1_s, p3, bn1_s]
      by_cases q1 : 0 < lg_cmp (a1.toInt64 * lN (fb_sm (fun j => rwN 1 2 (n + 1) (k + j)) (n + 2 - k))) (lN (3 ^ (n + 1)))
      · rw [if_pos q1, if_pos (show 0 < lg_cmp (a1.toInt64 * lN (fb_sm (fun j => rwN 1 (3 - 1) (n + 1) (k + j)) (n + 1 + 1 - k))) (lN (3 ^ (n + 1))) from q1), lt_b, lt_b]
        exact Or.inl ⟨_, _, rfl, rfl, nI_1 k, nI_1 k⟩
      · rw [if_neg q1, if_neg (show ¬ 0 < lg_cmp (a1.toInt64 * lN (fb_sm (fun j => rwN 1 (3 - 1) (n + 1) (k + j)) (n + 1 + 1 - k))) (lN (3 ^ (n + 1))) from q1), c2, bn1_s, p2, bn1_s, t2, bn1_s, bn1_s, lN_sub l2, l1]
        generalize hc : lg_cmp (a2.toInt64 * lN (fb_sm (fun j => rwN 1 1 (n + 1) (0 + j)) (k - 0))) (lN (2 ^ (n + 1))) = cc
        have hcc : 0 < cc ↔ ¬ cc ≤ 0 := by
          rw [← hc, lg_cmp_gt, lg_cmp_le]
          rw [Int64.lt_iff_toInt_lt, Int64.le_iff_toInt_le]
          omega
        by_cases q2 : 0 < cc
        · rw [if_pos q2, if_neg (hcc.mp q2), lt_b, lt_b]
          exact Or.inl ⟨_, _, rfl, rfl, nI_1 k, nI_1 k⟩
        · rw [if_neg q2, if_pos (Classical.byContradiction fun z => q2 (hcc.mpr z))]
          by_cases q3 : a3 = 0
          · rw [if_pos q3, if_pos q3]
            exact Or.inr ⟨_, _, rfl, rfl, Or.inr ⟨_, _, rfl, rfl, _, _, rfl, rfl, fin _ hf5⟩⟩
          · rw [if_neg q3, if_neg q3]
            exact Or.inr ⟨_, _, rfl, rfl, Or.inr ⟨_, _, rfl, rfl, _, _, rfl, rfl, fin _ hf5⟩⟩
    · rintro z y ⟨rfl, rfl⟩
      have ck : nI (n + 1) < nI (n + 2) := nI_lt (by omega) (by omega)
      rw [if_pos ck, if_pos ck]
      exact ⟨_, _, rfl, rfl, Or.inl ⟨(nI (n + 1) + 1, lN (2 ^ (n + 1)), lN (3 ^ (n + 1)), s4), nI (n + 1) + 1, rfl, rfl, nI_1 _, nI_1 _, rfl, rfl, hf5, r5, r4⟩⟩
  · rintro ⟨z, x2, x3, τ⟩ y ⟨rfl, rfl, rfl, rfl, hf, g1, g2⟩
    dsimp only at hf g1 g2 ⊢
    rw [if_pos (show (30 : Int32) < nI (30 + 1) by decide)]
    exact ⟨_, _, rfl, rfl, _, _, rfl, rfl, fin _ hf⟩
