/-! chances, striking, bound -/
theorem takingC {A : Abs} {σ : gS} {n k : Nat} (h : RC A σ) (hn : n ≤ 20) (hk : k ≤ 1000) : pX0_taking (nI n) (nI k) σ = some (lN (pc n k)) := by
  unfold pX0_taking
  rw [inR, bn1_s, if_pos (show (0 : Int32) ≤ nI n ∧ nI n ≤ 20 from ⟨nI_pos' (by omega), nI_le (b := 20) hn (by decide)⟩), if_10, inR, bn1_s]
  by_cases hc : k ≤ n
  · rw [if_pos (show (0 : Int32) ≤ nI k ∧ nI k ≤ nI n from ⟨nI_pos' (by omega), nI_le hc (by omega)⟩), if_10, show (21 : Int32) = nI 21 from rfl, nI_mulS, nI_add, gx_i (by omega) (by decide), nI_clamp (by omega), h.2.2.2.2.2.2 n k hn (by omega)]
  · rw [if_neg (show ¬ ((0 : Int32) ≤ nI k ∧ nI k ≤ nI n) from fun q => nI_ge (by omega) (by omega) q.2), if_00, pc_gt n k (by omega)]
    rfl
theorem tJustC {A : Abs} {σ : gS} {n u t b k : Nat} (h : RC A σ) (hT : Tb n u t b σ) (hn : n ≤ 20) (ht : t ≤ n) (hu : u ≤ 1000) (hk : k ≤ u) : pX0_takingJust (nI k) σ = some (lN (pc t k * pc (n - t) (u - k))) := by
  obtain ⟨h0, h1, h2, h3⟩ := hT
  unfold pX0_takingJust
  rw [h0, h1, h2, takingC h (by omega) (by omega), bn1_s, nI_subS ht, nI_subS hk, takingC h (by omega) (by omega), bn1_s, lN_mul]
theorem picksN {n : Nat} {k : Int32} (h : k < 0) : pX11_picks (nI n) k = some 0 := by
  unfold pX11_picks
  rw [if_pos h]
/-- how many ways: at least a of t, u being taken of n -/
def mrN (n u t a : Nat) : Nat := fb_sm (fun j => if a + j ≤ u then pc t (a + j) * pc (n - t) (u - (a + j)) else 0) (21 - a)
theorem mrC {A : Abs} {σ : gS} {n u t b : Nat} (h : RC A σ) (hT : Tb n u t b σ) (hn : n ≤ 20) (ht : t ≤ n) (hu : u ≤ 20) (hb : b ≤ u) : pX0_moreOf σ = some (lN (mrN n u t b)) := by
  unfold pX0_moreOf
  rw [hT.2.2.2, lt_b, hT.2.1]
  apply lp_bn1
  refine ⟨_, lp_sumL (fun j => pc t (b + j) * pc (n - t) (u - (b + j))) b (u + 1 - b) 0 (fun k c hk => ?_) (fun c => ?_), ?_⟩
  · dsimp only
    rw [if_neg (nI_nlt (by omega) (by omega)), tJustC h hT hn ht (by omega) (by omega), bn1_s, lt_b, lt_b, nI_1]
  · dsimp only
    rw [if_pos (nI_lt (by omega) (by omega))]
  · rw [Int64.zero_add]
    unfold mrN
    rw [sm_to (n := u + 1 - b) (N := 21 - b) (by omega) (fun i hi => if_neg (by omega))]
    congr 2
    exact fb_sm_cong (fun j hj => (if_pos (by omega)).symm)
theorem mrR {n u t a : Nat} (hn : n ≤ 20) (ht : t ≤ n) (hu : u ≤ 20) (ha : a ≤ t) : pX11_moreOf (nI n) (nI u) (nI t) (nI a) = some (lN (mrN n u t a)) := by
  unfold pX11_moreOf
  apply lp_bn1
  refine ⟨_, lp_sumL (fun j => if a + j ≤ u then pc t (a + j) * pc (n - t) (u - (a + j)) else 0) a (t + 1 - a) 0 (fun k c hk => ?_) (fun c => ?_), ?_⟩
  · dsimp only
    rw [if_neg (nI_nlt (by omega) (by omega)), picksR (by omega) (by omega), bn1_s, nI_subS ht]
    by_cases hc : a + k ≤ u
    · rw [nI_subS hc, picksR (by omega) (by omega), bn1_s, lt_b, lt_b, nI_1, if_pos hc, lN_mul]
    · rw [picksN (pk_sneg (by omega) (by omega)), bn1_s, lt_b, lt_b, nI_1, if_neg hc, Int64.mul_zero]
      rfl
  · dsimp only
    rw [if_pos (nI_lt (by omega) (by omega))]
  · rw [Int64.zero_add]
    unfold mrN
    rw [sm_to (n := t + 1 - a) (N := 21 - a) (by omega) (fun i hi => by
      split
      · rw [pc_gt t (a + i) (by omega), Nat.zero_mul]
      · rfl)]
theorem ct_b1 {f g : Nat → Bool} {n : Nat} : fb_ct (fun p => f p && g p) n ≤ fb_ct f n := fb_ct_sub (fun k _ q => by
  simp only [Bool.and_eq_true] at q; exact q.1)
theorem ct_b2 {f g : Nat → Bool} {n : Nat} : fb_ct (fun p => f p && g p) n ≤ fb_ct g n := fb_ct_sub (fun k _ q => by
  simp only [Bool.and_eq_true] at q; exact q.2)
/-- MORE and ALL of two sets of the first n -/
def mr2 (f g : Nat → Bool) (n : Nat) : Int64 := lN (mrN n (fb_ct f n) (fb_ct g n) (fb_ct (fun p => f p && g p) n))
def al2 (f : Nat → Bool) (n : Nat) : Int64 := lN (pc n (fb_ct f n))
theorem moreInR {A : Abs} {τ : gS} {f g : Nat → Bool} (ho : okA A) (h : RR A τ) : pX11_moreIn (bitsN f (aPn A)) (bitsN g (aPn A)) τ = some (mr2 f g (aPn A)) := by
  have hn := ho.2.1.1
  unfold pX11_moreIn
  rw [bN_and (by omega), bitsR hn, bn1_s, bitsR hn, bn1_s, bitsR hn, bn1_s, h.2.1.1, mrR hn (fb_ct_le _ _) (Nat.le_trans (fb_ct_le _ _) hn) ct_b2, bn1_s]
  rfl
theorem allInR {A : Abs} {τ : gS} {f : Nat → Bool} (ho : okA A) (h : RR A τ) : pX11_allIn (bitsN f (aPn A)) τ = some (al2 f (aPn A)) := by
  have hn := ho.2.1.1
  have := fb_ct_le f (aPn A)
  unfold pX11_allIn
  rw [bitsR hn, bn1_s, h.2.1.1, picksR (by omega) (by omega), bn1_s]
  rfl
theorem moreTb {A : Abs} {σ : gS} {f g : Nat → Bool} (ho : okA A) (h : RC A σ) (hT : TbF f g (aPn A) σ) : pX0_moreOf σ = some (mr2 f g (aPn A)) := by
  have hn := ho.2.1.1
  exact mrC h hT hn (fb_ct_le _ _) (Nat.le_trans (fb_ct_le _ _) hn) ct_b1
theorem allTb {A : Abs} {σ : gS} {f g : Nat → Bool} (ho : okA A) (h : RC A σ) (hT : TbF f g (aPn A) σ) : pX0_allOf σ = some (al2 f (aPn A)) := by
  have hn := ho.2.1.1
  have := fb_ct_le f (aPn A)
  unfold pX0_allOf
  rw [hT.1, hT.2.1, takingC h hn (by omega), bn1_s]
  rfl
theorem RC_50 {A : Abs} {σ τ : gS} (h : RC A σ) (hf : fr (onO 50) σ τ) : RC A τ := RC_sc (fr_up (fun o k q => o50_sc q) hf) h
theorem h_25 {a1 a2 a3 a4 a5 : Int32} {u : gS × gS} (hu : Inv u) : ∃ t, q25 a1 a2 a3 a4 a5 u = some (.inl t) ∧ Inv t := by
  obtain ⟨A, ho, h1, h2⟩ := hu
  have hn := ho.2.1.1
  have h6 := ho.2.2.2.1.1
  have h16 := ho.2.2.2.1.2.1
  have no : Inv (u.1, u.2) := ⟨A, ho, h1, h2⟩
  unfold q25
  generalize bz a3 = a3
  suffices hs : ∃ v s1 s2, pX10_chances a1 a2 a3 u.1 = some (v, s1) ∧ pX11_chances a1 a2 a3 u.2 = some (v, s2) ∧ Inv (s1, s2) by
    obtain ⟨v, s1, s2, e1, e2, e3⟩ := hs
    refine ⟨(s1, s2), ?_, e3⟩
    rw [e1, bn2_s, e2, bn2_s, if_pos lc_rf]
  unfold pX10_chances pX11_chances
  rw [isSgC ho h1, isSgR ho h2, isSyC ho h1, isSyR ho h2]
  simp only [bn1_s]
  by_cases hx : ixB (nSg (aTd A)) a1 = true
  case neg =>
    have hx' : ixB (nSg (aTd A)) a1 = false := by simpa using hx
    simp only [hx', if_b0]
    exact ⟨-1, u.1, u.2, rfl, rfl, no⟩
  by_cases hy : ixB (nSy (aTd A)) a2 = true
  case neg =>
    have hy' : ixB (nSy (aTd A)) a2 = false := by simpa using hy
    simp only [hx, hy', if_b0, if_b1]
    exact ⟨-1, u.1, u.2, rfl, rfl, no⟩
  simp only [hx, hy, if_b1]
  obtain ⟨s, hs, rfl⟩ := ix_T (by omega) hx
  obtain ⟨k, hk, rfl⟩ := ix_T (by omega) hy
  obtain ⟨s1, e1, f1, v1⟩ := surveyC ho h1
  have hC1 := RC_sc f1 h1
  obtain ⟨s2, e2, f2, t2⟩ := fillC (s := s) (k := k) ho hC1 v1 hs hk
  have hC2 := RC_50 hC1 f2
  obtain ⟨r1, g1, k1⟩ := upSetR (s := s) ho h2 hs
  have hR1 := RR_sc k1 h2
  obtain ⟨r3, g3, k3⟩ := trueSetR (s := k) ho hR1 hk
  have fC : fr scC u.1 s2 := fr_tr f1 (fr_up (fun o k q => o50_sc q) f2)
  rw [e1, bn1_s, e2, bn1_s, allTb ho hC2 t2, moreTb ho hC2 t2, g1]
  simp only [bn1_s, bn2_s]
  rw [allInR ho hR1, g3]
  simp only [bn1_s, bn2_s]
  rw [moreInR ho (RR_sc k3 hR1), bn1_s]
  by_cases h0 : a3 = 0
  · rw [if_pos h0, if_pos h0]
    exact ⟨_, s2, _, rfl, rfl, ask ho h1 h2 fC k1⟩
  · rw [if_neg h0, if_neg h0]
    exact ⟨_, s2, _, rfl, rfl, ask ho h1 h2 fC (fr_tr k1 k3)⟩
theorem two_bn1 {S T R Q S1 T1 A B : Type} {I : S → T → Prop} {P : R → Q → Prop} {f : S1 → Option (S1 ⊕ A)} {g : T1 → Option (T1 ⊕ B)} {s : S1} {t : T1} {f' : A → Option (S ⊕ R)} {g' : B → Option (T ⊕ Q)} (h : ∃ r q, lpP f s = some r ∧ lpP g t = some q ∧ two I P (f' r) (g' q)) : two I P (bn1 (lpP f s) f') (bn1 (lpP g t) g') := by
  obtain ⟨r, q, h1, h2, h3⟩ := h
  rw [h1, h2]; exact h3
/-- the table of sign s and sentence k, asked on both sides -/
theorem pairQ {A : Abs} {σ τ : gS} {s k : Nat} (ho : okA A) (h1 : RC A σ) (hv : Sv A σ) (h2 : RR A τ) (hs : s < nSg (aTd A)) (hk : k < nSy (aTd A)) : ∃ s1 t1 t2 t3, pX4_fillTable (nI s) (nI k) σ = some s1 ∧ fr (onO 50) σ s1 ∧ pX0_moreOf s1 = some (mr2 (uB A s) (tB A k) (aPn A)) ∧ pX0_allOf s1 = some (al2 (uB A s) (aPn A)) ∧ pX11_upSet (nI s) τ = some (bitsN (uB A s) (aPn A), t1) ∧ pX11_trueSet (nI k) t1 = some (bitsN (tB A k) (aPn A), t2) ∧ pX11_moreIn (bitsN (uB A s) (aPn A)) (bitsN (tB A k) (aPn A)) t2 = some (mr2 (uB A s) (tB A k) (aPn A)) ∧ pX11_upSet (nI s) t2 = some (bitsN (uB A s) (aPn A), t3) ∧ pX11_allIn (bitsN (uB A s) (aPn A)) t3 = some (al2 (uB A s) (aPn A)) ∧ fr scR τ t3 := by
  obtain ⟨s2, e2, f2, t2⟩ := fillC (s := s) (k := k) ho h1 hv hs hk
  have hC2 := RC_50 h1 f2
  obtain ⟨r1, g1, k1⟩ := upSetR (s := s) ho h2 hs
  have hR1 := RR_sc k1 h2
  obtain ⟨r3, g3, k3⟩ := trueSetR (s := k) ho hR1 hk
  have hR3 := RR_sc k3 hR1
  obtain ⟨r4, g4, k4⟩ := upSetR (s := s) ho hR3 hs
  exact ⟨s2, r1, r3, r4, e2, f2, moreTb ho hC2 t2, allTb ho hC2 t2, g1, g3, moreInR ho hR3, g4, allInR ho (RR_sc k4 hR3), fr_tr k1 (fr_tr k3 k4)⟩
theorem tdC {A : Abs} {σ : gS} (h : RC A σ) : ∃ r, tR r = true ∧ σ.2.2 23 0 = r ∧ TdC (aTd A) r σ := by
  obtain ⟨r, r1, r2, r3, hD⟩ := h.2.2.2.1
  exact ⟨r, r1, r2, hD⟩
theorem tdR {A : Abs} {τ : gS} (h : RR A τ) : ∃ L, L < 2 ∧ τ.1 0 18 = nI L ∧ TdR (aTd A) L τ := h.2.2.2.1
theorem h_28 {a1 a2 a3 a4 a5 : Int32} {u : gS × gS} (hu : Inv u) : ∃ t, q28 a1 a2 a3 a4 a5 u = some (.inl t) ∧ Inv t := by
  obtain ⟨A, ho, h1, h2⟩ := hu
  have hn := ho.2.1.1
  have h6 := ho.2.2.2.1.1
  have h16 := ho.2.2.2.1.2.1
  have no : Inv (u.1, u.2) := ⟨A, ho, h1, h2⟩
  unfold q28
  suffices hs : ∃ v s1 s2, pX10_bound a1 u.1 = some (v, s1) ∧ pX11_bound a1 u.2 = some (v, s2) ∧ Inv (s1, s2) by
    obtain ⟨v, s1, s2, e1, e2, e3⟩ := hs
    refine ⟨(s1, s2), ?_, e3⟩
    rw [e1, bn2_s, e2, bn2_s, if_pos rfl]
  unfold pX10_bound pX11_bound
  rw [inR, inRR, in_b]
  simp only [bn1_s]
  by_cases hx : (1 : Int32) ≤ a1 ∧ a1 ≤ 10000
  case neg =>
    simp only [decide_eq_false hx, if_b0]
    exact ⟨-1, u.1, u.2, rfl, rfl, no⟩
  simp only [decide_eq_true hx, if_b1]
  obtain ⟨s1, e1, f1, v1⟩ := surveyC ho h1
  have hC1 := RC_sc f1 h1
  rw [e1, bn1_s]
  apply ans_bn1 (P := fun w x => Inv (w, x))
  refine lp_two (fun k (z : Int32 × Int32 × gS) (y : Int32 × Int32 × gS) => z.1 = nI k ∧ y.1 = nI k ∧ z.2.1 = y.2.1 ∧ fr (onO 50) s1 z.2.2 ∧ fr scR u.2 y.2.2) (nSg (aTd A)) ?_ ?_ (k := 0) (by omega) ⟨rfl, rfl, rfl, fr_rf, fr_rf⟩
  · rintro s ⟨z, n, σ⟩ ⟨y, n', τ⟩ hs ⟨rfl, rfl, rfl, hf, hg⟩
    dsimp only at hf hg ⊢
    obtain ⟨r, r1, r2, r3⟩ := tdC (RC_50 hC1 hf)
    obtain ⟨L, l1, l2, l3⟩ := tdR (RR_sc hg h2)
    rw [r2, gT_p r1, r3.1.1, if_neg (nI_ge hs (by omega)), l2, gx_i l1 (by decide), nI_clamp (by omega), l3.1.1, if_neg (nI_ge hs (by omega))]
    apply two_bn1
    refine lp_two (fun k (z : Int32 × Int32 × gS) (y : Int32 × Int32 × gS) => z.1 = nI k ∧ y.1 = nI k ∧ z.2.1 = y.2.1 ∧ fr (onO 50) s1 z.2.2 ∧ fr scR u.2 y.2.2) (nSy (aTd A)) ?_ ?_ (k := 0) (by omega) ⟨rfl, rfl, rfl, hf, hg⟩
    · rintro k ⟨z, n, σ⟩ ⟨y, n', τ⟩ hk ⟨rfl, rfl, rfl, hf, hg⟩
      dsimp only at hf hg ⊢
      have hC := RC_50 hC1 hf
      have hR := RR_sc hg h2
      obtain ⟨r, r1, r2, r3⟩ := tdC hC
      obtain ⟨L, l1, l2, l3⟩ := tdR hR
      obtain ⟨c1, t1, t2, t3, p1, p2, p3, p4, p5, p6, p7, p8, p9, p10⟩ := pairQ ho hC (Sv_fr v1 hf (fun _ => rfl) (fun _ => rfl)) hR hs hk
      rw [r2, gT_p r1, r3.1.2.1, if_neg (nI_ge hk (by omega)), l2, gx_i l1 (by decide), nI_clamp (by omega), l3.1.2.1, if_neg (nI_ge hk (by omega)), p1, bn1_s, p3, bn1_s, p4, bn1_s, p5, bn2_s, p6, bn2_s, p7, bn1_s, p8, bn2_s, p9, bn1_s]
      simp only [lt_b]
      by_cases hc : 0 < lg_cmp (mr2 (uB A s) (tB A k) (aPn A) * a1.toInt64) (al2 (uB A s) (aPn A))
      · rw [if_pos hc, if_pos hc]
        exact Or.inl ⟨_, _, rfl, rfl, nI_1 k, nI_1 k, rfl, fr_tr hf p2, fr_tr hg p10⟩
      · rw [if_neg hc, if_neg hc]
        exact Or.inl ⟨_, _, rfl, rfl, nI_1 k, nI_1 k, rfl, fr_tr hf p2, fr_tr hg p10⟩
    · rintro ⟨z, n, σ⟩ ⟨y, n', τ⟩ ⟨rfl, rfl, rfl, hf, hg⟩
      dsimp only at hf hg ⊢
      obtain ⟨r, r1, r2, r3⟩ := tdC (RC_50 hC1 hf)
      obtain ⟨L, l1, l2, l3⟩ := tdR (RR_sc hg h2)
      rw [r2, gT_p r1, r3.1.2.1, if_pos (nI_le (Nat.le_refl _) (by omega)), l2, gx_i l1 (by decide), nI_clamp (by omega), l3.1.2.1, if_pos (nI_le (Nat.le_refl _) (by omega))]
      exact ⟨_, _, rfl, rfl, Or.inl ⟨_, _, rfl, rfl, nI_1 s, nI_1 s, rfl, hf, hg⟩⟩
  · rintro ⟨z, n, σ⟩ ⟨y, n', τ⟩ ⟨rfl, rfl, rfl, hf, hg⟩
    dsimp only at hf hg ⊢
    obtain ⟨r, r1, r2, r3⟩ := tdC (RC_50 hC1 hf)
    obtain ⟨L, l1, l2, l3⟩ := tdR (RR_sc hg h2)
    rw [r2, gT_p r1, r3.1.1, if_pos (nI_le (Nat.le_refl _) (by omega)), l2, gx_i l1 (by decide), nI_clamp (by omega), l3.1.1, if_pos (nI_le (Nat.le_refl _) (by omega))]
    exact ⟨_, _, rfl, rfl, _, _, _, rfl, rfl, ask ho h1 h2 (fr_tr f1 (fr_up (fun o k q => o50_sc q) hf)) hg⟩
theorem h_27 {a1 a2 a3 a4 a5 : Int32} {u : gS × gS} (hu : Inv u) : ∃ t, q27 a1 a2 a3 a4 a5 u = some (.inl t) ∧ Inv t := by
  obtain ⟨A, ho, h1, h2⟩ := hu
  have hn := ho.2.1.1
  have h6 := ho.2.2.2.1.1
  have h16 := ho.2.2.2.1.2.1
  unfold q27
  suffices hs : ∃ v s1 s2, pX10_striking u.1 = some (v, s1) ∧ pX11_striking u.2 = some (v, s2) ∧ Inv (s1, s2) by
    obtain ⟨v, s1, s2, e1, e2, e3⟩ := hs
    refine ⟨(s1, s2), ?_, e3⟩
    rw [e1, bn2_s, e2, bn2_s, if_pos rfl]
  unfold pX10_striking pX11_striking
  obtain ⟨s1, e1, f1, v1⟩ := surveyC ho h1
  have hC1 := RC_sc f1 h1
  rw [e1, bn1_s]
  apply ans_bn1 (P := fun w x => Inv (w, x))
  refine lp_two (fun k (z : Int32 × Int64 × Int64 × Int32 × gS) (y : Int32 × Int64 × Int64 × Int32 × gS) => z.1 = nI k ∧ y.1 = nI k ∧ z.2.2.2.1 = y.2.2.2.1 ∧ (z.2.2.2.1 ≠ -1 → z.2.1 = y.2.1 ∧ z.2.2.1 = y.2.2.1) ∧ fr (onO 50) s1 z.2.2.2.2 ∧ fr scR u.2 y.2.2.2.2) (nSg (aTd A)) ?_ ?_ (k := 0) (by omega) ⟨rfl, rfl, rfl, fun q => absurd rfl q, fr_rf, fr_rf⟩
  · rintro s ⟨z, za, zm, zb, σ⟩ ⟨y, ya, ym, yb, τ⟩ hs ⟨rfl, rfl, hb, hq, hf, hg⟩
    dsimp only at hb hq hf hg ⊢
    obtain ⟨r, r1, r2, r3⟩ := tdC (RC_50 hC1 hf)
    obtain ⟨L, l1, l2, l3⟩ := tdR (RR_sc hg h2)
    rw [r2, gT_p r1, r3.1.1, if_neg (nI_ge hs (by omega)), l2, gx_i l1 (by decide), nI_clamp (by omega), l3.1.1, if_neg (nI_ge hs (by omega))]
    apply two_bn1
    refine lp_two (fun k (z : Int32 × Int64 × Int64 × Int32 × gS) (y : Int32 × Int64 × Int64 × Int32 × gS) => z.1 = nI k ∧ y.1 = nI k ∧ z.2.2.2.1 = y.2.2.2.1 ∧ (z.2.2.2.1 ≠ -1 → z.2.1 = y.2.1 ∧ z.2.2.1 = y.2.2.1) ∧ fr (onO 50) s1 z.2.2.2.2 ∧ fr scR u.2 y.2.2.2.2) (nSy (aTd A)) ?_ ?_ (k := 0) (by omega) ⟨rfl, rfl, hb, hq, hf, hg⟩
    · rintro k ⟨z, za, zm, zb, σ⟩ ⟨y, ya, ym, yb, τ⟩ hk ⟨rfl, rfl, hb, hq, hf, hg⟩
      dsimp only at hb hq hf hg ⊢
      have hC := RC_50 hC1 hf
      have hR := RR_sc hg h2
      obtain ⟨r, r1, r2, r3⟩ := tdC hC
      obtain ⟨L, l1, l2, l3⟩ := tdR hR
      obtain ⟨c1, t1, t2, t3, p1, p2, p3, p4, p5, p6, p7, p8, p9, p10⟩ := pairQ ho hC (Sv_fr v1 hf (fun _ => rfl) (fun _ => rfl)) hR hs hk
      rw [r2, gT_p r1, r3.1.2.1, if_neg (nI_ge hk (by omega)), l2, gx_i l1 (by decide), nI_clamp (by omega), l3.1.2.1, if_neg (nI_ge hk (by omega)), p1, bn1_s, p3, bn1_s, p4, bn1_s, p5, bn2_s, p6, bn2_s, p7, bn1_s, p8, bn2_s, p9, bn1_s]
      simp only [lt_b]
      subst hb
      by_cases hc : zb = -1
      · rw [if_pos hc, if_pos hc]
        exact Or.inl ⟨_, _, rfl, rfl, nI_1 k, nI_1 k, rfl, fun _ => ⟨rfl, rfl⟩, fr_tr hf p2, fr_tr hg p10⟩
      · obtain ⟨rfl, rfl⟩ := hq hc
        rw [if_neg hc, if_neg hc]
        by_cases hd : 0 ≤ lg_cmp (mr2 (uB A s) (tB A k) (aPn A) * za) (zm * al2 (uB A s) (aPn A))
        · rw [if_pos hd, if_neg (fun q => absurd (Int32.not_lt.mpr hd) (fun z => z q))]
          exact Or.inl ⟨_, _, rfl, rfl, nI_1 k, nI_1 k, rfl, fun _ => ⟨rfl, rfl⟩, fr_tr hf p2, fr_tr hg p10⟩
        · rw [if_neg hd, if_pos (fa_of_nle hd)]
          exact Or.inl ⟨_, _, rfl, rfl, nI_1 k, nI_1 k, rfl, fun _ => ⟨rfl, rfl⟩, fr_tr hf p2, fr_tr hg p10⟩
    · rintro ⟨z, za, zm, zb, σ⟩ ⟨y, ya, ym, yb, τ⟩ ⟨rfl, rfl, hb, hq, hf, hg⟩
      dsimp only at hb hq hf hg ⊢
      obtain ⟨r, r1, r2, r3⟩ := tdC (RC_50 hC1 hf)
      obtain ⟨L, l1, l2, l3⟩ := tdR (RR_sc hg h2)
      rw [r2, gT_p r1, r3.1.2.1, if_pos (nI_le (Nat.le_refl _) (by omega)), l2, gx_i l1 (by decide), nI_clamp (by omega), l3.1.2.1, if_pos (nI_le (Nat.le_refl _) (by omega))]
      exact ⟨_, _, rfl, rfl, Or.inl ⟨_, _, rfl, rfl, nI_1 s, nI_1 s, hb, hq, hf, hg⟩⟩
  · rintro ⟨z, za, zm, zb, σ⟩ ⟨y, ya, ym, yb, τ⟩ ⟨rfl, rfl, hb, hq, hf, hg⟩
    dsimp only at hb hq hf hg ⊢
    obtain ⟨r, r1, r2, r3⟩ := tdC (RC_50 hC1 hf)
    obtain ⟨L, l1, l2, l3⟩ := tdR (RR_sc hg h2)
    rw [r2, gT_p r1, r3.1.1, if_pos (nI_le (Nat.le_refl _) (by omega)), l2, gx_i l1 (by decide), nI_clamp (by omega), l3.1.1, if_pos (nI_le (Nat.le_refl _) (by omega))]
    subst hb
    exact ⟨_, _, rfl, rfl, _, _, _, rfl, rfl, ask ho h1 h2 (fr_tr f1 (fr_up (fun o k q => o50_sc q) hf)) hg⟩
