/-! red, odds, turned -/
def gd (A : Abs) (n k : Nat) : Bool := decide (aFk A k = 4) && kn A n k
def cdF (A : Abs) (k : Nat) : Nat := aFa A k * 10 + aFv A k
/-- pair e is among the first i that count -/
def Ds (A : Abs) (n i e : Nat) : Bool := (List.range i).any (fun k => gd A n k && cdF A k == e)
theorem Ds_s {A : Abs} {n i e : Nat} : Ds A n (i + 1) e = (Ds A n i e || (gd A n i && cdF A i == e)) := by
  simp [Ds, List.range_succ, List.any_append]
def trN (A : Abs) (n i : Nat) : Nat := fb_ct (fun k => gd A n k && !Ds A n k (cdF A k)) i
theorem gd_cd {A : Abs} {n k : Nat} (ho : okA A) (hk : k < aFn A) (h : gd A n k = true) : aFa A k < 6 ∧ aFv A k < 10 := by
  simp only [gd, Bool.and_eq_true, decide_eq_true_eq] at h
  exact (ho.2.2.1.2 k hk).2.2.1 h.1
theorem Ds_ct {A : Abs} {n N : Nat} (ho : okA A) (hN : 60 ≤ N) : ∀ i, i ≤ aFn A → fb_ct (Ds A n i) N = trN A n i
  | 0, _ => by
    show fb_ct (Ds A n 0) N = 0
    exact fb_ct_zero.mpr (fun _ _ => rfl)
  | i + 1, hi => by
    have ih := Ds_ct (n := n) ho hN i (by omega)
    have et : trN A n (i + 1) = trN A n i + bN (gd A n i && !Ds A n i (cdF A i)) := rfl
    rw [et, ← ih]
    cases hg : gd A n i with
    | false =>
      rw [Bool.false_and, show bN false = 0 from rfl, Nat.add_zero]
      exact fb_ct_cong (fun e _ => by rw [Ds_s, hg, Bool.false_and, Bool.or_false])
    | true =>
      obtain ⟨c1, c2⟩ := gd_cd ho (show i < aFn A by omega) hg
      have hc : cdF A i < N := by unfold cdF; omega
      have e : fb_ct (Ds A n (i + 1)) N = fb_ct (fun k => if k = cdF A i then true else Ds A n i k) N := fb_ct_cong (fun e _ => by
        rw [Ds_s, hg, Bool.true_and]
        by_cases q : e = cdF A i
        · rw [if_pos q, q]; simp
        · rw [if_neg q, show (cdF A i == e) = false by rw [beq_eq_false_iff_ne]; exact fun z => q z.symm, Bool.or_false])
      have u := fb_ct_upd (Ds A n i) true (i := cdF A i) hc
      rw [e, Bool.true_and]
      cases hd : Ds A n i (cdF A i) with
      | false =>
        rw [hd, if_neg (by decide), if_pos rfl] at u
        rw [show bN (!false) = 1 from rfl]
        exact u
      | true =>
        rw [hd, if_pos rfl] at u
        rw [show bN (!true) = 0 from rfl, Nat.add_zero]
        exact Nat.add_right_cancel u
theorem trN_to {A : Abs} {n : Nat} (hn : n ≤ aFn A) : trN A n (aFn A) = trN A n n := by
  unfold trN
  rw [ct_sm, ct_sm]
  exact sm_to hn (fun i hi => by
    have : gd A n i = false := by unfold gd; rw [kn_off hi, Bool.and_false]
    rw [this]; rfl)
theorem unlikeC {A : Abs} {σ : gS} {n : Nat} (ho : okA A) (h : RC A σ) (hn : n ≤ aFn A) (hv : ∀ i, i < aFn A → σ.1 43 i = b01 (kn A n i)) : pX1_unlikeTries σ = some (nI (trN A n n)) := by
  have h60 := ho.2.2.1.1
  unfold pX1_unlikeTries
  suffices hs : ∃ v, bn1 (lpP _ ((0 : Int32), (0 : Int64))) (fun (z1 : Int64) => bn1 (pJ13_bitCount_95d88 z1) (fun v7 => some (v7))) = some v ∧ v = nI (trN A n n) by
    obtain ⟨v, e1, e2⟩ := hs
    rw [e1, e2]
  refine lp_then (fun r => ∃ W, r = lN W ∧ W < 2 ^ 64 ∧ ∀ e, e < 64 → W.testBit e = Ds A n (aFn A) e) ?_ (fun r hr => ?_)
  · refine lp_cnt (fun i (z : Int32 × Int64) => z.1 = nI i ∧ ∃ W, z.2 = lN W ∧ W < 2 ^ 64 ∧ ∀ e, e < 64 → W.testBit e = Ds A n i e) (aFn A) ?_ ?_ (k := 0) (by omega) ⟨rfl, 0, rfl, by decide, fun e _ => by rw [Nat.zero_testBit]; rfl⟩
    · rintro i ⟨z, w⟩ hi ⟨rfl, W, rfl, hW, hb⟩
      dsimp only
      obtain ⟨g1, g2, g3⟩ := h.2.2.1.2 i hi
      rw [h.2.2.1.1, if_neg (nI_ge hi (by omega))]
      simp only [gx_i (show i < 60 by omega) (show 60 < 2 ^ 31 by decide), lt_b, nI_1, nI_clamp (show i < 2 ^ 31 by omega)]
      rw [hv i hi, g1, g2, g3]
      have hk5 := (ho.2.2.1.2 i hi).2.2.2.2
      cases hg : gd A n i with
      | false =>
        have hs : ∀ e, Ds A n (i + 1) e = Ds A n i e := fun e => by rw [Ds_s, hg, Bool.false_and, Bool.or_false]
        rcases Bool.eq_false_or_eq_true (kn A n i) with q | q
        · rw [q, if_b1]
          have h4 : ¬ aFk A i = 4 := fun z => by
            unfold gd at hg
            rw [q, decide_eq_true z] at hg
            cases hg
          rw [if_neg (show ¬ nI (aFk A i) = 4 from fun z => h4 ((nI_eq (b := 4) (by omega) (by decide)).mp z))]
          exact ⟨_, rfl, rfl, W, rfl, hW, fun e he => by rw [hs]; exact hb e he⟩
        · rw [q, if_b0]
          exact ⟨_, rfl, rfl, W, rfl, hW, fun e he => by rw [hs]; exact hb e he⟩
      | true =>
        obtain ⟨c1, c2⟩ := gd_cd ho hi hg
        have q : kn A n i = true ∧ aFk A i = 4 := by
          simp only [gd, Bool.and_eq_true, decide_eq_true_eq] at hg
          exact ⟨hg.2, hg.1⟩
        rw [q.1, if_b1, if_pos (show nI (aFk A i) = 4 by rw [q.2]; rfl), show (10 : Int32) = nI 10 from rfl, nI_mulS, nI_add]
        have hsh : shlL 1 (nI (aFa A i * 10 + aFv A i)) = lN (2 ^ (aFa A i * 10 + aFv A i)) := by
          unfold shlL
          rw [show (1 : Int64) = lN 1 from rfl, wb_shl 1 (by omega), Nat.one_mul]
        have h2 : 2 ^ (aFa A i * 10 + aFv A i) < 2 ^ 64 := Nat.pow_lt_pow_right (by decide) (by omega)
        rw [hsh, fb_orL]
        refine ⟨_, rfl, rfl, _, rfl, Nat.or_lt_two_pow hW h2, fun e he => ?_⟩
        rw [fb_bit_set, Ds_s, hg, Bool.true_and, hb e he]
        congr 1
        unfold cdF
        by_cases z : e = aFa A i * 10 + aFv A i
        · rw [decide_eq_true z, z]; simp
        · rw [decide_eq_false z]
          symm
          rw [beq_eq_false_iff_ne]
          exact fun y => z y.symm
    · rintro ⟨z, w⟩ ⟨rfl, W, rfl, hW, hb⟩
      dsimp only
      rw [h.2.2.1.1, if_pos (nI_le (Nat.le_refl _) (by omega))]
      exact ⟨_, rfl, W, rfl, hW, hb⟩
  · obtain ⟨W, rfl, hW, hb⟩ := hr
    rw [bitCountN hW, bn1_s]
    refine ⟨_, rfl, ?_⟩
    rw [fb_ct_cong (fun e he => hb e he), Ds_ct ho (by decide) _ (Nat.le_refl _), trN_to hn]
theorem kR_3 {k : Nat} : kR k = 3 ↔ k = 4 := by unfold kR; split <;> omega
theorem triesR {A : Abs} {τ : gS} {n : Nat} (ho : okA A) (h : RR A τ) (hn : n ≤ aFn A) : pX11_tries (nI n) τ = some (nI (trN A n n)) := by
  have h60 := ho.2.2.1.1
  have fc : ∀ k, k < n → pX11_isFact (nI k) (3 : Int32) (nI n) τ = some (b01 (gd A n k)) := fun k hk => by
    have := isFactR (s := 3) ho h hn hk (by decide)
    rw [show (3 : Int32) = nI 3 from rfl, this]
    unfold gd
    rw [decide_eq_decide.mpr kR_3]
  unfold pX11_tries
  apply lp_bn1
  refine ⟨_, lp_sum (fun k => bN (gd A n k && !Ds A n k (cdF A k))) n 0 (fun k a hk => ?_) (fun a => ?_), by rw [Int32.zero_add, ct_w]; rfl⟩
  · dsimp only
    rw [if_neg (nI_ge hk (by omega)), fc k hk, bn1_s]
    cases hg : gd A n k with
    | false =>
      rw [if_b0, lt_b, nI_1, Bool.false_and]
      exact congrArg (fun x => some (Sum.inl (nI (k + 1), x))) (aI_0 a).symm
    | true =>
      rw [if_b1, Bool.true_and]
      apply lp_bn1
      refine ⟨b01 (!Ds A n k (cdF A k)), ?_, ?_⟩
      · have key : ∀ {f : Int32 × Int32 → Option ((Int32 × Int32) ⊕ Int32)}, (∀ j, j < k → f (nI j, b01 (!Ds A n j (cdF A k))) = some (.inl (nI (j + 1), b01 (!Ds A n (j + 1) (cdF A k))))) → f (nI k, b01 (!Ds A n k (cdF A k))) = some (.inr (b01 (!Ds A n k (cdF A k)))) → lpP f ((0 : Int32), (1 : Int32)) = some (b01 (!Ds A n k (cdF A k))) := fun q1 q2 => lp_seq (fun j => (nI j, b01 (!Ds A n j (cdF A k)))) k q1 q2
        refine key (fun j hj => ?_) ?_
        · dsimp only
          obtain ⟨g1, g2, g3, g4⟩ := h.2.2.1.2 j (by omega)
          obtain ⟨w1, w2, w3, w4⟩ := h.2.2.1.2 k (by omega)
          rw [if_neg (nI_ge hj (by omega)), fc j (by omega), bn1_s]
          simp only [gx_i (show j < 60 by omega) (show 60 < 2 ^ 31 by decide), gx_i (show k < 60 by omega) (show 60 < 2 ^ 31 by decide), nI_clamp (show j < 2 ^ 31 by omega), nI_clamp (show k < 2 ^ 31 by omega), lt_b, nI_1]
          rw [g2, g3, w2, w3, Ds_s]
          cases hgj : gd A n j with
          | false => rw [if_b0, Bool.false_and, Bool.or_false]
          | true =>
            obtain ⟨c1, c2⟩ := gd_cd ho (show j < aFn A by omega) hgj
            obtain ⟨d1, d2⟩ := gd_cd ho (show k < aFn A by omega) hg
            rw [if_b1, Bool.true_and]
            unfold cdF
            by_cases q1 : aFa A j = aFa A k
            · rw [if_pos (by rw [q1])]
              by_cases q2 : aFv A j = aFv A k
              · rw [if_pos (by rw [q2]), q1, q2]
                simp [b01]
              · rw [if_neg (fun z => q2 ((nI_eq (by omega) (by omega)).mp z)), show (aFa A j * 10 + aFv A j == aFa A k * 10 + aFv A k) = false by rw [beq_eq_false_iff_ne]; omega, Bool.or_false]
            · rw [if_neg (fun z => q1 ((nI_eq (by omega) (by omega)).mp z)), show (aFa A j * 10 + aFv A j == aFa A k * 10 + aFv A k) = false by rw [beq_eq_false_iff_ne]; omega, Bool.or_false]
        · dsimp only
          rw [if_pos (nI_le (Nat.le_refl _) (by omega))]
      · cases Ds A n k (cdF A k) with
        | false =>
          rw [if_neg (show ¬ b01 (!false) = 0 by decide), lt_b, lt_b, nI_1]
          rfl
        | true =>
          rw [if_pos (show b01 (!true) = 0 from rfl), lt_b, nI_1]
          exact congrArg (fun x => some (Sum.inl (nI (k + 1), x))) (aI_0 a).symm
  · dsimp only
    rw [if_pos (nI_le (Nat.le_refl _) (by omega))]

theorem c43_o50 {A : Abs} {σ τ : gS} (h : Sv A σ) (hf : fr c43 σ τ) : Sv A τ := Sv_fr h hf (fun _ => rfl) (fun _ => rfl)
def rdF (o k : Nat) : Bool := c43 o k || onO 50 o k
theorem rd_43 {σ τ : gS} (h : fr c43 σ τ) : fr rdF σ τ := fr_up (fun o k q => by simp only [rdF, Bool.or_eq_false_iff] at q; exact q.1) h
theorem rd_50 {σ τ : gS} (h : fr (onO 50) σ τ) : fr rdF σ τ := fr_up (fun o k q => by simp only [rdF, Bool.or_eq_false_iff] at q; exact q.2) h
theorem rd_sc {o k : Nat} (h : scC o k = false) : rdF o k = false := by
  unfold rdF
  rw [c43_sc h, o50_sc h]; rfl
theorem RC_rd {A : Abs} {σ τ : gS} (h : RC A σ) (hf : fr rdF σ τ) : RC A τ := RC_sc (fr_up (fun o k q => rd_sc q) hf) h
theorem Sv_rd {A : Abs} {σ τ : gS} (h : Sv A σ) (hf : fr rdF σ τ) : Sv A τ := Sv_fr h hf (fun _ => rfl) (fun _ => rfl)
theorem fillRedC {A : Abs} {σ : gS} {s n : Nat} (ho : okA A) (h : RC A σ) (hv : Sv A σ) (hs : s < nSg (aTd A)) (hn : n ≤ aFn A) : ∃ σ', pX10_fillRedTable (nI s) (nI n) σ = some σ' ∧ fr rdF σ σ' ∧ TbF (uB A s) (onL A n) (aPn A) σ' ∧ ∀ i, i < aFn A → σ'.1 43 i = b01 (kn A n i) := by
  have hpn := ho.2.1.1
  obtain ⟨s1, e1, f1, c1, k1⟩ := knowC (n := n) ho h hn
  obtain ⟨s2, e2, f2, t2⟩ := clearC (σ := s1)
  unfold pX10_fillRedTable
  rw [e1, bn1_s, e2, bn1_s]
  refine lp_then (fun r => fr (onO 50) s1 r ∧ TbF (uB A s) (onL A n) (aPn A) r) ?_ (fun r hr => ⟨r, rfl, fr_tr (rd_43 f1) (rd_50 hr.1), hr.2, fun i hi => (fr_1 hr.1 rfl).trans (k1 i hi)⟩)
  refine lp_cnt (fun j (z : Int32 × gS) => z.1 = nI j ∧ fr (onO 50) s1 z.2 ∧ TbF (uB A s) (onL A n) j z.2) (aPn A) ?_ ?_ (k := 0) (by omega) ⟨rfl, f2, t2⟩
  · rintro p ⟨z, τ⟩ hp ⟨rfl, hf, ht⟩
    dsimp only at hf ht ⊢
    have hC := RC_50 c1 hf
    have hS := Sv_fr (c43_o50 hv f1) hf (fun _ => rfl) (fun _ => rfl)
    obtain ⟨s3, e3, f3, t3⟩ := addOneC (x := uB A s p) (y := onL A n p) ht
    rw [hC.2.1.1, if_neg (nI_ge hp (by omega)), gx_i (by omega) (by decide), nI_clamp (by omega), (hS p hp).1, UPbit ho hs, bn1_s, isListedC ho hC hn (fun i hi => (fr_1 hf rfl).trans (k1 i hi)) (by omega), bn1_s]
    have e4 : (if b01 (onL A n p) = 0 then bn1 (pX5_addOne (b01 (uB A s p)) 0 τ) (fun s12 => lt' (nI p + 1) fun x13 => (some (Sum.inl (x13, s12)) : Option ((Int32 × gS) ⊕ gS))) else bn1 (pX5_addOne (b01 (uB A s p)) 1 τ) (fun s15 => lt' (nI p + 1) fun x16 => some (Sum.inl (x16, s15)))) = bn1 (pX5_addOne (b01 (uB A s p)) (b01 (onL A n p)) τ) (fun s12 => lt' (nI p + 1) fun x13 => some (Sum.inl (x13, s12))) := by
      cases onL A n p <;> rfl
    rw [e4, e3, bn1_s, lt_b, nI_1]
    exact ⟨_, rfl, rfl, fr_tr hf f3, t3⟩
  · rintro ⟨z, τ⟩ ⟨rfl, hf, ht⟩
    dsimp only at hf ht ⊢
    rw [(RC_50 c1 hf).2.1.1, if_pos (nI_le (Nat.le_refl _) (by omega))]
    exact ⟨_, rfl, hf, ht⟩
theorem listSetR {A : Abs} {τ : gS} {n : Nat} (ho : okA A) (h : RR A τ) (hn : n ≤ aFn A) : pX11_listSet (nI n) τ = some (bitsN (onL A n) (aPn A)) := by
  have hpn := ho.2.1.1
  unfold pX11_listSet
  apply lp_bn1
  refine ⟨_, lp_seq (fun k => (nI k, bitsN (onL A n) k)) (aPn A) (fun p hp => ?_) ?_, rfl⟩
  · dsimp only
    rw [h.2.1.1, if_neg (nI_ge hp (by omega)), isOnR ho h hn (by omega), bn1_s]
    simp only [lt_b, nI_1]
    cases hb : onL A n p with
    | false => rw [if_b0, bN_f hb]
    | true => rw [if_b1, bN_t hb]
  · dsimp only
    rw [h.2.1.1, if_pos (nI_le (Nat.le_refl _) (by omega))]
/-- RED stands -/
def mxT (t : Nat) : Int32 := if nI t < 1 then 1 else nI t
def stB (A : Abs) (s n : Nat) : Bool := !decide (0 < lg_cmp (mr2 (uB A s) (onL A n) (aPn A) * (mxT (trN A n n)).toInt64 * 20) (al2 (uB A s) (aPn A)))
theorem b01_d {c : Prop} [Decidable c] : (if c then some (0 : Int32) else some (1 : Int32)) = some (b01 (!decide c)) := by
  by_cases h : c
  · rw [if_pos h, decide_eq_true h]; rfl
  · rw [if_neg h, decide_eq_false h]; rfl
theorem standsC {A : Abs} {σ : gS} {s n : Nat} (ho : okA A) (h : RC A σ) (hn : n ≤ aFn A) (hT : TbF (uB A s) (onL A n) (aPn A) σ) (hk : ∀ i, i < aFn A → σ.1 43 i = b01 (kn A n i)) : pX10_redStands σ = some (b01 (stB A s n)) := by
  unfold pX10_redStands
  have em : pJ9_max_7cf53 (nI (trN A n n)) 1 = some (mxT (trN A n n)) := by
    unfold pJ9_max_7cf53 mxT
    split <;> rfl
  rw [unlikeC ho h hn hk, bn1_s, em, bn1_s, lt_b, moreTb ho h hT, bn1_s, allTb ho h hT, bn1_s, b01_d]
  rfl
theorem standsR {A : Abs} {τ : gS} {s n : Nat} (ho : okA A) (h : RR A τ) (hs : s < nSg (aTd A)) (hn : n ≤ aFn A) : ∃ τ', pX11_stands (nI s) (nI n) τ = some (b01 (stB A s n), τ') ∧ fr scR τ τ' := by
  obtain ⟨t1, g1, k1⟩ := upSetR (s := s) ho h hs
  have hR := RR_sc k1 h
  unfold pX11_stands
  have em : (if (1 : Int32) ≤ nI (trN A n n) then some (nI (trN A n n)) else some (1 : Int32)) = some (mxT (trN A n n)) := by
    unfold mxT
    by_cases q : nI (trN A n n) < 1
    · rw [if_pos q, if_neg (Int32.not_le.mpr q)]
    · rw [if_neg q, if_pos (Int32.not_lt.mp q)]
  rw [g1, bn2_s, triesR ho hR hn, bn1_s, listSetR ho hR hn, bn1_s, moreInR ho hR, bn1_s, em, bn1_s, allInR ho hR, bn1_s]
  refine ⟨t1, ?_, k1⟩
  unfold stB
  by_cases q : 0 < lg_cmp (mr2 (uB A s) (onL A n) (aPn A) * (mxT (trN A n n)).toInt64 * 20) (al2 (uB A s) (aPn A))
  · rw [if_pos q, decide_eq_true q]; rfl
  · rw [if_neg q, decide_eq_false q]; rfl
theorem h_38 {a1 a2 a3 a4 a5 : Int32} {u : gS × gS} (hu : Inv u) : ∃ t, q38 a1 a2 a3 a4 a5 u = some (.inl t) ∧ Inv t := by
  obtain ⟨A, ho, h1, h2⟩ := hu
  have hpn := ho.2.1.1
  have h60 := ho.2.2.1.1
  have h6 := ho.2.2.2.1.1
  have no : Inv (u.1, u.2) := ⟨A, ho, h1, h2⟩
  unfold q38
  generalize bz a3 = a3
  suffices hs : ∃ v s1 s2, pX10_odds a1 a2 a3 u.1 = some (v, s1) ∧ pX11_odds a1 a2 a3 u.2 = some (v, s2) ∧ Inv (s1, s2) by
    obtain ⟨v, s1, s2, e1, e2, e3⟩ := hs
    refine ⟨(s1, s2), ?_, e3⟩
    rw [e1, bn2_s, e2, bn2_s, if_pos lc_rf]
  unfold pX10_odds pX11_odds
  rw [isSgC ho h1, isSgR ho h2, canC ho h1, canR ho h2]
  simp only [bn1_s]
  by_cases hx : ixB (nSg (aTd A)) a1 = true
  case neg =>
    have hx' : ixB (nSg (aTd A)) a1 = false := by simpa using hx
    simp only [hx', if_b0]
    exact ⟨-1, u.1, u.2, rfl, rfl, no⟩
  by_cases hy : ixB (aFn A + 1) a2 = true
  case neg =>
    have hy' : ixB (aFn A + 1) a2 = false := by simpa using hy
    simp only [hx, hy', if_b0, if_b1]
    exact ⟨-1, u.1, u.2, rfl, rfl, no⟩
  simp only [hx, hy, if_b1]
  obtain ⟨s, hs, rfl⟩ := ix_T (by omega) hx
  obtain ⟨n, hn, rfl⟩ := ix_T (by omega) hy
  obtain ⟨s1, e1, f1, v1⟩ := surveyC ho h1
  have hC1 := RC_sc f1 h1
  obtain ⟨s2, e2, f2, t2, k2⟩ := fillRedC (s := s) (n := n) ho hC1 v1 hs (by omega)
  have hC2 := RC_rd hC1 f2
  obtain ⟨r1, g1, k1⟩ := upSetR (s := s) ho h2 hs
  have hR1 := RR_sc k1 h2
  have fC : fr scC u.1 s2 := fr_tr f1 (fr_up (fun o k q => rd_sc q) f2)
  rw [e1, bn1_s, e2, bn1_s, allTb ho hC2 t2, moreTb ho hC2 t2, g1]
  simp only [bn1_s, bn2_s]
  rw [allInR ho hR1, listSetR ho hR1 (by omega)]
  simp only [bn1_s]
  rw [moreInR ho hR1, bn1_s]
  by_cases h0 : a3 = 0
  · rw [if_pos h0, if_pos h0]
    exact ⟨_, s2, _, rfl, rfl, ask ho h1 h2 fC k1⟩
  · rw [if_neg h0, if_neg h0]
    exact ⟨_, s2, _, rfl, rfl, ask ho h1 h2 fC k1⟩
theorem h_37 {a1 a2 a3 a4 a5 : Int32} {u : gS × gS} (hu : Inv u) : ∃ t, q37 a1 a2 a3 a4 a5 u = some (.inl t) ∧ Inv t := by
  obtain ⟨A, ho, h1, h2⟩ := hu
  have hpn := ho.2.1.1
  have h60 := ho.2.2.1.1
  have h6 := ho.2.2.2.1.1
  have no : Inv (u.1, u.2) := ⟨A, ho, h1, h2⟩
  unfold q37
  suffices hs : ∃ v s1 s2, pX10_red a1 a2 a3 u.1 = some (v, s1) ∧ pX11_red a1 a2 a3 u.2 = some (v, s2) ∧ Inv (s1, s2) by
    obtain ⟨v, s1, s2, e1, e2, e3⟩ := hs
    refine ⟨(s1, s2), ?_, e3⟩
    rw [e1, bn2_s, e2, bn2_s, if_pos rfl]
  unfold pX10_red pX11_red
  rw [isSgC ho h1, isSgR ho h2, canC ho h1, canR ho h2, inR, in_b]
  simp only [bn1_s]
  by_cases hx : ixB (nSg (aTd A)) a1 = true
  case neg =>
    have hx' : ixB (nSg (aTd A)) a1 = false := by simpa using hx
    simp only [hx', if_b0]
    exact ⟨-1, u.1, u.2, rfl, rfl, no⟩
  by_cases hy : ixB (aFn A + 1) a2 = true
  case neg =>
    have hy' : ixB (aFn A + 1) a2 = false := by simpa using hy
    simp only [hx, hy', if_b0, if_b1]
    exact ⟨-1, u.1, u.2, rfl, rfl, no⟩
  by_cases hz : (0 : Int32) ≤ a3 ∧ a3 ≤ 4
  case neg =>
    simp only [hx, hy, decide_eq_false hz, if_b0, if_b1]
    have n0 : ¬ a3 = 0 := fun q => hz (by rw [q]; decide)
    have n1 : ¬ a3 = 1 := fun q => hz (by rw [q]; decide)
    have n2 : ¬ a3 = 2 := fun q => hz (by rw [q]; decide)
    have n3 : ¬ a3 = 3 := fun q => hz (by rw [q]; decide)
    have n4 : ¬ a3 = 4 := fun q => hz (by rw [q]; decide)
    rw [if_neg n0, if_neg n1, if_neg n2, if_neg n3, if_neg n4]
    exact ⟨-1, u.1, u.2, rfl, rfl, no⟩
  simp only [hx, hy, decide_eq_true hz, if_b1]
  obtain ⟨s, hs, rfl⟩ := ix_T (by omega) hx
  obtain ⟨n, hn, rfl⟩ := ix_T (by omega) hy
  obtain ⟨w, -, hw, rfl⟩ := in_T (a := 0) (c := 4) (by decide) (by decide) hz
  obtain ⟨s1, e1, f1, v1⟩ := surveyC ho h1
  have hC1 := RC_sc f1 h1
  obtain ⟨s2, e2, f2, t2, k2⟩ := fillRedC (s := s) (n := n) ho hC1 v1 hs (by omega)
  have hC2 := RC_rd hC1 f2
  obtain ⟨r1, g1, k1⟩ := upSetR (s := s) ho h2 hs
  obtain ⟨r2, g2, k3⟩ := standsR (s := s) (n := n) ho h2 hs (by omega)
  have fC : fr scC u.1 s2 := fr_tr f1 (fr_up (fun o k q => rd_sc q) f2)
  rw [e1, bn1_s, e2, bn1_s, standsC ho hC2 (by omega) t2 k2, unlikeC ho hC2 (by omega) k2, t2.2.1, t2.2.2.1, t2.2.2.2, listSetR ho h2 (by omega), triesR ho h2 (by omega), g1, g2]
  simp only [bn1_s, bn2_s]
  rw [bN_and (by omega), bitsR hpn, bitsR hpn, bitsR hpn]
  simp only [bn1_s]
  have ec : fb_ct (fun k => onL A n k && uB A s k) (aPn A) = fb_ct (fun k => uB A s k && onL A n k) (aPn A) := fb_ct_cong (fun k _ => Bool.and_comm _ _)
  rw [ec]
  rcases (show w = 0 ∨ w = 1 ∨ w = 2 ∨ w = 3 ∨ w = 4 by omega) with rfl | rfl | rfl | rfl | rfl
  · exact ⟨_, s2, _, rfl, rfl, ask ho h1 h2 fC fr_rf⟩
  · exact ⟨_, s2, _, rfl, rfl, ask ho h1 h2 fC k1⟩
  · exact ⟨_, s2, _, rfl, rfl, ask ho h1 h2 fC k1⟩
  · exact ⟨_, s2, _, rfl, rfl, ask ho h1 h2 fC fr_rf⟩
  · cases stB A s n
    · exact ⟨_, s2, _, rfl, rfl, ask ho h1 h2 fC k3⟩
    · exact ⟨_, s2, _, rfl, rfl, ask ho h1 h2 fC k3⟩
theorem ans_bnS2 {S1 T1 A B V W X : Type} {P : W → X → Prop} {f : S1 → Option (S1 ⊕ (A ⊕ (V × W)))} {g : T1 → Option (T1 ⊕ (B ⊕ (V × X)))} {s : S1} {t : T1} {f' : A → Option (V × W)} {g' : B → Option (V × X)} (h : ∃ r q, lpP f s = some r ∧ lpP g t = some q ∧ ∃ v w x, bnS (some r) f' = some (v, w) ∧ bnS (some q) g' = some (v, x) ∧ P w x) : ∃ v w x, bnS (lpP f s) f' = some (v, w) ∧ bnS (lpP g t) g' = some (v, x) ∧ P w x := by
  obtain ⟨r, q, h1, h2, h3⟩ := h
  rw [h1, h2]; exact h3
theorem h_39 {a1 a2 a3 a4 a5 : Int32} {u : gS × gS} (hu : Inv u) : ∃ t, q39 a1 a2 a3 a4 a5 u = some (.inl t) ∧ Inv t := by
  obtain ⟨A, ho, h1, h2⟩ := hu
  have hpn := ho.2.1.1
  have h60 := ho.2.2.1.1
  have h6 := ho.2.2.2.1.1
  have no : Inv (u.1, u.2) := ⟨A, ho, h1, h2⟩
  unfold q39
  suffices hs : ∃ v s1 s2, pX10_turned a1 a2 u.1 = some (v, s1) ∧ pX11_turned a1 a2 u.2 = some (v, s2) ∧ Inv (s1, s2) by
    obtain ⟨v, s1, s2, e1, e2, e3⟩ := hs
    refine ⟨(s1, s2), ?_, e3⟩
    rw [e1, bn2_s, e2, bn2_s, if_pos rfl]
  unfold pX10_turned pX11_turned
  rw [isSgC ho h1, isSgR ho h2, hasF ho h1, inRR, h2.2.2.1.1, in0 (by omega)]
  simp only [bn1_s]
  by_cases hx : ixB (nSg (aTd A)) a1 = true
  case neg =>
    have hx' : ixB (nSg (aTd A)) a1 = false := by simpa using hx
    simp only [hx', if_b0]
    exact ⟨-1, u.1, u.2, rfl, rfl, no⟩
  by_cases hy : ixB (aFn A) a2 = true
  case neg =>
    have hy' : ixB (aFn A) a2 = false := by simpa using hy
    simp only [hx, hy', if_b0, if_b1]
    exact ⟨-1, u.1, u.2, rfl, rfl, no⟩
  simp only [hx, hy, if_b1]
  obtain ⟨s, hs, rfl⟩ := ix_T (by omega) hx
  obtain ⟨n, hn, rfl⟩ := ix_T (by omega) hy
  obtain ⟨s1, e1, f1, v1⟩ := surveyC ho h1
  have hC1 := RC_sc f1 h1
  obtain ⟨s2, e2, f2, t2, k2⟩ := fillRedC (s := s) (n := n) ho hC1 v1 hs (by omega)
  have hC2 := RC_rd hC1 f2
  rw [e1, bn1_s, e2, bn1_s, standsC ho hC2 (by omega) t2 k2, bn1_s]
  have fin : ∀ σ τ, fr rdF s1 σ → fr scR u.2 τ → Inv (σ, τ) := fun σ τ q1 q2 => ask ho h1 h2 (fr_tr f1 (fr_up (fun o k q => rd_sc q) q1)) q2
  apply ans_bnS2 (P := fun w x => Inv (w, x))
  refine lp_two (fun k (z : Int32 × gS) (y : Int32 × gS) => z.1 = nI (n + k) ∧ y.1 = nI (n + k) ∧ fr rdF s1 z.2 ∧ fr scR u.2 y.2 ∧ stB A s (n + k) = stB A s n) (aFn A - n) ?_ ?_ (k := 0) (by omega) ⟨rfl, rfl, f2, fr_rf, rfl⟩
  · rintro k ⟨z, σ⟩ ⟨y, τ⟩ hk ⟨rfl, rfl, hf, hg, hst⟩
    dsimp only at hf hg hst ⊢
    have hC := RC_rd hC1 hf
    have hR := RR_sc hg h2
    obtain ⟨s3, e3, f3, t3, k3⟩ := fillRedC (s := s) (n := n + k + 1) ho hC (Sv_rd v1 hf) hs (by omega)
    obtain ⟨r1, g1, w1⟩ := standsR (s := s) (n := n + k) ho hR hs (by omega)
    obtain ⟨r2, g2, w2⟩ := standsR (s := s) (n := n + k + 1) ho (RR_sc w1 hR) hs (by omega)
    rw [hC.2.2.1.1, hR.2.2.1.1, if_neg (nI_ge (by omega) (by omega)), if_neg (nI_ge (by omega) (by omega)), nI_1, e3, bn1_s, standsC ho (RC_rd hC f3) (by omega) t3 k3, bn1_s, g1, bn2_s, g2, bn2_s]
    simp only [lt_b]
    rw [hst]
    by_cases hc : stB A s (n + k + 1) = stB A s n
    · rw [hc, if_pos rfl, if_pos rfl]
      exact Or.inl ⟨_, _, rfl, rfl, rfl, rfl, fr_tr hf f3, fr_tr hg (fr_tr w1 w2), hc⟩
    · have hi : ∀ a b : Bool, b01 a = b01 b → a = b := fun a b q => by cases a <;> cases b <;> first | rfl | exact absurd q (by decide)
      rw [if_neg (fun q => hc (hi _ _ q)), if_neg (fun q => hc (hi _ _ q).symm)]
      exact Or.inr ⟨_, _, rfl, rfl, _, _, _, rfl, rfl, fin _ _ (fr_tr hf f3) (fr_tr hg (fr_tr w1 w2))⟩
  · rintro ⟨z, σ⟩ ⟨y, τ⟩ ⟨rfl, rfl, hf, hg, hst⟩
    dsimp only at hf hg hst ⊢
    rw [(RC_rd hC1 hf).2.2.1.1, (RR_sc hg h2).2.2.1.1, if_pos (nI_le (by omega) (by omega)), if_pos (nI_le (by omega) (by omega))]
    exact ⟨_, _, rfl, rfl, _, _, _, rfl, rfl, fin _ _ hf hg⟩
