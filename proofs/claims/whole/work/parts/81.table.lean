/-! sets of people, tables, ways of chance -/
def uB (A : Abs) (s p : Nat) : Bool := upB A p (nI (aPt A p 0)) s
def tB (A : Abs) (s p : Nat) : Bool := upB A p (nI (aPt A p 0)) (6 + s)
theorem bN_t {f : Nat → Bool} {n : Nat} (h : f n = true) : bitsN f (n + 1) = bitsN f n ||| ((1 : Int32) <<< (nI n &&& (31 : Int32))) := by
  show (if f n then _ else _) = _
  rw [h, if_pos rfl]
theorem bN_f {f : Nat → Bool} {n : Nat} (h : f n = false) : bitsN f (n + 1) = bitsN f n := by
  show (if f n then _ else _) = _
  rw [h, if_neg (by decide)]
theorem upSetR {A : Abs} {τ : gS} {s : Nat} (ho : okA A) (h : RR A τ) (hs : s < nSg (aTd A)) : ∃ τ', pX11_upSet (nI s) τ = some (bitsN (uB A s) (aPn A), τ') ∧ fr scR τ τ' := by
  have hn := ho.2.1.1
  unfold pX11_upSet
  suffices hs : ∃ r, lpP (fun (z2 : (Int32 × Int32 × gS)) => if (z2.2.2.1 0 51) ≤ z2.1 then (some (.inr (z2.2.1, z2.2.2)) : Option ((Int32 × Int32 × gS) ⊕ (Int32 × gS))) else gx z2.1 20 (bn2 (pX11_isUp (nI s) z2.1 (z2.2.2.1 35 z2.1.toNatClampNeg) z2.2.2) (fun v3 s4 => if v3 = 0 then lt' (z2.1 + (1 : Int32)) (fun x5 => some (.inl (x5, z2.2.1, s4))) else lt' (z2.2.1 ||| ((1 : Int32) <<< (z2.1 &&& (31 : Int32)))) (fun x6 => lt' (z2.1 + (1 : Int32)) (fun x7 => some (.inl (x7, x6, s4))))))) ((0 : Int32), (0 : Int32), τ) = some r ∧ (r.1 = bitsN (uB A s) (aPn A) ∧ fr scR τ r.2) by
    obtain ⟨⟨v, r⟩, e, q1, q2⟩ := hs
    dsimp only at q1 q2
    subst q1
    exact ⟨r, by rw [e, bn1_s], q2⟩
  refine lp_cnt (fun k (z : Int32 × Int32 × gS) => z.1 = nI k ∧ z.2.1 = bitsN (uB A s) k ∧ fr scR τ z.2.2) (aPn A) ?_ ?_ (k := 0) (by omega) ⟨rfl, rfl, fr_rf⟩
  · rintro p ⟨z, w, υ⟩ hp ⟨rfl, rfl, hf⟩
    dsimp only at hf ⊢
    have hR : RR A υ := RR_sc hf h
    obtain ⟨s1, e1, f1⟩ := isUpR (pl := nI (aPt A p 0)) ho hR hp hs
    have f1' : fr scR υ s1 := fr_up (fun o k q => o334_sc q) f1
    rw [hR.2.1.1, if_neg (nI_ge hp (by omega)), gx_i (by omega) (by decide), nI_clamp (by omega), (hR.2.1.2 p hp).1, e1, bn2_s]
    simp only [lt_b, nI_1]
    cases hb : upB A p (nI (aPt A p 0)) s with
    | false =>
      rw [if_b0]
      exact ⟨_, rfl, rfl, (bN_f (f := uB A s) (n := p) hb).symm, fr_tr hf f1'⟩
    | true =>
      rw [if_b1]
      exact ⟨_, rfl, rfl, (bN_t (f := uB A s) (n := p) hb).symm, fr_tr hf f1'⟩
  · rintro ⟨z, w, υ⟩ ⟨rfl, rfl, hf⟩
    dsimp only at hf ⊢
    rw [(RR_sc hf h).2.1.1, if_pos (nI_le (Nat.le_refl _) (by omega))]
    exact ⟨_, rfl, rfl, hf⟩
theorem trueSetR {A : Abs} {τ : gS} {s : Nat} (ho : okA A) (h : RR A τ) (hs : s < nSy (aTd A)) : ∃ τ', pX11_trueSet (nI s) τ = some (bitsN (tB A s) (aPn A), τ') ∧ fr scR τ τ' := by
  have hn := ho.2.1.1
  unfold pX11_trueSet
  suffices hs : ∃ r, lpP (fun (z2 : (Int32 × Int32 × gS)) => if (z2.2.2.1 0 51) ≤ z2.1 then (some (.inr (z2.2.1, z2.2.2)) : Option ((Int32 × Int32 × gS) ⊕ (Int32 × gS))) else bn2 (pX11_isTrueOf (nI s) z2.1 z2.2.2) (fun v3 s4 => if v3 = 0 then lt' (z2.1 + (1 : Int32)) (fun x5 => some (.inl (x5, z2.2.1, s4))) else lt' (z2.2.1 ||| ((1 : Int32) <<< (z2.1 &&& (31 : Int32)))) (fun x6 => lt' (z2.1 + (1 : Int32)) (fun x7 => some (.inl (x7, x6, s4)))))) ((0 : Int32), (0 : Int32), τ) = some r ∧ (r.1 = bitsN (tB A s) (aPn A) ∧ fr scR τ r.2) by
    obtain ⟨⟨v, r⟩, e, q1, q2⟩ := hs
    dsimp only at q1 q2
    subst q1
    exact ⟨r, by rw [e, bn1_s], q2⟩
  refine lp_cnt (fun k (z : Int32 × Int32 × gS) => z.1 = nI k ∧ z.2.1 = bitsN (tB A s) k ∧ fr scR τ z.2.2) (aPn A) ?_ ?_ (k := 0) (by omega) ⟨rfl, rfl, fr_rf⟩
  · rintro p ⟨z, w, υ⟩ hp ⟨rfl, rfl, hf⟩
    dsimp only at hf ⊢
    have hR : RR A υ := RR_sc hf h
    obtain ⟨s1, e1, f1⟩ := isTrueOfR ho hR hp hs
    have f1' : fr scR υ s1 := fr_up (fun o k q => o334_sc q) f1
    rw [hR.2.1.1, if_neg (nI_ge hp (by omega)), e1, bn2_s]
    simp only [lt_b, nI_1]
    cases hb : upB A p (nI (aPt A p 0)) (6 + s) with
    | false =>
      rw [if_b0]
      exact ⟨_, rfl, rfl, (bN_f (f := tB A s) (n := p) hb).symm, fr_tr hf f1'⟩
    | true =>
      rw [if_b1]
      exact ⟨_, rfl, rfl, (bN_t (f := tB A s) (n := p) hb).symm, fr_tr hf f1'⟩
  · rintro ⟨z, w, υ⟩ ⟨rfl, rfl, hf⟩
    dsimp only at hf ⊢
    rw [(RR_sc hf h).2.1.1, if_pos (nI_le (Nat.le_refl _) (by omega))]
    exact ⟨_, rfl, rfl, hf⟩
theorem bN_and {f g : Nat → Bool} {n : Nat} (hn : n ≤ 32) : bitsN f n &&& bitsN g n = bitsN (fun k => f k && g k) n := by
  apply b_ext
  intro i hi
  rw [b_and, bt_N hn hi, bt_N hn hi, bt_N hn hi]
  cases decide (i < n) <;> simp
theorem sbitZ {f : Nat → Bool} {n s : Nat} (hn : n ≤ 31) (hs : n ≤ s) (hs2 : s < 32) : (bitsN f n >>> (nI s &&& (31 : Int32))) &&& (1 : Int32) = 0 := by
  apply b_ext
  intro i hi
  rw [b_and, b_sshr s (by omega) _ hi, bt_1 i hi, b_0]
  by_cases h0 : i = 0
  · subst h0
    rw [Nat.add_zero, if_pos (by omega), bt_N (by omega) (by omega), decide_eq_false (by omega), Bool.false_and, Bool.false_and]
  · rw [decide_eq_false h0, Bool.and_false]
theorem ct_sm (f : Nat → Bool) : ∀ n, fb_ct f n = fb_sm (fun k => if f k then 1 else 0) n
  | 0 => rfl
  | n + 1 => by rw [fb_ct_succ, fb_sm_succ, ct_sm f n]
theorem bitsR {f : Nat → Bool} {n : Nat} (hn : n ≤ 20) : pX11_bits (bitsN f n) = some (nI (fb_ct f n)) := by
  unfold pX11_bits
  apply lp_bn1
  refine ⟨_, lp_sum (fun k => if k < n then (if f k then 1 else 0) else 0) 20 0 (fun k a hk => ?_) (fun a => ?_), ?_⟩
  · dsimp only
    rw [if_neg (show ¬ (20 : Int32) ≤ nI k from nI_ge (b := 20) hk (by decide)), lt_b, lt_b, nI_1]
    by_cases hc : k < n
    · rw [sbitN (by omega) hc, if_pos hc]
      cases f k <;> rfl
    · rw [sbitZ (by omega) (by omega) (by omega), if_neg hc]
      rfl
  · dsimp only
    rw [if_pos (show (20 : Int32) ≤ nI 20 by decide)]
  · rw [Int32.zero_add, sm_to hn (fun i hi => if_neg (by omega)), ct_sm]
    congr 2
    exact fb_sm_cong (fun k hk => if_pos hk)
/-- what a TABLE holds -/
def Tb (n u t b : Nat) (σ : gS) : Prop := σ.1 50 0 = nI n ∧ σ.1 50 1 = nI u ∧ σ.1 50 2 = nI t ∧ σ.1 50 3 = nI b
theorem clearC {σ : gS} : ∃ σ', pX5_clear σ = some σ' ∧ fr (onO 50) σ σ' ∧ Tb 0 0 0 0 σ' := by
  unfold pX5_clear
  simp only [lt_b]
  refine ⟨_, rfl, fr_tr (fr_tr (fr_tr (fr_wI rfl) (fr_wI rfl)) (fr_wI rfl)) (fr_wI rfl), ?_, ?_, ?_, ?_⟩ <;> simp only [wI_1] <;> rfl
theorem b_1a {a b : Bool} : b01 a &&& b01 b = b01 (a && b) := by cases a <;> cases b <;> rfl
def bN (b : Bool) : Nat := if b then 1 else 0
theorem nI_b {n : Nat} {b : Bool} : nI n + b01 b = nI (n + bN b) := by
  cases b with
  | false => exact aI_0 (nI n)
  | true => exact nI_1 n
theorem addOneC {σ : gS} {n u t b : Nat} {x y : Bool} (h : Tb n u t b σ) : ∃ σ', pX5_addOne (b01 x) (b01 y) σ = some σ' ∧ fr (onO 50) σ σ' ∧ Tb (n + 1) (u + bN x) (t + bN y) (b + bN (x && y)) σ' := by
  obtain ⟨h0, h1, h2, h3⟩ := h
  unfold pX5_addOne
  simp only [lt_b]
  refine ⟨_, rfl, fr_tr (fr_tr (fr_tr (fr_wI rfl) (fr_wI rfl)) (fr_wI rfl)) (fr_wI rfl), ?_, ?_, ?_, ?_⟩
  · simp [wI_1, h0, nI_1]
  · simp [wI_1, h1, nI_b]
  · simp [wI_1, h2, nI_b]
  · simp [wI_1, h3, b_1a, nI_b]
theorem ct_s {f : Nat → Bool} {n : Nat} : fb_ct f (n + 1) = fb_ct f n + bN (f n) := rfl
theorem o50_sc {o k : Nat} (h : scC o k = false) : onO 50 o k = false := by
  simp only [scC, onO, Bool.or_eq_false_iff] at h ⊢
  exact h.2
theorem Sv_fr {A : Abs} {P : Nat → Nat → Bool} {σ τ : gS} (h : Sv A σ) (hf : fr P σ τ) (h1 : ∀ k, P 36 k = false) (h2 : ∀ k, P 37 k = false) : Sv A τ := fun p hp => ⟨(fr_1 hf (h1 p)).trans (h p hp).1, (fr_1 hf (h2 p)).trans (h p hp).2⟩
theorem UPbit {A : Abs} {s p : Nat} (ho : okA A) (hs : s < nSg (aTd A)) : pX10_bitOf (UP A p) (nI s) = some (b01 (uB A s p)) := bitOfN (by have := ho.2.2.2.1.1; omega) hs
theorem TRbit {A : Abs} {s p : Nat} (ho : okA A) (hs : s < nSy (aTd A)) : pX10_bitOf (TR A p) (nI s) = some (b01 (tB A s p)) := bitOfN (f := fun k => upB A p (nI (aPt A p 0)) (6 + k)) (by have := ho.2.2.2.1.2.1; omega) hs
/-- the first k of the PEOPLE counted -/
def TbF (f g : Nat → Bool) (k : Nat) (σ : gS) : Prop := Tb k (fb_ct f k) (fb_ct g k) (fb_ct (fun p => f p && g p) k) σ
theorem fillC {A : Abs} {σ : gS} {s k : Nat} (ho : okA A) (h : RC A σ) (hv : Sv A σ) (hs : s < nSg (aTd A)) (hk : k < nSy (aTd A)) : ∃ σ', pX4_fillTable (nI s) (nI k) σ = some σ' ∧ fr (onO 50) σ σ' ∧ TbF (uB A s) (tB A k) (aPn A) σ' := by
  have hn := ho.2.1.1
  unfold pX4_fillTable
  obtain ⟨s0, e0, f0, t0⟩ := clearC (σ := σ)
  rw [e0, bn1_s]
  suffices hs : ∃ r, lpP (fun (z4 : (Int32 × gS)) => if (z4.2.1 21 1) ≤ z4.1 then (some (.inr z4.2) : Option ((Int32 × gS) ⊕ gS)) else gx z4.1 20 (bn1 (pX10_bitOf (z4.2.1 36 z4.1.toNatClampNeg) (nI s)) (fun v5 => gx z4.1 20 (bn1 (pX10_bitOf (z4.2.1 37 z4.1.toNatClampNeg) (nI k)) (fun v7 => bn1 (pX5_addOne v5 v7 z4.2) (fun s10 => lt' (z4.1 + (1 : Int32)) (fun x11 => some (.inl (x11, s10))))))))) ((0 : Int32), s0) = some r ∧ (fr (onO 50) σ r ∧ TbF (uB A s) (tB A k) (aPn A) r) by
    obtain ⟨r, e, q⟩ := hs
    exact ⟨r, by rw [e, bn1_s], q⟩
  refine lp_cnt (fun j (z : Int32 × gS) => z.1 = nI j ∧ fr (onO 50) σ z.2 ∧ TbF (uB A s) (tB A k) j z.2) (aPn A) ?_ ?_ (k := 0) (by omega) ⟨rfl, f0, t0⟩
  · rintro p ⟨z, τ⟩ hp ⟨rfl, hf, ht⟩
    dsimp only at hf ht ⊢
    have hC := RC_sc (fr_up (fun o k q => o50_sc q) hf) h
    have hS := Sv_fr hv hf (fun _ => rfl) (fun _ => rfl)
    obtain ⟨s1, e1, f1, t1⟩ := addOneC (x := uB A s p) (y := tB A k p) ht
    rw [hC.2.1.1, if_neg (nI_ge hp (by omega)), gx_i (by omega) (by decide), nI_clamp (by omega), (hS p hp).1, (hS p hp).2, UPbit ho hs, bn1_s, gx_i (by omega) (by decide), TRbit ho hk, bn1_s, e1, bn1_s, lt_b, nI_1]
    exact ⟨_, rfl, rfl, fr_tr hf f1, t1⟩
  · rintro ⟨z, τ⟩ ⟨rfl, hf, ht⟩
    dsimp only at hf ht ⊢
    rw [(RC_sc (fr_up (fun o k q => o50_sc q) hf) h).2.1.1, if_pos (nI_le (Nat.le_refl _) (by omega))]
    exact ⟨_, rfl, hf, ht⟩
theorem h_24 {a1 a2 a3 a4 a5 : Int32} {u : gS × gS} (hu : Inv u) : ∃ t, q24 a1 a2 a3 a4 a5 u = some (.inl t) ∧ Inv t := by
  obtain ⟨A, ho, h1, h2⟩ := hu
  have hn := ho.2.1.1
  have h6 := ho.2.2.2.1.1
  have h16 := ho.2.2.2.1.2.1
  have no : Inv (u.1, u.2) := ⟨A, ho, h1, h2⟩
  unfold q24
  suffices hs : ∃ v s1 s2, pX10_table a1 a2 a3 u.1 = some (v, s1) ∧ pX11_table a1 a2 a3 u.2 = some (v, s2) ∧ Inv (s1, s2) by
    obtain ⟨v, s1, s2, e1, e2, e3⟩ := hs
    refine ⟨(s1, s2), ?_, e3⟩
    rw [e1, bn2_s, e2, bn2_s, if_pos rfl]
  unfold pX10_table pX11_table
  rw [isSgC ho h1, isSgR ho h2, isSyC ho h1, isSyR ho h2, inR, inRR, in_b]
  simp only [bn1_s]
  by_cases hx : ixB (nSg (aTd A)) a1 = true
  case neg =>
    have hx' : ixB (nSg (aTd A)) a1 = false := by simpa using hx
    simp only [hx', if_b0]
    exact ⟨-1, u.1, u.2, rfl, rfl, no⟩
  by_cases hy : ixB (nSy (aTd A)) a2 = true
  case neg =>
    have hy' : ixB (nSy (aTd A)) a2 = false := by simpa using hy
    simp only [hx, hy', if_b0, if_b1]
    exact ⟨-1, u.1, u.2, rfl, rfl, no⟩
  by_cases hz : (0 : Int32) ≤ a3 ∧ a3 ≤ 3
  case neg =>
    simp only [hx, hy, decide_eq_false hz, if_b0, if_b1]
    exact ⟨-1, u.1, u.2, rfl, rfl, no⟩
  simp only [hx, hy, decide_eq_true hz, if_b1]
  obtain ⟨s, hs, rfl⟩ := ix_T (by omega) hx
  obtain ⟨k, hk, rfl⟩ := ix_T (by omega) hy
  obtain ⟨w, -, hw, rfl⟩ := in_T (a := 0) (c := 3) (by decide) (by decide) hz
  obtain ⟨s1, e1, f1, v1⟩ := surveyC ho h1
  obtain ⟨s2, e2, f2, t2⟩ := fillC (s := s) (k := k) ho (RC_sc f1 h1) v1 hs hk
  obtain ⟨r1, g1, k1⟩ := upSetR (s := s) ho h2 hs
  obtain ⟨r2, g2, k2⟩ := trueSetR (s := k) ho h2 hk
  obtain ⟨r3, g3, k3⟩ := trueSetR (s := k) ho (RR_sc k1 h2) hk
  have fC : fr scC u.1 s2 := fr_tr f1 (fr_up (fun o k q => o50_sc q) f2)
  obtain ⟨b0, b1, b2, b3⟩ := t2
  unfold pX5_part
  rw [e1, bn1_s, e2, bn1_s, b0, b1, b2, b3, g1, g2, bn2_s, bn2_s, bn2_s, g3, bn2_s, bN_and (by omega), bitsR hn, bitsR hn, bitsR hn, h2.2.1.1]
  simp only [bn1_s]
  rcases (show w = 0 ∨ w = 1 ∨ w = 2 ∨ w = 3 by omega) with rfl | rfl | rfl | rfl
  · exact ⟨_, s2, _, rfl, rfl, ask ho h1 h2 fC fr_rf⟩
  · exact ⟨_, s2, _, rfl, rfl, ask ho h1 h2 fC k1⟩
  · exact ⟨_, s2, _, rfl, rfl, ask ho h1 h2 fC k2⟩
  · exact ⟨_, s2, _, rfl, rfl, ask ho h1 h2 fC (fr_tr k1 k3)⟩
