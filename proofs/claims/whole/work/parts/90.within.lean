/-! within -/
def cl (A : Abs) (b p : Nat) : Nat := if b = 0 then aPt A p 1 / 3 else if b = 1 then aPt A p 2 else aPt A p 3
theorem cl_lt {A : Abs} {b p : Nat} (ho : okA A) (hp : p < aPn A) : cl A b p < 10 := by
  obtain ⟨h0, h1, h2, h3, h4⟩ := ho.2.1.2 p hp
  unfold cl
  split
  · omega
  · split <;> omega
theorem clsC {A : Abs} {σ : gS} {b p : Nat} (ho : okA A) (h : RC A σ) (hp : p < aPn A) (hb : b ≤ 2) : pX2_classOf (nI p) (nI b) σ = some (nI (cl A b p)) := by
  obtain ⟨h0, h1, h2, h3, h4⟩ := ho.2.1.2 p hp
  have t1 := traitC (j := 1) ho h hp (by decide)
  have t2 := traitC (j := 2) ho h hp (by decide)
  have t3 := traitC (j := 3) ho h hp (by decide)
  simp only [show nI 1 = 1 from rfl] at t1
  simp only [show nI 2 = 2 from rfl] at t2
  simp only [show nI 3 = 3 from rfl] at t3
  unfold pX2_classOf cl
  rw [t1, t2, t3, bn1_s, bn1_s, bn1_s, g0_p (by decide)]
  rcases (show b = 0 ∨ b = 1 ∨ b = 2 by omega) with rfl | rfl | rfl
  · rw [if_pos (show nI 0 = 0 from rfl), if_pos rfl, show (3 : Int32) = nI 3 from rfl, pk_div (by omega) (by decide) (by decide)]
  · rfl
  · rfl
theorem clsR {A : Abs} {τ : gS} {b p : Nat} (ho : okA A) (h : RR A τ) (hp : p < aPn A) (hb : b ≤ 2) : pX11_classOf (nI p) (nI b) τ = some (nI (cl A b p)) := by
  have hn := ho.2.1.1
  obtain ⟨h0, h1, h2, h3, h4⟩ := ho.2.1.2 p hp
  obtain ⟨g0, g1, g2, g3, g4⟩ := h.2.1.2 p hp
  unfold pX11_classOf cl
  simp only [gx_i (show p < 20 by omega) (show 20 < 2 ^ 31 by decide), nI_clamp (show p < 2 ^ 31 by omega)]
  rw [g1, g2, g3, g0_p (by decide)]
  rcases (show b = 0 ∨ b = 1 ∨ b = 2 by omega) with rfl | rfl | rfl
  · rw [if_pos (show nI 0 = 0 from rfl), if_pos rfl, show (3 : Int32) = nI 3 from rfl, pk_div (by omega) (by decide) (by decide)]
  · rfl
  · rfl
theorem sm_up {f : Nat → Nat} {n : Nat} : ∀ {N : Nat}, n ≤ N → (∀ i, n ≤ i → i < N → f i = 0) → fb_sm f N = fb_sm f n
  | 0, h, _ => by rw [show n = 0 by omega]
  | N + 1, h, hz => by
    by_cases hc : n = N + 1
    · rw [hc]
    · rw [fb_sm_succ, hz N (by omega) (by omega), Nat.add_zero]
      exact sm_up (by omega) (fun i h1 h2 => hz i h1 (by omega))
theorem lp_thenI {S T S2 R : Type} {f : S → Option (S ⊕ T)} {s : S} {g : T → Option (S2 ⊕ R)} {Q : S2 → Prop} (P : T → Prop) (h1 : ∃ r, lpP f s = some r ∧ P r) (h2 : ∀ r, P r → ∃ v, g r = some (.inl v) ∧ Q v) : ∃ v, bn1 (lpP f s) g = some (.inl v) ∧ Q v := by
  obtain ⟨r, e, h⟩ := h1
  rw [e]
  exact h2 r h
def Cc (A : Abs) (b c p : Nat) : Bool := decide (cl A b p = c)
/-- the TABLE of a class -/
def TbG (C f g : Nat → Bool) (k : Nat) (σ : gS) : Prop := Tb (fb_ct C k) (fb_ct (fun p => C p && f p) k) (fb_ct (fun p => C p && g p) k) (fb_ct (fun p => C p && (f p && g p)) k) σ
theorem fillGC {A : Abs} {σ : gS} {s k b c : Nat} (ho : okA A) (h : RC A σ) (hv : Sv A σ) (hs : s < nSg (aTd A)) (hk : k < nSy (aTd A)) (hb : b ≤ 2) (hc : c < 10) : ∃ σ', pX4_fillClassTable (nI s) (nI k) (nI b) (nI c) σ = some σ' ∧ fr (onO 50) σ σ' ∧ TbG (Cc A b c) (uB A s) (tB A k) (aPn A) σ' := by
  have hn := ho.2.1.1
  unfold pX4_fillClassTable
  obtain ⟨s0, e0, f0, t0⟩ := clearC (σ := σ)
  rw [e0, bn1_s]
  refine lp_then (fun r => fr (onO 50) σ r ∧ TbG (Cc A b c) (uB A s) (tB A k) (aPn A) r) ?_ (fun r hr => ⟨_, rfl, hr⟩)
  refine lp_cnt (fun j (z : Int32 × gS) => z.1 = nI j ∧ fr (onO 50) σ z.2 ∧ TbG (Cc A b c) (uB A s) (tB A k) j z.2) (aPn A) ?_ ?_ (k := 0) (by omega) ⟨rfl, f0, t0⟩
  · rintro p ⟨z, τ⟩ hp ⟨rfl, hf, ht⟩
    dsimp only at hf ht ⊢
    have hC := RC_50 h hf
    have hS := Sv_fr hv hf (fun _ => rfl) (fun _ => rfl)
    have hcl := cl_lt (b := b) ho hp
    rw [hC.2.1.1, if_neg (nI_ge hp (by omega)), clsC ho hC hp hb, bn1_s]
    by_cases hq : cl A b p = c
    · have hCc : Cc A b c p = true := decide_eq_true hq
      obtain ⟨s1, e1, f1, t1⟩ := addOneC (x := uB A s p) (y := tB A k p) ht
      rw [if_pos (show nI (cl A b p) = nI c by rw [hq]), gx_i (by omega) (by decide), nI_clamp (by omega), (hS p hp).1, (hS p hp).2, UPbit ho hs, bn1_s, gx_i (by omega) (by decide), TRbit ho hk, bn1_s, e1, bn1_s, lt_b, nI_1]
      refine ⟨_, rfl, rfl, fr_tr hf f1, ?_⟩
      show Tb _ _ _ _ s1
      rw [ct_s, ct_s, ct_s, ct_s, hCc, Bool.true_and, Bool.true_and, Bool.true_and]
      exact t1
    · have hCc : Cc A b c p = false := decide_eq_false hq
      rw [if_neg (fun z => hq ((nI_eq (by omega) (by omega)).mp z)), lt_b, nI_1]
      refine ⟨_, rfl, rfl, hf, ?_⟩
      show Tb _ _ _ _ τ
      rw [ct_s, ct_s, ct_s, ct_s, hCc, Bool.false_and, Bool.false_and, Bool.false_and]
      exact ht
  · rintro ⟨z, τ⟩ ⟨rfl, hf, ht⟩
    dsimp only at hf ht ⊢
    rw [(RC_50 h hf).2.1.1, if_pos (nI_le (Nat.le_refl _) (by omega))]
    exact ⟨_, rfl, hf, ht⟩
/-- ways of just j, and two rows joined -/
def gj (n u t j : Nat) : Nat := if j ≤ u then pc t j * pc (n - t) (u - j) else 0
def cv (R g : Nat → Nat) (m : Nat) : Nat := fb_sm (fun j => R (m - j) * g j) (m + 1)
def row (o : Nat) (R : Nat → Nat) (σ : gS) : Prop := ∀ m, m < 21 → σ.2.1 o m = lN (R m)
def R0 (k : Nat) : Nat := if k = 0 then 1 else 0
def o89 (o _k : Nat) : Bool := o == 48 || o == 49
theorem start21 {σ : gS} : ∃ σ', pX0_startSpread σ = some σ' ∧ fr o89 σ σ' ∧ row 48 R0 σ' := by
  unfold pX0_startSpread pX0_startRow
  suffices hs : ∃ r, bn1 (lpP _ ((0 : Int32), σ)) (fun (z1 : gS) => some z1) = some r ∧ (fr o89 σ r ∧ row 48 R0 r) by
    obtain ⟨r, e, h⟩ := hs
    exact ⟨r, by rw [e, bn1_s], h⟩
  refine lp_then (fun r => fr o89 σ r ∧ row 48 R0 r) ?_ (fun r hr => ⟨r, rfl, hr⟩)
  refine lp_cnt (fun k (z : Int32 × gS) => z.1 = nI k ∧ fr o89 σ z.2 ∧ ∀ i, i < k → z.2.2.1 48 i = lN (R0 i)) 21 ?_ ?_ (k := 0) (by omega) ⟨rfl, fr_rf, fun i hi => absurd hi (Nat.not_lt_zero i)⟩
  · rintro k ⟨z, τ⟩ hk ⟨rfl, hf, hv⟩
    dsimp only at hf hv ⊢
    have fin : ∀ v : Int64, v = lN (R0 k) → fr o89 σ (wL τ 48 k v) ∧ ∀ i, i < k + 1 → (wL τ 48 k v).2.1 48 i = lN (R0 i) := by
      intro v hv2
      refine ⟨fr_tr hf (fr_wL rfl), fun i hi => ?_⟩
      rw [wL_2]
      by_cases hc : i = k
      · subst hc; rw [if_pos ⟨rfl, rfl⟩, hv2]
      · rw [if_neg (fun q => hc q.2)]; exact hv i (by omega)
    rw [show Int32.ofNat 21 = nI 21 from rfl, if_neg (show ¬ nI 21 ≤ nI k from nI_ge hk (by omega)), gx_i (by omega) (by decide), gx_i (by omega) (by decide)]
    simp only [lt_b, nI_1, nI_clamp (show k < 2 ^ 31 by omega)]
    by_cases h0 : k = 0
    · subst h0
      rw [if_pos (show nI 0 = 0 from rfl)]
      exact ⟨_, rfl, rfl, fin 1 rfl⟩
    · rw [if_neg (show ¬ nI k = 0 from fun q => h0 ((nI_eq (b := 0) (by omega) (by decide)).mp q))]
      exact ⟨_, rfl, rfl, fin 0 (by unfold R0; rw [if_neg h0]; rfl)⟩
  · rintro ⟨z, τ⟩ ⟨rfl, hf, hv⟩
    dsimp only at hf hv ⊢
    rw [show Int32.ofNat 21 = nI 21 from rfl, if_pos (show nI 21 ≤ nI 21 from nI_le (Nat.le_refl _) (by decide))]
    exact ⟨_, rfl, hf, hv⟩
theorem o89_sc {o k : Nat} (h : scC o k = false) : o89 o k = false := by
  simp only [scC, o89, Bool.or_eq_false_iff] at h ⊢
  exact ⟨h.1.1.2, h.1.2⟩
theorem RC_89 {A : Abs} {σ τ : gS} (h : RC A σ) (hf : fr o89 σ τ) : RC A τ := RC_sc (fr_up (fun o k q => o89_sc q) hf) h
theorem widenC {A : Abs} {σ : gS} {n u t b : Nat} {R : Nat → Nat} (h : RC A σ) (hT : Tb n u t b σ) (hn : n ≤ 20) (ht : t ≤ n) (hu : u ≤ 20) (hR : row 48 R σ) : ∃ σ', pX0_widenSpread σ = some σ' ∧ fr o89 σ σ' ∧ row 48 (cv R (gj n u t)) σ' := by
  have o49 : ∀ {σ τ : gS}, fr (onO 49) σ τ → fr o89 σ τ := fun q => fr_up (fun o k z => by simp only [o89, onO, Bool.or_eq_false_iff] at *; exact z.2) q
  unfold pX0_widenSpread
  refine lp_then (fun r => fr (onO 49) σ r ∧ row 49 (cv R (gj n u t)) r) ?_ (fun r hr => ?_)
  · refine lp_cnt (fun m (z : Int32 × gS) => z.1 = nI m ∧ fr (onO 49) σ z.2 ∧ ∀ i, i < m → z.2.2.1 49 i = lN (cv R (gj n u t) i)) 21 ?_ ?_ (k := 0) (by omega) ⟨rfl, fr_rf, fun i hi => absurd hi (Nat.not_lt_zero i)⟩
    · rintro m ⟨z, τ⟩ hm ⟨rfl, hf, hv⟩
      dsimp only at hf hv ⊢
      rw [if_neg (show ¬ (21 : Int32) ≤ nI m from nI_ge (b := 21) hm (by decide)), gx_i hm (by decide), lt_b, nI_clamp (by omega)]
      refine lp_thenI (fun r => fr (onO 49) σ r ∧ (∀ i, i < m → r.2.1 49 i = lN (cv R (gj n u t) i)) ∧ r.2.1 49 m = lN (cv R (gj n u t) m)) ?_ (fun r hr => ?_)
      · have e1 : cv R (gj n u t) m = fb_sm (fun j => R (m - j) * gj n u t j) (min u m + 1) := by
          unfold cv
          exact sm_up (by omega) (fun i h1 h2 => by unfold gj; rw [if_neg (by omega), Nat.mul_zero])
        rw [e1]
        refine lp_cnt (fun j (z : Int32 × gS) => z.1 = nI j ∧ fr (onO 49) σ z.2 ∧ (∀ i, i < m → z.2.2.1 49 i = lN (cv R (gj n u t) i)) ∧ z.2.2.1 49 m = lN (fb_sm (fun j => R (m - j) * gj n u t j) j)) (min u m + 1) ?_ ?_ (k := 0) (by omega) ⟨rfl, fr_tr hf (fr_wL rfl), fun i hi => ?_, wL_s⟩
        · rintro j ⟨z, υ⟩ hj ⟨rfl, hg, hw, hx⟩
          dsimp only at hg hw hx ⊢
          have q89 := o49 hg
          have hC := RC_89 h q89
          have hTu : Tb n u t b υ := ⟨(fr_1 hg rfl).trans hT.1, (fr_1 hg rfl).trans hT.2.1, (fr_1 hg rfl).trans hT.2.2.1, (fr_1 hg rfl).trans hT.2.2.2⟩
          have h48 : υ.2.1 48 (m - j) = lN (R (m - j)) := (fr_2 hg rfl).trans (hR (m - j) (by omega))
          rw [hTu.2.1, if_neg (nI_nlt (by omega) (by omega)), if_neg (nI_nlt (by omega) (by omega)), gx_i hm (by decide), nI_subS (by omega), gx_i (by omega) (by decide), tJustC hC hTu hn ht (by omega) (by omega), bn1_s, gx_i hm (by decide), lt_b, lt_b, nI_1, nI_clamp (by omega), hx, h48, lN_mul, lN_add]
          refine ⟨_, rfl, rfl, fr_tr hg (fr_wL rfl), fun i hi => ?_, ?_⟩
          · show (wL υ 49 m _).2.1 49 i = _
            rw [wL_2, if_neg (by omega)]; exact hw i hi
          · show (wL υ 49 m _).2.1 49 m = _
            rw [wL_s, fb_sm_succ]
            unfold gj
            rw [if_pos (show j ≤ u by omega)]
        · rintro ⟨z, υ⟩ ⟨rfl, hg, hw, hx⟩
          dsimp only at hg hw hx ⊢
          have h501 : υ.1 50 1 = nI u := (fr_1 hg rfl).trans hT.2.1
          rw [h501]
          by_cases hc : u ≤ m
          · rw [if_pos (nI_lt (by omega) (by omega))]
            exact ⟨_, rfl, hg, hw, hx⟩
          · rw [if_neg (nI_nlt (by omega) (by omega)), if_pos (nI_lt (by omega) (by omega))]
            exact ⟨_, rfl, hg, hw, hx⟩
        · show (wL τ 49 m _).2.1 49 i = _
          rw [wL_2, if_neg (by omega)]; exact hv i hi
      · obtain ⟨h1, h2, h3⟩ := hr
        refine ⟨_, rfl, nI_1 m, h1, fun i hi => ?_⟩
        by_cases hc : i = m
        · rw [hc]; exact h3
        · exact h2 i (by omega)
    · rintro ⟨z, τ⟩ ⟨rfl, hf, hv⟩
      dsimp only at hf hv ⊢
      rw [if_pos (show (21 : Int32) ≤ nI 21 by decide)]
      exact ⟨_, rfl, hf, hv⟩
  · obtain ⟨hf, hv⟩ := hr
    unfold cpL
    rw [if_pos (by decide)]
    refine ⟨_, rfl, fr_tr (o49 hf) (fun o k hq => ⟨rfl, ?_, rfl⟩), fun m hm => ?_⟩
    · have : o ≠ 48 := fun z => by subst z; cases hq
      dsimp only
      rw [if_neg this]
    · show (if 48 = 48 then va_cpy (r.2.1 49) (r.2.1 48) (0 : Int32).toNatClampNeg (0 : Int32).toNatClampNeg (21 : Int32).toNatClampNeg else r.2.1 48) m = _
      rw [if_pos rfl]
      show va_cpy (r.2.1 49) (r.2.1 48) 0 0 21 m = _
      rw [pk_cpy_in (Nat.zero_le _) (show m < 0 + 21 by omega), Nat.sub_zero, Nat.zero_add]
      exact hv m hm

theorem sm_one (f : Nat → Nat) (n : Nat) : fb_sm f (n + 1) = f 0 + fb_sm (fun k => f (k + 1)) n := by
  rw [Nat.add_comm n 1, fb_sm_split]
  have e : fb_sm f 1 = f 0 := Nat.zero_add _
  rw [e]
  congr 1
  exact fb_sm_cong (fun k _ => by rw [Nat.add_comm])
theorem sm_rev (f : Nat → Nat) : ∀ n, fb_sm (fun j => f (n - j)) (n + 1) = fb_sm f (n + 1)
  | 0 => rfl
  | n + 1 => by
    rw [sm_one (fun j => f (n + 1 - j)) (n + 1), fb_sm_succ f (n + 1), ← sm_rev f n, Nat.add_comm]
    congr 1
    exact fb_sm_cong (fun k _ => by rw [show n + 1 - (k + 1) = n - k by omega])
/-- what the reference has added to place m when the first K places are through -/
def cw (R g : Nat → Nat) (K m : Nat) : Nat := fb_sm (fun k => if k ≤ m then R k * g (m - k) else 0) K
def cz (R g : Nat → Nat) (K j m : Nat) : Nat := cw R g K m + (if K ≤ m ∧ m < K + j then R K * g (m - K) else 0)
theorem cw_21 {R g : Nat → Nat} {m : Nat} (hm : m < 21) : cw R g 21 m = cv R g m := by
  unfold cw cv
  rw [sm_up (n := m + 1) (N := 21) (by omega) (fun i h1 _ => if_neg (by omega)), ← sm_rev (fun j => if j ≤ m then R j * g (m - j) else 0) m]
  exact fb_sm_cong (fun k hk => by rw [if_pos (show m - k ≤ m by omega), show m - (m - k) = k by omega])
theorem gj_R {n u t j : Nat} (hn : n ≤ 20) (ht : t ≤ n) (hu : u ≤ 20) (hj : j ≤ 30) : ∃ v, pX11_picks (nI t) (nI j) = some (lN (pc t j)) ∧ pX11_picks (nI n - nI t) (nI u - nI j) = some v ∧ lN (pc t j) * v = lN (gj n u t j) := by
  rw [nI_subS ht]
  unfold gj
  by_cases hc : j ≤ u
  · exact ⟨_, picksR (by omega) (by omega), by rw [nI_subS hc, picksR (by omega) (by omega)], by rw [if_pos hc, lN_mul]⟩
  · exact ⟨0, picksR (by omega) (by omega), picksN (pk_sneg (by omega) (by omega)), by rw [if_neg hc, Int64.mul_zero]; rfl⟩
def o412 (o _k : Nat) : Bool := o == 41 || o == 42
theorem o412_sc {o k : Nat} (h : scR o k = false) : o412 o k = false := by
  simp only [scR, o412, Bool.or_eq_false_iff] at h ⊢
  exact ⟨h.1.2, h.2⟩
theorem RR_412 {A : Abs} {σ τ : gS} (h : RR A σ) (hf : fr o412 σ τ) : RR A τ := RR_sc (fr_up (fun o k q => o412_sc q) hf) h
theorem lp_thenB {S T S2 T2 R : Type} {f : S → Option (S ⊕ T)} {s : S} {g : T → Option (S2 ⊕ R)} {Q : Option (S2 ⊕ R) → Prop} (P : T → Prop) (h1 : ∃ r, lpP f s = some r ∧ P r) (h2 : ∀ r, P r → Q (g r)) : Q (bn1 (lpP f s) g) := by
  obtain ⟨r, e, h⟩ := h1
  rw [e]
  exact h2 r h
theorem ex_3 {V W X : Type} {v : V} {w : W} {y : Option (V × X)} {P : W → X → Prop} (Q : X → Prop) (hq : ∀ x, Q x → P w x) (h : ∃ q, y = some q ∧ (q.1 = v ∧ Q q.2)) : ∃ v' s1 s2, some (v, w) = some (v', s1) ∧ y = some (v', s2) ∧ P s1 s2 := by
  obtain ⟨⟨a, x⟩, h1, h2, h3⟩ := h
  dsimp only at h2 h3
  subst h2
  exact ⟨_, _, _, rfl, h1, hq x h3⟩
theorem h_26 {a1 a2 a3 a4 a5 : Int32} {u : gS × gS} (hu : Inv u) : ∃ t, q26 a1 a2 a3 a4 a5 u = some (.inl t) ∧ Inv t := by
  obtain ⟨A, ho, h1, h2⟩ := hu
  have hpn := ho.2.1.1
  have h6 := ho.2.2.2.1.1
  have h16 := ho.2.2.2.1.2.1
  have no : Inv (u.1, u.2) := ⟨A, ho, h1, h2⟩
  unfold q26
  generalize bz a4 = a4
  suffices hs : ∃ v s1 s2, pX10_within a1 a2 a3 a4 u.1 = some (v, s1) ∧ pX11_within a1 a2 a3 a4 u.2 = some (v, s2) ∧ Inv (s1, s2) by
    obtain ⟨v, s1, s2, e1, e2, e3⟩ := hs
    refine ⟨(s1, s2), ?_, e3⟩
    rw [e1, bn2_s, e2, bn2_s, if_pos lc_rf]
  unfold pX10_within pX11_within
  rw [isSgC ho h1, isSgR ho h2, isSyC ho h1, isSyR ho h2, inR, inRR, in_b]
  simp only [bn1_s]
  by_cases hx : ixB (nSg (aTd A)) a1 = true
  case neg =>
    have hx' : ixB (nSg (aTd A)) a1 = false := by simpa using hx
    simp only [hx', if_b0]
    exact ⟨-1, u.1, u.2, rfl, rfl, no⟩
  by_cases hy : ixB (nSy (aTd A)) a2 = true
  case neg =>
    have hy' : ixB (nSy (aTd A)) a2 = false := by simpa using hy
    simp only [hx, hy', if_b0, if_b1]
    exact ⟨-1, u.1, u.2, rfl, rfl, no⟩
  by_cases hz : (0 : Int32) ≤ a3 ∧ a3 ≤ 2
  case neg =>
    simp only [hx, hy, decide_eq_false hz, if_b0, if_b1]
    exact ⟨-1, u.1, u.2, rfl, rfl, no⟩
  simp only [hx, hy, decide_eq_true hz, if_b1]
  obtain ⟨s, hs, rfl⟩ := ix_T (by omega) hx
  obtain ⟨k, hk, rfl⟩ := ix_T (by omega) hy
  obtain ⟨b, -, hb, rfl⟩ := in_T (a := 0) (c := 2) (by decide) (by decide) hz
  obtain ⟨s1, e1, f1, v1⟩ := surveyC ho h1
  have hC1 := RC_sc f1 h1
  obtain ⟨s2, e2, f2, t2⟩ := fillC (s := s) (k := k) ho hC1 v1 hs hk
  obtain ⟨s3, e3, f3, w3⟩ := start21 (σ := s2)
  obtain ⟨r1, g1, k1⟩ := upSetR (s := s) ho h2 hs
  have hR1 := RR_sc k1 h2
  obtain ⟨r2, g2, k2⟩ := trueSetR (s := k) ho hR1 hk
  have hR2 := RR_sc k2 hR1
  let G : Nat → Nat → Nat := fun c => gj (fb_ct (Cc A b c) (aPn A)) (fb_ct (fun p => Cc A b c p && uB A s p) (aPn A)) (fb_ct (fun p => Cc A b c p && tB A k p) (aPn A))
  have hG : ∀ c, fb_ct (Cc A b c) (aPn A) ≤ 20 ∧ fb_ct (fun p => Cc A b c p && uB A s p) (aPn A) ≤ 20 ∧ fb_ct (fun p => Cc A b c p && tB A k p) (aPn A) ≤ fb_ct (Cc A b c) (aPn A) := fun c => ⟨Nat.le_trans (fb_ct_le _ _) hpn, Nat.le_trans (fb_ct_le _ _) hpn, ct_b1⟩
  let Rw : Nat → Nat → Nat := fun c => Nat.rec R0 (fun c R => cv R (G c)) c
  have Rw_s : ∀ c, Rw (c + 1) = cv (Rw c) (G c) := fun c => rfl
  have hb3 : fb_ct (fun p => uB A s p && tB A k p) (aPn A) ≤ 20 := Nat.le_trans (fb_ct_le _ _) hpn
  let le : Nat := if a4 = 0 then 0 else fb_ct (fun p => uB A s p && tB A k p) (aPn A)
  have hle : le ≤ 20 := by
    show (if a4 = 0 then 0 else fb_ct (fun p => uB A s p && tB A k p) (aPn A)) ≤ 20
    split <;> omega
  have c1 : (if a4 = 0 then some (0 : Int32) else some (s2.1 50 3)) = some (nI le) := by
    rw [t2.2.2.2]
    show _ = some (nI (if a4 = 0 then 0 else fb_ct (fun p => uB A s p && tB A k p) (aPn A)))
    split <;> rfl
  have c2 : (if a4 = 0 then some (0 : Int32) else bn1 (pX11_bits (bitsN (uB A s) (aPn A) &&& bitsN (tB A k) (aPn A))) (fun v53 => some v53)) = some (nI le) := by
    rw [bN_and (by omega), bitsR hpn, bn1_s]
    show _ = some (nI (if a4 = 0 then 0 else fb_ct (fun p => uB A s p && tB A k p) (aPn A)))
    split <;> rfl
  rw [e1, bn1_s, e2, bn1_s, c1, bn1_s, e3, bn1_s, g1, bn2_s, g2, bn2_s]
  have hC3 : RC A s3 := RC_89 (RC_50 hC1 f2) f3
  have hv3 : Sv A s3 := Sv_fr (Sv_fr v1 f2 (fun _ => rfl) (fun _ => rfl)) f3 (fun _ => rfl) (fun _ => rfl)
  let F5 : Nat → Nat → Bool := fun o k => o89 o k || onO 50 o k
  have F5_89 : ∀ {σ τ : gS}, fr o89 σ τ → fr F5 σ τ := fun q => fr_up (fun o k z => by
    have z' : (o89 o k || onO 50 o k) = false := z
    rw [Bool.or_eq_false_iff] at z'; exact z'.1) q
  have F5_50 : ∀ {σ τ : gS}, fr (onO 50) σ τ → fr F5 σ τ := fun q => fr_up (fun o k z => by
    have z' : (o89 o k || onO 50 o k) = false := z
    rw [Bool.or_eq_false_iff] at z'; exact z'.2) q
  have F5_sc : ∀ o k, scC o k = false → F5 o k = false := fun o k q => by
    show (o89 o k || onO 50 o k) = false
    rw [o89_sc q, o50_sc q]; rfl
  have P1 : ∃ r, lpP (fun (z15 : (Int32 × gS)) => if (10 : Int32) ≤ z15.1 then (some (.inr z15.2) : Option ((Int32 × gS) ⊕ gS)) else bn1 (pX4_fillClassTable (nI s) (nI k) (nI b) z15.1 z15.2) (fun s17 => bn1 (pX0_widenSpread s17) (fun s19 => lt' (z15.1 + (1 : Int32)) (fun x20 => some (.inl (x20, s19)))))) ((0 : Int32), s3) = some r ∧ (fr F5 s3 r ∧ row 48 (Rw 10) r) := by
    refine lp_cnt (fun c (z : Int32 × gS) => z.1 = nI c ∧ fr F5 s3 z.2 ∧ row 48 (Rw c) z.2) 10 ?_ ?_ (k := 0) (by omega) ⟨rfl, fr_rf, w3⟩
    · rintro c ⟨z, σ⟩ hc ⟨rfl, hf, hw⟩
      dsimp only at hf hw ⊢
      have hC := RC_sc (fr_up F5_sc hf) hC3
      have hS := Sv_fr hv3 hf (fun _ => rfl) (fun _ => rfl)
      obtain ⟨s4, d4, f4, t4⟩ := fillGC (s := s) (k := k) (b := b) (c := c) ho hC hS hs hk hb hc
      obtain ⟨n1, n2, n3⟩ := hG c
      obtain ⟨s5, d5, f5, w5⟩ := widenC (R := Rw c) (RC_50 hC f4) t4 n1 n3 n2 (fun m hm => (fr_2 f4 rfl).trans (hw m hm))
      rw [if_neg (show ¬ (10 : Int32) ≤ nI c from nI_ge (b := 10) hc (by decide)), d4, bn1_s, d5, bn1_s, lt_b, nI_1]
      exact ⟨_, rfl, rfl, fr_tr hf (fr_tr (F5_50 f4) (F5_89 f5)), w5⟩
    · rintro ⟨z, σ⟩ ⟨rfl, hf, hw⟩
      dsimp only at hf hw ⊢
      rw [if_pos (show (10 : Int32) ≤ nI 10 by decide)]
      exact ⟨_, rfl, hf, hw⟩
  obtain ⟨s6, d6, f6, w6⟩ := P1
  rw [d6, bn1_s]
  have S1 : pX0_spreadFrom (nI le) s6 = some (lN (fb_sm (fun j => Rw 10 (le + j)) (21 - le))) := by
    unfold pX0_spreadFrom pX0_sumOf pJ9_max_7cf53
    rw [if_neg (show ¬ nI le < 0 from nI_pos (by omega)), bn1_s]
    have : bn1 (lpP (fun (z4 : (Int32 × Int64)) => if (20 : Int32) < z4.1 then (some (.inr z4.2) : Option ((Int32 × Int64) ⊕ Int64)) else if (Int32.ofNat 21) ≤ z4.1 then some (.inr z4.2) else gx z4.1 21 (lt' (z4.2 + (s6.2.1 48 z4.1.toNatClampNeg)) (fun x5 => lt' (z4.1 + (1 : Int32)) (fun x6 => some (.inl (x6, x5)))))) (nI le, (0 : Int64))) (fun (z3 : Int64) => some (z3)) = some (lN (fb_sm (fun j => Rw 10 (le + j)) (21 - le))) := by
      apply lp_bn1
      refine ⟨_, lp_sumL (fun j => Rw 10 (le + j)) le (21 - le) 0 (fun j c hj => ?_) (fun c => ?_), by rw [Int64.zero_add]⟩
      · dsimp only
        rw [if_neg (show ¬ (20 : Int32) < nI (le + j) from nI_nlt (a := 20) (by omega) (by decide)), show Int32.ofNat 21 = nI 21 from rfl, if_neg (nI_ge (by omega) (by decide)), gx_i (by omega) (by decide), lt_b, lt_b, nI_1, nI_clamp (by omega), w6 _ (by omega)]
      · dsimp only
        rw [if_pos (show (20 : Int32) < nI (le + (21 - le)) from nI_lt (a := 20) (by omega) (by omega))]
    rw [this, bn1_s]
  rw [S1, bn1_s]
  have fC : fr scC u.1 s6 := fr_tr f1 (fr_tr (fr_up (fun o k q => o50_sc q) f2) (fr_tr (fr_up (fun o k q => o89_sc q) f3) (fr_up F5_sc f6)))
  refine ex_3 (P := fun a c => Inv (a, c)) (fun τ => fr o412 r2 τ) (fun τ q3 => ask ho h1 h2 fC (fr_tr k1 (fr_tr k2 (fr_up (fun o k q => o412_sc q) q3)))) ?_
  refine lp_then (fun r => fr o412 r2 r ∧ row 41 R0 r) ?_ (fun ρ hρ => ?_)
  · refine lp_cnt (fun m (z : Int32 × gS) => z.1 = nI m ∧ fr o412 r2 z.2 ∧ ∀ i, i < m → z.2.2.1 41 i = lN (R0 i)) 21 ?_ ?_ (k := 0) (by omega) ⟨rfl, fr_rf, fun i hi => absurd hi (Nat.not_lt_zero i)⟩
    · rintro m ⟨z, τ⟩ hm ⟨rfl, hf, hv⟩
      dsimp only at hf hv ⊢
      have fin : ∀ v : Int64, v = lN (R0 m) → fr o412 r2 (wL τ 41 m v) ∧ ∀ i, i < m + 1 → (wL τ 41 m v).2.1 41 i = lN (R0 i) := by
        intro v hv2
        refine ⟨fr_tr hf (fr_wL rfl), fun i hi => ?_⟩
        rw [wL_2]
        by_cases hc : i = m
        · subst hc; rw [if_pos ⟨rfl, rfl⟩, hv2]
        · rw [if_neg (fun q => hc q.2)]; exact hv i (by omega)
      rw [if_neg (show ¬ (21 : Int32) ≤ nI m from nI_ge (b := 21) hm (by decide)), gx_i (by omega) (by decide), gx_i (by omega) (by decide)]
      simp only [lt_b, nI_1, nI_clamp (show m < 2 ^ 31 by omega)]
      by_cases h0 : m = 0
      · subst h0
        rw [if_pos (show nI 0 = 0 from rfl)]
        exact ⟨_, rfl, rfl, fin 1 rfl⟩
      · rw [if_neg (show ¬ nI m = 0 from fun q => h0 ((nI_eq (b := 0) (by omega) (by decide)).mp q))]
        exact ⟨_, rfl, rfl, fin 0 (by unfold R0; rw [if_neg h0]; rfl)⟩
    · rintro ⟨z, τ⟩ ⟨rfl, hf, hv⟩
      dsimp only at hf hv ⊢
      rw [if_pos (show (21 : Int32) ≤ nI 21 by decide)]
      exact ⟨_, rfl, hf, hv⟩
  refine lp_then (fun r => fr o412 r2 r ∧ row 41 (Rw 10) r) ?_ (fun ρ2 hρ2 => ?_)
  · refine lp_cnt (fun c (z : Int32 × gS) => z.1 = nI c ∧ fr o412 r2 z.2 ∧ row 41 (Rw c) z.2) 10 ?_ ?_ (k := 0) (by omega) ⟨rfl, hρ.1, hρ.2⟩
    · rintro c ⟨z, τ⟩ hc ⟨rfl, hf, hw⟩
      dsimp only at hf hw ⊢
      have hR := RR_412 hR2 hf
      obtain ⟨n1, n2, n3⟩ := hG c
      rw [if_neg (show ¬ (10 : Int32) ≤ nI c from nI_ge (b := 10) hc (by decide))]
      refine lp_thenI (fun x => x = bitsN (Cc A b c) (aPn A)) ?_ (fun x hx2 => ?_)
      · refine lp_cnt (fun p (z : Int32 × Int32) => z.1 = nI p ∧ z.2 = bitsN (Cc A b c) p) (aPn A) ?_ ?_ (k := 0) (by omega) ⟨rfl, rfl⟩
        · rintro p ⟨z, w⟩ hp ⟨rfl, rfl⟩
          dsimp only
          have hcl := cl_lt (b := b) ho hp
          rw [hR.2.1.1, if_neg (nI_ge hp (by omega)), clsR ho hR hp hb, bn1_s]
          simp only [lt_b, nI_1]
          by_cases hq : cl A b p = c
          · rw [if_pos (show nI (cl A b p) = nI c by rw [hq])]
            exact ⟨_, rfl, rfl, (bN_t (f := Cc A b c) (n := p) (decide_eq_true hq)).symm⟩
          · rw [if_neg (fun z => hq ((nI_eq (by omega) (by omega)).mp z))]
            exact ⟨_, rfl, rfl, (bN_f (f := Cc A b c) (n := p) (decide_eq_false hq)).symm⟩
        · rintro ⟨z, w⟩ ⟨rfl, rfl⟩
          dsimp only
          rw [hR.2.1.1, if_pos (nI_le (Nat.le_refl _) (by omega))]
          exact ⟨_, rfl, rfl⟩
      subst hx2
      rw [bN_and (by omega), bN_and (by omega), bitsR hpn, bn1_s, bitsR hpn, bn1_s, bitsR hpn, bn1_s]
      have hgj : ∀ j, j ≤ 30 → ∃ v, pX11_picks (nI (fb_ct (fun p => Cc A b c p && tB A k p) (aPn A))) (nI j) = some (lN (pc (fb_ct (fun p => Cc A b c p && tB A k p) (aPn A)) j)) ∧ pX11_picks (nI (fb_ct (Cc A b c) (aPn A)) - nI (fb_ct (fun p => Cc A b c p && tB A k p) (aPn A))) (nI (fb_ct (fun p => Cc A b c p && uB A s p) (aPn A)) - nI j) = some v ∧ lN (pc (fb_ct (fun p => Cc A b c p && tB A k p) (aPn A)) j) * v = lN (G c j) := fun j hj => gj_R n1 n3 n2 hj
      have hz0 : ∀ j, fb_ct (fun p => Cc A b c p && tB A k p) (aPn A) < j → G c j = 0 := fun j hj => by
        show gj _ _ _ j = 0
        unfold gj
        rw [pc_gt _ j hj, Nat.zero_mul]
        split <;> rfl
      generalize hTT : fb_ct (fun p => Cc A b c p && tB A k p) (aPn A) = T at hgj hz0 n3 ⊢
      have hT20 : T ≤ 20 := by omega
      clear hTT
      refine lp_thenI (fun r => fr o412 r2 r ∧ row 41 (Rw c) r ∧ row 42 (fun _ => 0) r) ?_ (fun r hr => ?_)
      · refine lp_cnt (fun m (z : Int32 × gS) => z.1 = nI m ∧ fr o412 r2 z.2 ∧ row 41 (Rw c) z.2 ∧ ∀ i, i < m → z.2.2.1 42 i = lN 0) 21 ?_ ?_ (k := 0) (by omega) ⟨rfl, hf, hw, fun i hi => absurd hi (Nat.not_lt_zero i)⟩
        · rintro m ⟨z, υ⟩ hm ⟨rfl, hf, hw, hv⟩
          dsimp only at hf hw hv ⊢
          rw [if_neg (show ¬ (21 : Int32) ≤ nI m from nI_ge (b := 21) hm (by decide)), gx_i (by omega) (by decide), lt_b, lt_b, nI_1, nI_clamp (by omega)]
          refine ⟨_, rfl, rfl, fr_tr hf (fr_wL rfl), fun i hi => ?_, fun i hi => ?_⟩
          · show (wL υ 42 m _).2.1 41 i = _
            rw [wL_2, if_neg (by omega)]; exact hw i hi
          · show (wL υ 42 m _).2.1 42 i = _
            rw [wL_2]
            by_cases hc : i = m
            · rw [if_pos ⟨rfl, hc⟩]; rfl
            · rw [if_neg (fun q => hc q.2)]; exact hv i (by omega)
        · rintro ⟨z, υ⟩ ⟨rfl, hf, hw, hv⟩
          dsimp only at hf hw hv ⊢
          rw [if_pos (show (21 : Int32) ≤ nI 21 by decide)]
          exact ⟨_, rfl, hf, hw, hv⟩
      obtain ⟨hrf, hr1, hr2⟩ := hr
      refine lp_thenI (fun r => fr o412 r2 r ∧ row 41 (Rw c) r ∧ row 42 (cw (Rw c) (G c) 21) r) ?_ (fun y hy => ?_)
      · refine lp_cnt (fun K (z : Int32 × gS) => z.1 = nI K ∧ fr o412 r2 z.2 ∧ row 41 (Rw c) z.2 ∧ row 42 (cw (Rw c) (G c) K) z.2) 21 ?_ ?_ (k := 0) (by omega) ⟨rfl, hrf, hr1, hr2⟩
        · rintro K ⟨z, υ⟩ hK ⟨rfl, hf, hw, hv⟩
          dsimp only at hf hw hv ⊢
          rw [if_neg (show ¬ (21 : Int32) ≤ nI K from nI_ge (b := 21) hK (by decide))]
          refine lp_thenI (fun r => fr o412 r2 r ∧ row 41 (Rw c) r ∧ row 42 (cw (Rw c) (G c) (K + 1)) r) ?_ (fun y hy => ⟨_, rfl, nI_1 K, hy⟩)
          refine lp_cnt (fun j (z : Int32 × gS) => z.1 = nI j ∧ fr o412 r2 z.2 ∧ row 41 (Rw c) z.2 ∧ row 42 (cz (Rw c) (G c) K j) z.2) (min (T + 1) (21 - K)) ?_ ?_ (k := 0) (by omega) ⟨rfl, hf, hw, fun m hm => ?_⟩
          · rintro j ⟨z, ω⟩ hj ⟨rfl, hf, hw, hv⟩
            dsimp only at hf hw hv ⊢
            obtain ⟨v, p1, p2, p3⟩ := hgj j (by omega)
            rw [if_neg (nI_nlt (by omega) (by omega)), nI_add, if_neg (show ¬ (21 : Int32) ≤ nI (K + j) from nI_ge (b := 21) (by omega) (by decide)), gx_i (by omega) (by decide), gx_i hK (by decide), p1, bn1_s, p2, bn1_s, gx_i (by omega) (by decide), lt_b, lt_b, nI_1, nI_clamp (by omega), nI_clamp (by omega), hw K hK, Int64.mul_assoc, p3, lN_mul, hv (K + j) (by omega), lN_add]
            refine ⟨_, rfl, rfl, fr_tr hf (fr_wL rfl), fun m hm => ?_, fun m hm => ?_⟩
            · show (wL ω 42 (K + j) _).2.1 41 m = _
              rw [wL_2, if_neg (by omega)]; exact hw m hm
            · show (wL ω 42 (K + j) _).2.1 42 m = _
              rw [wL_2]
              by_cases hc : m = K + j
              · rw [if_pos ⟨rfl, hc⟩, hc]
                unfold cz
                rw [if_neg (by omega), if_pos (by omega), Nat.add_zero, show K + j - K = j by omega]
              · rw [if_neg (fun q => hc q.2), hv m hm]
                unfold cz
                by_cases hd : K ≤ m ∧ m < K + j
                · rw [if_pos hd, if_pos (by omega)]
                · rw [if_neg hd, if_neg (by omega)]
          · rintro ⟨z, ω⟩ ⟨rfl, hf, hw, hv⟩
            dsimp only at hf hw hv ⊢
            have hfin : row 42 (cw (Rw c) (G c) (K + 1)) ω := fun m hm => by
              rw [hv m hm]
              unfold cz
              congr 1
              show _ = cw (Rw c) (G c) K m + (if K ≤ m then Rw c K * G c (m - K) else 0)
              congr 1
              by_cases hd : K ≤ m
              · rw [if_pos hd]
                by_cases he : m < K + min (T + 1) (21 - K)
                · rw [if_pos ⟨hd, he⟩]
                · rw [if_neg (fun q => he q.2), hz0 (m - K) (by omega), Nat.mul_zero]
              · rw [if_neg hd, if_neg (fun q => hd q.1)]
            by_cases hc : T + 1 ≤ 21 - K
            · rw [if_pos (nI_lt (by omega) (by omega))]
              exact ⟨_, rfl, hf, hw, hfin⟩
            · rw [if_neg (nI_nlt (by omega) (by omega)), nI_add, if_pos (show (21 : Int32) ≤ nI (K + min (T + 1) (21 - K)) from nI_le (a := 21) (by omega) (by omega))]
              exact ⟨_, rfl, hf, hw, hfin⟩
          · show υ.2.1 42 m = _
            unfold cz
            rw [hv m hm, if_neg (by omega), Nat.add_zero]
        · rintro ⟨z, υ⟩ ⟨rfl, hf, hw, hv⟩
          dsimp only at hf hw hv ⊢
          rw [if_pos (show (21 : Int32) ≤ nI 21 by decide)]
          exact ⟨_, rfl, hf, hw, hv⟩
      obtain ⟨hyf, hy1, hy2⟩ := hy
      refine lp_thenI (fun r => fr o412 r2 r ∧ row 41 (Rw (c + 1)) r) ?_ (fun y hy => ⟨_, rfl, nI_1 c, hy⟩)
      refine lp_cnt (fun m (z : Int32 × gS) => z.1 = nI m ∧ fr o412 r2 z.2 ∧ row 42 (cw (Rw c) (G c) 21) z.2 ∧ ∀ i, i < m → z.2.2.1 41 i = lN (Rw (c + 1) i)) 21 ?_ ?_ (k := 0) (by omega) ⟨rfl, hyf, hy2, fun i hi => absurd hi (Nat.not_lt_zero i)⟩
      · rintro m ⟨z, υ⟩ hm ⟨rfl, hf, hw, hv⟩
        dsimp only at hf hw hv ⊢
        rw [if_neg (show ¬ (21 : Int32) ≤ nI m from nI_ge (b := 21) hm (by decide)), gx_i (by omega) (by decide), gx_i (by omega) (by decide), lt_b, lt_b, nI_1, nI_clamp (by omega), hw m hm, cw_21 hm]
        refine ⟨_, rfl, rfl, fr_tr hf (fr_wL rfl), fun i hi => ?_, fun i hi => ?_⟩
        · show (wL υ 41 m _).2.1 42 i = _
          rw [wL_2, if_neg (by omega)]; exact hw i hi
        · show (wL υ 41 m _).2.1 41 i = _
          rw [wL_2]
          by_cases hc : i = m
          · rw [if_pos ⟨rfl, hc⟩, hc]
          · rw [if_neg (fun q => hc q.2)]; exact hv i (by omega)
      · rintro ⟨z, υ⟩ ⟨rfl, hf, hw, hv⟩
        dsimp only at hf hw hv ⊢
        rw [if_pos (show (21 : Int32) ≤ nI 21 by decide)]
        exact ⟨_, rfl, hf, hv⟩
    · rintro ⟨z, τ⟩ ⟨rfl, hf, hw⟩
      dsimp only at hf hw ⊢
      rw [if_pos (show (10 : Int32) ≤ nI 10 by decide)]
      exact ⟨_, rfl, hf, hw⟩
  · rw [c2, bn1_s]
    refine lp_then (fun x => x = lN (fb_sm (fun j => Rw 10 (le + j)) (21 - le))) ?_ (fun x hx2 => ⟨_, rfl, hx2, hρ2.1⟩)
    refine ⟨_, lp_sumL (fun j => Rw 10 (le + j)) le (21 - le) 0 (fun j c hj => ?_) (fun c => ?_), by rw [Int64.zero_add]⟩
    · dsimp only
      rw [if_neg (show ¬ (21 : Int32) ≤ nI (le + j) from nI_ge (b := 21) (by omega) (by decide)), gx_i (by omega) (by decide), lt_b, lt_b, nI_1, nI_clamp (by omega), hρ2.2 _ (by omega)]
    · dsimp only
      rw [if_pos (show (21 : Int32) ≤ nI (le + (21 - le)) from nI_le (a := 21) (by omega) (by omega))]
