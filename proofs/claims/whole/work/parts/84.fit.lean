/-! fit -/
/-- VARS of a law: the PERSON's, and counts over the first m SENTENCES of X -/
def cT (A : Abs) (p : Nat) (X : Nat → Bool) (m : Nat) : Nat := fb_ct (fun s => X s && tB A s p) m
def cF (A : Abs) (p : Nat) (X : Nat → Bool) (m : Nat) : Nat := fb_ct (fun s => X s && !tB A s p) m
def cSr (A : Abs) (p : Nat) (X : Nat → Bool) (j m : Nat) : Nat := fb_ct (fun s => X s && tB A s p && srt (aTd A) s == j) m
def Cq (A : Abs) (p : Nat) (X : Nat → Bool) (m j : Nat) : Int32 := if j = 12 then nI (cT A p X m) else if j = 13 then nI (cF A p X m) else nI (cSr A p X (j - 14) m)
def Vq (A : Abs) (p : Nat) (X : Nat → Bool) (m j : Nat) : Int32 := if j < 12 then Vp A p (nI (aPt A p 0)) j else Cq A p X m j
def Wq (A : Abs) (p : Nat) (X : Nat → Bool) (m k : Nat) : Int32 := if k < 12 then Wp A p (nI (aPt A p 0)) k else Cq A p X m k
theorem Wq_V {A : Abs} {p m : Nat} {X : Nat → Bool} {j : Nat} (h : j ≤ 20) : Wq A p X m (piV j) = Vq A p X m j := by
  by_cases h1 : j < 12
  · have h2 : piV j < 12 := by unfold piV; split <;> (try split) <;> omega
    unfold Wq Vq
    rw [if_pos h1, if_pos h2, Wp_V h]
  · have h2 : piV j = j := by unfold piV; rw [if_neg (by omega), if_neg h1]
    rw [h2]
    unfold Wq Vq
    rw [if_neg h1, if_neg h1]
/-- what a step of the count does -/
theorem Cq_no {A : Abs} {p m : Nat} {X : Nat → Bool} (h : X m = false) (j : Nat) : Cq A p X (m + 1) j = Cq A p X m j := by
  unfold Cq cT cF cSr
  simp only [ct_s, h, Bool.false_and]
  rfl
theorem Cq_f {A : Abs} {p m : Nat} {X : Nat → Bool} (h : X m = true) (ht : tB A m p = false) (j : Nat) : Cq A p X (m + 1) j = if j = 13 then Cq A p X m 13 + 1 else Cq A p X m j := by
  unfold Cq cT cF cSr
  simp only [ct_s, h, ht, Bool.true_and, Bool.and_false, Bool.false_and, Bool.not_false]
  by_cases h12 : j = 12
  · subst h12; rfl
  · rw [if_neg h12, if_neg h12]
    by_cases h13 : j = 13
    · subst h13
      rw [if_pos rfl, if_pos rfl]
      exact (nI_1 _).symm
    · rw [if_neg h13, if_neg h13, if_neg h13]
      rfl
theorem Cq_t {A : Abs} {p m : Nat} {X : Nat → Bool} (h : X m = true) (ht : tB A m p = true) {j : Nat} (hj : 12 ≤ j) : Cq A p X (m + 1) j = if j = 14 + srt (aTd A) m then Cq A p X m j + 1 else if j = 12 then Cq A p X m 12 + 1 else Cq A p X m j := by
  unfold Cq cT cF cSr
  simp only [ct_s, h, ht, Bool.true_and, Bool.and_false, Bool.not_true]
  by_cases h12 : j = 12
  · subst h12
    rw [if_pos rfl, if_neg (by omega), if_pos rfl]
    exact (nI_1 _).symm
  · rw [if_neg h12, if_neg h12]
    by_cases h13 : j = 13
    · subst h13
      rw [if_pos rfl, if_neg (by omega), if_neg (by decide), if_pos rfl]
      rfl
    · rw [if_neg h13, if_neg h13]
      by_cases hs : j = 14 + srt (aTd A) m
      · rw [if_pos hs, show (srt (aTd A) m == j - 14) = true by rw [beq_iff_eq]; omega, nI_1]
        rfl
      · rw [if_neg hs, show (srt (aTd A) m == j - 14) = false by rw [beq_eq_false_iff_ne]; omega, if_neg h12]
        rfl
/-- how a PAPER fits -/
def FT (A : Abs) (l p : Nat) (X : Nat → Bool) : Int32 := vE (Vq A p X (nSy (aTd A))) (lwc (aTd A) l)
def c345 (o k : Nat) : Bool := (o == 33 && k == 2) || o == 34 || o == 35
theorem c345_v {σ τ : gS} (h : fr vfr σ τ) : fr c345 σ τ := fr_up (fun o k q => by simp only [c345, vfr, Bool.or_eq_false_iff] at *; exact ⟨q.1.1, q.2⟩) h
theorem c345_4 {σ τ : gS} (h : fr (onO 34) σ τ) : fr c345 σ τ := fr_up (fun o k q => by simp only [c345, onO, Bool.or_eq_false_iff] at *; exact q.1.2) h
theorem c345_sc {o k : Nat} (h : scC o k = false) : c345 o k = false := by
  simp only [scC, c345, Bool.or_eq_false_iff] at h ⊢
  exact ⟨⟨h.1.1.1.1.1.1.1.1.1.1.1, h.1.1.1.1.1.1.1.1.1.1.2⟩, h.1.1.1.1.1.1.1.1.1.2⟩
theorem Wq_s {A : Abs} {p m : Nat} {X : Nat → Bool} {τ υ : gS} (hv : ∀ j, j ≤ 20 → τ.1 34 j = Wq A p X m j) (h1 : ∀ j, j < 12 → υ.1 34 j = τ.1 34 j) (h2 : ∀ j, 12 ≤ j → j ≤ 20 → υ.1 34 j = Cq A p X (m + 1) j) : ∀ j, j ≤ 20 → υ.1 34 j = Wq A p X (m + 1) j := fun j hj => by
  by_cases h : j < 12
  · rw [h1 j h, hv j hj]
    unfold Wq
    rw [if_pos h, if_pos h]
  · rw [h2 j (by omega) hj]
    unfold Wq
    rw [if_neg h]
theorem fitC {A : Abs} {σ : gS} {l p : Nat} {bits : Int32} {X : Nat → Bool} (ho : okA A) (h : RC A σ) (hS : Sv A σ) (hp : p < aPn A) (hl : l < nLw (aTd A)) (hX : ∀ s, s < nSy (aTd A) → bt bits s = X s) : ∃ σ', pX4_fitOf (nI l) (nI p) bits σ = some (FT A l p X, σ') ∧ fr c345 σ σ' := by
  have hn := ho.2.1.1
  have hT := ho.2.2.2
  have h16 := hT.1.2.1
  have h4 := hT.1.2.2.2.2
  obtain ⟨s1, e1, f1, v1⟩ := setPersonC ho h hp
  unfold pX4_fitOf
  rw [e1, bn1_s]
  apply ex_pair
  refine lp_then (fun r => fr (onO 34) σ r ∧ ∀ j, j ≤ 20 → r.1 34 j = Wq A p X (nSy (aTd A)) j) ?_ (fun r hr => ?_)
  · refine lp_cnt (fun m (z : Int32 × gS) => z.1 = nI m ∧ fr (onO 34) σ z.2 ∧ ∀ j, j ≤ 20 → z.2.1 34 j = Wq A p X m j) (nSy (aTd A)) ?_ ?_ (k := 0) (by omega) ⟨rfl, f1, fun j hj => ?_⟩
    · rintro m ⟨z, τ⟩ hm ⟨rfl, hf, hv⟩
      dsimp only at hf hv ⊢
      have hC := RC_fr hf (fun o k q => o34_us q) h
      obtain ⟨r, r1, r2, r3⟩ := tdC hC
      have h37 : τ.1 37 p = TR A p := (fr_1 hf rfl).trans (hS p hp).2
      have hsr := hT.2.1 m hm
      rw [r2, gT_p r1, r3.1.2.1, if_neg (nI_ge hm (by omega)), bitOfX (by omega), hX m hm, bn1_s, gx_i (by omega) (by decide), nI_clamp (by omega), h37, TRbit ho hm, bn1_s]
      have k12 : τ.1 34 12 = Cq A p X m 12 := hv 12 (by decide)
      have k13 : τ.1 34 13 = Cq A p X m 13 := hv 13 (by decide)
      have kc : ∀ j, 12 ≤ j → j ≤ 20 → τ.1 34 j = Cq A p X m j := fun j q1 q2 => by
        rw [hv j q2]; unfold Wq; rw [if_neg (by omega)]
      cases hx : X m with
      | false =>
        rw [if_neg (show ¬ b01 false = 1 by decide), lt_b, nI_1]
        exact ⟨_, rfl, rfl, hf, Wq_s hv (fun j _ => rfl) (fun j q1 q2 => (kc j q1 q2).trans (Cq_no hx j).symm)⟩
      | true =>
        rw [if_pos (show b01 true = 1 from rfl)]
        cases ht : tB A m p with
        | false =>
          rw [if_neg (show ¬ b01 false = 1 by decide), show (13 : Int32) = nI 13 from rfl, gx_i (by decide) (by decide), gx_i (by decide) (by decide), lt_b, lt_b, nI_clamp (by decide), nI_1]
          refine ⟨_, rfl, rfl, fr_tr hf (fr_wI rfl), Wq_s hv (fun j q => ?_) (fun j q1 q2 => ?_)⟩
          · show (wI τ 34 13 _).1 34 j = _
            rw [wI_1, if_neg (by omega)]
          · show (wI τ 34 13 _).1 34 j = _
            rw [wI_1, Cq_f hx ht]
            by_cases hc : j = 13
            · rw [if_pos ⟨rfl, hc⟩, if_pos hc, k13]
            · rw [if_neg (fun q => hc q.2), if_neg hc, kc j q1 q2]
        | true =>
          rw [if_pos (show b01 true = 1 from rfl), show (12 : Int32) = nI 12 from rfl, gx_i (by decide) (by decide), gx_i (by decide) (by decide), lt_b, nI_clamp (by decide), k12]
          generalize hw : wI τ 34 12 (Cq A p X m 12 + 1) = s2
          have f2 : fr (onO 34) τ s2 := by rw [← hw]; exact fr_wI rfl
          have hC2 := RC_fr f2 (fun o k q => o34_us q) hC
          obtain ⟨r', r1', r2', r3'⟩ := tdC hC2
          rw [r2', gT_p r1', gx_i (by omega) (by decide), nI_clamp (by omega), r3'.2.1 m hm, show (14 : Int32) = nI 14 from rfl, nI_add, gx_i (by omega) (by decide), gx_i (by omega) (by decide), lt_b, lt_b, nI_clamp (by omega), nI_1]
          have w2 : ∀ j, s2.1 34 j = if j = 12 then Cq A p X m 12 + 1 else τ.1 34 j := fun j => by
            rw [← hw, wI_1]
            by_cases hc : j = 12
            · rw [if_pos ⟨rfl, hc⟩, if_pos hc]
            · rw [if_neg (fun q => hc q.2), if_neg hc]
          refine ⟨_, rfl, rfl, fr_tr hf (fr_tr f2 (fr_wI rfl)), Wq_s hv (fun j q => ?_) (fun j q1 q2 => ?_)⟩
          · show (wI s2 34 _ _).1 34 j = _
            rw [wI_1, if_neg (by omega), w2, if_neg (by omega)]
          · show (wI s2 34 _ _).1 34 j = _
            rw [wI_1, Cq_t hx ht q1, w2, w2]
            by_cases hc : j = 14 + srt (aTd A) m
            · rw [if_pos ⟨rfl, hc⟩, if_pos hc, if_neg (by omega), ← hc, kc j q1 q2]
            · rw [if_neg (fun q => hc q.2), if_neg hc]
              by_cases hd : j = 12
              · rw [if_pos hd, if_pos hd]
              · rw [if_neg hd, if_neg hd, kc j q1 q2]
    · rintro ⟨z, τ⟩ ⟨rfl, hf, hv⟩
      dsimp only at hf hv ⊢
      obtain ⟨r, r1, r2, r3⟩ := tdC (RC_fr hf (fun o k q => o34_us q) h)
      rw [r2, gT_p r1, r3.1.2.1, if_pos (nI_le (Nat.le_refl _) (by omega))]
      exact ⟨_, rfl, hf, hv⟩
    · rw [v1 j hj]
      unfold Wq
      by_cases h12 : j < 12
      · rw [if_pos h12]
      · rw [if_neg h12]
        unfold Wp Cq
        rw [if_neg (by omega), if_neg h12]
        split
        · rfl
        · split <;> rfl
  · obtain ⟨hf, hv⟩ := hr
    have hC := RC_fr hf (fun o k q => o34_us q) h
    obtain ⟨ρ, r1, r2, r3⟩ := tdC hC
    have hfm := r3.2.2.2.2.2 l hl
    have hwf := hT.2.2.2.2.2 l hl
    have hk : evK (Wq A p X (nSy (aTd A))) ((lwc (aTd A) l).map cm1) [] = some [FT A l p X] := by
      have := evK_w (V := Vq A p X (nSy (aTd A))) (W := Wq A p X (nSy (aTd A))) (fun j hj => Wq_V hj) (rest := []) (base := []) (by decide) hwf
      rw [List.append_nil] at this
      rw [this]
      rfl
    obtain ⟨s2, e2, f2⟩ := valueC (W := Wq A p X (nSy (aTd A))) (tR_24 r1) (show 22 + l < 26 by omega) hfm hv hk
    rw [r2, gT_p r1, show (22 : Int32) = nI 22 from rfl, nI_add, e2, bn2_s]
    exact ⟨_, rfl, rfl, fr_tr (c345_4 hf) (c345_v f2)⟩

theorem b01_e {b : Bool} : b01 b &&& 1 = b01 b := b01_a
theorem fitR {A : Abs} {τ : gS} {l p : Nat} {pa wo : Int32} {X : Nat → Bool} (ho : okA A) (h : RR A τ) (hp : p < aPn A) (hl : l < nLw (aTd A)) (hX : ∀ s, s < nSy (aTd A) → X s = (bt pa s && !bt wo (srt (aTd A) s))) : ∃ τ', pX11_fitOf (nI l) (nI p) pa wo τ = some (FT A l p X, τ') ∧ fr scR τ τ' := by
  have hn := ho.2.1.1
  have hT := ho.2.2.2
  have h16 := hT.1.2.1
  have h4 := hT.1.2.2.2.2
  unfold pX11_fitOf
  apply ex_pair
  refine lp_then (fun r => fr scR τ r ∧ ∀ s, s < nSy (aTd A) → r.1 40 s = b01 (bt pa s && tB A s p)) ?_ (fun r hr => ?_)
  · refine lp_cnt (fun m (z : Int32 × gS) => z.1 = nI m ∧ fr scR τ z.2 ∧ ∀ s, s < m → z.2.1 40 s = b01 (bt pa s && tB A s p)) (nSy (aTd A)) ?_ ?_ (k := 0) (by omega) ⟨rfl, fr_rf, fun i hi => absurd hi (Nat.not_lt_zero i)⟩
    · rintro m ⟨z, υ⟩ hm ⟨rfl, hf, hv⟩
      dsimp only at hf hv ⊢
      have hR := RR_sc hf h
      obtain ⟨L, l1, l2, l3⟩ := tdR hR
      obtain ⟨t1, g1, k1⟩ := isTrueOfR ho hR hp hm
      have k1' : fr scR υ t1 := fr_up (fun o k q => o334_sc q) k1
      have eT : upB A p (nI (aPt A p 0)) (6 + m) = tB A m p := rfl
      rw [eT] at g1
      have fin : ∀ (ω : gS) (b : Bool), fr o334 υ ω → b = (bt pa m && tB A m p) → fr scR τ (wI ω 40 m (b01 b)) ∧ ∀ s, s < m + 1 → (wI ω 40 m (b01 b)).1 40 s = b01 (bt pa s && tB A s p) := by
        intro ω b q1 q2
        refine ⟨fr_tr hf (fr_tr (fr_up (fun o k q => o334_sc q) q1) (fr_wI rfl)), fun s hs => ?_⟩
        rw [wI_1]
        by_cases hc : s = m
        · rw [if_pos ⟨rfl, hc⟩, q2, hc]
        · rw [if_neg (fun q => hc q.2), fr_1 q1 rfl]; exact hv s (by omega)
      rw [l2, gx_i l1 (by decide), nI_clamp (by omega), l3.1.2.1, if_neg (nI_ge hm (by omega)), sbitX (by omega), g1, bn2_s]
      simp only [gx_i (show m < 16 by omega) (show 16 < 2 ^ 31 by decide), lt_b, nI_1, nI_clamp (show m < 2 ^ 31 by omega)]
      cases hb : bt pa m with
      | false =>
        rw [if_neg (show ¬ b01 false = 1 by decide)]
        exact ⟨_, rfl, rfl, fin υ false fr_rf (by rw [hb, Bool.false_and])⟩
      | true =>
        rw [if_pos (show b01 true = 1 from rfl)]
        cases ht : tB A m p with
        | false =>
          rw [if_b0]
          exact ⟨_, rfl, rfl, fin t1 false k1 (by rw [ht, Bool.and_false])⟩
        | true =>
          rw [if_b1]
          exact ⟨_, rfl, rfl, fin t1 true k1 (by rw [ht, hb]; rfl)⟩
    · rintro ⟨z, υ⟩ ⟨rfl, hf, hv⟩
      dsimp only at hf hv ⊢
      obtain ⟨L, l1, l2, l3⟩ := tdR (RR_sc hf h)
      rw [l2, gx_i l1 (by decide), nI_clamp (by omega), l3.1.2.1, if_pos (nI_le (Nat.le_refl _) (by omega))]
      exact ⟨_, rfl, hf, hv⟩
  · obtain ⟨hf, hv⟩ := hr
    have hR := RR_sc hf h
    obtain ⟨s1, e1, f1, v1⟩ := looksAtR (pl := nI (aPt A p 0)) ho hR hp
    rw [gx_i (by omega) (by decide), nI_clamp (by omega), (hR.2.1.2 p hp).1, e1, bn1_s]
    refine lp_then (fun q => fr (onO 33) r q ∧ ∀ j, j ≤ 20 → q.1 33 j = Vq A p X (nSy (aTd A)) j) ?_ (fun q hq => ?_)
    · have o33s : ∀ o k, scR o k = false → onO 33 o k = false := fun o k q => by
        simp only [scR, onO, Bool.or_eq_false_iff] at q ⊢
        exact q.1.1.1.1
      refine lp_cnt (fun m (z : Int32 × gS) => z.1 = nI m ∧ fr (onO 33) r z.2 ∧ ∀ j, j ≤ 20 → z.2.1 33 j = Vq A p X m j) (nSy (aTd A)) ?_ ?_ (k := 0) (by omega) ⟨rfl, f1, fun j hj => ?_⟩
      · rintro m ⟨z, υ⟩ hm ⟨rfl, hg, hw⟩
        dsimp only at hg hw ⊢
        have hR2 := RR_sc (fr_up o33s hg) hR
        obtain ⟨L, l1, l2, l3⟩ := tdR hR2
        have hsr := hT.2.1 m hm
        have h40 : υ.1 40 m = b01 (bt pa m && tB A m p) := (fr_1 hg rfl).trans (hv m hm)
        have hXm := hX m hm
        have kc : ∀ j, 12 ≤ j → j ≤ 20 → υ.1 33 j = Cq A p X m j := fun j q1 q2 => by
          rw [hw j q2]; unfold Vq; rw [if_neg (by omega)]
        have V_s : ∀ {ω : gS}, (∀ j, j < 12 → ω.1 33 j = υ.1 33 j) → (∀ j, 12 ≤ j → j ≤ 20 → ω.1 33 j = Cq A p X (m + 1) j) → ∀ j, j ≤ 20 → ω.1 33 j = Vq A p X (m + 1) j := fun {ω} q1 q2 j hj => by
          by_cases h12 : j < 12
          · rw [q1 j h12, hw j hj]
            unfold Vq
            rw [if_pos h12, if_pos h12]
          · rw [q2 j (by omega) hj]
            unfold Vq
            rw [if_neg h12]
        rw [l2, gx_i l1 (by decide), nI_clamp (show L < 2 ^ 31 by omega), l3.1.2.1, if_neg (nI_ge hm (by omega)), show (16 : Int32) = nI 16 from rfl, nI_mulS, nI_add, gx_i (by omega) (by decide), lt_b, nI_clamp (by omega), l3.2.1 m hm, sbitX (by omega), sbitX (by omega)]
        cases hb : bt pa m with
        | false =>
          rw [hb, Bool.false_and] at hXm
          rw [if_b0, lt_b, nI_1]
          exact ⟨_, rfl, rfl, hg, V_s (fun j _ => rfl) (fun j q1 q2 => (kc j q1 q2).trans (Cq_no hXm j).symm)⟩
        | true =>
          rw [if_b1]
          cases hwo : bt wo (srt (aTd A) m) with
          | true =>
            rw [hwo, Bool.not_true, Bool.and_false] at hXm
            rw [if_pos (show b01 true = 1 from rfl), lt_b, nI_1]
            exact ⟨_, rfl, rfl, hg, V_s (fun j _ => rfl) (fun j q1 q2 => (kc j q1 q2).trans (Cq_no hXm j).symm)⟩
          | false =>
            rw [hb, hwo, Bool.not_false, Bool.and_true] at hXm
            rw [if_neg (show ¬ b01 false = 1 by decide), gx_i (by omega) (by decide), nI_clamp (by omega), h40, hb, Bool.true_and]
            cases ht : tB A m p with
            | false =>
              rw [if_b0, show (13 : Int32) = nI 13 from rfl, gx_i (by decide) (by decide), gx_i (by decide) (by decide), lt_b, lt_b, nI_clamp (by decide), nI_1]
              refine ⟨_, rfl, rfl, fr_tr hg (fr_wI rfl), V_s (fun j q => ?_) (fun j q1 q2 => ?_)⟩
              · show (wI υ 33 13 _).1 33 j = _
                rw [wI_1, if_neg (by omega)]
              · show (wI υ 33 13 _).1 33 j = _
                rw [wI_1, Cq_f hXm ht]
                by_cases hc : j = 13
                · rw [if_pos ⟨rfl, hc⟩, if_pos hc, kc 13 (by decide) (by decide)]
                · rw [if_neg (fun q => hc q.2), if_neg hc, kc j q1 q2]
            | true =>
              rw [if_b1, show (12 : Int32) = nI 12 from rfl, gx_i (by decide) (by decide), gx_i (by decide) (by decide), lt_b, nI_clamp (by decide), kc 12 (by decide) (by decide)]
              generalize hw2 : wI υ 33 12 (Cq A p X m 12 + 1) = s2
              rw [show (14 : Int32) = nI 14 from rfl, nI_add, gx_i (by omega) (by decide), gx_i (by omega) (by decide), lt_b, lt_b, nI_clamp (by omega), nI_1]
              have f2 : fr (onO 33) υ s2 := by rw [← hw2]; exact fr_wI rfl
              have w2 : ∀ j, s2.1 33 j = if j = 12 then Cq A p X m 12 + 1 else υ.1 33 j := fun j => by
                rw [← hw2, wI_1]
                by_cases hc : j = 12
                · rw [if_pos ⟨rfl, hc⟩, if_pos hc]
                · rw [if_neg (fun q => hc q.2), if_neg hc]
              refine ⟨_, rfl, rfl, fr_tr hg (fr_tr f2 (fr_wI rfl)), V_s (fun j q => ?_) (fun j q1 q2 => ?_)⟩
              · show (wI s2 33 _ _).1 33 j = _
                rw [wI_1, if_neg (by omega), w2, if_neg (by omega)]
              · show (wI s2 33 _ _).1 33 j = _
                rw [wI_1, Cq_t hXm ht q1, w2, w2]
                by_cases hc : j = 14 + srt (aTd A) m
                · rw [if_pos ⟨rfl, hc⟩, if_pos hc, if_neg (by omega), ← hc, kc j q1 q2]
                · rw [if_neg (fun q => hc q.2), if_neg hc]
                  by_cases hd : j = 12
                  · rw [if_pos hd, if_pos hd]
                  · rw [if_neg hd, if_neg hd, kc j q1 q2]
      · rintro ⟨z, υ⟩ ⟨rfl, hg, hw⟩
        dsimp only at hg hw ⊢
        obtain ⟨L, l1, l2, l3⟩ := tdR (RR_sc (fr_up o33s hg) hR)
        rw [l2, gx_i l1 (by decide), nI_clamp (by omega), l3.1.2.1, if_pos (nI_le (Nat.le_refl _) (by omega))]
        exact ⟨_, rfl, hg, hw⟩
      · rw [v1 j hj]
        unfold Vq
        by_cases h12 : j < 12
        · rw [if_pos h12]
        · rw [if_neg h12]
          unfold Vp Cq
          rw [if_neg (by omega), if_neg (by omega), if_neg h12]
          split
          · rfl
          · split <;> rfl
    · obtain ⟨hg, hw⟩ := hq
      have g33 : fr scR r q := fr_up (fun o k q => by
        simp only [scR, onO, Bool.or_eq_false_iff] at q ⊢
        exact q.1.1.1.1) hg
      have hR2 := RR_sc g33 hR
      obtain ⟨L, l1, l2, l3⟩ := tdR hR2
      obtain ⟨s, c1, c2, c3, c4⟩ := l3.2.2.2.2.2 l hl
      obtain ⟨s2, e2, f2⟩ := termR (V := Vq A p X (nSy (aTd A))) (show s + (lwc (aTd A) l).length ≤ 840 by omega) (hT.2.2.2.2.2 l hl) c4 hw
      rw [l2, lt_b, show (26 : Int32) = nI 26 from rfl, show (22 : Int32) = nI 22 from rfl, nI_mulS, nI_add, nI_add, gx_i (by omega) (by decide), gx_i (by omega) (by decide), nI_clamp (by omega), c2, c3, e2, bn2_s]
      exact ⟨_, rfl, rfl, fr_tr hf (fr_tr g33 (fr_up (fun o k q => o334_sc q) (o334_4 f2)))⟩
