/-! the class: bits of what holds -/
theorem vfr_us {o k : Nat} (h : usC o k = true) : vfr o k = false := by
  have := scC_us h
  simp only [scC, vfr, Bool.or_eq_false_iff] at this ⊢
  exact ⟨this.1.1.1.1.1.1.1.1.1.1.1, this.1.1.1.1.1.1.1.1.1.2⟩
theorem tR_24 {r : Nat} (h : tR r = true) : r ≤ 24 := by
  simp only [tR, Bool.or_eq_true, beq_iff_eq] at h
  omega
theorem bitsOfC {A : Abs} {σ : gS} {p b n : Nat} {pl : Int32} (ho : okA A) (h : RC A σ) (hb : b = 0 ∧ n = nSg (aTd A) ∨ b = 6 ∧ n = nSy (aTd A)) (hv : ∀ j, j ≤ 20 → σ.1 34 j = Wp A p pl j) : ∃ σ', pX4_bitsOf (nI b) (nI n) σ = some (bitsN (fun k => upB A p pl (b + k)) n, σ') ∧ fr vfr σ σ' := by
  have hT := ho.2.2.2
  have h6 := hT.1.1
  have h16 := hT.1.2.1
  have hn : n ≤ 16 := by omega
  unfold pX4_bitsOf
  suffices hs : ∃ r, lpP (fun (z2 : (Int32 × Int32 × gS)) => if nI n ≤ z2.1 then (some (.inr (z2.2.1, z2.2.2)) : Option ((Int32 × Int32 × gS) ⊕ (Int32 × gS))) else gT (z2.2.2.2.2 23 0) tR (fun rr3 => bn2 (pX3_valueOf rr3 (nI b + z2.1) z2.2.2) (fun v4 s5 => if v4 = (1 : Int32) then lt' (z2.2.1 ||| ((1 : Int32) <<< (z2.1 &&& (31 : Int32)))) (fun x6 => lt' (z2.1 + (1 : Int32)) (fun x7 => some (.inl (x7, x6, s5)))) else lt' (z2.1 + (1 : Int32)) (fun x8 => some (.inl (x8, z2.2.1, s5)))))) ((0 : Int32), (0 : Int32), σ) = some r ∧ (r.1 = bitsN (fun k => upB A p pl (b + k)) n ∧ fr vfr σ r.2) by
    obtain ⟨⟨v, r⟩, e, q1, q2⟩ := hs
    dsimp only at q1 q2
    subst q1
    exact ⟨r, by rw [e, bn1_s], q2⟩
  refine lp_cnt (fun k (z : Int32 × Int32 × gS) => z.1 = nI k ∧ z.2.1 = bitsN (fun k => upB A p pl (b + k)) k ∧ fr vfr σ z.2.2) n ?_ ?_ (k := 0) (by omega) ⟨rfl, rfl, fr_rf⟩
  · rintro k ⟨z, w, υ⟩ hk ⟨rfl, rfl, hf⟩
    dsimp only at hf ⊢
    have hR : RC A υ := RC_fr hf (fun o k q => vfr_us q) h
    obtain ⟨r, r1, r2, r3, hC⟩ := hR.2.2.2.1
    have hfm : fmC r υ (b + k) (cmC false (cnd (aTd A) (b + k))) := by
      rcases hb with ⟨rfl, rfl⟩ | ⟨rfl, rfl⟩
      · rw [Nat.zero_add]; exact hC.2.2.2.1 k hk
      · exact hC.2.2.2.2.1 k hk
    have hwf : wfC (cnd (aTd A) (b + k)) := by
      rcases hb with ⟨rfl, rfl⟩ | ⟨rfl, rfl⟩
      · rw [Nat.zero_add]; exact hT.2.2.2.1 k hk
      · exact hT.2.2.2.2.1 k hk
    obtain ⟨s1, e1, f1⟩ := valueC (W := Wp A p pl) (tR_24 r1) (show b + k < 26 by omega) hfm (fun j hj => (fr_1 hf vfr_34).trans (hv j hj)) (evK_cond (V := Vp A p pl) (fun j hj => Wp_V hj) hwf)
    rw [if_neg (nI_ge hk (by omega)), r2, gT_p r1, nI_add, e1, bn2_s]
    simp only [lt_b, nI_1]
    have hu : tC (Vp A p pl) false (cnd (aTd A) (b + k)) = upB A p pl (b + k) := rfl
    rw [hu]
    cases hb2 : upB A p pl (b + k) with
    | false =>
      rw [if_neg (show ¬ b01 false = 1 by decide)]
      exact ⟨_, rfl, rfl, by simp [bitsN, hb2], fr_tr hf f1⟩
    | true =>
      rw [if_pos (show b01 true = 1 from rfl)]
      exact ⟨_, rfl, rfl, by simp [bitsN, hb2], fr_tr hf f1⟩
  · rintro ⟨z, w, υ⟩ ⟨rfl, rfl, hf⟩
    dsimp only at hf ⊢
    rw [if_pos (nI_le (Nat.le_refl _) (by omega))]
    exact ⟨_, rfl, rfl, hf⟩
theorem vfr_sc {o k : Nat} (h : scC o k = false) : vfr o k = false := by
  simp only [scC, vfr, Bool.or_eq_false_iff] at h ⊢
  exact ⟨h.1.1.1.1.1.1.1.1.1.1.1, h.1.1.1.1.1.1.1.1.1.2⟩
theorem o34_sc {o k : Nat} (h : scC o k = false) : onO 34 o k = false := by
  simp only [scC, onO, Bool.or_eq_false_iff] at h ⊢
  exact h.1.1.1.1.1.1.1.1.1.1.2
theorem upAtC {A : Abs} {σ : gS} {p : Nat} {pl : Int32} (ho : okA A) (h : RC A σ) (hp : p < aPn A) : ∃ σ', pX4_upAt (nI p) pl σ = some (bitsN (upB A p pl) (nSg (aTd A)), σ') ∧ fr scC σ σ' := by
  obtain ⟨s1, e1, f1, v1⟩ := setPersonC ho h hp
  have f2 : fr (onO 34) s1 (wI s1 34 0 pl) := fr_wI rfl
  have hR : RC A (wI s1 34 0 pl) := RC_fr (fr_tr f1 f2) (fun o k q => o34_us q) h
  obtain ⟨r, r1, r2, r3, hC⟩ := hR.2.2.2.1
  obtain ⟨s3, e3, f3⟩ := bitsOfC (p := p) (pl := pl) (b := 0) ho hR (Or.inl ⟨rfl, rfl⟩) (fun j hj => by
    rw [wI_1]
    by_cases hc : j = 0
    · rw [if_pos ⟨rfl, hc⟩]; unfold Wp; rw [if_pos hc]
    · rw [if_neg (fun q => hc q.2), v1 j hj]; unfold Wp; rw [if_neg hc, if_neg hc])
  unfold pX4_upAt
  rw [e1, bn1_s, show (0 : Int32) = nI 0 from rfl, gx_i (by decide) (by decide), lt_b, nI_clamp (by decide), r2, gT_p r1, hC.1.1, e3, bn2_s]
  refine ⟨s3, ?_, fr_tr (fr_up (fun o k q => o34_sc q) (fr_tr f1 f2)) (fr_up (fun o k q => vfr_sc q) f3)⟩
  simp only [Nat.zero_add]
