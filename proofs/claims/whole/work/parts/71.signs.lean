/-! what is up, what is true -/
def upB (A : Abs) (p : Nat) (pl : Int32) (i : Nat) : Bool := tC (Vp A p pl) false (cnd (aTd A) i)
def bitsN (f : Nat → Bool) : Nat → Int32
  | 0 => 0
  | n + 1 => if f n then bitsN f n ||| ((1 : Int32) <<< (nI n &&& (31 : Int32))) else bitsN f n
def o334 (o _k : Nat) : Bool := o == 33 || o == 34
theorem o334_3 {σ τ : gS} (h : fr (onO 33) σ τ) : fr o334 σ τ := fr_up (fun o k q => by simp only [o334, onO, Bool.or_eq_false_iff] at *; exact q.1) h
theorem o334_4 {σ τ : gS} (h : fr (onO 34) σ τ) : fr o334 σ τ := fr_up (fun o k q => by simp only [o334, onO, Bool.or_eq_false_iff] at *; exact q.2) h
theorem isUpR {A : Abs} {τ : gS} {p s : Nat} {pl : Int32} (ho : okA A) (h : RR A τ) (hp : p < aPn A) (hs : s < nSg (aTd A)) : ∃ τ', pX11_isUp (nI s) (nI p) pl τ = some (b01 (upB A p pl s), τ') ∧ fr o334 τ τ' := by
  obtain ⟨s1, e1, f1, v1⟩ := looksAtR (pl := pl) ho h hp
  obtain ⟨L, hL, hL2, hT⟩ := h.2.2.2.1
  have hT' := ho.2.2.2
  have h6 := hT'.1.1
  have hc := hT.2.2.2.1 s hs
  have hc1 : cnR s1 (26 * L + s) (cnd (aTd A) s) := cnR_fr f1 (fun o k q1 q2 => by simp only [onO, beq_eq_false_iff_ne]; omega) hc
  obtain ⟨s2, e2, f2⟩ := holdsR (V := Vp A p pl) (ρ := 26 * L + s) (by omega) hc1 (hT'.2.2.2.1 s hs).2 v1
  have e18 : s1.1 0 18 = nI L := (fr_1 f1 rfl).trans hL2
  unfold pX11_isUp
  rw [e1, bn1_s, e18, show (26 : Int32) * nI L + nI s = nI (26 * L + s) by rw [show (26 : Int32) = nI 26 from rfl, nI_mulS, nI_add], e2, bn2_s, b01_a]
  exact ⟨s2, rfl, fr_tr (o334_3 f1) (o334_4 f2)⟩
theorem o334_sc {o k : Nat} (h : scR o k = false) : o334 o k = false := by
  simp only [scR, o334, Bool.or_eq_false_iff] at h ⊢
  simp_all
theorem signsOfR {A : Abs} {τ : gS} {p : Nat} {pl : Int32} (ho : okA A) (h : RR A τ) (hp : p < aPn A) : ∃ τ', pX11_signsOf (nI p) pl τ = some (bitsN (upB A p pl) (nSg (aTd A)), τ') ∧ fr o334 τ τ' := by
  have h6 := ho.2.2.2.1.1
  unfold pX11_signsOf
  suffices hs : ∃ r, lpP (fun (z2 : (Int32 × Int32 × gS)) => gx (z2.2.2.1 0 18) 2 (if (z2.2.2.1 11 (z2.2.2.1 0 18).toNatClampNeg) ≤ z2.1 then (some (.inr (z2.2.1, z2.2.2)) : Option ((Int32 × Int32 × gS) ⊕ (Int32 × gS))) else bn2 (pX11_isUp z2.1 (nI p) pl z2.2.2) (fun v3 s4 => if v3 = 0 then lt' (z2.1 + (1 : Int32)) (fun x5 => some (.inl (x5, z2.2.1, s4))) else lt' (z2.2.1 ||| ((1 : Int32) <<< (z2.1 &&& (31 : Int32)))) (fun x6 => lt' (z2.1 + (1 : Int32)) (fun x7 => some (.inl (x7, x6, s4))))))) ((0 : Int32), (0 : Int32), τ) = some r ∧ (r.1 = bitsN (upB A p pl) (nSg (aTd A)) ∧ fr o334 τ r.2) by
    obtain ⟨⟨v, r⟩, e, q1, q2⟩ := hs
    dsimp only at q1 q2
    subst q1
    exact ⟨r, by rw [e, bn1_s], q2⟩
  refine lp_cnt (fun k (z : Int32 × Int32 × gS) => z.1 = nI k ∧ z.2.1 = bitsN (upB A p pl) k ∧ fr o334 τ z.2.2) (nSg (aTd A)) ?_ ?_ (k := 0) (by omega) ⟨rfl, rfl, fr_rf⟩
  · rintro k ⟨z, w, υ⟩ hk ⟨rfl, rfl, hf⟩
    dsimp only at hf ⊢
    have hR : RR A υ := RR_sc (fr_up (fun o k q => o334_sc q) hf) h
    obtain ⟨L, hL, hL2, hT⟩ := hR.2.2.2.1
    obtain ⟨s1, e1, f1⟩ := isUpR (pl := pl) ho hR hp hk
    rw [hL2, gx_i hL (by decide), nI_clamp (by omega), hT.1.1, if_neg (nI_ge hk (by omega)), e1, bn2_s]
    simp only [lt_b, nI_1]
    cases hb : upB A p pl k with
    | false =>
      rw [if_b0]
      exact ⟨_, rfl, rfl, by simp [bitsN, hb], fr_tr hf f1⟩
    | true =>
      rw [if_b1]
      exact ⟨_, rfl, rfl, by simp [bitsN, hb], fr_tr hf f1⟩
  · rintro ⟨z, w, υ⟩ ⟨rfl, rfl, hf⟩
    dsimp only at hf ⊢
    have hR : RR A υ := RR_sc (fr_up (fun o k q => o334_sc q) hf) h
    obtain ⟨L, hL, hL2, hT⟩ := hR.2.2.2.1
    rw [hL2, gx_i hL (by decide), nI_clamp (by omega), hT.1.1, if_pos (nI_le (Nat.le_refl _) (by omega))]
    exact ⟨_, rfl, rfl, hf⟩
