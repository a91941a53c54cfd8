/-! read: faults kept aside; 'way'; a unit that is no bracket -/
def blC (o k : Nat) : Bool := o == 3 && (k == 8 || k == 9)
def blR (o k : Nat) : Bool := o == 0 && (k == 15 || k == 16)
theorem blC_s {r : Nat} {σ τ : gS} (f : fr blC σ τ) : fr (sumF r) σ τ := fr_up (fun o k q => by
  simp only [sumF, blC, Bool.or_eq_false_iff, Bool.and_eq_false_iff, beq_eq_false_iff_ne, decide_eq_false_iff_not] at q ⊢
  omega) f
theorem blR_x {L : Nat} {σ τ : gS} (f : fr blR σ τ) : fr (xH L) σ τ := fr_up (fun o k q => by
  unfold xH at q
  exact (Bool.or_eq_false_iff.mp q).2) f
theorem blame0 {c : Int32} {σ : gS} (h : σ.1 3 8 = 0) : pX7_blame c σ = some (wI (wI σ 3 8 c) 3 9 (σ.1 3 5)) := by
  unfold pX7_blame
  rw [h, if_00, lt_b, wI_1, if_neg (by omega), lt_b]
theorem blame1 {c : Int32} {w : Nat} {σ : gS} (h : σ.1 3 8 = nI w) (hw : 0 < w ∧ w < 100) : pX7_blame c σ = some σ := by
  unfold pX7_blame
  rw [h, if_neg (nI_ne0 hw.1 (by omega))]
theorem wrong0 {c : Int32} {j p : Nat} {τ : gS} (h13 : τ.1 0 13 = 0) (h15 : τ.1 0 15 = 0) (hp : τ.1 4 j = nI p) (hj : j < 403) : pX11_wrong c (nI j) τ = some (wI (wI τ 0 15 c) 0 16 (nI p)) := by
  unfold pX11_wrong
  rw [gx_i hj (by decide), nI_clamp (by omega), hp, lt_b, h13, if_neg (show ¬ (0 : Int32) < 0 by decide), h15, if_00, bnS_l, lt_b, lt_b]
theorem wrong1 {c j p w p' : Nat} {τ : gS} (h13 : τ.1 0 13 = 0) (h15 : τ.1 0 15 = nI w) (h16 : τ.1 0 16 = nI p') (hp : τ.1 4 j = nI p) (hj : j < 403) (hw : 0 < w ∧ w < 100) (hpp : p ≤ 2000 ∧ p' ≤ 2000) (h : p' < p ∨ (p' = p ∧ w ≤ c ∧ c < 100)) : pX11_wrong (nI c) (nI j) τ = some τ := by
  unfold pX11_wrong
  rw [gx_i hj (by decide), nI_clamp (by omega), hp, lt_b, h13, if_neg (show ¬ (0 : Int32) < 0 by decide), h15, if_neg (nI_ne0 hw.1 (by omega)), h16]
  rcases h with z | ⟨rfl, z, z2⟩
  · rw [if_pos (nI_lt z (by omega)), bnS_r]
  · rw [if_neg (nI_nlt (Nat.le_refl _) (by omega)), if_pos rfl, if_neg (nI_nlt z (by omega)), bnS_r]
/-- both keep a fault aside -/
theorem blame_w {c j q : Nat} {σ τ : gS} (hc : 3 ≤ c ∧ c ≤ 5) (hq : q ≤ 2000) (h5 : σ.1 3 5 = nI q) (h13 : τ.1 0 13 = 0) (h4 : τ.1 4 j = nI q) (hj : j < 403) (hw : WW q σ τ) : ∃ σ' τ', pX7_blame (nI c) σ = some σ' ∧ pX11_wrong (nI c) (nI j) τ = some τ' ∧ WW (q + 1) σ' τ' ∧ σ'.1 3 8 ≠ 0 ∧ fr blC σ σ' ∧ fr blR τ τ' := by
  rcases hw with ⟨a1, a2, a3⟩ | ⟨w, p, w1, w2, w3, w4, a1, a2, a3, a4⟩
  · refine ⟨_, _, blame0 a1, wrong0 h13 a3 h4 hj, Or.inr ⟨c, q, hc.1, hc.2, by omega, hq, ?_, ?_, ?_, wI_s⟩, ?_, fr_tr (fr_wI rfl) (fr_wI rfl), fr_tr (fr_wI rfl) (fr_wI rfl)⟩
    · rw [wI_1, if_neg (by omega), wI_s]
    · rw [wI_s, h5]
    · rw [wI_1, if_neg (by omega), wI_s]
    · rw [wI_1, if_neg (by omega), wI_s]
      exact nI_ne0 (by omega) (by omega)
  · exact ⟨σ, τ, blame1 a1 (by omega), wrong1 h13 a3 a4 h4 hj (by omega) ⟨hq, w4⟩ (Or.inl w3), Or.inr ⟨w, p, w1, w2, by omega, w4, a1, a2, a3, a4⟩, by rw [a1]; exact nI_ne0 (by omega) (by omega), fr_rf, fr_rf⟩
section WAY
variable {N : Nat} {tk pl : Nat → Nat} {vl : Nat → Int64} {r L pc : Nat} {cs0 : List (Int32 × Int32)} {es0 : List cEl}
theorem rdC_bl {k : Nat} {σ τ : gS} (f : fr blC σ τ) (h : rdC N tk pl vl k σ) : rdC N tk pl vl k τ := by
  obtain ⟨h0, h1, h2, h3, h5, h6, h7⟩ := h
  refine ⟨h0, (fr_1 f rfl).trans h1, (fr_1 f rfl).trans h2, (fr_2 f rfl).trans h3, (fr_1 f rfl).trans h5, (fr_1 f rfl).trans h6, fun i hi => ?_⟩
  obtain ⟨a1, a2, a3⟩ := h7 i hi
  exact ⟨(fr_1 f rfl).trans a1, (fr_1 f rfl).trans a2, (fr_2 f rfl).trans a3⟩
theorem rdR_bl {k : Nat} {σ τ : gS} (f : fr blR σ τ) (h : rdR N tk pl vl k σ) : rdR N tk pl vl k τ := by
  obtain ⟨h1, h2, h3⟩ := h
  refine ⟨(fr_1 f rfl).trans h1, (fr_1 f rfl).trans h2, fun i hi => ?_⟩
  obtain ⟨a1, a2, a3, a4⟩ := h3 i hi
  refine ⟨(fr_1 f rfl).trans a1, (fr_1 f rfl).trans a2, fun q => ?_, fun q => (fr_2 f rfl).trans (a4 q)⟩
  obtain ⟨x, x1, x2, x3⟩ := a3 q
  exact ⟨x, x1, x2, (fr_1 f rfl).trans x3⟩
theorem WX_bl {c0 : Nat} {w : List Nat} {es : List cEl} {σ τ : gS} (f : fr blR σ τ) (h : WX c0 w es σ) : WX c0 w es τ := by
  obtain ⟨h1, h2, h3, h4⟩ := h
  refine ⟨(fr_1 f rfl).trans h1, ?_, (fr_1 f rfl).trans h3, fun i q e => ⟨(fr_1 f rfl).trans (h4 i q e).1, (fr_1 f rfl).trans (h4 i q e).2⟩⟩
  clear h1 h3 h4
  generalize w.map nI = st at h2
  induction st with
  | nil => trivial
  | cons x r ih => exact ⟨(fr_1 f rfl).trans h2.1, ih h2.2⟩
theorem CX_bl {σ τ : gS} {c : List (Int32 × Int32)} (hr : tR r = true) (h : fr blC σ τ) (hc : CX r c σ) : CX r c τ := by
  rcases tR_or hr with rfl | rfl
  · exact CX_fr h rfl (fun _ => rfl) (fun _ => rfl) hc
  · exact CX_fr h rfl (fun _ => rfl) (fun _ => rfl) hc
/-- how a unit may end -/
def UA (N : Nat) (tk pl : Nat → Nat) (vl : Nat → Int64) (r L pc : Nat) (cs0 : List (Int32 × Int32)) (es0 : List cEl) (k : Nat) (l : Bool × Nat) (ls : List (Bool × Nat)) (h : Nat) (σ σ' τ' : gS) : Prop := (∃ k' d' e', k < k' ∧ UX N tk pl vl r L pc cs0 es0 k' l ls (h + 1) d' e' σ' τ' ∧ (σ'.1 3 8 = 0 → σ.1 3 8 = 0)) ∨ ∃ f p, CS f p r σ' ∧ spR N tk pl vl f p τ'
theorem unitC_way {g : Int32 → gS → Option gS} {a : Int32} {σ s10 z11 s16 : gS} (hr : tR r = true) (h3 : σ.1 3 3 = nI 9) (e0 : pX7_take σ = some s10) (e1 : (if (s10.1 3 3) = (24 : Int32) then if (lg_cmp (s10.2.1 3 4) (8 : Int64)) < 0 then some s10 else bn1 (pX7_blame (5 : Int32) s10) (fun s13 => some s13) else some s10) = some z11) (hd : z11.2.2 3 1 = r) (e2 : pX9_addStep r 9 ((4 : Int32) + ((z11.2.1 3 4).toInt32)) z11 = some s16) : bX7_unit g a σ = if s16.1 3 3 = 24 then bn1 (pX7_take s16) (fun s => some s) else bn1 (pX7_fail 1 s16) (fun s => some s) := by
  unfold bX7_unit
  rw [h3, lt_b, if_neg (show ¬ nI 9 = 34 by decide), if_pos (show nI 9 = 9 from rfl), e0, bn1_s, e1, bn1_s, hd, gT_p hr, e2, bn1_s, bnS_l]
theorem unitR_way (hT : TkOK N tk pl) {k : Nat} {τ s18 z21 s32 s34 : gS} {v : Int32} (h : rdR N tk pl vl k τ) (hk : k < N) (ht : tk k = 9) (e0 : pX11_goesOn τ = some s18) (e1 : bn1 (pX11_is 2 s18) (fun v19 => (if v19 = 0 then some s18 else gx (s18.1 0 11) 403 (if (s18.1 5 (s18.1 0 11).toNatClampNeg) ≤ (7 : Int32) then some s18 else bn1 (pX11_wrong (5 : Int32) (s18.1 0 11) s18) (fun s23 => some s23)))) = some z21) (e2 : bn1 (pX11_is 2 z21) (fun v24 => (if v24 = 0 then some 0 else gx (z21.1 0 11) 403 (if (8 : Int32) ≤ (z21.1 5 (z21.1 0 11).toNatClampNeg) then some 0 else gx (z21.1 0 11) 403 (some (z21.1 5 (z21.1 0 11).toNatClampNeg))))) = some v) (e3 : pX11_emit 1 v z21 = some s32) (e4 : pX11_must 2 s32 = some s34) : pX11_unit τ = some s34 := by
  have hk4 := k_400 hT hk
  have i1 : pX11_is (2 : Int32) τ = some (b01 (decide (tk k = 24))) := isR (K := 24) hT h hk (by decide)
  have i2 : pX11_is (36 : Int32) τ = some (b01 (decide (tk k = 9))) := isR (K := 9) hT h hk (by decide)
  unfold pX11_unit
  rw [i1, bn1_s, decide_eq_false (by omega), if_b0, i2, bn1_s, decide_eq_true ht, if_b1, e0, bn1_s]
  cases hv : pX11_is 2 s18 with
  | none => rw [hv] at e1; cases e1
  | some v19 =>
    rw [hv, bn1_s] at e1
    rw [bn1_s]
    rw [e1, bn1_s]
    cases hw : pX11_is 2 z21 with
    | none => rw [hw] at e2; cases e2
    | some v24 =>
      rw [hw, bn1_s] at e2
      rw [bn1_s]
      by_cases c1 : v24 = 0
      · rw [if_pos c1] at e2
        rw [if_pos c1, bnS_l]
        injection e2 with e2
        rw [e2, e3, bn1_s, e4, bn1_s]
      · rw [if_neg c1] at e2
        rw [if_neg c1]
        unfold gx at e2 ⊢
        by_cases c2 : z21.1 0 11 < 0 ∨ 403 ≤ (z21.1 0 11).toNatClampNeg
        · rw [if_pos c2] at e2; cases e2
        · rw [if_neg c2] at e2
          rw [if_neg c2]
          by_cases c3 : (8 : Int32) ≤ (z21.1 5 (z21.1 0 11).toNatClampNeg)
          · rw [if_pos c3] at e2
            rw [if_pos c3, bnS_l]
            injection e2 with e2
            rw [e2, e3, bn1_s, e4, bn1_s]
          · rw [if_neg c3, if_neg c2] at e2
            rw [if_neg c3, if_neg c2]
            injection e2 with e2
            rw [e2, e3, bn1_s, e4, bn1_s, bnS_r]
end WAY
