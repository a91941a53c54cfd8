/-! read: the class's steps, and the class when it has stopped -/
def CX (r : Nat) (cs : List (Int32 × Int32)) (σ : gS) : Prop := σ.1 r 13 = nI cs.length ∧ stC r σ 0 cs
def sumF (r o k : Nat) : Bool := (o == 3 && (decide (2 ≤ k) && decide (k ≤ 9))) || ((o == r && k == 13) || (o == r + 7 || o == r + 8))
def codS (r : Nat) (σ τ : gS) : Prop := (∀ o k, o ≠ r + 7 → o ≠ r + 8 → ¬ (o = r ∧ k = 13) → τ.1 o k = σ.1 o k) ∧ τ.2 = σ.2
theorem codS_f {r : Nat} {σ τ : gS} (h : codS r σ τ) : fr (sumF r) σ τ := fun o k q => by
  simp only [sumF, Bool.or_eq_false_iff, Bool.and_eq_false_iff, beq_eq_false_iff_ne] at q
  obtain ⟨-, q1, q2, q3⟩ := q
  exact ⟨h.1 o k q2 q3 (by omega), by rw [h.2], by rw [h.2]⟩
theorem hdC_s {r : Nat} {σ τ : gS} (f : fr hdC σ τ) : fr (sumF r) σ τ := fr_up (fun o k q => by
  simp only [sumF, hdC, Bool.or_eq_false_iff, Bool.and_eq_false_iff, beq_eq_false_iff_ne, decide_eq_false_iff_not] at q ⊢
  omega) f
theorem tR_9 {r : Nat} (h : tR r = true) : 9 ≤ r ∧ r ≤ 24 := by
  rcases tR_or h with rfl | rfl <;> decide
theorem stC_snoc {r : Nat} {σ : gS} {c : List (Int32 × Int32)} {q : Int32 × Int32} (h : stC r σ 0 c) (h1 : σ.1 (r + 7) c.length = q.1) (h2 : σ.1 (r + 8) c.length = q.2) : stC r σ 0 (c ++ [q]) := fun i x e => by
  rcases Nat.lt_trichotomy i c.length with z | z | z
  · rw [List.getElem?_append_left z] at e
    exact h i x e
  · subst z
    rw [List.getElem?_append_right (Nat.le_refl _), Nat.sub_self] at e
    simp only [List.getElem?_cons_zero, Option.some.injEq] at e
    subst e
    rw [Nat.zero_add]
    exact ⟨h1, h2⟩
  · rw [List.getElem?_eq_none (by rw [List.length_append]; simp; omega)] at e
    exact absurd e (by simp)
theorem stC_w {r o j : Nat} {σ : gS} {c : List (Int32 × Int32)} {v : Int32} (h : stC r σ 0 c) (ho : (o ≠ r + 7 ∧ o ≠ r + 8) ∨ c.length ≤ j) : stC r (wI σ o j v) 0 c := fun i x e => by
  obtain ⟨h1, h2⟩ := h i x e
  have hi : i < c.length := by
    rcases Nat.lt_or_ge i c.length with z | z
    · exact z
    · rw [List.getElem?_eq_none z] at e; exact absurd e (by simp)
  rw [wI_1, wI_1, if_neg (by omega), if_neg (by omega)]
  exact ⟨h1, h2⟩
theorem stC_fr {P : Nat → Nat → Bool} {r s : Nat} {σ τ : gS} {c : List (Int32 × Int32)} (h : fr P σ τ) (h7 : ∀ k, P (r + 7) k = false) (h8 : ∀ k, P (r + 8) k = false) (hc : stC r σ s c) : stC r τ s c := fun i q e => ⟨(fr_1 h (h7 _)).trans (hc i q e).1, (fr_1 h (h8 _)).trans (hc i q e).2⟩
theorem CX_fr {P : Nat → Nat → Bool} {r : Nat} {σ τ : gS} {c : List (Int32 × Int32)} (h : fr P σ τ) (h1 : P r 13 = false) (h7 : ∀ k, P (r + 7) k = false) (h8 : ∀ k, P (r + 8) k = false) (hc : CX r c σ) : CX r c τ := ⟨(fr_1 h h1).trans hc.1, stC_fr h h7 h8 hc.2⟩
theorem CX_h {r : Nat} {σ τ : gS} {c : List (Int32 × Int32)} (hr : tR r = true) (h : fr hdC σ τ) (hc : CX r c σ) : CX r c τ := by
  rcases tR_or hr with rfl | rfl
  · exact CX_fr h rfl (fun _ => rfl) (fun _ => rfl) hc
  · exact CX_fr h rfl (fun _ => rfl) (fun _ => rfl) hc
theorem add_un {r : Nat} (hr : tR r = true) {a v : Int32} {z : Nat} {σ : gS} (h : σ.1 r 13 = nI z) (hl : z < 400) : pX9_addStep r a v σ = some (wI (wI (wI σ (r + 7) z a) (r + 8) z v) r 13 (nI (z + 1))) := by
  have h9 := tR_9 hr
  unfold pX9_addStep
  rw [h, if_neg (show ¬ (400 : Int32) ≤ nI z from nI_ge (b := 400) hl (by decide)), gx_i hl (by decide), lt_b, nI_clamp (by omega)]
  have b1 : (wI σ (r + 7) z a).1 r 13 = nI z := by rw [wI_1, if_neg (by omega), h]
  rw [b1, gx_i hl (by decide), lt_b, nI_clamp (by omega)]
  have b2 : (wI (wI σ (r + 7) z a) (r + 8) z v).1 r 13 = nI z := by rw [wI_1, if_neg (by omega), b1]
  rw [b2, lt_b, nI_1]
theorem codS_3 {r z : Nat} {a v w : Int32} {σ : gS} : codS r σ (wI (wI (wI σ (r + 7) z a) (r + 8) z v) r 13 w) := ⟨fun o k q1 q2 q3 => by rw [wI_1, if_neg q3, wI_1, if_neg (fun z => q2 z.1), wI_1, if_neg (fun z => q1 z.1)], rfl⟩
theorem addSC {r : Nat} (hr : tR r = true) {a v : Int32} {cs : List (Int32 × Int32)} {σ : gS} (h : CX r cs σ) (hl : cs.length < 400) : ∃ σ', pX9_addStep r a v σ = some σ' ∧ CX r (cs ++ [(a, v)]) σ' ∧ codS r σ σ' := by
  have h9 := tR_9 hr
  refine ⟨_, add_un hr h.1 hl, ⟨?_, ?_⟩, codS_3⟩
  · rw [wI_s, List.length_append]; rfl
  · refine stC_w (stC_snoc (q := (a, v)) ?_ ?_ ?_) (Or.inl ⟨by omega, by omega⟩)
    · exact stC_w (stC_w h.2 (Or.inr (Nat.le_refl _))) (Or.inr (Nat.le_refl _))
    · rw [wI_1, if_neg (by omega), wI_s]
    · rw [wI_s]
theorem addSC_z {r : Nat} (hr : tR r = true) {a v : Int32} {z : Nat} {σ : gS} (h : σ.1 r 13 = nI z) (hz : z ≤ 400) : ∃ σ', pX9_addStep r a v σ = some σ' ∧ (∃ z', z' ≤ 400 ∧ σ'.1 r 13 = nI z') ∧ codS r σ σ' := by
  by_cases hl : z < 400
  · exact ⟨_, add_un hr h hl, ⟨z + 1, hl, wI_s⟩, codS_3⟩
  · refine ⟨σ, ?_, ⟨z, hz, h⟩, fun _ _ _ _ _ => rfl, rfl⟩
    unfold pX9_addStep
    rw [h, if_pos (show (400 : Int32) ≤ nI z from nI_le (a := 400) (by omega) (by omega))]
def CS (f p r : Nat) (σ : gS) : Prop := fpO f p ∧ spC f p σ ∧ σ.2.2 3 1 = r ∧ tR r = true ∧ ∃ z, z ≤ 400 ∧ σ.1 r 13 = nI z
def KC (P : Nat → Nat → Bool) (f p r : Nat) (m : gS → Option gS) : Prop := ∀ σ, CS f p r σ → ∃ σ', m σ = some σ' ∧ CS f p r σ' ∧ fr P σ σ'
section KCS
variable {P : Nat → Nat → Bool} {f p r : Nat}
theorem KC_b {m g : gS → Option gS} (h1 : KC P f p r m) (h2 : KC P f p r g) : KC P f p r (fun σ => bn1 (m σ) g) := fun σ h => by
  obtain ⟨s1, e1, c1, f1⟩ := h1 σ h
  obtain ⟨s2, e2, c2, f2⟩ := h2 s1 c1
  exact ⟨s2, by show bn1 (m σ) g = _; rw [e1, bn1_s, e2], c2, fr_tr f1 f2⟩
theorem KC_id : KC P f p r (fun σ => some σ) := fun σ h => ⟨σ, rfl, h, fr_rf⟩
theorem KC_T {g : Nat → gS → Option gS} (h : KC P f p r (g r)) : KC P f p r (fun σ => gT (σ.2.2 3 1) tR (fun rr => g rr σ)) := fun σ hs => by
  obtain ⟨s1, e1, c1, f1⟩ := h σ hs
  refine ⟨s1, ?_, c1, f1⟩
  show gT (σ.2.2 3 1) tR (fun rr => g rr σ) = _
  rw [hs.2.2.1, gT_p hs.2.2.2.1, e1]
theorem KC_if {c : Prop} [Decidable c] {x y : gS → Option gS} (h1 : KC P f p r x) (h2 : KC P f p r y) : KC P f p r (fun σ => if c then x σ else y σ) := fun σ h => by
  by_cases hc : c
  · obtain ⟨s1, e1, c1, f1⟩ := h1 σ h
    exact ⟨s1, by show (if c then x σ else y σ) = _; rw [if_pos hc, e1], c1, f1⟩
  · obtain ⟨s1, e1, c1, f1⟩ := h2 σ h
    exact ⟨s1, by show (if c then x σ else y σ) = _; rw [if_neg hc, e1], c1, f1⟩
theorem KC_up {Q : Nat → Nat → Bool} {m : gS → Option gS} (hs : ∀ o k, Q o k = false → P o k = false) (h : KC P f p r m) : KC Q f p r m := fun σ hc => by
  obtain ⟨s1, e1, c1, f1⟩ := h σ hc
  exact ⟨s1, e1, c1, fr_up hs f1⟩
theorem CS_cod {σ τ : gS} (h : CS f p r σ) (hc : codS r σ τ) (hz : ∃ z, z ≤ 400 ∧ τ.1 r 13 = nI z) : CS f p r τ := by
  obtain ⟨h1, ⟨h2, h3, h4⟩, h5, h6, h7⟩ := h
  have h9 := tR_9 h6
  have g : ∀ k, τ.1 3 k = σ.1 3 k := fun k => hc.1 3 k (by omega) (by omega) (by omega)
  exact ⟨h1, ⟨(g 3).trans h2, (g 6).trans h3, (g 5).trans h4⟩, by rw [hc.2]; exact h5, h6, hz⟩
theorem KC_add {a v : Int32} : KC (sumF r) f p r (pX9_addStep r a v) := fun σ h => by
  obtain ⟨z, z1, z2⟩ := h.2.2.2.2
  obtain ⟨s1, e1, q1, q2⟩ := addSC_z (a := a) (v := v) h.2.2.2.1 z2 z1
  exact ⟨s1, e1, CS_cod h q2 q1, codS_f q2⟩
theorem CS_h {f' p' : Nat} {σ τ : gS} (hr : tR r = true) (hf : fpO f' p') (h : spC f' p' τ) (hd : σ.2.2 3 1 = r) (hz : ∃ z, z ≤ 400 ∧ σ.1 r 13 = nI z) (g : fr hdC σ τ) : CS f' p' r τ := by
  obtain ⟨z, z1, z2⟩ := hz
  refine ⟨hf, h, (fr_3 g rfl).trans hd, hr, z, z1, ?_⟩
  rcases tR_or hr with rfl | rfl
  · exact (fr_1 g rfl).trans z2
  · exact (fr_1 g rfl).trans z2
theorem KC_fail {a : Int32} : KC (sumF r) f p r (pX7_fail a) := fun σ h => by
  obtain ⟨s1, e1, q1, q2⟩ := failC_s (a := a) h.1 h.2.1
  exact ⟨s1, e1, CS_h h.2.2.2.1 h.1 q1 h.2.2.1 h.2.2.2.2 q2, hdC_s q2⟩
theorem KC_need {K : Nat} (hK : K ≤ 37) : KC (sumF r) f p r (pX7_need (nI K)) := fun σ h => by
  obtain ⟨s1, e1, q1, q2⟩ := needC_s hK h.1 h.2.1
  exact ⟨s1, e1, CS_h h.2.2.2.1 h.1 q1 h.2.2.1 h.2.2.2.2 q2, hdC_s q2⟩
theorem KC_unit {g : Int32 → gS → Option gS} {a : Int32} : KC (sumF r) f p r (bX7_unit g a) := fun σ h => by
  obtain ⟨s1, e1, c1, f1⟩ := KC_fail (a := 1) σ h
  refine ⟨s1, ?_, c1, f1⟩
  unfold bX7_unit
  rw [h.2.1.1, lt_b, if_neg (show ¬ (38 : Int32) = 34 by decide), if_neg (show ¬ (38 : Int32) = 9 by decide), if_neg (show ¬ (38 : Int32) = 24 by decide), inR, if_neg (show ¬ ((10 : Int32) ≤ 38 ∧ (38 : Int32) ≤ 13) by decide), bn1_s, if_00, inR, if_neg (show ¬ ((14 : Int32) ≤ 38 ∧ (38 : Int32) ≤ 22) by decide), bn1_s, if_00, bnS_l]
  dsimp only
  rw [h.2.1.1, if_neg (show ¬ (38 : Int32) = -1 by decide), e1, bn1_s]
end KCS
noncomputable def suF (f : Int32 → gS → Option gS) (a1 : Int32) : Int32 × Int32 × Int32 × Int32 × gS → Option ((Int32 × Int32 × Int32 × Int32 × gS) ⊕ gS) := fun (z2 : (Int32 × Int32 × Int32 × Int32 × gS)) => if (400 : Int32) < z2.1 then some (.inr z2.2.2.2.2) else if z2.2.1 = 0 then some (.inr z2.2.2.2.2) else bn1 (f a1 z2.2.2.2.2) (fun s4 => bn1 (if z2.2.2.2.1 = 0 then some s4 else gT (s4.2.2 3 1) tR (fun rr6 => bn1 (pX9_addStep rr6 (29 : Int32) (0 : Int32) s4) (fun s8 => some s8))) (fun (z5 : gS) => bn1 (if (z5.1 3 3) = (29 : Int32) then some (1 : Int32) else some (0 : Int32)) (fun (z9 : Int32) => bn1 (if z9 = 0 then bn1 (if z2.2.2.1 = (-1 : Int32) then some z5 else gT (z5.2.2 3 1) tR (fun rr12 => bn1 (pX9_addStep rr12 z2.2.2.1 (0 : Int32) z5) (fun s14 => some s14))) (fun (z11 : gS) => if (z11.1 3 3) = (27 : Int32) then lt' (z11.1 3 3) (fun x15 => some (x15, z11)) else if (z11.1 3 3) = (28 : Int32) then lt' (z11.1 3 3) (fun x16 => some (x16, z11)) else some ((-1 : Int32), z11)) else some (z2.2.2.1, z5)) (fun (z10 : (Int32 × gS)) => bn1 (if z9 = 0 then if z10.1 = (-1 : Int32) then some (0 : Int32) else some (1 : Int32) else some (1 : Int32)) (fun (z17 : Int32) => if z17 = 0 then lt' (z2.1 + (1 : Int32)) (fun x18 => some (.inl (x18, z17, z10.1, z9, z10.2))) else bn1 (pX7_take z10.2) (fun s20 => lt' (z2.1 + (1 : Int32)) (fun x21 => some (.inl (x21, z17, z10.1, z9, s20)))))))))
theorem su_un {f : Int32 → gS → Option gS} {a : Int32} {σ : gS} : bX7_sum f a σ = bn1 (lpP (suF f a) (0, 1, -1, 0, σ)) (fun z1 => some z1) := rfl
theorem su_out {f : Int32 → gS → Option gS} {a i w t : Int32} {σ : gS} : suF f a (i, 0, w, t, σ) = some (.inr σ) := by
  unfold suF
  dsimp only
  rw [if_00]
  split <;> rfl
/-- the class has stopped: its sum ends -/
theorem su_s {f p r : Nat} {g : Int32 → gS → Option gS} {a i m w t : Int32} {σ : gS} (hg : KC (sumF r) f p r (g a)) (h : CS f p r σ) : ∃ σ', lpP (suF g a) (i, m, w, t, σ) = some σ' ∧ CS f p r σ' ∧ fr (sumF r) σ σ' := by
  have hr := h.2.2.2.1
  by_cases h4 : (400 : Int32) < i
  · exact ⟨σ, lpP_inr (by unfold suF; dsimp only; rw [if_pos h4]), h, fr_rf⟩
  by_cases hm : m = 0
  · subst hm
    exact ⟨σ, lpP_inr su_out, h, fr_rf⟩
  obtain ⟨s1, e1, c1, f1⟩ := hg σ h
  obtain ⟨s2, e2, c2, f2⟩ := (KC_if (c := t = 0) KC_id (KC_T (g := fun rr s => bn1 (pX9_addStep rr 29 0 s) (fun s8 => some s8)) (KC_b KC_add KC_id))) s1 c1
  obtain ⟨s3, e3, c3, f3⟩ := (KC_if (c := w = -1) KC_id (KC_T (g := fun rr s => bn1 (pX9_addStep rr w 0 s) (fun s8 => some s8)) (KC_b KC_add KC_id))) s2 c2
  refine ⟨s3, ?_, c3, fr_tr f1 (fr_tr f2 f3)⟩
  rw [lpP_inl (t := (i + 1, 0, -1, 0, s3)), lpP_inr su_out]
  unfold suF
  dsimp only
  rw [if_neg h4, if_neg hm, e1, bn1_s]
  dsimp only at e2 e3
  rw [e2, bn1_s, c2.2.1.1, if_neg (show ¬ (38 : Int32) = 29 by decide), bn1_s, if_00, e3, bn1_s, c3.2.1.1, if_neg (show ¬ (38 : Int32) = 27 by decide), if_neg (show ¬ (38 : Int32) = 28 by decide), bn1_s]
  dsimp only
  rw [if_00, if_pos rfl, bn1_s, if_00, lt_b]
theorem KC_sumb {f p r : Nat} {g : Int32 → gS → Option gS} {a : Int32} (hg : KC (sumF r) f p r (g a)) : KC (sumF r) f p r (bX7_sum g a) := fun σ h => by
  obtain ⟨s1, e1, c1, f1⟩ := su_s (i := 0) (m := 1) (w := -1) (t := 0) hg h
  exact ⟨s1, by rw [su_un, e1, bn1_s], c1, f1⟩
theorem KC_unitn {f p r n : Nat} {a : Int32} : KC (sumF r) f p r ((pSU (n + 1)).2 a) := KC_unit
theorem KC_sumn {f p r n : Nat} {a : Int32} : KC (sumF r) f p r ((pSU (n + 2)).1 a) := KC_sumb KC_unitn
theorem KC_sum {f p r : Nat} {a : Int32} : KC (sumF r) f p r (pX7_sum a) := KC_sumn (n := 18)
