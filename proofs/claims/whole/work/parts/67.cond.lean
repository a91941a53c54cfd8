/-! what a condition comes to: the reference -/
def cpB (how : Nat) (a b : Int32) : Bool := if how = 0 then decide (a = b) else if how = 1 then !decide (a = b) else if how = 2 then !decide (b ≤ a) else !decide (b < a)
def tL (V : Nat → Int32) (l : lEl) : Bool := xor (cpB l.2.2.1 (vE V l.2.2.2.1) (vE V l.2.2.2.2)) l.2.1
def tC (V : Nat → Int32) : Bool → List lEl → Bool
  | all, [] => all
  | all, l :: ls => if l.1 && all then true else tC V ((l.1 || all) && tL V l) ls
theorem cdR_l {τ : gS} {s : Nat} {c d : List cEl} (h : cdR τ s (c ++ d)) : cdR τ s c := fun i q e => by
  have hi : i < c.length := by
    rcases Nat.lt_or_ge i c.length with z | z
    · exact z
    · rw [List.getElem?_eq_none z] at e; exact absurd e (by simp)
  exact h i q (by rw [List.getElem?_append_left hi]; exact e)
theorem cdR_r {τ : gS} {s : Nat} {c d : List cEl} (h : cdR τ s (c ++ d)) : cdR τ (s + c.length) d := fun i q e => by
  rw [Nat.add_assoc]
  exact h (c.length + i) q (by rw [List.getElem?_append_right (by omega), Nat.add_sub_cancel_left]; exact e)
theorem isTrueR {V : Nat → Int32} {τ : gS} {i : Nat} {l : lEl} (hi : i < 300) (hl : ltR τ i l) (hw : wfL l) (hv : ∀ j, j ≤ 20 → τ.1 33 j = V j) : ∃ τ', pX11_isTrue (nI i) τ = some (b01 (tL V l), τ') ∧ fr (onO 34) τ τ' := by
  obtain ⟨h24, h25, -, a, ha, h27, h28, h29, hc⟩ := hl
  obtain ⟨w1, w2, w3⟩ := hw
  unfold pX11_isTrue
  obtain ⟨s1, e1, f1⟩ := termR (V := V) (s := a) (c := l.2.2.2.1) (by omega) w1 (cdR_l hc) hv
  obtain ⟨s2, e2, f2⟩ := termR (V := V) (τ := s1) (s := a + l.2.2.2.1.length) (c := l.2.2.2.2) (by omega) w2 (cdR_f4 f1 (cdR_r hc)) (fun j hj => (fr_1 f1 rfl).trans (hv j hj))
  have f3 := fr_tr f1 f2
  have k28 : s1.1 28 i = nI (a + l.2.2.2.1.length) := (fr_1 f1 rfl).trans h28
  have k29 : s1.1 29 i = nI (a + l.2.2.2.1.length + l.2.2.2.2.length) := (fr_1 f1 rfl).trans h29
  have k24 : s2.1 24 i = nI l.2.2.1 := (fr_1 f3 rfl).trans h24
  have k25 : s2.1 25 i = b01 l.2.1 := (fr_1 f3 rfl).trans h25
  refine ⟨s2, ?_, f3⟩
  simp only [gx_i hi (show 300 < 2 ^ 31 by decide), nI_clamp (show i < 2 ^ 31 by omega)]
  rw [h27, h28, e1, bn2_s, k28, k29, e2, bn2_s, k24, k25]
  have hcp : ∀ x : Int32, (if nI l.2.2.1 = 0 then if x = vE V l.2.2.2.2 then some (1 : Int32) else some (0 : Int32) else if nI l.2.2.1 = (1 : Int32) then if x = vE V l.2.2.2.2 then some (0 : Int32) else some (1 : Int32) else if nI l.2.2.1 = (2 : Int32) then if vE V l.2.2.2.2 ≤ x then some (0 : Int32) else some (1 : Int32) else if vE V l.2.2.2.2 < x then some (0 : Int32) else some (1 : Int32)) = some (b01 (cpB l.2.2.1 x (vE V l.2.2.2.2))) := by
    intro x
    unfold cpB
    rcases (show l.2.2.1 = 0 ∨ l.2.2.1 = 1 ∨ l.2.2.1 = 2 ∨ l.2.2.1 = 3 by omega) with z | z | z | z <;> rw [z]
    · by_cases q : x = vE V l.2.2.2.2 <;> simp [q, b01, nI]
    · by_cases q : x = vE V l.2.2.2.2 <;> simp [q, b01, nI]
    · by_cases q : vE V l.2.2.2.2 ≤ x <;> simp [q, b01, nI]
    · by_cases q : vE V l.2.2.2.2 < x <;> simp [q, b01, nI]
  rw [hcp, bn1_s]
  unfold tL
  generalize cpB l.2.2.1 (vE V l.2.2.2.1) (vE V l.2.2.2.2) = p
  generalize l.2.1 = q
  cases p <;> cases q <;> rfl
noncomputable def hrF (a1 : Int32) : Int32 × Int32 × gS → Option ((Int32 × Int32 × gS) ⊕ ((Int32 × gS) ⊕ (Int32 × gS))) := fun (z3 : (Int32 × Int32 × gS)) => gx a1 52 (if (z3.2.2.1 21 a1.toNatClampNeg) ≤ z3.1 then some (.inr (.inl (z3.2.1, z3.2.2))) else gx z3.1 300 (bnS (if (z3.2.2.1 26 z3.1.toNatClampNeg) = 0 then some (.inl ()) else if z3.2.1 = 0 then some (.inl ()) else some (.inr (.inr (.inr ((1 : Int32), z3.2.2))))) (fun (z4 : Unit) => gx z3.1 300 (bn1 (if (z3.2.2.1 26 z3.1.toNatClampNeg) = 0 then some z3.2.1 else some (1 : Int32)) (fun (z5 : Int32) => if z5 = 0 then lt' (z3.1 + (1 : Int32)) (fun x6 => some (.inl (x6, (0 : Int32), z3.2.2))) else bn2 (pX11_isTrue z3.1 z3.2.2) (fun v7 s8 => if v7 = 0 then lt' (z3.1 + (1 : Int32)) (fun x9 => some (.inl (x9, (0 : Int32), s8))) else lt' (z3.1 + (1 : Int32)) (fun x10 => some (.inl (x10, (1 : Int32), s8)))))))))
theorem hr_run {V : Nat → Int32} {e ρ : Nat} (he : e ≤ 300) (hρ : ρ < 52) : ∀ (ls : List lEl) (p : Nat) (all : Bool) (τ : gS), p + ls.length = e → τ.1 21 ρ = nI e → (∀ i x, ls[i]? = some x → ltR τ (p + i) x) → (∀ l ∈ ls, wfL l) → (∀ j, j ≤ 20 → τ.1 33 j = V j) → ∃ r, lpP (hrF (nI ρ)) (nI p, b01 all, τ) = some r ∧ ∃ τ', bnS (some r) (fun (z2 : (Int32 × gS)) => some (z2.1 &&& 1, z2.2)) = some (b01 (tC V all ls), τ') ∧ fr (onO 34) τ τ'
  | [], p, all, τ, hp, h21, hl, hw, hv => by
    simp only [List.length_nil, Nat.add_zero] at hp
    subst hp
    refine ⟨.inl (b01 all, τ), lpP_inr ?_, τ, ?_, fr_rf⟩
    · unfold hrF
      dsimp only
      rw [gx_i hρ (by decide), nI_clamp (by omega), h21, if_pos (nI_le (Nat.le_refl _) (by omega))]
    · rw [bnS_l, b01_a]; rfl
  | l :: ls, p, all, τ, hp, h21, hl, hw, hv => by
    simp only [List.length_cons] at hp
    have hl0 : ltR τ p l := hl 0 l rfl
    have h26 := hl0.2.2.1
    have hw0 := hw l (List.mem_cons_self ..)
    have go : ∀ (b : Bool) (τ1 : gS), fr (onO 34) τ τ1 → hrF (nI ρ) (nI p, b01 all, τ) = some (.inl (nI (p + 1), b01 b, τ1)) → ∃ r, lpP (hrF (nI ρ)) (nI p, b01 all, τ) = some r ∧ ∃ τ', bnS (some r) (fun (z2 : (Int32 × gS)) => some (z2.1 &&& 1, z2.2)) = some (b01 (tC V b ls), τ') ∧ fr (onO 34) τ τ' := by
      intro b τ1 f1 e1
      obtain ⟨r, g1, τ', g2, g3⟩ := hr_run he hρ ls (p + 1) b τ1 (by omega) ((fr_1 f1 rfl).trans h21) (fun i x hx => by
        have := hl (i + 1) x (by simpa using hx)
        rw [show p + 1 + i = p + (i + 1) by omega]
        exact ltR_fr f1 (fun o k q1 q2 => by simp only [onO, beq_eq_false_iff_ne]; omega) this) (fun x hx => hw x (List.mem_cons_of_mem _ hx)) (fun j hj => (fr_1 f1 rfl).trans (hv j hj))
      exact ⟨r, by rw [lpP_inl e1]; exact g1, τ', g2, fr_tr f1 g3⟩
    have c1 : ¬ nI e ≤ nI p := nI_ge (by omega) (by omega)
    have hb : hrF (nI ρ) (nI p, b01 all, τ) = bnS (if b01 l.1 = 0 then some (.inl ()) else if b01 all = 0 then some (.inl ()) else some (.inr (.inr (.inr ((1 : Int32), τ))))) (fun (z4 : Unit) => (bn1 (if b01 l.1 = 0 then some (b01 all) else some (1 : Int32)) (fun (z5 : Int32) => if z5 = 0 then some (.inl (nI (p + 1), (0 : Int32), τ)) else bn2 (pX11_isTrue (nI p) τ) (fun v7 s8 => if v7 = 0 then some (.inl (nI (p + 1), (0 : Int32), s8)) else some (.inl (nI (p + 1), (1 : Int32), s8)))))) := by
      unfold hrF
      simp only [gx_i hρ (show 52 < 2 ^ 31 by decide), gx_i (show p < 300 by omega) (show 300 < 2 ^ 31 by decide), nI_clamp (show ρ < 2 ^ 31 by omega), nI_clamp (show p < 2 ^ 31 by omega), h21, if_neg c1, h26, lt_b, nI_1]
    obtain ⟨s1, e1, f1⟩ := isTrueR (V := V) (show p < 300 by omega) hl0 hw0 hv
    rw [e1, bn2_s] at hb
    unfold tC
    cases hor : l.1 with
    | false =>
      rw [hor] at hb
      simp only [if_b0, bnS_l, bn1_s] at hb
      rw [Bool.false_and, if_neg (by decide), Bool.false_or]
      cases hall : all with
      | false =>
        rw [hall] at hb go
        simp only [if_b0] at hb
        rw [Bool.false_and]
        exact go false τ fr_rf hb
      | true =>
        rw [hall] at hb go
        simp only [if_b1] at hb
        rw [Bool.true_and]
        cases ht : tL V l with
        | false => rw [ht] at hb; exact go false s1 f1 hb
        | true => rw [ht] at hb; exact go true s1 f1 hb
    | true =>
      rw [hor] at hb
      cases hall : all with
      | false =>
        rw [hall] at hb go
        simp only [if_b0, if_b1, bnS_l, bn1_s] at hb
        rw [Bool.and_false, if_neg (by decide), Bool.true_or, Bool.true_and]
        cases ht : tL V l with
        | false => rw [ht] at hb; exact go false s1 f1 hb
        | true => rw [ht] at hb; exact go true s1 f1 hb
      | true =>
        rw [hall] at hb
        simp only [if_b1, bnS_r] at hb
        rw [Bool.and_true, if_pos rfl]
        exact ⟨_, lpP_inr hb, τ, rfl, fr_rf⟩
theorem holdsR {V : Nat → Int32} {τ : gS} {ρ : Nat} {ls : List lEl} (hρ : ρ < 52) (h : cnR τ ρ ls) (hw : ∀ l ∈ ls, wfL l) (hv : ∀ j, j ≤ 20 → τ.1 33 j = V j) : ∃ τ', pX11_holdsRule (nI ρ) τ = some (b01 (tC V false ls), τ') ∧ fr (onO 34) τ τ' := by
  obtain ⟨s, h1, h2, h3, h4⟩ := h
  obtain ⟨r, g1, τ', g2, g3⟩ := hr_run (V := V) (show s + ls.length ≤ 300 by omega) hρ ls s false τ rfl h3 h4 hw hv
  refine ⟨τ', ?_, g3⟩
  unfold pX11_holdsRule
  rw [gx_i hρ (by decide), lt_b]
  have e20 : τ.1 20 (nI ρ).toNatClampNeg = nI s := by rw [nI_clamp (by omega), h2]
  show bnS (lpP (hrF (nI ρ)) (τ.1 20 (nI ρ).toNatClampNeg, b01 false, τ)) _ = _
  rw [e20, g1]
  exact g2
