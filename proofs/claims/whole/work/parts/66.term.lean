/-! what a formula comes to -/
def opE (k : Nat) (x y : Int32) : Int32 := if k = 2 then x + y else if k = 3 then x - y else x * y
def evE (V : Nat → Int32) : List cEl → List Int32 → List Int32
  | [], st => st
  | q :: cs, st => if q.1 = 0 then evE V cs (q.2 :: st) else if q.1 = 1 then evE V cs (V q.2.toNatClampNeg :: st) else match st with
    | y :: x :: r => evE V cs (opE q.1 x y :: r)
    | _ => evE V cs st
def vE (V : Nat → Int32) (c : List cEl) : Int32 := (evE V c []).headD 0
theorem evE_len {V : Nat → Int32} {m : Nat} : ∀ {cs : List cEl} {st : List Int32} {h : Nat}, hgE cs st.length m = some h → (evE V cs st).length = h
  | [], st, h, e => by
    simp only [hgE, Option.some.injEq] at e
    exact e
  | q :: cs, st, h, e => by
    unfold evE
    unfold hgE at e
    by_cases h2 : q.1 < 2
    · rw [if_pos h2] at e
      by_cases h3 : st.length < m
      · rw [if_pos h3] at e
        by_cases h0 : q.1 = 0
        · rw [if_pos h0]; exact evE_len (st := q.2 :: st) e
        · rw [if_neg h0, if_pos (by omega)]; exact evE_len (st := V q.2.toNatClampNeg :: st) e
      · rw [if_neg h3] at e; exact absurd e (by simp)
    · rw [if_neg h2] at e
      rw [if_neg (by omega), if_neg (by omega)]
      match st, e with
      | [], e => exact absurd e (by simp)
      | [x], e => exact absurd e (by simp)
      | y :: x :: r, e =>
        rw [if_pos (by simp only [List.length_cons]; omega)] at e
        exact evE_len (st := opE q.1 x y :: r) e
/-- a pile, its top first -/
def pile (o : Nat) (σ : gS) : List Int32 → Prop
  | [] => True
  | x :: r => σ.1 o r.length = x ∧ pile o σ r
theorem pile_w {o k : Nat} {σ : gS} {v : Int32} : ∀ {st : List Int32}, pile o σ st → st.length ≤ k → pile o (wI σ o k v) st
  | [], _, _ => trivial
  | x :: r, h, hk => by
    simp only [List.length_cons] at hk
    refine ⟨?_, pile_w h.2 (by omega)⟩
    rw [wI_1, if_neg (fun q => by omega)]
    exact h.1
theorem pile_o {o o' k : Nat} {σ : gS} {v : Int32} (ho : o ≠ o') : ∀ {st : List Int32}, pile o σ st → pile o (wI σ o' k v) st
  | [], _ => trivial
  | x :: r, h => by
    refine ⟨?_, pile_o ho h.2⟩
    rw [wI_1, if_neg (fun q => ho q.1)]
    exact h.1
theorem cdR_f4 {τ υ : gS} {s : Nat} {c : List cEl} (h : fr (onO 34) τ υ) (hc : cdR τ s c) : cdR υ s c := fun i q e => by
  obtain ⟨h1, h2⟩ := hc i q e
  exact ⟨(fr_1 h rfl).trans h1, (fr_1 h rfl).trans h2⟩
theorem cdR_t {τ : gS} {s : Nat} {q : cEl} {c : List cEl} (h : cdR τ s (q :: c)) : cdR τ (s + 1) c := fun i x e => by
  have := h (i + 1) x (by simpa using e)
  rw [show s + 1 + i = s + (i + 1) by omega]
  exact this
noncomputable def tmF (e : Int32) : Int32 × Int32 × gS → Option ((Int32 × Int32 × gS) ⊕ gS) := fun (z2 : (Int32 × Int32 × gS)) => if e ≤ z2.1 then some (.inr z2.2.2) else gx z2.1 840 (lt' (z2.2.2.1 30 z2.1.toNatClampNeg) (fun x3 => if (2 : Int32) ≤ x3 then lt' (z2.2.1 + (-1 : Int32)) (fun x4 => gx (x4 - (1 : Int32)) 400 (lt' (z2.2.2.1 34 (x4 - (1 : Int32)).toNatClampNeg) (fun x5 => gx x4 400 (lt' (z2.2.2.1 34 x4.toNatClampNeg) (fun x6 => if x3 = (2 : Int32) then gx (x4 - (1 : Int32)) 400 (lt' (wI z2.2.2 34 (x4 - (1 : Int32)).toNatClampNeg (x5 + x6)) (fun s7 => lt' (z2.1 + (1 : Int32)) (fun x8 => some (.inl (x8, x4, s7))))) else if x3 = (3 : Int32) then gx (x4 - (1 : Int32)) 400 (lt' (wI z2.2.2 34 (x4 - (1 : Int32)).toNatClampNeg (x5 - x6)) (fun s9 => lt' (z2.1 + (1 : Int32)) (fun x10 => some (.inl (x10, x4, s9))))) else gx (x4 - (1 : Int32)) 400 (lt' (wI z2.2.2 34 (x4 - (1 : Int32)).toNatClampNeg (x5 * x6)) (fun s11 => lt' (z2.1 + (1 : Int32)) (fun x12 => some (.inl (x12, x4, s11)))))))))) else bn1 (if x3 = 0 then gx z2.1 840 (some (z2.2.2.1 31 z2.1.toNatClampNeg)) else gx z2.1 840 (gx (z2.2.2.1 31 z2.1.toNatClampNeg) 21 (some (z2.2.2.1 33 (z2.2.2.1 31 z2.1.toNatClampNeg).toNatClampNeg)))) (fun (z13 : Int32) => gx z2.2.1 400 (lt' (wI z2.2.2 34 z2.2.1.toNatClampNeg z13) (fun s14 => lt' (z2.2.1 + (1 : Int32)) (fun x15 => lt' (z2.1 + (1 : Int32)) (fun x16 => some (.inl (x16, x15, s14)))))))))
theorem tm_run {V : Nat → Int32} {e : Nat} (he : e ≤ 840) : ∀ (cs : List cEl) (p : Nat) (st : List Int32) (τ : gS), p + cs.length = e → hgE cs st.length 18 = some 1 → (∀ q ∈ cs, okE q) → cdR τ p cs → (∀ j, j ≤ 20 → τ.1 33 j = V j) → pile 34 τ st → st.length ≤ 18 → ∃ r, lpP (tmF (nI e)) (nI p, nI st.length, τ) = some r ∧ fr (onO 34) τ r ∧ pile 34 r (evE V cs st)
  | [], p, st, τ, hp, hg, hq, hc, hv, hpi, hl => by
    simp only [List.length_nil, Nat.add_zero] at hp
    subst hp
    refine ⟨τ, lpP_inr ?_, fr_rf, hpi⟩
    unfold tmF
    dsimp only
    rw [if_pos (nI_le (Nat.le_refl _) (by omega))]
  | q :: cs, p, st, τ, hp, hg, hq, hc, hv, hpi, hl => by
    simp only [List.length_cons] at hp
    obtain ⟨c1, c2⟩ := hc 0 q rfl
    rw [Nat.add_zero] at c1 c2
    obtain ⟨o1, o2⟩ := hq q (List.mem_cons_self ..)
    have hq' : ∀ x ∈ cs, okE x := fun x hx => hq x (List.mem_cons_of_mem _ hx)
    have go : ∀ (st' : List Int32) (k : Nat) (v : Int32), tmF (nI e) (nI p, nI st.length, τ) = some (.inl (nI (p + 1), nI st'.length, wI τ 34 k v)) → hgE cs st'.length 18 = some 1 → pile 34 (wI τ 34 k v) st' → st'.length ≤ 18 → ∃ r, lpP (tmF (nI e)) (nI p, nI st.length, τ) = some r ∧ fr (onO 34) τ r ∧ pile 34 r (evE V cs st') := by
      intro st' k v e1 e2 e3 e4
      have f1 : fr (onO 34) τ (wI τ 34 k v) := fr_wI rfl
      obtain ⟨r, g1, g2, g3⟩ := tm_run he cs (p + 1) st' (wI τ 34 k v) (by omega) e2 hq' (cdR_f4 f1 (cdR_t hc)) (fun j hj => (fr_1 f1 rfl).trans (hv j hj)) e3 e4
      exact ⟨r, by rw [lpP_inl e1]; exact g1, fr_tr f1 g2, g3⟩
    unfold hgE at hg
    unfold evE
    by_cases h2 : q.1 < 2
    · rw [if_pos h2] at hg
      by_cases h3 : st.length < 18
      case neg => rw [if_neg h3] at hg; exact absurd hg (by simp)
      rw [if_pos h3] at hg
      have n2 : ¬ (2 : Int32) ≤ nI q.1 := nI_ge (b := 2) h2 (by decide)
      by_cases h0 : q.1 = 0
      · rw [if_pos h0]
        refine go (q.2 :: st) st.length q.2 ?_ hg ⟨?_, pile_w hpi (Nat.le_refl _)⟩ (by simp only [List.length_cons]; omega)
        · unfold tmF
          dsimp only
          rw [if_neg (nI_ge (by omega) (by omega)), gx_i (by omega) (by decide), lt_b, nI_clamp (by omega), c1, if_neg n2, if_pos (show nI q.1 = 0 by rw [h0]; rfl), gx_i (by omega) (by decide), bn1_s, gx_i (by omega) (by decide), lt_b, lt_b, lt_b, c2, nI_clamp (by omega), nI_1, nI_1]
          rfl
        · exact wI_s
      · rw [if_neg h0, if_pos (show q.1 = 1 by omega)]
        obtain ⟨j, j1, j2⟩ := o2 (by omega)
        have ej : q.2.toNatClampNeg = j := by rw [j2, nI_clamp (by omega)]
        refine go (V q.2.toNatClampNeg :: st) st.length (V q.2.toNatClampNeg) ?_ hg ⟨?_, pile_w hpi (Nat.le_refl _)⟩ (by simp only [List.length_cons]; omega)
        · rw [ej]
          unfold tmF
          dsimp only
          rw [if_neg (nI_ge (by omega) (by omega)), gx_i (by omega) (by decide), lt_b, nI_clamp (by omega), c1, if_neg n2, if_neg (show ¬ nI q.1 = 0 from fun z => h0 ((nI_eq (b := 0) (by omega) (by decide)).mp z)), gx_i (by omega) (by decide), c2, j2, gx_i (by omega) (by decide), bn1_s, gx_i (by omega) (by decide), lt_b, lt_b, lt_b, nI_clamp (by omega), nI_clamp (by omega), hv j j1, nI_1, nI_1]
          rfl
        · exact wI_s
    · rw [if_neg h2] at hg
      rw [if_neg (by omega), if_neg (by omega)]
      have y2 : (2 : Int32) ≤ nI q.1 := nI_le (a := 2) (by omega) (by omega)
      rcases st with _ | ⟨y, _ | ⟨x, r⟩⟩
      · exact absurd hg (by simp)
      · exact absurd hg (by simp)
      · simp only [List.length_cons] at hl
        rw [if_pos (by simp only [List.length_cons]; omega)] at hg
        refine go (opE q.1 x y :: r) r.length (opE q.1 x y) ?_ hg ⟨wI_s, pile_w hpi.2.2 (Nat.le_refl _)⟩ (by simp only [List.length_cons]; omega)
        have p1 : τ.1 34 (r.length + 1) = y := hpi.1
        have p2 : τ.1 34 r.length = x := hpi.2.1
        unfold tmF opE
        dsimp only
        simp only [List.length_cons]
        rw [if_neg (nI_ge (by omega) (by omega)), gx_i (by omega) (by decide), lt_b, nI_clamp (by omega), c1, if_pos y2, lt_b, nI_m, nI_p, gx_i (by omega) (by decide), lt_b, gx_i (by omega) (by decide), lt_b, nI_clamp (by omega), nI_clamp (by omega), p1, p2]
        simp only [gx_i (show r.length < 400 by omega) (show 400 < 2 ^ 31 by decide), lt_b, nI_1]
        rcases (show q.1 = 2 ∨ q.1 = 3 ∨ q.1 = 4 by omega) with z | z | z
        · rw [z]; rfl
        · rw [z]; rfl
        · rw [z]; rfl
theorem termR {V : Nat → Int32} {τ : gS} {s : Nat} {c : List cEl} (hs : s + c.length ≤ 840) (hw : wfE c) (hc : cdR τ s c) (hv : ∀ j, j ≤ 20 → τ.1 33 j = V j) : ∃ τ', pX11_termOf (nI s) (nI (s + c.length)) τ = some (vE V c, τ') ∧ fr (onO 34) τ τ' := by
  obtain ⟨r, g1, g2, g3⟩ := tm_run (V := V) hs c s [] τ rfl hw.1 hw.2 hc hv trivial (by decide)
  have hl : (evE V c []).length = 1 := evE_len (m := 18) hw.1
  refine ⟨r, ?_, g2⟩
  unfold pX11_termOf
  have g1' : lpP (tmF (nI (s + c.length))) (nI s, (0 : Int32), τ) = some r := g1
  unfold tmF at g1'
  rw [g1', bn1_s, show (0 : Int32) = nI 0 from rfl, gx_i (by decide) (by decide), nI_clamp (by decide)]
  unfold vE
  match he : evE V c [], hl, g3 with
  | [x], _, g3 => rw [g3.1.symm]; rfl
