/-! read: what waits, and how it comes out -/
noncomputable def cmF (a1 : Int32) : gS → Option (gS ⊕ (gS ⊕ gS)) := fun (z2 : gS) => if (z2.1 0 48) ≤ 0 then some (.inr (.inl z2)) else gx ((z2.1 0 48) - (1 : Int32)) 64 (lt' (z2.1 32 ((z2.1 0 48) - (1 : Int32)).toNatClampNeg) (fun x3 => if x3 = (6 : Int32) then some (.inr (.inr z2)) else bnS (if a1 = 0 then some (.inl ()) else if x3 = (8 : Int32) then some (.inr (.inr (.inr z2))) else if x3 = (9 : Int32) then some (.inr (.inr (.inr z2))) else some (.inl ())) (fun (z4 : Unit) => lt' (wI z2 0 48 ((z2.1 0 48) - (1 : Int32))) (fun s5 => if x3 = (8 : Int32) then bn1 (pX11_emit (2 : Int32) (0 : Int32) s5) (fun s7 => some (.inl s7)) else if x3 = (9 : Int32) then bn1 (pX11_emit (3 : Int32) (0 : Int32) s5) (fun s9 => some (.inl s9)) else bn1 (pX11_emit (4 : Int32) (0 : Int32) s5) (fun s11 => some (.inl s11))))))
def opsL (l : Bool × Nat) : List Nat := (if l.1 then [10] else []) ++ (if l.2 = 0 then [] else [l.2])
def wOf : (Bool × Nat) → List (Bool × Nat) → List Nat
  | l, [] => opsL l
  | l, m :: ls => opsL l ++ 6 :: wOf m ls
def lvOk (l : Bool × Nat) : Prop := l.2 = 0 ∨ l.2 = 8 ∨ l.2 = 9
/-- how many operators wait -/
def hOf : (Bool × Nat) → List (Bool × Nat) → Nat
  | l, [] => (opsL l).length
  | l, m :: ls => (opsL l).length + hOf m ls
theorem ops_2 (l : Bool × Nat) : (opsL l).length ≤ 2 := by
  unfold opsL
  rw [List.length_append]
  have h1 : (if l.1 then [10] else ([] : List Nat)).length ≤ 1 := by split <;> simp
  have h2 : (if l.2 = 0 then ([] : List Nat) else [l.2]).length ≤ 1 := by split <;> simp
  omega
theorem wOf_l : ∀ (ls : List (Bool × Nat)) (l : Bool × Nat), (wOf l ls).length ≤ 2 + 3 * ls.length
  | [], l => by
    have := ops_2 l
    show (opsL l).length ≤ _
    simp only [List.length_nil]
    omega
  | m :: ls, l => by
    have := ops_2 l
    have := wOf_l ls m
    show (opsL l ++ 6 :: wOf m ls).length ≤ _
    rw [List.length_append, List.length_cons, List.length_cons]
    omega
theorem hOf_l : ∀ (ls : List (Bool × Nat)) (l : Bool × Nat), hOf l ls ≤ 2 + 2 * ls.length
  | [], l => by
    have := ops_2 l
    show (opsL l).length ≤ _
    simp only [List.length_nil]
    omega
  | m :: ls, l => by
    have := ops_2 l
    have := hOf_l ls m
    show (opsL l).length + hOf m ls ≤ _
    rw [List.length_cons]
    omega
theorem hgE_c {q : cEl} {cs : List cEl} {h m : Nat} : hgE (q :: cs) h m = if q.1 < 2 then (if h < m then hgE cs (h + 1) m else none) else if 2 ≤ h then hgE cs (h - 1) m else none := rfl
theorem hg_app {m : Nat} : ∀ (a c : List cEl) (h h' : Nat), hgE a h m = some h' → hgE (a ++ c) h m = hgE c h' m
  | [], c, h, h', e => by
    simp only [hgE, Option.some.injEq] at e
    rw [e]; rfl
  | q :: a, c, h, h', e => by
    rw [List.cons_append, hgE_c]
    rw [hgE_c] at e
    by_cases h2 : q.1 < 2
    · rw [if_pos h2] at e ⊢
      by_cases h3 : h < m
      · rw [if_pos h3] at e ⊢
        exact hg_app a c _ _ e
      · rw [if_neg h3] at e; exact absurd e (by simp)
    · rw [if_neg h2] at e ⊢
      by_cases h3 : 2 ≤ h
      · rw [if_pos h3] at e ⊢
        exact hg_app a c _ _ e
      · rw [if_neg h3] at e; exact absurd e (by simp)
/-- what the reference has put out, and what waits -/
def WX (c0 : Nat) (w : List Nat) (es : List cEl) (τ : gS) : Prop := τ.1 0 48 = nI w.length ∧ pile 32 τ (w.map nI) ∧ τ.1 0 44 = nI (c0 + es.length) ∧ cdR τ c0 es
def xF (L o j : Nat) : Bool := (o == 0 && (j == 11 || (j == 12 || (j == 13 || (j == 14 || (j == 44 || j == 48)))))) || (o == 32 || ((o == 30 || o == 31) && (decide (420 * L ≤ j) && decide (j < 420 * L + 420))))
def xH (L o j : Nat) : Bool := xF L o j || (o == 0 && (j == 15 || j == 16))
theorem xH_x {L : Nat} {σ τ : gS} (f : fr (xF L) σ τ) : fr (xH L) σ τ := fr_up (fun o j q => by
  unfold xH at q
  exact (Bool.or_eq_false_iff.mp q).1) f
theorem xF_e {L o j : Nat} (h : o = 30 ∨ o = 31) (h1 : 420 * L ≤ j) (h2 : j < 420 * L + 420) : xF L o j = true := by
  unfold xF
  rw [decide_eq_true h1, decide_eq_true h2]
  rcases h with rfl | rfl <;> rfl
theorem pile_wO {o o' k : Nat} {σ : gS} {v : Int32} {st : List Int32} (ho : o ≠ o') (h : pile o σ st) : pile o (wI σ o' k v) st := pile_o ho h
theorem cdR_snoc {τ : gS} {s : Nat} {c : List cEl} {q : cEl} (h : cdR τ s c) (h1 : τ.1 30 (s + c.length) = nI q.1) (h2 : τ.1 31 (s + c.length) = q.2) : cdR τ s (c ++ [q]) := fun i x e => by
  rcases Nat.lt_trichotomy i c.length with z | z | z
  · rw [List.getElem?_append_left z] at e
    exact h i x e
  · subst z
    rw [List.getElem?_append_right (Nat.le_refl _), Nat.sub_self] at e
    simp only [List.getElem?_cons_zero, Option.some.injEq] at e
    subst e
    exact ⟨h1, h2⟩
  · rw [List.getElem?_eq_none (by rw [List.length_append]; simp; omega)] at e
    exact absurd e (by simp)
theorem cdR_wO {τ : gS} {s o j : Nat} {c : List cEl} {v : Int32} (h : cdR τ s c) (ho : (o ≠ 30 ∧ o ≠ 31) ∨ s + c.length ≤ j) : cdR (wI τ o j v) s c := fun i x e => by
  obtain ⟨h1, h2⟩ := h i x e
  have hi : i < c.length := by
    rcases Nat.lt_or_ge i c.length with z | z
    · exact z
    · rw [List.getElem?_eq_none z] at e; exact absurd e (by simp)
  rw [wI_1, wI_1, if_neg (by omega), if_neg (by omega)]
  exact ⟨h1, h2⟩
theorem emitR {L c0 k : Nat} {v : Int32} {w : List Nat} {es : List cEl} {τ : gS} (hL : L < 2) (h : WX c0 w es τ) (h1 : 420 * L ≤ c0) (h2 : c0 + es.length < 420 * L + 420) : ∃ τ', pX11_emit (nI k) v τ = some τ' ∧ WX c0 w (es ++ [(k, v)]) τ' ∧ fr (xF L) τ τ' ∧ (∀ o j, o ≠ 30 → o ≠ 31 → ¬ (o = 0 ∧ j = 44) → τ'.1 o j = τ.1 o j) ∧ τ'.2 = τ.2 := by
  obtain ⟨a1, a2, a3, a4⟩ := h
  unfold pX11_emit
  rw [a3, gx_i (by omega) (by decide), lt_b, nI_clamp (by omega)]
  generalize e1 : wI τ 30 (c0 + es.length) (nI k) = s1
  have b1 : s1.1 0 44 = nI (c0 + es.length) := by rw [← e1, wI_1, if_neg (by omega), a3]
  rw [b1, gx_i (by omega) (by decide), lt_b, nI_clamp (by omega)]
  generalize e2 : wI s1 31 (c0 + es.length) v = s2
  have b2 : s2.1 0 44 = nI (c0 + es.length) := by rw [← e2, wI_1, if_neg (by omega), b1]
  rw [b2, lt_b, nI_1]
  refine ⟨_, rfl, ⟨?_, ?_, ?_, ?_⟩, ?_, ?_, ?_⟩
  · rw [wI_1, if_neg (by omega), ← e2, wI_1, if_neg (by omega), ← e1, wI_1, if_neg (by omega), a1]
  · refine pile_o (by decide) ?_
    rw [← e2]; refine pile_o (by decide) ?_
    rw [← e1]; exact pile_o (by decide) a2
  · rw [wI_s, List.length_append]; rfl
  · refine cdR_wO (cdR_snoc (q := (k, v)) ?_ ?_ ?_) (Or.inl ⟨by decide, by decide⟩)
    · rw [← e2]; refine cdR_wO ?_ (Or.inr (Nat.le_refl _))
      rw [← e1]; exact cdR_wO a4 (Or.inr (Nat.le_refl _))
    · rw [← e2, wI_1, if_neg (by omega), ← e1, wI_s]
    · rw [← e2, wI_s]
  · refine fr_tr (τ := s2) ?_ (fr_wI rfl)
    rw [← e2]; refine fr_tr (τ := s1) ?_ (fr_wI (xF_e (Or.inr rfl) (by omega) (by omega)))
    rw [← e1]; exact fr_wI (xF_e (Or.inl rfl) (by omega) (by omega))
  · intro o j q1 q2 q3
    rw [wI_1, if_neg q3, ← e2, wI_1, if_neg (fun z => q2 z.1), ← e1, wI_1, if_neg (fun z => q1 z.1)]
  · rw [wI_2, ← e2, wI_2, ← e1, wI_2]
def opk (x : Nat) : Nat := if x = 8 then 2 else if x = 9 then 3 else 4
theorem cm_pop {L c0 x : Nat} {a : Int32} {w : List Nat} {es : List cEl} {τ : gS} (hL : L < 2) (hx : x = 8 ∨ x = 9 ∨ x = 10) (ha : a = 0 ∨ x = 10) (h : WX c0 (x :: w) es τ) (hw : w.length < 60) (h1 : 420 * L ≤ c0) (h2 : c0 + es.length < 420 * L + 420) : ∃ τ', cmF a τ = some (.inl τ') ∧ WX c0 w (es ++ [(opk x, 0)]) τ' ∧ fr (xF L) τ τ' ∧ (∀ o j, o ≠ 30 → o ≠ 31 → ¬ (o = 0 ∧ j = 44) → ¬ (o = 0 ∧ j = 48) → τ'.1 o j = τ.1 o j) ∧ τ'.2 = τ.2 := by
  obtain ⟨a1, a2, a3, a4⟩ := h
  rw [List.length_cons] at a1
  have hp : τ.1 32 w.length = nI x := by
    have := a2.1
    rw [List.length_map] at this
    exact this
  have hW : WX c0 w es (wI τ 0 48 (nI w.length)) := ⟨wI_s, pile_o (by decide) a2.2, by rw [wI_1, if_neg (by omega), a3], cdR_wO a4 (Or.inl ⟨by decide, by decide⟩)⟩
  have go : ∀ k, ∃ τ', bn1 (pX11_emit (nI k) 0 (wI τ 0 48 (nI w.length))) (fun s7 => (some (Sum.inl s7) : Option (gS ⊕ (gS ⊕ gS)))) = some (.inl τ') ∧ WX c0 w (es ++ [(k, 0)]) τ' ∧ fr (xF L) τ τ' ∧ (∀ o j, o ≠ 30 → o ≠ 31 → ¬ (o = 0 ∧ j = 44) → ¬ (o = 0 ∧ j = 48) → τ'.1 o j = τ.1 o j) ∧ τ'.2 = τ.2 := by
    intro k
    obtain ⟨τ', e, q1, q2, q3, q4⟩ := emitR (k := k) (v := 0) hL hW h1 h2
    refine ⟨τ', by rw [e, bn1_s], q1, fr_tr (fr_wI rfl) q2, fun o j z1 z2 z3 z4 => ?_, q4.trans wI_2⟩
    rw [q3 o j z1 z2 z3, wI_1, if_neg z4]
  unfold cmF
  rw [a1, if_neg (show ¬ nI (w.length + 1) ≤ 0 from nI_nle (by omega) (by omega)), nI_p, gx_i (by omega) (by decide), lt_b, nI_clamp (by omega), hp]
  rcases hx with rfl | rfl | rfl
  · have ha : a = 0 := ha.resolve_right (by decide)
    rw [if_neg (show ¬ nI 8 = 6 by decide), if_pos ha, bnS_l, lt_b, if_pos (show nI 8 = 8 from rfl)]
    exact go 2
  · have ha : a = 0 := ha.resolve_right (by decide)
    rw [if_neg (show ¬ nI 9 = 6 by decide), if_pos ha, bnS_l, lt_b, if_neg (show ¬ nI 9 = 8 by decide), if_pos (show nI 9 = 9 from rfl)]
    exact go 3
  · rw [if_neg (show ¬ nI 10 = 6 by decide)]
    by_cases h0 : a = 0
    · rw [if_pos h0, bnS_l, lt_b, if_neg (show ¬ nI 10 = 8 by decide), if_neg (show ¬ nI 10 = 9 by decide)]
      exact go 4
    · rw [if_neg h0, if_neg (show ¬ nI 10 = 8 by decide), if_neg (show ¬ nI 10 = 9 by decide), bnS_l, lt_b, if_neg (show ¬ nI 10 = 8 by decide), if_neg (show ¬ nI 10 = 9 by decide)]
      exact go 4
theorem cm_stop {c0 : Nat} {a : Int32} {w : List Nat} {es : List cEl} {τ : gS} (h : WX c0 w es τ) (hw : w.length < 60) (hs : w = [] ∨ (∃ w', w = 6 :: w') ∨ (a ≠ 0 ∧ ∃ x w', w = x :: w' ∧ (x = 8 ∨ x = 9))) : ∃ r, cmF a τ = some (.inr r) ∧ bnS (some r) (fun z => some z) = some τ := by
  obtain ⟨a1, a2, a3, a4⟩ := h
  unfold cmF
  rcases hs with rfl | ⟨w', rfl⟩ | ⟨ha, x, w', rfl, hx⟩
  · rw [a1, if_pos (show nI ([] : List Nat).length ≤ 0 by decide)]
    exact ⟨_, rfl, rfl⟩
  · rw [List.length_cons] at a1 hw
    have hp : τ.1 32 w'.length = nI 6 := by
      have := a2.1
      rw [List.length_map] at this
      exact this
    rw [a1, if_neg (show ¬ nI (w'.length + 1) ≤ 0 from nI_nle (by omega) (by omega)), nI_p, gx_i (by omega) (by decide), lt_b, nI_clamp (by omega), hp, if_pos (show nI 6 = 6 from rfl)]
    exact ⟨_, rfl, rfl⟩
  · rw [List.length_cons] at a1 hw
    have hp : τ.1 32 w'.length = nI x := by
      have := a2.1
      rw [List.length_map] at this
      exact this
    rw [a1, if_neg (show ¬ nI (w'.length + 1) ≤ 0 from nI_nle (by omega) (by omega)), nI_p, gx_i (by omega) (by decide), lt_b, nI_clamp (by omega), hp]
    rcases hx with rfl | rfl
    · rw [if_neg (show ¬ nI 8 = 6 by decide), if_neg ha, if_pos (show nI 8 = 8 from rfl)]
      exact ⟨_, rfl, rfl⟩
    · rw [if_neg (show ¬ nI 9 = 6 by decide), if_neg ha, if_neg (show ¬ nI 9 = 8 by decide), if_pos (show nI 9 = 9 from rfl)]
      exact ⟨_, rfl, rfl⟩

theorem cm_pops {L c0 : Nat} {a : Int32} (hL : L < 2) (h1 : 420 * L ≤ c0) {w : List Nat} : ∀ (xs : List Nat) (es : List cEl) (τ : gS), (∀ x ∈ xs, x = 8 ∨ x = 9 ∨ x = 10) → (a = 0 ∨ ∀ x ∈ xs, x = 10) → WX c0 (xs ++ w) es τ → (xs ++ w).length < 60 → c0 + es.length + xs.length ≤ 420 * L + 420 → ∃ τ', lpP (cmF a) τ = lpP (cmF a) τ' ∧ WX c0 w (es ++ xs.map (fun x => (opk x, 0))) τ' ∧ fr (xF L) τ τ' ∧ (∀ o j, o ≠ 30 → o ≠ 31 → ¬ (o = 0 ∧ j = 44) → ¬ (o = 0 ∧ j = 48) → τ'.1 o j = τ.1 o j) ∧ τ'.2 = τ.2
  | [], es, τ, _, _, h, _, _ => ⟨τ, rfl, by rw [List.map_nil, List.append_nil]; exact h, fr_rf, fun _ _ _ _ _ _ => rfl, rfl⟩
  | x :: xs, es, τ, hx, ha, h, hw, h2 => by
    rw [List.cons_append] at h hw
    rw [List.length_cons] at hw h2
    obtain ⟨τ1, e1, q1, q2, q3, q4⟩ := cm_pop (a := a) hL (hx x (List.mem_cons_self ..)) (ha.imp id (fun z => z x (List.mem_cons_self ..))) h (by omega) h1 (by omega)
    obtain ⟨τ2, e2, r1, r2, r3, r4⟩ := cm_pops hL h1 xs _ τ1 (fun y hy => hx y (List.mem_cons_of_mem _ hy)) (ha.imp id (fun z y hy => z y (List.mem_cons_of_mem _ hy))) q1 (by omega) (by rw [List.length_append, List.length_cons, List.length_nil]; omega)
    refine ⟨τ2, by rw [lpP_inl e1, e2], ?_, fr_tr q2 r2, fun o j z1 z2 z3 z4 => (r3 o j z1 z2 z3 z4).trans (q3 o j z1 z2 z3 z4), r4.trans q4⟩
    rw [List.map_cons]
    rw [List.append_assoc] at r1
    exact r1
theorem comesR {L c0 : Nat} {a : Int32} {xs w : List Nat} {es : List cEl} {τ : gS} (hL : L < 2) (h1 : 420 * L ≤ c0) (hx : ∀ x ∈ xs, x = 8 ∨ x = 9 ∨ x = 10) (ha : a = 0 ∨ ∀ x ∈ xs, x = 10) (h : WX c0 (xs ++ w) es τ) (hw : (xs ++ w).length < 60) (h2 : c0 + es.length + xs.length ≤ 420 * L + 420) (hs : w = [] ∨ (∃ w', w = 6 :: w') ∨ (a ≠ 0 ∧ ∃ x w', w = x :: w' ∧ (x = 8 ∨ x = 9))) : ∃ τ', pX11_comesOut a τ = some τ' ∧ WX c0 w (es ++ xs.map (fun x => (opk x, 0))) τ' ∧ fr (xF L) τ τ' ∧ (∀ o j, o ≠ 30 → o ≠ 31 → ¬ (o = 0 ∧ j = 44) → ¬ (o = 0 ∧ j = 48) → τ'.1 o j = τ.1 o j) ∧ τ'.2 = τ.2 := by
  obtain ⟨τ', e, q1, q2, q3, q4⟩ := cm_pops (w := w) hL h1 xs es τ hx ha h hw h2
  obtain ⟨r, r1, r2⟩ := cm_stop (a := a) q1 (by rw [List.length_append] at hw; omega) hs
  refine ⟨τ', ?_, q1, q2, q3, q4⟩
  show bnS (lpP (cmF a) τ) (fun z1 => some z1) = some τ'
  rw [e, lpP_inr r1]
  exact r2
