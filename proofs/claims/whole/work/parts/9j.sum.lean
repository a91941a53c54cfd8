/-! read: a sum, both sides -/
def wz (w : Nat) : Int32 := if w = 0 then -1 else nI (w + 19)
theorem hOf_r (l : Bool × Nat) (ls : List (Bool × Nat)) : hOf l ls = (opsL l).length + hOf (false, 0) ls := by
  cases ls with
  | nil => rfl
  | cons m ls' => show (opsL l).length + hOf m ls' = (opsL l).length + (0 + hOf m ls'); rw [Nat.zero_add]
theorem hg_xs : ∀ (xs : List Nat) (x : Nat), hgE (xs.map (fun x => (opk x, (0 : Int32)))) (xs.length + x + 1) 18 = some (x + 1)
  | [], x => by rw [List.map_nil, List.length_nil, Nat.zero_add]; rfl
  | y :: xs, x => by
    have h2 : ¬ opk y < 2 := by
      unfold opk
      split
      · decide
      · split <;> decide
    rw [List.map_cons, List.length_cons, hgE_c, if_neg h2, if_pos (by omega), show xs.length + 1 + x + 1 - 1 = xs.length + x + 1 by omega]
    exact hg_xs xs x
theorem ok_xs {xs : List Nat} : ∀ q ∈ xs.map (fun x => (opk x, (0 : Int32))), okE q := by
  intro q hq
  obtain ⟨y, -, rfl⟩ := List.mem_map.mp hq
  refine ⟨?_, fun z => ?_⟩
  · show opk y ≤ 4
    unfold opk
    split
    · decide
    · split <;> decide
  · exfalso
    revert z
    show opk y = 1 → False
    unfold opk
    split
    · decide
    · split <;> decide
theorem codS_tr {r : Nat} {σ τ υ : gS} (h : codS r σ τ) (h2 : codS r τ υ) : codS r σ υ := ⟨fun o k a b c => (h2.1 o k a b c).trans (h.1 o k a b c), h2.2.trans h.2⟩
theorem codS_rf {r : Nat} {σ : gS} : codS r σ σ := ⟨fun _ _ _ _ _ => rfl, rfl⟩
theorem addO {r : Nat} (hr : tR r = true) {c : Prop} [Decidable c] {a : Int32} {cs : List (Int32 × Int32)} {s : gS} (hd : s.2.2 3 1 = r) (h : CX r cs s) (hl : ¬ c → cs.length < 400) : ∃ s', (if c then some s else gT (s.2.2 3 1) tR (fun rr => bn1 (pX9_addStep rr a (0 : Int32) s) (fun s8 => some s8))) = some s' ∧ CX r (cs ++ (if c then [] else [(a, 0)])) s' ∧ codS r s s' := by
  by_cases hc : c
  · rw [if_pos hc, if_pos hc, List.append_nil]
    exact ⟨s, rfl, h, codS_rf⟩
  · obtain ⟨s', e1, e2, e3⟩ := addSC (a := a) (v := 0) hr h (hl hc)
    rw [if_neg hc, if_neg hc, hd, gT_p hr, e1, bn1_s]
    exact ⟨s', rfl, e2, e3⟩
section SUMS
variable {g : Int32 → gS → Option gS} {a i w t : Int32} {σ s4 z5 z11 : gS}
theorem su_29 (hi : ¬ (400 : Int32) < i) (e1 : g a σ = some s4) (e2 : (if t = 0 then some s4 else gT (s4.2.2 3 1) tR (fun rr6 => bn1 (pX9_addStep rr6 (29 : Int32) (0 : Int32) s4) (fun s8 => some s8))) = some z5) (h : z5.1 3 3 = 29) : suF g a (i, 1, w, t, σ) = bn1 (pX7_take z5) (fun s20 => some (.inl (i + 1, 1, w, 1, s20))) := by
  unfold suF
  dsimp only
  rw [if_neg hi, if_10, e1, bn1_s, e2, bn1_s, if_pos h, bn1_s, if_10, bn1_s, if_10, bn1_s, if_10]
  rfl
theorem su_op {T : Nat} (hi : ¬ (400 : Int32) < i) (e1 : g a σ = some s4) (e2 : (if t = 0 then some s4 else gT (s4.2.2 3 1) tR (fun rr6 => bn1 (pX9_addStep rr6 (29 : Int32) (0 : Int32) s4) (fun s8 => some s8))) = some z5) (e3 : (if w = (-1 : Int32) then some z5 else gT (z5.2.2 3 1) tR (fun rr12 => bn1 (pX9_addStep rr12 w (0 : Int32) z5) (fun s14 => some s14))) = some z11) (h : z5.1 3 3 = nI T) (h' : z11.1 3 3 = nI T) (hT : T = 27 ∨ T = 28) : suF g a (i, 1, w, t, σ) = bn1 (pX7_take z11) (fun s20 => some (.inl (i + 1, 1, nI T, 0, s20))) := by
  unfold suF
  dsimp only
  rw [if_neg hi, if_10, e1, bn1_s, e2, bn1_s, h, if_neg (show ¬ nI T = 29 by rcases hT with rfl | rfl <;> decide), bn1_s, if_00, e3, bn1_s, h']
  rcases hT with rfl | rfl
  · rw [if_pos (show nI 27 = 27 from rfl), lt_b, bn1_s]
    dsimp only
    rw [if_00, if_neg (show ¬ nI 27 = -1 by decide), bn1_s, if_10]
    rfl
  · rw [if_neg (show ¬ nI 28 = 27 by decide), if_pos (show nI 28 = 28 from rfl), lt_b, bn1_s]
    dsimp only
    rw [if_00, if_neg (show ¬ nI 28 = -1 by decide), bn1_s, if_10]
    rfl
theorem su_end {T : Nat} (hi : ¬ (400 : Int32) < i) (e1 : g a σ = some s4) (e2 : (if t = 0 then some s4 else gT (s4.2.2 3 1) tR (fun rr6 => bn1 (pX9_addStep rr6 (29 : Int32) (0 : Int32) s4) (fun s8 => some s8))) = some z5) (e3 : (if w = (-1 : Int32) then some z5 else gT (z5.2.2 3 1) tR (fun rr12 => bn1 (pX9_addStep rr12 w (0 : Int32) z5) (fun s14 => some s14))) = some z11) (h : z5.1 3 3 = nI T) (h' : z11.1 3 3 = nI T) (hT : T ≤ 38) (n : T ≠ 27 ∧ T ≠ 28 ∧ T ≠ 29) : suF g a (i, 1, w, t, σ) = some (.inl (i + 1, 0, -1, 0, z11)) := by
  have n7 : ¬ nI T = (27 : Int32) := nI_neT (K := 27) n.1 (by omega) (by omega)
  have n8 : ¬ nI T = (28 : Int32) := nI_neT (K := 28) n.2.1 (by omega) (by omega)
  have n9 : ¬ nI T = (29 : Int32) := nI_neT (K := 29) n.2.2 (by omega) (by omega)
  unfold suF
  dsimp only
  rw [if_neg hi, if_10, e1, bn1_s, e2, bn1_s, h, if_neg n9, bn1_s, if_00, e3, bn1_s, h', if_neg n7, if_neg n8, bn1_s]
  dsimp only
  rw [if_00, if_pos rfl, bn1_s, if_00, lt_b]
end SUMS
section SUMQ
variable {N : Nat} {tk pl : Nat → Nat} {vl : Nat → Int64} {r L pc : Nat} {cs0 : List (Int32 × Int32)} {es0 : List cEl}
/-- behind a sum: the class has put out what the reference keeps waiting -/
def VX (N : Nat) (tk pl : Nat → Nat) (vl : Nat → Int64) (r L pc : Nat) (cs0 : List (Int32 × Int32)) (es0 : List cEl) (k : Nat) (l : Bool × Nat) (ls : List (Bool × Nat)) (d : List (Int32 × Int32)) (e : List cEl) (σ τ : gS) : Prop := rdC N tk pl vl k σ ∧ XR N tk pl vl (420 * L) k l ls (es0 ++ e) τ ∧ σ.2.2 3 1 = r ∧ CX r (cs0 ++ d) σ ∧ WW (pl k) σ τ ∧ d.length = e.length + (opsL l).length ∧ (σ.1 3 8 = 0 → d = (e ++ opsE l).map cm1) ∧ hgE e 0 18 = some (hOf l ls + 1) ∧ (∀ q ∈ e, okE q) ∧ (cs0 ++ d).length + pc + hOf (false, 0) ls ≤ k ∧ (es0 ++ e).length + hOf l ls ≤ k
def SO (N : Nat) (tk pl : Nat → Nat) (vl : Nat → Int64) (r L pc : Nat) (cs0 : List (Int32 × Int32)) (es0 : List cEl) (k : Nat) (ls : List (Bool × Nat)) (σ τ σ' : gS) : Prop := (∃ k' l' d' e' τ', k < k' ∧ lvOk l' ∧ lpU τ = lpC τ' ∧ fr (xH L) τ τ' ∧ VX N tk pl vl r L pc cs0 es0 k' l' ls d' e' σ' τ' ∧ (tk k' ≠ 27 ∧ tk k' ≠ 28 ∧ tk k' ≠ 29) ∧ (σ'.1 3 8 = 0 → σ.1 3 8 = 0)) ∨ ∃ f p, CS f p r σ' ∧ RS N tk pl vl L f p τ (lpU τ)
def UO (N : Nat) (tk pl : Nat → Nat) (vl : Nat → Int64) (r L pc : Nat) (cs0 : List (Int32 × Int32)) (es0 : List cEl) (k : Nat) (l : Bool × Nat) (ls : List (Bool × Nat)) (σ τ σ' : gS) : Prop := (∃ k' d' e' τ', k < k' ∧ lpU τ = lpC τ' ∧ fr (xH L) τ τ' ∧ UX N tk pl vl r L pc cs0 es0 k' l ls (hOf l ls + 1) d' e' σ' τ' ∧ (σ'.1 3 8 = 0 → σ.1 3 8 = 0)) ∨ ∃ f p, CS f p r σ' ∧ RS N tk pl vl L f p τ (lpU τ)
def UNp (N : Nat) (tk pl : Nat → Nat) (vl : Nat → Int64) (r L pc : Nat) (cs0 : List (Int32 × Int32)) (es0 : List cEl) (n dep : Nat) : Prop := ∀ k l ls d e σ τ, ls.length = dep → lvOk l → (∀ m ∈ ls, lvOk m) → UX N tk pl vl r L pc cs0 es0 k l ls (hOf l ls) d e σ τ → ∃ σ', (pSU n).2 (nI dep) σ = some σ' ∧ fr (sumF r) σ σ' ∧ UO N tk pl vl r L pc cs0 es0 k l ls σ τ σ'
def SMp (N : Nat) (tk pl : Nat → Nat) (vl : Nat → Int64) (r L pc : Nat) (cs0 : List (Int32 × Int32)) (es0 : List cEl) (n dep : Nat) : Prop := ∀ k ls d e σ τ, ls.length = dep → (∀ m ∈ ls, lvOk m) → UX N tk pl vl r L pc cs0 es0 k (false, 0) ls (hOf (false, 0) ls) d e σ τ → ∃ σ', (pSU n).1 (nI dep) σ = some σ' ∧ fr (sumF r) σ σ' ∧ SO N tk pl vl r L pc cs0 es0 k ls σ τ σ'
/-- both take an operator, and both are before a unit again, or stopped -/
theorem opQ (hT : TkOK N tk pl) (hr : tR r = true) (hL : L < 2) {k : Nat} {l l' : Bool × Nat} {ls : List (Bool × Nat)} {xs w : List Nat} {d x : List (Int32 × Int32)} {e : List cEl} {σ τ z : gS} (hu : UX N tk pl vl r L pc cs0 es0 k l ls (hOf l ls + 1) d e σ τ) (hls : ls.length ≤ 6) (ht : tk k = 27 ∨ tk k = 28 ∨ tk k = 29) (hx : ∀ y ∈ xs, y = 8 ∨ y = 9 ∨ y = 10) (ha : tk k ≠ 29 ∨ ∀ y ∈ xs, y = 10) (hw1 : wOf l ls = xs ++ w) (hw2 : wOf l' ls = kp (tk k) :: w) (hs : w = [] ∨ (∃ w', w = 6 :: w') ∨ (tk k = 29 ∧ ∃ y w', w = y :: w' ∧ (y = 8 ∨ y = 9))) (ho : hOf l ls + 1 = xs.length + hOf l' ls) (ho' : 0 < hOf l' ls) (hc : CX r (cs0 ++ (d ++ x)) z) (hxl : x.length = xs.length) (hxm : x = (xs.map (fun y => (opk y, (0 : Int32)))).map cm1) (hz : codS r σ z) : ∃ s, pX7_take z = some s ∧ fr (sumF r) σ s ∧ s.1 3 8 = σ.1 3 8 ∧ ((∃ e' τ', k < 400 ∧ lpC τ = lpU τ' ∧ fr (xH L) τ τ' ∧ UX N tk pl vl r L pc cs0 es0 (k + 1) l' ls (hOf l' ls) (d ++ x) e' s τ') ∨ (CS 2 (pl k) r s ∧ RS N tk pl vl L 2 (pl k) τ (lpC τ))) := by
  obtain ⟨u1, u2, u3, u4, u5, u6, u7, u8, u9, u10, u11⟩ := hu
  have h9 := tR_9 hr
  have hk := u1.1
  have hk4 := k_400 hT hk
  have hf : fpO 2 (pl k) := ⟨Or.inr rfl, (hT.2.2.2.1 k hk).2⟩
  have ds := rdC_cod hr u1 hz
  obtain ⟨g1, g2⟩ := c_op (L := L) hT hL u2 hk ht hls (Nat.le_refl _) hx ha hw1 hw2 hs (by omega)
  have z8 : z.1 3 8 = σ.1 3 8 := hz.1 3 8 (by omega) (by omega) (by omega)
  have z9 : z.1 3 9 = σ.1 3 9 := hz.1 3 9 (by omega) (by omega) (by omega)
  have zd : z.2.2 3 1 = r := by rw [hz.2]; exact u3
  have lx : (cs0 ++ (d ++ x)).length = (cs0 ++ d).length + xs.length := by
    rw [List.length_append, List.length_append, List.length_append, hxl, Nat.add_assoc]
  by_cases h4 : k < 400
  · obtain ⟨τ', a1, a2, a3⟩ := g1 h4
    obtain ⟨s, b1, b2, b3⟩ := takeC1 hT ds (by omega) h4
    have e8 : s.1 3 8 = σ.1 3 8 := (fr_1 b3 rfl).trans z8
    refine ⟨s, b1, fr_tr (codS_f hz) (hdC_s b3), e8, Or.inl ⟨e ++ xs.map (fun y => (opk y, 0)), τ', h4, a1, xH_x a3, b2, ?_, (fr_3 b3 rfl).trans zd, CX_h hr b3 hc, ?_, ?_, ?_, ?_, ?_, ?_, ?_⟩⟩
    · rw [← List.append_assoc]; exact a2
    · exact WW_up (Nat.le_of_lt (pl_next hT b2.1)) (WW_eq e8 ((fr_1 b3 rfl).trans z9) (fr_1 a3 rfl) (fr_1 a3 rfl) u5)
    · rw [List.length_append, List.length_append, List.length_map, u6, hxl]
    · intro q
      rw [e8] at q
      rw [u7 q, hxm, List.map_append]
    · rw [hg_app e _ 0 _ u8, ho]
      obtain ⟨y, hy⟩ : ∃ y, hOf l' ls = y + 1 := ⟨hOf l' ls - 1, by omega⟩
      rw [hy]
      exact hg_xs xs y
    · intro q hq
      rcases List.mem_append.mp hq with y | y
      · exact u9 q y
      · exact ok_xs q y
    · rw [lx]; omega
    · rw [← List.append_assoc, List.length_append, List.length_map]; omega
  · have h4 : k = 400 := by omega
    obtain ⟨s, b1, b2, b3⟩ := takeC2 ds h4
    exact ⟨s, b1, fr_tr (codS_f hz) (hdC_s b3), (fr_1 b3 rfl).trans z8, Or.inr ⟨CS_h hr hf b2 zd ⟨_, by rw [lx]; omega, hc.1⟩ b3, g2 h4⟩⟩
end SUMQ
