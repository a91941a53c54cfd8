/-! read: the reference's sum: an operator -/
section EXR3
variable {N : Nat} {tk pl : Nat → Nat} {vl : Nat → Int64}
def restL (ls : List (Bool × Nat)) : List Nat := match ls with
  | [] => []
  | m :: ls' => 6 :: wOf m ls'
theorem wOf_r (l : Bool × Nat) (ls : List (Bool × Nat)) : wOf l ls = opsL l ++ restL ls := by
  cases ls with
  | nil => exact (List.append_nil _).symm
  | cons m ls' => rfl
theorem c_op (hT : TkOK N tk pl) {L c0 k : Nat} {l l' : Bool × Nat} {ls : List (Bool × Nat)} {xs w : List Nat} {es : List cEl} {τ : gS} (hL : L < 2) (h : XR N tk pl vl c0 k l ls es τ) (hk : k < N) (ht : tk k = 27 ∨ tk k = 28 ∨ tk k = 29) (hls : ls.length ≤ 6) (h1 : 420 * L ≤ c0) (hx : ∀ x ∈ xs, x = 8 ∨ x = 9 ∨ x = 10) (ha : tk k ≠ 29 ∨ ∀ x ∈ xs, x = 10) (hw1 : wOf l ls = xs ++ w) (hw2 : wOf l' ls = kp (tk k) :: w) (hs : w = [] ∨ (∃ w', w = 6 :: w') ∨ (tk k = 29 ∧ ∃ x w', w = x :: w' ∧ (x = 8 ∨ x = 9))) (h2 : c0 + es.length + xs.length ≤ 420 * L + 420) : (k < 400 → ∃ τ', lpC τ = lpU τ' ∧ XR N tk pl vl c0 (k + 1) l' ls (es ++ xs.map (fun x => (opk x, 0))) τ' ∧ fr (xF L) τ τ') ∧ (k = 400 → RS N tk pl vl L 2 (pl k) τ (lpC τ)) := by
  obtain ⟨r1, r2, r3⟩ := h
  have hk4 := k_400 hT hk
  have hwl := wOf_l ls l
  rw [hw1] at r3 hwl
  have hww : w.length ≤ (xs ++ w).length := by rw [List.length_append]; omega
  have i35 : pX11_is (7 : Int32) τ = some (b01 (decide (tk k = 35))) := isR (K := 35) hT r1 hk (by decide)
  have i27 : pX11_is (8 : Int32) τ = some (b01 (decide (tk k = 27))) := isR (K := 27) hT r1 hk (by decide)
  have i28 : pX11_is (9 : Int32) τ = some (b01 (decide (tk k = 28))) := isR (K := 28) hT r1 hk (by decide)
  have i29 : pX11_is (10 : Int32) τ = some (b01 (decide (tk k = 29))) := isR (K := 29) hT r1 hk (by decide)
  have eC : inC 0 τ = some (.inr τ) := by
    unfold inC
    rw [i35, bn1_s, decide_eq_false (by omega), if_b0]
  have a0 : b01 (decide (tk k = 29)) = 0 ∨ ∀ x ∈ xs, x = 10 := ha.imp (fun z => by rw [decide_eq_false z]; rfl) id
  have s0 : w = [] ∨ (∃ w', w = 6 :: w') ∨ (b01 (decide (tk k = 29)) ≠ 0 ∧ ∃ x w', w = x :: w' ∧ (x = 8 ∨ x = 9)) := hs.imp id (fun z => z.imp id (fun y => ⟨by rw [decide_eq_true y.1]; decide, y.2⟩))
  obtain ⟨t1, e1, q1, q2, q3, q4⟩ := comesR (a := b01 (decide (tk k = 29))) (xs := xs) (w := w) hL h1 hx a0 r3 (by omega) h2 s0
  have d1 := rdR_same r1 q3 q4
  have o12 : t1.1 0 12 = nI ls.length := (q3 0 12 (by decide) (by decide) (by decide) (by decide)).trans r2
  have W2 := WX_push (x := kp (tk k)) q1
  have d2 : rdR N tk pl vl k (wI (wI t1 32 w.length (nI (kp (tk k)))) 0 48 (nI (w.length + 1))) := rdR_w (rdR_w d1 ⟨by omega, by decide, by decide, by decide⟩) ⟨by omega, by decide, by decide, by decide⟩
  have f2 : fr (xF L) τ (wI (wI t1 32 w.length (nI (kp (tk k)))) 0 48 (nI (w.length + 1))) := fr_tr q2 (fr_tr (fr_wI rfl) (fr_wI rfl))
  have z31 : (if b01 (decide (tk k = 27)) = 0 then bn1 (some (b01 (decide (tk k = 28)))) (fun v32 => if v32 = 0 then bn1 (some (b01 (decide (tk k = 29)))) (fun v34 => if v34 = 0 then some (0 : Int32) else some (1 : Int32)) else some (1 : Int32)) else some (1 : Int32)) = some 1 := by
    rcases ht with z | z | z
    · rw [decide_eq_true z]; rfl
    · rw [decide_eq_true z, decide_eq_false (show ¬ tk k = 27 by omega)]; rfl
    · rw [decide_eq_true z, decide_eq_false (show ¬ tk k = 27 by omega), decide_eq_false (show ¬ tk k = 28 by omega)]; rfl
  have body : ∀ s48, pX11_goesOn (wI (wI t1 32 w.length (nI (kp (tk k)))) 0 48 (nI (w.length + 1))) = some s48 → bodyC 0 τ = some (.inl (1, s48)) := fun s48 e => by
    unfold bodyC
    rw [lpP_inr eC, bn1_s]
    unfold tlC
    rw [i27, bn1_s, i28, i29, z31, bn1_s, if_10, bn1_s, e1, bn1_s, d1.1, gx_i (by omega) (by decide), q1.1, gx_i (by omega) (by decide), lt_b, nI_clamp (by omega), nI_clamp (by omega), (d1.2.2 k hk).1]
    have e3 : (wI t1 32 w.length (nI (kp (tk k)))).1 0 48 = nI w.length := by rw [wI_1, if_neg (by omega), q1.1]
    rw [e3, lt_b, nI_1, e, bn1_s]
  refine ⟨fun h4 => ?_, fun h4 => ?_⟩
  · obtain ⟨t2, e2, g1, g2⟩ := goesR1 d2 h4
    refine ⟨t2, ?_, ⟨g1, (fr_1 g2 rfl).trans ?_, ?_⟩, fr_tr f2 (hdR_x g2)⟩
    · show ctn 0 (bodyC 0 τ) = _
      rw [body t2 e2]
      exact lpU_1 g1.2.1
    · rw [wI_1, if_neg (by omega), wI_1, if_neg (by omega), o12]
    · rw [hw2]; exact WX_h g2 W2
  · obtain ⟨t2, e2, g1, g2⟩ := goesR2 d2 hk hT h4
    refine ⟨.inl t2, t2, ?_, rfl, g1, xH_x (fr_tr f2 (hdR_x g2))⟩
    show ctn 0 (bodyC 0 τ) = _
    rw [body t2 e2]
    show lpP (exF 0) (1, t2) = _
    rw [lp_ctn]
    unfold exF
    dsimp only
    rw [if_neg (show ¬ (1 : Int32) = 0 by decide), g1.1, if_neg (show ¬ nI 2 = 0 by decide)]
    rfl
end EXR3
