/-! read: all tells, both sides -/
noncomputable def prF : Int32 × gS → Option ((Int32 × gS) ⊕ gS) := fun (z6 : (Int32 × gS)) => if (400 : Int32) < z6.1 then some (.inr z6.2) else if (z6.2.1 3 3) = (36 : Int32) then some (.inr z6.2) else if (z6.2.1 3 3) = (38 : Int32) then some (.inr z6.2) else if (z6.2.1 3 3) = (0 : Int32) then bn1 (pX7_tellSign z6.2) (fun s8 => lt' (z6.1 + (1 : Int32)) (fun x9 => some (.inl (x9, s8)))) else if (z6.2.1 3 3) = (2 : Int32) then bn1 (pX7_tellSay z6.2) (fun s12 => lt' (z6.1 + (1 : Int32)) (fun x13 => some (.inl (x13, s12)))) else if (z6.2.1 3 3) = (3 : Int32) then bn1 (pX7_tellBook z6.2) (fun s16 => lt' (z6.1 + (1 : Int32)) (fun x17 => some (.inl (x17, s16)))) else if (z6.2.1 3 3) = (4 : Int32) then bn1 (pX7_tellWhen z6.2) (fun s20 => lt' (z6.1 + (1 : Int32)) (fun x21 => some (.inl (x21, s20)))) else if (z6.2.1 3 3) = (5 : Int32) then bn1 (pX7_tellLaw z6.2) (fun s24 => lt' (z6.1 + (1 : Int32)) (fun x25 => some (.inl (x25, s24)))) else bn1 (pX7_fail (1 : Int32) z6.2) (fun s28 => lt' (z6.1 + (1 : Int32)) (fun x29 => some (.inl (x29, s28))))
noncomputable def cpF : Int32 × gS → Option ((Int32 × gS) ⊕ gS) := fun (z3 : (Int32 × gS)) => if (z3.2.1 0 4) ≤ z3.1 then some (.inr z3.2) else gx z3.1 2000 (gx z3.1 2000 (lt' (wI z3.2 2 z3.1.toNatClampNeg (z3.2.1 1 z3.1.toNatClampNeg).toInt8.toInt32) (fun s4 => lt' (z3.1 + (1 : Int32)) (fun x5 => some (.inl (x5, s4))))))
noncomputable def rdLp : gS → Option (gS ⊕ gS) := fun (z23 : gS) => if (z23.1 0 13) = 0 then bn1 (pX11_is (0 : Int32) z23) (fun v24 => if v24 = 0 then bn1 (pX11_tell z23) (fun s27 => some (.inl s27)) else some (.inr z23)) else some (.inr z23)
theorem pr_s {f p r : Nat} {i : Int32} {σ : gS} (h : CS f p r σ) : prF (i, σ) = some (.inr σ) := by
  unfold prF
  dsimp only
  rw [h.2.1.1, if_neg (show ¬ (38 : Int32) = 36 by decide), if_pos rfl]
  split <;> rfl
theorem v_8 : ∀ T, T ≤ 37 → T = 0 ∨ T = 2 ∨ T = 3 ∨ T = 4 ∨ T = 5 ∨ T = 36 ∨ ((¬ nI T = (0 : Int32) ∧ ¬ nI T = (2 : Int32) ∧ ¬ nI T = (3 : Int32) ∧ ¬ nI T = (4 : Int32) ∧ ¬ nI T = (5 : Int32) ∧ ¬ nI T = (36 : Int32) ∧ ¬ nI T = (38 : Int32)) ∧ ¬ nI (kp T) = (20 : Int32) ∧ ¬ nI (kp T) = (22 : Int32) ∧ ¬ nI (kp T) = (23 : Int32) ∧ ¬ nI (kp T) = (24 : Int32) ∧ ¬ nI (kp T) = (25 : Int32)) := by decide +kernel
section TELLS
variable {N : Nat} {tk pl : Nat → Nat} {vl : Nat → Int64} {r L : Nat}
theorem rd_s {f p : Nat} {τ : gS} (hf : fpO f p) (h : spR N tk pl vl f p τ) : rdLp τ = some (.inr τ) := by
  unfold rdLp
  rw [if_neg (sp_n hf h).1]
theorem tellsQ (hT : TkOK N tk pl) (hr : tR r = true) (hL : L < 2) : ∀ (m i k : Nat) (cs : List (Int32 × Int32)) (es : List cEl) (lts : List lEl) (Θ : Tld) (nm : List nEl) (σ τ : gS), 401 - k ≤ m → i ≤ k → MX N tk pl vl r L k cs es lts Θ nm nm σ τ → ∃ σ' τ', lpP prF (nI i, σ) = some σ' ∧ lpP rdLp τ = some τ' ∧ fr (pcF r) σ σ' ∧ fr (tF L) τ τ' ∧ ((∃ k' cs' es' lts' Θ' nm', MX N tk pl vl r L k' cs' es' lts' Θ' nm' nm' σ' τ') ∨ SS N tk pl vl r σ' τ') := by
  intro m
  induction m with
  | zero =>
    intro i k cs es lts Θ nm σ τ hm hi h
    have := k_400 hT h.1.1.1
    omega
  | succ m ih =>
    intro i k cs es lts Θ nm σ τ hm hi h
    have hk := h.1.1.1
    have hk4 := k_400 hT hk
    have htk := (hT.2.2.2.1 k hk).1
    have hi4 : ¬ (400 : Int32) < nI i := nI_nlt (b := i) (a := 400) (by omega) (by decide)
    have t3 := h.1.1.2.2.1
    have iE : pX11_is (0 : Int32) τ = some (b01 (decide (tk k = 36))) := isR (K := 36) hT h.1.2.1 hk (by decide)
    have eR : tk k ≠ 36 → ∀ τ1, pX11_tell τ = some τ1 → rdLp τ = some (.inl τ1) := fun hn τ1 e => by
      unfold rdLp
      rw [h.1.2.1.2.1, if_00, iE, bn1_s, decide_eq_false hn, if_b0, e, bn1_s]
    have go : ∀ σ1 τ1, prF (nI i, σ) = some (.inl (nI (i + 1), σ1)) → rdLp τ = some (.inl τ1) → fr (pcF r) σ σ1 → fr (tF L) τ τ1 → TO N tk pl vl r L k σ1 τ1 → ∃ σ' τ', lpP prF (nI i, σ) = some σ' ∧ lpP rdLp τ = some τ' ∧ fr (pcF r) σ σ' ∧ fr (tF L) τ τ' ∧ ((∃ k' cs' es' lts' Θ' nm', MX N tk pl vl r L k' cs' es' lts' Θ' nm' nm' σ' τ') ∨ SS N tk pl vl r σ' τ') := fun σ1 τ1 e1 e2 f1 f2 o => by
      rcases o with ⟨k', x1, x2, x3, x4, x5, x6, x7⟩ | ⟨f, p, o1, o2⟩
      · obtain ⟨σ', τ', y1, y2, y3, y4, y5⟩ := ih (i + 1) k' x1 x2 x3 x4 x5 σ1 τ1 (by omega) (by omega) x7
        exact ⟨σ', τ', by rw [lpP_inl e1, y1], by rw [lpP_inl e2, y2], fr_tr f1 y3, fr_tr f2 y4, y5⟩
      · exact ⟨σ1, τ1, by rw [lpP_inl e1, lpP_inr (pr_s o1)], by rw [lpP_inl e2, lpP_inr (rd_s o1.1 o2)], f1, f2, Or.inr ⟨f, p, o1, o2⟩⟩
    rcases v_8 (tk k) htk with z | z | z | z | z | z | ⟨⟨z1, z2, z3, z4, z5, z6, z7⟩, z8, z9, z10, z11, z12⟩
    · obtain ⟨σ1, τ1, y1, y2, y3, y4, y5⟩ := signQ hT hr hL h z
      refine go σ1 τ1 ?_ (eR (by omega) _ y2) y3 y4 y5
      unfold prF
      dsimp only
      rw [if_neg hi4, t3, z, if_neg (show ¬ nI 0 = 36 by decide), if_neg (show ¬ nI 0 = 38 by decide), if_pos (show nI 0 = 0 from rfl), y1, bn1_s, lt_b, nI_1]
    · obtain ⟨σ1, τ1, y1, y2, y3, y4, y5⟩ := sayQ hT hr hL h z
      refine go σ1 τ1 ?_ (eR (by omega) _ y2) y3 y4 y5
      unfold prF
      dsimp only
      rw [if_neg hi4, t3, z, if_neg (show ¬ nI 2 = 36 by decide), if_neg (show ¬ nI 2 = 38 by decide), if_neg (show ¬ nI 2 = 0 by decide), if_pos (show nI 2 = 2 from rfl), y1, bn1_s, lt_b, nI_1]
    · obtain ⟨σ1, τ1, y1, y2, y3, y4, y5⟩ := bookQ hT hr hL h z
      refine go σ1 τ1 ?_ (eR (by omega) _ y2) y3 y4 y5
      unfold prF
      dsimp only
      rw [if_neg hi4, t3, z, if_neg (show ¬ nI 3 = 36 by decide), if_neg (show ¬ nI 3 = 38 by decide), if_neg (show ¬ nI 3 = 0 by decide), if_neg (show ¬ nI 3 = 2 by decide), if_pos (show nI 3 = 3 from rfl), y1, bn1_s, lt_b, nI_1]
    · obtain ⟨σ1, τ1, y1, y2, y3, y4, y5⟩ := whenQ hT hr hL h z
      refine go σ1 τ1 ?_ (eR (by omega) _ y2) y3 y4 y5
      unfold prF
      dsimp only
      rw [if_neg hi4, t3, z, if_neg (show ¬ nI 4 = 36 by decide), if_neg (show ¬ nI 4 = 38 by decide), if_neg (show ¬ nI 4 = 0 by decide), if_neg (show ¬ nI 4 = 2 by decide), if_neg (show ¬ nI 4 = 3 by decide), if_pos (show nI 4 = 4 from rfl), y1, bn1_s, lt_b, nI_1]
    · obtain ⟨σ1, τ1, y1, y2, y3, y4, y5⟩ := lawQ hT hr hL h z
      refine go σ1 τ1 ?_ (eR (by omega) _ y2) y3 y4 y5
      unfold prF
      dsimp only
      rw [if_neg hi4, t3, z, if_neg (show ¬ nI 5 = 36 by decide), if_neg (show ¬ nI 5 = 38 by decide), if_neg (show ¬ nI 5 = 0 by decide), if_neg (show ¬ nI 5 = 2 by decide), if_neg (show ¬ nI 5 = 3 by decide), if_neg (show ¬ nI 5 = 4 by decide), if_pos (show nI 5 = 5 from rfl), y1, bn1_s, lt_b, nI_1]
    · refine ⟨σ, τ, lpP_inr ?_, lpP_inr ?_, fr_rf, fr_rf, Or.inl ⟨k, cs, es, lts, Θ, nm, h⟩⟩
      · unfold prF
        dsimp only
        rw [if_neg hi4, t3, z, if_pos (show nI 36 = 36 from rfl)]
      · unfold rdLp
        rw [h.1.2.1.2.1, if_00, iE, bn1_s, decide_eq_true z, if_b1]
    · obtain ⟨σ1, τ1, e1, e2, f1, f2, ss⟩ := failGO (f := 1) hT hr (Or.inl rfl) h.1
      simp only [show nI 1 = 1 from rfl] at e1 e2
      refine go σ1 τ1 ?_ (eR (fun z => z6 (by rw [z]; rfl)) _ ?_) (hdC_p f1) (hdR_t f2) (Or.inr ss)
      · unfold prF
        dsimp only
        rw [if_neg hi4, t3, if_neg z6, if_neg z7, if_neg z1, if_neg z2, if_neg z3, if_neg z4, if_neg z5, e1, bn1_s, lt_b, nI_1]
      · rw [tell_un hT h.1.2.1 hk rfl, if_neg z8, if_neg z9, if_neg z10, if_neg z11, if_neg z12, e2, bn1_s]
end TELLS
