/-! read: a unit that is no bracket, both sides -/
section ATOMQ
variable {N : Nat} {tk pl : Nat → Nat} {vl : Nat → Int64} {r L pc : Nat} {cs0 : List (Int32 × Int32)} {es0 : List cEl}
theorem mustR1 (hT : TkOK N tk pl) {k K : Nat} {τ τ' : gS} (h : rdR N tk pl vl k τ) (hk : k < N) (ht : tk k = K) (e : pX11_goesOn τ = some τ') : pX11_must (nI (kp K)) τ = some τ' := by
  have := (hT.2.2.2.1 k hk).1
  unfold pX11_must
  rw [isR hT h hk (by omega), bn1_s, decide_eq_true ht, if_b1, e, bn1_s]
theorem mustR0 (hT : TkOK N tk pl) {k K : Nat} {τ τ' : gS} (h : rdR N tk pl vl k τ) (hk : k < N) (hK : K ≤ 37) (ht : tk k ≠ K) (e : pX11_fail 1 τ = some τ') : pX11_must (nI (kp K)) τ = some τ' := by
  unfold pX11_must
  rw [isR hT h hk hK, bn1_s, decide_eq_false ht, if_b0, e, bn1_s]
theorem cm_way : ∀ x, x ≤ 7 → ((9 : Int32), (4 : Int32) + nI x) = cm1 (1, nI x) := by decide +kernel
theorem cm_var : ∀ T, T ≤ 22 → 10 ≤ T → ((9 : Int32), nI (piV (T - 2))) = cm1 (1, nI (T - 2)) := by decide +kernel
theorem wayQ (hT : TkOK N tk pl) (hr : tR r = true) (hL : L < 2) {k h : Nat} {l : Bool × Nat} {ls : List (Bool × Nat)} {d : List (Int32 × Int32)} {e : List cEl} {σ τ : gS} {g : Int32 → gS → Option gS} {a : Int32} (hu : UX N tk pl vl r L pc cs0 es0 k l ls h d e σ τ) (hh : h < 18) (hls : ls.length ≤ 6) (ht : tk k = 9) : ∃ σ' τ', bX7_unit g a σ = some σ' ∧ pX11_unit τ = some τ' ∧ fr (sumF r) σ σ' ∧ fr (xH L) τ τ' ∧ UA N tk pl vl r L pc cs0 es0 k l ls h σ σ' τ' := by
  obtain ⟨u1, u2, u3, u4, u5, u6, u7, u8, u9, u10, u11⟩ := hu
  have hk := u1.1
  have hk4 := k_400 hT hk
  have h33 : σ.1 3 3 = nI 9 := by rw [u1.2.2.1, ht]
  by_cases h4 : k < 400
  · obtain ⟨s10, p1, p2, p3⟩ := takeC1 hT u1 (by omega) h4
    obtain ⟨s18, o1, o2, o3⟩ := goesR1 u2.1 h4
    have hk1 := p2.1
    have hk14 := k_400 hT hk1
    have hpl := (hT.2.2.2.1 (k + 1) hk1).2
    have m1 : s10.2.2 3 1 = r := (fr_3 p3 rfl).trans u3
    have m2 := CX_h hr p3 u4
    have m3 : WW (pl (k + 1)) s10 s18 := WW_up (Nat.le_of_lt (pl_next hT hk1)) (WW_eq (fr_1 p3 rfl) (fr_1 p3 rfl) (fr_1 o3 rfl) (fr_1 o3 rfl) u5)
    have m4 : s18.1 0 12 = nI ls.length := (fr_1 o3 rfl).trans u2.2.1
    have m5 := WX_h o3 u2.2.2
    have m8 : s10.1 3 8 = σ.1 3 8 := fr_1 p3 rfl
    have i2 : pX11_is (2 : Int32) s18 = some (b01 (decide (tk (k + 1) = 24))) := isR (K := 24) hT o2 hk1 (by decide)
    by_cases c24 : tk (k + 1) = 24
    · obtain ⟨x, x1, x2, x3⟩ := (o2.2.2 (k + 1) hk1).2.2.1 c24
      have v4 : s10.2.1 3 4 = lN x := p2.2.2.2.1.trans x2
      have t3 : s10.1 3 3 = 24 := by rw [p2.2.2.1, c24]; rfl
      by_cases hx : x ≤ 7
      · obtain ⟨s, σ', t, τ', a1, a2, a3, a4, b1, b2, b3, b4, e8, out⟩ := atom_core (pc := pc) (q := (1, nI x)) (a := 9) (v := (4 : Int32) + (s10.2.1 3 4).toInt32) hT hr hL (by omega) hls p2 ⟨o2, m4, m5⟩ m1 m2 (WW_up (by omega) m3) u6 (fun z => ⟨u7 (m8 ▸ z), by rw [v4, lN_i]; exact cm_way x hx⟩) u8 hh u9 (by show 1 < 2; decide) ⟨by show 1 ≤ 4; decide, fun _ => ⟨x, by omega, rfl⟩⟩ (by omega) (by omega)
        have c1 : (if (s10.1 3 3) = (24 : Int32) then if (lg_cmp (s10.2.1 3 4) (8 : Int64)) < 0 then some s10 else bn1 (pX7_blame (5 : Int32) s10) (fun s13 => some s13) else some s10) = some s10 := by
          rw [if_pos t3, v4, if_pos (show lg_cmp (lN x) (8 : Int64) < 0 from (lg_cmp_lt _ _).mpr ((lN_lt (a := x) (b := 8) (by omega) (by decide)).mpr (by omega)))]
        have r1 : bn1 (pX11_is 2 s18) (fun v19 => (if v19 = 0 then some s18 else gx (s18.1 0 11) 403 (if (s18.1 5 (s18.1 0 11).toNatClampNeg) ≤ (7 : Int32) then some s18 else bn1 (pX11_wrong (5 : Int32) (s18.1 0 11) s18) (fun s23 => some s23)))) = some s18 := by
          rw [i2, bn1_s, decide_eq_true c24, if_b1, o2.1, gx_i (by omega) (by decide), nI_clamp (by omega), x3, if_pos (show nI x ≤ (7 : Int32) from nI_le (b := 7) hx (by decide))]
        have r2 : bn1 (pX11_is 2 s18) (fun v24 => (if v24 = 0 then some (0 : Int32) else gx (s18.1 0 11) 403 (if (8 : Int32) ≤ (s18.1 5 (s18.1 0 11).toNatClampNeg) then some 0 else gx (s18.1 0 11) 403 (some (s18.1 5 (s18.1 0 11).toNatClampNeg))))) = some (nI x) := by
          rw [i2, bn1_s, decide_eq_true c24, if_b1, o2.1, gx_i (by omega) (by decide), nI_clamp (by omega), x3, if_neg (show ¬ (8 : Int32) ≤ nI x from nI_ge (b := 8) (by omega) (by decide)), gx_i (by omega) (by decide)]
        refine ⟨σ', τ', ?_, unitR_way hT u2.1 hk ht o1 r1 r2 b1 (mustR1 (K := 24) hT b2 hk1 c24 b3), fr_tr (hdC_s p3) a4, xH_x (fr_tr (hdR_x o3) b4), ?_⟩
        · rw [unitC_way hr h33 p1 c1 m1 a1, a2, c24, if_pos (show nI 24 = 24 from rfl), a3, bn1_s]
        · rcases out with ⟨z4, ux⟩ | ⟨z4, cs, sp⟩
          · exact Or.inl ⟨k + 1 + 1, _, _, by omega, ux, fun z => by rw [← m8, ← e8]; exact z⟩
          · exact Or.inr ⟨2, _, cs, sp⟩
      · obtain ⟨z11, z21, w1, w2, w3, w4, w5, w6⟩ := blame_w (c := 5) (j := k + 1) ⟨by decide, by decide⟩ hpl p2.2.2.2.2.1 o2.2.1 (o2.2.2 (k + 1) hk1).2.1 (by omega) m3
        simp only [show nI 5 = 5 from rfl] at w1 w2
        have o2' := rdR_bl w6 o2
        have i3 : pX11_is (2 : Int32) z21 = some (b01 (decide (tk (k + 1) = 24))) := isR (K := 24) hT o2' hk1 (by decide)
        obtain ⟨s, σ', t, τ', a1, a2, a3, a4, b1, b2, b3, b4, e8, out⟩ := atom_core (pc := pc) (q := (1, 0)) (a := 9) (v := (4 : Int32) + (z11.2.1 3 4).toInt32) hT hr hL (by omega) hls (rdC_bl w5 p2) ⟨o2', (fr_1 w6 rfl).trans m4, WX_bl w6 m5⟩ ((fr_3 w5 rfl).trans m1) (CX_bl hr w5 m2) w3 u6 (fun z => absurd z w4) u8 hh u9 (by decide) ⟨by decide, fun _ => ⟨0, by omega, rfl⟩⟩ (by omega) (by omega)
        have c1 : (if (s10.1 3 3) = (24 : Int32) then if (lg_cmp (s10.2.1 3 4) (8 : Int64)) < 0 then some s10 else bn1 (pX7_blame (5 : Int32) s10) (fun s13 => some s13) else some s10) = some z11 := by
          rw [if_pos t3, v4, if_neg (show ¬ lg_cmp (lN x) (8 : Int64) < 0 from fun z => absurd ((lN_lt (a := x) (b := 8) (by omega) (by decide)).mp ((lg_cmp_lt _ _).mp z)) (by omega)), w1, bn1_s]
        have r1 : bn1 (pX11_is 2 s18) (fun v19 => (if v19 = 0 then some s18 else gx (s18.1 0 11) 403 (if (s18.1 5 (s18.1 0 11).toNatClampNeg) ≤ (7 : Int32) then some s18 else bn1 (pX11_wrong (5 : Int32) (s18.1 0 11) s18) (fun s23 => some s23)))) = some z21 := by
          rw [i2, bn1_s, decide_eq_true c24, if_b1, o2.1, gx_i (by omega) (by decide), nI_clamp (by omega), x3, if_neg (show ¬ nI x ≤ (7 : Int32) from nI_ge (a := 7) (by omega) (by omega)), w2, bn1_s]
        have x3' : z21.1 5 (k + 1) = nI x := (fr_1 w6 rfl).trans x3
        have r2 : bn1 (pX11_is 2 z21) (fun v24 => (if v24 = 0 then some (0 : Int32) else gx (z21.1 0 11) 403 (if (8 : Int32) ≤ (z21.1 5 (z21.1 0 11).toNatClampNeg) then some 0 else gx (z21.1 0 11) 403 (some (z21.1 5 (z21.1 0 11).toNatClampNeg))))) = some 0 := by
          rw [i3, bn1_s, decide_eq_true c24, if_b1, o2'.1, gx_i (by omega) (by decide), nI_clamp (by omega), x3', if_pos (show (8 : Int32) ≤ nI x from nI_le (a := 8) (by omega) (by omega))]
        refine ⟨σ', τ', ?_, unitR_way hT u2.1 hk ht o1 r1 r2 b1 (mustR1 (K := 24) hT b2 hk1 c24 b3), fr_tr (hdC_s p3) (fr_tr (blC_s w5) a4), fr_tr (xH_x (hdR_x o3)) (fr_tr (blR_x w6) (xH_x b4)), ?_⟩
        · rw [unitC_way hr h33 p1 c1 ((fr_3 w5 rfl).trans m1) a1, a2, c24, if_pos (show nI 24 = 24 from rfl), a3, bn1_s]
        · rcases out with ⟨z4, ux⟩ | ⟨z4, cs, sp⟩
          · exact Or.inl ⟨k + 1 + 1, _, _, by omega, ux, fun z => absurd (e8 ▸ z) w4⟩
          · exact Or.inr ⟨2, _, cs, sp⟩
    · have t3 : ¬ s10.1 3 3 = 24 := by
        rw [p2.2.2.1]
        exact nI_neT (K := 24) c24 (by have := (hT.2.2.2.1 (k + 1) hk1).1; omega) (by omega)
      have c1 : (if (s10.1 3 3) = (24 : Int32) then if (lg_cmp (s10.2.1 3 4) (8 : Int64)) < 0 then some s10 else bn1 (pX7_blame (5 : Int32) s10) (fun s13 => some s13) else some s10) = some s10 := if_neg t3
      obtain ⟨s16, a1, a2, a3⟩ := addSC_z (a := 9) (v := (4 : Int32) + (s10.2.1 3 4).toInt32) hr m2.1 (by omega)
      have d16 := rdC_cod hr p2 a3
      obtain ⟨σ', b1, b2, b3⟩ := failC1 (f := 1) d16
      simp only [show nI 1 = 1 from rfl] at b1
      obtain ⟨t, e1, y1, y2, y3, y4⟩ := emitR (k := 1) (v := 0) hL m5 (Nat.le_refl _) (by omega)
      have dt : rdR N tk pl vl (k + 1) t := rdR_same o2 (fun o j z1 z2 z3 _ => y3 o j z1 z2 z3) y4
      obtain ⟨τ', f1, f2, f3⟩ := failR1 (f := 1) dt hk1 hT
      simp only [show nI 1 = 1 from rfl] at f1 e1
      have r1 : bn1 (pX11_is 2 s18) (fun v19 => (if v19 = 0 then some s18 else gx (s18.1 0 11) 403 (if (s18.1 5 (s18.1 0 11).toNatClampNeg) ≤ (7 : Int32) then some s18 else bn1 (pX11_wrong (5 : Int32) (s18.1 0 11) s18) (fun s23 => some s23)))) = some s18 := by
        rw [i2, bn1_s, decide_eq_false c24, if_b0]
      have r2 : bn1 (pX11_is 2 s18) (fun v24 => (if v24 = 0 then some (0 : Int32) else gx (s18.1 0 11) 403 (if (8 : Int32) ≤ (s18.1 5 (s18.1 0 11).toNatClampNeg) then some 0 else gx (s18.1 0 11) 403 (some (s18.1 5 (s18.1 0 11).toNatClampNeg))))) = some 0 := by
        rw [i2, bn1_s, decide_eq_false c24, if_b0]
      refine ⟨σ', τ', ?_, unitR_way hT u2.1 hk ht o1 r1 r2 e1 (mustR0 (K := 24) hT dt hk1 (by decide) c24 f1), fr_tr (hdC_s p3) (fr_tr (codS_f a3) (hdC_s b3)), xH_x (fr_tr (hdR_x o3) (fr_tr y2 (hdR_x f3))), Or.inr ⟨1, pl (k + 1), CS_h hr ⟨Or.inl rfl, hpl⟩ b2 (by rw [a3.2]; exact m1) a2 b3, f2⟩⟩
      rw [unitC_way hr h33 p1 c1 m1 a1, d16.2.2.1, if_neg (show ¬ nI (tk (k + 1)) = (24 : Int32) from nI_neT (K := 24) c24 (by have := (hT.2.2.2.1 (k + 1) hk1).1; omega) (by omega)), b1, bn1_s]
  · have h4 : k = 400 := by omega
    have hf : fpO 2 (pl k) := ⟨Or.inr rfl, (hT.2.2.2.1 k hk).2⟩
    obtain ⟨s10, p1, p2, p3⟩ := takeC2 u1 h4
    obtain ⟨s18, o1, o2, o3⟩ := goesR2 u2.1 hk hT h4
    have q0 : CS 2 (pl k) r s10 := CS_h hr hf p2 u3 ⟨_, by omega, u4.1⟩ p3
    obtain ⟨s16, a1, a2, a3⟩ := (KC_add (a := 9) (v := (4 : Int32) + (s10.2.1 3 4).toInt32)) s10 q0
    obtain ⟨σ', b1, b2, b3⟩ := (KC_fail (a := 1)) s16 a2
    have c1 : (if (s10.1 3 3) = (24 : Int32) then if (lg_cmp (s10.2.1 3 4) (8 : Int64)) < 0 then some s10 else bn1 (pX7_blame (5 : Int32) s10) (fun s13 => some s13) else some s10) = some s10 := if_neg (by rw [p2.1]; decide)
    obtain ⟨t, e1, y1, y2, y3, y4⟩ := emitR (k := 1) (v := 0) hL (WX_h o3 u2.2.2) (Nat.le_refl _) (by omega)
    simp only [show nI 1 = 1 from rfl] at e1
    have dt : spR N tk pl vl 2 (pl k) t := spR_same o2 (fun o j z1 z2 z3 _ => y3 o j z1 z2 z3) y4
    have r1 : bn1 (pX11_is 2 s18) (fun v19 => (if v19 = 0 then some s18 else gx (s18.1 0 11) 403 (if (s18.1 5 (s18.1 0 11).toNatClampNeg) ≤ (7 : Int32) then some s18 else bn1 (pX11_wrong (5 : Int32) (s18.1 0 11) s18) (fun s23 => some s23)))) = some s18 := by
      rw [isR_s hf o2, bn1_s, if_00]
    have r2 : bn1 (pX11_is 2 s18) (fun v24 => (if v24 = 0 then some (0 : Int32) else gx (s18.1 0 11) 403 (if (8 : Int32) ≤ (s18.1 5 (s18.1 0 11).toNatClampNeg) then some 0 else gx (s18.1 0 11) 403 (some (s18.1 5 (s18.1 0 11).toNatClampNeg))))) = some 0 := by
      rw [isR_s hf o2, bn1_s, if_00]
    refine ⟨σ', t, ?_, unitR_way hT u2.1 hk ht o1 r1 r2 e1 (mustR_s hf dt), fr_tr (hdC_s p3) (fr_tr a3 b3), xH_x (fr_tr (hdR_x o3) y2), Or.inr ⟨2, _, b2, dt⟩⟩
    rw [unitC_way hr h33 p1 c1 q0.2.2.1 a1, a2.2.1.1, if_neg (show ¬ (38 : Int32) = 24 by decide), b1, bn1_s]
theorem atomQ (hT : TkOK N tk pl) (hr : tR r = true) (hL : L < 2) {k h : Nat} {l : Bool × Nat} {ls : List (Bool × Nat)} {d : List (Int32 × Int32)} {e : List cEl} {σ τ : gS} {g : Int32 → gS → Option gS} {a : Int32} (hu : UX N tk pl vl r L pc cs0 es0 k l ls h d e σ τ) (hh : h < 18) (hls : ls.length ≤ 6) (ht : tk k ≠ 34) : ∃ σ' τ', bX7_unit g a σ = some σ' ∧ pX11_unit τ = some τ' ∧ fr (sumF r) σ σ' ∧ fr (xH L) τ τ' ∧ UA N tk pl vl r L pc cs0 es0 k l ls h σ σ' τ' := by
  by_cases c9 : tk k = 9
  · exact wayQ hT hr hL hu hh hls c9
  obtain ⟨u1, u2, u3, u4, u5, u6, u7, u8, u9, u10, u11⟩ := hu
  have hk := u1.1
  have hk4 := k_400 hT hk
  have htk := (hT.2.2.2.1 k hk).1
  by_cases c24 : tk k = 24
  · obtain ⟨x, x1, x2, x3⟩ := (u2.1.2.2 k hk).2.2.1 c24
    obtain ⟨s, σ', t, τ', a1, a2, a3, a4, b1, b2, b3, b4, e8, out⟩ := atom_core (pc := pc) (q := (0, nI x)) (a := 24) (v := (σ.2.1 3 4).toInt32) hT hr hL (by omega) hls u1 u2 u3 u4 (WW_up (by omega) u5) u6 (fun z => ⟨u7 z, by rw [u1.2.2.2.1, x2, lN_i]; rfl⟩) u8 hh u9 (by show 0 < 2; decide) ⟨by show 0 ≤ 4; decide, fun z => absurd z (by show ¬ 0 = 1; decide)⟩ u10 u11
    refine ⟨σ', τ', unitC_int hr (by rw [u1.2.2.1, c24]) u3 a1 (by rw [a2, c24]) a3, unit_int hT u2.1 hk c24 x3 b1 b3, a4, xH_x b4, ?_⟩
    rcases out with ⟨z4, ux⟩ | ⟨z4, cs, sp⟩
    · exact Or.inl ⟨k + 1, _, _, by omega, ux, fun z => by rw [← e8]; exact z⟩
    · exact Or.inr ⟨2, _, cs, sp⟩
  by_cases cv : 10 ≤ tk k ∧ tk k ≤ 22
  · obtain ⟨s, σ', t, τ', a1, a2, a3, a4, b1, b2, b3, b4, e8, out⟩ := atom_core (pc := pc) (q := (1, nI (tk k - 2))) (a := 9) (v := nI (piV (tk k - 2))) hT hr hL (by omega) hls u1 u2 u3 u4 (WW_up (by omega) u5) u6 (fun z => ⟨u7 z, cm_var _ cv.2 cv.1⟩) u8 hh u9 (by show 1 < 2; decide) ⟨by show 1 ≤ 4; decide, fun _ => ⟨tk k - 2, by omega, rfl⟩⟩ u10 u11
    refine ⟨σ', τ', unitC_var hr cv.1 cv.2 u1.2.2.1 u3 a1 a2 a3, unitR_var hT u2.1 hk rfl cv.1 cv.2 b1 b3, a4, xH_x b4, ?_⟩
    rcases out with ⟨z4, ux⟩ | ⟨z4, cs, sp⟩
    · exact Or.inl ⟨k + 1, _, _, by omega, ux, fun z => by rw [← e8]; exact z⟩
    · exact Or.inr ⟨2, _, cs, sp⟩
  · obtain ⟨σ', τ', e1, e2, f1, f2, f, p, hf, s1, s2⟩ := failQ (f := 1) hT (Or.inl rfl) u1 u2.1
    simp only [show nI 1 = 1 from rfl] at e1 e2
    exact ⟨σ', τ', unitC_bad u1.2.2.1 htk ht c24 c9 cv e1, unitR_bad hT u2.1 hk c24 c9 cv e2, hdC_s f1, xH_x (hdR_x f2), Or.inr ⟨f, p, CS_h hr hf s1 u3 ⟨_, by omega, u4.1⟩ f1, s2⟩⟩
end ATOMQ
