/-! read: a name is told, both sides -/
noncomputable def fnF (a1 : Int64) (σ : gS) : Int32 → Option (Int32 ⊕ (Unit ⊕ Int32)) := fun (z2 : Int32) => if (σ.1 3 13) ≤ z2 then some (.inr (.inl ())) else gx z2 30 (if (lg_cmp (σ.2.1 18 z2.toNatClampNeg) a1) = 0 then some (.inr (.inr (z2))) else lt' (z2 + (1 : Int32)) (fun x3 => some (.inl x3)))
theorem fn_un {a1 : Int64} {σ : gS} : pX7_findName a1 σ = bnS (lpP (fnF a1 σ) 0) (fun (_ : Unit) => some (-1 : Int32)) := rfl
theorem fn_l {x : Int64} {σ : gS} {m : Nat} (hm : m ≤ 30) (h : σ.1 3 13 = nI m) : ∀ (n i : Nat), m - i = n → i ≤ m → (∃ j, i ≤ j ∧ j < m ∧ σ.2.1 18 j = x ∧ (∀ i', i ≤ i' → i' < j → σ.2.1 18 i' ≠ x) ∧ lpP (fnF x σ) (nI i) = some (.inr (nI j))) ∨ ((∀ j, i ≤ j → j < m → σ.2.1 18 j ≠ x) ∧ lpP (fnF x σ) (nI i) = some (.inl ())) := by
  intro n
  induction n with
  | zero =>
    intro i hn hi
    refine Or.inr ⟨fun j _ _ => by omega, lpP_inr ?_⟩
    unfold fnF
    rw [h, if_pos (nI_le (by omega) (by omega))]
  | succ n ih =>
    intro i hn hi
    have hlt : ¬ nI m ≤ nI i := nI_ge (by omega) (by omega)
    by_cases hc : σ.2.1 18 i = x
    · refine Or.inl ⟨i, Nat.le_refl _, by omega, hc, fun i' _ _ => by omega, lpP_inr ?_⟩
      unfold fnF
      rw [h, if_neg hlt, gx_i (by omega) (by decide), nI_clamp (by omega), if_pos (lc_eq.mpr hc)]
    · have st : fnF x σ (nI i) = some (.inl (nI (i + 1))) := by
        unfold fnF
        rw [h, if_neg hlt, gx_i (by omega) (by decide), nI_clamp (by omega), if_neg (fun z => hc (lc_eq.mp z)), lt_b, nI_1]
      rcases ih (i + 1) (by omega) (by omega) with ⟨j, j1, j2, j3, j4, j5⟩ | ⟨j1, j2⟩
      · refine Or.inl ⟨j, by omega, j2, j3, fun i' a b => ?_, by rw [lpP_inl st, j5]⟩
        rcases Nat.eq_or_lt_of_le a with z | z
        · rw [← z]; exact hc
        · exact j4 i' (by omega) b
      · refine Or.inr ⟨fun j a b => ?_, by rw [lpP_inl st, j2]⟩
        rcases Nat.eq_or_lt_of_le a with z | z
        · rw [← z]; exact hc
        · exact j1 j (by omega) b
theorem findC {x : Int64} {σ : gS} {m : Nat} (hm : m ≤ 30) (h : σ.1 3 13 = nI m) : (∃ j, j < m ∧ σ.2.1 18 j = x ∧ (∀ i', i' < j → σ.2.1 18 i' ≠ x) ∧ pX7_findName x σ = some (nI j)) ∨ ((∀ j, j < m → σ.2.1 18 j ≠ x) ∧ pX7_findName x σ = some (-1)) := by
  rw [fn_un, show (0 : Int32) = nI 0 from rfl]
  rcases fn_l (x := x) hm h m 0 (by omega) (by omega) with ⟨j, j1, j2, j3, j4, j5⟩ | ⟨j1, j2⟩
  · exact Or.inl ⟨j, j2, j3, fun i' a => j4 i' (by omega) a, by rw [j5]; rfl⟩
  · exact Or.inr ⟨fun j a => j1 j (by omega) a, by rw [j2]; rfl⟩
def nmw (σ : gS) (m : Nat) (v : Int64) (a b : Int32) : gS := wI (wI (wI (wL σ 18 m v) 19 m a) 20 m b) 3 13 (nI (m + 1))
def nmF (o j : Nat) : Bool := decide ((18 ≤ o ∧ o ≤ 20) ∨ (o = 3 ∧ (j = 13 ∨ j = 8 ∨ j = 9)))
theorem fr_nmw {σ : gS} {m : Nat} {v : Int64} {a b : Int32} : fr nmF σ (nmw σ m v a b) := fr_tr (fr_tr (fr_tr (fr_wL (decide_eq_true (by omega))) (fr_wI (decide_eq_true (by omega)))) (fr_wI (decide_eq_true (by omega)))) (fr_wI (decide_eq_true (by omega)))
theorem blC_n {σ τ : gS} (f : fr blC σ τ) : fr nmF σ τ := fr_up (fun o j q => by
  have q := of_decide_eq_false q
  simp only [blC, Bool.and_eq_false_iff, Bool.or_eq_false_iff, beq_eq_false_iff_ne]
  omega) f
theorem nmF_p {r : Nat} {σ τ : gS} (f : fr nmF σ τ) : fr (pcF r) σ τ := fr_up (fun o j q => decide_eq_false (by
  have q := of_decide_eq_false q
  omega)) f
section NAMEC
variable {a b : Int32} {σ : gS} {m : Nat} {v : Int64}
theorem nameC_f {i : Nat} (h3 : σ.1 3 3 = nI 23) (hv : σ.2.1 3 4 = v) (e : pX7_findName v σ = some (nI i)) (hi : i < 30) : pX7_tellName a b σ = bn1 (pX7_blame 3 σ) (fun s12 => bn1 (pX7_take s12) (fun s14 => some s14)) := by
  unfold pX7_tellName
  rw [h3, if_pos (show nI 23 = 23 from rfl), hv, e, bn1_s, if_neg (ne_m1 (by omega))]
theorem nameC_n (h3 : σ.1 3 3 = nI 23) (hv : σ.2.1 3 4 = v) (e : pX7_findName v σ = some (-1)) (h : σ.1 3 13 = nI m) (hm : m < 30) : pX7_tellName a b σ = bn1 (pX7_take (nmw σ m v a b)) (fun s10 => some s10) := by
  unfold pX7_tellName nmw
  rw [h3, if_pos (show nI 23 = 23 from rfl), hv, e, bn1_s, if_pos rfl, h, if_neg (show ¬ (30 : Int32) ≤ nI m from nI_ge (b := 30) hm (by decide)), gx_i hm (by decide), lt_b, nI_clamp (by omega)]
  have g1 : (wL σ 18 m v).1 3 13 = nI m := h
  rw [g1, gx_i hm (by decide), lt_b, nI_clamp (by omega)]
  have g2 : (wI (wL σ 18 m v) 19 m a).1 3 13 = nI m := by rw [wI_1, if_neg (by omega), g1]
  rw [g2, gx_i hm (by decide), lt_b, nI_clamp (by omega)]
  have g3 : (wI (wI (wL σ 18 m v) 19 m a) 20 m b).1 3 13 = nI m := by rw [wI_1, if_neg (by omega), g2]
  rw [g3, lt_b, nI_1]
theorem nameC_30 (h3 : σ.1 3 3 = nI 23) (hv : σ.2.1 3 4 = v) (e : pX7_findName v σ = some (-1)) (h : σ.1 3 13 = nI 30) : pX7_tellName a b σ = bn1 (pX7_take σ) (fun s10 => some s10) := by
  unfold pX7_tellName
  rw [h3, if_pos (show nI 23 = 23 from rfl), hv, e, bn1_s, if_pos rfl, h, if_pos (show (30 : Int32) ≤ nI 30 by decide)]
theorem nameC_0 {T : Nat} {s : gS} (h3 : σ.1 3 3 = nI T) (hT : T ≤ 38) (hn : T ≠ 23) (e : pX7_fail 1 σ = some s) : pX7_tellName a b σ = some s := by
  unfold pX7_tellName
  rw [h3, if_neg (show ¬ nI T = (23 : Int32) from nI_neT (K := 23) hn (by omega) (by omega)), e, bn1_s]
end NAMEC
noncomputable def nlF (x1 : Int32) : Int32 × gS → Option ((Int32 × gS) ⊕ gS) := fun (z5 : (Int32 × gS)) => if (z5.2.1 0 20) ≤ z5.1 then some (.inr z5.2) else if (z5.2.1 0 13) = 0 then gx z5.1 40 (gx x1 403 (if (lg_cmp (z5.2.2.1 8 z5.1.toNatClampNeg) (z5.2.2.1 6 x1.toNatClampNeg)) = 0 then bn1 (pX11_wrong (3 : Int32) x1 z5.2) (fun s7 => lt' (z5.1 + (1 : Int32)) (fun x8 => some (.inl (x8, s7)))) else lt' (z5.1 + (1 : Int32)) (fun x9 => some (.inl (x9, z5.2))))) else some (.inr z5.2)
theorem nd_un {τ : gS} : pX11_named τ = lt' (τ.1 0 11) (fun x1 => bn1 (pX11_must (1 : Int32) τ) (fun s3 => bn1 (lpP (nlF x1) (0, s3)) (fun z4 => some (x1, z4)))) := rfl
theorem nl_y {i j n : Nat} {τ τ' : gS} (hn : n ≤ 30) (hj : j < 403) (h : τ.1 0 20 = nI n) (h13 : τ.1 0 13 = 0) (hi : i < n) (hc : τ.2.1 8 i = τ.2.1 6 j) (e : pX11_wrong 3 (nI j) τ = some τ') : nlF (nI j) (nI i, τ) = some (.inl (nI (i + 1), τ')) := by
  unfold nlF
  dsimp only
  rw [h, if_neg (show ¬ nI n ≤ nI i from nI_ge hi (by omega)), h13, if_00, gx_i (by omega) (by decide), gx_i hj (by decide), nI_clamp (by omega), nI_clamp (by omega), if_pos (lc_eq.mpr hc), e, bn1_s, lt_b, nI_1]
theorem nl_n {i j n : Nat} {τ : gS} (hn : n ≤ 30) (hj : j < 403) (h : τ.1 0 20 = nI n) (h13 : τ.1 0 13 = 0) (hi : i < n) (hc : ¬ τ.2.1 8 i = τ.2.1 6 j) : nlF (nI j) (nI i, τ) = some (.inl (nI (i + 1), τ)) := by
  unfold nlF
  dsimp only
  rw [h, if_neg (show ¬ nI n ≤ nI i from nI_ge hi (by omega)), h13, if_00, gx_i (by omega) (by decide), gx_i hj (by decide), nI_clamp (by omega), nI_clamp (by omega), if_neg (fun z => hc (lc_eq.mp z)), lt_b, nI_1]
theorem nl_o {x1 : Int32} {n : Nat} {τ : gS} (h : τ.1 0 20 = nI n) : nlF x1 (nI n, τ) = some (.inr τ) := by
  unfold nlF
  dsimp only
  rw [h, if_pos (Int32.le_refl _)]
theorem nl_same {j n : Nat} {τ : gS} (hn : n ≤ 30) (hj : j < 403) (h : τ.1 0 20 = nI n) (h13 : τ.1 0 13 = 0) (hw : (∃ i, i < n ∧ τ.2.1 8 i = τ.2.1 6 j) → pX11_wrong 3 (nI j) τ = some τ) : ∀ (m i : Nat), n - i = m → i ≤ n → lpP (nlF (nI j)) (nI i, τ) = some τ := by
  intro m
  induction m with
  | zero =>
    intro i hm hi
    have : i = n := by omega
    subst this
    exact lpP_inr (nl_o h)
  | succ m ih =>
    intro i hm hi
    have e := ih (i + 1) (by omega) (by omega)
    by_cases hc : τ.2.1 8 i = τ.2.1 6 j
    · rw [lpP_inl (nl_y hn hj h h13 (by omega) hc (hw ⟨i, by omega, hc⟩)), e]
    · rw [lpP_inl (nl_n hn hj h h13 (by omega) hc), e]
theorem nl_hit {j n : Nat} {τ τ' : gS} (hn : n ≤ 30) (hj : j < 403) (h : τ.1 0 20 = nI n) (h13 : τ.1 0 13 = 0) (e1 : pX11_wrong 3 (nI j) τ = some τ') (e2 : pX11_wrong 3 (nI j) τ' = some τ') (f : fr blR τ τ') : ∀ (m i : Nat), n - i = m → i ≤ n → (∃ i', i ≤ i' ∧ i' < n ∧ τ.2.1 8 i' = τ.2.1 6 j) → lpP (nlF (nI j)) (nI i, τ) = some τ' := by
  intro m
  induction m with
  | zero =>
    intro i hm hi ⟨i', a, b, c⟩
    omega
  | succ m ih =>
    intro i hm hi ⟨i', a, b, c⟩
    by_cases hc : τ.2.1 8 i = τ.2.1 6 j
    · rw [lpP_inl (nl_y hn hj h h13 (by omega) hc e1)]
      exact nl_same hn hj ((fr_1 f rfl).trans h) ((fr_1 f rfl).trans h13) (fun _ => e2) _ (i + 1) rfl (by omega)
    · rw [lpP_inl (nl_n hn hj h h13 (by omega) hc)]
      refine ih (i + 1) (by omega) (by omega) ⟨i', ?_, b, c⟩
      rcases Nat.eq_or_lt_of_le a with z | z
      · rw [← z] at c; exact absurd c hc
      · omega
theorem nl_stop {N : Nat} {tk pl : Nat → Nat} {vl : Nat → Int64} {f p : Nat} {x1 i : Int32} {τ : gS} (hf : fpO f p) (h : spR N tk pl vl f p τ) : lpP (nlF x1) (i, τ) = some τ := by
  refine lpP_inr ?_
  unfold nlF
  dsimp only
  rw [if_neg (sp_n hf h).1]
  split <;> rfl
section NAMEQ
variable {N : Nat} {tk pl : Nat → Nat} {vl : Nat → Int64} {r L : Nat}
theorem rdC_nm {k : Nat} {σ τ : gS} (f : fr nmF σ τ) (h : rdC N tk pl vl k σ) : rdC N tk pl vl k τ := by
  obtain ⟨h0, h1, h2, h3, h5, h6, h7⟩ := h
  refine ⟨h0, (fr_1 f rfl).trans h1, (fr_1 f rfl).trans h2, (fr_2 f rfl).trans h3, (fr_1 f rfl).trans h5, (fr_1 f rfl).trans h6, fun i hi => ?_⟩
  obtain ⟨a1, a2, a3⟩ := h7 i hi
  exact ⟨(fr_1 f rfl).trans a1, (fr_1 f rfl).trans a2, (fr_2 f rfl).trans a3⟩
theorem CX_nm {σ τ : gS} {c : List (Int32 × Int32)} (hr : tR r = true) (h : fr nmF σ τ) (hc : CX r c σ) : CX r c τ := by
  rcases tR_or hr with rfl | rfl
  · exact CX_fr h rfl (fun _ => rfl) (fun _ => rfl) hc
  · exact CX_fr h rfl (fun _ => rfl) (fun _ => rfl) hc
theorem uC_nm {Θ : Tld} {σ τ : gS} (hr : tR r = true) (h : fr nmF σ τ) : ∀ o j, uC Θ r o j → τ.1 o j = σ.1 o j := fun o j q => fr_1 h (decide_eq_false (by
  unfold uC at q
  rcases tR_or hr with rfl | rfl
  · omega
  · omega))
theorem SSname {a b : Int32} {σ τ : gS} (h : SS N tk pl vl r σ τ) : ∃ σ' v, pX7_tellName a b σ = some σ' ∧ pX11_named τ = some (v, τ) ∧ fr (pcF r) σ σ' ∧ SS N tk pl vl r σ' τ := by
  obtain ⟨f, p, h1, h2⟩ := h
  obtain ⟨σ', e1, e2, e3⟩ := (KC_fail (a := 1)) σ h1
  refine ⟨σ', τ.1 0 11, nameC_0 (T := 38) h1.2.1.1 (by decide) (by decide) e1, ?_, sumF_p e3, f, p, e2, h2⟩
  rw [nd_un, lt_b, mustR_s h1.1 h2, bn1_s, nl_stop h1.1 h2, bn1_s]
theorem blame_any {c : Int32} {σ : gS} : ∃ s, pX7_blame c σ = some s ∧ fr blC σ s := by
  unfold pX7_blame
  by_cases h : σ.1 3 8 = 0
  · rw [if_pos h, lt_b, lt_b]
    exact ⟨_, rfl, fr_tr (fr_wI rfl) (fr_wI rfl)⟩
  · rw [if_neg h]
    exact ⟨σ, rfl, fr_rf⟩
def hbR (o j : Nat) : Bool := hdR o j || blR o j
theorem hdR_b {σ τ : gS} (f : fr hdR σ τ) : fr hbR σ τ := fr_up (fun o j q => by
  unfold hbR at q
  exact (Bool.or_eq_false_iff.mp q).1) f
theorem blR_b {σ τ : gS} (f : fr blR σ τ) : fr hbR σ τ := fr_up (fun o j q => by
  unfold hbR at q
  exact (Bool.or_eq_false_iff.mp q).2) f
theorem hbR_x {σ τ : gS} (f : fr hbR σ τ) : fr (xH L) σ τ := fr_up (fun o j q => by
  simp only [xH, xF, hbR, hdR, blR, Bool.or_eq_false_iff, Bool.and_eq_false_iff, beq_eq_false_iff_ne] at q ⊢
  omega) f
theorem GO_nm (hr : tR r = true) {k : Nat} {cs : List (Int32 × Int32)} {es : List cEl} {σ s σ' τ τ' : gS} (hk : k ≤ k + 1) (h : GO N tk pl vl r L 0 k cs es σ τ) (f1 : fr nmF σ s) (f2 : fr hdC s σ') (g1 : rdC N tk pl vl (k + 1) σ') (f3 : fr hbR τ τ') (g2 : rdR N tk pl vl (k + 1) τ') (hw : WW (pl (k + 1)) σ' τ') : GO N tk pl vl r L 0 (k + 1) cs es σ' τ' := by
  obtain ⟨h1, h2, h3, h4, ⟨h5, h6⟩, h7, h8, h9, h10⟩ := h
  exact ⟨g1, g2, (fr_3 f2 rfl).trans ((fr_3 f1 rfl).trans h3), CX_h hr f2 (CX_nm hr f1 h4), ⟨(fr_1 f3 rfl).trans h5, fun i q e => ⟨(fr_1 f3 rfl).trans (h6 i q e).1, (fr_1 f3 rfl).trans (h6 i q e).2⟩⟩, (fr_1 f3 rfl).trans h7, hw, by omega, by omega⟩
theorem nameC_all {k m : Nat} {a b : Int32} {σ : gS} (h1 : rdC N tk pl vl k σ) (hc : tk k = 23) (m1 : m ≤ 30) (m2 : σ.1 3 13 = nI m) : ∃ s, pX7_tellName a b σ = bn1 (pX7_take s) (fun z => some z) ∧ fr nmF σ s ∧ (∃ m', m' ≤ 30 ∧ s.1 3 13 = nI m') ∧ (((∃ i, i < m ∧ σ.2.1 18 i = vl k) ∧ pX7_blame 3 σ = some s) ∨ ((∀ i, i < m → σ.2.1 18 i ≠ vl k) ∧ ((m < 30 ∧ s = nmw σ m (vl k) a b) ∨ (m = 30 ∧ s = σ)))) := by
  have h3 : σ.1 3 3 = nI 23 := by rw [h1.2.2.1, hc]
  rcases findC (x := vl k) m1 m2 with ⟨j, j1, j2, j3, j4⟩ | ⟨j1, j2⟩
  · obtain ⟨s, e1, e2⟩ := blame_any (c := 3) (σ := σ)
    exact ⟨s, by rw [nameC_f h3 h1.2.2.2.1 j4 (by omega), e1, bn1_s], blC_n e2, ⟨m, m1, (fr_1 e2 rfl).trans m2⟩, Or.inl ⟨⟨j, j1, j2⟩, e1⟩⟩
  · by_cases hm : m < 30
    · exact ⟨_, nameC_n h3 h1.2.2.2.1 j2 m2 hm, fr_nmw, ⟨m + 1, hm, wI_s⟩, Or.inr ⟨j1, Or.inl ⟨hm, rfl⟩⟩⟩
    · have : m = 30 := by omega
      subst this
      exact ⟨σ, nameC_30 h3 h1.2.2.2.1 j2 m2, fr_rf, ⟨30, m1, m2⟩, Or.inr ⟨j1, Or.inr ⟨rfl, rfl⟩⟩⟩
theorem nmw_18 {σ : gS} {m i : Nat} {v : Int64} {a b : Int32} : ((nmw σ m v a b).2.1 18 m = v ∧ (nmw σ m v a b).1 19 m = a ∧ (nmw σ m v a b).1 20 m = b) ∧ (i ≠ m → (nmw σ m v a b).2.1 18 i = σ.2.1 18 i ∧ (nmw σ m v a b).1 19 i = σ.1 19 i ∧ (nmw σ m v a b).1 20 i = σ.1 20 i) := by
  unfold nmw
  refine ⟨⟨?_, ?_, ?_⟩, fun hi => ⟨?_, ?_, ?_⟩⟩
  · rw [wI_2, wI_2, wI_2, wL_s]
  · rw [wI_1, if_neg (by omega), wI_1, if_neg (by omega), wI_s]
  · rw [wI_1, if_neg (by omega), wI_s]
  · rw [wI_2, wI_2, wI_2, wL_2, if_neg (by omega)]
  · rw [wI_1, if_neg (by omega), wI_1, if_neg (by omega), wI_1, if_neg (by omega), wL_1]
  · rw [wI_1, if_neg (by omega), wI_1, if_neg (by omega), wI_1, if_neg (by omega), wL_1]
theorem gl_lt {α : Type} {l : List α} {i : Nat} (h : i < l.length) : ∃ x, l[i]? = some x := ⟨l[i], List.getElem?_eq_getElem h⟩
theorem gl_of {α : Type} {l : List α} {i : Nat} {x : α} (h : l[i]? = some x) : i < l.length := by
  rcases Nat.lt_or_ge i l.length with z | z
  · exact z
  · rw [List.getElem?_eq_none z] at h; exact absurd h (by simp)
theorem nameQ (hT : TkOK N tk pl) (hr : tR r = true) {k kd num : Nat} {cs : List (Int32 × Int32)} {es : List cEl} {lts : List lEl} {Θ : Tld} {nm : List nEl} {σ τ : gS} (h : MX N tk pl vl r L k cs es lts Θ nm nm σ τ) (hn : nTot Θ < 30) : ∃ σ' τ', pX7_tellName (nI kd) (nI num) σ = some σ' ∧ pX11_named τ = some (nI k, τ') ∧ fr (pcF r) σ σ' ∧ fr hbR τ τ' ∧ ((k < 400 ∧ tk k = 23 ∧ MX N tk pl vl r L (k + 1) cs es lts Θ (nm ++ [(vl k, kd, num)]) nm σ' τ') ∨ SS N tk pl vl r σ' τ') := by
  obtain ⟨h1, h2, h3, h4, h5, h6, ⟨m, m1, m2⟩, h8⟩ := h
  have hk := h1.1.1
  have hk4 := k_400 hT hk
  have htk := (hT.2.2.2.1 k hk).1
  have hpl := (hT.2.2.2.1 k hk).2
  have t11 := h1.2.1.1
  by_cases hc : tk k = 23
  · obtain ⟨s, a1, a2, a3, a4⟩ := nameC_all (a := nI kd) (b := nI num) h1.1 hc m1 m2
    have ds := rdC_nm a2 h1.1
    have sd : s.2.2 3 1 = r := (fr_3 a2 rfl).trans h1.2.2.1
    have sc := CX_nm hr a2 h1.2.2.2.1
    by_cases hk0 : k < 400
    · obtain ⟨σ', b1, b2, b3⟩ := takeC1 hT ds (by omega) hk0
      obtain ⟨t3, c1, c2, c3⟩ := goesR1 h1.2.1 hk0
      have eC : pX7_tellName (nI kd) (nI num) σ = some σ' := by rw [a1, b1, bn1_s]
      have eM : pX11_must (1 : Int32) τ = some t3 := mustR1 (K := 23) hT h1.2.1 hk hc c1
      have fC : fr (pcF r) σ σ' := fr_tr (nmF_p a2) (hdC_p b3)
      have pln := pl_next hT b2.1
      have t20 : t3.1 0 20 = nI (nTot Θ) := (fr_1 c3 rfl).trans h6
      have t13 : t3.1 0 13 = 0 := c2.2.1
      have t4 : t3.1 4 k = nI (pl k) := (c2.2.2 k hk).2.1
      have t6 : t3.2.1 6 k = vl k := (c2.2.2 k hk).2.2.2 hc
      have eN : ∀ τ', lpP (nlF (nI k)) (0, t3) = some τ' → pX11_named τ = some (nI k, τ') := fun τ' e => by
        rw [nd_un, lt_b, eM, bn1_s, t11, e, bn1_s]
      have mk : ∀ τ', fr hbR τ τ' → rdR N tk pl vl (k + 1) τ' → WW (pl (k + 1)) σ' τ' → (σ'.1 3 8 = 0 → DX r L cs es lts Θ σ' τ' ∧ NMc (nm ++ [(vl k, kd, num)]) σ' ∧ NMr nm τ' ∧ dsN (nm ++ [(vl k, kd, num)]) ∧ okN Θ nm) → MX N tk pl vl r L (k + 1) cs es lts Θ (nm ++ [(vl k, kd, num)]) nm σ' τ' := fun τ' f g w q => by
        have fx := hbR_x (L := L) f
        have lx := LX_x (e := []) h2 fx
        rw [List.append_nil] at lx
        obtain ⟨m', m3, m4⟩ := a3
        refine ⟨GO_nm hr (by omega) h1 a2 b3 b2 f g w, lx, by omega, CNT_up (fun o j z => ?_) (fun o j z => (KpR_l (liF_x fx) o j (Or.inl z)).1) h4, (fr_1 f rfl).trans h5, (fr_1 f rfl).trans h6, ⟨m', m3, (fr_1 b3 rfl).trans m4⟩, q⟩
        exact ((KpC_s hr (hdC_s b3)) o j (Or.inl z)).1.trans (uC_nm hr a2 o j z)
      by_cases h0 : σ.1 3 8 = 0
      · obtain ⟨q1, q2, q3, q4, q5⟩ := h8 h0
        have w15 : τ.1 0 15 = 0 := by
          rcases h1.2.2.2.2.2.2.1 with z | ⟨w, p, z1, z2, z3, z4, z5, -⟩
          · exact z.2.2
          · rw [h0] at z5
            exact absurd z5.symm (nI_ne0 (by omega) (by omega))
        have s9 : σ.1 3 9 = -1 := by
          rcases h1.2.2.2.2.2.2.1 with z | ⟨w, p, z1, z2, z3, z4, z5, -⟩
          · exact z.2.1
          · rw [h0] at z5
            exact absurd z5.symm (nI_ne0 (by omega) (by omega))
        have hml : m = nm.length := (nI_eq (by omega) (by have := q3.1; omega)).mp (m2.symm.trans q2.1)
        have hmt : nm.length = nTot Θ := (nI_eq (by have := q3.1; omega) (by omega)).mp (q3.2.1.symm.trans h6)
        have hnn : ∀ i, i < m → t3.2.1 8 i = σ.2.1 18 i := fun i hi => by
          obtain ⟨x, hx⟩ := gl_lt (l := nm) (i := i) (by omega)
          rw [fr_2 c3 rfl, (q3.2.2 i x hx).1, (q2.2 i x hx).1]
        have v15 : t3.1 0 15 = 0 := (fr_1 c3 rfl).trans w15
        rcases a4 with ⟨⟨i, i1, i2⟩, i3⟩ | ⟨i1, i2⟩
        · rw [blame0 h0] at i3
          injection i3 with i3
          have ew := wrong0 (c := 3) t13 v15 t4 (by omega)
          have f1 : fr blR t3 (wI (wI t3 0 15 3) 0 16 (nI (pl k))) := fr_tr (fr_wI rfl) (fr_wI rfl)
          have w3 : (wI (wI t3 0 15 3) 0 16 (nI (pl k))).1 0 15 = nI 3 := by rw [wI_1, if_neg (by omega), wI_s]; rfl
          have w4 : (wI (wI t3 0 15 3) 0 16 (nI (pl k))).1 0 16 = nI (pl k) := wI_s
          have e2 : pX11_wrong 3 (nI k) (wI (wI t3 0 15 3) 0 16 (nI (pl k))) = some (wI (wI t3 0 15 3) 0 16 (nI (pl k))) := wrong1 (c := 3) (w := 3) (p := pl k) (p' := pl k) ((fr_1 f1 rfl).trans t13) w3 w4 ((fr_1 f1 rfl).trans t4) (by omega) ⟨by decide, by decide⟩ ⟨hpl, hpl⟩ (Or.inr ⟨rfl, by decide, by decide⟩)
          have el := nl_hit (j := k) (by omega) (by omega) t20 t13 ew e2 f1 _ 0 rfl (by omega) ⟨i, by omega, by omega, by rw [hnn i i1, i2, t6]⟩
          have s8 : σ'.1 3 8 = nI 3 := by
            rw [fr_1 b3 rfl, ← i3, wI_1, if_neg (by omega), wI_s]; rfl
          have s99 : σ'.1 3 9 = nI (pl k) := by
            rw [fr_1 b3 rfl, ← i3, wI_s]; exact h1.1.2.2.2.2.1
          refine ⟨σ', _, eC, eN _ el, fC, fr_tr (hdR_b c3) (blR_b f1), Or.inl ⟨hk0, hc, mk _ (fr_tr (hdR_b c3) (blR_b f1)) (rdR_bl f1 c2) (Or.inr ⟨3, pl k, by decide, by decide, pln, hpl, s8, s99, w3, w4⟩) (fun z => ?_)⟩⟩
          rw [s8] at z
          exact absurd z (by decide)
        · have hm30 : m < 30 := by omega
          have is : s = nmw σ m (vl k) (nI kd) (nI num) := by
            rcases i2 with z | z
            · exact z.2
            · omega
          have el := nl_same (j := k) (τ := t3) (by omega) (by omega) t20 t13 (fun ⟨i, z1, z2⟩ => by
            rw [hnn i (by omega), t6] at z2
            exact absurd z2 (i1 i (by omega))) _ 0 rfl (by omega)
          have s8 : s.1 3 8 = 0 := by
            rw [is]; unfold nmw
            rw [wI_1, if_neg (by omega), wI_1, if_neg (by omega), wI_1, if_neg (by omega), wL_1, h0]
          have s99 : s.1 3 9 = -1 := by
            rw [is]; unfold nmw
            rw [wI_1, if_neg (by omega), wI_1, if_neg (by omega), wI_1, if_neg (by omega), wL_1, s9]
          refine ⟨σ', _, eC, eN _ el, fC, hdR_b c3, Or.inl ⟨hk0, hc, mk _ (hdR_b c3) c2 (Or.inl ⟨(fr_1 b3 rfl).trans s8, (fr_1 b3 rfl).trans s99, v15⟩) (fun _ => ⟨?_, ⟨?_, ?_⟩, NMr_up (Θ := Θ) (L := L) (KpR_h c3) q3, ?_, q5⟩)⟩⟩
          · have := DX_up (d := []) (e := []) (nl := []) (σ' := σ') (τ' := t3) (fun o j _ z => ((KpC_s hr (hdC_s b3)) o j (Or.inl z)).1.trans (uC_nm hr a2 o j z)) (fun o j _ _ z => (KpR_h c3 o j (Or.inl z)).1) q1
            rw [List.append_nil, List.append_nil, List.append_nil] at this
            exact this
          · rw [fr_1 b3 rfl, is, List.length_append, ← hml]
            exact wI_s
          · intro i x hx
            have hi := gl_of hx
            rw [fr_2 b3 rfl, fr_1 b3 rfl, fr_1 b3 rfl, is]
            obtain ⟨n1, n2⟩ := nmw_18 (σ := σ) (m := m) (i := i) (v := vl k) (a := nI kd) (b := nI num)
            rw [List.length_append, List.length_singleton] at hi
            rcases Nat.lt_or_ge i nm.length with z | z
            · rw [List.getElem?_append_left z] at hx
              obtain ⟨y1, y2, y3⟩ := n2 (by omega)
              rw [y1, y2, y3]
              exact q2.2 i x hx
            · have : i = nm.length := by omega
              subst this
              rw [List.getElem?_append_right (Nat.le_refl _), Nat.sub_self] at hx
              simp only [List.getElem?_cons_zero, Option.some.injEq] at hx
              subst hx
              rw [← hml]
              exact n1
          · intro i j x y hx hy e
            have hi := gl_of hx
            have hj := gl_of hy
            rw [List.length_append, List.length_singleton] at hi hj
            have old : ∀ (i : Nat) (x : nEl), nm[i]? = some x → x.1 ≠ vl k := fun i x hx => by
              have hi := gl_of hx
              rw [← (q2.2 i x hx).1]
              exact i1 i (by omega)
            rcases Nat.lt_or_ge i nm.length with z | z
            · rw [List.getElem?_append_left z] at hx
              rcases Nat.lt_or_ge j nm.length with w | w
              · rw [List.getElem?_append_left w] at hy
                exact q4 i j x y hx hy e
              · have : j = nm.length := by omega
                subst this
                rw [List.getElem?_append_right (Nat.le_refl _), Nat.sub_self] at hy
                simp only [List.getElem?_cons_zero, Option.some.injEq] at hy
                subst hy
                exact absurd e (old i x hx)
            · have : i = nm.length := by omega
              subst this
              rw [List.getElem?_append_right (Nat.le_refl _), Nat.sub_self] at hx
              simp only [List.getElem?_cons_zero, Option.some.injEq] at hx
              subst hx
              rcases Nat.lt_or_ge j nm.length with w | w
              · rw [List.getElem?_append_left w] at hy
                exact absurd e.symm (old j y hy)
              · omega
      · have hw := h1.2.2.2.2.2.2.1
        rcases hw with z | ⟨w, p, w1, w2, w3, w4, w5, w6, w7, w8⟩
        · exact absurd z.1 h0
        have ew : pX11_wrong 3 (nI k) t3 = some t3 := wrong1 (c := 3) t13 ((fr_1 c3 rfl).trans w7) ((fr_1 c3 rfl).trans w8) t4 (by omega) (by omega) ⟨hpl, w4⟩ (Or.inl w3)
        have el := nl_same (j := k) (τ := t3) (by omega) (by omega) t20 t13 (fun _ => ew) _ 0 rfl (by omega)
        have hs89 : s.1 3 8 = σ.1 3 8 ∧ s.1 3 9 = σ.1 3 9 := by
          rcases a4 with ⟨-, i3⟩ | ⟨-, ⟨-, i3⟩ | ⟨-, i3⟩⟩
          · rw [blame1 w5 (by omega)] at i3
            injection i3 with i3
            rw [← i3]; exact ⟨rfl, rfl⟩
          · rw [i3]; unfold nmw
            exact ⟨by rw [wI_1, if_neg (by omega), wI_1, if_neg (by omega), wI_1, if_neg (by omega), wL_1], by rw [wI_1, if_neg (by omega), wI_1, if_neg (by omega), wI_1, if_neg (by omega), wL_1]⟩
          · rw [i3]; exact ⟨rfl, rfl⟩
        have s8 : σ'.1 3 8 = nI w := by rw [fr_1 b3 rfl, hs89.1, w5]
        have s9 : σ'.1 3 9 = nI p := by rw [fr_1 b3 rfl, hs89.2, w6]
        refine ⟨σ', _, eC, eN _ el, fC, hdR_b c3, Or.inl ⟨hk0, hc, mk _ (hdR_b c3) c2 (Or.inr ⟨w, p, w1, w2, by omega, w4, s8, s9, (fr_1 c3 rfl).trans w7, (fr_1 c3 rfl).trans w8⟩) (fun z => ?_)⟩⟩
        rw [s8] at z
        exact absurd z (nI_ne0 (by omega) (by omega))
    · have hk0 : k = 400 := by omega
      have hf : fpO 2 (pl k) := ⟨Or.inr rfl, hpl⟩
      obtain ⟨σ', b1, b2, b3⟩ := takeC2 ds hk0
      obtain ⟨t3, c1, c2, c3⟩ := goesR2 h1.2.1 hk hT hk0
      have eM : pX11_must (1 : Int32) τ = some t3 := mustR1 (K := 23) hT h1.2.1 hk hc c1
      refine ⟨σ', t3, by rw [a1, b1, bn1_s], ?_, fr_tr (nmF_p a2) (hdC_p b3), hdR_b c3, Or.inr ⟨2, _, CS_h hr hf b2 sd ⟨_, by have := h1.2.2.2.2.2.2.2.1; omega, sc.1⟩ b3, c2⟩⟩
      rw [nd_un, lt_b, eM, bn1_s, t11, nl_stop hf c2, bn1_s]
  · obtain ⟨σ', τ', e1, e2, f1, f2, f, p, s1, s2⟩ := failGO (f := 1) hT hr (Or.inl rfl) h1
    simp only [show nI 1 = 1 from rfl] at e1 e2
    have eM : pX11_must (1 : Int32) τ = some τ' := mustR0 (K := 23) hT h1.2.1 hk (by decide) hc e2
    refine ⟨σ', τ', nameC_0 h1.1.2.2.1 (by omega) hc e1, ?_, hdC_p f1, hdR_b f2, Or.inr ⟨f, p, s1, s2⟩⟩
    rw [nd_un, lt_b, eM, bn1_s, t11, nl_stop s1.1 s2, bn1_s]
end NAMEQ
