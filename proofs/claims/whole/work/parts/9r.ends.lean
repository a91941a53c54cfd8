/-! read: the end of a tell, both sides -/
def addSg (Θ : Tld) (nl : List lEl) : Tld := ((nSg Θ + 1, nSy Θ, nBk Θ, nWh Θ, nLw Θ), srt Θ, wBk Θ, wSg Θ, wSy Θ, fun f => if f = nSg Θ then nl else cnd Θ f, lwc Θ)
def addSy (Θ : Tld) (s : Nat) (nl : List lEl) : Tld := ((nSg Θ, nSy Θ + 1, nBk Θ, nWh Θ, nLw Θ), fun j => if j = nSy Θ then s else srt Θ j, wBk Θ, wSg Θ, wSy Θ, fun f => if f = 6 + nSy Θ then nl else cnd Θ f, lwc Θ)
def addBk (Θ : Tld) : Tld := ((nSg Θ, nSy Θ, nBk Θ + 1, nWh Θ, nLw Θ), srt Θ, wBk Θ, wSg Θ, wSy Θ, cnd Θ, lwc Θ)
def addLw (Θ : Tld) (c : List cEl) : Tld := ((nSg Θ, nSy Θ, nBk Θ, nWh Θ, nLw Θ + 1), srt Θ, wBk Θ, wSg Θ, wSy Θ, cnd Θ, fun f => if f = nLw Θ then c else lwc Θ f)
section DXS
variable {r L : Nat} {cs : List (Int32 × Int32)} {es : List cEl} {lts : List lEl} {Θ : Tld} {σ τ : gS}
theorem DX_sg {nl : List lEl} (h : DX r L cs es lts Θ σ τ) (hs : nSg Θ < 6) (w : wfC nl) (fc : FC r cs σ (nSg Θ) (cmC false nl)) (rc : RCn L lts τ (26 * L + nSg Θ) nl) : DX r L cs es lts (addSg Θ nl) σ τ := by
  obtain ⟨h1, h2, h3, h4, h5⟩ := h
  refine ⟨h1, fun j hj => ?_, fun j hj => ?_, fun j hj => ?_, h5⟩
  · obtain ⟨⟨a1, a2, a3⟩, a4⟩ := h2 j hj
    exact ⟨⟨a1, Nat.lt_succ_of_lt a2, a3⟩, a4⟩
  · have hj : j < nSg Θ + 1 := hj
    have e : cnd (addSg Θ nl) j = if j = nSg Θ then nl else cnd Θ j := rfl
    rw [e]
    by_cases hc : j = nSg Θ
    · rw [if_pos hc, hc]
      exact ⟨w, fc, rc⟩
    · rw [if_neg hc]
      exact h3 j (by omega)
  · have e : cnd (addSg Θ nl) (6 + j) = if 6 + j = nSg Θ then nl else cnd Θ (6 + j) := rfl
    rw [e, if_neg (by omega)]
    exact h4 j hj
theorem DX_sy {nl : List lEl} {s : Nat} (h : DX r L cs es lts Θ σ τ) (hs : nSg Θ ≤ 6) (h6 : s ≤ 6) (s1 : σ.1 (r + 1) (nSy Θ) = nI s) (s2 : τ.1 15 (16 * L + nSy Θ) = nI s) (w : wfC nl) (fc : FC r cs σ (6 + nSy Θ) (cmC false nl)) (rc : RCn L lts τ (26 * L + 6 + nSy Θ) nl) : DX r L cs es lts (addSy Θ s nl) σ τ := by
  obtain ⟨h1, h2, h3, h4, h5⟩ := h
  refine ⟨fun j hj => ?_, fun j hj => ?_, fun j hj => ?_, fun j hj => ?_, h5⟩
  · have hj : j < nSy Θ + 1 := hj
    have e : srt (addSy Θ s nl) j = if j = nSy Θ then s else srt Θ j := rfl
    rw [e]
    by_cases hc : j = nSy Θ
    · rw [if_pos hc, hc]
      exact ⟨h6, s1, s2⟩
    · rw [if_neg hc]
      exact h1 j (by omega)
  · obtain ⟨⟨a1, a2, a3⟩, a4⟩ := h2 j hj
    exact ⟨⟨a1, a2, Nat.lt_succ_of_lt a3⟩, a4⟩
  · have hj : j < nSg Θ := hj
    have e : cnd (addSy Θ s nl) j = if j = 6 + nSy Θ then nl else cnd Θ j := rfl
    rw [e, if_neg (by omega)]
    exact h3 j hj
  · have hj : j < nSy Θ + 1 := hj
    have e : cnd (addSy Θ s nl) (6 + j) = if 6 + j = 6 + nSy Θ then nl else cnd Θ (6 + j) := rfl
    rw [e]
    by_cases hc : j = nSy Θ
    · rw [if_pos (by omega), hc]
      exact ⟨w, fc, rc⟩
    · rw [if_neg (by omega)]
      exact h4 j (by omega)
theorem DX_bk (h : DX r L cs es lts Θ σ τ) : DX r L cs es lts (addBk Θ) σ τ := by
  obtain ⟨h1, h2, h3, h4, h5⟩ := h
  refine ⟨h1, fun j hj => ?_, h3, h4, h5⟩
  obtain ⟨⟨a1, a2, a3⟩, a4⟩ := h2 j hj
  exact ⟨⟨Nat.lt_succ_of_lt a1, a2, a3⟩, a4⟩
theorem DX_lw {c : List cEl} (h : DX r L cs es lts Θ σ τ) (w : wfE c) (fc : FC r cs σ (22 + nLw Θ) (c.map cm1)) (rc : RLw L es τ (26 * L + 22 + nLw Θ) c) : DX r L cs es lts (addLw Θ c) σ τ := by
  obtain ⟨h1, h2, h3, h4, h5⟩ := h
  refine ⟨h1, h2, h3, h4, fun j hj => ?_⟩
  have hj : j < nLw Θ + 1 := hj
  have e : lwc (addLw Θ c) j = if j = nLw Θ then c else lwc Θ j := rfl
  rw [e]
  by_cases hc : j = nLw Θ
  · rw [if_pos hc, hc]
    exact ⟨w, fc, rc⟩
  · rw [if_neg hc]
    exact h5 j (by omega)
end DXS
def nkw (τ : gS) (i : Nat) (v : Int64) (a b : Int32) : gS := wI (wI (wI (wL τ 8 i v) 9 i a) 10 i b) 0 20 (nI (i + 1))
theorem nkw_o {τ : gS} {i o j : Nat} {v : Int64} {a b : Int32} (h : o ≠ 9 ∧ o ≠ 10 ∧ ¬ (o = 0 ∧ j = 20)) : (nkw τ i v a b).1 o j = τ.1 o j := by
  unfold nkw
  rw [wI_1, if_neg (by omega), wI_1, if_neg (by omega), wI_1, if_neg (by omega), wL_1]
theorem knowsR {i j : Nat} {a b : Int32} {τ : gS} (h : τ.1 0 20 = nI i) (hi : i < 40) (hj : j < 403) : pX11_knows (nI j) a b τ = some (nkw τ i (τ.2.1 6 j) a b) := by
  unfold pX11_knows nkw
  rw [gx_i hj (by decide), h, gx_i hi (by decide), nI_clamp (by omega), nI_clamp (by omega), lt_b]
  have g1 : (wL τ 8 i (τ.2.1 6 j)).1 0 20 = nI i := h
  rw [g1, gx_i hi (by decide), nI_clamp (by omega), lt_b]
  have g2 : (wI (wL τ 8 i (τ.2.1 6 j)) 9 i a).1 0 20 = nI i := by rw [wI_1, if_neg (by omega), g1]
  rw [g2, gx_i hi (by decide), nI_clamp (by omega), lt_b]
  have g3 : (wI (wI (wL τ 8 i (τ.2.1 6 j)) 9 i a) 10 i b).1 0 20 = nI i := by rw [wI_1, if_neg (by omega), g2]
  rw [g3, lt_b, nI_1]
noncomputable def tlR (v3 : Int32) (o : Nat) (sr : Int32) (s8 : gS) : Option gS := if (s8.1 0 13) ≤ 0 then gx (s8.1 0 19) 2 (bn1 (pX11_knows v3 sr (s8.1 o (s8.1 0 19).toNatClampNeg) s8) (fun s10 => gx (s10.1 0 19) 2 (gx (s10.1 0 19) 2 (lt' (wI s10 o (s10.1 0 19).toNatClampNeg ((s10.1 o (s10.1 0 19).toNatClampNeg) + (1 : Int32))) (fun s11 => some s11))))) else some s8
noncomputable def incC (c : Nat) (s21 : gS) : Option gS := gT (s21.2.2 3 1) tR (fun rr22 => lt' (wI s21 rr22 c ((s21.1 rr22 c) + (1 : Int32))) (fun s23 => some s23))
section ENDQ
variable {N : Nat} {tk pl : Nat → Nat} {vl : Nat → Int64} {r L : Nat}
theorem KR_tl {f p : Nat} {v3 sr : Int32} {o : Nat} (hf : fpO f p) : KR N tk pl vl (tF L) f p (tlR v3 o sr) := fun τ h => ⟨τ, by unfold tlR; rw [if_neg (sp_n hf h).2], h, fr_rf⟩
theorem endQ (hT : TkOK N tk pl) (hr : tR r = true) (hL : L < 2) {k j c o kd cnt : Nat} {cs : List (Int32 × Int32)} {es : List cEl} {lts : List lEl} {Θ Θ' : Tld} {nm : List nEl} {σ τ : gS} (h : MX N tk pl vl r L k cs es lts Θ (nm ++ [(vl j, kd, cnt)]) nm σ τ) (hj : j < N) (hjt : tk j = 23) (hc : c ≤ 4) (ho : 11 ≤ o ∧ o ≤ 16 ∧ o ≠ 15) (hσ : σ.1 r c = nI cnt) (hτ : τ.1 o L = nI cnt) (ht : nTot Θ' = nTot Θ + 1) (ht30 : nTot Θ < 30) (hcnt : ∀ σ' τ', (∀ j, j ≤ 4 → j ≠ c → σ'.1 r j = σ.1 r j) → σ'.1 r c = nI (cnt + 1) → (∀ o', 11 ≤ o' → o' ≤ 16 → o' ≠ o → τ'.1 o' L = τ.1 o' L) → τ'.1 o L = nI (cnt + 1) → CNT Θ' r L σ' τ') (hd : σ.1 3 8 = 0 → DX r L cs es lts Θ σ τ → DX r L cs es lts Θ' σ τ) (hk : okN Θ nm → okN Θ' (nm ++ [(vl j, kd, cnt)])) : ∃ σ' τ', incC c σ = some σ' ∧ tlR (nI j) o (nI (sR kd)) τ = some τ' ∧ fr (pcF r) σ σ' ∧ fr (tF L) τ τ' ∧ MX N tk pl vl r L k cs es lts Θ' (nm ++ [(vl j, kd, cnt)]) (nm ++ [(vl j, kd, cnt)]) σ' τ' := by
  obtain ⟨h1, h2, h3, h4, h5, h6, ⟨m, m1, m2⟩, h8⟩ := h
  have h9 := tR_9 hr
  have hj4 := k_400 hT hj
  have v6 : τ.2.1 6 j = vl j := (h1.2.1.2.2 j hj).2.2.2 hjt
  have eC : incC c σ = some (wI σ r c (nI (cnt + 1))) := by
    unfold incC
    rw [h1.2.2.1, gT_p hr, hσ, lt_b, nI_1]
  have n19 : (nkw τ (nTot Θ) (vl j) (nI (sR kd)) (nI cnt)).1 0 19 = nI L := by rw [nkw_o (by omega), h5]
  have no : (nkw τ (nTot Θ) (vl j) (nI (sR kd)) (nI cnt)).1 o L = nI cnt := by rw [nkw_o (by omega), hτ]
  have eR : tlR (nI j) o (nI (sR kd)) τ = some (wI (nkw τ (nTot Θ) (vl j) (nI (sR kd)) (nI cnt)) o L (nI (cnt + 1))) := by
    unfold tlR
    rw [h1.2.1.2.1, if_pos (show (0 : Int32) ≤ 0 by decide), h5, gx_i hL (by decide), nI_clamp (by omega), hτ, knowsR h6 (by omega) (by omega), bn1_s, v6, n19, gx_i hL (by decide), gx_i hL (by decide), nI_clamp (by omega), no, lt_b, nI_1]
  have fR : fr (tF L) τ (wI (nkw τ (nTot Θ) (vl j) (nI (sR kd)) (nI cnt)) o L (nI (cnt + 1))) := by
    unfold nkw
    refine fr_tr (fr_tr (fr_tr (fr_tr (fr_wL (decide_eq_true (by omega))) (tF_w (by omega))) (tF_w (by omega))) (tF_w (by omega))) (tF_w (by omega))
  have w0 : ∀ o' j', o' ≠ r → (wI σ r c (nI (cnt + 1))).1 o' j' = σ.1 o' j' := fun o' j' q => by rw [wI_1, if_neg (by omega)]
  have x0 : ∀ o' j', o' ≠ o → o' ≠ 9 → o' ≠ 10 → ¬ (o' = 0 ∧ j' = 20) → (wI (nkw τ (nTot Θ) (vl j) (nI (sR kd)) (nI cnt)) o L (nI (cnt + 1))).1 o' j' = τ.1 o' j' := fun o' j' q1 q2 q3 q4 => by rw [wI_1, if_neg (by omega), nkw_o ⟨q2, q3, q4⟩]
  have hr18 : r ≠ 18 ∧ r ≠ 19 ∧ r ≠ 20 := by rcases tR_or hr with rfl | rfl <;> decide
  refine ⟨_, _, eC, eR, fr_wIp (by omega), fR, ⟨?_, ?_, h3, ?_, ?_, ?_, ⟨m, m1, ?_⟩, fun z => ?_⟩⟩
  · refine GO_wC hr (GO_wR ?_ (by omega)) (by omega) (by omega)
    unfold nkw
    exact GO_wR (GO_wR (GO_wR (GO_wL h1 (by decide)) (by omega)) (by omega)) (by omega)
  · refine LX_w ?_ (by omega)
    unfold nkw
    exact LX_w (LX_w (LX_w (o := 9) (τ := wL τ 8 (nTot Θ) (vl j)) h2 (by omega)) (by omega)) (by omega)
  · refine hcnt _ _ (fun j' q1 q2 => by rw [wI_1, if_neg (by omega)]) wI_s (fun o' q1 q2 q3 => ?_) wI_s
    exact x0 o' L q3 (by omega) (by omega) (by omega)
  · rw [x0 0 19 (by omega) (by omega) (by omega) (by omega)]; exact h5
  · rw [wI_1, if_neg (by omega), ht]
    unfold nkw
    exact wI_s
  · rw [w0 3 13 (by omega)]; exact m2
  · rw [w0 3 8 (by omega)] at z
    obtain ⟨q1, q2, q3, q4, q5⟩ := h8 z
    have hmt : nm.length = nTot Θ := (nI_eq (by have := q3.1; omega) (by omega)).mp (q3.2.1.symm.trans h6)
    refine ⟨?_, ⟨(w0 3 13 (by omega)).trans q2.1, fun i x hx => ?_⟩, ⟨?_, ?_, fun i x hx => ?_⟩, q4, hk q5⟩
    · have := DX_up (d := []) (e := []) (nl := []) (σ' := wI σ r c (nI (cnt + 1))) (τ' := wI (nkw τ (nTot Θ) (vl j) (nI (sR kd)) (nI cnt)) o L (nI (cnt + 1))) (fun o' j' q _ => w0 o' j' (by omega)) (fun o' j' q q' _ => x0 o' j' (by omega) (by omega) (by omega) (by omega)) (hd z q1)
      rw [List.append_nil, List.append_nil, List.append_nil] at this
      exact this
    · obtain ⟨a, b, d⟩ := q2.2 i x hx
      exact ⟨a, (w0 19 i (by omega)).trans b, (w0 20 i (by omega)).trans d⟩
    · rw [List.length_append, List.length_singleton]; omega
    · rw [wI_1, if_neg (by omega), List.length_append, List.length_singleton, hmt]
      unfold nkw
      exact wI_s
    · have hi := gl_of hx
      rw [List.length_append, List.length_singleton] at hi
      have y8 : (wI (nkw τ (nTot Θ) (vl j) (nI (sR kd)) (nI cnt)) o L (nI (cnt + 1))).2.1 8 i = if i = nTot Θ then vl j else τ.2.1 8 i := by
        unfold nkw
        rw [wI_2, wI_2, wI_2, wI_2, wL_2]
        by_cases q : i = nTot Θ
        · rw [if_pos ⟨rfl, q⟩, if_pos q]
        · rw [if_neg (fun z => q z.2), if_neg q]
      have y9 : (wI (nkw τ (nTot Θ) (vl j) (nI (sR kd)) (nI cnt)) o L (nI (cnt + 1))).1 9 i = if i = nTot Θ then nI (sR kd) else τ.1 9 i := by
        unfold nkw
        rw [wI_1, if_neg (by omega), wI_1, if_neg (by omega), wI_1, if_neg (by omega), wI_1, wL_1]
        by_cases q : i = nTot Θ
        · rw [if_pos ⟨rfl, q⟩, if_pos q]
        · rw [if_neg (fun z => q z.2), if_neg q]
      have y10 : (wI (nkw τ (nTot Θ) (vl j) (nI (sR kd)) (nI cnt)) o L (nI (cnt + 1))).1 10 i = if i = nTot Θ then nI cnt else τ.1 10 i := by
        unfold nkw
        rw [wI_1, if_neg (by omega), wI_1, if_neg (by omega), wI_1]
        by_cases q : i = nTot Θ
        · rw [if_pos ⟨rfl, q⟩, if_pos q]
        · rw [if_neg (fun z => q z.2), if_neg q, wI_1, if_neg (by omega), wL_1]
      rw [y8, y9, y10]
      rcases Nat.lt_or_ge i nm.length with w | w
      · rw [List.getElem?_append_left w] at hx
        rw [if_neg (by omega), if_neg (by omega), if_neg (by omega)]
        exact q3.2.2 i x hx
      · have e : i = nm.length := by omega
        subst e
        rw [List.getElem?_append_right (Nat.le_refl _), Nat.sub_self] at hx
        simp only [List.getElem?_cons_zero, Option.some.injEq] at hx
        subst hx
        rw [if_pos hmt, if_pos hmt, if_pos hmt]
        exact ⟨rfl, rfl, rfl⟩
end ENDQ
