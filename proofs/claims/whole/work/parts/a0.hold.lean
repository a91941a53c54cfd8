/-! read: what was told is what both hold -/
theorem stC_sub {r : Nat} {σ : gS} {u c v : List (Int32 × Int32)} (h : stC r σ 0 (u ++ c ++ v)) : stC r σ u.length c := fun i q e => by
  have hi := gl_of e
  have e2 : (u ++ c ++ v)[u.length + i]? = some q := by
    rw [List.append_assoc, List.getElem?_append_right (by omega), show u.length + i - u.length = i by omega, List.getElem?_append_left hi, e]
  have := h (u.length + i) q e2
  rw [Nat.zero_add] at this
  exact this
theorem cdR_sub {τ : gS} {s : Nat} {u c v : List cEl} (h : cdR τ s (u ++ c ++ v)) : cdR τ (s + u.length) c := fun i q e => by
  have hi := gl_of e
  have e2 : (u ++ c ++ v)[u.length + i]? = some q := by
    rw [List.append_assoc, List.getElem?_append_right (by omega), show u.length + i - u.length = i by omega, List.getElem?_append_left hi, e]
  have := h (u.length + i) q e2
  rw [← Nat.add_assoc] at this
  exact this
theorem FC_fm {r f : Nat} {cs c : List (Int32 × Int32)} {σ : gS} (hx : CX r cs σ) (hl : cs.length ≤ 400) (h : FC r cs σ f c) : fmC r σ f c := by
  obtain ⟨u, v, e, a, b⟩ := h
  subst e
  refine ⟨u.length, (u ++ c ++ v).length, ?_, hl, hx.1, a, b, stC_sub hx.2⟩
  rw [List.length_append, List.length_append]; omega
theorem LR_lt {L i : Nat} {es : List cEl} {τ : gS} {x : lEl} (hL : L < 2) (hc : cdR τ (420 * L) es) (hl : es.length ≤ 400) (hi : i < 150) (h : LR L es τ (150 * L + i) x) : ltR τ (150 * L + i) x := by
  obtain ⟨h1, h2, h3, u, v, e, h5, h6, h7⟩ := h
  subst e
  simp only [List.length_append] at hl
  have hd : (150 * L + i) / 150 = L := by omega
  refine ⟨h1, h2, h3, 420 * L + u.length, ⟨by omega, ?_, ?_⟩, h5, h6, h7, cdR_sub hc⟩
  · rw [hd]; omega
  · rw [hd]; omega
theorem RC_cn {L q : Nat} {es : List cEl} {lts ls : List lEl} {τ : gS} (hL : L < 2) (hq : q < 26) (hc : cdR τ (420 * L) es) (hl : es.length ≤ 400) (hx : LX L es lts τ) (ht : lts.length ≤ 140) (h : RCn L lts τ (26 * L + q) ls) : cnR τ (26 * L + q) ls := by
  obtain ⟨u, v, e, a, b⟩ := h
  subst e
  simp only [List.length_append] at ht
  have hd : (26 * L + q) / 26 = L := by omega
  refine ⟨150 * L + u.length, ⟨by omega, ?_, ?_⟩, a, b, fun i x hi => ?_⟩
  · rw [hd]; omega
  · rw [hd]; omega
  · have hil := gl_of hi
    have e2 : (u ++ ls ++ v)[u.length + i]? = some x := by
      rw [List.append_assoc, List.getElem?_append_right (by omega), show u.length + i - u.length = i by omega, List.getElem?_append_left hil, hi]
    rw [Nat.add_assoc]
    exact LR_lt hL hc hl (by omega) (hx.2 _ x e2)
theorem RL_lw {L q : Nat} {es c : List cEl} {τ : gS} (hL : L < 2) (hq : q < 26) (hc : cdR τ (420 * L) es) (hl : es.length ≤ 400) (h : RLw L es τ (26 * L + q) c) : lwR τ (26 * L + q) c := by
  obtain ⟨u, v, e, a, b⟩ := h
  subst e
  simp only [List.length_append] at hl
  have hd : (26 * L + q) / 26 = L := by omega
  refine ⟨420 * L + u.length, ⟨by omega, ?_, ?_⟩, a, b, cdR_sub hc⟩
  · rw [hd]; omega
  · rw [hd]; omega
section HOLD
variable {N : Nat} {tk pl : Nat → Nat} {vl : Nat → Int64} {r L : Nat}
theorem MX_Td (hT : TkOK N tk pl) (hL : L < 2) {k : Nat} {cs : List (Int32 × Int32)} {es : List cEl} {lts : List lEl} {Θ : Tld} {nC nR : List nEl} {σ τ : gS} (h : MX N tk pl vl r L k cs es lts Θ nC nR σ τ) (h0 : σ.1 3 8 = 0) : TdT Θ ∧ TdC Θ r σ ∧ TdR Θ L τ := by
  obtain ⟨h1, h2, h3, h4, h5, h6, -, h8⟩ := h
  obtain ⟨⟨d1, d2, d3, d4, d5⟩, -⟩ := h8 h0
  have hk4 := k_400 hT h1.1.1
  have hb := h4.1
  have lc : cs.length ≤ 400 := by have := h1.2.2.2.2.2.2.2.1; omega
  have le : es.length ≤ 400 := by have := h1.2.2.2.2.2.2.2.2; omega
  have hx := h1.2.2.2.1
  have hc := h1.2.2.2.2.1.2
  refine ⟨⟨hb, fun j hj => (d1 j hj).1, fun j hj => (d2 j hj).1, fun j hj => (d3 j hj).1, fun j hj => (d4 j hj).1, fun j hj => (d5 j hj).1⟩, ⟨h4.2.1, fun j hj => (d1 j hj).2.1, fun j hj => (d2 j hj).2.1, fun j hj => FC_fm hx lc (d3 j hj).2.1, fun j hj => FC_fm hx lc (d4 j hj).2.1, fun j hj => FC_fm hx lc (d5 j hj).2.1⟩, ⟨h4.2.2, fun j hj => (d1 j hj).2.2, fun j hj => (d2 j hj).2.2, fun j hj => RC_cn hL (by omega) hc le h2 (by omega) (d3 j hj).2.2, fun j hj => ?_, fun j hj => ?_⟩⟩
  · have := (d4 j hj).2.2
    rw [Nat.add_assoc] at this ⊢
    exact RC_cn hL (by omega) hc le h2 (by omega) this
  · have := (d5 j hj).2.2
    rw [Nat.add_assoc] at this ⊢
    exact RL_lw hL (by omega) hc le this
end HOLD
def inS (L o j : Nat) : Prop := (11 ≤ o ∧ o ≤ 16 ∧ o ≠ 15 ∧ j = L) ∨ (o = 15 ∧ 16 * L ≤ j ∧ j < 16 * L + 16) ∨ (17 ≤ o ∧ o ≤ 19 ∧ 40 * L ≤ j ∧ j < 40 * L + 40) ∨ (20 ≤ o ∧ o ≤ 23 ∧ 26 * L ≤ j ∧ j < 26 * L + 26) ∨ (24 ≤ o ∧ o ≤ 29 ∧ 150 * L ≤ j ∧ j < 150 * L + 150) ∨ (30 ≤ o ∧ o ≤ 31 ∧ 420 * L ≤ j ∧ j < 420 * L + 420)
section SIDE
variable {L : Nat} {τ τ' : gS}
theorem cdR_sd (hs : ∀ o j, inS L o j → τ'.1 o j = τ.1 o j) {s : Nat} {c : List cEl} (h1 : 420 * L ≤ s) (h2 : s + c.length ≤ 420 * L + 420) (h : cdR τ s c) : cdR τ' s c := fun i q e => by
  have hi := gl_of e
  exact ⟨(hs 30 _ (by unfold inS; omega)).trans (h i q e).1, (hs 31 _ (by unfold inS; omega)).trans (h i q e).2⟩
theorem ltR_sd (hs : ∀ o j, inS L o j → τ'.1 o j = τ.1 o j) {i : Nat} {x : lEl} (h1 : 150 * L ≤ i) (h2 : i < 150 * L + 150) (h : ltR τ i x) : ltR τ' i x := by
  obtain ⟨a1, a2, a3, a, ⟨b0, b1, b2⟩, b3, b4, b5, b6⟩ := h
  have hd : i / 150 = L := by omega
  have b1' := b1
  have b2' := b2
  rw [hd] at b1' b2'
  exact ⟨(hs _ _ (by unfold inS; omega)).trans a1, (hs _ _ (by unfold inS; omega)).trans a2, (hs _ _ (by unfold inS; omega)).trans a3, a, ⟨b0, b1, b2⟩, (hs _ _ (by unfold inS; omega)).trans b3, (hs _ _ (by unfold inS; omega)).trans b4, (hs _ _ (by unfold inS; omega)).trans b5, cdR_sd hs b1' (by rw [List.length_append]; omega) b6⟩
theorem cnR_sd (hs : ∀ o j, inS L o j → τ'.1 o j = τ.1 o j) {q : Nat} {ls : List lEl} (hq : q < 26) (h : cnR τ (26 * L + q) ls) : cnR τ' (26 * L + q) ls := by
  obtain ⟨s, ⟨a0, a1, a2⟩, a3, a4, a5⟩ := h
  have hd : (26 * L + q) / 26 = L := by omega
  have a1' := a1
  have a2' := a2
  rw [hd] at a1' a2'
  exact ⟨s, ⟨a0, a1, a2⟩, (hs _ _ (by unfold inS; omega)).trans a3, (hs _ _ (by unfold inS; omega)).trans a4, fun i x hi => by
    have := gl_of hi
    exact ltR_sd hs (by omega) (by omega) (a5 i x hi)⟩
theorem lwR_sd (hs : ∀ o j, inS L o j → τ'.1 o j = τ.1 o j) {q : Nat} {c : List cEl} (hq : q < 26) (h : lwR τ (26 * L + q) c) : lwR τ' (26 * L + q) c := by
  obtain ⟨s, ⟨a0, a1, a2⟩, a3, a4, a5⟩ := h
  have hd : (26 * L + q) / 26 = L := by omega
  have a1' := a1
  have a2' := a2
  rw [hd] at a1' a2'
  exact ⟨s, ⟨a0, a1, a2⟩, (hs _ _ (by unfold inS; omega)).trans a3, (hs _ _ (by unfold inS; omega)).trans a4, cdR_sd hs a1' a2' a5⟩
theorem TdR_sd {Θ : Tld} (hs : ∀ o j, inS L o j → τ'.1 o j = τ.1 o j) (hb : TdT Θ) (h : TdR Θ L τ) : TdR Θ L τ' := by
  obtain ⟨⟨a1, a2, a3, a4, a5⟩, b, c, d, e, f⟩ := h
  have hb := hb.1
  refine ⟨⟨(hs _ _ (by unfold inS; omega)).trans a1, (hs _ _ (by unfold inS; omega)).trans a2, (hs _ _ (by unfold inS; omega)).trans a3, (hs _ _ (by unfold inS; omega)).trans a4, (hs _ _ (by unfold inS; omega)).trans a5⟩, fun k hk => (hs _ _ (by unfold inS; omega)).trans (b k hk), fun k hk => ?_, fun k hk => cnR_sd hs (by omega) (d k hk), fun k hk => ?_, fun k hk => ?_⟩
  · obtain ⟨c1, c2, c3⟩ := c k hk
    exact ⟨(hs _ _ (by unfold inS; omega)).trans c1, (hs _ _ (by unfold inS; omega)).trans c2, (hs _ _ (by unfold inS; omega)).trans c3⟩
  · have := e k hk
    rw [Nat.add_assoc] at this ⊢
    exact cnR_sd hs (by omega) this
  · have := f k hk
    rw [Nat.add_assoc] at this ⊢
    exact lwR_sd hs (by omega) this
end SIDE
