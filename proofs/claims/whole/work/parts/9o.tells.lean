/-! read: what stands between the tells -/
def pcF (r o j : Nat) : Bool := decide ((o = 3 ∧ 2 ≤ j ∧ j ≤ 13) ∨ (18 ≤ o ∧ o ≤ 20) ∨ (r ≤ o ∧ o ≤ r + 8))
def tF (L o j : Nat) : Bool := decide ((o = 0 ∧ ((11 ≤ j ∧ j ≤ 16) ∨ j = 20 ∨ j = 37 ∨ j = 44 ∨ j = 48)) ∨ (8 ≤ o ∧ o ≤ 10) ∨ (11 ≤ o ∧ o ≤ 16 ∧ o ≠ 15 ∧ j = L) ∨ (o = 15 ∧ 16 * L ≤ j ∧ j < 16 * L + 16) ∨ (17 ≤ o ∧ o ≤ 19 ∧ 40 * L ≤ j ∧ j < 40 * L + 40) ∨ (20 ≤ o ∧ o ≤ 23 ∧ 26 * L ≤ j ∧ j < 26 * L + 26) ∨ (24 ≤ o ∧ o ≤ 29 ∧ 150 * L ≤ j ∧ j < 150 * L + 150) ∨ (30 ≤ o ∧ o ≤ 31 ∧ 420 * L ≤ j ∧ j < 420 * L + 420) ∨ o = 32)
theorem sumF_n {r o j : Nat} (h : ¬ ((o = 3 ∧ 2 ≤ j ∧ j ≤ 9) ∨ (o = r ∧ j = 13) ∨ o = r + 7 ∨ o = r + 8)) : sumF r o j = false := by
  simp only [sumF, Bool.or_eq_false_iff, Bool.and_eq_false_iff, beq_eq_false_iff_ne, decide_eq_false_iff_not]
  omega
theorem liF_n {L o j : Nat} (h : ¬ ((o = 0 ∧ ((11 ≤ j ∧ j ≤ 16) ∨ j = 37 ∨ j = 44 ∨ j = 48)) ∨ (24 ≤ o ∧ o ≤ 29 ∧ 150 * L ≤ j ∧ j < 150 * L + 150) ∨ (30 ≤ o ∧ o ≤ 31 ∧ 420 * L ≤ j ∧ j < 420 * L + 420) ∨ o = 32)) : liF L o j = false := by
  simp only [liF, xH, xF, Bool.or_eq_false_iff, Bool.and_eq_false_iff, beq_eq_false_iff_ne, decide_eq_false_iff_not]
  omega
theorem sumF_p {r : Nat} {σ τ : gS} (f : fr (sumF r) σ τ) : fr (pcF r) σ τ := fr_up (fun o j q => sumF_n (by
  have := of_decide_eq_false q
  omega)) f
theorem liF_t {L : Nat} {σ τ : gS} (f : fr (liF L) σ τ) : fr (tF L) σ τ := fr_up (fun o j q => liF_n (by
  have := of_decide_eq_false q
  omega)) f
theorem hdR_t {L : Nat} {σ τ : gS} (f : fr hdR σ τ) : fr (tF L) σ τ := liF_t (liF_x (xH_x (hdR_x f)))
theorem hdC_p {r : Nat} {σ τ : gS} (f : fr hdC σ τ) : fr (pcF r) σ τ := sumF_p (hdC_s f)
theorem fr_wIp {r o j : Nat} {σ : gS} {v : Int32} (h : (o = 3 ∧ 2 ≤ j ∧ j ≤ 13) ∨ (18 ≤ o ∧ o ≤ 20) ∨ (r ≤ o ∧ o ≤ r + 8)) : fr (pcF r) σ (wI σ o j v) := fr_wI (decide_eq_true h)
theorem KC_p {f p r : Nat} {m : gS → Option gS} (h : KC (sumF r) f p r m) : KC (pcF r) f p r m := fun σ hc => by
  obtain ⟨s1, e1, c1, f1⟩ := h σ hc
  exact ⟨s1, e1, c1, sumF_p f1⟩
def nTot (Θ : Tld) : Nat := nSg Θ + nSy Θ + nBk Θ + nLw Θ
def sR (k : Nat) : Nat := if k = 0 then 0 else if k = 2 then 1 else if k = 3 then 2 else 3
abbrev nEl : Type := Int64 × Nat × Nat
def NMc (nm : List nEl) (σ : gS) : Prop := σ.1 3 13 = nI nm.length ∧ ∀ i x, nm[i]? = some x → σ.2.1 18 i = x.1 ∧ σ.1 19 i = nI x.2.1 ∧ σ.1 20 i = nI x.2.2
def NMr (nm : List nEl) (τ : gS) : Prop := nm.length ≤ 30 ∧ τ.1 0 20 = nI nm.length ∧ ∀ i x, nm[i]? = some x → τ.2.1 8 i = x.1 ∧ τ.1 9 i = nI (sR x.2.1) ∧ τ.1 10 i = nI x.2.2
def dsN (nm : List nEl) : Prop := ∀ (i j : Nat) (x y : nEl), nm[i]? = some x → nm[j]? = some y → x.1 = y.1 → i = j
def okN (Θ : Tld) (nm : List nEl) : Prop := ∀ x ∈ nm, (x.2.1 = 0 ∨ x.2.1 = 2 ∨ x.2.1 = 3 ∨ x.2.1 = 5) ∧ (x.2.1 = 0 → x.2.2 < nSg Θ) ∧ (x.2.1 = 2 → x.2.2 < nSy Θ)
def FC (r : Nat) (cs : List (Int32 × Int32)) (σ : gS) (f : Nat) (c : List (Int32 × Int32)) : Prop := ∃ u v, cs = u ++ c ++ v ∧ σ.1 (r + 5) f = nI u.length ∧ σ.1 (r + 6) f = nI (u.length + c.length)
def RCn (L : Nat) (lts : List lEl) (τ : gS) (q : Nat) (ls : List lEl) : Prop := ∃ u v, lts = u ++ ls ++ v ∧ τ.1 20 q = nI (150 * L + u.length) ∧ τ.1 21 q = nI (150 * L + u.length + ls.length)
def RLw (L : Nat) (es : List cEl) (τ : gS) (q : Nat) (c : List cEl) : Prop := ∃ u v, es = u ++ c ++ v ∧ τ.1 22 q = nI (420 * L + u.length) ∧ τ.1 23 q = nI (420 * L + u.length + c.length)
/-- what has been told, both sides -/
def DX (r L : Nat) (cs : List (Int32 × Int32)) (es : List cEl) (lts : List lEl) (Θ : Tld) (σ τ : gS) : Prop := (∀ j, j < nSy Θ → srt Θ j ≤ 6 ∧ σ.1 (r + 1) j = nI (srt Θ j) ∧ τ.1 15 (16 * L + j) = nI (srt Θ j)) ∧ (∀ j, j < nWh Θ → (wBk Θ j < nBk Θ ∧ wSg Θ j < nSg Θ ∧ wSy Θ j < nSy Θ) ∧ (σ.1 (r + 2) j = nI (wBk Θ j) ∧ σ.1 (r + 3) j = nI (wSg Θ j) ∧ σ.1 (r + 4) j = nI (wSy Θ j)) ∧ τ.1 17 (40 * L + j) = nI (wBk Θ j) ∧ τ.1 18 (40 * L + j) = nI (wSg Θ j) ∧ τ.1 19 (40 * L + j) = nI (wSy Θ j)) ∧ (∀ j, j < nSg Θ → wfC (cnd Θ j) ∧ FC r cs σ j (cmC false (cnd Θ j)) ∧ RCn L lts τ (26 * L + j) (cnd Θ j)) ∧ (∀ j, j < nSy Θ → wfC (cnd Θ (6 + j)) ∧ FC r cs σ (6 + j) (cmC false (cnd Θ (6 + j))) ∧ RCn L lts τ (26 * L + 6 + j) (cnd Θ (6 + j))) ∧ ∀ j, j < nLw Θ → wfE (lwc Θ j) ∧ FC r cs σ (22 + j) ((lwc Θ j).map cm1) ∧ RLw L es τ (26 * L + 22 + j) (lwc Θ j)
def CNT (Θ : Tld) (r L : Nat) (σ τ : gS) : Prop := (nSg Θ ≤ 6 ∧ nSy Θ ≤ 16 ∧ nBk Θ ≤ 4 ∧ nWh Θ ≤ 40 ∧ nLw Θ ≤ 4) ∧ (σ.1 r 0 = nI (nSg Θ) ∧ σ.1 r 1 = nI (nSy Θ) ∧ σ.1 r 2 = nI (nBk Θ) ∧ σ.1 r 3 = nI (nWh Θ) ∧ σ.1 r 4 = nI (nLw Θ)) ∧ τ.1 11 L = nI (nSg Θ) ∧ τ.1 12 L = nI (nSy Θ) ∧ τ.1 13 L = nI (nBk Θ) ∧ τ.1 16 L = nI (nWh Θ) ∧ τ.1 14 L = nI (nLw Θ)
def uC (Θ : Tld) (r o j : Nat) : Prop := (o = r ∧ j ≤ 4) ∨ (o = r + 1 ∧ j < nSy Θ) ∨ ((o = r + 2 ∨ o = r + 3 ∨ o = r + 4) ∧ j < nWh Θ) ∨ ((o = r + 5 ∨ o = r + 6) ∧ (j < nSg Θ ∨ (6 ≤ j ∧ j < 6 + nSy Θ) ∨ (22 ≤ j ∧ j < 22 + nLw Θ)))
def uR (Θ : Tld) (L o j : Nat) : Prop := (11 ≤ o ∧ o ≤ 16 ∧ o ≠ 15 ∧ j = L) ∨ (o = 15 ∧ 16 * L ≤ j ∧ j < 16 * L + nSy Θ) ∨ (17 ≤ o ∧ o ≤ 19 ∧ 40 * L ≤ j ∧ j < 40 * L + nWh Θ) ∨ (20 ≤ o ∧ o ≤ 23 ∧ ((26 * L ≤ j ∧ j < 26 * L + nSg Θ) ∨ (26 * L + 6 ≤ j ∧ j < 26 * L + 6 + nSy Θ) ∨ (26 * L + 22 ≤ j ∧ j < 26 * L + 22 + nLw Θ)))
def KpC (Θ : Tld) (r : Nat) (σ τ : gS) : Prop := ∀ o j, uC Θ r o j ∨ (18 ≤ o ∧ o ≤ 20) ∨ (o = 3 ∧ j = 13) → τ.1 o j = σ.1 o j ∧ τ.2.1 o j = σ.2.1 o j
def KpR (Θ : Tld) (L : Nat) (σ τ : gS) : Prop := ∀ o j, uR Θ L o j ∨ (8 ≤ o ∧ o ≤ 10) ∨ (o = 0 ∧ (j = 19 ∨ j = 20)) → τ.1 o j = σ.1 o j ∧ τ.2.1 o j = σ.2.1 o j
theorem KpC_tr {Θ : Tld} {r : Nat} {σ τ υ : gS} (h : KpC Θ r σ τ) (h2 : KpC Θ r τ υ) : KpC Θ r σ υ := fun o j q => ⟨(h2 o j q).1.trans (h o j q).1, (h2 o j q).2.trans (h o j q).2⟩
theorem KpR_tr {Θ : Tld} {L : Nat} {σ τ υ : gS} (h : KpR Θ L σ τ) (h2 : KpR Θ L τ υ) : KpR Θ L σ υ := fun o j q => ⟨(h2 o j q).1.trans (h o j q).1, (h2 o j q).2.trans (h o j q).2⟩
theorem KpC_s {Θ : Tld} {r : Nat} {σ τ : gS} (hr : tR r = true) (f : fr (sumF r) σ τ) : KpC Θ r σ τ := fun o j q => by
  have h9 := tR_9 hr
  have hn : sumF r o j = false := sumF_n (by
    rcases tR_or hr with rfl | rfl
    · rcases q with q | q | q
      · unfold uC at q; omega
      · omega
      · omega
    · rcases q with q | q | q
      · unfold uC at q; omega
      · omega
      · omega)
  exact ⟨fr_1 f hn, fr_2 f hn⟩
theorem KpR_l {Θ : Tld} {L : Nat} {σ τ : gS} (f : fr (liF L) σ τ) : KpR Θ L σ τ := fun o j q => by
  have hn : liF L o j = false := liF_n (by
    rcases q with q | q | q
    · unfold uR at q; omega
    · omega
    · omega)
  exact ⟨fr_1 f hn, fr_2 f hn⟩
theorem KpR_h {Θ : Tld} {L : Nat} {σ τ : gS} (f : fr hdR σ τ) : KpR Θ L σ τ := KpR_l (liF_x (xH_x (hdR_x f)))
theorem FC_up {r f : Nat} {cs d c : List (Int32 × Int32)} {σ τ : gS} (h : FC r cs σ f c) (h5 : τ.1 (r + 5) f = σ.1 (r + 5) f) (h6 : τ.1 (r + 6) f = σ.1 (r + 6) f) : FC r (cs ++ d) τ f c := by
  obtain ⟨u, v, e, a, b⟩ := h
  exact ⟨u, v ++ d, by rw [e]; simp only [List.append_assoc], h5.trans a, h6.trans b⟩
theorem RCn_up {L q : Nat} {lts d c : List lEl} {σ τ : gS} (h : RCn L lts σ q c) (h5 : τ.1 20 q = σ.1 20 q) (h6 : τ.1 21 q = σ.1 21 q) : RCn L (lts ++ d) τ q c := by
  obtain ⟨u, v, e, a, b⟩ := h
  exact ⟨u, v ++ d, by rw [e]; simp only [List.append_assoc], h5.trans a, h6.trans b⟩
theorem RLw_up {L q : Nat} {lts d c : List cEl} {σ τ : gS} (h : RLw L lts σ q c) (h5 : τ.1 22 q = σ.1 22 q) (h6 : τ.1 23 q = σ.1 23 q) : RLw L (lts ++ d) τ q c := by
  obtain ⟨u, v, e, a, b⟩ := h
  exact ⟨u, v ++ d, by rw [e]; simp only [List.append_assoc], h5.trans a, h6.trans b⟩
theorem DX_up {r L : Nat} {cs d : List (Int32 × Int32)} {es e : List cEl} {lts nl : List lEl} {Θ : Tld} {σ τ σ' τ' : gS} (c1 : ∀ o j, r < o → uC Θ r o j → σ'.1 o j = σ.1 o j) (r1 : ∀ o j, 15 ≤ o → o ≠ 16 → uR Θ L o j → τ'.1 o j = τ.1 o j) (h : DX r L cs es lts Θ σ τ) : DX r L (cs ++ d) (es ++ e) (lts ++ nl) Θ σ' τ' := by
  obtain ⟨h1, h2, h3, h4, h5⟩ := h
  refine ⟨fun j hj => ?_, fun j hj => ?_, fun j hj => ?_, fun j hj => ?_, fun j hj => ?_⟩
  · obtain ⟨a1, a2, a3⟩ := h1 j hj
    exact ⟨a1, (c1 _ _ (by omega) (by unfold uC; omega)).trans a2, (r1 _ _ (by omega) (by omega) (by unfold uR; omega)).trans a3⟩
  · obtain ⟨a1, ⟨a2, a3, a4⟩, a5, a6, a7⟩ := h2 j hj
    exact ⟨a1, ⟨(c1 _ _ (by omega) (by unfold uC; omega)).trans a2, (c1 _ _ (by omega) (by unfold uC; omega)).trans a3, (c1 _ _ (by omega) (by unfold uC; omega)).trans a4⟩, (r1 _ _ (by omega) (by omega) (by unfold uR; omega)).trans a5, (r1 _ _ (by omega) (by omega) (by unfold uR; omega)).trans a6, (r1 _ _ (by omega) (by omega) (by unfold uR; omega)).trans a7⟩
  · obtain ⟨a1, a2, a3⟩ := h3 j hj
    exact ⟨a1, FC_up a2 (c1 _ _ (by omega) (by unfold uC; omega)) (c1 _ _ (by omega) (by unfold uC; omega)), RCn_up a3 (r1 _ _ (by omega) (by omega) (by unfold uR; omega)) (r1 _ _ (by omega) (by omega) (by unfold uR; omega))⟩
  · obtain ⟨a1, a2, a3⟩ := h4 j hj
    exact ⟨a1, FC_up a2 (c1 _ _ (by omega) (by unfold uC; omega)) (c1 _ _ (by omega) (by unfold uC; omega)), RCn_up a3 (r1 _ _ (by omega) (by omega) (by unfold uR; omega)) (r1 _ _ (by omega) (by omega) (by unfold uR; omega))⟩
  · obtain ⟨a1, a2, a3⟩ := h5 j hj
    exact ⟨a1, FC_up a2 (c1 _ _ (by omega) (by unfold uC; omega)) (c1 _ _ (by omega) (by unfold uC; omega)), RLw_up a3 (r1 _ _ (by omega) (by omega) (by unfold uR; omega)) (r1 _ _ (by omega) (by omega) (by unfold uR; omega))⟩
theorem CNT_up {Θ : Tld} {r L : Nat} {σ τ σ' τ' : gS} (c1 : ∀ o j, uC Θ r o j → σ'.1 o j = σ.1 o j) (r1 : ∀ o j, uR Θ L o j → τ'.1 o j = τ.1 o j) (h : CNT Θ r L σ τ) : CNT Θ r L σ' τ' := by
  obtain ⟨b, ⟨a1, a2, a3, a4, a5⟩, d1, d2, d3, d4, d5⟩ := h
  exact ⟨b, ⟨(c1 _ _ (by unfold uC; omega)).trans a1, (c1 _ _ (by unfold uC; omega)).trans a2, (c1 _ _ (by unfold uC; omega)).trans a3, (c1 _ _ (by unfold uC; omega)).trans a4, (c1 _ _ (by unfold uC; omega)).trans a5⟩, (r1 _ _ (by unfold uR; omega)).trans d1, (r1 _ _ (by unfold uR; omega)).trans d2, (r1 _ _ (by unfold uR; omega)).trans d3, (r1 _ _ (by unfold uR; omega)).trans d4, (r1 _ _ (by unfold uR; omega)).trans d5⟩
theorem NMc_up {nm : List nEl} {Θ : Tld} {r : Nat} {σ σ' : gS} (hc : KpC Θ r σ σ') (h : NMc nm σ) : NMc nm σ' := by
  refine ⟨(hc 3 13 (by omega)).1.trans h.1, fun i x q => ?_⟩
  obtain ⟨a, b, c⟩ := h.2 i x q
  exact ⟨(hc 18 i (by omega)).2.trans a, (hc 19 i (by omega)).1.trans b, (hc 20 i (by omega)).1.trans c⟩
theorem NMr_up {nm : List nEl} {Θ : Tld} {L : Nat} {τ τ' : gS} (hc : KpR Θ L τ τ') (h : NMr nm τ) : NMr nm τ' := by
  refine ⟨h.1, (hc 0 20 (by omega)).1.trans h.2.1, fun i x q => ?_⟩
  obtain ⟨a, b, c⟩ := h.2.2 i x q
  exact ⟨(hc 8 i (by omega)).2.trans a, (hc 9 i (by omega)).1.trans b, (hc 10 i (by omega)).1.trans c⟩
/-- both sides, within the tells: nC the names that the class knows, nR the reference -/
def MX (N : Nat) (tk pl : Nat → Nat) (vl : Nat → Int64) (r L k : Nat) (cs : List (Int32 × Int32)) (es : List cEl) (lts : List lEl) (Θ : Tld) (nC nR : List nEl) (σ τ : gS) : Prop := GO N tk pl vl r L 0 k cs es σ τ ∧ LX L es lts τ ∧ 3 * lts.length ≤ k ∧ CNT Θ r L σ τ ∧ τ.1 0 19 = nI L ∧ τ.1 0 20 = nI (nTot Θ) ∧ (∃ m, m ≤ 30 ∧ σ.1 3 13 = nI m) ∧ (σ.1 3 8 = 0 → DX r L cs es lts Θ σ τ ∧ NMc nC σ ∧ NMr nR τ ∧ dsN nC ∧ okN Θ nR)
section MXS
variable {N : Nat} {tk pl : Nat → Nat} {vl : Nat → Int64} {r L : Nat}
theorem MX_up {k k' : Nat} {cs d : List (Int32 × Int32)} {es e : List cEl} {lts nl : List lEl} {Θ : Tld} {nC nR : List nEl} {σ τ σ' τ' : gS} (h : MX N tk pl vl r L k cs es lts Θ nC nR σ τ) (hc : KpC Θ r σ σ') (hr : KpR Θ L τ τ') (hm : σ'.1 3 8 = 0 → σ.1 3 8 = 0) (g1 : GO N tk pl vl r L 0 k' (cs ++ d) (es ++ e) σ' τ') (g2 : LX L (es ++ e) (lts ++ nl) τ') (g3 : 3 * (lts ++ nl).length ≤ k') : MX N tk pl vl r L k' (cs ++ d) (es ++ e) (lts ++ nl) Θ nC nR σ' τ' := by
  obtain ⟨h1, h2, h3, h4, h5, h6, ⟨m, m1, m2⟩, h8⟩ := h
  have c1 : ∀ o j, uC Θ r o j → σ'.1 o j = σ.1 o j := fun o j q => (hc o j (Or.inl q)).1
  have r1 : ∀ o j, uR Θ L o j → τ'.1 o j = τ.1 o j := fun o j q => (hr o j (Or.inl q)).1
  refine ⟨g1, g2, g3, CNT_up c1 r1 h4, (hr 0 19 (by omega)).1.trans h5, (hr 0 20 (by omega)).1.trans h6, ⟨m, m1, (hc 3 13 (by omega)).1.trans m2⟩, fun z => ?_⟩
  obtain ⟨a1, a2, a3, a4, a5⟩ := h8 (hm z)
  exact ⟨DX_up (fun o j _ q => c1 o j q) (fun o j _ _ q => r1 o j q) a1, NMc_up hc a2, NMr_up hr a3, a4, a5⟩
theorem MX_0 {k k' : Nat} {cs : List (Int32 × Int32)} {es : List cEl} {lts : List lEl} {Θ : Tld} {nC nR : List nEl} {σ τ σ' τ' : gS} (h : MX N tk pl vl r L k cs es lts Θ nC nR σ τ) (hc : KpC Θ r σ σ') (hr : KpR Θ L τ τ') (hm : σ'.1 3 8 = 0 → σ.1 3 8 = 0) (g1 : GO N tk pl vl r L 0 k' cs es σ' τ') (g2 : LX L es lts τ') (g3 : k ≤ k') : MX N tk pl vl r L k' cs es lts Θ nC nR σ' τ' := by
  have h3 := h.2.2.1
  have := MX_up (d := []) (e := []) (nl := []) h hc hr hm (by rw [List.append_nil, List.append_nil]; exact g1) (by rw [List.append_nil, List.append_nil]; exact g2) (k' := k') (by rw [List.append_nil]; omega)
  rw [List.append_nil, List.append_nil, List.append_nil] at this
  exact this
/-- both take a token -/
theorem goMX (hT : TkOK N tk pl) (hr : tR r = true) {k : Nat} {cs : List (Int32 × Int32)} {es : List cEl} {lts : List lEl} {Θ : Tld} {nC nR : List nEl} {σ τ : gS} (h : MX N tk pl vl r L k cs es lts Θ nC nR σ τ) (ht : tk k ≤ 35) : ∃ σ' τ', pX7_take σ = some σ' ∧ pX11_goesOn τ = some τ' ∧ fr hdC σ σ' ∧ fr hdR τ τ' ∧ ((k < 400 ∧ MX N tk pl vl r L (k + 1) cs es lts Θ nC nR σ' τ') ∨ SS N tk pl vl r σ' τ') := by
  obtain ⟨σ', τ', e1, e2, f1, f2, out⟩ := goQ (pc' := 0) hT hr h.1 ht (by omega)
  refine ⟨σ', τ', e1, e2, f1, f2, ?_⟩
  rcases out with ⟨a, b, c⟩ | s
  · exact Or.inl ⟨a, MX_0 h (KpC_s hr (hdC_s f1)) (KpR_h f2) (fun z => by rw [← c]; exact z) b (LX_h h.2.1 f2) (by omega)⟩
  · exact Or.inr s
theorem needC1 {K : Nat} {σ σ' : gS} (h : σ.1 3 3 = nI K) (e : pX7_take σ = some σ') : pX7_need (nI K) σ = some σ' := by
  unfold pX7_need
  rw [if_pos h, e, bn1_s]
theorem needC0 {T K : Nat} {σ σ' : gS} (h : σ.1 3 3 = nI T) (hT : T ≤ 38) (hK : K ≤ 38) (hn : T ≠ K) (e : pX7_fail 1 σ = some σ') : pX7_need (nI K) σ = some σ' := by
  unfold pX7_need
  rw [h, if_neg (nI_neT hn (by omega) (by omega)), e, bn1_s]
theorem needMX (hT : TkOK N tk pl) (hr : tR r = true) {k K : Nat} {cs : List (Int32 × Int32)} {es : List cEl} {lts : List lEl} {Θ : Tld} {nC nR : List nEl} {σ τ : gS} (hK : K ≤ 35) (h : MX N tk pl vl r L k cs es lts Θ nC nR σ τ) : ∃ σ' τ', pX7_need (nI K) σ = some σ' ∧ pX11_must (nI (kp K)) τ = some τ' ∧ fr hdC σ σ' ∧ fr hdR τ τ' ∧ ((k < 400 ∧ tk k = K ∧ MX N tk pl vl r L (k + 1) cs es lts Θ nC nR σ' τ') ∨ SS N tk pl vl r σ' τ') := by
  have hk := h.1.1.1
  have htk := (hT.2.2.2.1 k hk).1
  by_cases hc : tk k = K
  · obtain ⟨σ', τ', e1, e2, f1, f2, out⟩ := goMX hT hr h (by omega)
    refine ⟨σ', τ', needC1 (by rw [h.1.1.2.2.1, hc]) e1, mustR1 hT h.1.2.1 hk hc e2, f1, f2, ?_⟩
    rcases out with ⟨a, b⟩ | s
    · exact Or.inl ⟨a, hc, b⟩
    · exact Or.inr s
  · obtain ⟨σ', τ', e1, e2, f1, f2, s⟩ := failGO (f := 1) hT hr (Or.inl rfl) h.1
    exact ⟨σ', τ', needC0 h.1.1.2.2.1 (by omega) (by omega) hc e1, mustR0 hT h.1.2.1 hk (by omega) hc e2, f1, f2, Or.inr s⟩
theorem SSneed {K : Nat} (hK : K ≤ 37) {σ τ : gS} (h : SS N tk pl vl r σ τ) : ∃ σ' τ', pX7_need (nI K) σ = some σ' ∧ pX11_must (nI (kp K)) τ = some τ' ∧ fr (sumF r) σ σ' ∧ fr hdR τ τ' ∧ SS N tk pl vl r σ' τ' := by
  obtain ⟨f, p, h1, h2⟩ := h
  obtain ⟨σ', e1, e2, e3⟩ := (KC_need hK) σ h1
  exact ⟨σ', τ, e1, mustR_s h1.1 h2, e3, fr_rf, f, p, e2, h2⟩
end MXS
