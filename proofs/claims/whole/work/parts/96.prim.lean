/-! read: the parser's first steps, both sides -/
theorem kp_inj : ∀ a, a ≤ 37 → ∀ c, c ≤ 37 → kp a = kp c → a = c := by decide +kernel
theorem kp_lt : ∀ a, a ≤ 37 → kp a < 43 := by decide +kernel
/-- the class reads token k; it has stopped -/
def rdC (N : Nat) (tk pl : Nat → Nat) (vl : Nat → Int64) (k : Nat) (σ : gS) : Prop := k < N ∧ σ.1 3 2 = nI k ∧ σ.1 3 3 = nI (tk k) ∧ σ.2.1 3 4 = vl k ∧ σ.1 3 5 = nI (pl k) ∧ σ.1 3 6 = 0 ∧ tkC tk pl vl N σ
def spC (f p : Nat) (σ : gS) : Prop := σ.1 3 3 = 38 ∧ σ.1 3 6 = nI f ∧ σ.1 3 5 = nI p
/-- the reference reads token k; it has failed -/
def rdR (N : Nat) (tk pl : Nat → Nat) (vl : Nat → Int64) (k : Nat) (τ : gS) : Prop := τ.1 0 11 = nI k ∧ τ.1 0 13 = 0 ∧ tkQ tk pl vl N τ
def spR (N : Nat) (tk pl : Nat → Nat) (vl : Nat → Int64) (f p : Nat) (τ : gS) : Prop := τ.1 0 13 = nI f ∧ τ.1 0 14 = nI p ∧ (∃ t, t ≤ 400 ∧ τ.1 0 11 = nI t) ∧ tkQ tk pl vl N τ
def fpO (f p : Nat) : Prop := (f = 1 ∨ f = 2) ∧ p ≤ 2000
def hdC (o k : Nat) : Bool := o == 3 && (decide (2 ≤ k) && decide (k ≤ 6))
def hdR (o k : Nat) : Bool := o == 0 && (k == 11 || (k == 13 || k == 14))
section PRIM
variable {N : Nat} {tk pl : Nat → Nat} {vl : Nat → Int64}
theorem tkC_h {σ τ : gS} (f : fr hdC σ τ) (h : tkC tk pl vl N σ) : tkC tk pl vl N τ := fun i hi => by
  obtain ⟨h1, h2, h3⟩ := h i hi
  exact ⟨(fr_1 f rfl).trans h1, (fr_1 f rfl).trans h2, (fr_2 f rfl).trans h3⟩
theorem tkQ_h {σ τ : gS} (f : fr hdR σ τ) (h : tkQ tk pl vl N σ) : tkQ tk pl vl N τ := fun i hi => by
  obtain ⟨h1, h2, h3, h4⟩ := h i hi
  refine ⟨(fr_1 f rfl).trans h1, (fr_1 f rfl).trans h2, fun q => ?_, fun q => (fr_2 f rfl).trans (h4 q)⟩
  obtain ⟨x, x1, x2, x3⟩ := h3 q
  exact ⟨x, x1, x2, (fr_1 f rfl).trans x3⟩
theorem tk_next (hT : TkOK N tk pl) {k : Nat} (hk : k < N) (h35 : tk k ≤ 35) (h4 : k < 400) : k + 1 < N := by
  obtain ⟨t1, t2, t3, t4, t5⟩ := hT
  rcases Nat.lt_or_ge (k + 1) N with q | q
  · exact q
  · have : k = N - 1 := by omega
    rw [this] at h35
    omega
theorem k_400 (hT : TkOK N tk pl) {k : Nat} (hk : k < N) : k ≤ 400 := by
  have := hT.2.1; omega
theorem takeC1 (hT : TkOK N tk pl) {k : Nat} {σ : gS} (h : rdC N tk pl vl k σ) (h35 : tk k ≤ 35) (h4 : k < 400) : ∃ σ', pX7_take σ = some σ' ∧ rdC N tk pl vl (k + 1) σ' ∧ fr hdC σ σ' := by
  obtain ⟨h0, h1, h2, h3, h5, h6, h7⟩ := h
  have hk1 := tk_next hT h0 h35 h4
  obtain ⟨r5, r6, r7⟩ := h7 (k + 1) hk1
  unfold pX7_take
  rw [h1, if_neg (show ¬ (400 : Int32) ≤ nI k from nI_ge (b := 400) h4 (by decide)), lt_b, nI_1]
  generalize e1 : wI σ 3 2 (nI (k + 1)) = s1
  have c1 : s1.1 3 2 = nI (k + 1) := by rw [← e1, wI_s]
  have d1 : s1.1 5 (k + 1) = nI (tk (k + 1)) := by rw [← e1, wI_1, if_neg (by omega), r5]
  rw [c1, gx_i (by omega) (by decide), lt_b, nI_clamp (by omega), d1]
  generalize e2 : wI s1 3 3 (nI (tk (k + 1))) = s2
  have c2 : s2.1 3 2 = nI (k + 1) := by rw [← e2, wI_1, if_neg (by omega), c1]
  have d2 : s2.2.1 7 (k + 1) = vl (k + 1) := by rw [← e2, wI_2, ← e1, wI_2, r7]
  rw [c2, gx_i (by omega) (by decide), lt_b, nI_clamp (by omega), d2]
  generalize e3 : wL s2 3 4 (vl (k + 1)) = s3
  have c3 : s3.1 3 2 = nI (k + 1) := by rw [← e3, wL_1, c2]
  have d3 : s3.1 6 (k + 1) = nI (pl (k + 1)) := by rw [← e3, wL_1, ← e2, wI_1, if_neg (by omega), ← e1, wI_1, if_neg (by omega), r6]
  rw [c3, gx_i (by omega) (by decide), lt_b, nI_clamp (by omega), d3]
  have hf : fr hdC σ (wI s3 3 5 (nI (pl (k + 1)))) := by
    refine fr_tr (τ := s3) ?_ (fr_wI rfl)
    rw [← e3]; refine fr_tr (τ := s2) ?_ (fr_wL rfl)
    rw [← e2]; refine fr_tr (τ := s1) ?_ (fr_wI rfl)
    rw [← e1]; exact fr_wI rfl
  refine ⟨_, rfl, ⟨hk1, ?_, ?_, ?_, wI_s, ?_, tkC_h hf h7⟩, hf⟩
  · rw [wI_1, if_neg (by omega), c3]
  · rw [wI_1, if_neg (by omega), ← e3, wL_1, ← e2, wI_s]
  · rw [wI_2, ← e3, wL_s]
  · rw [wI_1, if_neg (by omega), ← e3, wL_1, ← e2, wI_1, if_neg (by omega), ← e1, wI_1, if_neg (by omega), h6]
theorem takeC2 {k : Nat} {σ : gS} (h : rdC N tk pl vl k σ) (h4 : k = 400) : ∃ σ', pX7_take σ = some σ' ∧ spC 2 (pl k) σ' ∧ fr hdC σ σ' := by
  obtain ⟨h0, h1, h2, h3, h5, h6, h7⟩ := h
  unfold pX7_take
  rw [h1, h4, if_pos (show (400 : Int32) ≤ nI 400 by decide), lt_b, lt_b]
  refine ⟨_, rfl, ⟨wI_s, ?_, ?_⟩, fr_tr (fr_wI rfl) (fr_wI rfl)⟩
  · rw [wI_1, if_neg (by omega), wI_s]; rfl
  · rw [wI_1, if_neg (by omega), wI_1, if_neg (by omega), h5, h4]
theorem goesR1 {k : Nat} {τ : gS} (h : rdR N tk pl vl k τ) (h4 : k < 400) : ∃ τ', pX11_goesOn τ = some τ' ∧ rdR N tk pl vl (k + 1) τ' ∧ fr hdR τ τ' := by
  obtain ⟨h1, h2, h3⟩ := h
  have hf : fr hdR τ (wI τ 0 11 (nI (k + 1))) := fr_wI rfl
  unfold pX11_goesOn
  rw [h1, if_neg (show ¬ nI k = 400 from fun q => by
    have := (nI_eq (b := 400) (by omega) (by decide)).mp q
    omega), lt_b, nI_1]
  exact ⟨_, rfl, ⟨wI_s, by rw [wI_1, if_neg (by omega), h2], tkQ_h hf h3⟩, hf⟩
theorem failR1 {k f : Nat} {τ : gS} (h : rdR N tk pl vl k τ) (hk : k < N) (hT : TkOK N tk pl) : ∃ τ', pX11_fail (nI f) τ = some τ' ∧ spR N tk pl vl f (pl k) τ' ∧ fr hdR τ τ' := by
  obtain ⟨h1, h2, h3⟩ := h
  have hk4 := k_400 hT hk
  unfold pX11_fail
  rw [h2, if_pos (show (0 : Int32) ≤ 0 by decide), lt_b]
  have c1 : (wI τ 0 13 (nI f)).1 0 11 = nI k := by rw [wI_1, if_neg (by omega), h1]
  have d1 : (wI τ 0 13 (nI f)).1 4 k = nI (pl k) := by rw [wI_1, if_neg (by omega), (h3 k hk).2.1]
  rw [c1, gx_i (by omega) (by decide), nI_clamp (by omega), d1, lt_b]
  have hf : fr hdR τ (wI (wI τ 0 13 (nI f)) 0 14 (nI (pl k))) := fr_tr (fr_wI rfl) (fr_wI rfl)
  refine ⟨_, rfl, ⟨?_, wI_s, ⟨k, hk4, ?_⟩, tkQ_h hf h3⟩, hf⟩
  · rw [wI_1, if_neg (by omega), wI_s]
  · rw [wI_1, if_neg (by omega), c1]
theorem goesR2 {k : Nat} {τ : gS} (h : rdR N tk pl vl k τ) (hk : k < N) (hT : TkOK N tk pl) (h4 : k = 400) : ∃ τ', pX11_goesOn τ = some τ' ∧ spR N tk pl vl 2 (pl k) τ' ∧ fr hdR τ τ' := by
  obtain ⟨τ', e, hs, hf⟩ := failR1 (f := 2) h hk hT
  unfold pX11_goesOn
  rw [h.1, if_pos (show nI k = 400 by rw [h4]; rfl)]
  simp only [show nI 2 = 2 from rfl] at e
  rw [e, bn1_s]
  exact ⟨τ', rfl, hs, hf⟩
theorem failC1 {k f : Nat} {σ : gS} (h : rdC N tk pl vl k σ) : ∃ σ', pX7_fail (nI f) σ = some σ' ∧ spC f (pl k) σ' ∧ fr hdC σ σ' := by
  obtain ⟨h0, h1, h2, h3, h5, h6, h7⟩ := h
  unfold pX7_fail
  rw [h6, if_00, lt_b, bn1_s, lt_b]
  refine ⟨_, rfl, ⟨wI_s, ?_, ?_⟩, fr_tr (fr_wI rfl) (fr_wI rfl)⟩
  · rw [wI_1, if_neg (by omega), wI_s]
  · rw [wI_1, if_neg (by omega), wI_1, if_neg (by omega), h5]
/-- both go on to the next token, or both stop -/
def NX (N : Nat) (tk pl : Nat → Nat) (vl : Nat → Int64) (k : Nat) (σ τ : gS) : Prop := (k < 400 ∧ rdC N tk pl vl (k + 1) σ ∧ rdR N tk pl vl (k + 1) τ) ∨ ∃ f p, fpO f p ∧ spC f p σ ∧ spR N tk pl vl f p τ
def SP (N : Nat) (tk pl : Nat → Nat) (vl : Nat → Int64) (σ τ : gS) : Prop := ∃ f p, fpO f p ∧ spC f p σ ∧ spR N tk pl vl f p τ
theorem takeQ (hT : TkOK N tk pl) {k : Nat} {σ τ : gS} (h : rdC N tk pl vl k σ) (h' : rdR N tk pl vl k τ) (h35 : tk k ≤ 35) : ∃ σ' τ', pX7_take σ = some σ' ∧ pX11_goesOn τ = some τ' ∧ fr hdC σ σ' ∧ fr hdR τ τ' ∧ NX N tk pl vl k σ' τ' := by
  have hk := h.1
  have := k_400 hT hk
  by_cases h4 : k < 400
  · obtain ⟨σ', e1, r1, f1⟩ := takeC1 hT h h35 h4
    obtain ⟨τ', e2, r2, f2⟩ := goesR1 h' h4
    exact ⟨σ', τ', e1, e2, f1, f2, Or.inl ⟨h4, r1, r2⟩⟩
  · obtain ⟨σ', e1, r1, f1⟩ := takeC2 h (by omega)
    obtain ⟨τ', e2, r2, f2⟩ := goesR2 h' hk hT (by omega)
    exact ⟨σ', τ', e1, e2, f1, f2, Or.inr ⟨2, _, ⟨Or.inr rfl, (hT.2.2.2.1 k hk).2⟩, r1, r2⟩⟩
theorem failQ (hT : TkOK N tk pl) {k f : Nat} {σ τ : gS} (hf : f = 1 ∨ f = 2) (h : rdC N tk pl vl k σ) (h' : rdR N tk pl vl k τ) : ∃ σ' τ', pX7_fail (nI f) σ = some σ' ∧ pX11_fail (nI f) τ = some τ' ∧ fr hdC σ σ' ∧ fr hdR τ τ' ∧ SP N tk pl vl σ' τ' := by
  obtain ⟨σ', e1, r1, f1⟩ := failC1 (f := f) h
  obtain ⟨τ', e2, r2, f2⟩ := failR1 (f := f) h' h.1 hT
  exact ⟨σ', τ', e1, e2, f1, f2, f, _, ⟨hf, (hT.2.2.2.1 k h.1).2⟩, r1, r2⟩
theorem isR (hT : TkOK N tk pl) {k K : Nat} {τ : gS} (h : rdR N tk pl vl k τ) (hk : k < N) (hK : K ≤ 37) : pX11_is (nI (kp K)) τ = some (b01 (decide (tk k = K))) := by
  have hk4 := k_400 hT hk
  have ht := (hT.2.2.2.1 k hk).1
  have l1 := kp_lt _ ht
  have l2 := kp_lt _ hK
  unfold pX11_is
  rw [h.2.1, if_00, h.1, gx_i (by omega) (by decide), nI_clamp (by omega), (h.2.2 k hk).1]
  by_cases hc : tk k = K
  · rw [hc, if_pos rfl, decide_eq_true rfl]; rfl
  · rw [if_neg (fun q => hc (kp_inj _ ht _ hK ((nI_eq (by omega) (by omega)).mp q))), decide_eq_false hc]; rfl
theorem isR_s {f p : Nat} {a : Int32} {τ : gS} (hf : fpO f p) (h : spR N tk pl vl f p τ) : pX11_is a τ = some 0 := by
  unfold pX11_is
  rw [h.1, if_neg (show ¬ nI f = 0 from nI_ne0 (by have := hf.1; omega) (by have := hf.1; omega))]
theorem needQ (hT : TkOK N tk pl) {k K : Nat} {σ τ : gS} (hK : K ≤ 35) (h : rdC N tk pl vl k σ) (h' : rdR N tk pl vl k τ) : ∃ σ' τ', pX7_need (nI K) σ = some σ' ∧ pX11_must (nI (kp K)) τ = some τ' ∧ fr hdC σ σ' ∧ fr hdR τ τ' ∧ ((tk k = K ∧ NX N tk pl vl k σ' τ') ∨ (tk k ≠ K ∧ SP N tk pl vl σ' τ')) := by
  have ht := (hT.2.2.2.1 k h.1).1
  unfold pX7_need pX11_must
  rw [h.2.2.1, isR hT h' h.1 (show K ≤ 37 by omega), bn1_s]
  by_cases hc : tk k = K
  · obtain ⟨σ', τ', e1, e2, f1, f2, q⟩ := takeQ hT h h' (by omega)
    rw [if_pos (by rw [hc]), e1, bn1_s, decide_eq_true hc, if_b1, e2, bn1_s]
    exact ⟨σ', τ', rfl, rfl, f1, f2, Or.inl ⟨hc, q⟩⟩
  · obtain ⟨σ', τ', e1, e2, f1, f2, q⟩ := failQ (f := 1) hT (Or.inl rfl) h h'
    simp only [show nI 1 = 1 from rfl] at e1 e2
    rw [if_neg (fun z => hc ((nI_eq (by omega) (by omega)).mp z)), e1, bn1_s, decide_eq_false hc, if_b0, e2, bn1_s]
    exact ⟨σ', τ', rfl, rfl, f1, f2, Or.inr ⟨hc, q⟩⟩
/-- stopped: nothing goes on -/
theorem failC_s {f p : Nat} {a : Int32} {σ : gS} (hf : fpO f p) (h : spC f p σ) : ∃ σ', pX7_fail a σ = some σ' ∧ spC f p σ' ∧ fr hdC σ σ' := by
  obtain ⟨h1, h2, h3⟩ := h
  unfold pX7_fail
  rw [h2, if_neg (show ¬ nI f = 0 from nI_ne0 (by have := hf.1; omega) (by have := hf.1; omega)), bn1_s, lt_b]
  refine ⟨_, rfl, ⟨wI_s, ?_, ?_⟩, fr_wI rfl⟩
  · rw [wI_1, if_neg (by omega), h2]
  · rw [wI_1, if_neg (by omega), h3]
theorem needC_s {f p K : Nat} {σ : gS} (hK : K ≤ 37) (hf : fpO f p) (h : spC f p σ) : ∃ σ', pX7_need (nI K) σ = some σ' ∧ spC f p σ' ∧ fr hdC σ σ' := by
  obtain ⟨σ', e, r, q⟩ := failC_s (a := 1) hf h
  unfold pX7_need
  rw [h.1, if_neg (show ¬ (38 : Int32) = nI K from fun z => by
    have := (nI_eq (a := 38) (by decide) (by omega)).mp z
    omega), e, bn1_s]
  exact ⟨σ', rfl, r, q⟩
theorem failR_s {f p : Nat} {a : Int32} {τ : gS} (hf : fpO f p) (h : spR N tk pl vl f p τ) : pX11_fail a τ = some τ := by
  unfold pX11_fail
  rw [h.1, if_neg (show ¬ nI f ≤ 0 from nI_nle (by have := hf.1; omega) (by have := hf.1; omega))]
theorem mustR_s {f p : Nat} {a : Int32} {τ : gS} (hf : fpO f p) (h : spR N tk pl vl f p τ) : pX11_must a τ = some τ := by
  unfold pX11_must
  rw [isR_s hf h, bn1_s, if_00, failR_s hf h, bn1_s]
theorem goesR_s {f p : Nat} {τ : gS} (hf : fpO f p) (h : spR N tk pl vl f p τ) : ∃ τ', pX11_goesOn τ = some τ' ∧ spR N tk pl vl f p τ' ∧ fr hdR τ τ' := by
  obtain ⟨t, t1, t2⟩ := h.2.2.1
  unfold pX11_goesOn
  rw [t2]
  by_cases hc : nI t = (400 : Int32)
  · rw [if_pos hc, failR_s hf h, bn1_s]
    exact ⟨τ, rfl, h, fr_rf⟩
  · have ht : t ≠ 400 := fun z => hc (by rw [z]; rfl)
    rw [if_neg hc, lt_b, nI_1]
    have hg : fr hdR τ (wI τ 0 11 (nI (t + 1))) := fr_wI rfl
    refine ⟨_, rfl, ⟨?_, ?_, ⟨t + 1, by omega, wI_s⟩, tkQ_h hg h.2.2.2⟩, hg⟩
    · rw [wI_1, if_neg (by omega), h.1]
    · rw [wI_1, if_neg (by omega), h.2.1]
end PRIM
