/-! CALLS THAT ADD A FACT; back; of -/
/-- A with one FACT more -/
def addF (A : Abs) (k a v : Nat) : Abs := (A.1, A.2.1, (aFn A + 1, fun i => if i = aFn A then k else aFk A i, fun i => if i = aFn A then a else aFa A i, fun i => if i = aFn A then v else aFv A i), A.2.2.2)
theorem addF_n {A : Abs} {k a v : Nat} : aFn (addF A k a v) = aFn A + 1 := rfl
theorem addF_ok {A : Abs} {k a v : Nat} (ho : okA A) (hn : aFn A < 60) (h : (k ≤ 1 → a < 20 ∧ 1 ≤ v ∧ v ≤ 5) ∧ (k = 2 ∨ k = 3 → a < 20 ∧ v = 0) ∧ (k = 4 → a < 6 ∧ v < 10) ∧ (k = 5 → a < aFn A ∧ aFk A a ≠ 5 ∧ v = 0) ∧ k ≤ 5) : okA (addF A k a v) := by
  refine ⟨ho.1, ho.2.1, ⟨by rw [addF_n]; omega, fun i hi => ?_⟩, ho.2.2.2⟩
  rw [addF_n] at hi
  have e1 : ∀ i, aFk (addF A k a v) i = if i = aFn A then k else aFk A i := fun _ => rfl
  have e2 : ∀ i, aFa (addF A k a v) i = if i = aFn A then a else aFa A i := fun _ => rfl
  have e3 : ∀ i, aFv (addF A k a v) i = if i = aFn A then v else aFv A i := fun _ => rfl
  unfold okF
  by_cases hc : i = aFn A
  · subst hc
    rw [e2, e3, e1, if_pos rfl, if_pos rfl, if_pos rfl]
    obtain ⟨g1, g2, g3, g4, g5⟩ := h
    refine ⟨g1, g2, g3, fun h5 => ?_, g5⟩
    obtain ⟨x1, x2, x3⟩ := g4 h5
    refine ⟨x1, ?_, x3⟩
    rw [e1, if_neg (by omega)]
    exact x2
  · obtain ⟨g1, g2, g3, g4, g5⟩ := ho.2.2.1.2 i (by omega)
    rw [e2, e3, e1, if_neg hc, if_neg hc, if_neg hc]
    refine ⟨g1, g2, g3, fun h5 => ?_, g5⟩
    obtain ⟨x1, x2, x3⟩ := g4 h5
    refine ⟨x1, ?_, x3⟩
    rw [e1, if_neg (by omega)]
    exact x2
/-- where the class's and the reference's facts lie -/
def fcC (o k : Nat) : Bool := (o == 39 && k == 4) || o == 40 || o == 41 || o == 42
theorem addC {A : Abs} {σ : gS} {k a v : Nat} (ho : okA A) (h : RC A σ) (hn : aFn A < 60) : ∃ σ', pX1_add (nI k) (nI a) (nI v) σ = some (nI (aFn A), σ') ∧ RC (addF A k a v) σ' := by
  have hf := h.2.2.1
  unfold pX1_add
  rw [hf.1, if_pos (show nI (aFn A) < 60 from nI_lt (b := 60) hn (by decide)), gx_i hn (by decide), lt_b, nI_clamp (by omega)]
  generalize e1 : wI σ 40 (aFn A) (nI k) = s1
  have c1 : s1.1 39 4 = nI (aFn A) := by rw [← e1, wI_1, if_neg (by omega), hf.1]
  rw [c1, gx_i hn (by decide), lt_b, nI_clamp (by omega)]
  generalize e2 : wI s1 41 (aFn A) (nI a) = s2
  have c2 : s2.1 39 4 = nI (aFn A) := by rw [← e2, wI_1, if_neg (by omega), c1]
  rw [c2, gx_i hn (by decide), lt_b, nI_clamp (by omega)]
  generalize e3 : wI s2 42 (aFn A) (nI v) = s3
  have c3 : s3.1 39 4 = nI (aFn A) := by rw [← e3, wI_1, if_neg (by omega), c2]
  rw [c3, lt_b, nI_1, wI_s]
  refine ⟨_, by rw [nI_pred], ?_⟩
  have hfr : fr fcC σ (wI s3 39 4 (nI (aFn A + 1))) := by
    refine fr_tr (τ := s3) ?_ (fr_wI rfl)
    rw [← e3]; refine fr_tr (τ := s2) ?_ (fr_wI rfl)
    rw [← e2]; refine fr_tr (τ := s1) ?_ (fr_wI rfl)
    rw [← e1]; exact fr_wI rfl
  have hv : ∀ o i, (wI s3 39 4 (nI (aFn A + 1))).1 o i = if o = 39 ∧ i = 4 then nI (aFn A + 1) else if o = 42 ∧ i = aFn A then nI v else if o = 41 ∧ i = aFn A then nI a else if o = 40 ∧ i = aFn A then nI k else σ.1 o i := by
    intro o i
    rw [wI_1, ← e3, wI_1, ← e2, wI_1, ← e1, wI_1]
  generalize hs' : wI s3 39 4 (nI (aFn A + 1)) = s' at hfr hv
  clear e1 e2 e3 c1 c2 c3
  obtain ⟨⟨a1, a2⟩, ⟨b1, b2⟩, ⟨c1, c2⟩, ⟨r, d1, d2, d3, d4⟩, e, f, g⟩ := h
  refine ⟨⟨(fr_1 hfr rfl).trans a1, fun i hi => (fr_1 hfr rfl).trans (a2 i hi)⟩, ⟨(fr_1 hfr rfl).trans b1, fun p j hp hj => (fr_1 hfr rfl).trans (b2 p j hp hj)⟩, ⟨?_, fun i hi => ?_⟩, ⟨r, d1, (fr_3 hfr rfl).trans d2, (fr_3 hfr rfl).trans d3, TdC_fr hfr (fun j k hj => ?_) d4⟩, (fr_1 hfr rfl).trans e, fun j hj => (fr_2 hfr (o := 8) rfl).trans (f j hj), fun n k hn hk => (fr_2 hfr (o := 45) rfl).trans (g n k hn hk)⟩
  · rw [hv, if_pos ⟨rfl, rfl⟩]; rfl
  · have hi' : i < aFn A + 1 := hi
    show s'.1 40 i = nI (if i = aFn A then k else aFk A i) ∧ s'.1 41 i = nI (if i = aFn A then a else aFa A i) ∧ s'.1 42 i = nI (if i = aFn A then v else aFv A i)
    rw [hv, hv, hv]
    by_cases hc : i = aFn A
    · subst hc; simp
    · obtain ⟨g1, g2, g3⟩ := c2 i (by omega)
      simp [hc, g1, g2, g3]
  · rcases tR_or d1 with rfl | rfl
    · rcases (show j = 0 ∨ j = 1 ∨ j = 2 ∨ j = 3 ∨ j = 4 ∨ j = 5 ∨ j = 6 ∨ j = 7 ∨ j = 8 by omega) with rfl | rfl | rfl | rfl | rfl | rfl | rfl | rfl | rfl <;> rfl
    · rcases (show j = 0 ∨ j = 1 ∨ j = 2 ∨ j = 3 ∨ j = 4 ∨ j = 5 ∨ j = 6 ∨ j = 7 ∨ j = 8 by omega) with rfl | rfl | rfl | rfl | rfl | rfl | rfl | rfl | rfl <;> rfl
theorem addC_full {A : Abs} {σ : gS} {x y z : Int32} (h : RC A σ) (hn : aFn A = 60) : pX1_add x y z σ = some (-1, σ) := by
  unfold pX1_add
  rw [h.2.2.1.1, hn, if_neg (by decide)]
def fcR (o k : Nat) : Bool := (o == 0 && k == 60) || o == 43 || o == 44 || o == 45 || o == 46
theorem addR {A : Abs} {τ : gS} {k a v : Nat} {w : Int32} (ho : okA A) (h : RR A τ) (hn : aFn A < 60) (hw : w &&& 1 = b01 (k == 0)) : ∃ τ', pX11_fact (nI (kR k)) (nI a) (nI v) w τ = some (nI (aFn A), τ') ∧ RR (addF A k a v) τ' := by
  have hf := h.2.2.1
  unfold pX11_fact
  rw [hf.1, gx_i hn (by decide), lt_b, nI_clamp (by omega)]
  generalize e1 : wI τ 43 (aFn A) (nI (kR k)) = s1
  have c1 : s1.1 0 60 = nI (aFn A) := by rw [← e1, wI_1, if_neg (by omega), hf.1]
  rw [c1, gx_i hn (by decide), lt_b, nI_clamp (by omega)]
  generalize e2 : wI s1 44 (aFn A) (nI a) = s2
  have c2 : s2.1 0 60 = nI (aFn A) := by rw [← e2, wI_1, if_neg (by omega), c1]
  rw [c2, gx_i hn (by decide), lt_b, nI_clamp (by omega)]
  generalize e3 : wI s2 45 (aFn A) (nI v) = s3
  have c3 : s3.1 0 60 = nI (aFn A) := by rw [← e3, wI_1, if_neg (by omega), c2]
  rw [c3, gx_i hn (by decide), lt_b, nI_clamp (by omega), hw]
  generalize e4 : wI s3 46 (aFn A) (b01 (k == 0)) = s4
  have c4 : s4.1 0 60 = nI (aFn A) := by rw [← e4, wI_1, if_neg (by omega), c3]
  rw [c4, lt_b, nI_1, wI_s]
  refine ⟨_, by rw [nI_pred], ?_⟩
  have hfr : fr fcR τ (wI s4 0 60 (nI (aFn A + 1))) := by
    refine fr_tr (τ := s4) ?_ (fr_wI rfl)
    rw [← e4]; refine fr_tr (τ := s3) ?_ (fr_wI rfl)
    rw [← e3]; refine fr_tr (τ := s2) ?_ (fr_wI rfl)
    rw [← e2]; refine fr_tr (τ := s1) ?_ (fr_wI rfl)
    rw [← e1]; exact fr_wI rfl
  have hv : ∀ o i, (wI s4 0 60 (nI (aFn A + 1))).1 o i = if o = 0 ∧ i = 60 then nI (aFn A + 1) else if o = 46 ∧ i = aFn A then b01 (k == 0) else if o = 45 ∧ i = aFn A then nI v else if o = 44 ∧ i = aFn A then nI a else if o = 43 ∧ i = aFn A then nI (kR k) else τ.1 o i := by
    intro o i
    rw [wI_1, ← e4, wI_1, ← e3, wI_1, ← e2, wI_1, ← e1, wI_1]
  generalize hs' : wI s4 0 60 (nI (aFn A + 1)) = s' at hfr hv
  clear e1 e2 e3 e4 c1 c2 c3 c4
  obtain ⟨⟨a1, a2⟩, ⟨b1, b2⟩, ⟨c1, c2⟩, ⟨L, d1, d2, d3⟩, e, f⟩ := h
  refine ⟨⟨(fr_1 hfr rfl).trans a1, fun i hi => by rw [fr_1 hfr (o := 1) rfl]; exact a2 i hi⟩, ⟨(fr_1 hfr rfl).trans b1, fun p hp => ?_⟩, ⟨?_, fun i hi => ?_⟩, ⟨L, d1, (fr_1 hfr rfl).trans d2, TdR_fr hfr (fun o k h1 h2 => ?_) d3⟩, (fr_1 hfr rfl).trans e, fun j hj => (fr_2 hfr (o := 7) rfl).trans (f j hj)⟩
  · obtain ⟨g1, g2, g3, g4, g5⟩ := b2 p hp
    exact ⟨(fr_1 hfr (o := 35) rfl).trans g1, (fr_1 hfr (o := 36) rfl).trans g2, (fr_1 hfr (o := 37) rfl).trans g3, (fr_1 hfr (o := 38) rfl).trans g4, fun j hj => (fr_1 hfr (o := 39) rfl).trans (g5 j hj)⟩
  · rw [hv, if_pos ⟨rfl, rfl⟩]; rfl
  · have hi' : i < aFn A + 1 := hi
    show s'.1 43 i = nI (kR (if i = aFn A then k else aFk A i)) ∧ s'.1 44 i = nI (if i = aFn A then a else aFa A i) ∧ s'.1 45 i = nI (if i = aFn A then v else aFv A i) ∧ s'.1 46 i = b01 ((if i = aFn A then k else aFk A i) == 0)
    rw [hv, hv, hv, hv]
    by_cases hc : i = aFn A
    · subst hc; simp
    · obtain ⟨g1, g2, g3, g4⟩ := c2 i (by omega)
      simp [hc, g1, g2, g3, g4]
  · simp only [fcR, Bool.or_eq_false_iff, Bool.and_eq_false_iff, beq_eq_false_iff_ne]
    omega
