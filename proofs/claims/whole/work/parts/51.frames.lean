/-! FRAMES, AND THE BEGINNING -/
theorem cdR_fr {P : Nat → Nat → Bool} {σ τ : gS} (h : fr P σ τ) (h1 : ∀ k, P 30 k = false) (h2 : ∀ k, P 31 k = false) {s : Nat} {c : List cEl} (hc : cdR σ s c) : cdR τ s c := fun i q hq => ⟨(fr_1 h (h1 _)).trans (hc i q hq).1, (fr_1 h (h2 _)).trans (hc i q hq).2⟩
theorem ltR_fr {P : Nat → Nat → Bool} {σ τ : gS} (h : fr P σ τ) (hp : ∀ o k, 24 ≤ o → o ≤ 31 → P o k = false) {i : Nat} {x : lEl} (hx : ltR σ i x) : ltR τ i x := by
  obtain ⟨a1, a2, a3, a, b1, b2, b3, b4, b5⟩ := hx
  exact ⟨(fr_1 h (hp _ _ (by omega) (by omega))).trans a1, (fr_1 h (hp _ _ (by omega) (by omega))).trans a2, (fr_1 h (hp _ _ (by omega) (by omega))).trans a3, a, b1, (fr_1 h (hp _ _ (by omega) (by omega))).trans b2, (fr_1 h (hp _ _ (by omega) (by omega))).trans b3, (fr_1 h (hp _ _ (by omega) (by omega))).trans b4, cdR_fr h (fun k => hp _ _ (by omega) (by omega)) (fun k => hp _ _ (by omega) (by omega)) b5⟩
theorem cnR_fr {P : Nat → Nat → Bool} {σ τ : gS} (h : fr P σ τ) (hp : ∀ o k, 20 ≤ o → o ≤ 31 → P o k = false) {r : Nat} {ls : List lEl} (hx : cnR σ r ls) : cnR τ r ls := by
  obtain ⟨s, a1, a2, a3, a4⟩ := hx
  exact ⟨s, a1, (fr_1 h (hp _ _ (by omega) (by omega))).trans a2, (fr_1 h (hp _ _ (by omega) (by omega))).trans a3, fun i x hi => ltR_fr h (fun o k h1 h2 => hp o k (by omega) h2) (a4 i x hi)⟩
theorem lwR_fr {P : Nat → Nat → Bool} {σ τ : gS} (h : fr P σ τ) (hp : ∀ o k, 20 ≤ o → o ≤ 31 → P o k = false) {r : Nat} {c : List cEl} (hx : lwR σ r c) : lwR τ r c := by
  obtain ⟨s, a1, a2, a3, a4⟩ := hx
  exact ⟨s, a1, (fr_1 h (hp _ _ (by omega) (by omega))).trans a2, (fr_1 h (hp _ _ (by omega) (by omega))).trans a3, cdR_fr h (fun k => hp _ _ (by omega) (by omega)) (fun k => hp _ _ (by omega) (by omega)) a4⟩
theorem TdR_fr {P : Nat → Nat → Bool} {L : Nat} {Θ : Tld} {σ τ : gS} (h : fr P σ τ) (hp : ∀ o k, 11 ≤ o → o ≤ 31 → P o k = false) (ht : TdR Θ L σ) : TdR Θ L τ := by
  obtain ⟨⟨a1, a2, a3, a4, a5⟩, b, c, d, e, f⟩ := ht
  have h1 : ∀ o k, 11 ≤ o → o ≤ 31 → τ.1 o k = σ.1 o k := fun o k g1 g2 => fr_1 h (hp o k g1 g2)
  have h2 : ∀ o k, 20 ≤ o → o ≤ 31 → P o k = false := fun o k g1 g2 => hp o k (by omega) g2
  refine ⟨⟨(h1 _ _ (by omega) (by omega)).trans a1, (h1 _ _ (by omega) (by omega)).trans a2, (h1 _ _ (by omega) (by omega)).trans a3, (h1 _ _ (by omega) (by omega)).trans a4, (h1 _ _ (by omega) (by omega)).trans a5⟩, fun k hk => (h1 _ _ (by omega) (by omega)).trans (b k hk), fun k hk => ?_, fun k hk => cnR_fr h h2 (d k hk), fun k hk => cnR_fr h h2 (e k hk), fun k hk => lwR_fr h h2 (f k hk)⟩
  obtain ⟨c1, c2, c3⟩ := c k hk
  exact ⟨(h1 _ _ (by omega) (by omega)).trans c1, (h1 _ _ (by omega) (by omega)).trans c2, (h1 _ _ (by omega) (by omega)).trans c3⟩
/-- places of the reference that A speaks of -/
def usR (o k : Nat) : Bool := (o == 0 && (k == 2 || k == 17 || k == 18 || k == 51 || k == 60)) || o == 1 || o == 7 || (11 ≤ o && o ≤ 31) || (35 ≤ o && o ≤ 39) || (43 ≤ o && o ≤ 46)
theorem RR_fr {P : Nat → Nat → Bool} {A : Abs} {σ τ : gS} (h : fr P σ τ) (hP : ∀ o k, usR o k = true → P o k = false) (hr : RR A σ) : RR A τ := by
  obtain ⟨⟨a1, a2⟩, ⟨b1, b2⟩, ⟨c1, c2⟩, ⟨L, d1, d2, d3⟩, e, f⟩ := hr
  have ut : ∀ o k, 11 ≤ o → o ≤ 31 → P o k = false := fun o k h1 h2 => hP o k (by simp [usR, h1, h2])
  refine ⟨⟨(fr_1 h (hP _ _ rfl)).trans a1, fun i hi => by rw [fr_1 h (hP 1 i rfl)]; exact a2 i hi⟩, ⟨(fr_1 h (hP _ _ rfl)).trans b1, fun p hp => ?_⟩, ⟨(fr_1 h (hP _ _ rfl)).trans c1, fun i hi => ?_⟩, ⟨L, d1, (fr_1 h (hP _ _ rfl)).trans d2, TdR_fr h ut d3⟩, (fr_1 h (hP _ _ rfl)).trans e, fun j hj => (fr_2 h (hP 7 j rfl)).trans (f j hj)⟩
  · obtain ⟨g1, g2, g3, g4, g5⟩ := b2 p hp
    exact ⟨(fr_1 h (hP 35 p rfl)).trans g1, (fr_1 h (hP 36 p rfl)).trans g2, (fr_1 h (hP 37 p rfl)).trans g3, (fr_1 h (hP 38 p rfl)).trans g4, fun j hj => (fr_1 h (hP 39 _ rfl)).trans (g5 j hj)⟩
  · obtain ⟨g1, g2, g3, g4⟩ := c2 i hi
    exact ⟨(fr_1 h (hP 43 i rfl)).trans g1, (fr_1 h (hP 44 i rfl)).trans g2, (fr_1 h (hP 45 i rfl)).trans g3, (fr_1 h (hP 46 i rfl)).trans g4⟩
theorem scC_us {o k : Nat} (h : usC o k = true) : scC o k = false := by
  simp only [usC, scC, Bool.or_eq_true, Bool.and_eq_true, beq_iff_eq, decide_eq_true_eq, Bool.or_eq_false_iff, Bool.and_eq_false_iff, beq_eq_false_iff_ne] at h ⊢
  omega
theorem scR_us {o k : Nat} (h : usR o k = true) : scR o k = false := by
  simp only [usR, scR, Bool.or_eq_true, Bool.and_eq_true, beq_iff_eq, decide_eq_true_eq, Bool.or_eq_false_iff, beq_eq_false_iff_ne] at h ⊢
  omega
theorem RC_sc {A : Abs} {σ τ : gS} (h : fr scC σ τ) (hr : RC A σ) : RC A τ := RC_fr h (fun _ _ => scC_us) hr
theorem RR_sc {A : Abs} {σ τ : gS} (h : fr scR σ τ) (hr : RR A σ) : RR A τ := RR_fr h (fun _ _ => scR_us) hr
/-- a question: both sides answer v, and write scratch alone -/
theorem ask {A : Abs} {u : gS × gS} (ho : okA A) (h1 : RC A u.1) (h2 : RR A u.2) {σ τ : gS} (f1 : fr scC u.1 σ) (f2 : fr scR u.2 τ) : Inv (σ, τ) := ⟨A, ho, RC_sc f1 h1, RR_sc f2 h2⟩
def A0 : Abs := ((0, fun _ => 0), (0, fun _ _ => 0), (0, fun _ => 0, fun _ => 0, fun _ => 0), ((0, 0, 0, 0, 0), fun _ => 0, fun _ => 0, fun _ => 0, fun _ => 0, fun _ => [], fun _ => []), -1)
theorem Inv_0 : Inv (cS0, zTX11) := by
  have h0 : ∀ {P : Nat → Prop} (k : Nat), k < 0 → P k := fun k h => absurd h (Nat.not_lt_zero k)
  refine ⟨A0, ⟨⟨by decide, h0⟩, ⟨by decide, h0⟩, ⟨by decide, h0⟩, ⟨by decide, h0, h0, h0, h0, h0⟩⟩, ⟨⟨rfl, h0⟩, ⟨rfl, fun p j hp => absurd hp (Nat.not_lt_zero p)⟩, ⟨rfl, h0⟩, ⟨24, rfl, rfl, rfl, ⟨rfl, rfl, rfl, rfl, rfl⟩, h0, h0, h0, h0, h0⟩, rfl, zTX8_w, fun n k hn hk => ?_⟩, ?_⟩
  · have h := zTX0_I.2 n k hn hk
    rw [if_pos (Or.inl (by omega))] at h
    exact h
  · have hs : ∀ j, j ≠ 7 → zTX11.1 j = zS1.1 j := fun j hj => (zTX11_s j (by simp [hj])).1
    have h00 := hs 0 (by decide)
    refine ⟨⟨by show zTX11.1 0 2 = _; rw [h00]; rfl, h0⟩, ⟨by show zTX11.1 0 51 = _; rw [h00]; rfl, h0⟩, ⟨by show zTX11.1 0 60 = _; rw [h00]; rfl, h0⟩, ⟨0, by decide, by show zTX11.1 0 18 = _; rw [h00]; rfl, ⟨?_, ?_, ?_, ?_, ?_⟩, h0, h0, h0, h0, h0⟩, by show zTX11.1 0 17 = _; rw [h00]; rfl, zTX11_w⟩
    · show zTX11.1 11 0 = _; rw [hs 11 (by decide)]; rfl
    · show zTX11.1 12 0 = _; rw [hs 12 (by decide)]; rfl
    · show zTX11.1 13 0 = _; rw [hs 13 (by decide)]; rfl
    · show zTX11.1 16 0 = _; rw [hs 16 (by decide)]; rfl
    · show zTX11.1 14 0 = _; rw [hs 14 (by decide)]; rfl
