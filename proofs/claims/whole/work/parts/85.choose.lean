/-! fit, choose -/
theorem bt_sh {m i : Nat} (hm : m < 32) (hi : i < 32) : bt ((1 : Int32) <<< (nI m &&& (31 : Int32))) i = decide (i = m) := by
  rw [b_shl m hm 1 hi, bt_1 _ (by omega)]
  by_cases h : i = m
  · subst h; simp
  · rw [decide_eq_false h]
    by_cases h2 : m ≤ i
    · rw [decide_eq_false (show ¬ i - m = 0 by omega), Bool.and_false]
    · rw [decide_eq_false h2, Bool.false_and]
theorem withoutC {A : Abs} {σ : gS} {r : Nat} {bits wo : Int32} (ho : okA A) (hD : TdC (aTd A) r σ) : ∃ v, pX9_withoutSorts r bits wo σ = some v ∧ ∀ s, s < nSy (aTd A) → bt v s = (bt bits s && !bt wo (srt (aTd A) s)) := by
  have hT := ho.2.2.2
  have h16 := hT.1.2.1
  unfold pX9_withoutSorts
  refine lp_then (fun v => ∀ s, s < nSy (aTd A) → bt v s = (bt bits s && !bt wo (srt (aTd A) s))) ?_ (fun v hv => ⟨v, rfl, hv⟩)
  refine lp_cnt (fun m (z : Int32 × Int32) => z.1 = nI m ∧ ∀ s, s < nSy (aTd A) → bt z.2 s = (decide (s < m) && (bt bits s && !bt wo (srt (aTd A) s)))) (nSy (aTd A)) ?_ ?_ (k := 0) (by omega) ⟨rfl, fun s hs => ?_⟩
  · rintro m ⟨z, w⟩ hm ⟨rfl, hv⟩
    dsimp only at hv ⊢
    have hsr := hT.2.1 m hm
    rw [hD.1.2.1, if_neg (nI_ge hm (by omega)), gx_i (by omega) (by decide), nI_clamp (by omega), hD.2.1 m hm, bitOfX (by omega), bn1_s]
    simp only [lt_b, nI_1]
    have hs1 : ∀ s, s ≠ m → decide (s < m + 1) = decide (s < m) := fun s q => decide_eq_decide.mpr (by omega)
    cases hw : bt wo (srt (aTd A) m) with
    | false =>
      rw [if_b0]
      refine ⟨_, rfl, rfl, fun s hs => ?_⟩
      show bt (w ||| (bits &&& _)) s = _
      rw [b_or, b_and, bt_sh (by omega) (by omega), hv s hs]
      by_cases hc : s = m
      · subst hc
        rw [decide_eq_false (show ¬ s < s by omega), decide_eq_true (show s < s + 1 by omega), hw]
        simp
      · rw [decide_eq_false hc, hs1 s hc, Bool.and_false, Bool.or_false]
    | true =>
      rw [if_b1]
      refine ⟨_, rfl, rfl, fun s hs => ?_⟩
      show bt w s = _
      rw [hv s hs]
      by_cases hc : s = m
      · subst hc
        rw [hw, Bool.not_true, Bool.and_false, Bool.and_false, Bool.and_false]
      · rw [hs1 s hc]
  · rintro ⟨z, w⟩ ⟨rfl, hv⟩
    dsimp only at hv ⊢
    rw [hD.1.2.1, if_pos (nI_le (Nat.le_refl _) (by omega))]
    exact ⟨_, rfl, fun s hs => by rw [hv s hs, decide_eq_true hs, Bool.true_and]⟩
  · rw [decide_eq_false (Nat.not_lt_zero s), Bool.false_and]
    exact b_0 s
theorem h_16 {a1 a2 a3 a4 a5 : Int32} {u : gS × gS} (hu : Inv u) : ∃ t, q16 a1 a2 a3 a4 a5 u = some (.inl t) ∧ Inv t := by
  obtain ⟨A, ho, h1, h2⟩ := hu
  have hn := ho.2.1.1
  have h4 := ho.2.2.2.1.2.2.1
  have h16 := ho.2.2.2.1.2.1
  have hL4 := ho.2.2.2.1.2.2.2.2
  have no : Inv (u.1, u.2) := ⟨A, ho, h1, h2⟩
  unfold q16
  suffices hs : ∃ v s1 s2, pX10_fit a1 a2 a3 a4 a5 u.1 = some (v, s1) ∧ pX11_fit a1 a2 a3 a4 a5 u.2 = some (v, s2) ∧ Inv (s1, s2) by
    obtain ⟨v, s1, s2, e1, e2, e3⟩ := hs
    refine ⟨(s1, s2), ?_, e3⟩
    rw [e1, bn2_s, e2, bn2_s, if_pos rfl]
  unfold pX10_fit pX11_fit
  rw [isLwC ho h1, isLwR ho h2, isBkC ho h1, isBkR ho h2, hasC ho h1, isPR ho h2, hasC ho h1, isPR ho h2, inR, inRR, in_b]
  simp only [bn1_s]
  by_cases hx : ixB (nLw (aTd A)) a1 = true
  case neg =>
    have hx' : ixB (nLw (aTd A)) a1 = false := by simpa using hx
    simp only [hx', if_b0]
    exact ⟨_, u.1, u.2, rfl, rfl, no⟩
  by_cases hy : ixB (nBk (aTd A)) a2 = true
  case neg =>
    have hy' : ixB (nBk (aTd A)) a2 = false := by simpa using hy
    simp only [hx, hy', if_b0, if_b1]
    exact ⟨_, u.1, u.2, rfl, rfl, no⟩
  by_cases hp : ixB (aPn A) a3 = true
  case neg =>
    have hp' : ixB (aPn A) a3 = false := by simpa using hp
    simp only [hx, hy, hp', if_b0, if_b1]
    exact ⟨_, u.1, u.2, rfl, rfl, no⟩
  by_cases hq : ixB (aPn A) a4 = true
  case neg =>
    have hq' : ixB (aPn A) a4 = false := by simpa using hq
    simp only [hx, hy, hp, hq', if_b0, if_b1]
    exact ⟨_, u.1, u.2, rfl, rfl, no⟩
  by_cases hz : (0 : Int32) ≤ a5 ∧ a5 ≤ 127
  case neg =>
    simp only [hx, hy, hp, hq, decide_eq_false hz, if_b0, if_b1]
    exact ⟨_, u.1, u.2, rfl, rfl, no⟩
  simp only [hx, hy, hp, hq, decide_eq_true hz, if_b1]
  obtain ⟨l, hl, rfl⟩ := ix_T (by omega) hx
  obtain ⟨b, hb, rfl⟩ := ix_T (by omega) hy
  obtain ⟨p, hp2, rfl⟩ := ix_T (by omega) hp
  obtain ⟨f, hf, rfl⟩ := ix_T (by omega) hq
  obtain ⟨s1, e1, f1, v1⟩ := surveyC ho h1
  have hC1 := RC_sc f1 h1
  obtain ⟨r, r1, r2, r3⟩ := ppCl (p := f) ho hC1 (show b < 4 by omega)
  obtain ⟨r', r1', r2', r4⟩ := tdC hC1
  have er : r' = r := by rw [← r2', ← r2]
  subst er
  obtain ⟨w, w1, w2⟩ := withoutC (bits := PP A b f) (wo := a5) ho r4
  obtain ⟨s2, e2, f2⟩ := fitC (bits := w) (X := fun s => bt (PP A b f) s && !bt a5 (srt (aTd A) s)) ho hC1 v1 hp2 hl w2
  obtain ⟨t1, g1, k1⟩ := ppRf (b := b) ho h2 hf (by omega)
  obtain ⟨t2, g2, k2⟩ := fitR (pa := PP A b f) (wo := a5) (X := fun s => bt (PP A b f) s && !bt a5 (srt (aTd A) s)) ho (RR_sc k1 h2) hp2 hl (fun _ _ => rfl)
  rw [e1, bn1_s, r2, gT_p r1, gT_p r1, gx_i (by omega) (by decide), nI_clamp (by omega), (v1 f hf).1, r3, bn1_s, w1, bn1_s, e2, bn2_s, g1, bn2_s, g2, bn2_s]
  exact ⟨_, s2, t2, rfl, rfl, ask ho h1 h2 (fr_tr f1 (fr_up (fun o k q => c345_sc q) f2)) (fr_tr k1 k2)⟩
/-- how PERSON p fits the PAPER of PERSON f -/
def FF (A : Abs) (l b p f : Nat) : Int32 := FT A l p (fun s => bt (PP A b f) s)
def cW (o k : Nat) : Bool := c345 o k || o == 38
theorem cW_1 {σ τ : gS} (h : fr c345 σ τ) : fr cW σ τ := fr_up (fun o k q => by simp only [cW, Bool.or_eq_false_iff] at q; exact q.1) h
theorem cW_sc {o k : Nat} (h : scC o k = false) : cW o k = false := by
  have h1 := c345_sc h
  simp only [scC, Bool.or_eq_false_iff] at h
  simp only [cW, Bool.or_eq_false_iff]
  exact ⟨h1, h.1.1.1.1.1.1.2⟩
theorem RC_W {A : Abs} {σ τ : gS} (h : RC A σ) (hf : fr cW σ τ) : RC A τ := RC_sc (fr_up (fun o k q => cW_sc q) hf) h
theorem Sv_W {A : Abs} {σ τ : gS} (h : Sv A σ) (hf : fr cW σ τ) : Sv A τ := Sv_fr h hf (fun _ => rfl) (fun _ => rfl)
theorem weighC {A : Abs} {σ : gS} {l b p f : Nat} (ho : okA A) (h : RC A σ) (hS : Sv A σ) (hl : l < nLw (aTd A)) (hb : b < 4) (hp : p < aPn A) (hf : f < aPn A) : ∃ σ', pX4_weigh (nI l) (nI b) (nI p) (nI f) σ = some (FF A l b p f, σ') ∧ fr cW σ σ' ∧ ∀ g, σ'.1 38 g = if g = f then FF A l b p f else σ.1 38 g := by
  have hn := ho.2.1.1
  obtain ⟨r, r1, r2, r3⟩ := ppCl (p := f) ho h hb
  obtain ⟨s2, e2, f2⟩ := fitC (bits := PP A b f) (X := fun s => bt (PP A b f) s) ho h hS hp hl (fun _ _ => rfl)
  unfold pX4_weigh
  rw [r2, gT_p r1, gx_i (by omega) (by decide), nI_clamp (by omega), (hS f hf).1, r3, bn1_s, e2, bn2_s, gx_i (by omega) (by decide), lt_b, gx_i (by omega) (by decide), wI_s]
  refine ⟨_, rfl, fr_tr (cW_1 f2) (fr_wI rfl), fun g => ?_⟩
  rw [wI_1]
  by_cases hc : g = f
  · rw [if_pos ⟨rfl, hc⟩, if_pos hc]; rfl
  · rw [if_neg (fun q => hc q.2), if_neg hc, fr_1 f2 rfl]
theorem ffR {A : Abs} {τ : gS} {l b p f : Nat} (ho : okA A) (h : RR A τ) (hl : l < nLw (aTd A)) (hb : b < 4) (hp : p < aPn A) (hf : f < aPn A) : ∃ t1 t2, pX11_paperOf (nI b) (nI f) τ = some (PP A b f, t1) ∧ pX11_fitOf (nI l) (nI p) (PP A b f) 0 t1 = some (FF A l b p f, t2) ∧ fr scR τ t2 := by
  obtain ⟨t1, g1, k1⟩ := ppRf (b := b) ho h hf hb
  obtain ⟨t2, g2, k2⟩ := fitR (pa := PP A b f) (wo := 0) (X := fun s => bt (PP A b f) s) ho (RR_sc k1 h) hp hl (fun s _ => by rw [b_0, Bool.not_false, Bool.and_true])
  exact ⟨t1, t2, g1, g2, fr_tr k1 k2⟩
def six (o a b : Int32) : Int32 := if o < a then 0 else if b ≤ o then (if a = o then (if b = o then 2 else 3) else if b = o then 3 else 6) else 0
theorem sixC {σ : gS} {p q r : Nat} (hp : p < 20) (hq : q < 20) (hr : r < 20) : pX4_sixths (nI p) (nI q) (nI r) σ = some (six (σ.1 38 p) (σ.1 38 q) (σ.1 38 r)) := by
  unfold pX4_sixths six
  simp only [gx_i hp (show 20 < 2 ^ 31 by decide), gx_i hq (show 20 < 2 ^ 31 by decide), gx_i hr (show 20 < 2 ^ 31 by decide), nI_clamp (show p < 2 ^ 31 by omega), nI_clamp (show q < 2 ^ 31 by omega), nI_clamp (show r < 2 ^ 31 by omega), lt_b]
  generalize σ.1 38 p = o
  generalize σ.1 38 q = a
  generalize σ.1 38 r = b
  by_cases h1 : o < a
  · rw [if_pos h1, if_pos h1]
  · rw [if_neg h1, if_neg h1]
    by_cases h2 : b ≤ o
    · rw [if_pos h2, if_pos h2]
      by_cases h3 : a = o
      · rw [if_pos h3, if_pos h3, if_pos h3]
        by_cases h4 : b = o
        · rw [if_pos h4, if_pos h4]; rfl
        · rw [if_neg h4, if_neg h4]; rfl
      · rw [if_neg h3, if_neg h3, if_neg h3]
        by_cases h4 : b = o
        · rw [if_pos h4, if_pos h4]; rfl
        · rw [if_neg h4, if_neg h4]; rfl
    · rw [if_neg h2, if_neg h2]
def SX (A : Abs) (l b p q r : Nat) : Int32 := six (FF A l b p p) (FF A l b p q) (FF A l b p r)
theorem sixthsC {A : Abs} {σ : gS} {l b p q r : Nat} (ho : okA A) (h : RC A σ) (hS : Sv A σ) (hl : l < nLw (aTd A)) (hb : b < 4) (hp : p < aPn A) (hq : q < aPn A) (hr : r < aPn A) : ∃ σ', pX4_sixthsOf (nI l) (nI b) (nI p) (nI q) (nI r) σ = some (SX A l b p q r, σ') ∧ fr cW σ σ' := by
  have hn := ho.2.1.1
  obtain ⟨s1, e1, f1, v1⟩ := weighC ho h hS hl hb hp hp
  obtain ⟨s2, e2, f2, v2⟩ := weighC ho (RC_W h f1) (Sv_W hS f1) hl hb hp hq
  have f12 := fr_tr f1 f2
  obtain ⟨s3, e3, f3, v3⟩ := weighC ho (RC_W h f12) (Sv_W hS f12) hl hb hp hr
  unfold pX4_sixthsOf
  rw [e1, bn2_s, e2, bn2_s, e3, bn2_s, sixC (by omega) (by omega) (by omega), bn1_s]
  have w1 : s3.1 38 p = FF A l b p p := by
    rw [v3, v2, v1]
    by_cases c1 : p = r
    · rw [if_pos c1, c1]
    · rw [if_neg c1]
      by_cases c2 : p = q
      · rw [if_pos c2, c2]
      · rw [if_neg c2, if_pos rfl]
  have w2 : s3.1 38 q = FF A l b p q := by
    rw [v3, v2]
    by_cases c1 : q = r
    · rw [if_pos c1, c1]
    · rw [if_neg c1, if_pos rfl]
  have w3 : s3.1 38 r = FF A l b p r := by rw [v3, if_pos rfl]
  rw [w1, w2, w3]
  exact ⟨s3, rfl, fr_tr f12 f3⟩
theorem sixthsR {A : Abs} {τ : gS} {l b p q r : Nat} (ho : okA A) (h : RR A τ) (hl : l < nLw (aTd A)) (hb : b < 4) (hp : p < aPn A) (hq : q < aPn A) (hr : r < aPn A) : ∃ τ', pX11_sixths (nI l) (nI b) (nI p) (nI q) (nI r) τ = some (SX A l b p q r, τ') ∧ fr scR τ τ' := by
  obtain ⟨t1, t2, e1, e2, f1⟩ := ffR ho h hl hb hp hp
  obtain ⟨t3, t4, e3, e4, f2⟩ := ffR (p := p) ho (RR_sc f1 h) hl hb hp hq
  have f12 := fr_tr f1 f2
  obtain ⟨t5, t6, e5, e6, f3⟩ := ffR (p := p) ho (RR_sc f12 h) hl hb hp hr
  unfold pX11_sixths
  rw [e1, bn2_s, e2, bn2_s, e3, bn2_s, e4, bn2_s, e5, bn2_s, e6, bn2_s]
  refine ⟨t6, ?_, fr_tr f12 f3⟩
  unfold SX six
  split
  · rfl
  · split
    · split
      · split <;> rfl
      · split <;> rfl
    · rfl
theorem h_17 {a1 a2 a3 a4 a5 : Int32} {u : gS × gS} (hu : Inv u) : ∃ t, q17 a1 a2 a3 a4 a5 u = some (.inl t) ∧ Inv t := by
  obtain ⟨A, ho, h1, h2⟩ := hu
  have hn := ho.2.1.1
  have h4 := ho.2.2.2.1.2.2.1
  have hL4 := ho.2.2.2.1.2.2.2.2
  have no : Inv (u.1, u.2) := ⟨A, ho, h1, h2⟩
  unfold q17
  suffices hs : ∃ v s1 s2, pX10_choose a1 a2 a3 a4 a5 u.1 = some (v, s1) ∧ pX11_choose a1 a2 a3 a4 a5 u.2 = some (v, s2) ∧ Inv (s1, s2) by
    obtain ⟨v, s1, s2, e1, e2, e3⟩ := hs
    refine ⟨(s1, s2), ?_, e3⟩
    rw [e1, bn2_s, e2, bn2_s, if_pos rfl]
  unfold pX10_choose pX11_choose
  simp only [isLwC ho h1, isLwR ho h2, isBkC ho h1, isBkR ho h2, hasC ho h1, isPR ho h2, bn1_s]
  by_cases hx : ixB (nLw (aTd A)) a1 = true
  case neg =>
    have hx' : ixB (nLw (aTd A)) a1 = false := by simpa using hx
    simp only [hx', if_b0]
    exact ⟨_, u.1, u.2, rfl, rfl, no⟩
  by_cases hy : ixB (nBk (aTd A)) a2 = true
  case neg =>
    have hy' : ixB (nBk (aTd A)) a2 = false := by simpa using hy
    simp only [hx, hy', if_b0, if_b1]
    exact ⟨_, u.1, u.2, rfl, rfl, no⟩
  by_cases hp : ixB (aPn A) a3 = true
  case neg =>
    have hp' : ixB (aPn A) a3 = false := by simpa using hp
    simp only [hx, hy, hp', if_b0, if_b1]
    exact ⟨_, u.1, u.2, rfl, rfl, no⟩
  by_cases hq : ixB (aPn A) a4 = true
  case neg =>
    have hq' : ixB (aPn A) a4 = false := by simpa using hq
    simp only [hx, hy, hp, hq', if_b0, if_b1]
    exact ⟨_, u.1, u.2, rfl, rfl, no⟩
  by_cases hz : ixB (aPn A) a5 = true
  case neg =>
    have hz' : ixB (aPn A) a5 = false := by simpa using hz
    simp only [hx, hy, hp, hq, hz', if_b0, if_b1]
    exact ⟨_, u.1, u.2, rfl, rfl, no⟩
  simp only [hx, hy, hp, hq, hz, if_b1]
  obtain ⟨l, hl, rfl⟩ := ix_T (by omega) hx
  obtain ⟨b, hb, rfl⟩ := ix_T (by omega) hy
  obtain ⟨p, hp2, rfl⟩ := ix_T (by omega) hp
  obtain ⟨q, hq2, rfl⟩ := ix_T (by omega) hq
  obtain ⟨r, hr, rfl⟩ := ix_T (by omega) hz
  by_cases c1 : nI p = nI q
  · simp only [if_pos c1]
    exact ⟨_, u.1, u.2, rfl, rfl, no⟩
  by_cases c2 : nI p = nI r
  · simp only [if_neg c1, if_pos c2]
    exact ⟨_, u.1, u.2, rfl, rfl, no⟩
  by_cases c3 : nI q = nI r
  · simp only [if_neg c1, if_neg c2, if_pos c3]
    exact ⟨_, u.1, u.2, rfl, rfl, no⟩
  simp only [if_neg c1, if_neg c2, if_neg c3]
  obtain ⟨s1, e1, f1, v1⟩ := surveyC ho h1
  obtain ⟨s2, e2, f2⟩ := sixthsC (b := b) ho (RC_sc f1 h1) v1 hl (by omega) hp2 hq2 hr
  obtain ⟨t2, g2, k2⟩ := sixthsR (b := b) ho h2 hl (by omega) hp2 hq2 hr
  rw [e1, bn1_s, e2, bn2_s, g2, bn2_s]
  exact ⟨_, s2, t2, rfl, rfl, ask ho h1 h2 (fr_tr f1 (fr_up (fun o k q => cW_sc q) f2)) k2⟩
