/-! choice, list, tried, annul -/
theorem if_b1 {α : Type} {x y : α} : (if b01 true = 0 then x else y) = y := if_neg (by decide)
theorem if_b0 {α : Type} {x y : α} : (if b01 false = 0 then x else y) = x := if_pos (by decide)
theorem if_10 {α : Type} {x y : α} : (if (1 : Int32) = 0 then x else y) = y := if_neg (by decide)
theorem if_00 {α : Type} {x y : α} : (if (0 : Int32) = 0 then x else y) = x := if_pos rfl
theorem in_b {v a c : Int32} : (if a ≤ v ∧ v ≤ c then (1 : Int32) else 0) = b01 (decide (a ≤ v ∧ v ≤ c)) := by
  unfold b01
  by_cases h : a ≤ v ∧ v ≤ c
  · rw [if_pos h, if_pos (decide_eq_true h)]
  · rw [if_neg h, if_neg (by simpa using h)]
/-- a number between two -/
theorem in_T {v : Int32} {a c : Nat} (ha : a < 2 ^ 31) (hc : c < 2 ^ 31) (h : nI a ≤ v ∧ v ≤ nI c) : ∃ j, a ≤ j ∧ j ≤ c ∧ v = nI j := by
  have h1 := (fa_le _ _).mp h.1
  have h2 := (fa_le _ _).mp h.2
  rw [nI_toInt ha] at h1
  rw [nI_toInt hc] at h2
  refine ⟨v.toInt.toNat, by omega, by omega, ?_⟩
  apply Int32.toInt_inj.mp
  rw [nI_toInt (by omega)]
  omega
theorem h_29 {a1 a2 a3 a4 a5 : Int32} {u : gS × gS} (hu : Inv u) : ∃ t, q29 a1 a2 a3 a4 a5 u = some (.inl t) ∧ Inv t := by
  obtain ⟨A, ho, h1, h2⟩ := hu
  have hn := ho.2.2.1.1
  have hp := ho.2.1.1
  suffices hs : ∃ v s1 s2, pX10_choice a1 (bz a2) a3 u.1 = some (v, s1) ∧ pX11_choice a1 (bz a2) a3 u.2 = some (v, s2) ∧ Inv (s1, s2) by
    obtain ⟨v, s1, s2, e1, e2, e3⟩ := hs
    exact ⟨(s1, s2), qII e1 e2, e3⟩
  have no : Inv (u.1, u.2) := ⟨A, ho, h1, h2⟩
  unfold pX10_choice pX11_choice
  rw [hasC ho h1, isPR ho h2, bn1_s, bn1_s, inR, inRR, bn1_s, bn1_s, in_b, h2.2.2.1.1]
  by_cases hx : ixB (aPn A) a1 = true
  · by_cases hy : (1 : Int32) ≤ a3 ∧ a3 ≤ 5
    · simp only [hx, decide_eq_true hy, if_b1]
      by_cases hf : aFn A = 60
      · have e60 : nI (aFn A) = (60 : Int32) := by rw [hf]; rfl
        rw [if_pos e60]
        refine ⟨-1, u.1, u.2, ?_, rfl, no⟩
        rw [bn1_if, bn1_s, bn1_s, addC_full h1 hf, addC_full h1 hf]
        split <;> rfl
      · have ne : ¬ nI (aFn A) = (60 : Int32) := fun q => hf ((nI_eq (b := 60) (by omega) (by decide)).mp q)
        rw [if_neg ne]
        obtain ⟨p, hp', rfl⟩ := ix_T (by omega) hx
        obtain ⟨w, hw1, hw2, rfl⟩ := in_T (a := 1) (c := 5) (by decide) (by decide) hy
        by_cases hb : a2 = 0
        · have ez : bz a2 = 0 := by unfold bz; rw [if_pos hb]
          simp only [ez, if_true, bn1_s]
          obtain ⟨s1, e1, e2⟩ := addC (k := 1) (a := p) (v := w) ho h1 (by omega)
          obtain ⟨s2, f1, f2⟩ := addR (k := 1) (a := p) (v := w) (w := 0) ho h2 (by omega) (by decide)
          have k1 : (1 : Int32) = nI 1 := rfl
          have k0 : (0 : Int32) = nI (kR 1) := rfl
          refine ⟨nI (aFn A), s1, s2, by rw [show pX1_add 1 (nI p) (nI w) u.1 = some (nI (aFn A), s1) from e1, bn2_s], ?_, _, addF_ok ho (by omega) ⟨fun _ => ⟨by omega, by omega, by omega⟩, by omega, by omega, by omega, by omega⟩, e2, f2⟩
          rw [show pX11_fact 0 (nI p) (nI w) 0 u.2 = some (nI (aFn A), s2) from f1, bn2_s]
        · have ez : bz a2 = 1 := by unfold bz; rw [if_neg hb]
          simp only [ez, if_10, bn1_s]
          obtain ⟨s1, e1, e2⟩ := addC (k := 0) (a := p) (v := w) ho h1 (by omega)
          obtain ⟨s2, f1, f2⟩ := addR (k := 0) (a := p) (v := w) (w := 1) ho h2 (by omega) (by decide)
          refine ⟨nI (aFn A), s1, s2, ?_, ?_, _, addF_ok ho (by omega) ⟨fun _ => ⟨by omega, by omega, by omega⟩, by omega, by omega, by omega, by omega⟩, e2, f2⟩
          · rw [show pX1_add 0 (nI p) (nI w) u.1 = some (nI (aFn A), s1) from e1, bn2_s]
          · rw [show pX11_fact 0 (nI p) (nI w) 1 u.2 = some (nI (aFn A), s2) from f1, bn2_s]
    · have hy' : decide ((1 : Int32) ≤ a3 ∧ a3 ≤ 5) = false := decide_eq_false hy
      simp only [hx, hy', if_b1, if_b0]
      refine ⟨-1, u.1, u.2, rfl, ?_, no⟩
      split <;> rfl
  · have hx' : ixB (aPn A) a1 = false := by simpa using hx
    simp only [hx', if_b0]
    refine ⟨-1, u.1, u.2, rfl, ?_, no⟩
    split <;> rfl
theorem h_30 {a1 a2 a3 a4 a5 : Int32} {u : gS × gS} (hu : Inv u) : ∃ t, q30 a1 a2 a3 a4 a5 u = some (.inl t) ∧ Inv t := by
  obtain ⟨A, ho, h1, h2⟩ := hu
  have hn := ho.2.2.1.1
  have hp := ho.2.1.1
  suffices hs : ∃ v s1 s2, pX10_list a1 (bz a2) u.1 = some (v, s1) ∧ pX11_list a1 (bz a2) u.2 = some (v, s2) ∧ Inv (s1, s2) by
    obtain ⟨v, s1, s2, e1, e2, e3⟩ := hs
    exact ⟨(s1, s2), qII e1 e2, e3⟩
  have no : Inv (u.1, u.2) := ⟨A, ho, h1, h2⟩
  unfold pX10_list pX11_list
  rw [hasC ho h1, isPR ho h2, bn1_s, bn1_s, h2.2.2.1.1]
  by_cases hx : ixB (aPn A) a1 = true
  · simp only [hx, if_b1]
    by_cases hf : aFn A = 60
    · have e60 : nI (aFn A) = (60 : Int32) := by rw [hf]; rfl
      rw [if_pos e60]
      refine ⟨-1, u.1, u.2, ?_, rfl, no⟩
      rw [bn1_if, bn1_s, bn1_s, addC_full h1 hf, addC_full h1 hf]
      split <;> rfl
    · have ne : ¬ nI (aFn A) = (60 : Int32) := fun q => hf ((nI_eq (b := 60) (by omega) (by decide)).mp q)
      rw [if_neg ne]
      obtain ⟨p, hp', rfl⟩ := ix_T (by omega) hx
      by_cases hb : a2 = 0
      · have ez : bz a2 = 0 := by unfold bz; rw [if_pos hb]
        simp only [ez, if_true, bn1_s]
        obtain ⟨s1, e1, e2⟩ := addC (k := 3) (a := p) (v := 0) ho h1 (by omega)
        obtain ⟨s2, f1, f2⟩ := addR (k := 3) (a := p) (v := 0) (w := 0) ho h2 (by omega) (by decide)
        refine ⟨nI (aFn A), s1, s2, ?_, ?_, _, addF_ok ho (by omega) ⟨by omega, fun _ => ⟨by omega, rfl⟩, by omega, by omega, by omega⟩, e2, f2⟩
        · rw [show pX1_add 3 (nI p) 0 u.1 = some (nI (aFn A), s1) from e1, bn2_s]
        · rw [show pX11_fact 2 (nI p) 0 0 u.2 = some (nI (aFn A), s2) from f1, bn2_s]
      · have ez : bz a2 = 1 := by unfold bz; rw [if_neg hb]
        simp only [ez, if_10, bn1_s]
        obtain ⟨s1, e1, e2⟩ := addC (k := 2) (a := p) (v := 0) ho h1 (by omega)
        obtain ⟨s2, f1, f2⟩ := addR (k := 2) (a := p) (v := 0) (w := 0) ho h2 (by omega) (by decide)
        refine ⟨nI (aFn A), s1, s2, ?_, ?_, _, addF_ok ho (by omega) ⟨by omega, fun _ => ⟨by omega, rfl⟩, by omega, by omega, by omega⟩, e2, f2⟩
        · rw [show pX1_add 2 (nI p) 0 u.1 = some (nI (aFn A), s1) from e1, bn2_s]
        · rw [show pX11_fact 1 (nI p) 0 0 u.2 = some (nI (aFn A), s2) from f1, bn2_s]
  · have hx' : ixB (aPn A) a1 = false := by simpa using hx
    simp only [hx', if_b0]
    refine ⟨-1, u.1, u.2, rfl, ?_, no⟩
    split <;> rfl
theorem h_31 {a1 a2 a3 a4 a5 : Int32} {u : gS × gS} (hu : Inv u) : ∃ t, q31 a1 a2 a3 a4 a5 u = some (.inl t) ∧ Inv t := by
  obtain ⟨A, ho, h1, h2⟩ := hu
  have hn := ho.2.2.1.1
  have hp := ho.2.2.2.1.1
  suffices hs : ∃ v s1 s2, pX10_tried a1 a2 u.1 = some (v, s1) ∧ pX11_tried a1 a2 u.2 = some (v, s2) ∧ Inv (s1, s2) by
    obtain ⟨v, s1, s2, e1, e2, e3⟩ := hs
    exact ⟨(s1, s2), qII e1 e2, e3⟩
  have no : Inv (u.1, u.2) := ⟨A, ho, h1, h2⟩
  unfold pX10_tried pX11_tried
  rw [isSgC ho h1, isSgR ho h2, bn1_s, bn1_s, inR, inRR, bn1_s, bn1_s, in_b, h2.2.2.1.1]
  by_cases hx : ixB (nSg (aTd A)) a1 = true
  · by_cases hy : (0 : Int32) ≤ a2 ∧ a2 ≤ 9
    · simp only [hx, decide_eq_true hy, if_b1]
      by_cases hf : aFn A = 60
      · have e60 : nI (aFn A) = (60 : Int32) := by rw [hf]; rfl
        rw [if_pos e60]
        refine ⟨-1, u.1, u.2, ?_, rfl, no⟩
        rw [addC_full h1 hf]; rfl
      · have ne : ¬ nI (aFn A) = (60 : Int32) := fun q => hf ((nI_eq (b := 60) (by omega) (by decide)).mp q)
        rw [if_neg ne]
        obtain ⟨p, hp', rfl⟩ := ix_T (by omega) hx
        obtain ⟨w, hw1, hw2, rfl⟩ := in_T (a := 0) (c := 9) (by decide) (by decide) hy
        obtain ⟨s1, e1, e2⟩ := addC (k := 4) (a := p) (v := w) ho h1 (by omega)
        obtain ⟨s2, f1, f2⟩ := addR (k := 4) (a := p) (v := w) (w := 0) ho h2 (by omega) (by decide)
        refine ⟨nI (aFn A), s1, s2, ?_, ?_, _, addF_ok ho (by omega) ⟨by omega, by omega, fun _ => ⟨by omega, by omega⟩, by omega, by omega⟩, e2, f2⟩
        · rw [show pX1_add 4 (nI p) (nI w) u.1 = some (nI (aFn A), s1) from e1, bn2_s]
        · rw [show pX11_fact 3 (nI p) (nI w) 0 u.2 = some (nI (aFn A), s2) from f1, bn2_s]
    · have hy' : decide ((0 : Int32) ≤ a2 ∧ a2 ≤ 9) = false := decide_eq_false hy
      simp only [hx, hy', if_b1, if_b0]
      refine ⟨-1, u.1, u.2, rfl, ?_, no⟩
      split <;> rfl
  · have hx' : ixB (nSg (aTd A)) a1 = false := by simpa using hx
    simp only [hx', if_b0]
    refine ⟨-1, u.1, u.2, rfl, ?_, no⟩
    split <;> rfl
theorem h_32 {a1 a2 a3 a4 a5 : Int32} {u : gS × gS} (hu : Inv u) : ∃ t, q32 a1 a2 a3 a4 a5 u = some (.inl t) ∧ Inv t := by
  obtain ⟨A, ho, h1, h2⟩ := hu
  have hn := ho.2.2.1.1
  suffices hs : ∃ v s1 s2, pX10_annul a1 u.1 = some (v, s1) ∧ pX11_annul a1 u.2 = some (v, s2) ∧ Inv (s1, s2) by
    obtain ⟨v, s1, s2, e1, e2, e3⟩ := hs
    exact ⟨(s1, s2), qII e1 e2, e3⟩
  have no : Inv (u.1, u.2) := ⟨A, ho, h1, h2⟩
  unfold pX10_annul pX11_annul
  rw [hasF ho h1, bn1_s, inRR, bn1_s, h2.2.2.1.1, in0 (by omega)]
  by_cases hx : ixB (aFn A) a1 = true
  · simp only [hx, if_b1]
    obtain ⟨j, hj, rfl⟩ := ix_T (by omega) hx
    rw [gx_i (by omega) (by decide), gx_i (by omega) (by decide), nI_clamp (by omega), (h1.2.2.1.2 j hj).1, (h2.2.2.1.2 j hj).1]
    have hk5 := (ho.2.2.1.2 j hj).2.2.2.2
    by_cases h5 : aFk A j = 5
    · have e5 : nI (aFk A j) = (5 : Int32) := by rw [h5]; rfl
      have e4 : nI (kR (aFk A j)) = (4 : Int32) := by rw [h5]; rfl
      rw [if_pos e5, if_pos e4]
      refine ⟨-1, u.1, u.2, rfl, ?_, no⟩
      split <;> rfl
    · have e5 : ¬ nI (aFk A j) = (5 : Int32) := fun q => h5 ((nI_eq (b := 5) (by omega) (by decide)).mp q)
      have e4 : ¬ nI (kR (aFk A j)) = (4 : Int32) := fun q => by
        have hkr : kR (aFk A j) ≤ 4 := by unfold kR; split <;> omega
        have := (nI_eq (b := 4) (by omega) (by decide)).mp q
        unfold kR at this
        split at this <;> omega
      rw [if_neg e5, if_neg e4]
      by_cases hf : aFn A = 60
      · have e60 : nI (aFn A) = (60 : Int32) := by rw [hf]; rfl
        rw [if_pos e60, addC_full h1 hf]
        exact ⟨-1, u.1, u.2, rfl, rfl, no⟩
      · have ne : ¬ nI (aFn A) = (60 : Int32) := fun q => hf ((nI_eq (b := 60) (by omega) (by decide)).mp q)
        rw [if_neg ne]
        obtain ⟨s1, g1, g2⟩ := addC (k := 5) (a := j) (v := 0) ho h1 (by omega)
        obtain ⟨s2, f1, f2⟩ := addR (k := 5) (a := j) (v := 0) (w := 0) ho h2 (by omega) (by decide)
        refine ⟨nI (aFn A), s1, s2, ?_, ?_, _, addF_ok ho (by omega) ⟨by omega, by omega, by omega, fun _ => ⟨hj, h5, rfl⟩, by omega⟩, g2, f2⟩
        · rw [show pX1_add 5 (nI j) 0 u.1 = some (nI (aFn A), s1) from g1, bn2_s]
        · rw [show pX11_fact 4 (nI j) 0 0 u.2 = some (nI (aFn A), s2) from f1, bn2_s]
  · have hx' : ixB (aFn A) a1 = false := by simpa using hx
    simp only [hx', if_b0]
    refine ⟨-1, u.1, u.2, rfl, ?_, no⟩
    split <;> rfl
