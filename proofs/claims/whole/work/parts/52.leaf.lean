/-! LEAVES: numbers within bounds, counts, what is told; the calls that need no more -/
def ixB (n : Nat) (p : Int32) : Bool := decide (0 ≤ p.toInt ∧ p.toInt < n)
theorem ix_T {n : Nat} {p : Int32} (hn : n < 2 ^ 31) (h : ixB n p = true) : ∃ j, j < n ∧ p = nI j := by
  have h1 : 0 ≤ p.toInt ∧ p.toInt < n := of_decide_eq_true h
  refine ⟨p.toInt.toNat, by omega, ?_⟩
  apply Int32.toInt_inj.mp
  rw [nI_toInt (by omega)]
  omega
theorem ix_nI {n j : Nat} (hj : j < 2 ^ 31) : ixB n (nI j) = decide (j < n) := by
  unfold ixB
  rw [nI_toInt hj]
  exact decide_eq_decide.mpr (by omega)
theorem b01_z {b : Bool} : b01 b = 0 ↔ b = false := by cases b <;> decide
theorem b01_o {b : Bool} : b01 b = 1 ↔ b = true := by cases b <;> decide
theorem b01_a {b : Bool} : b01 b &&& 1 = b01 b := by cases b <;> decide
theorem in0 {n : Nat} {v : Int32} (hn : n < 2 ^ 30) : (if (0 : Int32) ≤ v ∧ v ≤ nI n - 1 then (1 : Int32) else 0) = b01 (ixB n v) := by
  have h1 : (nI n - 1).toInt = (n : Int) - 1 := pk_sub_toInt (b := 1) hn (by decide)
  have h2 : ((0 : Int32) ≤ v ∧ v ≤ nI n - 1) ↔ (0 ≤ v.toInt ∧ v.toInt < n) := by
    rw [fa_le, fa_le, h1]
    have : (0 : Int32).toInt = 0 := by decide
    rw [this]
    omega
  unfold b01 ixB
  by_cases h : 0 ≤ v.toInt ∧ v.toInt < n
  · rw [if_pos (h2.mpr h), if_pos (decide_eq_true h)]
  · rw [if_neg (fun q => h (h2.mp q)), if_neg (by simpa using h)]
theorem in0L {n : Nat} {v : Int32} (hn : n < 2 ^ 30) : (if (0 : Int32) ≤ v ∧ v ≤ nI n then (1 : Int32) else 0) = b01 (ixB (n + 1) v) := by
  have h2 : ((0 : Int32) ≤ v ∧ v ≤ nI n) ↔ (0 ≤ v.toInt ∧ v.toInt < ((n + 1 : Nat) : Int)) := by
    rw [fa_le, fa_le, nI_toInt (by omega)]
    have : (0 : Int32).toInt = 0 := by decide
    rw [this]
    omega
  unfold b01 ixB
  by_cases h : 0 ≤ v.toInt ∧ v.toInt < ((n + 1 : Nat) : Int)
  · rw [if_pos (h2.mpr h), if_pos (decide_eq_true h)]
  · rw [if_neg (fun q => h (h2.mp q)), if_neg (by simpa using h)]
theorem inRR {v a c : Int32} : pX11_in v a c = some (if a ≤ v ∧ v ≤ c then 1 else 0) := inR
theorem has_i {n : Nat} {p : Int32} (hn : n < 2 ^ 31) : (if p < 0 then some (0 : Int32) else if nI n ≤ p then some (0 : Int32) else some (1 : Int32)) = some (b01 (ixB n p)) := by
  have z : (0 : Int32).toInt = 0 := by decide
  by_cases h1 : p < 0
  · rw [if_pos h1]
    have h1' := (fa_lt _ _).mp h1
    have : ixB n p = false := by
      unfold ixB
      rw [z] at h1'
      exact decide_eq_false (by omega)
    rw [this]; rfl
  · rw [if_neg h1]
    have h1' : ¬ p.toInt < (0 : Int32).toInt := fun q => h1 ((fa_lt _ _).mpr q)
    rw [z] at h1'
    by_cases h2 : nI n ≤ p
    · rw [if_pos h2]
      have h2' := (fa_le _ _).mp h2
      rw [nI_toInt hn] at h2'
      have : ixB n p = false := by
        unfold ixB
        exact decide_eq_false (by omega)
      rw [this]; rfl
    · rw [if_neg h2]
      have h2' : ¬ (nI n).toInt ≤ p.toInt := fun q => h2 ((fa_le _ _).mpr q)
      rw [nI_toInt hn] at h2'
      have : ixB n p = true := by
        unfold ixB
        exact decide_eq_true (by omega)
      rw [this]; rfl
section LEAF
variable {A : Abs} {σ τ : gS} {p : Int32}
theorem hasC (ho : okA A) (h : RC A σ) : pX2_has p σ = some (b01 (ixB (aPn A) p)) := by
  unfold pX2_has
  rw [h.2.1.1]
  exact has_i (by have := ho.2.1.1; omega)
theorem isPR (ho : okA A) (h : RR A τ) : pX11_isPerson p τ = some (b01 (ixB (aPn A) p)) := by
  unfold pX11_isPerson
  rw [inRR, bn1_s, h.2.1.1, in0 (by have := ho.2.1.1; omega), b01_a]
theorem hasF (ho : okA A) (h : RC A σ) : pX1_has p σ = some (b01 (ixB (aFn A) p)) := by
  unfold pX1_has
  rw [h.2.2.1.1]
  exact has_i (by have := ho.2.2.1.1; omega)
theorem isSgC (ho : okA A) (h : RC A σ) : pX10_isSign p σ = some (b01 (ixB (nSg (aTd A)) p)) := by
  obtain ⟨r, h1, h2, -, h3⟩ := h.2.2.2.1
  unfold pX10_isSign
  rw [h2, gT_p h1, inR, bn1_s, h3.1.1, in0 (by have := ho.2.2.2.1.1; omega), b01_a]
theorem isSyC (ho : okA A) (h : RC A σ) : pX10_isSentence p σ = some (b01 (ixB (nSy (aTd A)) p)) := by
  obtain ⟨r, h1, h2, -, h3⟩ := h.2.2.2.1
  unfold pX10_isSentence
  rw [h2, gT_p h1, inR, bn1_s, h3.1.2.1, in0 (by have := ho.2.2.2.1.2.1; omega), b01_a]
theorem isBkC (ho : okA A) (h : RC A σ) : pX10_isBook p σ = some (b01 (ixB (nBk (aTd A)) p)) := by
  obtain ⟨r, h1, h2, -, h3⟩ := h.2.2.2.1
  unfold pX10_isBook
  rw [h2, gT_p h1, inR, bn1_s, h3.1.2.2.1, in0 (by have := ho.2.2.2.1.2.2.1; omega), b01_a]
theorem isLwC (ho : okA A) (h : RC A σ) : pX10_isLaw p σ = some (b01 (ixB (nLw (aTd A)) p)) := by
  obtain ⟨r, h1, h2, -, h3⟩ := h.2.2.2.1
  unfold pX10_isLaw
  rw [h2, gT_p h1, inR, bn1_s, h3.1.2.2.2.2, in0 (by have := ho.2.2.2.1.2.2.2.2; omega), b01_a]
theorem isSgR (ho : okA A) (h : RR A τ) : pX11_isSign p τ = some (b01 (ixB (nSg (aTd A)) p)) := by
  obtain ⟨L, h1, h2, h3⟩ := h.2.2.2.1
  unfold pX11_isSign
  rw [h2, gx_i h1 (by decide), inRR, bn1_s, nI_clamp (by omega), h3.1.1, in0 (by have := ho.2.2.2.1.1; omega), b01_a]
theorem isSyR (ho : okA A) (h : RR A τ) : pX11_isSay p τ = some (b01 (ixB (nSy (aTd A)) p)) := by
  obtain ⟨L, h1, h2, h3⟩ := h.2.2.2.1
  unfold pX11_isSay
  rw [h2, gx_i h1 (by decide), inRR, bn1_s, nI_clamp (by omega), h3.1.2.1, in0 (by have := ho.2.2.2.1.2.1; omega), b01_a]
theorem isBkR (ho : okA A) (h : RR A τ) : pX11_isBook p τ = some (b01 (ixB (nBk (aTd A)) p)) := by
  obtain ⟨L, h1, h2, h3⟩ := h.2.2.2.1
  unfold pX11_isBook
  rw [h2, gx_i h1 (by decide), inRR, bn1_s, nI_clamp (by omega), h3.1.2.2.1, in0 (by have := ho.2.2.2.1.2.2.1; omega), b01_a]
theorem isLwR (ho : okA A) (h : RR A τ) : pX11_isLaw p τ = some (b01 (ixB (nLw (aTd A)) p)) := by
  obtain ⟨L, h1, h2, h3⟩ := h.2.2.2.1
  unfold pX11_isLaw
  rw [h2, gx_i h1 (by decide), inRR, bn1_s, nI_clamp (by omega), h3.1.2.2.2.2, in0 (by have := ho.2.2.2.1.2.2.2.2; omega), b01_a]
end LEAF
/-- both sides answer v -/
theorem qII {x : Option (Int32 × gS)} {y : Option (Int32 × gS)} {v : Int32} {s1 s2 : gS} (h1 : x = some (v, s1)) (h2 : y = some (v, s2)) : bn2 x (fun v1 s1 => bn2 y (fun v2 s2 => if v1 = v2 then some (.inl (s1, s2)) else some (.inr 0))) = some (Sum.inl (s1, s2) : (gS × gS) ⊕ Int32) := by
  rw [h1, bn2_s, h2, bn2_s, if_pos rfl]
theorem qPP {x : Option Int32} {y : Option Int32} {v : Int32} {s1 s2 : gS} (h1 : x = some v) (h2 : y = some v) : bn1 x (fun v1 => bn1 y (fun v2 => if v1 = v2 then some (.inl (s1, s2)) else some (.inr 0))) = some (Sum.inl (s1, s2) : (gS × gS) ⊕ Int32) := by
  rw [h1, bn1_s, h2, bn1_s, if_pos rfl]
theorem h_3 {a1 a2 a3 a4 a5 : Int32} {u : gS × gS} (hu : Inv u) : ∃ t, q3 a1 a2 a3 a4 a5 u = some (.inl t) ∧ Inv t := by
  obtain ⟨A, ho, h1, h2⟩ := hu
  refine ⟨(u.1, u.2), qPP (v := aPl A) ?_ ?_, A, ho, h1, h2⟩
  · unfold pX10_place pX7_faultPlace
    rw [h1.2.2.2.2.1]; rfl
  · unfold pX11_place
    rw [h2.2.2.2.2.1]
theorem h_40 {a1 a2 a3 a4 a5 : Int32} {u : gS × gS} (hu : Inv u) : ∃ t, q40 a1 a2 a3 a4 a5 u = some (.inl t) ∧ Inv t := by
  obtain ⟨A, ho, h1, h2⟩ := hu
  obtain ⟨r, c1, c2, -, c3⟩ := h1.2.2.2.1
  obtain ⟨L, d1, d2, d3⟩ := h2.2.2.2.1
  have e : pX10_count a1 u.1 = pX11_count a1 u.2 ∧ ∃ v, pX11_count a1 u.2 = some v := by
    unfold pX10_count pX11_count
    rw [c2, gT_p c1, gT_p c1, gT_p c1, gT_p c1, gT_p c1, d2, gx_i d1 (by decide), gx_i d1 (by decide), gx_i d1 (by decide), gx_i d1 (by decide), gx_i d1 (by decide), nI_clamp (by omega), c3.1.1, c3.1.2.1, c3.1.2.2.1, c3.1.2.2.2.1, c3.1.2.2.2.2, d3.1.1, d3.1.2.1, d3.1.2.2.1, d3.1.2.2.2.1, d3.1.2.2.2.2, h1.1.1, h1.2.1.1, h1.2.2.1.1, h2.1.1, h2.2.1.1, h2.2.2.1.1]
    refine ⟨rfl, ?_⟩
    split
    · exact ⟨_, rfl⟩
    · split
      · exact ⟨_, rfl⟩
      · split
        · exact ⟨_, rfl⟩
        · split
          · exact ⟨_, rfl⟩
          · split
            · exact ⟨_, rfl⟩
            · split
              · exact ⟨_, rfl⟩
              · split
                · exact ⟨_, rfl⟩
                · split <;> exact ⟨_, rfl⟩
  obtain ⟨e1, v, e2⟩ := e
  exact ⟨(u.1, u.2), qPP (e1.trans e2) e2, A, ho, h1, h2⟩
theorem h_11 {a1 a2 a3 a4 a5 : Int32} {u : gS × gS} (hu : Inv u) : ∃ t, q11 a1 a2 a3 a4 a5 u = some (.inl t) ∧ Inv t := by
  obtain ⟨A, ho, h1, h2⟩ := hu
  obtain ⟨r, c1, c2, -, c3⟩ := h1.2.2.2.1
  obtain ⟨L, d1, d2, d3⟩ := h2.2.2.2.1
  have hb := ho.2.2.2.1.2.1
  by_cases hx : ixB (nSy (aTd A)) a1 = true
  · obtain ⟨j, hj, rfl⟩ := ix_T (by omega) hx
    refine ⟨(u.1, u.2), qPP (v := nI (srt (aTd A) j)) ?_ ?_, A, ho, h1, h2⟩
    · unfold pX10_sort
      rw [isSyC ho h1, bn1_s, hx, if_neg (by decide), c2, gT_p c1, gx_i (by omega) (by decide), nI_clamp (by omega), c3.2.1 j hj]
    · unfold pX11_sort
      have e16 : (16 : Int32) = nI 16 := rfl
      rw [isSyR ho h2, bn1_s, hx, if_neg (by decide), d2, e16, pk_mul, nI_add, gx_i (by omega) (by decide), nI_clamp (by omega), d3.2.1 j hj]
  · have hx : ixB (nSy (aTd A)) a1 = false := by simpa using hx
    refine ⟨(u.1, u.2), qPP (v := -1) ?_ ?_, A, ho, h1, h2⟩
    · unfold pX10_sort
      rw [isSyC ho h1, bn1_s, hx]; rfl
    · unfold pX11_sort
      rw [isSyR ho h2, bn1_s, hx]; rfl
