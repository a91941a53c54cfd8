/-! read: names that were told ahead -/
noncomputable def knF (a1 x1 : Int32) (s3 : gS) : Int32 × Int32 → Option ((Int32 × Int32) ⊕ Int32) := fun (z5 : (Int32 × Int32)) => if (s3.1 0 20) ≤ z5.1 then some (.inr z5.2) else if z5.2 = (-1 : Int32) then gx z5.1 40 (gx x1 403 (if (lg_cmp (s3.2.1 8 z5.1.toNatClampNeg) (s3.2.1 6 x1.toNatClampNeg)) = 0 then gx z5.1 40 (if (s3.1 9 z5.1.toNatClampNeg) = a1 then gx z5.1 40 (lt' (s3.1 10 z5.1.toNatClampNeg) (fun x6 => lt' (z5.1 + (1 : Int32)) (fun x7 => some (.inl (x7, x6))))) else lt' (z5.1 + (1 : Int32)) (fun x8 => some (.inl (x8, z5.2)))) else lt' (z5.1 + (1 : Int32)) (fun x9 => some (.inl (x9, z5.2))))) else lt' (z5.1 + (1 : Int32)) (fun x10 => some (.inl (x10, z5.2)))
theorem kn_un {a1 : Int32} {τ : gS} : pX11_known a1 τ = lt' (τ.1 0 11) (fun x1 => bn1 (pX11_must (1 : Int32) τ) (fun s3 => if (s3.1 0 13) ≤ 0 then bn1 (lpP (knF a1 x1 s3) ((0 : Int32), (-1 : Int32))) (fun (z4 : Int32) => if z4 = (-1 : Int32) then bn1 (pX11_wrong (4 : Int32) x1 s3) (fun s12 => some (z4, s12)) else some (z4, s3)) else some ((-1 : Int32), s3))) := rfl
section KNOWN
variable {a1 : Int32} {j n : Nat} {s : gS}
theorem kn_o {x1 w : Int32} (h : s.1 0 20 = nI n) : knF a1 x1 s (nI n, w) = some (.inr w) := by
  unfold knF
  dsimp only
  rw [h, if_pos (Int32.le_refl _)]
theorem kn_k {i : Nat} {x1 w : Int32} (hn : n ≤ 30) (h : s.1 0 20 = nI n) (hi : i < n) (hw : ¬ w = -1) : knF a1 x1 s (nI i, w) = some (.inl (nI (i + 1), w)) := by
  unfold knF
  dsimp only
  rw [h, if_neg (show ¬ nI n ≤ nI i from nI_ge hi (by omega)), if_neg hw, lt_b, nI_1]
theorem kn_y {i : Nat} (hn : n ≤ 30) (hj : j < 403) (h : s.1 0 20 = nI n) (hi : i < n) (h1 : s.2.1 8 i = s.2.1 6 j) (h2 : s.1 9 i = a1) : knF a1 (nI j) s (nI i, -1) = some (.inl (nI (i + 1), s.1 10 i)) := by
  unfold knF
  dsimp only
  rw [h, if_neg (show ¬ nI n ≤ nI i from nI_ge hi (by omega)), if_pos rfl, gx_i (by omega) (by decide), gx_i hj (by decide), nI_clamp (by omega), nI_clamp (by omega), if_pos (lc_eq.mpr h1), gx_i (by omega) (by decide), if_pos h2, gx_i (by omega) (by decide), lt_b, lt_b, nI_1]
theorem kn_n {i : Nat} (hn : n ≤ 30) (hj : j < 403) (h : s.1 0 20 = nI n) (hi : i < n) (h1 : ¬ (s.2.1 8 i = s.2.1 6 j ∧ s.1 9 i = a1)) : knF a1 (nI j) s (nI i, -1) = some (.inl (nI (i + 1), -1)) := by
  unfold knF
  dsimp only
  rw [h, if_neg (show ¬ nI n ≤ nI i from nI_ge hi (by omega)), if_pos rfl, gx_i (by omega) (by decide), gx_i hj (by decide), nI_clamp (by omega), nI_clamp (by omega)]
  by_cases c : s.2.1 8 i = s.2.1 6 j
  · rw [if_pos (lc_eq.mpr c), gx_i (by omega) (by decide), if_neg (fun z => h1 ⟨c, z⟩), lt_b, nI_1]
  · rw [if_neg (fun z => c (lc_eq.mp z)), lt_b, nI_1]
theorem kn_keep {x1 w : Int32} (hn : n ≤ 30) (h : s.1 0 20 = nI n) (hw : ¬ w = -1) : ∀ (m i : Nat), n - i = m → i ≤ n → lpP (knF a1 x1 s) (nI i, w) = some w := by
  intro m
  induction m with
  | zero =>
    intro i hm hi
    have : i = n := by omega
    subst this
    exact lpP_inr (kn_o h)
  | succ m ih =>
    intro i hm hi
    rw [lpP_inl (kn_k hn h (by omega) hw), ih (i + 1) (by omega) (by omega)]
theorem kn_any (hn : n ≤ 30) (hj : j < 403) (h : s.1 0 20 = nI n) : ∀ (m i : Nat), n - i = m → i ≤ n → ∃ w, lpP (knF a1 (nI j) s) (nI i, -1) = some w := by
  intro m
  induction m with
  | zero =>
    intro i hm hi
    have : i = n := by omega
    subst this
    exact ⟨_, lpP_inr (kn_o h)⟩
  | succ m ih =>
    intro i hm hi
    by_cases c : s.2.1 8 i = s.2.1 6 j ∧ s.1 9 i = a1
    · rw [lpP_inl (kn_y hn hj h (by omega) c.1 c.2)]
      by_cases c2 : s.1 10 i = -1
      · rw [c2]; exact ih (i + 1) (by omega) (by omega)
      · exact ⟨_, kn_keep hn h c2 _ (i + 1) rfl (by omega)⟩
    · rw [lpP_inl (kn_n hn hj h (by omega) c)]
      exact ih (i + 1) (by omega) (by omega)
theorem kn_none (hn : n ≤ 30) (hj : j < 403) (h : s.1 0 20 = nI n) (hx : ∀ i, i < n → ¬ (s.2.1 8 i = s.2.1 6 j ∧ s.1 9 i = a1)) : ∀ (m i : Nat), n - i = m → i ≤ n → lpP (knF a1 (nI j) s) (nI i, -1) = some (-1) := by
  intro m
  induction m with
  | zero =>
    intro i hm hi
    have : i = n := by omega
    subst this
    exact lpP_inr (kn_o h)
  | succ m ih =>
    intro i hm hi
    rw [lpP_inl (kn_n hn hj h (by omega) (hx i (by omega)))]
    exact ih (i + 1) (by omega) (by omega)
theorem kn_hit {i0 : Nat} {w : Int32} (hn : n ≤ 30) (hj : j < 403) (h : s.1 0 20 = nI n) (h0 : i0 < n) (h1 : s.2.1 8 i0 = s.2.1 6 j) (h2 : s.1 9 i0 = a1) (h3 : s.1 10 i0 = w) (hw : ¬ w = -1) (hx : ∀ i, i < n → i ≠ i0 → s.2.1 8 i ≠ s.2.1 6 j) : ∀ (m i : Nat), i0 - i = m → i ≤ i0 → lpP (knF a1 (nI j) s) (nI i, -1) = some w := by
  intro m
  induction m with
  | zero =>
    intro i hm hi
    have : i = i0 := by omega
    subst this
    rw [lpP_inl (kn_y hn hj h h0 h1 h2), h3]
    exact kn_keep hn h hw _ (i + 1) rfl (by omega)
  | succ m ih =>
    intro i hm hi
    rw [lpP_inl (kn_n hn hj h (by omega) (fun z => hx i (by omega) (by omega) z.1))]
    exact ih (i + 1) (by omega) (by omega)
end KNOWN
noncomputable def hwF (r0 : Nat) (a1 a2 a3 : Int32) (σ : gS) : Int32 → Option (Int32 ⊕ (Unit ⊕ Int32)) := fun (z2 : Int32) => if (σ.1 r0 3) ≤ z2 then some (.inr (.inl ())) else gx z2 40 (if (σ.1 (r0 + 2) z2.toNatClampNeg) = a1 then gx z2 40 (if (σ.1 (r0 + 3) z2.toNatClampNeg) = a2 then gx z2 40 (if (σ.1 (r0 + 4) z2.toNatClampNeg) = a3 then some (.inr (.inr (1 : Int32))) else lt' (z2 + (1 : Int32)) (fun x3 => some (.inl x3))) else lt' (z2 + (1 : Int32)) (fun x4 => some (.inl x4))) else lt' (z2 + (1 : Int32)) (fun x5 => some (.inl x5)))
theorem hw_un {r0 : Nat} {a1 a2 a3 : Int32} {σ : gS} : pX9_hasWhen r0 a1 a2 a3 σ = bnS (lpP (hwF r0 a1 a2 a3 σ) 0) (fun (_ : Unit) => some (0 : Int32)) := rfl
theorem hw_l {r n : Nat} {a b c : Int32} {σ : gS} (hn : n ≤ 40) (h : σ.1 r 3 = nI n) : ∀ (m i : Nat), n - i = m → i ≤ n → (∃ j, i ≤ j ∧ j < n ∧ (σ.1 (r + 2) j = a ∧ σ.1 (r + 3) j = b ∧ σ.1 (r + 4) j = c) ∧ lpP (hwF r a b c σ) (nI i) = some (.inr 1)) ∨ ((∀ j, i ≤ j → j < n → ¬ (σ.1 (r + 2) j = a ∧ σ.1 (r + 3) j = b ∧ σ.1 (r + 4) j = c)) ∧ lpP (hwF r a b c σ) (nI i) = some (.inl ())) := by
  intro m
  induction m with
  | zero =>
    intro i hm hi
    refine Or.inr ⟨fun j _ _ => by omega, lpP_inr ?_⟩
    unfold hwF
    rw [h, if_pos (nI_le (by omega) (by omega))]
  | succ m ih =>
    intro i hm hi
    have hlt : ¬ nI n ≤ nI i := nI_ge (by omega) (by omega)
    by_cases hc : σ.1 (r + 2) i = a ∧ σ.1 (r + 3) i = b ∧ σ.1 (r + 4) i = c
    · refine Or.inl ⟨i, Nat.le_refl _, by omega, hc, lpP_inr ?_⟩
      unfold hwF
      rw [h, if_neg hlt, gx_i (by omega) (by decide), nI_clamp (by omega), if_pos hc.1, gx_i (by omega) (by decide), if_pos hc.2.1, gx_i (by omega) (by decide), if_pos hc.2.2]
    · have st : hwF r a b c σ (nI i) = some (.inl (nI (i + 1))) := by
        unfold hwF
        rw [h, if_neg hlt, gx_i (by omega) (by decide), nI_clamp (by omega)]
        by_cases c1 : σ.1 (r + 2) i = a
        · rw [if_pos c1, gx_i (by omega) (by decide)]
          by_cases c2 : σ.1 (r + 3) i = b
          · rw [if_pos c2, gx_i (by omega) (by decide), if_neg (fun z => hc ⟨c1, c2, z⟩), lt_b, nI_1]
          · rw [if_neg c2, lt_b, nI_1]
        · rw [if_neg c1, lt_b, nI_1]
      rcases ih (i + 1) (by omega) (by omega) with ⟨j, j1, j2, j3, j4⟩ | ⟨j1, j2⟩
      · exact Or.inl ⟨j, by omega, j2, j3, by rw [lpP_inl st, j4]⟩
      · refine Or.inr ⟨fun j x y => ?_, by rw [lpP_inl st, j2]⟩
        rcases Nat.eq_or_lt_of_le x with z | z
        · rw [← z]; exact hc
        · exact j1 j (by omega) y
theorem hasW {r n : Nat} {a b c : Int32} {σ : gS} (hn : n ≤ 40) (h : σ.1 r 3 = nI n) : ((∃ j, j < n ∧ (σ.1 (r + 2) j = a ∧ σ.1 (r + 3) j = b ∧ σ.1 (r + 4) j = c)) ∧ pX9_hasWhen r a b c σ = some 1) ∨ ((∀ j, j < n → ¬ (σ.1 (r + 2) j = a ∧ σ.1 (r + 3) j = b ∧ σ.1 (r + 4) j = c)) ∧ pX9_hasWhen r a b c σ = some 0) := by
  rw [hw_un, show (0 : Int32) = nI 0 from rfl]
  rcases hw_l (a := a) (b := b) (c := c) hn h n 0 (by omega) (by omega) with ⟨j, j1, j2, j3, j4⟩ | ⟨j1, j2⟩
  · exact Or.inl ⟨⟨j, j2, j3⟩, by rw [j4]; rfl⟩
  · exact Or.inr ⟨fun j x => j1 j (by omega) x, by rw [j2]; rfl⟩
noncomputable def wlF (x1 x12 z7 z13 : Int32) : Int32 × gS → Option ((Int32 × gS) ⊕ gS) := fun (z23 : (Int32 × gS)) => if x1 ≤ z23.1 then some (.inr z23.2) else if z7 = (-1 : Int32) then lt' (z23.1 + (1 : Int32)) (fun x24 => some (.inl (x24, z23.2))) else if z13 = (-1 : Int32) then lt' (z23.1 + (1 : Int32)) (fun x25 => some (.inl (x25, z23.2))) else gx z23.1 80 (gx x1 80 (if (z23.2.1 17 z23.1.toNatClampNeg) = (z23.2.1 17 x1.toNatClampNeg) then gx z23.1 80 (if (z23.2.1 18 z23.1.toNatClampNeg) = z7 then gx z23.1 80 (if (z23.2.1 19 z23.1.toNatClampNeg) = z13 then bn1 (pX11_wrong (3 : Int32) x12 z23.2) (fun s27 => lt' (z23.1 + (1 : Int32)) (fun x28 => some (.inl (x28, s27)))) else lt' (z23.1 + (1 : Int32)) (fun x29 => some (.inl (x29, z23.2)))) else lt' (z23.1 + (1 : Int32)) (fun x30 => some (.inl (x30, z23.2)))) else lt' (z23.1 + (1 : Int32)) (fun x31 => some (.inl (x31, z23.2)))))
section WHL
variable {h0 : Nat} {x12 b c : Int32} {τ : gS}
theorem wl_o {n : Nat} : wlF (nI n) x12 b c (nI n, τ) = some (.inr τ) := by
  unfold wlF
  dsimp only
  rw [if_pos (Int32.le_refl _)]
def wMt (b c : Int32) (n i : Nat) (τ : gS) : Prop := ¬ b = -1 ∧ ¬ c = -1 ∧ τ.1 17 i = τ.1 17 n ∧ τ.1 18 i = b ∧ τ.1 19 i = c
theorem wl_y {n i : Nat} {τ' : gS} (hn : n < 80) (hi : i < n) (hm : wMt b c n i τ) (e : pX11_wrong 3 x12 τ = some τ') : wlF (nI n) x12 b c (nI i, τ) = some (.inl (nI (i + 1), τ')) := by
  obtain ⟨m1, m2, m3, m4, m5⟩ := hm
  unfold wlF
  dsimp only
  rw [if_neg (show ¬ nI n ≤ nI i from nI_ge hi (by omega)), if_neg m1, if_neg m2, gx_i (by omega) (by decide), gx_i hn (by decide), nI_clamp (by omega), nI_clamp (by omega), if_pos m3, gx_i (by omega) (by decide), if_pos m4, gx_i (by omega) (by decide), if_pos m5, e, bn1_s, lt_b, nI_1]
theorem wl_n {n i : Nat} (hn : n < 80) (hi : i < n) (hm : ¬ wMt b c n i τ) : wlF (nI n) x12 b c (nI i, τ) = some (.inl (nI (i + 1), τ)) := by
  unfold wlF
  dsimp only
  rw [if_neg (show ¬ nI n ≤ nI i from nI_ge hi (by omega))]
  by_cases c1 : b = -1
  · rw [if_pos c1, lt_b, nI_1]
  rw [if_neg c1]
  by_cases c2 : c = -1
  · rw [if_pos c2, lt_b, nI_1]
  rw [if_neg c2, gx_i (by omega) (by decide), gx_i hn (by decide), nI_clamp (by omega), nI_clamp (by omega)]
  by_cases c3 : τ.1 17 i = τ.1 17 n
  · rw [if_pos c3, gx_i (by omega) (by decide)]
    by_cases c4 : τ.1 18 i = b
    · rw [if_pos c4, gx_i (by omega) (by decide), if_neg (fun z => hm ⟨c1, c2, c3, c4, z⟩), lt_b, nI_1]
    · rw [if_neg c4, lt_b, nI_1]
  · rw [if_neg c3, lt_b, nI_1]
theorem wl_same {n : Nat} (hn : n < 80) (lo : Nat) (hw : (∃ i, lo ≤ i ∧ i < n ∧ wMt b c n i τ) → pX11_wrong 3 x12 τ = some τ) : ∀ (m i : Nat), n - i = m → lo ≤ i → i ≤ n → lpP (wlF (nI n) x12 b c) (nI i, τ) = some τ := by
  intro m
  induction m with
  | zero =>
    intro i hm hl hi
    have : i = n := by omega
    subst this
    exact lpP_inr wl_o
  | succ m ih =>
    intro i hm hl hi
    have e := ih (i + 1) (by omega) (by omega) (by omega)
    by_cases hc : wMt b c n i τ
    · rw [lpP_inl (wl_y hn (by omega) hc (hw ⟨i, hl, by omega, hc⟩)), e]
    · rw [lpP_inl (wl_n hn (by omega) hc), e]
theorem wl_hit {n : Nat} {τ' : gS} (hn : n < 80) (lo : Nat) (e1 : pX11_wrong 3 x12 τ = some τ') (e2 : pX11_wrong 3 x12 τ' = some τ') : ∀ (m i : Nat), n - i = m → lo ≤ i → i ≤ n → (∃ i', i ≤ i' ∧ i' < n ∧ wMt b c n i' τ) → lpP (wlF (nI n) x12 b c) (nI i, τ) = some τ' := by
  intro m
  induction m with
  | zero =>
    intro i hm hl hi ⟨i', x, y, z⟩
    omega
  | succ m ih =>
    intro i hm hl hi ⟨i', x, y, z⟩
    by_cases hc : wMt b c n i τ
    · rw [lpP_inl (wl_y hn (by omega) hc e1)]
      exact wl_same hn lo (fun _ => e2) _ (i + 1) rfl (by omega) (by omega)
    · rw [lpP_inl (wl_n hn (by omega) hc)]
      refine ih (i + 1) (by omega) (by omega) (by omega) ⟨i', ?_, y, z⟩
      rcases Nat.eq_or_lt_of_le x with q | q
      · rw [← q] at z; exact absurd z hc
      · omega
end WHL
section AHEAD
variable {N : Nat} {tk pl : Nat → Nat} {vl : Nat → Int64} {r L : Nat}
theorem ahead_s {a : Int32} {σ : gS} (h : ¬ σ.1 3 3 = 23) : pX7_nameAhead a σ = some (-1, σ) := by
  unfold pX7_nameAhead
  rw [if_neg h]
theorem ahead_b {a : Int32} {v : Int64} {σ s : gS} (h : σ.1 3 3 = 23) (hv : σ.2.1 3 4 = v) (e : pX7_blame 4 σ = some s) (hf : pX7_findName v σ = some (-1) ∨ ∃ i, i < 30 ∧ pX7_findName v σ = some (nI i) ∧ ¬ σ.1 19 i = a) : pX7_nameAhead a σ = some (-1, s) := by
  unfold pX7_nameAhead
  rw [if_pos h, hv]
  rcases hf with hf | ⟨i, i1, hf, i2⟩
  · rw [hf, bn1_s, if_pos rfl, bnS_l, e, bn1_s]
  · rw [hf, bn1_s, if_neg (ne_m1 (by omega)), gx_i i1 (by decide), nI_clamp (by omega), if_neg i2, bnS_l, e, bn1_s]
theorem ahead_y {a : Int32} {v : Int64} {i : Nat} {σ : gS} (h : σ.1 3 3 = 23) (hv : σ.2.1 3 4 = v) (hi : i < 30) (hf : pX7_findName v σ = some (nI i)) (h2 : σ.1 19 i = a) : pX7_nameAhead a σ = some (σ.1 20 i, σ) := by
  unfold pX7_nameAhead
  rw [if_pos h, hv, hf, bn1_s, if_neg (ne_m1 (by omega)), gx_i hi (by decide), nI_clamp (by omega), if_pos h2, gx_i hi (by decide), bnS_r]
theorem ahead_any {a : Int32} {m : Nat} {σ : gS} (h : σ.1 3 3 = 23) (hm : m ≤ 30) (h13 : σ.1 3 13 = nI m) : ∃ v s, pX7_nameAhead a σ = some (v, s) ∧ fr blC σ s ∧ (s = σ ∨ pX7_blame 4 σ = some s) := by
  obtain ⟨s, e1, e2⟩ := blame_any (c := 4) (σ := σ)
  rcases findC (x := σ.2.1 3 4) hm h13 with ⟨j, j1, j2, j3, j4⟩ | ⟨j1, j2⟩
  · by_cases c : σ.1 19 j = a
    · exact ⟨_, σ, ahead_y h rfl (by omega) j4 c, fr_rf, Or.inl rfl⟩
    · exact ⟨-1, s, ahead_b h rfl e1 (Or.inr ⟨j, by omega, j4, c⟩), e2, Or.inr e1⟩
  · exact ⟨-1, s, ahead_b h rfl e1 (Or.inl j2), e2, Or.inr e1⟩
theorem sR_inj {a b : Nat} (ha : a = 0 ∨ a = 2 ∨ a = 3 ∨ a = 5) (hb : b = 0 ∨ b = 2 ∨ b = 3 ∨ b = 5) (h : sR a = sR b) : a = b := by
  rcases ha with rfl | rfl | rfl | rfl <;> rcases hb with rfl | rfl | rfl | rfl <;> first | rfl | exact absurd h (by decide)
theorem sR_lt (a : Nat) : sR a < 4 := by
  unfold sR
  split
  · decide
  · split
    · decide
    · split <;> decide
/-- how a name that is ahead comes out -/
def KO (N : Nat) (tk pl : Nat → Nat) (vl : Nat → Int64) (k lim : Nat) (v w : Int32) (σ s12 t : gS) : Prop := (k < 400 ∧ tk k = 23 ∧ rdR N tk pl vl (k + 1) t ∧ ((s12 = σ ∧ σ.1 3 8 = 0 ∧ WW (pl k) σ t ∧ ∃ num, num < lim ∧ v = nI num ∧ w = nI num) ∨ (v = -1 ∧ w = -1 ∧ s12.1 3 8 ≠ 0 ∧ WW (pl k + 1) s12 t) ∨ (s12 = σ ∧ σ.1 3 8 ≠ 0 ∧ WW (pl k) σ t))) ∨ (∃ f, fpO f (pl k) ∧ spR N tk pl vl f (pl k) t ∧ ((f = 1 ∧ tk k ≠ 23 ∧ v = -1 ∧ s12 = σ) ∨ (f = 2 ∧ tk k = 23 ∧ k = 400)))
theorem knownQ (hT : TkOK N tk pl) (hr : tR r = true) {k kd lim : Nat} {cs : List (Int32 × Int32)} {es : List cEl} {lts : List lEl} {Θ : Tld} {nm : List nEl} {σ τ : gS} (h : MX N tk pl vl r L k cs es lts Θ nm nm σ τ) (hkd : kd = 0 ∨ kd = 2) (hlim : ∀ x, x.2.1 = kd → (x.2.1 = 0 → x.2.2 < nSg Θ) → (x.2.1 = 2 → x.2.2 < nSy Θ) → (x : nEl).2.2 < lim) (hl16 : lim ≤ 16) : ∃ v s12 w t, pX7_nameAhead (nI kd) σ = some (v, s12) ∧ pX11_known (nI (sR kd)) τ = some (w, t) ∧ fr blC σ s12 ∧ fr hbR τ t ∧ KO N tk pl vl k lim v w σ s12 t := by
  obtain ⟨h1, h2, h3, h4, h5, h6, ⟨m, m1, m2⟩, h8⟩ := h
  have h30 := nTot_30 h4
  have hk := h1.1.1
  have hk4 := k_400 hT hk
  have htk := (hT.2.2.2.1 k hk).1
  have hpl := (hT.2.2.2.1 k hk).2
  have t11 := h1.2.1.1
  by_cases hc : tk k = 23
  · have h33 : σ.1 3 3 = 23 := by rw [h1.1.2.2.1, hc]; rfl
    have hv := h1.1.2.2.2.1
    by_cases hk0 : k < 400
    · obtain ⟨t3, c1, c2, c3⟩ := goesR1 h1.2.1 hk0
      have eM : pX11_must (1 : Int32) τ = some t3 := mustR1 (K := 23) hT h1.2.1 hk hc c1
      have t20 : t3.1 0 20 = nI (nTot Θ) := (fr_1 c3 rfl).trans h6
      have t13 : t3.1 0 13 = 0 := c2.2.1
      have t4 : t3.1 4 k = nI (pl k) := (c2.2.2 k hk).2.1
      have t6 : t3.2.1 6 k = vl k := (c2.2.2 k hk).2.2.2 hc
      have eK : ∀ w, lpP (knF (nI (sR kd)) (nI k) t3) (0, -1) = some w → pX11_known (nI (sR kd)) τ = if w = (-1 : Int32) then bn1 (pX11_wrong (4 : Int32) (nI k) t3) (fun s12 => some (w, s12)) else some (w, t3) := fun w e => by
        rw [kn_un, lt_b, eM, bn1_s, t13, if_pos (show (0 : Int32) ≤ 0 by decide), t11, e, bn1_s]
      by_cases h0 : σ.1 3 8 = 0
      · obtain ⟨q1, q2, q3, q4, q5⟩ := h8 h0
        have w15 : τ.1 0 15 = 0 ∧ σ.1 3 9 = -1 := by
          rcases h1.2.2.2.2.2.2.1 with z | ⟨w, p, z1, z2, z3, z4, z5, -⟩
          · exact ⟨z.2.2, z.2.1⟩
          · rw [h0] at z5
            exact absurd z5.symm (nI_ne0 (by omega) (by omega))
        have hml : m = nm.length := (nI_eq (by omega) (by have := q3.1; omega)).mp (m2.symm.trans q2.1)
        have hmt : nm.length = nTot Θ := (nI_eq (by have := q3.1; omega) (by omega)).mp (q3.2.1.symm.trans h6)
        have v15 : t3.1 0 15 = 0 := (fr_1 c3 rfl).trans w15.1
        have nn : ∀ i x, nm[i]? = some x → t3.2.1 8 i = x.1 ∧ t3.1 9 i = nI (sR x.2.1) ∧ t3.1 10 i = nI x.2.2 := fun i x hx => by
          obtain ⟨y1, y2, y3⟩ := q3.2.2 i x hx
          exact ⟨(fr_2 c3 rfl).trans y1, (fr_1 c3 rfl).trans y2, (fr_1 c3 rfl).trans y3⟩
        have bad : (∀ i, i < nTot Θ → ¬ (t3.2.1 8 i = t3.2.1 6 k ∧ t3.1 9 i = nI (sR kd))) → pX7_nameAhead (nI kd) σ = some (-1, wI (wI σ 3 8 (nI 4)) 3 9 (σ.1 3 5)) → ∃ v s12 w t, pX7_nameAhead (nI kd) σ = some (v, s12) ∧ pX11_known (nI (sR kd)) τ = some (w, t) ∧ fr blC σ s12 ∧ fr hbR τ t ∧ KO N tk pl vl k lim v w σ s12 t := fun hb eC => by
          have el := kn_none (n := nTot Θ) (by omega) (by omega) t20 hb _ 0 rfl (by omega)
          have ew := wrong0 (c := 4) t13 v15 t4 (by omega)
          have f1 : fr blR t3 (wI (wI t3 0 15 4) 0 16 (nI (pl k))) := fr_tr (fr_wI rfl) (fr_wI rfl)
          refine ⟨-1, _, -1, _, eC, by rw [eK _ el, if_pos rfl, ew, bn1_s], fr_tr (fr_wI rfl) (fr_wI rfl), fr_tr (hdR_b c3) (blR_b f1), Or.inl ⟨hk0, hc, rdR_bl f1 c2, Or.inr (Or.inl ⟨rfl, rfl, ?_, Or.inr ⟨4, pl k, by decide, by decide, by omega, hpl, ?_, ?_, ?_, wI_s⟩⟩)⟩⟩
          · rw [wI_1, if_neg (by omega), wI_s]; decide
          · rw [wI_1, if_neg (by omega), wI_s]
          · rw [wI_s]; exact h1.1.2.2.2.2.1
          · rw [wI_1, if_neg (by omega), wI_s]; rfl
        have eb : pX7_blame 4 σ = some (wI (wI σ 3 8 (nI 4)) 3 9 (σ.1 3 5)) := blame0 h0
        rcases findC (x := vl k) m1 m2 with ⟨j, j1, j2, j3, j4⟩ | ⟨j1, j2⟩
        · obtain ⟨x, hx⟩ := gl_lt (l := nm) (i := j) (by omega)
          obtain ⟨x1, x2, x3⟩ := q2.2 j x hx
          obtain ⟨y1, y2, y3⟩ := nn j x hx
          have hxm : x ∈ nm := List.mem_of_getElem? hx
          obtain ⟨z1, z2, z3⟩ := q5 x hxm
          have hxv : x.1 = vl k := x1.symm.trans j2
          have oth : ∀ i, i < nTot Θ → i ≠ j → t3.2.1 8 i ≠ t3.2.1 6 k := fun i hi hne e => by
            obtain ⟨y, hy⟩ := gl_lt (l := nm) (i := i) (by omega)
            have : y.1 = x.1 := by rw [← (nn i y hy).1, e, t6, hxv]
            exact hne (q4 i j y x hy hx this)
          by_cases ck : x.2.1 = kd
          · have lt1 := hlim x ck z2 z3
            have el := kn_hit (n := nTot Θ) (i0 := j) (by omega) (by omega) t20 (by omega) (by rw [y1, t6, hxv]) (by rw [y2, ck]) y3 (ne_m1 (by omega)) oth _ 0 rfl (by omega)
            exact ⟨_, σ, _, t3, ahead_y h33 hv (by omega) j4 (by rw [x2, ck]), by rw [eK _ el, if_neg (ne_m1 (by omega))], fr_rf, hdR_b c3, Or.inl ⟨hk0, hc, c2, Or.inl ⟨rfl, h0, Or.inl ⟨h0, w15.2, v15⟩, x.2.2, lt1, x3, rfl⟩⟩⟩
          · refine bad (fun i hi e => ?_) (ahead_b h33 hv eb (Or.inr ⟨j, by omega, j4, ?_⟩))
            · by_cases ij : i = j
              · subst ij
                rw [y2] at e
                have := (nI_eq (by have := sR_lt x.2.1; omega) (by have := sR_lt kd; omega)).mp e.2
                exact ck (sR_inj z1 (by omega) this)
              · exact oth i hi ij e.1
            · rw [x2]
              exact nI_neT ck (by omega) (by omega)
        · refine bad (fun i hi e => ?_) (ahead_b h33 hv eb (Or.inl j2))
          obtain ⟨x, hx⟩ := gl_lt (l := nm) (i := i) (by omega)
          have := j1 i (by omega)
          rw [(q2.2 i x hx).1] at this
          rw [(nn i x hx).1, t6] at e
          exact this e.1
      · have hw := h1.2.2.2.2.2.2.1
        rcases hw with z | ⟨w, p, w1, w2, w3, w4, w5, w6, w7, w8⟩
        · exact absurd z.1 h0
        obtain ⟨v, s, e1, e2, e3⟩ := ahead_any (a := nI kd) h33 m1 m2
        have hs : s = σ := by
          rcases e3 with e3 | e3
          · exact e3
          · rw [blame1 w5 (by omega)] at e3
            injection e3 with e3
            exact e3.symm
        subst hs
        have ew : pX11_wrong 4 (nI k) t3 = some t3 := wrong1 (c := 4) t13 ((fr_1 c3 rfl).trans w7) ((fr_1 c3 rfl).trans w8) t4 (by omega) (by omega) ⟨hpl, w4⟩ (Or.inl w3)
        obtain ⟨w', el⟩ := kn_any (a1 := nI (sR kd)) (j := k) (n := nTot Θ) (s := t3) (by omega) (by omega) t20 _ 0 rfl (by omega)
        refine ⟨v, s, w', t3, e1, ?_, fr_rf, hdR_b c3, Or.inl ⟨hk0, hc, c2, Or.inr (Or.inr ⟨rfl, h0, Or.inr ⟨w, p, w1, w2, w3, w4, w5, w6, (fr_1 c3 rfl).trans w7, (fr_1 c3 rfl).trans w8⟩⟩)⟩⟩
        rw [eK _ el, ew, bn1_s]
        split <;> rfl
    · have hk0 : k = 400 := by omega
      have hf : fpO 2 (pl k) := ⟨Or.inr rfl, hpl⟩
      obtain ⟨t3, c1, c2, c3⟩ := goesR2 h1.2.1 hk hT hk0
      have eM : pX11_must (1 : Int32) τ = some t3 := mustR1 (K := 23) hT h1.2.1 hk hc c1
      obtain ⟨v, s, e1, e2, e3⟩ := ahead_any (a := nI kd) h33 m1 m2
      refine ⟨v, s, -1, t3, e1, ?_, e2, hdR_b c3, Or.inr ⟨2, hf, c2, Or.inr ⟨rfl, hc, hk0⟩⟩⟩
      rw [kn_un, lt_b, eM, bn1_s, if_neg (sp_n hf c2).2]
  · have hf : fpO 1 (pl k) := ⟨Or.inl rfl, hpl⟩
    obtain ⟨t3, c1, c2, c3⟩ := failR1 (f := 1) h1.2.1 hk hT
    simp only [show nI 1 = 1 from rfl] at c1
    have eM : pX11_must (1 : Int32) τ = some t3 := mustR0 (K := 23) hT h1.2.1 hk (by decide) hc c1
    refine ⟨-1, σ, -1, t3, ahead_s (by rw [h1.1.2.2.1]; exact nI_neT (K := 23) hc (by omega) (by omega)), ?_, fr_rf, hdR_b c3, Or.inr ⟨1, hf, c2, Or.inl ⟨rfl, hc, rfl, rfl⟩⟩⟩
    rw [kn_un, lt_b, eM, bn1_s, if_neg (sp_n hf c2).2]
end AHEAD
