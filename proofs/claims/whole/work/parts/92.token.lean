/-! read: one token, both sides -/
noncomputable def ctF : Int32 × gS → Option ((Int32 × gS) ⊕ (gS ⊕ gS)) := fun (z3 : (Int32 × gS)) => if (400 : Int32) < (z3.2.1 0 10) then some (.inr (.inl z3.2)) else bn1 (pX11_byteAt z3.1 z3.2) (fun v4 => if z3.1 < (z3.2.1 0 4) then if v4 = (9 : Int32) then lt' (z3.1 + (1 : Int32)) (fun x6 => some (.inl (x6, z3.2))) else if v4 = (10 : Int32) then lt' (z3.1 + (1 : Int32)) (fun x7 => some (.inl (x7, z3.2))) else if v4 = (13 : Int32) then lt' (z3.1 + (1 : Int32)) (fun x8 => some (.inl (x8, z3.2))) else if v4 = (32 : Int32) then lt' (z3.1 + (1 : Int32)) (fun x9 => some (.inl (x9, z3.2))) else bn1 (pX11_isLetter v4) (fun v10 => if v10 = 0 then bn1 (pX11_isDigit v4) (fun v12 => if v12 = 0 then bn1 (pX11_byteAt (z3.1 + (1 : Int32)) z3.2) (fun v14 => bn2 (pX11_sign z3.1 v4 v14 z3.2) (fun v16 s17 => lt' (z3.1 + v16) (fun x18 => some (.inl (x18, s17))))) else bn1 (lpP (fun (z20 : (Int32 × Int32)) => bn1 (pX11_byteAt (z3.1 + z20.2) z3.2) (fun v21 => bn1 (pX11_isDigit v21) (fun v23 => if v23 = 0 then some (.inr (z20.2, z20.1)) else if (4 : Int32) ≤ z20.2 then lt' (z20.2 + (1 : Int32)) (fun x25 => some (.inl (z20.1, x25))) else bn1 (pX11_byteAt (z3.1 + z20.2) z3.2) (fun v26 => lt' ((((10 : Int32) * z20.1) + v26) - (48 : Int32)) (fun x28 => lt' (z20.2 + (1 : Int32)) (fun x29 => some (.inl (x28, x29)))))))) ((0 : Int32), (0 : Int32))) (fun (z19 : (Int32 × Int32)) => bn1 (if z19.1 ≤ (4 : Int32) then some (2 : Int32) else some (3 : Int32)) (fun (z30 : Int32) => bn1 (pX11_token z30 z3.1 z19.2 (0 : Int64) z3.2) (fun s32 => lt' (z3.1 + z19.1) (fun x33 => some (.inl (x33, s32))))))) else bn1 (lpP (fun (z35 : (Int64 × Int32)) => bn1 (pX11_byteAt (z3.1 + z35.2) z3.2) (fun v36 => bn1 (pX11_isLetter v36) (fun v38 => if v38 = 0 then some (.inr (z35.2, z35.1)) else if (8 : Int32) ≤ z35.2 then lt' (z35.2 + (1 : Int32)) (fun x40 => some (.inl (z35.1, x40))) else bn1 (pX11_byteAt (z3.1 + z35.2) z3.2) (fun v41 => bn1 (pX11_appends z35.1 v41) (fun v43 => lt' (z35.2 + (1 : Int32)) (fun x45 => some (.inl (v43, x45)))))))) ((0 : Int64), (0 : Int32))) (fun (z34 : (Int32 × Int64)) => bn1 (if z34.1 ≤ (8 : Int32) then some (1 : Int32) else some (3 : Int32)) (fun (z46 : Int32) => bn1 (if (7 : Int32) < z34.1 then some z46 else lpP (fun (z48 : (Int32 × Int32)) => if (23 : Int32) ≤ z48.1 then some (.inr z48.2) else gx z48.1 23 (if (lg_cmp (z3.2.2.1 7 z48.1.toNatClampNeg) z34.2) = 0 then lt' ((20 : Int32) + z48.1) (fun x49 => lt' (z48.1 + (1 : Int32)) (fun x50 => some (.inl (x50, x49)))) else lt' (z48.1 + (1 : Int32)) (fun x51 => some (.inl (x51, z48.2))))) ((0 : Int32), z46)) (fun (z47 : Int32) => bn1 (pX11_token z47 z3.1 (0 : Int32) z34.2 z3.2) (fun s53 => lt' (z3.1 + z34.1) (fun x54 => some (.inl (x54, s53)))))))) else bn1 (pX11_token (0 : Int32) (z3.2.1 0 4) (0 : Int32) (0 : Int64) z3.2) (fun s56 => some (.inr (.inr s56))))
def puC (c : Nat) (K i : Int32) (v : Int64) (σ : gS) : gS := wI (wL (wI (wI σ 5 c K) 6 c i) 7 c v) 4 3 (nI (c + 1))
def tkR (c : Nat) (K i v : Int32) (w : Int64) (τ : gS) : gS := wI (wL (wI (wI (wI τ 3 c K) 4 c i) 5 c v) 6 c w) 0 10 (nI (c + 1))
theorem putC {σ : gS} {c : Nat} {K i : Int32} {v : Int64} (h : σ.1 4 3 = nI c) (hc : c ≤ 400) : pX8_put K i v σ = some (puC c K i v σ) := by
  unfold pX8_put puC
  rw [h, if_neg (show ¬ (401 : Int32) ≤ nI c from nI_ge (b := 401) (by omega) (by decide)), gx_i (by omega) (by decide), lt_b, nI_clamp (by omega)]
  have h1 : (wI σ 5 c K).1 4 3 = nI c := by rw [wI_1, if_neg (by omega), h]
  rw [h1, gx_i (by omega) (by decide), lt_b, nI_clamp (by omega)]
  have h2 : (wI (wI σ 5 c K) 6 c i).1 4 3 = nI c := by rw [wI_1, if_neg (by omega), h1]
  rw [h2, gx_i (by omega) (by decide), lt_b, nI_clamp (by omega)]
  have h3 : (wL (wI (wI σ 5 c K) 6 c i) 7 c v).1 4 3 = nI c := h2
  rw [h3, lt_b, nI_1]
theorem tokenR {τ : gS} {c : Nat} {K i v : Int32} {w : Int64} (h : τ.1 0 10 = nI c) (hc : c ≤ 402) : pX11_token K i v w τ = some (tkR c K i v w τ) := by
  unfold pX11_token tkR
  rw [h, gx_i (by omega) (by decide), lt_b, nI_clamp (by omega)]
  have h1 : (wI τ 3 c K).1 0 10 = nI c := by rw [wI_1, if_neg (by omega), h]
  rw [h1, gx_i (by omega) (by decide), lt_b, nI_clamp (by omega)]
  have h2 : (wI (wI τ 3 c K) 4 c i).1 0 10 = nI c := by rw [wI_1, if_neg (by omega), h1]
  rw [h2, gx_i (by omega) (by decide), lt_b, nI_clamp (by omega)]
  have h3 : (wI (wI (wI τ 3 c K) 4 c i) 5 c v).1 0 10 = nI c := by rw [wI_1, if_neg (by omega), h2]
  rw [h3, gx_i (by omega) (by decide), lt_b, nI_clamp (by omega)]
  have h4 : (wL (wI (wI (wI τ 3 c K) 4 c i) 5 c v) 6 c w).1 0 10 = nI c := h3
  rw [h4, lt_b, nI_1]
def kp (K : Nat) : Nat := if K ≤ 5 then 20 + K else if K ≤ 15 then 27 + K else if K ≤ 22 then K + 10 else if K = 23 then 1 else if K = 24 then 2 else if K = 25 then 4 else if K = 26 then 15 else if K = 27 then 8 else if K = 28 then 9 else if K = 29 then 10 else if K ≤ 33 then K - 19 else if K = 34 then 6 else if K = 35 then 7 else if K = 36 then 0 else 3
def wdsC (σ : gS) : Prop := ∀ j, j < 23 → σ.2.1 8 j = wdC j
def wdsR (τ : gS) : Prop := ∀ j, j < 23 → τ.2.1 7 j = wdR j
theorem wkC {σ : gS} {x : Int64} (h : wdsC σ) {j : Nat} (hj : j < 23) (h1 : wdC j = x) (h2 : ∀ i, i < j → ¬ wdC i = x) : pX8_wordKind x σ = some (nI j) := by
  unfold pX8_wordKind
  apply lp_bnS
  refine lp_cnt (fun k (z : Int32) => z = nI k) j ?_ ?_ (k := 0) (by omega) rfl
  · rintro k z hk rfl
    rw [if_neg (show ¬ (23 : Int32) ≤ nI k from nI_ge (b := 23) (by omega) (by decide)), gx_i (by omega) (by decide), nI_clamp (by omega), h k (by omega), if_neg (fun q => h2 k hk (lc_eq.mp q)), lt_b, nI_1]
    exact ⟨_, rfl, rfl⟩
  · rintro z rfl
    rw [if_neg (show ¬ (23 : Int32) ≤ nI j from nI_ge (b := 23) (by omega) (by decide)), gx_i (by omega) (by decide), nI_clamp (by omega), h j hj, if_pos (lc_eq.mpr h1)]
    exact ⟨_, rfl, rfl⟩
theorem wkC_n {σ : gS} {x : Int64} (h : wdsC σ) (h2 : ∀ i, i < 23 → ¬ wdC i = x) : pX8_wordKind x σ = some 23 := by
  unfold pX8_wordKind
  apply lp_bnS
  refine lp_cnt (fun k (z : Int32) => z = nI k) 23 ?_ ?_ (k := 0) (by omega) rfl
  · rintro k z hk rfl
    rw [if_neg (show ¬ (23 : Int32) ≤ nI k from nI_ge (b := 23) (by omega) (by decide)), gx_i (by omega) (by decide), nI_clamp (by omega), h k (by omega), if_neg (fun q => h2 k hk (lc_eq.mp q)), lt_b, nI_1]
    exact ⟨_, rfl, rfl⟩
  · rintro z rfl
    rw [if_pos (show (23 : Int32) ≤ nI 23 by decide)]
    exact ⟨_, rfl, rfl⟩
/-- the reference's last match among the first j -/
def kk (x : Int64) : Nat → Int32
  | 0 => 1
  | j + 1 => if wdR j = x then nI (20 + j) else kk x j
theorem kk_y : ∀ j, j < 23 → kk (wdC j) 23 = nI (kp j) := by decide +kernel
theorem wd_RC : ∀ j, j < 23 → ∃ i, i < 23 ∧ wdR j = wdC i := by decide +kernel
theorem kk_n {x : Int64} (h : ∀ i, i < 23 → ¬ wdC i = x) : ∀ j, j ≤ 23 → kk x j = 1
  | 0, _ => rfl
  | j + 1, hj => by
    unfold kk
    rw [if_neg (fun q => by
      obtain ⟨i, i1, i2⟩ := wd_RC j (by omega)
      exact h i i1 (i2 ▸ q))]
    exact kk_n h j (by omega)
theorem keysR {τ : gS} {x : Int64} (h : wdsR τ) : lpP (fun (z48 : (Int32 × Int32)) => if (23 : Int32) ≤ z48.1 then (some (.inr z48.2) : Option ((Int32 × Int32) ⊕ Int32)) else gx z48.1 23 (if (lg_cmp (τ.2.1 7 z48.1.toNatClampNeg) x) = 0 then lt' ((20 : Int32) + z48.1) (fun x49 => lt' (z48.1 + (1 : Int32)) (fun x50 => some (.inl (x50, x49)))) else lt' (z48.1 + (1 : Int32)) (fun x51 => some (.inl (x51, z48.2))))) ((0 : Int32), (1 : Int32)) = some (kk x 23) := by
  refine lp_seq (fun j => (nI j, kk x j)) 23 (fun k hk => ?_) ?_
  · dsimp only
    rw [if_neg (show ¬ (23 : Int32) ≤ nI k from nI_ge (b := 23) (by omega) (by decide)), gx_i (by omega) (by decide), nI_clamp (by omega), h k (by omega)]
    simp only [lt_b, nI_1]
    show _ = some (Sum.inl (nI (k + 1), if wdR k = x then nI (20 + k) else kk x k))
    by_cases hc : wdR k = x
    · rw [if_pos (lc_eq.mpr hc), if_pos hc, show (20 : Int32) = nI 20 from rfl, nI_add]
    · rw [if_neg (fun q => hc (lc_eq.mp q)), if_neg hc]
  · dsimp only
    rw [if_pos (show (23 : Int32) ≤ nI 23 by decide)]
/-- which kind a word is: both sides -/
theorem wkQ (x : Int64) : ∃ K, K ≤ 23 ∧ (∀ σ, wdsC σ → pX8_wordKind x σ = some (nI K)) ∧ kk x 23 = nI (kp K) ∧ (K < 23 → wdC K = x) := by
  by_cases h : ∃ i, i < 23 ∧ wdC i = x
  · obtain ⟨j, j1, j2, j3⟩ := fb_first (p := fun i => wdC i = x) h
    exact ⟨j, by omega, fun σ hσ => wkC hσ j1 j2 j3, by rw [← j2]; exact kk_y j j1, fun _ => j2⟩
  · have h' : ∀ i, i < 23 → ¬ wdC i = x := fun i hi q => h ⟨i, hi, q⟩
    exact ⟨23, Nat.le_refl _, fun σ hσ => wkC_n hσ h', kk_n h' 23 (Nat.le_refl _), fun q => absurd q (by decide)⟩
def wdN (j : Nat) : Nat := ([380741, 249, 13903, 50717, 458690, 8798, 423, 1111, 10631, 16819, 191610176, 7214732, 13385674, 70031, 407354, 3217595, 1065, 223456, 15216, 10256074, 6132983, 923, 12588757] : List Nat).getD j 0
theorem wd_lt : ∀ j, j < 23 → wdN j < 387420489 ∧ wdC j = lN (wdN j) := by decide +kernel
theorem isLtR {c : Nat} (hc : c < 256) : pX11_isLetter (nI c) = some (b01 (decide (97 ≤ c ∧ c ≤ 122))) := by
  unfold pX11_isLetter
  by_cases h1 : c < 97
  · rw [if_pos (show nI c < 97 from nI_lt (b := 97) h1 (by decide)), decide_eq_false (by omega)]; rfl
  · rw [if_neg (show ¬ nI c < 97 from nI_nlt (b := 97) (by omega) (by omega))]
    by_cases h2 : 122 < c
    · rw [if_pos (show (122 : Int32) < nI c from nI_lt (a := 122) h2 (by omega)), decide_eq_false (by omega)]; rfl
    · rw [if_neg (show ¬ (122 : Int32) < nI c from nI_nlt (a := 122) (by omega) (by decide)), decide_eq_true (by omega)]; rfl
theorem isDgR {c : Nat} (hc : c < 256) : pX11_isDigit (nI c) = some (b01 (decide (48 ≤ c ∧ c ≤ 57))) := by
  unfold pX11_isDigit
  by_cases h1 : c < 48
  · rw [if_pos (show nI c < 48 from nI_lt (b := 48) h1 (by decide)), decide_eq_false (by omega)]; rfl
  · rw [if_neg (show ¬ nI c < 48 from nI_nlt (b := 48) (by omega) (by omega))]
    by_cases h2 : 57 < c
    · rw [if_pos (show (57 : Int32) < nI c from nI_lt (a := 57) h2 (by omega)), decide_eq_false (by omega)]; rfl
    · rw [if_neg (show ¬ (57 : Int32) < nI c from nI_nlt (a := 57) (by omega) (by decide)), decide_eq_true (by omega)]; rfl
