/-! THE TAILS OF THE CONSTRUCTORS -/
/-- the words' numbers, in the class's order and in the reference's -/
def wdC (j : Nat) : Int64 := ([380741, 249, 13903, 50717, 458690, 8798, 423, 1111, 10631, 16819, 191610176, 7214732, 13385674, 70031, 407354, 3217595, 1065, 223456, 15216, 10256074, 6132983, 923, 12588757] : List Int64).getD j 0
def wdR (j : Nat) : Int64 := ([380741, 249, 13903, 50717, 458690, 8798, 1065, 223456, 15216, 10256074, 6132983, 923, 12588757, 423, 1111, 10631, 16819, 191610176, 7214732, 13385674, 70031, 407354, 3217595] : List Int64).getD j 0
theorem wdE_0 : pX11_word (115 : Int32) (105 : Int32) (103 : Int32) (110 : Int32) (0 : Int32) (0 : Int32) (0 : Int32) = some (380741 : Int64) := by decide +kernel
theorem gxc_0 {X : Option gS} : gx (0 : Int32) 23 X = X := if_neg (by decide)
theorem clc_0 : (0 : Int32).toNatClampNeg = 0 := by decide
theorem wdE_1 : pX11_word (105 : Int32) (102 : Int32) (0 : Int32) (0 : Int32) (0 : Int32) (0 : Int32) (0 : Int32) = some (249 : Int64) := by decide +kernel
theorem gxc_1 {X : Option gS} : gx (1 : Int32) 23 X = X := if_neg (by decide)
theorem clc_1 : (1 : Int32).toNatClampNeg = 1 := by decide
theorem wdE_2 : pX11_word (115 : Int32) (97 : Int32) (121 : Int32) (0 : Int32) (0 : Int32) (0 : Int32) (0 : Int32) = some (13903 : Int64) := by decide +kernel
theorem gxc_2 {X : Option gS} : gx (2 : Int32) 23 X = X := if_neg (by decide)
theorem clc_2 : (2 : Int32).toNatClampNeg = 2 := by decide
theorem wdE_3 : pX11_word (98 : Int32) (111 : Int32) (111 : Int32) (107 : Int32) (0 : Int32) (0 : Int32) (0 : Int32) = some (50717 : Int64) := by decide +kernel
theorem gxc_3 {X : Option gS} : gx (3 : Int32) 23 X = X := if_neg (by decide)
theorem clc_3 : (3 : Int32).toNatClampNeg = 3 := by decide
theorem wdE_4 : pX11_word (119 : Int32) (104 : Int32) (101 : Int32) (110 : Int32) (0 : Int32) (0 : Int32) (0 : Int32) = some (458690 : Int64) := by decide +kernel
theorem gxc_4 {X : Option gS} : gx (4 : Int32) 23 X = X := if_neg (by decide)
theorem clc_4 : (4 : Int32).toNatClampNeg = 4 := by decide
theorem wdE_5 : pX11_word (108 : Int32) (97 : Int32) (119 : Int32) (0 : Int32) (0 : Int32) (0 : Int32) (0 : Int32) = some (8798 : Int64) := by decide +kernel
theorem gxc_5 {X : Option gS} : gx (5 : Int32) 23 X = X := if_neg (by decide)
theorem clc_5 : (5 : Int32).toNatClampNeg = 5 := by decide
theorem wdE_6 : pX11_word (97 : Int32) (108 : Int32) (108 : Int32) (0 : Int32) (0 : Int32) (0 : Int32) (0 : Int32) = some (1065 : Int64) := by decide +kernel
theorem gxc_6 {X : Option gS} : gx (6 : Int32) 23 X = X := if_neg (by decide)
theorem clc_6 : (6 : Int32).toNatClampNeg = 6 := by decide
theorem wdE_7 : pX11_word (107 : Int32) (105 : Int32) (110 : Int32) (100 : Int32) (0 : Int32) (0 : Int32) (0 : Int32) = some (223456 : Int64) := by decide +kernel
theorem gxc_7 {X : Option gS} : gx (7 : Int32) 23 X = X := if_neg (by decide)
theorem clc_7 : (7 : Int32).toNatClampNeg = 7 := by decide
theorem wdE_8 : pX11_word (116 : Int32) (119 : Int32) (111 : Int32) (0 : Int32) (0 : Int32) (0 : Int32) (0 : Int32) = some (15216 : Int64) := by decide +kernel
theorem gxc_8 {X : Option gS} : gx (8 : Int32) 23 X = X := if_neg (by decide)
theorem clc_8 : (8 : Int32).toNatClampNeg = 8 := by decide
theorem wdE_9 : pX11_word (115 : Int32) (104 : Int32) (97 : Int32) (114 : Int32) (112 : Int32) (0 : Int32) (0 : Int32) = some (10256074 : Int64) := by decide +kernel
theorem gxc_9 {X : Option gS} : gx (9 : Int32) 23 X = X := if_neg (by decide)
theorem clc_9 : (9 : Int32).toNatClampNeg = 9 := by decide
theorem wdE_10 : pX11_word (107 : Int32) (110 : Int32) (111 : Int32) (119 : Int32) (110 : Int32) (0 : Int32) (0 : Int32) = some (6132983 : Int64) := by decide +kernel
theorem gxc_10 {X : Option gS} : gx (10 : Int32) 23 X = X := if_neg (by decide)
theorem clc_10 : (10 : Int32).toNatClampNeg = 10 := by decide
theorem wdE_11 : pX11_word (97 : Int32) (103 : Int32) (101 : Int32) (0 : Int32) (0 : Int32) (0 : Int32) (0 : Int32) = some (923 : Int64) := by decide +kernel
theorem gxc_11 {X : Option gS} : gx (11 : Int32) 23 X = X := if_neg (by decide)
theorem clc_11 : (11 : Int32).toNatClampNeg = 11 := by decide
theorem wdE_12 : pX11_word (119 : Int32) (114 : Int32) (111 : Int32) (110 : Int32) (103 : Int32) (0 : Int32) (0 : Int32) = some (12588757 : Int64) := by decide +kernel
theorem gxc_12 {X : Option gS} : gx (12 : Int32) 23 X = X := if_neg (by decide)
theorem clc_12 : (12 : Int32).toNatClampNeg = 12 := by decide
theorem wdE_13 : pX11_word (111 : Int32) (114 : Int32) (0 : Int32) (0 : Int32) (0 : Int32) (0 : Int32) (0 : Int32) = some (423 : Int64) := by decide +kernel
theorem gxc_13 {X : Option gS} : gx (13 : Int32) 23 X = X := if_neg (by decide)
theorem clc_13 : (13 : Int32).toNatClampNeg = 13 := by decide
theorem wdE_14 : pX11_word (97 : Int32) (110 : Int32) (100 : Int32) (0 : Int32) (0 : Int32) (0 : Int32) (0 : Int32) = some (1111 : Int64) := by decide +kernel
theorem gxc_14 {X : Option gS} : gx (14 : Int32) 23 X = X := if_neg (by decide)
theorem clc_14 : (14 : Int32).toNatClampNeg = 14 := by decide
theorem wdE_15 : pX11_word (110 : Int32) (111 : Int32) (116 : Int32) (0 : Int32) (0 : Int32) (0 : Int32) (0 : Int32) = some (10631 : Int64) := by decide +kernel
theorem gxc_15 {X : Option gS} : gx (15 : Int32) 23 X = X := if_neg (by decide)
theorem clc_15 : (15 : Int32).toNatClampNeg = 15 := by decide
theorem wdE_16 : pX11_word (119 : Int32) (97 : Int32) (121 : Int32) (0 : Int32) (0 : Int32) (0 : Int32) (0 : Int32) = some (16819 : Int64) := by decide +kernel
theorem gxc_16 {X : Option gS} : gx (16 : Int32) 23 X = X := if_neg (by decide)
theorem clc_16 : (16 : Int32).toNatClampNeg = 16 := by decide
theorem wdE_17 : pX11_word (109 : Int32) (105 : Int32) (110 : Int32) (117 : Int32) (116 : Int32) (101 : Int32) (0 : Int32) = some (191610176 : Int64) := by decide +kernel
theorem gxc_17 {X : Option gS} : gx (17 : Int32) 23 X = X := if_neg (by decide)
theorem clc_17 : (17 : Int32).toNatClampNeg = 17 := by decide
theorem wdE_18 : pX11_word (109 : Int32) (111 : Int32) (110 : Int32) (116 : Int32) (104 : Int32) (0 : Int32) (0 : Int32) = some (7214732 : Int64) := by decide +kernel
theorem gxc_18 {X : Option gS} : gx (18 : Int32) 23 X = X := if_neg (by decide)
theorem clc_18 : (18 : Int32).toNatClampNeg = 18 := by decide
theorem wdE_19 : pX11_word (121 : Int32) (101 : Int32) (97 : Int32) (114 : Int32) (115 : Int32) (0 : Int32) (0 : Int32) = some (13385674 : Int64) := by decide +kernel
theorem gxc_19 {X : Option gS} : gx (19 : Int32) 23 X = X := if_neg (by decide)
theorem clc_19 : (19 : Int32).toNatClampNeg = 19 := by decide
theorem wdE_20 : pX11_word (99 : Int32) (111 : Int32) (97 : Int32) (116 : Int32) (0 : Int32) (0 : Int32) (0 : Int32) = some (70031 : Int64) := by decide +kernel
theorem gxc_20 {X : Option gS} : gx (20 : Int32) 23 X = X := if_neg (by decide)
theorem clc_20 : (20 : Int32).toNatClampNeg = 20 := by decide
theorem wdE_21 : pX11_word (116 : Int32) (114 : Int32) (117 : Int32) (101 : Int32) (0 : Int32) (0 : Int32) (0 : Int32) = some (407354 : Int64) := by decide +kernel
theorem gxc_21 {X : Option gS} : gx (21 : Int32) 23 X = X := if_neg (by decide)
theorem clc_21 : (21 : Int32).toNatClampNeg = 21 := by decide
theorem wdE_22 : pX11_word (102 : Int32) (97 : Int32) (108 : Int32) (115 : Int32) (101 : Int32) (0 : Int32) (0 : Int32) = some (3217595 : Int64) := by decide +kernel
theorem gxc_22 {X : Option gS} : gx (22 : Int32) 23 X = X := if_neg (by decide)
theorem clc_22 : (22 : Int32).toNatClampNeg = 22 := by decide
theorem tX11_eq (σ : gS) : tX11 σ = some (wL (wL (wL (wL (wL (wL (wL (wL (wL (wL (wL (wL (wL (wL (wL (wL (wL (wL (wL (wL (wL (wL (wL (σ) 7 0 (380741 : Int64)) 7 1 (249 : Int64)) 7 2 (13903 : Int64)) 7 3 (50717 : Int64)) 7 4 (458690 : Int64)) 7 5 (8798 : Int64)) 7 6 (1065 : Int64)) 7 7 (223456 : Int64)) 7 8 (15216 : Int64)) 7 9 (10256074 : Int64)) 7 10 (6132983 : Int64)) 7 11 (923 : Int64)) 7 12 (12588757 : Int64)) 7 13 (423 : Int64)) 7 14 (1111 : Int64)) 7 15 (10631 : Int64)) 7 16 (16819 : Int64)) 7 17 (191610176 : Int64)) 7 18 (7214732 : Int64)) 7 19 (13385674 : Int64)) 7 20 (70031 : Int64)) 7 21 (407354 : Int64)) 7 22 (3217595 : Int64)) := by
  unfold tX11
  simp only [wdE_0, gxc_0, clc_0, wdE_1, gxc_1, clc_1, wdE_2, gxc_2, clc_2, wdE_3, gxc_3, clc_3, wdE_4, gxc_4, clc_4, wdE_5, gxc_5, clc_5, wdE_6, gxc_6, clc_6, wdE_7, gxc_7, clc_7, wdE_8, gxc_8, clc_8, wdE_9, gxc_9, clc_9, wdE_10, gxc_10, clc_10, wdE_11, gxc_11, clc_11, wdE_12, gxc_12, clc_12, wdE_13, gxc_13, clc_13, wdE_14, gxc_14, clc_14, wdE_15, gxc_15, clc_15, wdE_16, gxc_16, clc_16, wdE_17, gxc_17, clc_17, wdE_18, gxc_18, clc_18, wdE_19, gxc_19, clc_19, wdE_20, gxc_20, clc_20, wdE_21, gxc_21, clc_21, wdE_22, gxc_22, clc_22, bn1_s, lt_b]
noncomputable def zTX11 : gS := (tX11 zS1).getD zS1
theorem zTX11_hx : tX11 zS1 = some zTX11 := by unfold zTX11; rw [tX11_eq]; rfl
theorem zTX11_w : ∀ j, j < 23 → zTX11.2.1 7 j = wdR j := by
  intro j hj
  unfold zTX11
  rw [tX11_eq]
  show (wL _ 7 22 _).2.1 7 j = _
  simp only [wL_2, true_and]
  rcases (show j = 0 ∨ j = 1 ∨ j = 2 ∨ j = 3 ∨ j = 4 ∨ j = 5 ∨ j = 6 ∨ j = 7 ∨ j = 8 ∨ j = 9 ∨ j = 10 ∨ j = 11 ∨ j = 12 ∨ j = 13 ∨ j = 14 ∨ j = 15 ∨ j = 16 ∨ j = 17 ∨ j = 18 ∨ j = 19 ∨ j = 20 ∨ j = 21 ∨ j = 22 by omega) with rfl | rfl | rfl | rfl | rfl | rfl | rfl | rfl | rfl | rfl | rfl | rfl | rfl | rfl | rfl | rfl | rfl | rfl | rfl | rfl | rfl | rfl | rfl <;> rfl
theorem zTX11_s : same [7] zS1 zTX11 := by
  unfold zTX11
  rw [tX11_eq]
  show same [7] zS1 (wL _ 7 22 _)
  exact same_tr (same_tr (same_tr (same_tr (same_tr (same_tr (same_tr (same_tr (same_tr (same_tr (same_tr (same_tr (same_tr (same_tr (same_tr (same_tr (same_tr (same_tr (same_tr (same_tr (same_tr (same_tr (same_tr (same_rf) (same_wL List.mem_cons_self)) (same_wL List.mem_cons_self)) (same_wL List.mem_cons_self)) (same_wL List.mem_cons_self)) (same_wL List.mem_cons_self)) (same_wL List.mem_cons_self)) (same_wL List.mem_cons_self)) (same_wL List.mem_cons_self)) (same_wL List.mem_cons_self)) (same_wL List.mem_cons_self)) (same_wL List.mem_cons_self)) (same_wL List.mem_cons_self)) (same_wL List.mem_cons_self)) (same_wL List.mem_cons_self)) (same_wL List.mem_cons_self)) (same_wL List.mem_cons_self)) (same_wL List.mem_cons_self)) (same_wL List.mem_cons_self)) (same_wL List.mem_cons_self)) (same_wL List.mem_cons_self)) (same_wL List.mem_cons_self)) (same_wL List.mem_cons_self)) (same_wL List.mem_cons_self)
def tkL (k : Nat) : Int64 := ([0, 19, 522, 14101, 380741, 0, 9, 249, 0, 19, 514, 13903, 0, 2, 69, 1878, 50717, 0, 23, 629, 16988, 458690, 0, 12, 325, 8798, 0, 15, 423, 0, 1, 41, 1111, 0, 14, 393, 10631, 0, 23, 622, 16819, 0, 13, 360, 9734, 262839, 7096673, 191610176, 0, 13, 366, 9896, 267212, 7214732, 0, 25, 680, 18361, 495765, 13385674, 0, 3, 96, 2593, 70031, 0, 20, 558, 15087, 407354, 0, 6, 163, 4413, 119170, 3217595, 0, 1, 39, 1065, 0, 11, 306, 8276, 223456, 0, 20, 563, 15216, 0, 19, 521, 14068, 379854, 10256074, 0, 11, 311, 8412, 227147, 6132983, 0, 1, 34, 923, 0, 23, 639, 17268, 466250, 12588757, 0] : List Int64).getD k 0
def tkW (k : Nat) : Nat := ([0, 0, 0, 0, 0, 1, 1, 1, 2, 2, 2, 2, 3, 3, 3, 3, 3, 4, 4, 4, 4, 4, 5, 5, 5, 5, 6, 6, 6, 7, 7, 7, 7, 8, 8, 8, 8, 9, 9, 9, 9, 10, 10, 10, 10, 10, 10, 10, 11, 11, 11, 11, 11, 11, 12, 12, 12, 12, 12, 12, 13, 13, 13, 13, 13, 14, 14, 14, 14, 14, 15, 15, 15, 15, 15, 15, 16, 16, 16, 16, 17, 17, 17, 17, 17, 18, 18, 18, 18, 19, 19, 19, 19, 19, 19, 20, 20, 20, 20, 20, 20, 21, 21, 21, 21, 22, 22, 22, 22, 22, 22, 23] : List Nat).getD k 0
theorem tk_ch : ∀ k, k < 111 → pJ0_charAt_5068e (nI k) = some (gBY k) := by decide +kernel
theorem tk_len : pJ0_length_8abf5 = some (111 : Int32) := by decide +kernel
theorem tk_st : ∀ k, k < 111 → (if gBY k = 32 then tkL (k + 1) = 0 ∧ tkW (k + 1) = tkW k + 1 ∧ wdC (tkW k) = tkL k ∧ tkW k < 23 else tkW (k + 1) = tkW k ∧ pX8_withLetter (tkL k) (gBY k) = some (tkL (k + 1))) := by decide +kernel
def tkS (σ : gS) (k : Nat) : gS := (σ.1, fun o => if o = 4 then (fun j => if j < tkW k then wdC j else σ.2.1 4 j) else σ.2.1 o, σ.2.2)
theorem tkS_0 (σ : gS) : tkS σ 0 = σ := by
  have h0 : tkW 0 = 0 := rfl
  unfold tkS
  rw [h0]
  refine Prod.ext rfl (Prod.ext ?_ rfl)
  funext o
  by_cases h : o = 4
  · subst h; simp
  · simp [h]
theorem tkS_s (σ : gS) {k : Nat} (h : tkW (k + 1) = tkW k + 1) : wL (tkS σ k) 4 (tkW k) (wdC (tkW k)) = tkS σ (k + 1) := by
  unfold tkS wL vp_updL
  rw [h]
  refine Prod.ext rfl (Prod.ext ?_ rfl)
  funext o
  by_cases h4 : o = 4
  · subst h4
    simp only [if_true]
    funext j
    by_cases h1 : j = tkW k
    · subst h1; simp
    · by_cases h2 : j < tkW k
      · have h3 : j < tkW k + 1 := by omega
        simp [h1, h2, h3]
      · have h3 : ¬ j < tkW k + 1 := by omega
        simp [h1, h2, h3]
  · simp [h4]
theorem tkS_e (σ : gS) {k : Nat} (h : tkW (k + 1) = tkW k) : tkS σ k = tkS σ (k + 1) := by unfold tkS; rw [h]
theorem tX8_eq (σ : gS) : tX8 σ = some (tkS σ 111) := by
  unfold tX8
  have key := lp_seq (f := fun (z2 : (Int32 × Int64 × Int32 × gS)) => bn1 (pJ0_length_8abf5) (fun v3 => if v3 ≤ z2.1 then some (.inr z2.2.2.2) else bn1 (pJ0_charAt_5068e z2.1) (fun v5 => if v5 = (32 : Int32) then if (23 : Int32) ≤ z2.2.2.1 then lt' (z2.1 + (1 : Int32)) (fun x7 => some (.inl (x7, z2.2.1, z2.2.2.1, z2.2.2.2))) else gx z2.2.2.1 23 (lt' (wL z2.2.2.2 4 z2.2.2.1.toNatClampNeg z2.2.1) (fun s8 => lt' (z2.2.2.1 + (1 : Int32)) (fun x9 => lt' (z2.1 + (1 : Int32)) (fun x10 => some (.inl (x10, (0 : Int64), x9, s8)))))) else bn1 (pX8_withLetter z2.2.1 v5) (fun v11 => lt' (z2.1 + (1 : Int32)) (fun x13 => some (.inl (x13, v11, z2.2.2.1, z2.2.2.2)))))))
    (fun k => (nI k, tkL k, nI (tkW k), tkS σ k)) 111 (r := tkS σ 111) ?_ ?_
  · have h0 : ((0 : Int32), (0 : Int64), (0 : Int32), σ) = (nI 0, tkL 0, nI (tkW 0), tkS σ 0) := by rw [tkS_0]; rfl
    rw [h0]
    rw [show lpP _ (nI 0, tkL 0, nI (tkW 0), tkS σ 0) = some (tkS σ 111) from key]
    rfl
  · intro k hk
    have h1 := tk_st k hk
    have h2 : ¬ (111 : Int32) ≤ nI k := nI_ge (b := 111) hk (by decide)
    dsimp only
    rw [tk_len, bn1_s, if_neg h2, tk_ch k hk, bn1_s]
    by_cases hc : gBY k = 32
    · rw [if_pos hc] at h1 ⊢
      obtain ⟨a1, a2, a3, a4⟩ := h1
      have h3 : ¬ (23 : Int32) ≤ nI (tkW k) := nI_ge (b := 23) a4 (by decide)
      rw [if_neg h3, gx_i a4 (by decide), lt_b, lt_b, lt_b, nI_clamp (by omega), ← a3, tkS_s σ a2, nI_1, nI_1, a1, a2]
    · rw [if_neg hc] at h1 ⊢
      obtain ⟨a1, a2⟩ := h1
      rw [a2, bn1_s, lt_b, nI_1, tkS_e σ a1, a1]
  · dsimp only
    rw [tk_len, bn1_s, if_pos (show (111 : Int32) ≤ nI 111 from by decide)]
noncomputable def zTX8 : gS := tkS zS0 111
theorem zTX8_hx : tX8 zS0 = some zTX8 := tX8_eq zS0
theorem zTX8_w : ∀ j, j < 23 → zTX8.2.1 4 j = wdC j := by
  intro j hj
  show (if j < tkW 111 then wdC j else _) = _
  rw [if_pos (show j < tkW 111 from hj)]
/-- ways to take k of n -/
def pc : Nat → Nat → Nat
  | _, 0 => 1
  | 0, _ + 1 => 0
  | n + 1, k + 1 => pc n k + pc n (k + 1)
theorem pc_0 (n : Nat) : pc n 0 = 1 := by cases n <;> rfl
theorem pc_s (n k : Nat) : pc (n + 1) (k + 1) = pc n k + pc n (k + 1) := rfl
theorem pc_gt : ∀ n k, n < k → pc n k = 0
  | 0, 0, h => absurd h (Nat.lt_irrefl 0)
  | 0, k + 1, _ => rfl
  | n + 1, 0, h => absurd h (Nat.not_lt_zero _)
  | n + 1, k + 1, h => by rw [pc_s, pc_gt n k (by omega), pc_gt n (k + 1) (by omega)]
def tkI (n k : Nat) (σ : gS) : Prop := same [1] zS0 σ ∧ ∀ m j, m ≤ 20 → j ≤ 20 → σ.2.1 1 (m * 21 + j) = if m < n ∨ (m = n ∧ j < k) then lN (pc m j) else 0
theorem tkI_w {n k : Nat} {σ : gS} (h : tkI n k σ) (hn : n ≤ 20) (hk : k ≤ 20) : tkI n (k + 1) (wL σ 1 (n * 21 + k) (lN (pc n k))) := by
  refine ⟨same_tr h.1 (same_wL List.mem_cons_self), fun m j hm hj => ?_⟩
  rw [wL_2]
  by_cases hc : m * 21 + j = n * 21 + k
  · have h1 : m = n := by omega
    have h2 : j = k := by omega
    subst h1; subst h2
    rw [if_pos ⟨rfl, rfl⟩, if_pos (Or.inr ⟨rfl, by omega⟩)]
  · rw [if_neg (fun q => hc q.2), h.2 m j hm hj]
    by_cases h3 : m < n ∨ (m = n ∧ j < k)
    · rw [if_pos h3, if_pos (by omega)]
    · rw [if_neg h3, if_neg (by omega)]
theorem tX0_ok : ∃ τ, tX0 zS0 = some τ ∧ tkI 21 0 τ := by
  unfold tX0
  suffices hs : ∃ r, lpP _ ((0 : Int32), zS0) = some r ∧ tkI 21 0 r by
    obtain ⟨r, h1, h2⟩ := hs
    exact ⟨r, by rw [h1]; rfl, h2⟩
  refine lp_cnt (fun n (z : Int32 × gS) => z.1 = nI n ∧ tkI n 0 z.2) 21 ?_ ?_ (k := 0) (Nat.zero_le _) ⟨rfl, same_rf, fun m j hm hj => ?_⟩
  · rintro n ⟨i, σ⟩ hn ⟨rfl, hI⟩
    dsimp only at hI ⊢
    have e21 : (21 : Int32) = nI 21 := rfl
    have e1 : (1 : Int32) = nI 1 := rfl
    have eL : (1 : Int64) = lN (pc n 0) := by rw [pc_0]; rfl
    rw [e21, if_neg (nI_ge hn (by omega)), pk_mul, gx_i (by omega) (by omega), lt_b, nI_clamp (by omega), eL]
    suffices hs : ∃ r, lpP (fun (z5 : (Int32 × gS)) => if nI n < z5.1 then some (.inr z5.2) else gx ((((nI n - (1 : Int32)) * nI 21) + z5.1) - (1 : Int32)) 441 (gx (((nI n - (1 : Int32)) * nI 21) + z5.1) 441 (gx (nI (n * 21) + z5.1) 441 (lt' (wL z5.2 1 (nI (n * 21) + z5.1).toNatClampNeg ((z5.2.2.1 1 ((((nI n - (1 : Int32)) * nI 21) + z5.1) - (1 : Int32)).toNatClampNeg) + (z5.2.2.1 1 (((nI n - (1 : Int32)) * nI 21) + z5.1).toNatClampNeg))) (fun s6 => lt' (z5.1 + (1 : Int32)) (fun x7 => some (.inl (x7, s6)))))))) ((1 : Int32), wL σ 1 (n * 21) (lN (pc n 0))) = some r ∧ tkI n (n + 1) r by
      obtain ⟨r, h1, h2⟩ := hs
      refine ⟨(nI (n + 1), r), by rw [h1, bn1_s, lt_b, e1, nI_add], rfl, h2.1, fun m j hm hj => ?_⟩
      rw [h2.2 m j hm hj]
      by_cases h3 : m < n ∨ (m = n ∧ j < n + 1)
      · rw [if_pos h3, if_pos (by omega)]
      · rw [if_neg h3]
        by_cases h4 : m = n
        · subst h4
          rw [if_pos (by omega), pc_gt m j (by omega)]
          rfl
        · rw [if_neg (by omega)]
    refine lp_cnt (fun k (z : Int32 × gS) => 1 ≤ k ∧ z.1 = nI k ∧ tkI n k z.2) (n + 1) ?_ ?_ (k := 1) (by omega) ⟨Nat.le_refl _, rfl, tkI_w (k := 0) hI (by omega) (by omega)⟩
    · rintro k ⟨j, τ⟩ hk ⟨h1, rfl, hJ⟩
      dsimp only at hJ ⊢
      rw [if_neg (nI_nlt (by omega) (by omega)), e1, pk_sub (by omega), pk_mul, nI_add, nI_add, pk_sub (by omega), gx_i (by omega) (by omega), gx_i (by omega) (by omega), gx_i (by omega) (by omega), lt_b, lt_b, nI_clamp (by omega), nI_clamp (by omega), nI_clamp (by omega), nI_add]
      have a1 := hJ.2 (n - 1) (k - 1) (by omega) (by omega)
      have a2 := hJ.2 (n - 1) k (by omega) (by omega)
      rw [if_pos (by omega)] at a1 a2
      rw [show (n - 1) * 21 + k - 1 = (n - 1) * 21 + (k - 1) by omega, a1, a2, lN_add]
      have h5 : pc (n - 1) (k - 1) + pc (n - 1) k = pc n k := by
        obtain ⟨n', rfl⟩ : ∃ n', n = n' + 1 := ⟨n - 1, by omega⟩
        obtain ⟨k', rfl⟩ : ∃ k', k = k' + 1 := ⟨k - 1, by omega⟩
        rfl
      rw [h5]
      exact ⟨_, rfl, by omega, rfl, tkI_w hJ (by omega) (by omega)⟩
    · rintro ⟨j, τ⟩ ⟨h1, rfl, hJ⟩
      dsimp only at hJ ⊢
      rw [if_pos (nI_lt (by omega) (by omega))]
      exact ⟨_, rfl, hJ⟩
  · rintro ⟨i, σ⟩ ⟨rfl, hI⟩
    dsimp only at hI ⊢
    rw [if_pos (show (21 : Int32) ≤ nI 21 by decide)]
    exact ⟨_, rfl, hI⟩
  · rw [if_neg (by omega)]
    rfl
noncomputable def zTX0 : gS := (tX0 zS0).getD zS0
theorem zTX0_hx : tX0 zS0 = some zTX0 := by
  obtain ⟨τ, h, -⟩ := tX0_ok
  unfold zTX0
  rw [h]; rfl
theorem zTX0_I : tkI 21 0 zTX0 := by
  obtain ⟨τ, h, h2⟩ := tX0_ok
  unfold zTX0
  rw [h]; exact h2
