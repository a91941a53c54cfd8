noncomputable def pJ0_length_8abf5  : Option (Int32) := bn1 (pJ0_coder_7d493) (fun v1 => some ((111 : Int32) >>> (v1 &&& (31 : Int32))))
set_option maxRecDepth 100000 in
theorem cn_J0_length_8abf5 {G : gG} {b : Nat} {V : gV} {σ : gS} : CN V G b 2 yJ0_length_8abf5 cJ0_length_8abf5 1 (some .int) (kPI σ) [.ref G.2.2.2.1] σ (pJ0_length_8abf5) := by
  refine cn_ofF (own := RJ0) (by decide +kernel) rfl (Nat.le_of_ble_eq_true rfl) ?_
  show GF V G b (2, 0, 0) RJ0 cJ0_length_8abf5 1 (some .int) (kPI σ) 0 [(0, .ref G.2.2.2.1)] [] σ (pJ0_length_8abf5)
  unfold pJ0_length_8abf5
  refine g_aload_n (q := 1) 0 dJ0_length_8abf5_0 rfl rfl rfl ?_
  refine g_strV (q := 4) dJ0_length_8abf5_1 ww1670 rfl ?_
  refine g_strL (q := 5) dJ0_length_8abf5_4 rfl ?_
  refine g_aload_n (q := 6) 0 dJ0_length_8abf5_5 rfl rfl rfl ?_
  refine g_callS (As := []) (st := [.int (111 : Int32)]) (cn_J0_coder_7d493) rfl cwJ0_335 rfl dJ0_length_8abf5_6 rfl (Nat.le_of_ble_eq_true rfl) (by decide) (kk_PI (fun v1 => ?_))
  refine g_ishr (q := 10) dJ0_length_8abf5_9 rfl ?_
  exact (g_iretP dJ0_length_8abf5_10)
noncomputable def pJ0_isLatin1_aae02  : Option (Int32) := if (1 : Int32) = 0 then some (0 : Int32) else if (0 : Int32) = 0 then some (1 : Int32) else some (0 : Int32)
set_option maxRecDepth 100000 in
theorem cn_J0_isLatin1_aae02 {G : gG} {b : Nat} {V : gV} {σ : gS} : CN V G b 1 yJ0_isLatin1_aae02 cJ0_isLatin1_aae02 1 (some .boolean) (kPI σ) [.ref G.2.2.2.1] σ (pJ0_isLatin1_aae02) := by
  refine cn_ofF (own := RJ0) (by decide +kernel) rfl (Nat.le_of_ble_eq_true rfl) ?_
  show GF V G b (1, 0, 0) RJ0 cJ0_isLatin1_aae02 1 (some .boolean) (kPI σ) 0 [(0, .ref G.2.2.2.1)] [] σ (pJ0_isLatin1_aae02)
  unfold pJ0_isLatin1_aae02
  refine g_strZ (q := 3) dJ0_isLatin1_aae02_0 ww65 rfl ?_
  refine g_if_eq (t := 17) (q := 6) dJ0_isLatin1_aae02_3 (by decide) rfl ?_ ?_
  · refine g_iconst (q := 18) dJ0_isLatin1_aae02_17 kI_0 rfl ?_
    exact (g_bretP0 dJ0_isLatin1_aae02_18)
  · refine g_aload_n (q := 7) 0 dJ0_isLatin1_aae02_6 rfl rfl rfl ?_
    refine g_strC (q := 10) dJ0_isLatin1_aae02_7 ww1671 rfl ?_
    refine g_if_ne (t := 17) (q := 13) dJ0_isLatin1_aae02_10 (by decide) rfl ?_ ?_
    · refine g_iconst (q := 14) dJ0_isLatin1_aae02_13 kI_1 rfl ?_
      refine g_goto (t := 18) dJ0_isLatin1_aae02_14 (by decide) ?_
      exact (g_bretP1 dJ0_isLatin1_aae02_18)
    · refine g_iconst (q := 18) dJ0_isLatin1_aae02_17 kI_0 rfl ?_
      exact (g_bretP0 dJ0_isLatin1_aae02_18)
noncomputable def pJ1_charAt_3b067 (a2 : Int32) : Option (Int32) := bn1 (pJ0_checkIndex_df160 a2 (111 : Int32)) (fun _ => gx a2 111 (nrw .char ((((gBY a2.toNatClampNeg) &&& (255 : Int32)).toUInt32 % 65536).toInt32)))
set_option maxRecDepth 100000 in
theorem cn_J1_charAt_3b067 {G : gG} {b : Nat} {V : gV} {a2 : Int32} {σ : gS} : CN V G b 3 yJ1_charAt_3b067 cJ1_charAt_3b067 2 (some .char) (kPI σ) [.ref G.2.2.2.2.1, .int a2] σ (pJ1_charAt_3b067 a2) := by
  refine cn_ofF (own := RJ1) (by decide +kernel) rfl (Nat.le_of_ble_eq_true rfl) ?_
  show GF V G b (3, 0, 0) RJ1 cJ1_charAt_3b067 2 (some .char) (kPI σ) 0 [(0, .ref G.2.2.2.2.1), (1, .int a2)] [] σ (pJ1_charAt_3b067 a2)
  unfold pJ1_charAt_3b067
  refine g_iload_n (q := 1) 1 dJ1_charAt_3b067_0 rfl rfl rfl ?_
  refine g_aload_n (q := 2) 0 dJ1_charAt_3b067_1 rfl rfl rfl ?_
  refine g_strL (q := 3) dJ1_charAt_3b067_2 rfl ?_
  refine g_callT (As := [.int a2, .int (111 : Int32)]) (st := []) (cn_J0_checkIndex_df160) cwJ1_9 rfl dJ1_charAt_3b067_3 rfl (Nat.le_of_ble_eq_true rfl) (by decide) (kk_PV ?_)
  refine g_aload_n (q := 7) 0 dJ1_charAt_3b067_6 rfl rfl rfl ?_
  refine g_iload_n (q := 8) 1 dJ1_charAt_3b067_7 rfl rfl rfl ?_
  refine g_strB (q := 9) dJ1_charAt_3b067_8 rfl ?_
  refine g_sipush (q := 12) dJ1_charAt_3b067_9 kS_255 rfl ?_
  refine g_iand (q := 13) dJ1_charAt_3b067_12 rfl ?_
  refine g_i2c (q := 14) dJ1_charAt_3b067_13 rfl ?_
  exact g_nret dJ1_charAt_3b067_14
noncomputable def pJ0_charAt_5068e (a1 : Int32) : Option (Int32) := bn1 (pJ0_isLatin1_aae02) (fun v1 => if v1 = 0 then none else bn1 (pJ1_charAt_3b067 a1) (fun v3 => nrw .char v3))
set_option maxRecDepth 100000 in
theorem cn_J0_charAt_5068e {G : gG} {b : Nat} {V : gV} {a1 : Int32} {σ : gS} : CN V G b 4 yJ0_charAt_5068e cJ0_charAt_5068e 2 (some .char) (kPI σ) [.ref G.2.2.2.1, .int a1] σ (pJ0_charAt_5068e a1) := by
  refine cn_ofF (own := RJ0) (by decide +kernel) rfl (Nat.le_of_ble_eq_true rfl) ?_
  show GF V G b (4, 0, 0) RJ0 cJ0_charAt_5068e 2 (some .char) (kPI σ) 0 [(0, .ref G.2.2.2.1), (1, .int a1)] [] σ (pJ0_charAt_5068e a1)
  unfold pJ0_charAt_5068e
  refine g_aload_n (q := 1) 0 dJ0_charAt_5068e_0 rfl rfl rfl ?_
  refine g_callS (As := []) (st := []) (cn_J0_isLatin1_aae02) rfl cwJ0_492 rfl dJ0_charAt_5068e_1 rfl (Nat.le_of_ble_eq_true rfl) (by decide) (kk_PI (fun v1 => ?_))
  refine g_if_eq (t := 16) (q := 7) dJ0_charAt_5068e_4 (by decide) rfl ?_ ?_
  · refine g_aload_n (q := 17) 0 dJ0_charAt_5068e_16 rfl rfl rfl ?_
    refine g_strV (q := 20) dJ0_charAt_5068e_17 ww1670 rfl ?_
    refine g_iload_n (q := 21) 1 dJ0_charAt_5068e_20 rfl rfl rfl ?_
    exact g_none
  · refine g_aload_n (q := 8) 0 dJ0_charAt_5068e_7 rfl rfl rfl ?_
    refine g_strV (q := 11) dJ0_charAt_5068e_8 ww1670 rfl ?_
    refine g_iload_n (q := 12) 1 dJ0_charAt_5068e_11 rfl rfl rfl ?_
    refine g_callT (As := [.ref G.2.2.2.2.1, .int a1]) (st := []) (cn_J1_charAt_3b067) cwJ0_495 rfl dJ0_charAt_5068e_12 rfl (Nat.le_of_ble_eq_true rfl) (by decide) (kk_PI (fun v3 => ?_))
    exact g_nret dJ0_charAt_5068e_15
