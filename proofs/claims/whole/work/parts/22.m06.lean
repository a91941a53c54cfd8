noncomputable def pX10_chances (a1 : Int32) (a2 : Int32) (a3 : Int32) (σ : gS) : Option (Int64 × gS) := bn1 (pX10_isSign a1 σ) (fun v1 => if v1 = 0 then some ((-1 : Int64), σ) else bn1 (pX10_isSentence a2 σ) (fun v3 => if v3 = 0 then some ((-1 : Int64), σ) else bn1 (pX4_survey σ) (fun s6 => bn1 (pX4_fillTable a1 a2 s6) (fun s8 => if a3 = 0 then bn1 (pX0_allOf s8) (fun v9 => some (v9, s8)) else bn1 (pX0_moreOf s8) (fun v11 => some (v11, s8))))))
set_option maxRecDepth 100000 in
theorem cn_X10_chances {G : gG} {b : Nat} {a1 : Int32} {a2 : Int32} {a3 : Int32} {σ : gS} : CN vC G b 6 yX10_chances cX10_chances 4 (some .long) kL [.ref (b + 0), .int a1, .int a2, .int a3] σ (pX10_chances a1 a2 a3 σ) := by
  refine cn_of (own := RX10) rfl rfl (Nat.le_of_ble_eq_true rfl) ?_
  show GF vC G b (6, 0, 0) RX10 cX10_chances 4 (some .long) kL 0 [(0, .ref (b + 0)), (1, .int a1), (2, .int a2), (3, .int a3)] [] σ (pX10_chances a1 a2 a3 σ)
  unfold pX10_chances
  refine g_aload_n (q := 1) 0 dX10_chances_0 rfl rfl rfl ?_
  refine g_iload_n (q := 2) 1 dX10_chances_1 rfl rfl rfl ?_
  refine g_callO (As := [.int a1]) (st := []) (cn_X10_isSign) shX10 rfl cwX10_208 rfl dX10_chances_2 rfl (Nat.le_of_ble_eq_true rfl) (by decide) (kk_PI (fun v1 => ?_))
  refine g_if_eq (t := 16) (q := 8) dX10_chances_5 (by decide) rfl ?_ ?_
  · refine g_ldc2 (q := 19) dX10_chances_16 ww821 rfl ?_
    exact (g_lret dX10_chances_19)
  · refine g_aload_n (q := 9) 0 dX10_chances_8 rfl rfl rfl ?_
    refine g_iload_n (q := 10) 2 dX10_chances_9 rfl rfl rfl ?_
    refine g_callO (As := [.int a2]) (st := []) (cn_X10_isSentence) shX10 rfl cwX10_128 rfl dX10_chances_10 rfl (Nat.le_of_ble_eq_true rfl) (by decide) (kk_PI (fun v3 => ?_))
    refine g_if_ne (t := 20) (q := 16) dX10_chances_13 (by decide) rfl ?_ ?_
    · refine g_ldc2 (q := 19) dX10_chances_16 ww821 rfl ?_
      exact (g_lret dX10_chances_19)
    · refine g_aload_n (q := 21) 0 dX10_chances_20 rfl rfl rfl ?_
      refine g_getA (q := 24) fX10_sky dX10_chances_21 ww380 rfl ?_
      refine g_callO (As := []) (st := []) (cn_X4_survey) shX4 rfl cwX10_153 rfl dX10_chances_24 rfl (Nat.le_of_ble_eq_true rfl) (by decide) (kk_V (fun s6 => ?_))
      refine g_aload_n (q := 28) 0 dX10_chances_27 rfl rfl rfl ?_
      refine g_getA (q := 31) fX10_sky dX10_chances_28 ww380 rfl ?_
      refine g_aload_n (q := 32) 0 dX10_chances_31 rfl rfl rfl ?_
      refine g_getA (q := 35) fX10_tally dX10_chances_32 ww383 rfl ?_
      refine g_iload_n (q := 36) 1 dX10_chances_35 rfl rfl rfl ?_
      refine g_iload_n (q := 37) 2 dX10_chances_36 rfl rfl rfl ?_
      refine g_callO (As := [.ref (b + 50), .int a1, .int a2]) (st := []) (cn_X4_fillTable) shX4 rfl cwX10_211 rfl dX10_chances_37 rfl (Nat.le_of_ble_eq_true rfl) (by decide) (kk_V (fun s8 => ?_))
      refine g_iload_n (q := 41) 3 dX10_chances_40 rfl rfl rfl ?_
      refine g_if_eq (t := 58) (q := 44) dX10_chances_41 (by decide) rfl ?_ ?_
      · refine g_aload_n (q := 59) 0 dX10_chances_58 rfl rfl rfl ?_
        refine g_getA (q := 62) fX10_chance dX10_chances_59 ww382 rfl ?_
        refine g_aload_n (q := 63) 0 dX10_chances_62 rfl rfl rfl ?_
        refine g_getA (q := 66) fX10_tally dX10_chances_63 ww383 rfl ?_
        refine g_callO (As := [.ref (b + 50)]) (st := []) (cn_X0_allOf) shX0 rfl cwX10_222 rfl dX10_chances_66 rfl (Nat.le_of_ble_eq_true rfl) (by decide) (kk_PL (fun v9 => ?_))
        exact (g_lret dX10_chances_69)
      · refine g_aload_n (q := 45) 0 dX10_chances_44 rfl rfl rfl ?_
        refine g_getA (q := 48) fX10_chance dX10_chances_45 ww382 rfl ?_
        refine g_aload_n (q := 49) 0 dX10_chances_48 rfl rfl rfl ?_
        refine g_getA (q := 52) fX10_tally dX10_chances_49 ww383 rfl ?_
        refine g_callO (As := [.ref (b + 50)]) (st := []) (cn_X0_moreOf) shX0 rfl cwX10_218 rfl dX10_chances_52 rfl (Nat.le_of_ble_eq_true rfl) (by decide) (kk_PL (fun v11 => ?_))
        refine g_goto (t := 69) dX10_chances_55 (by decide) ?_
        exact (g_lret dX10_chances_69)
noncomputable def pX0_spreadFrom (a1 : Int32) (σ : gS) : Option (Int64) := bn1 (pX0_sumOf 48 21 a1 (20 : Int32) σ) (fun v1 => some (v1))
set_option maxRecDepth 100000 in
theorem cn_X0_spreadFrom {G : gG} {b : Nat} {a1 : Int32} {σ : gS} : CN vC G b 3 yX0_spreadFrom cX0_spreadFrom 2 (some .long) (kPL σ) [.ref (b + 44), .int a1] σ (pX0_spreadFrom a1 σ) := by
  refine cn_of (own := RX0) rfl rfl (Nat.le_of_ble_eq_true rfl) ?_
  show GF vC G b (3, 0, 0) RX0 cX0_spreadFrom 2 (some .long) (kPL σ) 0 [(0, .ref (b + 44)), (1, .int a1)] [] σ (pX0_spreadFrom a1 σ)
  unfold pX0_spreadFrom
  refine g_aload_n (q := 1) 0 dX0_spreadFrom_0 rfl rfl rfl ?_
  refine g_getA (q := 4) fX0_spread dX0_spreadFrom_1 ww338 rfl ?_
  refine g_iload_n (q := 5) 1 dX0_spreadFrom_4 rfl rfl rfl ?_
  refine g_bipush (q := 7) dX0_spreadFrom_5 kB_20 rfl ?_
  refine g_callT (As := [.ref (b + 48), .int a1, .int (20 : Int32)]) (st := []) (cn_X0_sumOf (aX0_spread)) cwX0_35 rfl dX0_spreadFrom_7 rfl (Nat.le_of_ble_eq_true rfl) (by decide) (kk_PL (fun v1 => ?_))
  exact (g_lretP dX0_spreadFrom_10)
noncomputable def pX0_startSpread (σ : gS) : Option (gS) := bn1 (pX0_startRow 48 21 σ) (fun s2 => some s2)
set_option maxRecDepth 100000 in
theorem cn_X0_startSpread {G : gG} {b : Nat}  {σ : gS} : CN vC G b 2 yX0_startSpread cX0_startSpread 1 none kV [.ref (b + 44)] σ (pX0_startSpread σ) := by
  refine cn_of (own := RX0) rfl rfl (Nat.le_of_ble_eq_true rfl) ?_
  show GF vC G b (2, 0, 0) RX0 cX0_startSpread 1 none kV 0 [(0, .ref (b + 44))] [] σ (pX0_startSpread σ)
  unfold pX0_startSpread
  refine g_aload_n (q := 1) 0 dX0_startSpread_0 rfl rfl rfl ?_
  refine g_getA (q := 4) fX0_spread dX0_startSpread_1 ww338 rfl ?_
  refine g_callT (As := [.ref (b + 48)]) (st := []) (cn_X0_startRow (aX0_spread)) cwX0_27 rfl dX0_startSpread_4 rfl (Nat.le_of_ble_eq_true rfl) (by decide) (kk_V (fun s2 => ?_))
  exact (g_vret dX0_startSpread_7)
noncomputable def pX0_widenSpread (σ : gS) : Option (gS) := bn1 (lpP (fun (z2 : (Int32 × gS)) => if (21 : Int32) ≤ z2.1 then some (.inr z2.2) else gx z2.1 21 (lt' (wL z2.2 49 z2.1.toNatClampNeg (0 : Int64)) (fun s3 => bn1 (lpP (fun (z5 : (Int32 × gS)) => if (z5.2.1 50 1) < z5.1 then some (.inr z5.2) else if z2.1 < z5.1 then some (.inr z5.2) else gx z2.1 21 (gx (z2.1 - z5.1) 21 (bn1 (pX0_takingJust z5.1 z5.2) (fun v6 => gx z2.1 21 (lt' (wL z5.2 49 z2.1.toNatClampNeg ((z5.2.2.1 49 z2.1.toNatClampNeg) + ((z5.2.2.1 48 (z2.1 - z5.1).toNatClampNeg) * v6))) (fun s8 => lt' (z5.1 + (1 : Int32)) (fun x9 => some (.inl (x9, s8))))))))) ((0 : Int32), s3)) (fun (z4 : gS) => lt' (z2.1 + (1 : Int32)) (fun x10 => some (.inl (x10, z4))))))) ((0 : Int32), σ)) (fun (z1 : gS) => cpL z1 49 21 (0 : Int32) 48 21 (0 : Int32) (21 : Int32) (fun s11 => some s11))
set_option maxRecDepth 100000 in
theorem cn_X0_widenSpread {G : gG} {b : Nat}  {σ : gS} : CN vC G b 4 yX0_widenSpread cX0_widenSpread 4 none kV [.ref (b + 44), .ref (b + 50)] σ (pX0_widenSpread σ) := by
  refine cn_of (own := RX0) rfl rfl (Nat.le_of_ble_eq_true rfl) ?_
  show GF vC G b (4, 0, 0) RX0 cX0_widenSpread 4 none kV 0 [(0, .ref (b + 44)), (1, .ref (b + 50))] [] σ (pX0_widenSpread σ)
  unfold pX0_widenSpread
  refine g_iconst (q := 1) dX0_widenSpread_0 kI_0 rfl ?_
  refine g_istore_n (lr := [(0, .ref (b + 44)), (1, .ref (b + 50))]) (q := 2) dX0_widenSpread_1 rfl (by decide) rfl rfl ?_
  refine g_bind (S := gS) (hd := 66) (lvf := fun z1 => [(0, .ref (b + 44))]) (stf := fun z1 => []) (σf := fun z1 => z1) ?_ (fun z1 => ?_)
  · refine g_loop (S := (Int32 × gS)) (lvf := fun z2 => [(2, .int z2.1), (0, .ref (b + 44)), (1, .ref (b + 50))]) (σf := fun z2 => z2.2) (fun z2 => ?_) ((0 : Int32), σ)
    refine g_iload_n (q := 3) 0 dX0_widenSpread_2 rfl rfl rfl ?_
    refine g_bipush (q := 5) dX0_widenSpread_3 kB_21 rfl ?_
    refine g_icmp_ge (t := 66) (q := 8) dX0_widenSpread_5 (by decide) rfl ?_ ?_
    · refine g_sub (lr := [(0, .ref (b + 44))]) [1] rfl ?_
      exact (g_leave (g_there (z2.2 : gS)))
    · refine g_aload_n (q := 9) 1 dX0_widenSpread_8 rfl rfl rfl ?_
      refine g_getA (q := 12) fX0_wider dX0_widenSpread_9 ww339 rfl ?_
      refine g_iload_n (q := 13) 0 dX0_widenSpread_12 rfl rfl rfl ?_
      refine g_lconst (q := 14) (v := (0 : Int64)) dX0_widenSpread_13 rfl rfl ?_
      refine g_last (q := 15) (aX0_wider) dX0_widenSpread_14 rfl (fun s3 => ?_)
      refine g_iconst (q := 16) dX0_widenSpread_15 kI_0 rfl ?_
      refine g_istore_n (lr := [(2, .int z2.1), (0, .ref (b + 44)), (1, .ref (b + 50))]) (q := 17) dX0_widenSpread_16 rfl (by decide) rfl rfl ?_
      refine g_bind (S := gS) (hd := 60) (lvf := fun z4 => [(2, .int z2.1), (0, .ref (b + 44)), (1, .ref (b + 50))]) (stf := fun z4 => []) (σf := fun z4 => z4) ?_ (fun z4 => ?_)
      · refine g_loop (S := (Int32 × gS)) (lvf := fun z5 => [(3, .int z5.1), (2, .int z2.1), (0, .ref (b + 44)), (1, .ref (b + 50))]) (σf := fun z5 => z5.2) (fun z5 => ?_) ((0 : Int32), s3)
        refine g_iload_n (q := 18) 0 dX0_widenSpread_17 rfl rfl rfl ?_
        refine g_aload_n (q := 19) 3 dX0_widenSpread_18 rfl rfl rfl ?_
        refine g_getI (q := 22) fX5_up dX0_widenSpread_19 ww360 rfl ?_
        refine g_icmp_gt (t := 60) (q := 25) dX0_widenSpread_22 (by decide) rfl ?_ ?_
        · refine g_sub (lr := [(2, .int z2.1), (0, .ref (b + 44)), (1, .ref (b + 50))]) [1, 2, 3] rfl ?_
          exact (g_leave (g_there (z5.2 : gS)))
        · refine g_iload_n (q := 26) 0 dX0_widenSpread_25 rfl rfl rfl ?_
          refine g_iload_n (q := 27) 1 dX0_widenSpread_26 rfl rfl rfl ?_
          refine g_icmp_gt (t := 60) (q := 30) dX0_widenSpread_27 (by decide) rfl ?_ ?_
          · refine g_sub (lr := [(2, .int z2.1), (0, .ref (b + 44)), (1, .ref (b + 50))]) [1, 2, 3] rfl ?_
            exact (g_leave (g_there (z5.2 : gS)))
          · refine g_aload_n (q := 31) 2 dX0_widenSpread_30 rfl rfl rfl ?_
            refine g_getA (q := 34) fX0_wider dX0_widenSpread_31 ww339 rfl ?_
            refine g_iload_n (q := 35) 1 dX0_widenSpread_34 rfl rfl rfl ?_
            refine g_dup2 (q := 36) dX0_widenSpread_35 rfl rfl rfl ?_
            refine g_lald (q := 37) (aX0_wider) dX0_widenSpread_36 rfl ?_
            refine g_aload_n (q := 38) 2 dX0_widenSpread_37 rfl rfl rfl ?_
            refine g_getA (q := 41) fX0_spread dX0_widenSpread_38 ww338 rfl ?_
            refine g_iload_n (q := 42) 1 dX0_widenSpread_41 rfl rfl rfl ?_
            refine g_iload_n (q := 43) 0 dX0_widenSpread_42 rfl rfl rfl ?_
            refine g_isub (q := 44) dX0_widenSpread_43 rfl ?_
            refine g_lald (q := 45) (aX0_spread) dX0_widenSpread_44 rfl ?_
            refine g_aload_n (q := 46) 2 dX0_widenSpread_45 rfl rfl rfl ?_
            refine g_aload_n (q := 47) 3 dX0_widenSpread_46 rfl rfl rfl ?_
            refine g_iload_n (q := 48) 0 dX0_widenSpread_47 rfl rfl rfl ?_
            refine g_callO (As := [.ref (b + 50), .int z5.1]) (st := [.long (z5.2.2.1 48 (z2.1 - z5.1).toNatClampNeg), .long (z5.2.2.1 49 z2.1.toNatClampNeg), .int z2.1, .ref (b + 49)]) (cn_X0_takingJust) shX0 rfl cwX0_59 rfl dX0_widenSpread_48 rfl (Nat.le_of_ble_eq_true rfl) (by decide) (kk_PL (fun v6 => ?_))
            refine g_lmul (q := 52) dX0_widenSpread_51 rfl ?_
            refine g_ladd (q := 53) dX0_widenSpread_52 rfl ?_
            refine g_last (q := 54) (aX0_wider) dX0_widenSpread_53 rfl (fun s8 => ?_)
            refine g_iinc (lr := [(2, .int z2.1), (0, .ref (b + 44)), (1, .ref (b + 50))]) (q := 57) 0 dX0_widenSpread_54 rfl kI_1 (by decide) rfl rfl (fun x9 => ?_)
            refine g_goto (t := 17) dX0_widenSpread_57 (by decide) ?_
            exact (g_again ((x9, s8) : (Int32 × gS)))
      · refine g_iinc (lr := [(0, .ref (b + 44)), (1, .ref (b + 50))]) (q := 63) 0 dX0_widenSpread_60 rfl kI_1 (by decide) rfl rfl (fun x10 => ?_)
        refine g_goto (t := 2) dX0_widenSpread_63 (by decide) ?_
        exact (g_again ((x10, z4) : (Int32 × gS)))
  · refine g_aload_n (q := 67) 0 dX0_widenSpread_66 rfl rfl rfl ?_
    refine g_getA (q := 70) fX0_wider dX0_widenSpread_67 ww339 rfl ?_
    refine g_iconst (q := 71) dX0_widenSpread_70 kI_0 rfl ?_
    refine g_aload_n (q := 72) 0 dX0_widenSpread_71 rfl rfl rfl ?_
    refine g_getA (q := 75) fX0_spread dX0_widenSpread_72 ww338 rfl ?_
    refine g_iconst (q := 76) dX0_widenSpread_75 kI_0 rfl ?_
    refine g_bipush (q := 78) dX0_widenSpread_76 kB_21 rfl ?_
    refine g_copy (q := 81) (aX0_wider) (aX0_spread) ww913 ww915 ww914 ww18 dX0_widenSpread_78 (by decide) (Nat.le_of_ble_eq_true rfl) rfl (fun s11 => ?_)
    exact (g_vret dX0_widenSpread_81)
noncomputable def pX2_classOf (a1 : Int32) (a2 : Int32) (σ : gS) : Option (Int32) := if a2 = 0 then bn1 (pX2_trait a1 (1 : Int32) σ) (fun v1 => g0 (3 : Int32) (some (v1 / (3 : Int32)))) else if a2 = (1 : Int32) then bn1 (pX2_trait a1 (2 : Int32) σ) (fun v3 => some (v3)) else bn1 (pX2_trait a1 (3 : Int32) σ) (fun v5 => some (v5))
set_option maxRecDepth 100000 in
theorem cn_X2_classOf {G : gG} {b : Nat} {a1 : Int32} {a2 : Int32} {σ : gS} : CN vC G b 3 yX2_classOf cX2_classOf 3 (some .int) (kPI σ) [.ref (b + 21), .int a1, .int a2] σ (pX2_classOf a1 a2 σ) := by
  refine cn_of (own := RX2) rfl rfl (Nat.le_of_ble_eq_true rfl) ?_
  show GF vC G b (3, 0, 0) RX2 cX2_classOf 3 (some .int) (kPI σ) 0 [(0, .ref (b + 21)), (1, .int a1), (2, .int a2)] [] σ (pX2_classOf a1 a2 σ)
  unfold pX2_classOf
  refine g_iload_n (q := 1) 2 dX2_classOf_0 rfl rfl rfl ?_
  refine g_if_ne (t := 13) (q := 4) dX2_classOf_1 (by decide) rfl ?_ ?_
  · refine g_aload_n (q := 5) 0 dX2_classOf_4 rfl rfl rfl ?_
    refine g_iload_n (q := 6) 1 dX2_classOf_5 rfl rfl rfl ?_
    refine g_iconst (q := 7) dX2_classOf_6 kI_1 rfl ?_
    refine g_callO (As := [.int a1, .int (1 : Int32)]) (st := []) (cn_X2_trait) shX2 rfl cwX2_34 rfl dX2_classOf_7 rfl (Nat.le_of_ble_eq_true rfl) (by decide) (kk_PI (fun v1 => ?_))
    refine g_iconst (q := 11) dX2_classOf_10 kI_3 rfl ?_
    refine g_idiv (q := 12) dX2_classOf_11 rfl ?_
    exact (g_iretP dX2_classOf_12)
  · refine g_aload_n (q := 14) 0 dX2_classOf_13 rfl rfl rfl ?_
    refine g_iload_n (q := 15) 1 dX2_classOf_14 rfl rfl rfl ?_
    refine g_iload_n (q := 16) 2 dX2_classOf_15 rfl rfl rfl ?_
    refine g_iconst (q := 17) dX2_classOf_16 kI_1 rfl ?_
    refine g_icmp_ne (t := 24) (q := 20) dX2_classOf_17 (by decide) rfl ?_ ?_
    · refine g_iconst (q := 21) dX2_classOf_20 kI_2 rfl ?_
      refine g_goto (t := 25) dX2_classOf_21 (by decide) ?_
      refine g_callO (As := [.int a1, .int (2 : Int32)]) (st := []) (cn_X2_trait) shX2 rfl cwX2_34 rfl dX2_classOf_25 rfl (Nat.le_of_ble_eq_true rfl) (by decide) (kk_PI (fun v3 => ?_))
      exact (g_iretP dX2_classOf_28)
    · refine g_iconst (q := 25) dX2_classOf_24 kI_3 rfl ?_
      refine g_callO (As := [.int a1, .int (3 : Int32)]) (st := []) (cn_X2_trait) shX2 rfl cwX2_34 rfl dX2_classOf_25 rfl (Nat.le_of_ble_eq_true rfl) (by decide) (kk_PI (fun v5 => ?_))
      exact (g_iretP dX2_classOf_28)
noncomputable def pX4_fillClassTable (a2 : Int32) (a3 : Int32) (a4 : Int32) (a5 : Int32) (σ : gS) : Option (gS) := bn1 (pX5_clear σ) (fun s2 => bn1 (lpP (fun (z4 : (Int32 × gS)) => if (z4.2.1 21 1) ≤ z4.1 then some (.inr z4.2) else bn1 (pX2_classOf z4.1 a4 z4.2) (fun v5 => if v5 = a5 then gx z4.1 20 (bn1 (pX10_bitOf (z4.2.1 36 z4.1.toNatClampNeg) a2) (fun v7 => gx z4.1 20 (bn1 (pX10_bitOf (z4.2.1 37 z4.1.toNatClampNeg) a3) (fun v9 => bn1 (pX5_addOne v7 v9 z4.2) (fun s12 => lt' (z4.1 + (1 : Int32)) (fun x13 => some (.inl (x13, s12)))))))) else lt' (z4.1 + (1 : Int32)) (fun x14 => some (.inl (x14, z4.2))))) ((0 : Int32), s2)) (fun (z3 : gS) => some z3))
set_option maxRecDepth 100000 in
theorem cn_X4_fillClassTable {G : gG} {b : Nat} {a2 : Int32} {a3 : Int32} {a4 : Int32} {a5 : Int32} {σ : gS} : CN vC G b 4 yX4_fillClassTable cX4_fillClassTable 7 none kV [.ref (b + 23), .ref (b + 50), .int a2, .int a3, .int a4, .int a5] σ (pX4_fillClassTable a2 a3 a4 a5 σ) := by
  refine cn_of (own := RX4) rfl rfl (Nat.le_of_ble_eq_true rfl) ?_
  show GF vC G b (4, 0, 0) RX4 cX4_fillClassTable 7 none kV 0 [(0, .ref (b + 23)), (1, .ref (b + 50)), (2, .int a2), (3, .int a3), (4, .int a4), (5, .int a5)] [] σ (pX4_fillClassTable a2 a3 a4 a5 σ)
  unfold pX4_fillClassTable
  refine g_aload_n (q := 1) 1 dX4_fillClassTable_0 rfl rfl rfl ?_
  refine g_callO (As := []) (st := []) (cn_X5_clear) shX5 rfl cwX4_99 rfl dX4_fillClassTable_1 rfl (Nat.le_of_ble_eq_true rfl) (by decide) (kk_V (fun s2 => ?_))
  refine g_iconst (q := 5) dX4_fillClassTable_4 kI_0 rfl ?_
  refine g_istore (lr := [(0, .ref (b + 23)), (1, .ref (b + 50)), (2, .int a2), (3, .int a3), (4, .int a4), (5, .int a5)]) (q := 7) dX4_fillClassTable_5 (by decide) rfl rfl ?_
  refine g_bind (S := gS) (hd := 67) (lvf := fun z3 => []) (stf := fun z3 => []) (σf := fun z3 => z3) ?_ (fun z3 => ?_)
  · refine g_loop (S := (Int32 × gS)) (lvf := fun z4 => [(6, .int z4.1), (0, .ref (b + 23)), (1, .ref (b + 50)), (2, .int a2), (3, .int a3), (4, .int a4), (5, .int a5)]) (σf := fun z4 => z4.2) (fun z4 => ?_) ((0 : Int32), s2)
    refine g_iload (q := 9) 0 dX4_fillClassTable_7 rfl rfl ?_
    refine g_aload_n (q := 10) 1 dX4_fillClassTable_9 rfl rfl rfl ?_
    refine g_getA (q := 13) fX4_people dX4_fillClassTable_10 ww284 rfl ?_
    refine g_getI (q := 16) fX2_size dX4_fillClassTable_13 ww250 rfl ?_
    refine g_icmp_ge (t := 67) (q := 19) dX4_fillClassTable_16 (by decide) rfl ?_ ?_
    · refine g_sub (lr := []) [] rfl ?_
      exact (g_leave (g_there (z4.2 : gS)))
    · refine g_aload_n (q := 20) 1 dX4_fillClassTable_19 rfl rfl rfl ?_
      refine g_getA (q := 23) fX4_people dX4_fillClassTable_20 ww284 rfl ?_
      refine g_iload (q := 25) 0 dX4_fillClassTable_23 rfl rfl ?_
      refine g_iload (q := 27) 5 dX4_fillClassTable_25 rfl rfl ?_
      refine g_callO (As := [.int z4.1, .int a4]) (st := []) (cn_X2_classOf) shX2 rfl cwX4_108 rfl dX4_fillClassTable_27 rfl (Nat.le_of_ble_eq_true rfl) (by decide) (kk_PI (fun v5 => ?_))
      refine g_iload (q := 32) 6 dX4_fillClassTable_30 rfl rfl ?_
      refine g_icmp_ne (t := 61) (q := 35) dX4_fillClassTable_32 (by decide) rfl ?_ ?_
      · refine g_aload_n (q := 36) 2 dX4_fillClassTable_35 rfl rfl rfl ?_
        refine g_aload_n (q := 37) 1 dX4_fillClassTable_36 rfl rfl rfl ?_
        refine g_getA (q := 40) fX4_ups dX4_fillClassTable_37 ww286 rfl ?_
        refine g_iload (q := 42) 0 dX4_fillClassTable_40 rfl rfl ?_
        refine g_iald (q := 43) (aX4_ups) dX4_fillClassTable_42 rfl ?_
        refine g_iload_n (q := 44) 3 dX4_fillClassTable_43 rfl rfl rfl ?_
        refine g_callN (As := [.int (z4.2.1 36 z4.1.toNatClampNeg), .int a2]) (st := [.ref (b + 50)]) (cn_X10_bitOf) cwX4_80 rfl dX4_fillClassTable_44 rfl (Nat.le_of_ble_eq_true rfl) (by decide) (kk_PI (fun v7 => ?_))
        refine g_aload_n (q := 48) 1 dX4_fillClassTable_47 rfl rfl rfl ?_
        refine g_getA (q := 51) fX4_truths dX4_fillClassTable_48 ww288 rfl ?_
        refine g_iload (q := 53) 0 dX4_fillClassTable_51 rfl rfl ?_
        refine g_iald (q := 54) (aX4_truths) dX4_fillClassTable_53 rfl ?_
        refine g_iload_n (q := 55) 4 dX4_fillClassTable_54 rfl rfl rfl ?_
        refine g_callN (As := [.int (z4.2.1 37 z4.1.toNatClampNeg), .int a3]) (st := [.int v7, .ref (b + 50)]) (cn_X10_bitOf) cwX4_80 rfl dX4_fillClassTable_55 rfl (Nat.le_of_ble_eq_true rfl) (by decide) (kk_PI (fun v9 => ?_))
        refine g_callO (As := [.int v7, .int v9]) (st := []) (cn_X5_addOne) shX5 rfl cwX4_104 rfl dX4_fillClassTable_58 rfl (Nat.le_of_ble_eq_true rfl) (by decide) (kk_V (fun s12 => ?_))
        refine g_iinc (lr := [(0, .ref (b + 23)), (1, .ref (b + 50)), (2, .int a2), (3, .int a3), (4, .int a4), (5, .int a5)]) (q := 64) 0 dX4_fillClassTable_61 rfl kI_1 (by decide) rfl rfl (fun x13 => ?_)
        refine g_goto (t := 7) dX4_fillClassTable_64 (by decide) ?_
        exact (g_again ((x13, s12) : (Int32 × gS)))
      · refine g_iinc (lr := [(0, .ref (b + 23)), (1, .ref (b + 50)), (2, .int a2), (3, .int a3), (4, .int a4), (5, .int a5)]) (q := 64) 0 dX4_fillClassTable_61 rfl kI_1 (by decide) rfl rfl (fun x14 => ?_)
        refine g_goto (t := 7) dX4_fillClassTable_64 (by decide) ?_
        exact (g_again ((x14, z4.2) : (Int32 × gS)))
  · exact (g_vret dX4_fillClassTable_67)
noncomputable def pX10_within (a1 : Int32) (a2 : Int32) (a3 : Int32) (a4 : Int32) (σ : gS) : Option (Int64 × gS) := bn1 (pX10_isSign a1 σ) (fun v1 => if v1 = 0 then some ((-1 : Int64), σ) else bn1 (pX10_isSentence a2 σ) (fun v3 => if v3 = 0 then some ((-1 : Int64), σ) else bn1 (pX10_inRange a3 (0 : Int32) (2 : Int32)) (fun v5 => if v5 = 0 then some ((-1 : Int64), σ) else bn1 (pX4_survey σ) (fun s8 => bn1 (pX4_fillTable a1 a2 s8) (fun s10 => bn1 (if a4 = 0 then some (0 : Int32) else some (s10.1 50 3)) (fun (z11 : Int32) => bn1 (pX0_startSpread s10) (fun s13 => bn1 (lpP (fun (z15 : (Int32 × gS)) => if (10 : Int32) ≤ z15.1 then some (.inr z15.2) else bn1 (pX4_fillClassTable a1 a2 a3 z15.1 z15.2) (fun s17 => bn1 (pX0_widenSpread s17) (fun s19 => lt' (z15.1 + (1 : Int32)) (fun x20 => some (.inl (x20, s19)))))) ((0 : Int32), s13)) (fun (z14 : gS) => bn1 (pX0_spreadFrom z11 z14) (fun v21 => some (v21, z14))))))))))
set_option maxRecDepth 100000 in
theorem cn_X10_within {G : gG} {b : Nat} {a1 : Int32} {a2 : Int32} {a3 : Int32} {a4 : Int32} {σ : gS} : CN vC G b 6 yX10_within cX10_within 7 (some .long) kL [.ref (b + 0), .int a1, .int a2, .int a3, .int a4] σ (pX10_within a1 a2 a3 a4 σ) := by
  refine cn_of (own := RX10) rfl rfl (Nat.le_of_ble_eq_true rfl) ?_
  show GF vC G b (6, 0, 0) RX10 cX10_within 7 (some .long) kL 0 [(0, .ref (b + 0)), (1, .int a1), (2, .int a2), (3, .int a3), (4, .int a4)] [] σ (pX10_within a1 a2 a3 a4 σ)
  unfold pX10_within
  refine g_aload_n (q := 1) 0 dX10_within_0 rfl rfl rfl ?_
  refine g_iload_n (q := 2) 1 dX10_within_1 rfl rfl rfl ?_
  refine g_callO (As := [.int a1]) (st := []) (cn_X10_isSign) shX10 rfl cwX10_208 rfl dX10_within_2 rfl (Nat.le_of_ble_eq_true rfl) (by decide) (kk_PI (fun v1 => ?_))
  refine g_if_eq (t := 25) (q := 8) dX10_within_5 (by decide) rfl ?_ ?_
  · refine g_ldc2 (q := 28) dX10_within_25 ww821 rfl ?_
    exact (g_lret dX10_within_28)
  · refine g_aload_n (q := 9) 0 dX10_within_8 rfl rfl rfl ?_
    refine g_iload_n (q := 10) 2 dX10_within_9 rfl rfl rfl ?_
    refine g_callO (As := [.int a2]) (st := []) (cn_X10_isSentence) shX10 rfl cwX10_128 rfl dX10_within_10 rfl (Nat.le_of_ble_eq_true rfl) (by decide) (kk_PI (fun v3 => ?_))
    refine g_if_eq (t := 25) (q := 16) dX10_within_13 (by decide) rfl ?_ ?_
    · refine g_ldc2 (q := 28) dX10_within_25 ww821 rfl ?_
      exact (g_lret dX10_within_28)
    · refine g_iload_n (q := 17) 3 dX10_within_16 rfl rfl rfl ?_
      refine g_iconst (q := 18) dX10_within_17 kI_0 rfl ?_
      refine g_iconst (q := 19) dX10_within_18 kI_2 rfl ?_
      refine g_callT (As := [.int a3, .int (0 : Int32), .int (2 : Int32)]) (st := []) (cn_X10_inRange) cwX10_88 rfl dX10_within_19 rfl (Nat.le_of_ble_eq_true rfl) (by decide) (kk_PI (fun v5 => ?_))
      refine g_if_ne (t := 29) (q := 25) dX10_within_22 (by decide) rfl ?_ ?_
      · refine g_ldc2 (q := 28) dX10_within_25 ww821 rfl ?_
        exact (g_lret dX10_within_28)
      · refine g_aload_n (q := 30) 0 dX10_within_29 rfl rfl rfl ?_
        refine g_getA (q := 33) fX10_sky dX10_within_30 ww380 rfl ?_
        refine g_callO (As := []) (st := []) (cn_X4_survey) shX4 rfl cwX10_153 rfl dX10_within_33 rfl (Nat.le_of_ble_eq_true rfl) (by decide) (kk_V (fun s8 => ?_))
        refine g_aload_n (q := 37) 0 dX10_within_36 rfl rfl rfl ?_
        refine g_getA (q := 40) fX10_sky dX10_within_37 ww380 rfl ?_
        refine g_aload_n (q := 41) 0 dX10_within_40 rfl rfl rfl ?_
        refine g_getA (q := 44) fX10_tally dX10_within_41 ww383 rfl ?_
        refine g_iload_n (q := 45) 1 dX10_within_44 rfl rfl rfl ?_
        refine g_iload_n (q := 46) 2 dX10_within_45 rfl rfl rfl ?_
        refine g_callO (As := [.ref (b + 50), .int a1, .int a2]) (st := []) (cn_X4_fillTable) shX4 rfl cwX10_211 rfl dX10_within_46 rfl (Nat.le_of_ble_eq_true rfl) (by decide) (kk_V (fun s10 => ?_))
        refine g_iload (q := 51) 4 dX10_within_49 rfl rfl ?_
        refine g_bind (S := Int32) (hd := 65) (lvf := fun z11 => [(0, .ref (b + 0)), (1, .int a1), (2, .int a2), (3, .int a3)]) (stf := fun z11 => [.int z11]) (σf := fun z11 => s10) ?_ (fun z11 => ?_)
        · refine g_if_eq (t := 64) (q := 54) dX10_within_51 (by decide) rfl ?_ ?_
          · refine g_iconst (q := 65) dX10_within_64 kI_0 rfl ?_
            refine g_sub (lr := [(0, .ref (b + 0)), (1, .int a1), (2, .int a2), (3, .int a3)]) [0, 1, 2, 3] rfl ?_
            exact (g_there ((0 : Int32) : Int32))
          · refine g_aload_n (q := 55) 0 dX10_within_54 rfl rfl rfl ?_
            refine g_getA (q := 58) fX10_tally dX10_within_55 ww383 rfl ?_
            refine g_getI (q := 61) fX5_both dX10_within_58 ww367 rfl ?_
            refine g_goto (t := 65) dX10_within_61 (by decide) ?_
            refine g_sub (lr := [(0, .ref (b + 0)), (1, .int a1), (2, .int a2), (3, .int a3)]) [0, 1, 2, 3] rfl ?_
            exact (g_there (s10.1 50 3 : Int32))
        · refine g_istore (lr := [(0, .ref (b + 0)), (1, .int a1), (2, .int a2), (3, .int a3)]) (q := 67) dX10_within_65 (by decide) rfl rfl ?_
          refine g_aload_n (q := 68) 1 dX10_within_67 rfl rfl rfl ?_
          refine g_getA (q := 71) fX10_chance dX10_within_68 ww382 rfl ?_
          refine g_callO (As := []) (st := []) (cn_X0_startSpread) shX0 rfl cwX10_228 rfl dX10_within_71 rfl (Nat.le_of_ble_eq_true rfl) (by decide) (kk_V (fun s13 => ?_))
          refine g_iconst (q := 75) dX10_within_74 kI_0 rfl ?_
          refine g_istore (lr := [(5, .int z11), (0, .ref (b + 0)), (1, .int a1), (2, .int a2), (3, .int a3)]) (q := 77) dX10_within_75 (by decide) rfl rfl ?_
          refine g_bind (S := gS) (hd := 117) (lvf := fun z14 => [(5, .int z11), (0, .ref (b + 0))]) (stf := fun z14 => []) (σf := fun z14 => z14) ?_ (fun z14 => ?_)
          · refine g_loop (S := (Int32 × gS)) (lvf := fun z15 => [(6, .int z15.1), (5, .int z11), (0, .ref (b + 0)), (1, .int a1), (2, .int a2), (3, .int a3)]) (σf := fun z15 => z15.2) (fun z15 => ?_) ((0 : Int32), s13)
            refine g_iload (q := 79) 0 dX10_within_77 rfl rfl ?_
            refine g_bipush (q := 81) dX10_within_79 kB_10 rfl ?_
            refine g_icmp_ge (t := 117) (q := 84) dX10_within_81 (by decide) rfl ?_ ?_
            · refine g_sub (lr := [(5, .int z11), (0, .ref (b + 0))]) [1, 2] rfl ?_
              exact (g_leave (g_there (z15.2 : gS)))
            · refine g_aload_n (q := 85) 2 dX10_within_84 rfl rfl rfl ?_
              refine g_getA (q := 88) fX10_sky dX10_within_85 ww380 rfl ?_
              refine g_aload_n (q := 89) 2 dX10_within_88 rfl rfl rfl ?_
              refine g_getA (q := 92) fX10_tally dX10_within_89 ww383 rfl ?_
              refine g_iload_n (q := 93) 3 dX10_within_92 rfl rfl rfl ?_
              refine g_iload_n (q := 94) 4 dX10_within_93 rfl rfl rfl ?_
              refine g_iload_n (q := 95) 5 dX10_within_94 rfl rfl rfl ?_
              refine g_iload (q := 97) 0 dX10_within_95 rfl rfl ?_
              refine g_callO (As := [.ref (b + 50), .int a1, .int a2, .int a3, .int z15.1]) (st := []) (cn_X4_fillClassTable) shX4 rfl cwX10_231 rfl dX10_within_97 rfl (Nat.le_of_ble_eq_true rfl) (by decide) (kk_V (fun s17 => ?_))
              refine g_aload_n (q := 101) 2 dX10_within_100 rfl rfl rfl ?_
              refine g_getA (q := 104) fX10_chance dX10_within_101 ww382 rfl ?_
              refine g_aload_n (q := 105) 2 dX10_within_104 rfl rfl rfl ?_
              refine g_getA (q := 108) fX10_tally dX10_within_105 ww383 rfl ?_
              refine g_callO (As := [.ref (b + 50)]) (st := []) (cn_X0_widenSpread) shX0 rfl cwX10_235 rfl dX10_within_108 rfl (Nat.le_of_ble_eq_true rfl) (by decide) (kk_V (fun s19 => ?_))
              refine g_iinc (lr := [(5, .int z11), (0, .ref (b + 0)), (1, .int a1), (2, .int a2), (3, .int a3)]) (q := 114) 0 dX10_within_111 rfl kI_1 (by decide) rfl rfl (fun x20 => ?_)
              refine g_goto (t := 77) dX10_within_114 (by decide) ?_
              exact (g_again ((x20, s19) : (Int32 × gS)))
          · refine g_aload_n (q := 118) 1 dX10_within_117 rfl rfl rfl ?_
            refine g_getA (q := 121) fX10_chance dX10_within_118 ww382 rfl ?_
            refine g_iload (q := 123) 0 dX10_within_121 rfl rfl ?_
            refine g_callO (As := [.int z11]) (st := []) (cn_X0_spreadFrom) shX0 rfl cwX10_239 rfl dX10_within_123 rfl (Nat.le_of_ble_eq_true rfl) (by decide) (kk_PL (fun v21 => ?_))
            exact (g_lret dX10_within_126)
noncomputable def pX10_striking (σ : gS) : Option (Int32 × gS) := bn1 (pX4_survey σ) (fun s2 => bn1 (lpP (fun (z4 : (Int32 × Int64 × Int64 × Int32 × gS)) => gT (z4.2.2.2.2.2.2 23 0) tR (fun rr5 => if (z4.2.2.2.2.1 rr5 0) ≤ z4.1 then some (.inr (z4.2.2.2.1, z4.2.2.2.2)) else bn1 (lpP (fun (z7 : (Int32 × Int64 × Int64 × Int32 × gS)) => gT (z7.2.2.2.2.2.2 23 0) tR (fun rr8 => if (z7.2.2.2.2.1 rr8 1) ≤ z7.1 then some (.inr (z7.2.2.2.1, z7.2.2.1, z7.2.1, z7.2.2.2.2)) else bn1 (pX4_fillTable z4.1 z7.1 z7.2.2.2.2) (fun s10 => bn1 (pX0_moreOf s10) (fun v11 => bn1 (pX0_allOf s10) (fun v13 => if z7.2.2.2.1 = (-1 : Int32) then lt' (((100 : Int32) * z4.1) + z7.1) (fun x15 => lt' (z7.1 + (1 : Int32)) (fun x16 => some (.inl (x16, v13, v11, x15, s10)))) else if 0 ≤ (lg_cmp (v11 * z7.2.1) (z7.2.2.1 * v13)) then lt' (z7.1 + (1 : Int32)) (fun x17 => some (.inl (x17, z7.2.1, z7.2.2.1, z7.2.2.2.1, s10))) else lt' (((100 : Int32) * z4.1) + z7.1) (fun x18 => lt' (z7.1 + (1 : Int32)) (fun x19 => some (.inl (x19, v13, v11, x18, s10))))))))) ((0 : Int32), z4.2.1, z4.2.2.1, z4.2.2.2.1, z4.2.2.2.2)) (fun (z6 : (Int32 × Int64 × Int64 × gS)) => lt' (z4.1 + (1 : Int32)) (fun x20 => some (.inl (x20, z6.2.2.1, z6.2.1, z6.1, z6.2.2.2)))))) ((0 : Int32), (0 : Int64), (0 : Int64), (-1 : Int32), s2)) (fun (z3 : (Int32 × gS)) => some (z3.1, z3.2)))
set_option maxRecDepth 100000 in
theorem cn_X10_striking {G : gG} {b : Nat}  {σ : gS} : CN vC G b 6 yX10_striking cX10_striking 12 (some .int) kI [.ref (b + 0)] σ (pX10_striking σ) := by
  refine cn_of (own := RX10) rfl rfl (Nat.le_of_ble_eq_true rfl) ?_
  show GF vC G b (6, 0, 0) RX10 cX10_striking 12 (some .int) kI 0 [(0, .ref (b + 0))] [] σ (pX10_striking σ)
  unfold pX10_striking
  refine g_aload_n (q := 1) 0 dX10_striking_0 rfl rfl rfl ?_
  refine g_getA (q := 4) fX10_sky dX10_striking_1 ww380 rfl ?_
  refine g_callO (As := []) (st := []) (cn_X4_survey) shX4 rfl cwX10_153 rfl dX10_striking_4 rfl (Nat.le_of_ble_eq_true rfl) (by decide) (kk_V (fun s2 => ?_))
  refine g_iconst (q := 8) dX10_striking_7 kI_m1 rfl ?_
  refine g_istore_n (lr := [(0, .ref (b + 0))]) (q := 9) dX10_striking_8 rfl (by decide) rfl rfl ?_
  refine g_lconst (q := 10) (v := (0 : Int64)) dX10_striking_9 rfl rfl ?_
  refine g_lstore_n (lr := [(1, .int (-1 : Int32)), (0, .ref (b + 0))]) (q := 11) dX10_striking_10 rfl (by decide) rfl rfl ?_
  refine g_lconst (q := 12) (v := (0 : Int64)) dX10_striking_11 rfl rfl ?_
  refine g_lstore (lr := [(2, .long (0 : Int64)), (1, .int (-1 : Int32)), (0, .ref (b + 0))]) (q := 14) dX10_striking_12 (by decide) rfl rfl ?_
  refine g_iconst (q := 15) dX10_striking_14 kI_0 rfl ?_
  refine g_istore (lr := [(4, .long (0 : Int64)), (2, .long (0 : Int64)), (1, .int (-1 : Int32)), (0, .ref (b + 0))]) (q := 17) dX10_striking_15 (by decide) rfl rfl ?_
  refine g_bind (S := (Int32 × gS)) (hd := 137) (lvf := fun z3 => [(1, .int z3.1)]) (stf := fun z3 => []) (σf := fun z3 => z3.2) ?_ (fun z3 => ?_)
  · refine g_loop (S := (Int32 × Int64 × Int64 × Int32 × gS)) (lvf := fun z4 => [(6, .int z4.1), (4, .long z4.2.1), (2, .long z4.2.2.1), (1, .int z4.2.2.2.1), (0, .ref (b + 0))]) (σf := fun z4 => z4.2.2.2.2) (fun z4 => ?_) ((0 : Int32), (0 : Int64), (0 : Int64), (-1 : Int32), s2)
    refine g_iload (q := 19) 0 dX10_striking_17 rfl rfl ?_
    refine g_aload_n (q := 20) 4 dX10_striking_19 rfl rfl rfl ?_
    refine g_getA (q := 23) fX10_sky dX10_striking_20 ww380 rfl ?_
    refine g_getR (cT := tR) (q := 26) fX4_told dX10_striking_23 ww283 rfl (fun rr5 hrr5 => ?_)
    refine g_getI (q := 29) (fX9_signs hrr5) dX10_striking_26 ww139 rfl ?_
    refine g_icmp_ge (t := 137) (q := 32) dX10_striking_29 (by decide) rfl ?_ ?_
    · refine g_sub (lr := [(1, .int z4.2.2.2.1)]) [3] rfl ?_
      exact (g_leave (g_there ((z4.2.2.2.1, z4.2.2.2.2) : (Int32 × gS))))
    · refine g_iconst (q := 33) dX10_striking_32 kI_0 rfl ?_
      refine g_istore (lr := [(6, .int z4.1), (4, .long z4.2.1), (2, .long z4.2.2.1), (1, .int z4.2.2.2.1), (0, .ref (b + 0))]) (q := 35) dX10_striking_33 (by decide) rfl rfl ?_
      refine g_bind (S := (Int32 × Int64 × Int64 × gS)) (hd := 131) (lvf := fun z6 => [(1, .int z6.1), (2, .long z6.2.1), (4, .long z6.2.2.1), (6, .int z4.1), (0, .ref (b + 0))]) (stf := fun z6 => []) (σf := fun z6 => z6.2.2.2) ?_ (fun z6 => ?_)
      · refine g_sub (lr := [(7, .int (0 : Int32)), (4, .long z4.2.1), (2, .long z4.2.2.1), (1, .int z4.2.2.2.1), (6, .int z4.1), (0, .ref (b + 0))]) [0, 2, 3, 4, 1, 5] rfl ?_
        refine g_loop (S := (Int32 × Int64 × Int64 × Int32 × gS)) (lvf := fun z7 => [(7, .int z7.1), (4, .long z7.2.1), (2, .long z7.2.2.1), (1, .int z7.2.2.2.1), (6, .int z4.1), (0, .ref (b + 0))]) (σf := fun z7 => z7.2.2.2.2) (fun z7 => ?_) ((0 : Int32), z4.2.1, z4.2.2.1, z4.2.2.2.1, z4.2.2.2.2)
        refine g_iload (q := 37) 0 dX10_striking_35 rfl rfl ?_
        refine g_aload_n (q := 38) 5 dX10_striking_37 rfl rfl rfl ?_
        refine g_getA (q := 41) fX10_sky dX10_striking_38 ww380 rfl ?_
        refine g_getR (cT := tR) (q := 44) fX4_told dX10_striking_41 ww283 rfl (fun rr8 hrr8 => ?_)
        refine g_getI (q := 47) (fX9_says hrr8) dX10_striking_44 ww143 rfl ?_
        refine g_icmp_ge (t := 131) (q := 50) dX10_striking_47 (by decide) rfl ?_ ?_
        · refine g_sub (lr := [(1, .int z7.2.2.2.1), (2, .long z7.2.2.1), (4, .long z7.2.1), (6, .int z4.1), (0, .ref (b + 0))]) [3, 2, 1, 4, 5] rfl ?_
          exact (g_leave (g_there ((z7.2.2.2.1, z7.2.2.1, z7.2.1, z7.2.2.2.2) : (Int32 × Int64 × Int64 × gS))))
        · refine g_aload_n (q := 51) 5 dX10_striking_50 rfl rfl rfl ?_
          refine g_getA (q := 54) fX10_sky dX10_striking_51 ww380 rfl ?_
          refine g_aload_n (q := 55) 5 dX10_striking_54 rfl rfl rfl ?_
          refine g_getA (q := 58) fX10_tally dX10_striking_55 ww383 rfl ?_
          refine g_iload (q := 60) 4 dX10_striking_58 rfl rfl ?_
          refine g_iload (q := 62) 0 dX10_striking_60 rfl rfl ?_
          refine g_callO (As := [.ref (b + 50), .int z4.1, .int z7.1]) (st := []) (cn_X4_fillTable) shX4 rfl cwX10_211 rfl dX10_striking_62 rfl (Nat.le_of_ble_eq_true rfl) (by decide) (kk_V (fun s10 => ?_))
          refine g_aload_n (q := 66) 5 dX10_striking_65 rfl rfl rfl ?_
          refine g_getA (q := 69) fX10_chance dX10_striking_66 ww382 rfl ?_
          refine g_aload_n (q := 70) 5 dX10_striking_69 rfl rfl rfl ?_
          refine g_getA (q := 73) fX10_tally dX10_striking_70 ww383 rfl ?_
          refine g_callO (As := [.ref (b + 50)]) (st := []) (cn_X0_moreOf) shX0 rfl cwX10_218 rfl dX10_striking_73 rfl (Nat.le_of_ble_eq_true rfl) (by decide) (kk_PL (fun v11 => ?_))
          refine g_lstore (lr := [(7, .int z7.1), (4, .long z7.2.1), (2, .long z7.2.2.1), (1, .int z7.2.2.2.1), (6, .int z4.1), (0, .ref (b + 0))]) (q := 78) dX10_striking_76 (by decide) rfl rfl ?_
          refine g_aload_n (q := 79) 6 dX10_striking_78 rfl rfl rfl ?_
          refine g_getA (q := 82) fX10_chance dX10_striking_79 ww382 rfl ?_
          refine g_aload_n (q := 83) 6 dX10_striking_82 rfl rfl rfl ?_
          refine g_getA (q := 86) fX10_tally dX10_striking_83 ww383 rfl ?_
          refine g_callO (As := [.ref (b + 50)]) (st := []) (cn_X0_allOf) shX0 rfl cwX10_222 rfl dX10_striking_86 rfl (Nat.le_of_ble_eq_true rfl) (by decide) (kk_PL (fun v13 => ?_))
          refine g_lstore (lr := [(8, .long v11), (7, .int z7.1), (4, .long z7.2.1), (2, .long z7.2.2.1), (1, .int z7.2.2.2.1), (6, .int z4.1), (0, .ref (b + 0))]) (q := 91) dX10_striking_89 (by decide) rfl rfl ?_
          refine g_iload_n (q := 92) 5 dX10_striking_91 rfl rfl rfl ?_
          refine g_iconst (q := 93) dX10_striking_92 kI_m1 rfl ?_
          refine g_icmp_eq (t := 109) (q := 96) dX10_striking_93 (by decide) rfl ?_ ?_
          · refine g_bipush (q := 111) dX10_striking_109 kB_100 rfl ?_
            refine g_iload (q := 113) 6 dX10_striking_111 rfl rfl ?_
            refine g_imul (q := 114) dX10_striking_113 rfl ?_
            refine g_iload (q := 116) 2 dX10_striking_114 rfl rfl ?_
            refine g_iadd (q := 117) dX10_striking_116 rfl ?_
            refine g_leti (fun x15 => ?_)
            refine g_istore_n (lr := [(10, .long v13), (8, .long v11), (7, .int z7.1), (4, .long z7.2.1), (2, .long z7.2.2.1), (6, .int z4.1), (0, .ref (b + 0))]) (q := 118) dX10_striking_117 rfl (by decide) rfl rfl ?_
            refine g_lload (q := 120) 2 dX10_striking_118 rfl rfl ?_
            refine g_lstore_n (lr := [(1, .int x15), (10, .long v13), (8, .long v11), (7, .int z7.1), (4, .long z7.2.1), (6, .int z4.1), (0, .ref (b + 0))]) (q := 121) dX10_striking_120 rfl (by decide) rfl rfl ?_
            refine g_lload (q := 123) 2 dX10_striking_121 rfl rfl ?_
            refine g_lstore (lr := [(2, .long v11), (1, .int x15), (10, .long v13), (8, .long v11), (7, .int z7.1), (6, .int z4.1), (0, .ref (b + 0))]) (q := 125) dX10_striking_123 (by decide) rfl rfl ?_
            refine g_iinc (lr := [(4, .long v13), (2, .long v11), (1, .int x15), (10, .long v13), (8, .long v11), (6, .int z4.1), (0, .ref (b + 0))]) (q := 128) 5 dX10_striking_125 rfl kI_1 (by decide) rfl rfl (fun x16 => ?_)
            refine g_goto (t := 35) dX10_striking_128 (by decide) ?_
            refine g_sub (lr := [(7, .int x16), (4, .long v13), (2, .long v11), (1, .int x15), (6, .int z4.1), (0, .ref (b + 0))]) [0, 1, 2, 3, 6, 7] rfl ?_
            exact (g_again ((x16, v13, v11, x15, s10) : (Int32 × Int64 × Int64 × Int32 × gS)))
          · refine g_lload (q := 98) 1 dX10_striking_96 rfl rfl ?_
            refine g_lload (q := 100) 3 dX10_striking_98 rfl rfl ?_
            refine g_lmul (q := 101) dX10_striking_100 rfl ?_
            refine g_lload_n (q := 102) 4 dX10_striking_101 rfl rfl rfl ?_
            refine g_lload (q := 104) 0 dX10_striking_102 rfl rfl ?_
            refine g_lmul (q := 105) dX10_striking_104 rfl ?_
            refine g_lcmp (q := 106) dX10_striking_105 rfl ?_
            refine g_if_ge (t := 125) (q := 109) dX10_striking_106 (by decide) rfl ?_ ?_
            · refine g_iinc (lr := [(10, .long v13), (8, .long v11), (4, .long z7.2.1), (2, .long z7.2.2.1), (1, .int z7.2.2.2.1), (6, .int z4.1), (0, .ref (b + 0))]) (q := 128) 2 dX10_striking_125 rfl kI_1 (by decide) rfl rfl (fun x17 => ?_)
              refine g_goto (t := 35) dX10_striking_128 (by decide) ?_
              refine g_sub (lr := [(7, .int x17), (4, .long z7.2.1), (2, .long z7.2.2.1), (1, .int z7.2.2.2.1), (6, .int z4.1), (0, .ref (b + 0))]) [0, 3, 4, 5, 6, 7] rfl ?_
              exact (g_again ((x17, z7.2.1, z7.2.2.1, z7.2.2.2.1, s10) : (Int32 × Int64 × Int64 × Int32 × gS)))
            · refine g_bipush (q := 111) dX10_striking_109 kB_100 rfl ?_
              refine g_iload (q := 113) 6 dX10_striking_111 rfl rfl ?_
              refine g_imul (q := 114) dX10_striking_113 rfl ?_
              refine g_iload (q := 116) 2 dX10_striking_114 rfl rfl ?_
              refine g_iadd (q := 117) dX10_striking_116 rfl ?_
              refine g_leti (fun x18 => ?_)
              refine g_istore_n (lr := [(10, .long v13), (8, .long v11), (7, .int z7.1), (4, .long z7.2.1), (2, .long z7.2.2.1), (6, .int z4.1), (0, .ref (b + 0))]) (q := 118) dX10_striking_117 rfl (by decide) rfl rfl ?_
              refine g_lload (q := 120) 2 dX10_striking_118 rfl rfl ?_
              refine g_lstore_n (lr := [(1, .int x18), (10, .long v13), (8, .long v11), (7, .int z7.1), (4, .long z7.2.1), (6, .int z4.1), (0, .ref (b + 0))]) (q := 121) dX10_striking_120 rfl (by decide) rfl rfl ?_
              refine g_lload (q := 123) 2 dX10_striking_121 rfl rfl ?_
              refine g_lstore (lr := [(2, .long v11), (1, .int x18), (10, .long v13), (8, .long v11), (7, .int z7.1), (6, .int z4.1), (0, .ref (b + 0))]) (q := 125) dX10_striking_123 (by decide) rfl rfl ?_
              refine g_iinc (lr := [(4, .long v13), (2, .long v11), (1, .int x18), (10, .long v13), (8, .long v11), (6, .int z4.1), (0, .ref (b + 0))]) (q := 128) 5 dX10_striking_125 rfl kI_1 (by decide) rfl rfl (fun x19 => ?_)
              refine g_goto (t := 35) dX10_striking_128 (by decide) ?_
              refine g_sub (lr := [(7, .int x19), (4, .long v13), (2, .long v11), (1, .int x18), (6, .int z4.1), (0, .ref (b + 0))]) [0, 1, 2, 3, 6, 7] rfl ?_
              exact (g_again ((x19, v13, v11, x18, s10) : (Int32 × Int64 × Int64 × Int32 × gS)))
      · refine g_iinc (lr := [(1, .int z6.1), (2, .long z6.2.1), (4, .long z6.2.2.1), (0, .ref (b + 0))]) (q := 134) 3 dX10_striking_131 rfl kI_1 (by decide) rfl rfl (fun x20 => ?_)
        refine g_goto (t := 17) dX10_striking_134 (by decide) ?_
        refine g_sub (lr := [(6, .int x20), (4, .long z6.2.2.1), (2, .long z6.2.1), (1, .int z6.1), (0, .ref (b + 0))]) [0, 3, 2, 1, 4] rfl ?_
        exact (g_again ((x20, z6.2.2.1, z6.2.1, z6.1, z6.2.2.2) : (Int32 × Int64 × Int64 × Int32 × gS)))
  · refine g_iload_n (q := 138) 0 dX10_striking_137 rfl rfl rfl ?_
    exact (g_iret dX10_striking_138)
noncomputable def pX10_bound (a1 : Int32) (σ : gS) : Option (Int32 × gS) := bn1 (pX10_inRange a1 (1 : Int32) (10000 : Int32)) (fun v1 => if v1 = 0 then some ((-1 : Int32), σ) else bn1 (pX4_survey σ) (fun s4 => bn1 (lpP (fun (z6 : (Int32 × Int32 × gS)) => gT (z6.2.2.2.2 23 0) tR (fun rr7 => if (z6.2.2.1 rr7 0) ≤ z6.1 then some (.inr (z6.2.1, z6.2.2)) else bn1 (lpP (fun (z9 : (Int32 × Int32 × gS)) => gT (z9.2.2.2.2 23 0) tR (fun rr10 => if (z9.2.2.1 rr10 1) ≤ z9.1 then some (.inr (z9.2.1, z9.2.2)) else bn1 (pX4_fillTable z6.1 z9.1 z9.2.2) (fun s12 => bn1 (pX0_moreOf s12) (fun v13 => bn1 (pX0_allOf s12) (fun v15 => if 0 < (lg_cmp (v13 * (a1.toInt64)) v15) then lt' (z9.1 + (1 : Int32)) (fun x17 => some (.inl (x17, z9.2.1, s12))) else lt' (z9.2.1 + (1 : Int32)) (fun x18 => lt' (z9.1 + (1 : Int32)) (fun x19 => some (.inl (x19, x18, s12))))))))) ((0 : Int32), z6.2.1, z6.2.2)) (fun (z8 : (Int32 × gS)) => lt' (z6.1 + (1 : Int32)) (fun x20 => some (.inl (x20, z8.1, z8.2)))))) ((0 : Int32), (0 : Int32), s4)) (fun (z5 : (Int32 × gS)) => some (z5.1, z5.2))))
set_option maxRecDepth 100000 in
theorem cn_X10_bound {G : gG} {b : Nat} {a1 : Int32} {σ : gS} : CN vC G b 6 yX10_bound cX10_bound 5 (some .int) kI [.ref (b + 0), .int a1] σ (pX10_bound a1 σ) := by
  refine cn_of (own := RX10) rfl rfl (Nat.le_of_ble_eq_true rfl) ?_
  show GF vC G b (6, 0, 0) RX10 cX10_bound 5 (some .int) kI 0 [(0, .ref (b + 0)), (1, .int a1)] [] σ (pX10_bound a1 σ)
  unfold pX10_bound
  refine g_iload_n (q := 1) 1 dX10_bound_0 rfl rfl rfl ?_
  refine g_iconst (q := 2) dX10_bound_1 kI_1 rfl ?_
  refine g_sipush (q := 5) dX10_bound_2 kS_10000 rfl ?_
  refine g_callT (As := [.int a1, .int (1 : Int32), .int (10000 : Int32)]) (st := []) (cn_X10_inRange) cwX10_88 rfl dX10_bound_5 rfl (Nat.le_of_ble_eq_true rfl) (by decide) (kk_PI (fun v1 => ?_))
  refine g_if_ne (t := 13) (q := 11) dX10_bound_8 (by decide) rfl ?_ ?_
  · refine g_iconst (q := 12) dX10_bound_11 kI_m1 rfl ?_
    exact (g_iret dX10_bound_12)
  · refine g_aload_n (q := 14) 0 dX10_bound_13 rfl rfl rfl ?_
    refine g_getA (q := 17) fX10_sky dX10_bound_14 ww380 rfl ?_
    refine g_callO (As := []) (st := []) (cn_X4_survey) shX4 rfl cwX10_153 rfl dX10_bound_17 rfl (Nat.le_of_ble_eq_true rfl) (by decide) (kk_V (fun s4 => ?_))
    refine g_iconst (q := 21) dX10_bound_20 kI_0 rfl ?_
    refine g_istore_n (lr := [(0, .ref (b + 0)), (1, .int a1)]) (q := 22) dX10_bound_21 rfl (by decide) rfl rfl ?_
    refine g_iconst (q := 23) dX10_bound_22 kI_0 rfl ?_
    refine g_istore_n (lr := [(2, .int (0 : Int32)), (0, .ref (b + 0)), (1, .int a1)]) (q := 24) dX10_bound_23 rfl (by decide) rfl rfl ?_
    refine g_bind (S := (Int32 × gS)) (hd := 114) (lvf := fun z5 => [(2, .int z5.1)]) (stf := fun z5 => []) (σf := fun z5 => z5.2) ?_ (fun z5 => ?_)
    · refine g_loop (S := (Int32 × Int32 × gS)) (lvf := fun z6 => [(3, .int z6.1), (2, .int z6.2.1), (0, .ref (b + 0)), (1, .int a1)]) (σf := fun z6 => z6.2.2) (fun z6 => ?_) ((0 : Int32), (0 : Int32), s4)
      refine g_iload_n (q := 25) 0 dX10_bound_24 rfl rfl rfl ?_
      refine g_aload_n (q := 26) 2 dX10_bound_25 rfl rfl rfl ?_
      refine g_getA (q := 29) fX10_sky dX10_bound_26 ww380 rfl ?_
      refine g_getR (cT := tR) (q := 32) fX4_told dX10_bound_29 ww283 rfl (fun rr7 hrr7 => ?_)
      refine g_getI (q := 35) (fX9_signs hrr7) dX10_bound_32 ww139 rfl ?_
      refine g_icmp_ge (t := 114) (q := 38) dX10_bound_35 (by decide) rfl ?_ ?_
      · refine g_sub (lr := [(2, .int z6.2.1)]) [1] rfl ?_
        exact (g_leave (g_there ((z6.2.1, z6.2.2) : (Int32 × gS))))
      · refine g_iconst (q := 39) dX10_bound_38 kI_0 rfl ?_
        refine g_istore (lr := [(3, .int z6.1), (2, .int z6.2.1), (0, .ref (b + 0)), (1, .int a1)]) (q := 41) dX10_bound_39 (by decide) rfl rfl ?_
        refine g_bind (S := (Int32 × gS)) (hd := 108) (lvf := fun z8 => [(2, .int z8.1), (3, .int z6.1), (0, .ref (b + 0)), (1, .int a1)]) (stf := fun z8 => []) (σf := fun z8 => z8.2) ?_ (fun z8 => ?_)
        · refine g_sub (lr := [(4, .int (0 : Int32)), (2, .int z6.2.1), (3, .int z6.1), (0, .ref (b + 0)), (1, .int a1)]) [0, 2, 1, 3, 4] rfl ?_
          refine g_loop (S := (Int32 × Int32 × gS)) (lvf := fun z9 => [(4, .int z9.1), (2, .int z9.2.1), (3, .int z6.1), (0, .ref (b + 0)), (1, .int a1)]) (σf := fun z9 => z9.2.2) (fun z9 => ?_) ((0 : Int32), z6.2.1, z6.2.2)
          refine g_iload (q := 43) 0 dX10_bound_41 rfl rfl ?_
          refine g_aload_n (q := 44) 3 dX10_bound_43 rfl rfl rfl ?_
          refine g_getA (q := 47) fX10_sky dX10_bound_44 ww380 rfl ?_
          refine g_getR (cT := tR) (q := 50) fX4_told dX10_bound_47 ww283 rfl (fun rr10 hrr10 => ?_)
          refine g_getI (q := 53) (fX9_says hrr10) dX10_bound_50 ww143 rfl ?_
          refine g_icmp_ge (t := 108) (q := 56) dX10_bound_53 (by decide) rfl ?_ ?_
          · refine g_sub (lr := [(2, .int z9.2.1), (3, .int z6.1), (0, .ref (b + 0)), (1, .int a1)]) [1, 2, 3, 4] rfl ?_
            exact (g_leave (g_there ((z9.2.1, z9.2.2) : (Int32 × gS))))
          · refine g_aload_n (q := 57) 3 dX10_bound_56 rfl rfl rfl ?_
            refine g_getA (q := 60) fX10_sky dX10_bound_57 ww380 rfl ?_
            refine g_aload_n (q := 61) 3 dX10_bound_60 rfl rfl rfl ?_
            refine g_getA (q := 64) fX10_tally dX10_bound_61 ww383 rfl ?_
            refine g_iload_n (q := 65) 2 dX10_bound_64 rfl rfl rfl ?_
            refine g_iload (q := 67) 0 dX10_bound_65 rfl rfl ?_
            refine g_callO (As := [.ref (b + 50), .int z6.1, .int z9.1]) (st := []) (cn_X4_fillTable) shX4 rfl cwX10_211 rfl dX10_bound_67 rfl (Nat.le_of_ble_eq_true rfl) (by decide) (kk_V (fun s12 => ?_))
            refine g_aload_n (q := 71) 3 dX10_bound_70 rfl rfl rfl ?_
            refine g_getA (q := 74) fX10_chance dX10_bound_71 ww382 rfl ?_
            refine g_aload_n (q := 75) 3 dX10_bound_74 rfl rfl rfl ?_
            refine g_getA (q := 78) fX10_tally dX10_bound_75 ww383 rfl ?_
            refine g_callO (As := [.ref (b + 50)]) (st := []) (cn_X0_moreOf) shX0 rfl cwX10_218 rfl dX10_bound_78 rfl (Nat.le_of_ble_eq_true rfl) (by decide) (kk_PL (fun v13 => ?_))
            refine g_iload_n (q := 82) 4 dX10_bound_81 rfl rfl rfl ?_
            refine g_i2l (q := 83) dX10_bound_82 rfl ?_
            refine g_lmul (q := 84) dX10_bound_83 rfl ?_
            refine g_aload_n (q := 85) 3 dX10_bound_84 rfl rfl rfl ?_
            refine g_getA (q := 88) fX10_chance dX10_bound_85 ww382 rfl ?_
            refine g_aload_n (q := 89) 3 dX10_bound_88 rfl rfl rfl ?_
            refine g_getA (q := 92) fX10_tally dX10_bound_89 ww383 rfl ?_
            refine g_callO (As := [.ref (b + 50)]) (st := [.long (v13 * (a1.toInt64))]) (cn_X0_allOf) shX0 rfl cwX10_222 rfl dX10_bound_92 rfl (Nat.le_of_ble_eq_true rfl) (by decide) (kk_PL (fun v15 => ?_))
            refine g_lcmp (q := 96) dX10_bound_95 rfl ?_
            refine g_if_gt (t := 102) (q := 99) dX10_bound_96 (by decide) rfl ?_ ?_
            · refine g_iinc (lr := [(2, .int z9.2.1), (3, .int z6.1), (0, .ref (b + 0)), (1, .int a1)]) (q := 105) 0 dX10_bound_102 rfl kI_1 (by decide) rfl rfl (fun x17 => ?_)
              refine g_goto (t := 41) dX10_bound_105 (by decide) ?_
              exact (g_again ((x17, z9.2.1, s12) : (Int32 × Int32 × gS)))
            · refine g_iinc (lr := [(4, .int z9.1), (3, .int z6.1), (0, .ref (b + 0)), (1, .int a1)]) (q := 102) 1 dX10_bound_99 rfl kI_1 (by decide) rfl rfl (fun x18 => ?_)
              refine g_iinc (lr := [(2, .int x18), (3, .int z6.1), (0, .ref (b + 0)), (1, .int a1)]) (q := 105) 1 dX10_bound_102 rfl kI_1 (by decide) rfl rfl (fun x19 => ?_)
              refine g_goto (t := 41) dX10_bound_105 (by decide) ?_
              exact (g_again ((x19, x18, s12) : (Int32 × Int32 × gS)))
        · refine g_iinc (lr := [(2, .int z8.1), (0, .ref (b + 0)), (1, .int a1)]) (q := 111) 1 dX10_bound_108 rfl kI_1 (by decide) rfl rfl (fun x20 => ?_)
          refine g_goto (t := 24) dX10_bound_111 (by decide) ?_
          exact (g_again ((x20, z8.1, z8.2) : (Int32 × Int32 × gS)))
    · refine g_iload_n (q := 115) 0 dX10_bound_114 rfl rfl rfl ?_
      exact (g_iret dX10_bound_115)
noncomputable def pX1_add (a1 : Int32) (a2 : Int32) (a3 : Int32) (σ : gS) : Option (Int32 × gS) := if (σ.1 39 4) < (60 : Int32) then gx (σ.1 39 4) 60 (lt' (wI σ 40 (σ.1 39 4).toNatClampNeg a1) (fun s1 => gx (s1.1 39 4) 60 (lt' (wI s1 41 (s1.1 39 4).toNatClampNeg a2) (fun s2 => gx (s2.1 39 4) 60 (lt' (wI s2 42 (s2.1 39 4).toNatClampNeg a3) (fun s3 => lt' (wI s3 39 4 ((s3.1 39 4) + (1 : Int32))) (fun s4 => some ((s4.1 39 4) - (1 : Int32), s4)))))))) else some ((-1 : Int32), σ)
set_option maxRecDepth 100000 in
theorem cn_X1_add {G : gG} {b : Nat} {a1 : Int32} {a2 : Int32} {a3 : Int32} {σ : gS} : CN vC G b 1 yX1_add cX1_add 4 (some .int) kI [.ref (b + 39), .int a1, .int a2, .int a3] σ (pX1_add a1 a2 a3 σ) := by
  refine cn_of (own := RX1) rfl rfl (Nat.le_of_ble_eq_true rfl) ?_
  show GF vC G b (1, 0, 0) RX1 cX1_add 4 (some .int) kI 0 [(0, .ref (b + 39)), (1, .int a1), (2, .int a2), (3, .int a3)] [] σ (pX1_add a1 a2 a3 σ)
  unfold pX1_add
  refine g_aload_n (q := 1) 0 dX1_add_0 rfl rfl rfl ?_
  refine g_getI (q := 4) fX1_size dX1_add_1 ww315 rfl ?_
  refine g_bipush (q := 6) dX1_add_4 kB_60 rfl ?_
  refine g_icmp_lt (t := 11) (q := 9) dX1_add_6 (by decide) rfl ?_ ?_
  · refine g_aload_n (q := 12) 0 dX1_add_11 rfl rfl rfl ?_
    refine g_getA (q := 15) fX1_kinds dX1_add_12 ww310 rfl ?_
    refine g_aload_n (q := 16) 0 dX1_add_15 rfl rfl rfl ?_
    refine g_getI (q := 19) fX1_size dX1_add_16 ww315 rfl ?_
    refine g_iload_n (q := 20) 1 dX1_add_19 rfl rfl rfl ?_
    refine g_iast (q := 21) (aX1_kinds) dX1_add_20 rfl (fun s1 => ?_)
    refine g_aload_n (q := 22) 0 dX1_add_21 rfl rfl rfl ?_
    refine g_getA (q := 25) fX1_subjects dX1_add_22 ww312 rfl ?_
    refine g_aload_n (q := 26) 0 dX1_add_25 rfl rfl rfl ?_
    refine g_getI (q := 29) fX1_size dX1_add_26 ww315 rfl ?_
    refine g_iload_n (q := 30) 2 dX1_add_29 rfl rfl rfl ?_
    refine g_iast (q := 31) (aX1_subjects) dX1_add_30 rfl (fun s2 => ?_)
    refine g_aload_n (q := 32) 0 dX1_add_31 rfl rfl rfl ?_
    refine g_getA (q := 35) fX1_values dX1_add_32 ww313 rfl ?_
    refine g_aload_n (q := 36) 0 dX1_add_35 rfl rfl rfl ?_
    refine g_getI (q := 39) fX1_size dX1_add_36 ww315 rfl ?_
    refine g_iload_n (q := 40) 3 dX1_add_39 rfl rfl rfl ?_
    refine g_iast (q := 41) (aX1_values) dX1_add_40 rfl (fun s3 => ?_)
    refine g_aload_n (q := 42) 0 dX1_add_41 rfl rfl rfl ?_
    refine g_dup (q := 43) dX1_add_42 rfl rfl ?_
    refine g_getI (q := 46) fX1_size dX1_add_43 ww315 rfl ?_
    refine g_iconst (q := 47) dX1_add_46 kI_1 rfl ?_
    refine g_iadd (q := 48) dX1_add_47 rfl ?_
    refine g_putI (q := 51) fX1_size pwX1_size okTX1 dX1_add_48 ww315 rfl (fun s4 => ?_)
    refine g_aload_n (q := 52) 0 dX1_add_51 rfl rfl rfl ?_
    refine g_getI (q := 55) fX1_size dX1_add_52 ww315 rfl ?_
    refine g_iconst (q := 56) dX1_add_55 kI_1 rfl ?_
    refine g_isub (q := 57) dX1_add_56 rfl ?_
    exact (g_iret dX1_add_57)
  · refine g_iconst (q := 10) dX1_add_9 kI_m1 rfl ?_
    exact (g_iret dX1_add_10)
noncomputable def pX10_choice (a1 : Int32) (a2 : Int32) (a3 : Int32) (σ : gS) : Option (Int32 × gS) := bn1 (pX2_has a1 σ) (fun v1 => if v1 = 0 then some ((-1 : Int32), σ) else bn1 (pX10_inRange a3 (1 : Int32) (5 : Int32)) (fun v3 => if v3 = 0 then some ((-1 : Int32), σ) else bn1 (if a2 = 0 then some (1 : Int32) else some (0 : Int32)) (fun (z5 : Int32) => bn2 (pX1_add z5 a1 a3 σ) (fun v6 s7 => some (v6, s7)))))
set_option maxRecDepth 100000 in
theorem cn_X10_choice {G : gG} {b : Nat} {a1 : Int32} {a2 : Int32} {a3 : Int32} {σ : gS} : CN vC G b 2 yX10_choice cX10_choice 4 (some .int) kI [.ref (b + 0), .int a1, .int a2, .int a3] σ (pX10_choice a1 a2 a3 σ) := by
  refine cn_of (own := RX10) rfl rfl (Nat.le_of_ble_eq_true rfl) ?_
  show GF vC G b (2, 0, 0) RX10 cX10_choice 4 (some .int) kI 0 [(0, .ref (b + 0)), (1, .int a1), (2, .int a2), (3, .int a3)] [] σ (pX10_choice a1 a2 a3 σ)
  unfold pX10_choice
  refine g_aload_n (q := 1) 0 dX10_choice_0 rfl rfl rfl ?_
  refine g_getA (q := 4) fX10_people dX10_choice_1 ww379 rfl ?_
  refine g_iload_n (q := 5) 1 dX10_choice_4 rfl rfl rfl ?_
  refine g_callO (As := [.int a1]) (st := []) (cn_X2_has) shX2 rfl cwX10_106 rfl dX10_choice_5 rfl (Nat.le_of_ble_eq_true rfl) (by decide) (kk_PI (fun v1 => ?_))
  refine g_if_eq (t := 20) (q := 11) dX10_choice_8 (by decide) rfl ?_ ?_
  · refine g_iconst (q := 21) dX10_choice_20 kI_m1 rfl ?_
    exact (g_iret dX10_choice_21)
  · refine g_iload_n (q := 12) 3 dX10_choice_11 rfl rfl rfl ?_
    refine g_iconst (q := 13) dX10_choice_12 kI_1 rfl ?_
    refine g_iconst (q := 14) dX10_choice_13 kI_5 rfl ?_
    refine g_callT (As := [.int a3, .int (1 : Int32), .int (5 : Int32)]) (st := []) (cn_X10_inRange) cwX10_88 rfl dX10_choice_14 rfl (Nat.le_of_ble_eq_true rfl) (by decide) (kk_PI (fun v3 => ?_))
    refine g_if_ne (t := 22) (q := 20) dX10_choice_17 (by decide) rfl ?_ ?_
    · refine g_iconst (q := 21) dX10_choice_20 kI_m1 rfl ?_
      exact (g_iret dX10_choice_21)
    · refine g_aload_n (q := 23) 0 dX10_choice_22 rfl rfl rfl ?_
      refine g_getA (q := 26) fX10_facts dX10_choice_23 ww381 rfl ?_
      refine g_iload_n (q := 27) 2 dX10_choice_26 rfl rfl rfl ?_
      refine g_bind (S := Int32) (hd := 35) (lvf := fun z5 => [(1, .int a1), (3, .int a3)]) (stf := fun z5 => [.int z5, .ref (b + 39)]) (σf := fun z5 => σ) ?_ (fun z5 => ?_)
      · refine g_if_eq (t := 34) (q := 30) dX10_choice_27 (by decide) rfl ?_ ?_
        · refine g_iconst (q := 35) dX10_choice_34 kI_1 rfl ?_
          refine g_sub (lr := [(1, .int a1), (3, .int a3)]) [1, 3] rfl ?_
          exact (g_there ((1 : Int32) : Int32))
        · refine g_iconst (q := 31) dX10_choice_30 kI_0 rfl ?_
          refine g_goto (t := 35) dX10_choice_31 (by decide) ?_
          refine g_sub (lr := [(1, .int a1), (3, .int a3)]) [1, 3] rfl ?_
          exact (g_there ((0 : Int32) : Int32))
      · refine g_iload_n (q := 36) 0 dX10_choice_35 rfl rfl rfl ?_
        refine g_iload_n (q := 37) 1 dX10_choice_36 rfl rfl rfl ?_
        refine g_callO (As := [.int z5, .int a1, .int a3]) (st := []) (cn_X1_add) shX1 rfl cwX10_246 rfl dX10_choice_37 rfl (Nat.le_of_ble_eq_true rfl) (by decide) (kk_I (fun v6 s7 => ?_))
        exact (g_iret dX10_choice_40)
noncomputable def pX10_list (a1 : Int32) (a2 : Int32) (σ : gS) : Option (Int32 × gS) := bn1 (pX2_has a1 σ) (fun v1 => if v1 = 0 then some ((-1 : Int32), σ) else bn1 (if a2 = 0 then some (3 : Int32) else some (2 : Int32)) (fun (z3 : Int32) => bn2 (pX1_add z3 a1 (0 : Int32) σ) (fun v4 s5 => some (v4, s5))))
set_option maxRecDepth 100000 in
theorem cn_X10_list {G : gG} {b : Nat} {a1 : Int32} {a2 : Int32} {σ : gS} : CN vC G b 2 yX10_list cX10_list 3 (some .int) kI [.ref (b + 0), .int a1, .int a2] σ (pX10_list a1 a2 σ) := by
  refine cn_of (own := RX10) rfl rfl (Nat.le_of_ble_eq_true rfl) ?_
  show GF vC G b (2, 0, 0) RX10 cX10_list 3 (some .int) kI 0 [(0, .ref (b + 0)), (1, .int a1), (2, .int a2)] [] σ (pX10_list a1 a2 σ)
  unfold pX10_list
  refine g_aload_n (q := 1) 0 dX10_list_0 rfl rfl rfl ?_
  refine g_getA (q := 4) fX10_people dX10_list_1 ww379 rfl ?_
  refine g_iload_n (q := 5) 1 dX10_list_4 rfl rfl rfl ?_
  refine g_callO (As := [.int a1]) (st := []) (cn_X2_has) shX2 rfl cwX10_106 rfl dX10_list_5 rfl (Nat.le_of_ble_eq_true rfl) (by decide) (kk_PI (fun v1 => ?_))
  refine g_if_ne (t := 13) (q := 11) dX10_list_8 (by decide) rfl ?_ ?_
  · refine g_iconst (q := 12) dX10_list_11 kI_m1 rfl ?_
    exact (g_iret dX10_list_12)
  · refine g_aload_n (q := 14) 0 dX10_list_13 rfl rfl rfl ?_
    refine g_getA (q := 17) fX10_facts dX10_list_14 ww381 rfl ?_
    refine g_iload_n (q := 18) 2 dX10_list_17 rfl rfl rfl ?_
    refine g_bind (S := Int32) (hd := 26) (lvf := fun z3 => [(1, .int a1)]) (stf := fun z3 => [.int z3, .ref (b + 39)]) (σf := fun z3 => σ) ?_ (fun z3 => ?_)
    · refine g_if_eq (t := 25) (q := 21) dX10_list_18 (by decide) rfl ?_ ?_
      · refine g_iconst (q := 26) dX10_list_25 kI_3 rfl ?_
        refine g_sub (lr := [(1, .int a1)]) [1] rfl ?_
        exact (g_there ((3 : Int32) : Int32))
      · refine g_iconst (q := 22) dX10_list_21 kI_2 rfl ?_
        refine g_goto (t := 26) dX10_list_22 (by decide) ?_
        refine g_sub (lr := [(1, .int a1)]) [1] rfl ?_
        exact (g_there ((2 : Int32) : Int32))
    · refine g_iload_n (q := 27) 0 dX10_list_26 rfl rfl rfl ?_
      refine g_iconst (q := 28) dX10_list_27 kI_0 rfl ?_
      refine g_callO (As := [.int z3, .int a1, .int (0 : Int32)]) (st := []) (cn_X1_add) shX1 rfl cwX10_246 rfl dX10_list_28 rfl (Nat.le_of_ble_eq_true rfl) (by decide) (kk_I (fun v4 s5 => ?_))
      exact (g_iret dX10_list_31)
noncomputable def pX10_tried (a1 : Int32) (a2 : Int32) (σ : gS) : Option (Int32 × gS) := bn1 (pX10_isSign a1 σ) (fun v1 => if v1 = 0 then some ((-1 : Int32), σ) else bn1 (pX10_inRange a2 (0 : Int32) (9 : Int32)) (fun v3 => if v3 = 0 then some ((-1 : Int32), σ) else bn2 (pX1_add (4 : Int32) a1 a2 σ) (fun v5 s6 => some (v5, s6))))
set_option maxRecDepth 100000 in
theorem cn_X10_tried {G : gG} {b : Nat} {a1 : Int32} {a2 : Int32} {σ : gS} : CN vC G b 3 yX10_tried cX10_tried 3 (some .int) kI [.ref (b + 0), .int a1, .int a2] σ (pX10_tried a1 a2 σ) := by
  refine cn_of (own := RX10) rfl rfl (Nat.le_of_ble_eq_true rfl) ?_
  show GF vC G b (3, 0, 0) RX10 cX10_tried 3 (some .int) kI 0 [(0, .ref (b + 0)), (1, .int a1), (2, .int a2)] [] σ (pX10_tried a1 a2 σ)
  unfold pX10_tried
  refine g_aload_n (q := 1) 0 dX10_tried_0 rfl rfl rfl ?_
  refine g_iload_n (q := 2) 1 dX10_tried_1 rfl rfl rfl ?_
  refine g_callO (As := [.int a1]) (st := []) (cn_X10_isSign) shX10 rfl cwX10_208 rfl dX10_tried_2 rfl (Nat.le_of_ble_eq_true rfl) (by decide) (kk_PI (fun v1 => ?_))
  refine g_if_eq (t := 18) (q := 8) dX10_tried_5 (by decide) rfl ?_ ?_
  · refine g_iconst (q := 19) dX10_tried_18 kI_m1 rfl ?_
    exact (g_iret dX10_tried_19)
  · refine g_iload_n (q := 9) 2 dX10_tried_8 rfl rfl rfl ?_
    refine g_iconst (q := 10) dX10_tried_9 kI_0 rfl ?_
    refine g_bipush (q := 12) dX10_tried_10 kB_9 rfl ?_
    refine g_callT (As := [.int a2, .int (0 : Int32), .int (9 : Int32)]) (st := []) (cn_X10_inRange) cwX10_88 rfl dX10_tried_12 rfl (Nat.le_of_ble_eq_true rfl) (by decide) (kk_PI (fun v3 => ?_))
    refine g_if_ne (t := 20) (q := 18) dX10_tried_15 (by decide) rfl ?_ ?_
    · refine g_iconst (q := 19) dX10_tried_18 kI_m1 rfl ?_
      exact (g_iret dX10_tried_19)
    · refine g_aload_n (q := 21) 0 dX10_tried_20 rfl rfl rfl ?_
      refine g_getA (q := 24) fX10_facts dX10_tried_21 ww381 rfl ?_
      refine g_iconst (q := 25) dX10_tried_24 kI_4 rfl ?_
      refine g_iload_n (q := 26) 1 dX10_tried_25 rfl rfl rfl ?_
      refine g_iload_n (q := 27) 2 dX10_tried_26 rfl rfl rfl ?_
      refine g_callO (As := [.int (4 : Int32), .int a1, .int a2]) (st := []) (cn_X1_add) shX1 rfl cwX10_246 rfl dX10_tried_27 rfl (Nat.le_of_ble_eq_true rfl) (by decide) (kk_I (fun v5 s6 => ?_))
      exact (g_iret dX10_tried_30)
noncomputable def pX1_has (a1 : Int32) (σ : gS) : Option (Int32) := if a1 < 0 then some (0 : Int32) else if (σ.1 39 4) ≤ a1 then some (0 : Int32) else some (1 : Int32)
set_option maxRecDepth 100000 in
theorem cn_X1_has {G : gG} {b : Nat} {a1 : Int32} {σ : gS} : CN vC G b 1 yX1_has cX1_has 2 (some .boolean) (kPI σ) [.ref (b + 39), .int a1] σ (pX1_has a1 σ) := by
  refine cn_of (own := RX1) rfl rfl (Nat.le_of_ble_eq_true rfl) ?_
  show GF vC G b (1, 0, 0) RX1 cX1_has 2 (some .boolean) (kPI σ) 0 [(0, .ref (b + 39)), (1, .int a1)] [] σ (pX1_has a1 σ)
  unfold pX1_has
  refine g_iload_n (q := 1) 1 dX1_has_0 rfl rfl rfl ?_
  refine g_if_lt (t := 16) (q := 4) dX1_has_1 (by decide) rfl ?_ ?_
  · refine g_iconst (q := 17) dX1_has_16 kI_0 rfl ?_
    exact (g_bretP0 dX1_has_17)
  · refine g_iload_n (q := 5) 1 dX1_has_4 rfl rfl rfl ?_
    refine g_aload_n (q := 6) 0 dX1_has_5 rfl rfl rfl ?_
    refine g_getI (q := 9) fX1_size dX1_has_6 ww315 rfl ?_
    refine g_icmp_ge (t := 16) (q := 12) dX1_has_9 (by decide) rfl ?_ ?_
    · refine g_iconst (q := 17) dX1_has_16 kI_0 rfl ?_
      exact (g_bretP0 dX1_has_17)
    · refine g_iconst (q := 13) dX1_has_12 kI_1 rfl ?_
      refine g_goto (t := 17) dX1_has_13 (by decide) ?_
      exact (g_bretP1 dX1_has_17)
noncomputable def pX10_annul (a1 : Int32) (σ : gS) : Option (Int32 × gS) := bn1 (pX1_has a1 σ) (fun v1 => if v1 = 0 then some ((-1 : Int32), σ) else gx a1 60 (if (σ.1 40 a1.toNatClampNeg) = (5 : Int32) then some ((-1 : Int32), σ) else bn2 (pX1_add (5 : Int32) a1 (0 : Int32) σ) (fun v3 s4 => some (v3, s4))))
set_option maxRecDepth 100000 in
theorem cn_X10_annul {G : gG} {b : Nat} {a1 : Int32} {σ : gS} : CN vC G b 2 yX10_annul cX10_annul 2 (some .int) kI [.ref (b + 0), .int a1] σ (pX10_annul a1 σ) := by
  refine cn_of (own := RX10) rfl rfl (Nat.le_of_ble_eq_true rfl) ?_
  show GF vC G b (2, 0, 0) RX10 cX10_annul 2 (some .int) kI 0 [(0, .ref (b + 0)), (1, .int a1)] [] σ (pX10_annul a1 σ)
  unfold pX10_annul
  refine g_aload_n (q := 1) 0 dX10_annul_0 rfl rfl rfl ?_
  refine g_getA (q := 4) fX10_facts dX10_annul_1 ww381 rfl ?_
  refine g_iload_n (q := 5) 1 dX10_annul_4 rfl rfl rfl ?_
  refine g_callO (As := [.int a1]) (st := []) (cn_X1_has) shX1 rfl cwX10_249 rfl dX10_annul_5 rfl (Nat.le_of_ble_eq_true rfl) (by decide) (kk_PI (fun v1 => ?_))
  refine g_if_eq (t := 24) (q := 11) dX10_annul_8 (by decide) rfl ?_ ?_
  · refine g_iconst (q := 25) dX10_annul_24 kI_m1 rfl ?_
    exact (g_iret dX10_annul_25)
  · refine g_aload_n (q := 12) 0 dX10_annul_11 rfl rfl rfl ?_
    refine g_getA (q := 15) fX10_facts dX10_annul_12 ww381 rfl ?_
    refine g_getA (q := 18) fX1_kinds dX10_annul_15 ww311 rfl ?_
    refine g_iload_n (q := 19) 1 dX10_annul_18 rfl rfl rfl ?_
    refine g_iald (q := 20) (aX1_kinds) dX10_annul_19 rfl ?_
    refine g_iconst (q := 21) dX10_annul_20 kI_5 rfl ?_
    refine g_icmp_ne (t := 26) (q := 24) dX10_annul_21 (by decide) rfl ?_ ?_
    · refine g_iconst (q := 25) dX10_annul_24 kI_m1 rfl ?_
      exact (g_iret dX10_annul_25)
    · refine g_aload_n (q := 27) 0 dX10_annul_26 rfl rfl rfl ?_
      refine g_getA (q := 30) fX10_facts dX10_annul_27 ww381 rfl ?_
      refine g_iconst (q := 31) dX10_annul_30 kI_5 rfl ?_
      refine g_iload_n (q := 32) 1 dX10_annul_31 rfl rfl rfl ?_
      refine g_iconst (q := 33) dX10_annul_32 kI_0 rfl ?_
      refine g_callO (As := [.int (5 : Int32), .int a1, .int (0 : Int32)]) (st := []) (cn_X1_add) shX1 rfl cwX10_246 rfl dX10_annul_33 rfl (Nat.le_of_ble_eq_true rfl) (by decide) (kk_I (fun v3 s4 => ?_))
      exact (g_iret dX10_annul_36)
noncomputable def pX1_canKnow (a1 : Int32) (σ : gS) : Option (Int32) := if a1 < 0 then some (0 : Int32) else if (σ.1 39 4) < a1 then some (0 : Int32) else some (1 : Int32)
set_option maxRecDepth 100000 in
theorem cn_X1_canKnow {G : gG} {b : Nat} {a1 : Int32} {σ : gS} : CN vC G b 1 yX1_canKnow cX1_canKnow 2 (some .boolean) (kPI σ) [.ref (b + 39), .int a1] σ (pX1_canKnow a1 σ) := by
  refine cn_of (own := RX1) rfl rfl (Nat.le_of_ble_eq_true rfl) ?_
  show GF vC G b (1, 0, 0) RX1 cX1_canKnow 2 (some .boolean) (kPI σ) 0 [(0, .ref (b + 39)), (1, .int a1)] [] σ (pX1_canKnow a1 σ)
  unfold pX1_canKnow
  refine g_iload_n (q := 1) 1 dX1_canKnow_0 rfl rfl rfl ?_
  refine g_if_lt (t := 16) (q := 4) dX1_canKnow_1 (by decide) rfl ?_ ?_
  · refine g_iconst (q := 17) dX1_canKnow_16 kI_0 rfl ?_
    exact (g_bretP0 dX1_canKnow_17)
  · refine g_iload_n (q := 5) 1 dX1_canKnow_4 rfl rfl rfl ?_
    refine g_aload_n (q := 6) 0 dX1_canKnow_5 rfl rfl rfl ?_
    refine g_getI (q := 9) fX1_size dX1_canKnow_6 ww315 rfl ?_
    refine g_icmp_gt (t := 16) (q := 12) dX1_canKnow_9 (by decide) rfl ?_ ?_
    · refine g_iconst (q := 17) dX1_canKnow_16 kI_0 rfl ?_
      exact (g_bretP0 dX1_canKnow_17)
    · refine g_iconst (q := 13) dX1_canKnow_12 kI_1 rfl ?_
      refine g_goto (t := 17) dX1_canKnow_13 (by decide) ?_
      exact (g_bretP1 dX1_canKnow_17)
noncomputable def pX1_know (a1 : Int32) (σ : gS) : Option (gS) := bn1 (lpP (fun (z2 : (Int32 × gS)) => if (z2.2.1 39 4) ≤ z2.1 then some (.inr z2.2) else if a1 ≤ z2.1 then gx z2.1 60 (lt' (wI z2.2 43 z2.1.toNatClampNeg ((0 : Int32) &&& 1)) (fun s3 => lt' (z2.1 + (1 : Int32)) (fun x4 => some (.inl (x4, s3))))) else gx z2.1 60 (lt' (wI z2.2 43 z2.1.toNatClampNeg ((1 : Int32) &&& 1)) (fun s5 => lt' (z2.1 + (1 : Int32)) (fun x6 => some (.inl (x6, s5)))))) ((0 : Int32), σ)) (fun (z1 : gS) => bn1 (lpP (fun (z8 : (Int32 × gS)) => if a1 ≤ z8.1 then some (.inr z8.2) else if (z8.2.1 39 4) ≤ z8.1 then some (.inr z8.2) else gx z8.1 60 (if (z8.2.1 40 z8.1.toNatClampNeg) = (5 : Int32) then gx z8.1 60 (bn1 (pX1_has (z8.2.1 41 z8.1.toNatClampNeg) z8.2) (fun v9 => if v9 = 0 then lt' (z8.1 + (1 : Int32)) (fun x11 => some (.inl (x11, z8.2))) else gx z8.1 60 (gx (z8.2.1 41 z8.1.toNatClampNeg) 60 (lt' (wI z8.2 43 (z8.2.1 41 z8.1.toNatClampNeg).toNatClampNeg ((0 : Int32) &&& 1)) (fun s12 => lt' (z8.1 + (1 : Int32)) (fun x13 => some (.inl (x13, s12)))))))) else lt' (z8.1 + (1 : Int32)) (fun x14 => some (.inl (x14, z8.2))))) ((0 : Int32), z1)) (fun (z7 : gS) => some z7))
set_option maxRecDepth 100000 in
theorem cn_X1_know {G : gG} {b : Nat} {a1 : Int32} {σ : gS} : CN vC G b 2 yX1_know cX1_know 3 none kV [.ref (b + 39), .int a1] σ (pX1_know a1 σ) := by
  refine cn_of (own := RX1) rfl rfl (Nat.le_of_ble_eq_true rfl) ?_
  show GF vC G b (2, 0, 0) RX1 cX1_know 3 none kV 0 [(0, .ref (b + 39)), (1, .int a1)] [] σ (pX1_know a1 σ)
  unfold pX1_know
  refine g_iconst (q := 1) dX1_know_0 kI_0 rfl ?_
  refine g_istore_n (lr := [(0, .ref (b + 39)), (1, .int a1)]) (q := 2) dX1_know_1 rfl (by decide) rfl rfl ?_
  refine g_bind (S := gS) (hd := 32) (lvf := fun z1 => [(0, .ref (b + 39)), (1, .int a1)]) (stf := fun z1 => []) (σf := fun z1 => z1) ?_ (fun z1 => ?_)
  · refine g_loop (S := (Int32 × gS)) (lvf := fun z2 => [(2, .int z2.1), (0, .ref (b + 39)), (1, .int a1)]) (σf := fun z2 => z2.2) (fun z2 => ?_) ((0 : Int32), σ)
    refine g_iload_n (q := 3) 0 dX1_know_2 rfl rfl rfl ?_
    refine g_aload_n (q := 4) 1 dX1_know_3 rfl rfl rfl ?_
    refine g_getI (q := 7) fX1_size dX1_know_4 ww315 rfl ?_
    refine g_icmp_ge (t := 32) (q := 10) dX1_know_7 (by decide) rfl ?_ ?_
    · refine g_sub (lr := [(0, .ref (b + 39)), (1, .int a1)]) [1, 2] rfl ?_
      exact (g_leave (g_there (z2.2 : gS)))
    · refine g_aload_n (q := 11) 1 dX1_know_10 rfl rfl rfl ?_
      refine g_getA (q := 14) fX1_known dX1_know_11 ww314 rfl ?_
      refine g_iload_n (q := 15) 0 dX1_know_14 rfl rfl rfl ?_
      refine g_iload_n (q := 16) 0 dX1_know_15 rfl rfl rfl ?_
      refine g_iload_n (q := 17) 2 dX1_know_16 rfl rfl rfl ?_
      refine g_icmp_ge (t := 24) (q := 20) dX1_know_17 (by decide) rfl ?_ ?_
      · refine g_iconst (q := 25) dX1_know_24 kI_0 rfl ?_
        refine g_zast (q := 26) (aX1_known) dX1_know_25 rfl (fun s3 => ?_)
        refine g_iinc (lr := [(0, .ref (b + 39)), (1, .int a1)]) (q := 29) 0 dX1_know_26 rfl kI_1 (by decide) rfl rfl (fun x4 => ?_)
        refine g_goto (t := 2) dX1_know_29 (by decide) ?_
        exact (g_again ((x4, s3) : (Int32 × gS)))
      · refine g_iconst (q := 21) dX1_know_20 kI_1 rfl ?_
        refine g_goto (t := 25) dX1_know_21 (by decide) ?_
        refine g_zast (q := 26) (aX1_known) dX1_know_25 rfl (fun s5 => ?_)
        refine g_iinc (lr := [(0, .ref (b + 39)), (1, .int a1)]) (q := 29) 0 dX1_know_26 rfl kI_1 (by decide) rfl rfl (fun x6 => ?_)
        refine g_goto (t := 2) dX1_know_29 (by decide) ?_
        exact (g_again ((x6, s5) : (Int32 × gS)))
  · refine g_iconst (q := 33) dX1_know_32 kI_0 rfl ?_
    refine g_istore_n (lr := [(0, .ref (b + 39)), (1, .int a1)]) (q := 34) dX1_know_33 rfl (by decide) rfl rfl ?_
    refine g_bind (S := gS) (hd := 88) (lvf := fun z7 => []) (stf := fun z7 => []) (σf := fun z7 => z7) ?_ (fun z7 => ?_)
    · refine g_loop (S := (Int32 × gS)) (lvf := fun z8 => [(2, .int z8.1), (0, .ref (b + 39)), (1, .int a1)]) (σf := fun z8 => z8.2) (fun z8 => ?_) ((0 : Int32), z1)
      refine g_iload_n (q := 35) 0 dX1_know_34 rfl rfl rfl ?_
      refine g_iload_n (q := 36) 2 dX1_know_35 rfl rfl rfl ?_
      refine g_icmp_ge (t := 88) (q := 39) dX1_know_36 (by decide) rfl ?_ ?_
      · refine g_sub (lr := []) [] rfl ?_
        exact (g_leave (g_there (z8.2 : gS)))
      · refine g_iload_n (q := 40) 0 dX1_know_39 rfl rfl rfl ?_
        refine g_aload_n (q := 41) 1 dX1_know_40 rfl rfl rfl ?_
        refine g_getI (q := 44) fX1_size dX1_know_41 ww315 rfl ?_
        refine g_icmp_ge (t := 88) (q := 47) dX1_know_44 (by decide) rfl ?_ ?_
        · refine g_sub (lr := []) [] rfl ?_
          exact (g_leave (g_there (z8.2 : gS)))
        · refine g_aload_n (q := 48) 1 dX1_know_47 rfl rfl rfl ?_
          refine g_getA (q := 51) fX1_kinds dX1_know_48 ww310 rfl ?_
          refine g_iload_n (q := 52) 0 dX1_know_51 rfl rfl rfl ?_
          refine g_iald (q := 53) (aX1_kinds) dX1_know_52 rfl ?_
          refine g_iconst (q := 54) dX1_know_53 kI_5 rfl ?_
          refine g_icmp_ne (t := 82) (q := 57) dX1_know_54 (by decide) rfl ?_ ?_
          · refine g_aload_n (q := 58) 1 dX1_know_57 rfl rfl rfl ?_
            refine g_aload_n (q := 59) 1 dX1_know_58 rfl rfl rfl ?_
            refine g_getA (q := 62) fX1_subjects dX1_know_59 ww312 rfl ?_
            refine g_iload_n (q := 63) 0 dX1_know_62 rfl rfl rfl ?_
            refine g_iald (q := 64) (aX1_subjects) dX1_know_63 rfl ?_
            refine g_callO (As := [.int (z8.2.1 41 z8.1.toNatClampNeg)]) (st := []) (cn_X1_has) shX1 rfl cwX1_29 rfl dX1_know_64 rfl (Nat.le_of_ble_eq_true rfl) (by decide) (kk_PI (fun v9 => ?_))
            refine g_if_eq (t := 82) (q := 70) dX1_know_67 (by decide) rfl ?_ ?_
            · refine g_iinc (lr := [(0, .ref (b + 39)), (1, .int a1)]) (q := 85) 0 dX1_know_82 rfl kI_1 (by decide) rfl rfl (fun x11 => ?_)
              refine g_goto (t := 34) dX1_know_85 (by decide) ?_
              exact (g_again ((x11, z8.2) : (Int32 × gS)))
            · refine g_aload_n (q := 71) 1 dX1_know_70 rfl rfl rfl ?_
              refine g_getA (q := 74) fX1_known dX1_know_71 ww314 rfl ?_
              refine g_aload_n (q := 75) 1 dX1_know_74 rfl rfl rfl ?_
              refine g_getA (q := 78) fX1_subjects dX1_know_75 ww312 rfl ?_
              refine g_iload_n (q := 79) 0 dX1_know_78 rfl rfl rfl ?_
              refine g_iald (q := 80) (aX1_subjects) dX1_know_79 rfl ?_
              refine g_iconst (q := 81) dX1_know_80 kI_0 rfl ?_
              refine g_zast (q := 82) (aX1_known) dX1_know_81 rfl (fun s12 => ?_)
              refine g_iinc (lr := [(0, .ref (b + 39)), (1, .int a1)]) (q := 85) 0 dX1_know_82 rfl kI_1 (by decide) rfl rfl (fun x13 => ?_)
              refine g_goto (t := 34) dX1_know_85 (by decide) ?_
              exact (g_again ((x13, s12) : (Int32 × gS)))
          · refine g_iinc (lr := [(0, .ref (b + 39)), (1, .int a1)]) (q := 85) 0 dX1_know_82 rfl kI_1 (by decide) rfl rfl (fun x14 => ?_)
            refine g_goto (t := 34) dX1_know_85 (by decide) ?_
            exact (g_again ((x14, z8.2) : (Int32 × gS)))
    · exact (g_vret dX1_know_88)
noncomputable def pX1_sumOf (a1 : Int32) (a2 : Int32) (σ : gS) : Option (Int32) := bn1 (lpP (fun (z2 : (Int32 × Int32)) => if (σ.1 39 4) ≤ z2.1 then some (.inr z2.2) else gx z2.1 60 (if (σ.1 43 z2.1.toNatClampNeg) = 0 then lt' (z2.1 + (1 : Int32)) (fun x3 => some (.inl (x3, z2.2))) else gx z2.1 60 (if (σ.1 40 z2.1.toNatClampNeg) = a1 then bn1 (if a2 = 0 then some (1 : Int32) else gx z2.1 60 (some (σ.1 42 z2.1.toNatClampNeg))) (fun (z4 : Int32) => lt' (z2.2 + z4) (fun x5 => lt' (z2.1 + (1 : Int32)) (fun x6 => some (.inl (x6, x5))))) else lt' (z2.1 + (1 : Int32)) (fun x7 => some (.inl (x7, z2.2)))))) ((0 : Int32), (0 : Int32))) (fun (z1 : Int32) => some (z1))
set_option maxRecDepth 100000 in
theorem cn_X1_sumOf {G : gG} {b : Nat} {a1 : Int32} {a2 : Int32} {σ : gS} : CN vC G b 1 yX1_sumOf cX1_sumOf 5 (some .int) (kPI σ) [.ref (b + 39), .int a1, .int a2] σ (pX1_sumOf a1 a2 σ) := by
  refine cn_of (own := RX1) rfl rfl (Nat.le_of_ble_eq_true rfl) ?_
  show GF vC G b (1, 0, 0) RX1 cX1_sumOf 5 (some .int) (kPI σ) 0 [(0, .ref (b + 39)), (1, .int a1), (2, .int a2)] [] σ (pX1_sumOf a1 a2 σ)
  unfold pX1_sumOf
  refine g_iconst (q := 1) dX1_sumOf_0 kI_0 rfl ?_
  refine g_istore_n (lr := [(0, .ref (b + 39)), (1, .int a1), (2, .int a2)]) (q := 2) dX1_sumOf_1 rfl (by decide) rfl rfl ?_
  refine g_iconst (q := 3) dX1_sumOf_2 kI_0 rfl ?_
  refine g_istore (lr := [(3, .int (0 : Int32)), (0, .ref (b + 39)), (1, .int a1), (2, .int a2)]) (q := 5) dX1_sumOf_3 (by decide) rfl rfl ?_
  refine g_bind (S := Int32) (hd := 59) (lvf := fun z1 => [(3, .int z1)]) (stf := fun z1 => []) (σf := fun z1 => σ) ?_ (fun z1 => ?_)
  · refine g_loop (S := (Int32 × Int32)) (lvf := fun z2 => [(4, .int z2.1), (3, .int z2.2), (0, .ref (b + 39)), (1, .int a1), (2, .int a2)]) (σf := fun z2 => σ) (fun z2 => ?_) ((0 : Int32), (0 : Int32))
    refine g_iload (q := 7) 0 dX1_sumOf_5 rfl rfl ?_
    refine g_aload_n (q := 8) 2 dX1_sumOf_7 rfl rfl rfl ?_
    refine g_getI (q := 11) fX1_size dX1_sumOf_8 ww315 rfl ?_
    refine g_icmp_ge (t := 59) (q := 14) dX1_sumOf_11 (by decide) rfl ?_ ?_
    · refine g_sub (lr := [(3, .int z2.2)]) [1] rfl ?_
      exact (g_leave (g_there (z2.2 : Int32)))
    · refine g_aload_n (q := 15) 2 dX1_sumOf_14 rfl rfl rfl ?_
      refine g_getA (q := 18) fX1_known dX1_sumOf_15 ww314 rfl ?_
      refine g_iload (q := 20) 0 dX1_sumOf_18 rfl rfl ?_
      refine g_zald (q := 21) (aX1_known) dX1_sumOf_20 rfl ?_
      refine g_if_eq (t := 53) (q := 24) dX1_sumOf_21 (by decide) rfl ?_ ?_
      · refine g_iinc (lr := [(3, .int z2.2), (0, .ref (b + 39)), (1, .int a1), (2, .int a2)]) (q := 56) 0 dX1_sumOf_53 rfl kI_1 (by decide) rfl rfl (fun x3 => ?_)
        refine g_goto (t := 5) dX1_sumOf_56 (by decide) ?_
        exact (g_again ((x3, z2.2) : (Int32 × Int32)))
      · refine g_aload_n (q := 25) 2 dX1_sumOf_24 rfl rfl rfl ?_
        refine g_getA (q := 28) fX1_kinds dX1_sumOf_25 ww310 rfl ?_
        refine g_iload (q := 30) 0 dX1_sumOf_28 rfl rfl ?_
        refine g_iald (q := 31) (aX1_kinds) dX1_sumOf_30 rfl ?_
        refine g_iload_n (q := 32) 3 dX1_sumOf_31 rfl rfl rfl ?_
        refine g_icmp_ne (t := 53) (q := 35) dX1_sumOf_32 (by decide) rfl ?_ ?_
        · refine g_iload_n (q := 36) 1 dX1_sumOf_35 rfl rfl rfl ?_
          refine g_iload_n (q := 37) 4 dX1_sumOf_36 rfl rfl rfl ?_
          refine g_bind (S := Int32) (hd := 51) (lvf := fun z4 => [(4, .int z2.1), (0, .ref (b + 39)), (1, .int a1), (2, .int a2)]) (stf := fun z4 => [.int z4, .int z2.2]) (σf := fun z4 => σ) ?_ (fun z4 => ?_)
          · refine g_if_eq (t := 50) (q := 40) dX1_sumOf_37 (by decide) rfl ?_ ?_
            · refine g_iconst (q := 51) dX1_sumOf_50 kI_1 rfl ?_
              refine g_sub (lr := [(4, .int z2.1), (0, .ref (b + 39)), (1, .int a1), (2, .int a2)]) [0, 2, 3, 4] rfl ?_
              exact (g_there ((1 : Int32) : Int32))
            · refine g_aload_n (q := 41) 2 dX1_sumOf_40 rfl rfl rfl ?_
              refine g_getA (q := 44) fX1_values dX1_sumOf_41 ww313 rfl ?_
              refine g_iload (q := 46) 0 dX1_sumOf_44 rfl rfl ?_
              refine g_iald (q := 47) (aX1_values) dX1_sumOf_46 rfl ?_
              refine g_goto (t := 51) dX1_sumOf_47 (by decide) ?_
              refine g_sub (lr := [(4, .int z2.1), (0, .ref (b + 39)), (1, .int a1), (2, .int a2)]) [0, 2, 3, 4] rfl ?_
              exact (g_there (σ.1 42 z2.1.toNatClampNeg : Int32))
          · refine g_iadd (q := 52) dX1_sumOf_51 rfl ?_
            refine g_leti (fun x5 => ?_)
            refine g_istore_n (lr := [(4, .int z2.1), (0, .ref (b + 39)), (1, .int a1), (2, .int a2)]) (q := 53) dX1_sumOf_52 rfl (by decide) rfl rfl ?_
            refine g_iinc (lr := [(3, .int x5), (0, .ref (b + 39)), (1, .int a1), (2, .int a2)]) (q := 56) 1 dX1_sumOf_53 rfl kI_1 (by decide) rfl rfl (fun x6 => ?_)
            refine g_goto (t := 5) dX1_sumOf_56 (by decide) ?_
            exact (g_again ((x6, x5) : (Int32 × Int32)))
        · refine g_iinc (lr := [(3, .int z2.2), (0, .ref (b + 39)), (1, .int a1), (2, .int a2)]) (q := 56) 0 dX1_sumOf_53 rfl kI_1 (by decide) rfl rfl (fun x7 => ?_)
          refine g_goto (t := 5) dX1_sumOf_56 (by decide) ?_
          exact (g_again ((x7, z2.2) : (Int32 × Int32)))
  · refine g_iload_n (q := 60) 0 dX1_sumOf_59 rfl rfl rfl ?_
    exact (g_iretP dX1_sumOf_60)
