noncomputable def pX4_setPerson (a1 : Int32) (σ : gS) : Option (gS) := bn1 (lpP (fun (z2 : (Int32 × gS)) => if (21 : Int32) ≤ z2.1 then some (.inr z2.2) else if (12 : Int32) ≤ z2.1 then gx z2.1 21 (lt' (wI z2.2 34 z2.1.toNatClampNeg (0 : Int32)) (fun s3 => lt' (z2.1 + (1 : Int32)) (fun x4 => some (.inl (x4, s3))))) else bn1 (pX2_trait a1 z2.1 z2.2) (fun v5 => gx z2.1 21 (lt' (wI z2.2 34 z2.1.toNatClampNeg v5) (fun s7 => lt' (z2.1 + (1 : Int32)) (fun x8 => some (.inl (x8, s7))))))) ((0 : Int32), σ)) (fun (z1 : gS) => some z1)
set_option maxRecDepth 100000 in
theorem cn_X4_setPerson {G : gG} {b : Nat} {a1 : Int32} {σ : gS} : CN vC G b 3 yX4_setPerson cX4_setPerson 3 none kV [.ref (b + 23), .int a1] σ (pX4_setPerson a1 σ) := by
  refine cn_of (own := RX4) rfl rfl (Nat.le_of_ble_eq_true rfl) ?_
  show GF vC G b (3, 0, 0) RX4 cX4_setPerson 3 none kV 0 [(0, .ref (b + 23)), (1, .int a1)] [] σ (pX4_setPerson a1 σ)
  unfold pX4_setPerson
  refine g_iconst (q := 1) dX4_setPerson_0 kI_0 rfl ?_
  refine g_istore_n (lr := [(0, .ref (b + 23)), (1, .int a1)]) (q := 2) dX4_setPerson_1 rfl (by decide) rfl rfl ?_
  refine g_bind (S := gS) (hd := 42) (lvf := fun z1 => []) (stf := fun z1 => []) (σf := fun z1 => z1) ?_ (fun z1 => ?_)
  · refine g_loop (S := (Int32 × gS)) (lvf := fun z2 => [(2, .int z2.1), (0, .ref (b + 23)), (1, .int a1)]) (σf := fun z2 => z2.2) (fun z2 => ?_) ((0 : Int32), σ)
    refine g_iload_n (q := 3) 0 dX4_setPerson_2 rfl rfl rfl ?_
    refine g_bipush (q := 5) dX4_setPerson_3 kB_21 rfl ?_
    refine g_icmp_ge (t := 42) (q := 8) dX4_setPerson_5 (by decide) rfl ?_ ?_
    · refine g_sub (lr := []) [] rfl ?_
      exact (g_leave (g_there (z2.2 : gS)))
    · refine g_aload_n (q := 9) 1 dX4_setPerson_8 rfl rfl rfl ?_
      refine g_getA (q := 12) fX4_reckoner dX4_setPerson_9 ww285 rfl ?_
      refine g_getA (q := 15) fX3_slots dX4_setPerson_12 ww272 rfl ?_
      refine g_iload_n (q := 16) 0 dX4_setPerson_15 rfl rfl rfl ?_
      refine g_iload_n (q := 17) 0 dX4_setPerson_16 rfl rfl rfl ?_
      refine g_bipush (q := 19) dX4_setPerson_17 kB_12 rfl ?_
      refine g_icmp_ge (t := 34) (q := 22) dX4_setPerson_19 (by decide) rfl ?_ ?_
      · refine g_iconst (q := 35) dX4_setPerson_34 kI_0 rfl ?_
        refine g_iast (q := 36) (aX3_slots) dX4_setPerson_35 rfl (fun s3 => ?_)
        refine g_iinc (lr := [(0, .ref (b + 23)), (1, .int a1)]) (q := 39) 0 dX4_setPerson_36 rfl kI_1 (by decide) rfl rfl (fun x4 => ?_)
        refine g_goto (t := 2) dX4_setPerson_39 (by decide) ?_
        exact (g_again ((x4, s3) : (Int32 × gS)))
      · refine g_aload_n (q := 23) 1 dX4_setPerson_22 rfl rfl rfl ?_
        refine g_getA (q := 26) fX4_people dX4_setPerson_23 ww284 rfl ?_
        refine g_iload_n (q := 27) 2 dX4_setPerson_26 rfl rfl rfl ?_
        refine g_iload_n (q := 28) 0 dX4_setPerson_27 rfl rfl rfl ?_
        refine g_callO (As := [.int a1, .int z2.1]) (st := [.int z2.1, .ref (b + 34)]) (cn_X2_trait) shX2 rfl cwX4_59 rfl dX4_setPerson_28 rfl (Nat.le_of_ble_eq_true rfl) (by decide) (kk_PI (fun v5 => ?_))
        refine g_goto (t := 35) dX4_setPerson_31 (by decide) ?_
        refine g_iast (q := 36) (aX3_slots) dX4_setPerson_35 rfl (fun s7 => ?_)
        refine g_iinc (lr := [(0, .ref (b + 23)), (1, .int a1)]) (q := 39) 0 dX4_setPerson_36 rfl kI_1 (by decide) rfl rfl (fun x8 => ?_)
        refine g_goto (t := 2) dX4_setPerson_39 (by decide) ?_
        exact (g_again ((x8, s7) : (Int32 × gS)))
  · exact (g_vret dX4_setPerson_42)
noncomputable def pX4_markBySigns (a1 : Int32) (a2 : Int32) (a3 : Int32) (σ : gS) : Option (gS) := bn1 (lpP (fun (z2 : (Int32 × gS)) => gT (z2.2.2.2 23 0) tR (fun rr3 => if (z2.2.1 rr3 0) ≤ z2.1 then some (.inr z2.2) else bn1 (pX4_setPerson a1 z2.2) (fun s5 => gT (s5.2.2 23 0) tR (fun rr6 => bn2 (pX3_valueOf rr6 ((0 : Int32) + z2.1) s5) (fun v7 s8 => bn1 (if v7 = (1 : Int32) then some (1 : Int32) else some (0 : Int32)) (fun (z9 : Int32) => if z9 = 0 then lt' (z2.1 + (1 : Int32)) (fun x10 => some (.inl (x10, s8))) else bn1 (pX2_lot (10 : Int32) a2 ((((20 : Int32) * a1) + (12 : Int32)) + z2.1)) (fun v11 => if a3 ≤ v11 then lt' (z2.1 + (1 : Int32)) (fun x13 => some (.inl (x13, s8))) else bn1 (pX2_setTrait a1 ((4 : Int32) + z2.1) (9 : Int32) s8) (fun s15 => lt' (z2.1 + (1 : Int32)) (fun x16 => some (.inl (x16, s15))))))))))) ((0 : Int32), σ)) (fun (z1 : gS) => some z1)
set_option maxRecDepth 100000 in
theorem cn_X4_markBySigns {G : gG} {b : Nat} {a1 : Int32} {a2 : Int32} {a3 : Int32} {σ : gS} : CN vC G b 4 yX4_markBySigns cX4_markBySigns 6 none kV [.ref (b + 23), .int a1, .int a2, .int a3] σ (pX4_markBySigns a1 a2 a3 σ) := by
  refine cn_of (own := RX4) rfl rfl (Nat.le_of_ble_eq_true rfl) ?_
  show GF vC G b (4, 0, 0) RX4 cX4_markBySigns 6 none kV 0 [(0, .ref (b + 23)), (1, .int a1), (2, .int a2), (3, .int a3)] [] σ (pX4_markBySigns a1 a2 a3 σ)
  unfold pX4_markBySigns
  refine g_iconst (q := 1) dX4_markBySigns_0 kI_0 rfl ?_
  refine g_istore (lr := [(0, .ref (b + 23)), (1, .int a1), (2, .int a2), (3, .int a3)]) (q := 3) dX4_markBySigns_1 (by decide) rfl rfl ?_
  refine g_bind (S := gS) (hd := 91) (lvf := fun z1 => []) (stf := fun z1 => []) (σf := fun z1 => z1) ?_ (fun z1 => ?_)
  · refine g_loop (S := (Int32 × gS)) (lvf := fun z2 => [(4, .int z2.1), (0, .ref (b + 23)), (1, .int a1), (2, .int a2), (3, .int a3)]) (σf := fun z2 => z2.2) (fun z2 => ?_) ((0 : Int32), σ)
    refine g_iload (q := 5) 0 dX4_markBySigns_3 rfl rfl ?_
    refine g_aload_n (q := 6) 1 dX4_markBySigns_5 rfl rfl rfl ?_
    refine g_getR (cT := tR) (q := 9) fX4_told dX4_markBySigns_6 ww282 rfl (fun rr3 hrr3 => ?_)
    refine g_getI (q := 12) (fX9_signs hrr3) dX4_markBySigns_9 ww137 rfl ?_
    refine g_icmp_ge (t := 91) (q := 15) dX4_markBySigns_12 (by decide) rfl ?_ ?_
    · refine g_sub (lr := []) [] rfl ?_
      exact (g_leave (g_there (z2.2 : gS)))
    · refine g_aload_n (q := 16) 1 dX4_markBySigns_15 rfl rfl rfl ?_
      refine g_iload_n (q := 17) 2 dX4_markBySigns_16 rfl rfl rfl ?_
      refine g_callO (As := [.int a1]) (st := []) (cn_X4_setPerson) shX4 rfl cwX4_45 rfl dX4_markBySigns_17 rfl (Nat.le_of_ble_eq_true rfl) (by decide) (kk_V (fun s5 => ?_))
      refine g_aload_n (q := 21) 1 dX4_markBySigns_20 rfl rfl rfl ?_
      refine g_getA (q := 24) fX4_reckoner dX4_markBySigns_21 ww285 rfl ?_
      refine g_aload_n (q := 25) 1 dX4_markBySigns_24 rfl rfl rfl ?_
      refine g_getR (cT := tR) (q := 28) fX4_told dX4_markBySigns_25 ww282 rfl (fun rr6 hrr6 => ?_)
      refine g_iconst (q := 29) dX4_markBySigns_28 kI_0 rfl ?_
      refine g_iload (q := 31) 0 dX4_markBySigns_29 rfl rfl ?_
      refine g_iadd (q := 32) dX4_markBySigns_31 rfl ?_
      refine g_callO (As := [.ref (b + rr6), .int ((0 : Int32) + z2.1)]) (st := []) (cn_X3_valueOf hrr6) shX3 rfl cwX4_68 rfl dX4_markBySigns_32 rfl (Nat.le_of_ble_eq_true rfl) (by decide) (kk_I (fun v7 s8 => ?_))
      refine g_iconst (q := 36) dX4_markBySigns_35 kI_1 rfl ?_
      refine g_bind (S := Int32) (hd := 44) (lvf := fun z9 => [(4, .int z2.1), (0, .ref (b + 23)), (1, .int a1), (2, .int a2), (3, .int a3)]) (stf := fun z9 => [.int z9]) (σf := fun z9 => s8) ?_ (fun z9 => ?_)
      · refine g_icmp_ne (t := 43) (q := 39) dX4_markBySigns_36 (by decide) rfl ?_ ?_
        · refine g_iconst (q := 40) dX4_markBySigns_39 kI_1 rfl ?_
          refine g_goto (t := 44) dX4_markBySigns_40 (by decide) ?_
          exact (g_there ((1 : Int32) : Int32))
        · refine g_iconst (q := 44) dX4_markBySigns_43 kI_0 rfl ?_
          exact (g_there ((0 : Int32) : Int32))
      · refine g_istore (lr := [(4, .int z2.1), (0, .ref (b + 23)), (1, .int a1), (2, .int a2), (3, .int a3)]) (q := 46) dX4_markBySigns_44 (by decide) rfl rfl ?_
        refine g_iload (q := 48) 0 dX4_markBySigns_46 rfl rfl ?_
        refine g_if_eq (t := 85) (q := 51) dX4_markBySigns_48 (by decide) rfl ?_ ?_
        · refine g_iinc (lr := [(5, .int z9), (0, .ref (b + 23)), (1, .int a1), (2, .int a2), (3, .int a3)]) (q := 88) 1 dX4_markBySigns_85 rfl kI_1 (by decide) rfl rfl (fun x10 => ?_)
          refine g_goto (t := 3) dX4_markBySigns_88 (by decide) ?_
          refine g_sub (lr := [(4, .int x10), (0, .ref (b + 23)), (1, .int a1), (2, .int a2), (3, .int a3)]) [0, 2, 3, 4, 5] rfl ?_
          exact (g_again ((x10, s8) : (Int32 × gS)))
        · refine g_bipush (q := 53) dX4_markBySigns_51 kB_10 rfl ?_
          refine g_iload_n (q := 54) 4 dX4_markBySigns_53 rfl rfl rfl ?_
          refine g_bipush (q := 56) dX4_markBySigns_54 kB_20 rfl ?_
          refine g_iload_n (q := 57) 3 dX4_markBySigns_56 rfl rfl rfl ?_
          refine g_imul (q := 58) dX4_markBySigns_57 rfl ?_
          refine g_bipush (q := 60) dX4_markBySigns_58 kB_12 rfl ?_
          refine g_iadd (q := 61) dX4_markBySigns_60 rfl ?_
          refine g_iload (q := 63) 1 dX4_markBySigns_61 rfl rfl ?_
          refine g_iadd (q := 64) dX4_markBySigns_63 rfl ?_
          refine g_callT (As := [.int (10 : Int32), .int a2, .int ((((20 : Int32) * a1) + (12 : Int32)) + z2.1)]) (st := []) (cn_X2_lot) cwX4_72 rfl dX4_markBySigns_64 rfl (Nat.le_of_ble_eq_true rfl) (by decide) (kk_PI (fun v11 => ?_))
          refine g_iload_n (q := 68) 5 dX4_markBySigns_67 rfl rfl rfl ?_
          refine g_icmp_ge (t := 85) (q := 71) dX4_markBySigns_68 (by decide) rfl ?_ ?_
          · refine g_iinc (lr := [(5, .int z9), (0, .ref (b + 23)), (1, .int a1), (2, .int a2), (3, .int a3)]) (q := 88) 1 dX4_markBySigns_85 rfl kI_1 (by decide) rfl rfl (fun x13 => ?_)
            refine g_goto (t := 3) dX4_markBySigns_88 (by decide) ?_
            refine g_sub (lr := [(4, .int x13), (0, .ref (b + 23)), (1, .int a1), (2, .int a2), (3, .int a3)]) [0, 2, 3, 4, 5] rfl ?_
            exact (g_again ((x13, s8) : (Int32 × gS)))
          · refine g_aload_n (q := 72) 2 dX4_markBySigns_71 rfl rfl rfl ?_
            refine g_getA (q := 75) fX4_people dX4_markBySigns_72 ww284 rfl ?_
            refine g_iload_n (q := 76) 3 dX4_markBySigns_75 rfl rfl rfl ?_
            refine g_iconst (q := 77) dX4_markBySigns_76 kI_4 rfl ?_
            refine g_iload (q := 79) 1 dX4_markBySigns_77 rfl rfl ?_
            refine g_iadd (q := 80) dX4_markBySigns_79 rfl ?_
            refine g_bipush (q := 82) dX4_markBySigns_80 kB_9 rfl ?_
            refine g_callO (As := [.int a1, .int ((4 : Int32) + z2.1), .int (9 : Int32)]) (st := []) (cn_X2_setTrait) shX2 rfl cwX4_76 rfl dX4_markBySigns_82 rfl (Nat.le_of_ble_eq_true rfl) (by decide) (kk_V (fun s15 => ?_))
            refine g_iinc (lr := [(5, .int z9), (0, .ref (b + 23)), (1, .int a1), (2, .int a2), (3, .int a3)]) (q := 88) 1 dX4_markBySigns_85 rfl kI_1 (by decide) rfl rfl (fun x16 => ?_)
            refine g_goto (t := 3) dX4_markBySigns_88 (by decide) ?_
            refine g_sub (lr := [(4, .int x16), (0, .ref (b + 23)), (1, .int a1), (2, .int a2), (3, .int a3)]) [0, 2, 3, 4, 5] rfl ?_
            exact (g_again ((x16, s15) : (Int32 × gS)))
  · exact (g_vret dX4_markBySigns_91)
noncomputable def pX10_world (a1 : Int32) (a2 : Int32) (a3 : Int32) (σ : gS) : Option (Int32 × gS) := bn1 (pX10_inRange a2 (0 : Int32) (20 : Int32)) (fun v1 => if v1 = 0 then some ((-1 : Int32), σ) else bn1 (pX10_inRange a3 (0 : Int32) (10 : Int32)) (fun v3 => if v3 = 0 then some ((-1 : Int32), σ) else lt' (wI σ 21 1 a2) (fun s5 => bn1 (lpP (fun (z7 : (Int32 × gS)) => if a2 ≤ z7.1 then some (.inr z7.2) else bn1 (pX2_draw z7.1 a1 z7.2) (fun s9 => bn1 (pX4_markBySigns z7.1 a1 a3 s9) (fun s11 => lt' (z7.1 + (1 : Int32)) (fun x12 => some (.inl (x12, s11)))))) ((0 : Int32), s5)) (fun (z6 : gS) => some (a2, z6)))))
set_option maxRecDepth 100000 in
theorem cn_X10_world {G : gG} {b : Nat} {a1 : Int32} {a2 : Int32} {a3 : Int32} {σ : gS} : CN vC G b 5 yX10_world cX10_world 5 (some .int) kI [.ref (b + 0), .int a1, .int a2, .int a3] σ (pX10_world a1 a2 a3 σ) := by
  refine cn_of (own := RX10) rfl rfl (Nat.le_of_ble_eq_true rfl) ?_
  show GF vC G b (5, 0, 0) RX10 cX10_world 5 (some .int) kI 0 [(0, .ref (b + 0)), (1, .int a1), (2, .int a2), (3, .int a3)] [] σ (pX10_world a1 a2 a3 σ)
  unfold pX10_world
  refine g_iload_n (q := 1) 2 dX10_world_0 rfl rfl rfl ?_
  refine g_iconst (q := 2) dX10_world_1 kI_0 rfl ?_
  refine g_bipush (q := 4) dX10_world_2 kB_20 rfl ?_
  refine g_callT (As := [.int a2, .int (0 : Int32), .int (20 : Int32)]) (st := []) (cn_X10_inRange) cwX10_88 rfl dX10_world_4 rfl (Nat.le_of_ble_eq_true rfl) (by decide) (kk_PI (fun v1 => ?_))
  refine g_if_eq (t := 20) (q := 10) dX10_world_7 (by decide) rfl ?_ ?_
  · refine g_iconst (q := 21) dX10_world_20 kI_m1 rfl ?_
    exact (g_iret dX10_world_21)
  · refine g_iload_n (q := 11) 3 dX10_world_10 rfl rfl rfl ?_
    refine g_iconst (q := 12) dX10_world_11 kI_0 rfl ?_
    refine g_bipush (q := 14) dX10_world_12 kB_10 rfl ?_
    refine g_callT (As := [.int a3, .int (0 : Int32), .int (10 : Int32)]) (st := []) (cn_X10_inRange) cwX10_88 rfl dX10_world_14 rfl (Nat.le_of_ble_eq_true rfl) (by decide) (kk_PI (fun v3 => ?_))
    refine g_if_ne (t := 22) (q := 20) dX10_world_17 (by decide) rfl ?_ ?_
    · refine g_iconst (q := 21) dX10_world_20 kI_m1 rfl ?_
      exact (g_iret dX10_world_21)
    · refine g_aload_n (q := 23) 0 dX10_world_22 rfl rfl rfl ?_
      refine g_getA (q := 26) fX10_people dX10_world_23 ww379 rfl ?_
      refine g_iload_n (q := 27) 2 dX10_world_26 rfl rfl rfl ?_
      refine g_putI (q := 30) fX2_size pwX2_size okTX2 dX10_world_27 ww251 rfl (fun s5 => ?_)
      refine g_iconst (q := 31) dX10_world_30 kI_0 rfl ?_
      refine g_istore (lr := [(0, .ref (b + 0)), (1, .int a1), (2, .int a2), (3, .int a3)]) (q := 33) dX10_world_31 (by decide) rfl rfl ?_
      refine g_bind (S := gS) (hd := 66) (lvf := fun z6 => [(2, .int a2)]) (stf := fun z6 => []) (σf := fun z6 => z6) ?_ (fun z6 => ?_)
      · refine g_loop (S := (Int32 × gS)) (lvf := fun z7 => [(4, .int z7.1), (0, .ref (b + 0)), (1, .int a1), (2, .int a2), (3, .int a3)]) (σf := fun z7 => z7.2) (fun z7 => ?_) ((0 : Int32), s5)
        refine g_iload (q := 35) 0 dX10_world_33 rfl rfl ?_
        refine g_iload_n (q := 36) 3 dX10_world_35 rfl rfl rfl ?_
        refine g_icmp_ge (t := 66) (q := 39) dX10_world_36 (by decide) rfl ?_ ?_
        · refine g_sub (lr := [(2, .int a2)]) [3] rfl ?_
          exact (g_leave (g_there (z7.2 : gS)))
        · refine g_aload_n (q := 40) 1 dX10_world_39 rfl rfl rfl ?_
          refine g_getA (q := 43) fX10_people dX10_world_40 ww379 rfl ?_
          refine g_iload (q := 45) 0 dX10_world_43 rfl rfl ?_
          refine g_iload_n (q := 46) 2 dX10_world_45 rfl rfl rfl ?_
          refine g_callO (As := [.int z7.1, .int a1]) (st := []) (cn_X2_draw) shX2 rfl cwX10_100 rfl dX10_world_46 rfl (Nat.le_of_ble_eq_true rfl) (by decide) (kk_V (fun s9 => ?_))
          refine g_aload_n (q := 50) 1 dX10_world_49 rfl rfl rfl ?_
          refine g_getA (q := 53) fX10_sky dX10_world_50 ww380 rfl ?_
          refine g_iload (q := 55) 0 dX10_world_53 rfl rfl ?_
          refine g_iload_n (q := 56) 2 dX10_world_55 rfl rfl rfl ?_
          refine g_iload_n (q := 57) 4 dX10_world_56 rfl rfl rfl ?_
          refine g_callO (As := [.int z7.1, .int a1, .int a3]) (st := []) (cn_X4_markBySigns) shX4 rfl cwX10_103 rfl dX10_world_57 rfl (Nat.le_of_ble_eq_true rfl) (by decide) (kk_V (fun s11 => ?_))
          refine g_iinc (lr := [(0, .ref (b + 0)), (1, .int a1), (2, .int a2), (3, .int a3)]) (q := 63) 0 dX10_world_60 rfl kI_1 (by decide) rfl rfl (fun x12 => ?_)
          refine g_goto (t := 33) dX10_world_63 (by decide) ?_
          exact (g_again ((x12, s11) : (Int32 × gS)))
      · refine g_iload_n (q := 67) 0 dX10_world_66 rfl rfl rfl ?_
        exact (g_iret dX10_world_67)
noncomputable def pX2_has (a1 : Int32) (σ : gS) : Option (Int32) := if a1 < 0 then some (0 : Int32) else if (σ.1 21 1) ≤ a1 then some (0 : Int32) else some (1 : Int32)
set_option maxRecDepth 100000 in
theorem cn_X2_has {G : gG} {b : Nat} {a1 : Int32} {σ : gS} : CN vC G b 1 yX2_has cX2_has 2 (some .boolean) (kPI σ) [.ref (b + 21), .int a1] σ (pX2_has a1 σ) := by
  refine cn_of (own := RX2) rfl rfl (Nat.le_of_ble_eq_true rfl) ?_
  show GF vC G b (1, 0, 0) RX2 cX2_has 2 (some .boolean) (kPI σ) 0 [(0, .ref (b + 21)), (1, .int a1)] [] σ (pX2_has a1 σ)
  unfold pX2_has
  refine g_iload_n (q := 1) 1 dX2_has_0 rfl rfl rfl ?_
  refine g_if_lt (t := 16) (q := 4) dX2_has_1 (by decide) rfl ?_ ?_
  · refine g_iconst (q := 17) dX2_has_16 kI_0 rfl ?_
    exact (g_bretP0 dX2_has_17)
  · refine g_iload_n (q := 5) 1 dX2_has_4 rfl rfl rfl ?_
    refine g_aload_n (q := 6) 0 dX2_has_5 rfl rfl rfl ?_
    refine g_getI (q := 9) fX2_size dX2_has_6 ww249 rfl ?_
    refine g_icmp_ge (t := 16) (q := 12) dX2_has_9 (by decide) rfl ?_ ?_
    · refine g_iconst (q := 17) dX2_has_16 kI_0 rfl ?_
      exact (g_bretP0 dX2_has_17)
    · refine g_iconst (q := 13) dX2_has_12 kI_1 rfl ?_
      refine g_goto (t := 17) dX2_has_13 (by decide) ?_
      exact (g_bretP1 dX2_has_17)
noncomputable def pX10_of (a1 : Int32) (a2 : Int32) (σ : gS) : Option (Int32) := bn1 (pX2_has a1 σ) (fun v1 => if v1 = 0 then some ((-1 : Int32)) else bn1 (pX10_inRange a2 (0 : Int32) (3 : Int32)) (fun v3 => if v3 = 0 then bn1 (pX10_inRange a2 (10 : Int32) (17 : Int32)) (fun v5 => if v5 = 0 then some ((-1 : Int32)) else bn1 (pX2_trait a1 (((4 : Int32) + a2) - (10 : Int32)) σ) (fun v7 => some (v7))) else bn1 (pX2_trait a1 ((0 : Int32) + a2) σ) (fun v9 => some (v9))))
set_option maxRecDepth 100000 in
theorem cn_X10_of {G : gG} {b : Nat} {a1 : Int32} {a2 : Int32} {σ : gS} : CN vC G b 3 yX10_of cX10_of 3 (some .int) (kPI σ) [.ref (b + 0), .int a1, .int a2] σ (pX10_of a1 a2 σ) := by
  refine cn_of (own := RX10) rfl rfl (Nat.le_of_ble_eq_true rfl) ?_
  show GF vC G b (3, 0, 0) RX10 cX10_of 3 (some .int) (kPI σ) 0 [(0, .ref (b + 0)), (1, .int a1), (2, .int a2)] [] σ (pX10_of a1 a2 σ)
  unfold pX10_of
  refine g_aload_n (q := 1) 0 dX10_of_0 rfl rfl rfl ?_
  refine g_getA (q := 4) fX10_people dX10_of_1 ww379 rfl ?_
  refine g_iload_n (q := 5) 1 dX10_of_4 rfl rfl rfl ?_
  refine g_callO (As := [.int a1]) (st := []) (cn_X2_has) shX2 rfl cwX10_106 rfl dX10_of_5 rfl (Nat.le_of_ble_eq_true rfl) (by decide) (kk_PI (fun v1 => ?_))
  refine g_if_ne (t := 13) (q := 11) dX10_of_8 (by decide) rfl ?_ ?_
  · refine g_iconst (q := 12) dX10_of_11 kI_m1 rfl ?_
    exact (g_iretP dX10_of_12)
  · refine g_iload_n (q := 14) 2 dX10_of_13 rfl rfl rfl ?_
    refine g_iconst (q := 15) dX10_of_14 kI_0 rfl ?_
    refine g_iconst (q := 16) dX10_of_15 kI_3 rfl ?_
    refine g_callT (As := [.int a2, .int (0 : Int32), .int (3 : Int32)]) (st := []) (cn_X10_inRange) cwX10_88 rfl dX10_of_16 rfl (Nat.le_of_ble_eq_true rfl) (by decide) (kk_PI (fun v3 => ?_))
    refine g_if_eq (t := 34) (q := 22) dX10_of_19 (by decide) rfl ?_ ?_
    · refine g_iload_n (q := 35) 2 dX10_of_34 rfl rfl rfl ?_
      refine g_bipush (q := 37) dX10_of_35 kB_10 rfl ?_
      refine g_bipush (q := 39) dX10_of_37 kB_17 rfl ?_
      refine g_callT (As := [.int a2, .int (10 : Int32), .int (17 : Int32)]) (st := []) (cn_X10_inRange) cwX10_88 rfl dX10_of_39 rfl (Nat.le_of_ble_eq_true rfl) (by decide) (kk_PI (fun v5 => ?_))
      refine g_if_eq (t := 62) (q := 45) dX10_of_42 (by decide) rfl ?_ ?_
      · refine g_iconst (q := 63) dX10_of_62 kI_m1 rfl ?_
        exact (g_iretP dX10_of_63)
      · refine g_aload_n (q := 46) 0 dX10_of_45 rfl rfl rfl ?_
        refine g_getA (q := 49) fX10_people dX10_of_46 ww379 rfl ?_
        refine g_iload_n (q := 50) 1 dX10_of_49 rfl rfl rfl ?_
        refine g_iconst (q := 51) dX10_of_50 kI_4 rfl ?_
        refine g_iload_n (q := 52) 2 dX10_of_51 rfl rfl rfl ?_
        refine g_iadd (q := 53) dX10_of_52 rfl ?_
        refine g_bipush (q := 55) dX10_of_53 kB_10 rfl ?_
        refine g_isub (q := 56) dX10_of_55 rfl ?_
        refine g_callO (As := [.int a1, .int (((4 : Int32) + a2) - (10 : Int32))]) (st := []) (cn_X2_trait) shX2 rfl cwX10_110 rfl dX10_of_56 rfl (Nat.le_of_ble_eq_true rfl) (by decide) (kk_PI (fun v7 => ?_))
        refine g_goto (t := 63) dX10_of_59 (by decide) ?_
        exact (g_iretP dX10_of_63)
    · refine g_aload_n (q := 23) 0 dX10_of_22 rfl rfl rfl ?_
      refine g_getA (q := 26) fX10_people dX10_of_23 ww379 rfl ?_
      refine g_iload_n (q := 27) 1 dX10_of_26 rfl rfl rfl ?_
      refine g_iconst (q := 28) dX10_of_27 kI_0 rfl ?_
      refine g_iload_n (q := 29) 2 dX10_of_28 rfl rfl rfl ?_
      refine g_iadd (q := 30) dX10_of_29 rfl ?_
      refine g_callO (As := [.int a1, .int ((0 : Int32) + a2)]) (st := []) (cn_X2_trait) shX2 rfl cwX10_110 rfl dX10_of_30 rfl (Nat.le_of_ble_eq_true rfl) (by decide) (kk_PI (fun v9 => ?_))
      exact (g_iretP dX10_of_33)
noncomputable def pX4_bitsOf (a1 : Int32) (a2 : Int32) (σ : gS) : Option (Int32 × gS) := bn1 (lpP (fun (z2 : (Int32 × Int32 × gS)) => if a2 ≤ z2.1 then some (.inr (z2.2.1, z2.2.2)) else gT (z2.2.2.2.2 23 0) tR (fun rr3 => bn2 (pX3_valueOf rr3 (a1 + z2.1) z2.2.2) (fun v4 s5 => if v4 = (1 : Int32) then lt' (z2.2.1 ||| ((1 : Int32) <<< (z2.1 &&& (31 : Int32)))) (fun x6 => lt' (z2.1 + (1 : Int32)) (fun x7 => some (.inl (x7, x6, s5)))) else lt' (z2.1 + (1 : Int32)) (fun x8 => some (.inl (x8, z2.2.1, s5)))))) ((0 : Int32), (0 : Int32), σ)) (fun (z1 : (Int32 × gS)) => some (z1.1, z1.2))
set_option maxRecDepth 100000 in
theorem cn_X4_bitsOf {G : gG} {b : Nat} {a1 : Int32} {a2 : Int32} {σ : gS} : CN vC G b 4 yX4_bitsOf cX4_bitsOf 5 (some .int) kI [.ref (b + 23), .int a1, .int a2] σ (pX4_bitsOf a1 a2 σ) := by
  refine cn_of (own := RX4) rfl rfl (Nat.le_of_ble_eq_true rfl) ?_
  show GF vC G b (4, 0, 0) RX4 cX4_bitsOf 5 (some .int) kI 0 [(0, .ref (b + 23)), (1, .int a1), (2, .int a2)] [] σ (pX4_bitsOf a1 a2 σ)
  unfold pX4_bitsOf
  refine g_iconst (q := 1) dX4_bitsOf_0 kI_0 rfl ?_
  refine g_istore_n (lr := [(0, .ref (b + 23)), (1, .int a1), (2, .int a2)]) (q := 2) dX4_bitsOf_1 rfl (by decide) rfl rfl ?_
  refine g_iconst (q := 3) dX4_bitsOf_2 kI_0 rfl ?_
  refine g_istore (lr := [(3, .int (0 : Int32)), (0, .ref (b + 23)), (1, .int a1), (2, .int a2)]) (q := 5) dX4_bitsOf_3 (by decide) rfl rfl ?_
  refine g_bind (S := (Int32 × gS)) (hd := 43) (lvf := fun z1 => [(3, .int z1.1)]) (stf := fun z1 => []) (σf := fun z1 => z1.2) ?_ (fun z1 => ?_)
  · refine g_loop (S := (Int32 × Int32 × gS)) (lvf := fun z2 => [(4, .int z2.1), (3, .int z2.2.1), (0, .ref (b + 23)), (1, .int a1), (2, .int a2)]) (σf := fun z2 => z2.2.2) (fun z2 => ?_) ((0 : Int32), (0 : Int32), σ)
    refine g_iload (q := 7) 0 dX4_bitsOf_5 rfl rfl ?_
    refine g_iload_n (q := 8) 4 dX4_bitsOf_7 rfl rfl rfl ?_
    refine g_icmp_ge (t := 43) (q := 11) dX4_bitsOf_8 (by decide) rfl ?_ ?_
    · refine g_sub (lr := [(3, .int z2.2.1)]) [1] rfl ?_
      exact (g_leave (g_there ((z2.2.1, z2.2.2) : (Int32 × gS))))
    · refine g_aload_n (q := 12) 2 dX4_bitsOf_11 rfl rfl rfl ?_
      refine g_getA (q := 15) fX4_reckoner dX4_bitsOf_12 ww285 rfl ?_
      refine g_aload_n (q := 16) 2 dX4_bitsOf_15 rfl rfl rfl ?_
      refine g_getR (cT := tR) (q := 19) fX4_told dX4_bitsOf_16 ww282 rfl (fun rr3 hrr3 => ?_)
      refine g_iload_n (q := 20) 3 dX4_bitsOf_19 rfl rfl rfl ?_
      refine g_iload (q := 22) 0 dX4_bitsOf_20 rfl rfl ?_
      refine g_iadd (q := 23) dX4_bitsOf_22 rfl ?_
      refine g_callO (As := [.ref (b + rr3), .int (a1 + z2.1)]) (st := []) (cn_X3_valueOf hrr3) shX3 rfl cwX4_68 rfl dX4_bitsOf_23 rfl (Nat.le_of_ble_eq_true rfl) (by decide) (kk_I (fun v4 s5 => ?_))
      refine g_iconst (q := 27) dX4_bitsOf_26 kI_1 rfl ?_
      refine g_icmp_ne (t := 37) (q := 30) dX4_bitsOf_27 (by decide) rfl ?_ ?_
      · refine g_iload_n (q := 31) 1 dX4_bitsOf_30 rfl rfl rfl ?_
        refine g_iconst (q := 32) dX4_bitsOf_31 kI_1 rfl ?_
        refine g_iload (q := 34) 0 dX4_bitsOf_32 rfl rfl ?_
        refine g_ishl (q := 35) dX4_bitsOf_34 rfl ?_
        refine g_ior (q := 36) dX4_bitsOf_35 rfl ?_
        refine g_leti (fun x6 => ?_)
        refine g_istore_n (lr := [(4, .int z2.1), (0, .ref (b + 23)), (1, .int a1), (2, .int a2)]) (q := 37) dX4_bitsOf_36 rfl (by decide) rfl rfl ?_
        refine g_iinc (lr := [(3, .int x6), (0, .ref (b + 23)), (1, .int a1), (2, .int a2)]) (q := 40) 1 dX4_bitsOf_37 rfl kI_1 (by decide) rfl rfl (fun x7 => ?_)
        refine g_goto (t := 5) dX4_bitsOf_40 (by decide) ?_
        exact (g_again ((x7, x6, s5) : (Int32 × Int32 × gS)))
      · refine g_iinc (lr := [(3, .int z2.2.1), (0, .ref (b + 23)), (1, .int a1), (2, .int a2)]) (q := 40) 0 dX4_bitsOf_37 rfl kI_1 (by decide) rfl rfl (fun x8 => ?_)
        refine g_goto (t := 5) dX4_bitsOf_40 (by decide) ?_
        exact (g_again ((x8, z2.2.1, s5) : (Int32 × Int32 × gS)))
  · refine g_iload_n (q := 44) 0 dX4_bitsOf_43 rfl rfl rfl ?_
    exact (g_iret dX4_bitsOf_44)
noncomputable def pX4_upAt (a1 : Int32) (a2 : Int32) (σ : gS) : Option (Int32 × gS) := bn1 (pX4_setPerson a1 σ) (fun s2 => gx (0 : Int32) 21 (lt' (wI s2 34 (0 : Int32).toNatClampNeg a2) (fun s3 => gT (s3.2.2 23 0) tR (fun rr4 => bn2 (pX4_bitsOf (0 : Int32) (s3.1 rr4 0) s3) (fun v5 s6 => some (v5, s6))))))
set_option maxRecDepth 100000 in
theorem cn_X4_upAt {G : gG} {b : Nat} {a1 : Int32} {a2 : Int32} {σ : gS} : CN vC G b 5 yX4_upAt cX4_upAt 3 (some .int) kI [.ref (b + 23), .int a1, .int a2] σ (pX4_upAt a1 a2 σ) := by
  refine cn_of (own := RX4) rfl rfl (Nat.le_of_ble_eq_true rfl) ?_
  show GF vC G b (5, 0, 0) RX4 cX4_upAt 3 (some .int) kI 0 [(0, .ref (b + 23)), (1, .int a1), (2, .int a2)] [] σ (pX4_upAt a1 a2 σ)
  unfold pX4_upAt
  refine g_aload_n (q := 1) 0 dX4_upAt_0 rfl rfl rfl ?_
  refine g_iload_n (q := 2) 1 dX4_upAt_1 rfl rfl rfl ?_
  refine g_callO (As := [.int a1]) (st := []) (cn_X4_setPerson) shX4 rfl cwX4_45 rfl dX4_upAt_2 rfl (Nat.le_of_ble_eq_true rfl) (by decide) (kk_V (fun s2 => ?_))
  refine g_aload_n (q := 6) 0 dX4_upAt_5 rfl rfl rfl ?_
  refine g_getA (q := 9) fX4_reckoner dX4_upAt_6 ww285 rfl ?_
  refine g_getA (q := 12) fX3_slots dX4_upAt_9 ww272 rfl ?_
  refine g_iconst (q := 13) dX4_upAt_12 kI_0 rfl ?_
  refine g_iload_n (q := 14) 2 dX4_upAt_13 rfl rfl rfl ?_
  refine g_iast (q := 15) (aX3_slots) dX4_upAt_14 rfl (fun s3 => ?_)
  refine g_aload_n (q := 16) 0 dX4_upAt_15 rfl rfl rfl ?_
  refine g_iconst (q := 17) dX4_upAt_16 kI_0 rfl ?_
  refine g_aload_n (q := 18) 0 dX4_upAt_17 rfl rfl rfl ?_
  refine g_getR (cT := tR) (q := 21) fX4_told dX4_upAt_18 ww282 rfl (fun rr4 hrr4 => ?_)
  refine g_getI (q := 24) (fX9_signs hrr4) dX4_upAt_21 ww137 rfl ?_
  refine g_callO (As := [.int (0 : Int32), .int (s3.1 rr4 0)]) (st := []) (cn_X4_bitsOf) shX4 rfl cwX4_52 rfl dX4_upAt_24 rfl (Nat.le_of_ble_eq_true rfl) (by decide) (kk_I (fun v5 s6 => ?_))
  exact (g_iret dX4_upAt_27)
noncomputable def pX10_signs (a1 : Int32) (a2 : Int32) (σ : gS) : Option (Int32 × gS) := bn1 (pX2_has a1 σ) (fun v1 => if v1 = 0 then some ((-1 : Int32), σ) else bn1 (pX10_inRange a2 (-1 : Int32) (59 : Int32)) (fun v3 => if v3 = 0 then some ((-1 : Int32), σ) else if a2 = (-1 : Int32) then bn1 (pX2_trait a1 (0 : Int32) σ) (fun v5 => bn2 (pX4_upAt a1 v5 σ) (fun v7 s8 => some (v7, s8))) else bn2 (pX4_upAt a1 a2 σ) (fun v9 s10 => some (v9, s10))))
set_option maxRecDepth 100000 in
theorem cn_X10_signs {G : gG} {b : Nat} {a1 : Int32} {a2 : Int32} {σ : gS} : CN vC G b 6 yX10_signs cX10_signs 3 (some .int) kI [.ref (b + 0), .int a1, .int a2] σ (pX10_signs a1 a2 σ) := by
  refine cn_of (own := RX10) rfl rfl (Nat.le_of_ble_eq_true rfl) ?_
  show GF vC G b (6, 0, 0) RX10 cX10_signs 3 (some .int) kI 0 [(0, .ref (b + 0)), (1, .int a1), (2, .int a2)] [] σ (pX10_signs a1 a2 σ)
  unfold pX10_signs
  refine g_aload_n (q := 1) 0 dX10_signs_0 rfl rfl rfl ?_
  refine g_getA (q := 4) fX10_people dX10_signs_1 ww379 rfl ?_
  refine g_iload_n (q := 5) 1 dX10_signs_4 rfl rfl rfl ?_
  refine g_callO (As := [.int a1]) (st := []) (cn_X2_has) shX2 rfl cwX10_106 rfl dX10_signs_5 rfl (Nat.le_of_ble_eq_true rfl) (by decide) (kk_PI (fun v1 => ?_))
  refine g_if_eq (t := 21) (q := 11) dX10_signs_8 (by decide) rfl ?_ ?_
  · refine g_iconst (q := 22) dX10_signs_21 kI_m1 rfl ?_
    exact (g_iret dX10_signs_22)
  · refine g_iload_n (q := 12) 2 dX10_signs_11 rfl rfl rfl ?_
    refine g_iconst (q := 13) dX10_signs_12 kI_m1 rfl ?_
    refine g_bipush (q := 15) dX10_signs_13 kB_59 rfl ?_
    refine g_callT (As := [.int a2, .int (-1 : Int32), .int (59 : Int32)]) (st := []) (cn_X10_inRange) cwX10_88 rfl dX10_signs_15 rfl (Nat.le_of_ble_eq_true rfl) (by decide) (kk_PI (fun v3 => ?_))
    refine g_if_ne (t := 23) (q := 21) dX10_signs_18 (by decide) rfl ?_ ?_
    · refine g_iconst (q := 22) dX10_signs_21 kI_m1 rfl ?_
      exact (g_iret dX10_signs_22)
    · refine g_aload_n (q := 24) 0 dX10_signs_23 rfl rfl rfl ?_
      refine g_getA (q := 27) fX10_sky dX10_signs_24 ww380 rfl ?_
      refine g_iload_n (q := 28) 1 dX10_signs_27 rfl rfl rfl ?_
      refine g_iload_n (q := 29) 2 dX10_signs_28 rfl rfl rfl ?_
      refine g_iconst (q := 30) dX10_signs_29 kI_m1 rfl ?_
      refine g_icmp_ne (t := 45) (q := 33) dX10_signs_30 (by decide) rfl ?_ ?_
      · refine g_aload_n (q := 34) 0 dX10_signs_33 rfl rfl rfl ?_
        refine g_getA (q := 37) fX10_people dX10_signs_34 ww379 rfl ?_
        refine g_iload_n (q := 38) 1 dX10_signs_37 rfl rfl rfl ?_
        refine g_iconst (q := 39) dX10_signs_38 kI_0 rfl ?_
        refine g_callO (As := [.int a1, .int (0 : Int32)]) (st := [.int a1, .ref (b + 23)]) (cn_X2_trait) shX2 rfl cwX10_110 rfl dX10_signs_39 rfl (Nat.le_of_ble_eq_true rfl) (by decide) (kk_PI (fun v5 => ?_))
        refine g_goto (t := 46) dX10_signs_42 (by decide) ?_
        refine g_callO (As := [.int a1, .int v5]) (st := []) (cn_X4_upAt) shX4 rfl cwX10_114 rfl dX10_signs_46 rfl (Nat.le_of_ble_eq_true rfl) (by decide) (kk_I (fun v7 s8 => ?_))
        exact (g_iret dX10_signs_49)
      · refine g_iload_n (q := 46) 2 dX10_signs_45 rfl rfl rfl ?_
        refine g_callO (As := [.int a1, .int a2]) (st := []) (cn_X4_upAt) shX4 rfl cwX10_114 rfl dX10_signs_46 rfl (Nat.le_of_ble_eq_true rfl) (by decide) (kk_I (fun v9 s10 => ?_))
        exact (g_iret dX10_signs_49)
noncomputable def pX10_isStep (a1 : Int32) : Option (Int32) := bn1 (pX10_inRange a1 (2 : Int32) (30 : Int32)) (fun v1 => some (v1 &&& 1))
set_option maxRecDepth 100000 in
theorem cn_X10_isStep {G : gG} {b : Nat} {V : gV} {a1 : Int32} {σ : gS} : CN V G b 2 yX10_isStep cX10_isStep 1 (some .boolean) (kPI σ) [.int a1] σ (pX10_isStep a1) := by
  refine cn_of (own := RX10) rfl rfl (Nat.le_of_ble_eq_true rfl) ?_
  show GF V G b (2, 0, 0) RX10 cX10_isStep 1 (some .boolean) (kPI σ) 0 [(0, .int a1)] [] σ (pX10_isStep a1)
  unfold pX10_isStep
  refine g_iload_n (q := 1) 0 dX10_isStep_0 rfl rfl rfl ?_
  refine g_iconst (q := 2) dX10_isStep_1 kI_2 rfl ?_
  refine g_bipush (q := 4) dX10_isStep_2 kB_30 rfl ?_
  refine g_callT (As := [.int a1, .int (2 : Int32), .int (30 : Int32)]) (st := []) (cn_X10_inRange) cwX10_88 rfl dX10_isStep_4 rfl (Nat.le_of_ble_eq_true rfl) (by decide) (kk_PI (fun v1 => ?_))
  exact (g_bretP dX10_isStep_7)
noncomputable def pX10_roundedMinute (a1 : Int32) (a2 : Int32) (σ : gS) : Option (Int32) := bn1 (pX10_isStep a2) (fun v1 => if v1 = 0 then some ((0 : Int32)) else bn1 (pX2_trait a1 (0 : Int32) σ) (fun v3 => g0 ((2 : Int32) * a2) (lt' ((((2 : Int32) * v3) + a2) / ((2 : Int32) * a2)) (fun x5 => g0 (60 : Int32) (some ((x5 * a2) - (x5 * a2) / (60 : Int32) * (60 : Int32)))))))
set_option maxRecDepth 100000 in
theorem cn_X10_roundedMinute {G : gG} {b : Nat} {a1 : Int32} {a2 : Int32} {σ : gS} : CN vC G b 3 yX10_roundedMinute cX10_roundedMinute 4 (some .int) (kPI σ) [.ref (b + 0), .int a1, .int a2] σ (pX10_roundedMinute a1 a2 σ) := by
  refine cn_of (own := RX10) rfl rfl (Nat.le_of_ble_eq_true rfl) ?_
  show GF vC G b (3, 0, 0) RX10 cX10_roundedMinute 4 (some .int) (kPI σ) 0 [(0, .ref (b + 0)), (1, .int a1), (2, .int a2)] [] σ (pX10_roundedMinute a1 a2 σ)
  unfold pX10_roundedMinute
  refine g_iload_n (q := 1) 2 dX10_roundedMinute_0 rfl rfl rfl ?_
  refine g_callT (As := [.int a2]) (st := []) (cn_X10_isStep) cwX10_117 rfl dX10_roundedMinute_1 rfl (Nat.le_of_ble_eq_true rfl) (by decide) (kk_PI (fun v1 => ?_))
  refine g_if_ne (t := 9) (q := 7) dX10_roundedMinute_4 (by decide) rfl ?_ ?_
  · refine g_iconst (q := 8) dX10_roundedMinute_7 kI_0 rfl ?_
    exact (g_iretP dX10_roundedMinute_8)
  · refine g_iconst (q := 10) dX10_roundedMinute_9 kI_2 rfl ?_
    refine g_aload_n (q := 11) 0 dX10_roundedMinute_10 rfl rfl rfl ?_
    refine g_getA (q := 14) fX10_people dX10_roundedMinute_11 ww379 rfl ?_
    refine g_iload_n (q := 15) 1 dX10_roundedMinute_14 rfl rfl rfl ?_
    refine g_iconst (q := 16) dX10_roundedMinute_15 kI_0 rfl ?_
    refine g_callO (As := [.int a1, .int (0 : Int32)]) (st := [.int (2 : Int32)]) (cn_X2_trait) shX2 rfl cwX10_110 rfl dX10_roundedMinute_16 rfl (Nat.le_of_ble_eq_true rfl) (by decide) (kk_PI (fun v3 => ?_))
    refine g_imul (q := 20) dX10_roundedMinute_19 rfl ?_
    refine g_iload_n (q := 21) 2 dX10_roundedMinute_20 rfl rfl rfl ?_
    refine g_iadd (q := 22) dX10_roundedMinute_21 rfl ?_
    refine g_iconst (q := 23) dX10_roundedMinute_22 kI_2 rfl ?_
    refine g_iload_n (q := 24) 2 dX10_roundedMinute_23 rfl rfl rfl ?_
    refine g_imul (q := 25) dX10_roundedMinute_24 rfl ?_
    refine g_idiv (q := 26) dX10_roundedMinute_25 rfl ?_
    refine g_leti (fun x5 => ?_)
    refine g_istore_n (lr := [(0, .ref (b + 0)), (1, .int a1), (2, .int a2)]) (q := 27) dX10_roundedMinute_26 rfl (by decide) rfl rfl ?_
    refine g_iload_n (q := 28) 0 dX10_roundedMinute_27 rfl rfl rfl ?_
    refine g_iload_n (q := 29) 3 dX10_roundedMinute_28 rfl rfl rfl ?_
    refine g_imul (q := 30) dX10_roundedMinute_29 rfl ?_
    refine g_bipush (q := 32) dX10_roundedMinute_30 kB_60 rfl ?_
    refine g_irem (q := 33) dX10_roundedMinute_32 rfl ?_
    exact (g_iretP dX10_roundedMinute_33)
noncomputable def pX10_rounded (a1 : Int32) (a2 : Int32) (σ : gS) : Option (Int32 × gS) := bn1 (pX2_has a1 σ) (fun v1 => if v1 = 0 then some ((-1 : Int32), σ) else bn1 (pX10_isStep a2) (fun v3 => if v3 = 0 then some ((-1 : Int32), σ) else bn1 (pX10_roundedMinute a1 a2 σ) (fun v5 => bn2 (pX4_upAt a1 v5 σ) (fun v7 s8 => some (v7, s8)))))
set_option maxRecDepth 100000 in
theorem cn_X10_rounded {G : gG} {b : Nat} {a1 : Int32} {a2 : Int32} {σ : gS} : CN vC G b 6 yX10_rounded cX10_rounded 3 (some .int) kI [.ref (b + 0), .int a1, .int a2] σ (pX10_rounded a1 a2 σ) := by
  refine cn_of (own := RX10) rfl rfl (Nat.le_of_ble_eq_true rfl) ?_
  show GF vC G b (6, 0, 0) RX10 cX10_rounded 3 (some .int) kI 0 [(0, .ref (b + 0)), (1, .int a1), (2, .int a2)] [] σ (pX10_rounded a1 a2 σ)
  unfold pX10_rounded
  refine g_aload_n (q := 1) 0 dX10_rounded_0 rfl rfl rfl ?_
  refine g_getA (q := 4) fX10_people dX10_rounded_1 ww379 rfl ?_
  refine g_iload_n (q := 5) 1 dX10_rounded_4 rfl rfl rfl ?_
  refine g_callO (As := [.int a1]) (st := []) (cn_X2_has) shX2 rfl cwX10_106 rfl dX10_rounded_5 rfl (Nat.le_of_ble_eq_true rfl) (by decide) (kk_PI (fun v1 => ?_))
  refine g_if_eq (t := 18) (q := 11) dX10_rounded_8 (by decide) rfl ?_ ?_
  · refine g_iconst (q := 19) dX10_rounded_18 kI_m1 rfl ?_
    exact (g_iret dX10_rounded_19)
  · refine g_iload_n (q := 12) 2 dX10_rounded_11 rfl rfl rfl ?_
    refine g_callT (As := [.int a2]) (st := []) (cn_X10_isStep) cwX10_117 rfl dX10_rounded_12 rfl (Nat.le_of_ble_eq_true rfl) (by decide) (kk_PI (fun v3 => ?_))
    refine g_if_ne (t := 20) (q := 18) dX10_rounded_15 (by decide) rfl ?_ ?_
    · refine g_iconst (q := 19) dX10_rounded_18 kI_m1 rfl ?_
      exact (g_iret dX10_rounded_19)
    · refine g_aload_n (q := 21) 0 dX10_rounded_20 rfl rfl rfl ?_
      refine g_getA (q := 24) fX10_sky dX10_rounded_21 ww380 rfl ?_
      refine g_iload_n (q := 25) 1 dX10_rounded_24 rfl rfl rfl ?_
      refine g_aload_n (q := 26) 0 dX10_rounded_25 rfl rfl rfl ?_
      refine g_iload_n (q := 27) 1 dX10_rounded_26 rfl rfl rfl ?_
      refine g_iload_n (q := 28) 2 dX10_rounded_27 rfl rfl rfl ?_
      refine g_callO (As := [.int a1, .int a2]) (st := [.int a1, .ref (b + 23)]) (cn_X10_roundedMinute) shX10 rfl cwX10_120 rfl dX10_rounded_28 rfl (Nat.le_of_ble_eq_true rfl) (by decide) (kk_PI (fun v5 => ?_))
      refine g_callO (As := [.int a1, .int v5]) (st := []) (cn_X4_upAt) shX4 rfl cwX10_114 rfl dX10_rounded_31 rfl (Nat.le_of_ble_eq_true rfl) (by decide) (kk_I (fun v7 s8 => ?_))
      exact (g_iret dX10_rounded_34)
noncomputable def pJ9_floorMod_7cf53 (a1 : Int32) (a2 : Int32) : Option (Int32) := g0 a2 (lt' (a1 - a1 / a2 * a2) (fun x1 => if 0 ≤ (a1 ^^^ a2) then some (x1) else if x1 = 0 then some (x1) else some (x1 + a2)))
set_option maxRecDepth 100000 in
theorem cn_J9_floorMod_7cf53 {G : gG} {b : Nat} {V : gV} {a1 : Int32} {a2 : Int32} {σ : gS} : CN V G b 1 yJ9_floorMod_7cf53 cJ9_floorMod_7cf53 3 (some .int) (kPI σ) [.int a1, .int a2] σ (pJ9_floorMod_7cf53 a1 a2) := by
  refine cn_ofF (own := RJ9) (by decide +kernel) rfl (Nat.le_of_ble_eq_true rfl) ?_
  show GF V G b (1, 0, 0) RJ9 cJ9_floorMod_7cf53 3 (some .int) (kPI σ) 0 [(0, .int a1), (1, .int a2)] [] σ (pJ9_floorMod_7cf53 a1 a2)
  unfold pJ9_floorMod_7cf53
  refine g_iload_n (q := 1) 0 dJ9_floorMod_7cf53_0 rfl rfl rfl ?_
  refine g_iload_n (q := 2) 1 dJ9_floorMod_7cf53_1 rfl rfl rfl ?_
  refine g_irem (q := 3) dJ9_floorMod_7cf53_2 rfl ?_
  refine g_leti (fun x1 => ?_)
  refine g_istore_n (lr := [(0, .int a1), (1, .int a2)]) (q := 4) dJ9_floorMod_7cf53_3 rfl (by decide) rfl rfl ?_
  refine g_iload_n (q := 5) 1 dJ9_floorMod_7cf53_4 rfl rfl rfl ?_
  refine g_iload_n (q := 6) 2 dJ9_floorMod_7cf53_5 rfl rfl rfl ?_
  refine g_ixor (q := 7) dJ9_floorMod_7cf53_6 rfl ?_
  refine g_if_ge (t := 18) (q := 10) dJ9_floorMod_7cf53_7 (by decide) rfl ?_ ?_
  · refine g_iload_n (q := 19) 0 dJ9_floorMod_7cf53_18 rfl rfl rfl ?_
    exact (g_iretP dJ9_floorMod_7cf53_19)
  · refine g_iload_n (q := 11) 0 dJ9_floorMod_7cf53_10 rfl rfl rfl ?_
    refine g_if_eq (t := 18) (q := 14) dJ9_floorMod_7cf53_11 (by decide) rfl ?_ ?_
    · refine g_iload_n (q := 19) 0 dJ9_floorMod_7cf53_18 rfl rfl rfl ?_
      exact (g_iretP dJ9_floorMod_7cf53_19)
    · refine g_iload_n (q := 15) 0 dJ9_floorMod_7cf53_14 rfl rfl rfl ?_
      refine g_iload_n (q := 16) 2 dJ9_floorMod_7cf53_15 rfl rfl rfl ?_
      refine g_iadd (q := 17) dJ9_floorMod_7cf53_16 rfl ?_
      exact (g_iretP dJ9_floorMod_7cf53_17)
noncomputable def pX10_moved (a1 : Int32) (a2 : Int32) (a3 : Int32) (σ : gS) : Option (Int32 × gS) := bn1 (pX2_has a1 σ) (fun v1 => if v1 = 0 then some ((-1 : Int32), σ) else bn1 (pX10_inRange a2 (0 : Int32) (30 : Int32)) (fun v3 => if v3 = 0 then some ((-1 : Int32), σ) else bn1 (pX2_trait a1 (0 : Int32) σ) (fun v5 => bn2 (pX4_upAt a1 v5 σ) (fun v7 s8 => lt' (-a2) (fun x9 => bn1 (lpP (fun (z11 : (Int32 × Int32 × gS)) => if a2 < z11.1 then some (.inr (z11.2.1, z11.2.2)) else bn1 (pJ9_floorMod_7cf53 (v5 + z11.1) (60 : Int32)) (fun v12 => bn2 (pX4_upAt a1 v12 z11.2.2) (fun v14 s15 => if a3 = 0 then lt' (z11.2.1 &&& v14) (fun x16 => lt' (z11.1 + (1 : Int32)) (fun x17 => some (.inl (x17, x16, s15)))) else lt' (z11.2.1 ||| v14) (fun x18 => lt' (z11.1 + (1 : Int32)) (fun x19 => some (.inl (x19, x18, s15))))))) (x9, v7, s8)) (fun (z10 : (Int32 × gS)) => some (z10.1, z10.2)))))))
set_option maxRecDepth 100000 in
theorem cn_X10_moved {G : gG} {b : Nat} {a1 : Int32} {a2 : Int32} {a3 : Int32} {σ : gS} : CN vC G b 6 yX10_moved cX10_moved 8 (some .int) kI [.ref (b + 0), .int a1, .int a2, .int a3] σ (pX10_moved a1 a2 a3 σ) := by
  refine cn_of (own := RX10) rfl rfl (Nat.le_of_ble_eq_true rfl) ?_
  show GF vC G b (6, 0, 0) RX10 cX10_moved 8 (some .int) kI 0 [(0, .ref (b + 0)), (1, .int a1), (2, .int a2), (3, .int a3)] [] σ (pX10_moved a1 a2 a3 σ)
  unfold pX10_moved
  refine g_aload_n (q := 1) 0 dX10_moved_0 rfl rfl rfl ?_
  refine g_getA (q := 4) fX10_people dX10_moved_1 ww379 rfl ?_
  refine g_iload_n (q := 5) 1 dX10_moved_4 rfl rfl rfl ?_
  refine g_callO (As := [.int a1]) (st := []) (cn_X2_has) shX2 rfl cwX10_106 rfl dX10_moved_5 rfl (Nat.le_of_ble_eq_true rfl) (by decide) (kk_PI (fun v1 => ?_))
  refine g_if_eq (t := 21) (q := 11) dX10_moved_8 (by decide) rfl ?_ ?_
  · refine g_iconst (q := 22) dX10_moved_21 kI_m1 rfl ?_
    exact (g_iret dX10_moved_22)
  · refine g_iload_n (q := 12) 2 dX10_moved_11 rfl rfl rfl ?_
    refine g_iconst (q := 13) dX10_moved_12 kI_0 rfl ?_
    refine g_bipush (q := 15) dX10_moved_13 kB_30 rfl ?_
    refine g_callT (As := [.int a2, .int (0 : Int32), .int (30 : Int32)]) (st := []) (cn_X10_inRange) cwX10_88 rfl dX10_moved_15 rfl (Nat.le_of_ble_eq_true rfl) (by decide) (kk_PI (fun v3 => ?_))
    refine g_if_ne (t := 23) (q := 21) dX10_moved_18 (by decide) rfl ?_ ?_
    · refine g_iconst (q := 22) dX10_moved_21 kI_m1 rfl ?_
      exact (g_iret dX10_moved_22)
    · refine g_aload_n (q := 24) 0 dX10_moved_23 rfl rfl rfl ?_
      refine g_getA (q := 27) fX10_people dX10_moved_24 ww379 rfl ?_
      refine g_iload_n (q := 28) 1 dX10_moved_27 rfl rfl rfl ?_
      refine g_iconst (q := 29) dX10_moved_28 kI_0 rfl ?_
      refine g_callO (As := [.int a1, .int (0 : Int32)]) (st := []) (cn_X2_trait) shX2 rfl cwX10_110 rfl dX10_moved_29 rfl (Nat.le_of_ble_eq_true rfl) (by decide) (kk_PI (fun v5 => ?_))
      refine g_istore (lr := [(0, .ref (b + 0)), (1, .int a1), (2, .int a2), (3, .int a3)]) (q := 34) dX10_moved_32 (by decide) rfl rfl ?_
      refine g_aload_n (q := 35) 1 dX10_moved_34 rfl rfl rfl ?_
      refine g_getA (q := 38) fX10_sky dX10_moved_35 ww380 rfl ?_
      refine g_iload_n (q := 39) 2 dX10_moved_38 rfl rfl rfl ?_
      refine g_iload (q := 41) 0 dX10_moved_39 rfl rfl ?_
      refine g_callO (As := [.int a1, .int v5]) (st := []) (cn_X4_upAt) shX4 rfl cwX10_114 rfl dX10_moved_41 rfl (Nat.le_of_ble_eq_true rfl) (by decide) (kk_I (fun v7 s8 => ?_))
      refine g_istore (lr := [(4, .int v5), (0, .ref (b + 0)), (1, .int a1), (2, .int a2), (3, .int a3)]) (q := 46) dX10_moved_44 (by decide) rfl rfl ?_
      refine g_iload_n (q := 47) 4 dX10_moved_46 rfl rfl rfl ?_
      refine g_ineg (q := 48) dX10_moved_47 rfl ?_
      refine g_leti (fun x9 => ?_)
      refine g_istore (lr := [(5, .int v7), (4, .int v5), (0, .ref (b + 0)), (1, .int a1), (2, .int a2), (3, .int a3)]) (q := 50) dX10_moved_48 (by decide) rfl rfl ?_
      refine g_bind (S := (Int32 × gS)) (hd := 101) (lvf := fun z10 => [(5, .int z10.1)]) (stf := fun z10 => []) (σf := fun z10 => z10.2) ?_ (fun z10 => ?_)
      · refine g_loop (S := (Int32 × Int32 × gS)) (lvf := fun z11 => [(6, .int z11.1), (5, .int z11.2.1), (4, .int v5), (0, .ref (b + 0)), (1, .int a1), (2, .int a2), (3, .int a3)]) (σf := fun z11 => z11.2.2) (fun z11 => ?_) (x9, v7, s8)
        refine g_iload (q := 52) 0 dX10_moved_50 rfl rfl ?_
        refine g_iload_n (q := 53) 5 dX10_moved_52 rfl rfl rfl ?_
        refine g_icmp_gt (t := 101) (q := 56) dX10_moved_53 (by decide) rfl ?_ ?_
        · refine g_sub (lr := [(5, .int z11.2.1)]) [1] rfl ?_
          exact (g_leave (g_there ((z11.2.1, z11.2.2) : (Int32 × gS))))
        · refine g_aload_n (q := 57) 3 dX10_moved_56 rfl rfl rfl ?_
          refine g_getA (q := 60) fX10_sky dX10_moved_57 ww380 rfl ?_
          refine g_iload_n (q := 61) 4 dX10_moved_60 rfl rfl rfl ?_
          refine g_iload (q := 63) 2 dX10_moved_61 rfl rfl ?_
          refine g_iload (q := 65) 0 dX10_moved_63 rfl rfl ?_
          refine g_iadd (q := 66) dX10_moved_65 rfl ?_
          refine g_bipush (q := 68) dX10_moved_66 kB_60 rfl ?_
          refine g_callT (As := [.int (v5 + z11.1), .int (60 : Int32)]) (st := [.int a1, .ref (b + 23)]) (cn_J9_floorMod_7cf53) cwX10_123 rfl dX10_moved_68 rfl (Nat.le_of_ble_eq_true rfl) (by decide) (kk_PI (fun v12 => ?_))
          refine g_callO (As := [.int a1, .int v12]) (st := []) (cn_X4_upAt) shX4 rfl cwX10_114 rfl dX10_moved_71 rfl (Nat.le_of_ble_eq_true rfl) (by decide) (kk_I (fun v14 s15 => ?_))
          refine g_istore (lr := [(6, .int z11.1), (5, .int z11.2.1), (4, .int v5), (0, .ref (b + 0)), (1, .int a1), (2, .int a2), (3, .int a3)]) (q := 76) dX10_moved_74 (by decide) rfl rfl ?_
          refine g_iload_n (q := 77) 7 dX10_moved_76 rfl rfl rfl ?_
          refine g_if_eq (t := 88) (q := 80) dX10_moved_77 (by decide) rfl ?_ ?_
          · refine g_iload (q := 90) 2 dX10_moved_88 rfl rfl ?_
            refine g_iload (q := 92) 0 dX10_moved_90 rfl rfl ?_
            refine g_iand (q := 93) dX10_moved_92 rfl ?_
            refine g_leti (fun x16 => ?_)
            refine g_istore (lr := [(7, .int v14), (6, .int z11.1), (4, .int v5), (0, .ref (b + 0)), (1, .int a1), (2, .int a2), (3, .int a3)]) (q := 95) dX10_moved_93 (by decide) rfl rfl ?_
            refine g_iinc (lr := [(5, .int x16), (7, .int v14), (4, .int v5), (0, .ref (b + 0)), (1, .int a1), (2, .int a2), (3, .int a3)]) (q := 98) 2 dX10_moved_95 rfl kI_1 (by decide) rfl rfl (fun x17 => ?_)
            refine g_goto (t := 50) dX10_moved_98 (by decide) ?_
            refine g_sub (lr := [(6, .int x17), (5, .int x16), (4, .int v5), (0, .ref (b + 0)), (1, .int a1), (2, .int a2), (3, .int a3)]) [0, 1, 3, 4, 5, 6, 7] rfl ?_
            exact (g_again ((x17, x16, s15) : (Int32 × Int32 × gS)))
          · refine g_iload (q := 82) 2 dX10_moved_80 rfl rfl ?_
            refine g_iload (q := 84) 0 dX10_moved_82 rfl rfl ?_
            refine g_ior (q := 85) dX10_moved_84 rfl ?_
            refine g_goto (t := 93) dX10_moved_85 (by decide) ?_
            refine g_leti (fun x18 => ?_)
            refine g_istore (lr := [(7, .int v14), (6, .int z11.1), (4, .int v5), (0, .ref (b + 0)), (1, .int a1), (2, .int a2), (3, .int a3)]) (q := 95) dX10_moved_93 (by decide) rfl rfl ?_
            refine g_iinc (lr := [(5, .int x18), (7, .int v14), (4, .int v5), (0, .ref (b + 0)), (1, .int a1), (2, .int a2), (3, .int a3)]) (q := 98) 2 dX10_moved_95 rfl kI_1 (by decide) rfl rfl (fun x19 => ?_)
            refine g_goto (t := 50) dX10_moved_98 (by decide) ?_
            refine g_sub (lr := [(6, .int x19), (5, .int x18), (4, .int v5), (0, .ref (b + 0)), (1, .int a1), (2, .int a2), (3, .int a3)]) [0, 1, 3, 4, 5, 6, 7] rfl ?_
            exact (g_again ((x19, x18, s15) : (Int32 × Int32 × gS)))
      · refine g_iload (q := 103) 0 dX10_moved_101 rfl rfl ?_
        exact (g_iret dX10_moved_103)
noncomputable def pX10_bitOf (a1 : Int32) (a2 : Int32) : Option (Int32) := some ((ushrI a1 a2) &&& (1 : Int32))
set_option maxRecDepth 100000 in
theorem cn_X10_bitOf {G : gG} {b : Nat} {V : gV} {a1 : Int32} {a2 : Int32} {σ : gS} : CN V G b 1 yX10_bitOf cX10_bitOf 2 (some .int) (kPI σ) [.int a1, .int a2] σ (pX10_bitOf a1 a2) := by
  refine cn_of (own := RX10) rfl rfl (Nat.le_of_ble_eq_true rfl) ?_
  show GF V G b (1, 0, 0) RX10 cX10_bitOf 2 (some .int) (kPI σ) 0 [(0, .int a1), (1, .int a2)] [] σ (pX10_bitOf a1 a2)
  unfold pX10_bitOf
  refine g_iload_n (q := 1) 0 dX10_bitOf_0 rfl rfl rfl ?_
  refine g_iload_n (q := 2) 1 dX10_bitOf_1 rfl rfl rfl ?_
  refine g_iushr (q := 3) dX10_bitOf_2 rfl ?_
  refine g_iconst (q := 4) dX10_bitOf_3 kI_1 rfl ?_
  refine g_iand (q := 5) dX10_bitOf_4 rfl ?_
  exact (g_iretP dX10_bitOf_5)
noncomputable def pX10_isSentence (a1 : Int32) (σ : gS) : Option (Int32) := gT (σ.2.2 23 0) tR (fun rr1 => bn1 (pX10_inRange a1 (0 : Int32) ((σ.1 rr1 1) - (1 : Int32))) (fun v2 => some (v2 &&& 1)))
set_option maxRecDepth 100000 in
theorem cn_X10_isSentence {G : gG} {b : Nat} {a1 : Int32} {σ : gS} : CN vC G b 2 yX10_isSentence cX10_isSentence 2 (some .boolean) (kPI σ) [.ref (b + 0), .int a1] σ (pX10_isSentence a1 σ) := by
  refine cn_of (own := RX10) rfl rfl (Nat.le_of_ble_eq_true rfl) ?_
  show GF vC G b (2, 0, 0) RX10 cX10_isSentence 2 (some .boolean) (kPI σ) 0 [(0, .ref (b + 0)), (1, .int a1)] [] σ (pX10_isSentence a1 σ)
  unfold pX10_isSentence
  refine g_iload_n (q := 1) 1 dX10_isSentence_0 rfl rfl rfl ?_
  refine g_iconst (q := 2) dX10_isSentence_1 kI_0 rfl ?_
  refine g_aload_n (q := 3) 0 dX10_isSentence_2 rfl rfl rfl ?_
  refine g_getA (q := 6) fX10_sky dX10_isSentence_3 ww380 rfl ?_
  refine g_getR (cT := tR) (q := 9) fX4_told dX10_isSentence_6 ww283 rfl (fun rr1 hrr1 => ?_)
  refine g_getI (q := 12) (fX9_says hrr1) dX10_isSentence_9 ww143 rfl ?_
  refine g_iconst (q := 13) dX10_isSentence_12 kI_1 rfl ?_
  refine g_isub (q := 14) dX10_isSentence_13 rfl ?_
  refine g_callT (As := [.int a1, .int (0 : Int32), .int ((σ.1 rr1 1) - (1 : Int32))]) (st := []) (cn_X10_inRange) cwX10_88 rfl dX10_isSentence_14 rfl (Nat.le_of_ble_eq_true rfl) (by decide) (kk_PI (fun v2 => ?_))
  exact (g_bretP dX10_isSentence_17)
noncomputable def pX4_trueOf (a1 : Int32) (σ : gS) : Option (Int32 × gS) := bn1 (pX4_setPerson a1 σ) (fun s2 => gT (s2.2.2 23 0) tR (fun rr3 => bn2 (pX4_bitsOf (6 : Int32) (s2.1 rr3 1) s2) (fun v4 s5 => some (v4, s5))))
set_option maxRecDepth 100000 in
theorem cn_X4_trueOf {G : gG} {b : Nat} {a1 : Int32} {σ : gS} : CN vC G b 5 yX4_trueOf cX4_trueOf 2 (some .int) kI [.ref (b + 23), .int a1] σ (pX4_trueOf a1 σ) := by
  refine cn_of (own := RX4) rfl rfl (Nat.le_of_ble_eq_true rfl) ?_
  show GF vC G b (5, 0, 0) RX4 cX4_trueOf 2 (some .int) kI 0 [(0, .ref (b + 23)), (1, .int a1)] [] σ (pX4_trueOf a1 σ)
  unfold pX4_trueOf
  refine g_aload_n (q := 1) 0 dX4_trueOf_0 rfl rfl rfl ?_
  refine g_iload_n (q := 2) 1 dX4_trueOf_1 rfl rfl rfl ?_
  refine g_callO (As := [.int a1]) (st := []) (cn_X4_setPerson) shX4 rfl cwX4_45 rfl dX4_trueOf_2 rfl (Nat.le_of_ble_eq_true rfl) (by decide) (kk_V (fun s2 => ?_))
  refine g_aload_n (q := 6) 0 dX4_trueOf_5 rfl rfl rfl ?_
  refine g_bipush (q := 8) dX4_trueOf_6 kB_6 rfl ?_
  refine g_aload_n (q := 9) 0 dX4_trueOf_8 rfl rfl rfl ?_
  refine g_getR (cT := tR) (q := 12) fX4_told dX4_trueOf_9 ww282 rfl (fun rr3 hrr3 => ?_)
  refine g_getI (q := 15) (fX9_says hrr3) dX4_trueOf_12 ww141 rfl ?_
  refine g_callO (As := [.int (6 : Int32), .int (s2.1 rr3 1)]) (st := []) (cn_X4_bitsOf) shX4 rfl cwX4_52 rfl dX4_trueOf_15 rfl (Nat.le_of_ble_eq_true rfl) (by decide) (kk_I (fun v4 s5 => ?_))
  exact (g_iret dX4_trueOf_18)
noncomputable def pX10_holds (a1 : Int32) (a2 : Int32) (σ : gS) : Option (Int32 × gS) := bn1 (pX10_isSentence a1 σ) (fun v1 => if v1 = 0 then some ((-1 : Int32), σ) else bn1 (pX2_has a2 σ) (fun v3 => if v3 = 0 then some ((-1 : Int32), σ) else bn2 (pX4_trueOf a2 σ) (fun v5 s6 => bn1 (pX10_bitOf v5 a1) (fun v7 => some (v7, s6)))))
set_option maxRecDepth 100000 in
theorem cn_X10_holds {G : gG} {b : Nat} {a1 : Int32} {a2 : Int32} {σ : gS} : CN vC G b 6 yX10_holds cX10_holds 3 (some .int) kI [.ref (b + 0), .int a1, .int a2] σ (pX10_holds a1 a2 σ) := by
  refine cn_of (own := RX10) rfl rfl (Nat.le_of_ble_eq_true rfl) ?_
  show GF vC G b (6, 0, 0) RX10 cX10_holds 3 (some .int) kI 0 [(0, .ref (b + 0)), (1, .int a1), (2, .int a2)] [] σ (pX10_holds a1 a2 σ)
  unfold pX10_holds
  refine g_aload_n (q := 1) 0 dX10_holds_0 rfl rfl rfl ?_
  refine g_iload_n (q := 2) 1 dX10_holds_1 rfl rfl rfl ?_
  refine g_callO (As := [.int a1]) (st := []) (cn_X10_isSentence) shX10 rfl cwX10_128 rfl dX10_holds_2 rfl (Nat.le_of_ble_eq_true rfl) (by decide) (kk_PI (fun v1 => ?_))
  refine g_if_eq (t := 19) (q := 8) dX10_holds_5 (by decide) rfl ?_ ?_
  · refine g_iconst (q := 20) dX10_holds_19 kI_m1 rfl ?_
    exact (g_iret dX10_holds_20)
  · refine g_aload_n (q := 9) 0 dX10_holds_8 rfl rfl rfl ?_
    refine g_getA (q := 12) fX10_people dX10_holds_9 ww379 rfl ?_
    refine g_iload_n (q := 13) 2 dX10_holds_12 rfl rfl rfl ?_
    refine g_callO (As := [.int a2]) (st := []) (cn_X2_has) shX2 rfl cwX10_106 rfl dX10_holds_13 rfl (Nat.le_of_ble_eq_true rfl) (by decide) (kk_PI (fun v3 => ?_))
    refine g_if_ne (t := 21) (q := 19) dX10_holds_16 (by decide) rfl ?_ ?_
    · refine g_iconst (q := 20) dX10_holds_19 kI_m1 rfl ?_
      exact (g_iret dX10_holds_20)
    · refine g_aload_n (q := 22) 0 dX10_holds_21 rfl rfl rfl ?_
      refine g_getA (q := 25) fX10_sky dX10_holds_22 ww380 rfl ?_
      refine g_iload_n (q := 26) 2 dX10_holds_25 rfl rfl rfl ?_
      refine g_callO (As := [.int a2]) (st := []) (cn_X4_trueOf) shX4 rfl cwX10_131 rfl dX10_holds_26 rfl (Nat.le_of_ble_eq_true rfl) (by decide) (kk_I (fun v5 s6 => ?_))
      refine g_iload_n (q := 30) 1 dX10_holds_29 rfl rfl rfl ?_
      refine g_callT (As := [.int v5, .int a1]) (st := []) (cn_X10_bitOf) cwX10_135 rfl dX10_holds_30 rfl (Nat.le_of_ble_eq_true rfl) (by decide) (kk_PI (fun v7 => ?_))
      exact (g_iret dX10_holds_33)
noncomputable def pX10_sort (a1 : Int32) (σ : gS) : Option (Int32) := bn1 (pX10_isSentence a1 σ) (fun v1 => if v1 = 0 then some ((-1 : Int32)) else gT (σ.2.2 23 0) tR (fun rr3 => gx a1 16 (some (σ.1 (rr3 + 1) a1.toNatClampNeg))))
set_option maxRecDepth 100000 in
theorem cn_X10_sort {G : gG} {b : Nat} {a1 : Int32} {σ : gS} : CN vC G b 3 yX10_sort cX10_sort 2 (some .int) (kPI σ) [.ref (b + 0), .int a1] σ (pX10_sort a1 σ) := by
  refine cn_of (own := RX10) rfl rfl (Nat.le_of_ble_eq_true rfl) ?_
  show GF vC G b (3, 0, 0) RX10 cX10_sort 2 (some .int) (kPI σ) 0 [(0, .ref (b + 0)), (1, .int a1)] [] σ (pX10_sort a1 σ)
  unfold pX10_sort
  refine g_aload_n (q := 1) 0 dX10_sort_0 rfl rfl rfl ?_
  refine g_iload_n (q := 2) 1 dX10_sort_1 rfl rfl rfl ?_
  refine g_callO (As := [.int a1]) (st := []) (cn_X10_isSentence) shX10 rfl cwX10_128 rfl dX10_sort_2 rfl (Nat.le_of_ble_eq_true rfl) (by decide) (kk_PI (fun v1 => ?_))
  refine g_if_eq (t := 23) (q := 8) dX10_sort_5 (by decide) rfl ?_ ?_
  · refine g_iconst (q := 24) dX10_sort_23 kI_m1 rfl ?_
    exact (g_iretP dX10_sort_24)
  · refine g_aload_n (q := 9) 0 dX10_sort_8 rfl rfl rfl ?_
    refine g_getA (q := 12) fX10_sky dX10_sort_9 ww380 rfl ?_
    refine g_getR (cT := tR) (q := 15) fX4_told dX10_sort_12 ww283 rfl (fun rr3 hrr3 => ?_)
    refine g_getA (q := 18) (fX9_sorts hrr3) dX10_sort_15 ww156 rfl ?_
    refine g_iload_n (q := 19) 1 dX10_sort_18 rfl rfl rfl ?_
    refine g_iald (q := 20) (aX9_sorts hrr3) dX10_sort_19 rfl ?_
    refine g_goto (t := 24) dX10_sort_20 (by decide) ?_
    exact (g_iretP dX10_sort_24)
noncomputable def pX10_isBook (a1 : Int32) (σ : gS) : Option (Int32) := gT (σ.2.2 23 0) tR (fun rr1 => bn1 (pX10_inRange a1 (0 : Int32) ((σ.1 rr1 2) - (1 : Int32))) (fun v2 => some (v2 &&& 1)))
set_option maxRecDepth 100000 in
theorem cn_X10_isBook {G : gG} {b : Nat} {a1 : Int32} {σ : gS} : CN vC G b 2 yX10_isBook cX10_isBook 2 (some .boolean) (kPI σ) [.ref (b + 0), .int a1] σ (pX10_isBook a1 σ) := by
  refine cn_of (own := RX10) rfl rfl (Nat.le_of_ble_eq_true rfl) ?_
  show GF vC G b (2, 0, 0) RX10 cX10_isBook 2 (some .boolean) (kPI σ) 0 [(0, .ref (b + 0)), (1, .int a1)] [] σ (pX10_isBook a1 σ)
  unfold pX10_isBook
  refine g_iload_n (q := 1) 1 dX10_isBook_0 rfl rfl rfl ?_
  refine g_iconst (q := 2) dX10_isBook_1 kI_0 rfl ?_
  refine g_aload_n (q := 3) 0 dX10_isBook_2 rfl rfl rfl ?_
  refine g_getA (q := 6) fX10_sky dX10_isBook_3 ww380 rfl ?_
  refine g_getR (cT := tR) (q := 9) fX4_told dX10_isBook_6 ww283 rfl (fun rr1 hrr1 => ?_)
  refine g_getI (q := 12) (fX9_books hrr1) dX10_isBook_9 ww146 rfl ?_
  refine g_iconst (q := 13) dX10_isBook_12 kI_1 rfl ?_
  refine g_isub (q := 14) dX10_isBook_13 rfl ?_
  refine g_callT (As := [.int a1, .int (0 : Int32), .int ((σ.1 rr1 2) - (1 : Int32))]) (st := []) (cn_X10_inRange) cwX10_88 rfl dX10_isBook_14 rfl (Nat.le_of_ble_eq_true rfl) (by decide) (kk_PI (fun v2 => ?_))
  exact (g_bretP dX10_isBook_17)
noncomputable def pX4_upNow (a1 : Int32) (σ : gS) : Option (Int32 × gS) := bn1 (pX2_trait a1 (0 : Int32) σ) (fun v1 => bn2 (pX4_upAt a1 v1 σ) (fun v3 s4 => some (v3, s4)))
set_option maxRecDepth 100000 in
theorem cn_X4_upNow {G : gG} {b : Nat} {a1 : Int32} {σ : gS} : CN vC G b 6 yX4_upNow cX4_upNow 2 (some .int) kI [.ref (b + 23), .int a1] σ (pX4_upNow a1 σ) := by
  refine cn_of (own := RX4) rfl rfl (Nat.le_of_ble_eq_true rfl) ?_
  show GF vC G b (6, 0, 0) RX4 cX4_upNow 2 (some .int) kI 0 [(0, .ref (b + 23)), (1, .int a1)] [] σ (pX4_upNow a1 σ)
  unfold pX4_upNow
  refine g_aload_n (q := 1) 0 dX4_upNow_0 rfl rfl rfl ?_
  refine g_iload_n (q := 2) 1 dX4_upNow_1 rfl rfl rfl ?_
  refine g_aload_n (q := 3) 0 dX4_upNow_2 rfl rfl rfl ?_
  refine g_getA (q := 6) fX4_people dX4_upNow_3 ww284 rfl ?_
  refine g_iload_n (q := 7) 1 dX4_upNow_6 rfl rfl rfl ?_
  refine g_iconst (q := 8) dX4_upNow_7 kI_0 rfl ?_
  refine g_callO (As := [.int a1, .int (0 : Int32)]) (st := [.int a1, .ref (b + 23)]) (cn_X2_trait) shX2 rfl cwX4_59 rfl dX4_upNow_8 rfl (Nat.le_of_ble_eq_true rfl) (by decide) (kk_PI (fun v1 => ?_))
  refine g_callO (As := [.int a1, .int v1]) (st := []) (cn_X4_upAt) shX4 rfl cwX4_62 rfl dX4_upNow_11 rfl (Nat.le_of_ble_eq_true rfl) (by decide) (kk_I (fun v3 s4 => ?_))
  exact (g_iret dX4_upNow_14)
noncomputable def pX9_paperOf (r0 : Nat) (a1 : Int32) (a2 : Int32) (σ : gS) : Option (Int32) := bn1 (lpP (fun (z2 : (Int32 × Int32)) => if (σ.1 r0 3) ≤ z2.1 then some (.inr z2.2) else gx z2.1 40 (if (σ.1 (r0 + 2) z2.1.toNatClampNeg) = a1 then gx z2.1 40 (bn1 (pX10_bitOf a2 (σ.1 (r0 + 3) z2.1.toNatClampNeg)) (fun v3 => if v3 = (1 : Int32) then gx z2.1 40 (lt' (z2.2 ||| ((1 : Int32) <<< ((σ.1 (r0 + 4) z2.1.toNatClampNeg) &&& (31 : Int32)))) (fun x5 => lt' (z2.1 + (1 : Int32)) (fun x6 => some (.inl (x6, x5))))) else lt' (z2.1 + (1 : Int32)) (fun x7 => some (.inl (x7, z2.2))))) else lt' (z2.1 + (1 : Int32)) (fun x8 => some (.inl (x8, z2.2))))) ((0 : Int32), (0 : Int32))) (fun (z1 : Int32) => some (z1))
set_option maxRecDepth 100000 in
theorem cn_X9_paperOf {G : gG} {b : Nat} {r0 : Nat} (hr0 : tR r0 = true) {a1 : Int32} {a2 : Int32} {σ : gS} : CN vC G b 2 yX9_paperOf cX9_paperOf 5 (some .int) (kPI σ) [.ref (b + r0), .int a1, .int a2] σ (pX9_paperOf r0 a1 a2 σ) := by
  refine cn_of (own := RX9) rfl rfl (Nat.le_of_ble_eq_true rfl) ?_
  show GF vC G b (2, 0, 0) RX9 cX9_paperOf 5 (some .int) (kPI σ) 0 [(0, .ref (b + r0)), (1, .int a1), (2, .int a2)] [] σ (pX9_paperOf r0 a1 a2 σ)
  unfold pX9_paperOf
  refine g_iconst (q := 1) dX9_paperOf_0 kI_0 rfl ?_
  refine g_istore_n (lr := [(0, .ref (b + r0)), (1, .int a1), (2, .int a2)]) (q := 2) dX9_paperOf_1 rfl (by decide) rfl rfl ?_
  refine g_iconst (q := 3) dX9_paperOf_2 kI_0 rfl ?_
  refine g_istore (lr := [(3, .int (0 : Int32)), (0, .ref (b + r0)), (1, .int a1), (2, .int a2)]) (q := 5) dX9_paperOf_3 (by decide) rfl rfl ?_
  refine g_bind (S := Int32) (hd := 58) (lvf := fun z1 => [(3, .int z1)]) (stf := fun z1 => []) (σf := fun z1 => σ) ?_ (fun z1 => ?_)
  · refine g_loop (S := (Int32 × Int32)) (lvf := fun z2 => [(4, .int z2.1), (3, .int z2.2), (0, .ref (b + r0)), (1, .int a1), (2, .int a2)]) (σf := fun z2 => σ) (fun z2 => ?_) ((0 : Int32), (0 : Int32))
    refine g_iload (q := 7) 0 dX9_paperOf_5 rfl rfl ?_
    refine g_aload_n (q := 8) 2 dX9_paperOf_7 rfl rfl rfl ?_
    refine g_getI (q := 11) (fX9_whens hr0) dX9_paperOf_8 ww147 rfl ?_
    refine g_icmp_ge (t := 58) (q := 14) dX9_paperOf_11 (by decide) rfl ?_ ?_
    · refine g_sub (lr := [(3, .int z2.2)]) [1] rfl ?_
      exact (g_leave (g_there (z2.2 : Int32)))
    · refine g_aload_n (q := 15) 2 dX9_paperOf_14 rfl rfl rfl ?_
      refine g_getA (q := 18) (fX9_whenBooks hr0) dX9_paperOf_15 ww157 rfl ?_
      refine g_iload (q := 20) 0 dX9_paperOf_18 rfl rfl ?_
      refine g_iald (q := 21) (aX9_whenBooks hr0) dX9_paperOf_20 rfl ?_
      refine g_iload_n (q := 22) 3 dX9_paperOf_21 rfl rfl rfl ?_
      refine g_icmp_ne (t := 52) (q := 25) dX9_paperOf_22 (by decide) rfl ?_ ?_
      · refine g_iload_n (q := 26) 4 dX9_paperOf_25 rfl rfl rfl ?_
        refine g_aload_n (q := 27) 2 dX9_paperOf_26 rfl rfl rfl ?_
        refine g_getA (q := 30) (fX9_whenSigns hr0) dX9_paperOf_27 ww158 rfl ?_
        refine g_iload (q := 32) 0 dX9_paperOf_30 rfl rfl ?_
        refine g_iald (q := 33) (aX9_whenSigns hr0) dX9_paperOf_32 rfl ?_
        refine g_callN (As := [.int a2, .int (σ.1 (r0 + 3) z2.1.toNatClampNeg)]) (st := []) (cn_X10_bitOf) cwX9_59 rfl dX9_paperOf_33 rfl (Nat.le_of_ble_eq_true rfl) (by decide) (kk_PI (fun v3 => ?_))
        refine g_iconst (q := 37) dX9_paperOf_36 kI_1 rfl ?_
        refine g_icmp_ne (t := 52) (q := 40) dX9_paperOf_37 (by decide) rfl ?_ ?_
        · refine g_iload_n (q := 41) 1 dX9_paperOf_40 rfl rfl rfl ?_
          refine g_iconst (q := 42) dX9_paperOf_41 kI_1 rfl ?_
          refine g_aload_n (q := 43) 2 dX9_paperOf_42 rfl rfl rfl ?_
          refine g_getA (q := 46) (fX9_whenSays hr0) dX9_paperOf_43 ww159 rfl ?_
          refine g_iload (q := 48) 0 dX9_paperOf_46 rfl rfl ?_
          refine g_iald (q := 49) (aX9_whenSays hr0) dX9_paperOf_48 rfl ?_
          refine g_ishl (q := 50) dX9_paperOf_49 rfl ?_
          refine g_ior (q := 51) dX9_paperOf_50 rfl ?_
          refine g_leti (fun x5 => ?_)
          refine g_istore_n (lr := [(4, .int z2.1), (0, .ref (b + r0)), (1, .int a1), (2, .int a2)]) (q := 52) dX9_paperOf_51 rfl (by decide) rfl rfl ?_
          refine g_iinc (lr := [(3, .int x5), (0, .ref (b + r0)), (1, .int a1), (2, .int a2)]) (q := 55) 1 dX9_paperOf_52 rfl kI_1 (by decide) rfl rfl (fun x6 => ?_)
          refine g_goto (t := 5) dX9_paperOf_55 (by decide) ?_
          exact (g_again ((x6, x5) : (Int32 × Int32)))
        · refine g_iinc (lr := [(3, .int z2.2), (0, .ref (b + r0)), (1, .int a1), (2, .int a2)]) (q := 55) 0 dX9_paperOf_52 rfl kI_1 (by decide) rfl rfl (fun x7 => ?_)
          refine g_goto (t := 5) dX9_paperOf_55 (by decide) ?_
          exact (g_again ((x7, z2.2) : (Int32 × Int32)))
      · refine g_iinc (lr := [(3, .int z2.2), (0, .ref (b + r0)), (1, .int a1), (2, .int a2)]) (q := 55) 0 dX9_paperOf_52 rfl kI_1 (by decide) rfl rfl (fun x8 => ?_)
        refine g_goto (t := 5) dX9_paperOf_55 (by decide) ?_
        exact (g_again ((x8, z2.2) : (Int32 × Int32)))
  · refine g_iload_n (q := 59) 0 dX9_paperOf_58 rfl rfl rfl ?_
    exact (g_iretP dX9_paperOf_59)
noncomputable def pX10_paper (a1 : Int32) (a2 : Int32) (σ : gS) : Option (Int32 × gS) := bn1 (pX10_isBook a1 σ) (fun v1 => if v1 = 0 then some ((-1 : Int32), σ) else bn1 (pX2_has a2 σ) (fun v3 => if v3 = 0 then some ((-1 : Int32), σ) else gT (σ.2.2 23 0) tR (fun rr5 => bn2 (pX4_upNow a2 σ) (fun v6 s7 => bn1 (pX9_paperOf rr5 a1 v6 s7) (fun v8 => some (v8, s7))))))
set_option maxRecDepth 100000 in
theorem cn_X10_paper {G : gG} {b : Nat} {a1 : Int32} {a2 : Int32} {σ : gS} : CN vC G b 7 yX10_paper cX10_paper 3 (some .int) kI [.ref (b + 0), .int a1, .int a2] σ (pX10_paper a1 a2 σ) := by
  refine cn_of (own := RX10) rfl rfl (Nat.le_of_ble_eq_true rfl) ?_
  show GF vC G b (7, 0, 0) RX10 cX10_paper 3 (some .int) kI 0 [(0, .ref (b + 0)), (1, .int a1), (2, .int a2)] [] σ (pX10_paper a1 a2 σ)
  unfold pX10_paper
  refine g_aload_n (q := 1) 0 dX10_paper_0 rfl rfl rfl ?_
  refine g_iload_n (q := 2) 1 dX10_paper_1 rfl rfl rfl ?_
  refine g_callO (As := [.int a1]) (st := []) (cn_X10_isBook) shX10 rfl cwX10_144 rfl dX10_paper_2 rfl (Nat.le_of_ble_eq_true rfl) (by decide) (kk_PI (fun v1 => ?_))
  refine g_if_eq (t := 19) (q := 8) dX10_paper_5 (by decide) rfl ?_ ?_
  · refine g_iconst (q := 20) dX10_paper_19 kI_m1 rfl ?_
    exact (g_iret dX10_paper_20)
  · refine g_aload_n (q := 9) 0 dX10_paper_8 rfl rfl rfl ?_
    refine g_getA (q := 12) fX10_people dX10_paper_9 ww379 rfl ?_
    refine g_iload_n (q := 13) 2 dX10_paper_12 rfl rfl rfl ?_
    refine g_callO (As := [.int a2]) (st := []) (cn_X2_has) shX2 rfl cwX10_106 rfl dX10_paper_13 rfl (Nat.le_of_ble_eq_true rfl) (by decide) (kk_PI (fun v3 => ?_))
    refine g_if_ne (t := 21) (q := 19) dX10_paper_16 (by decide) rfl ?_ ?_
    · refine g_iconst (q := 20) dX10_paper_19 kI_m1 rfl ?_
      exact (g_iret dX10_paper_20)
    · refine g_aload_n (q := 22) 0 dX10_paper_21 rfl rfl rfl ?_
      refine g_getA (q := 25) fX10_sky dX10_paper_22 ww380 rfl ?_
      refine g_getR (cT := tR) (q := 28) fX4_told dX10_paper_25 ww283 rfl (fun rr5 hrr5 => ?_)
      refine g_iload_n (q := 29) 1 dX10_paper_28 rfl rfl rfl ?_
      refine g_aload_n (q := 30) 0 dX10_paper_29 rfl rfl rfl ?_
      refine g_getA (q := 33) fX10_sky dX10_paper_30 ww380 rfl ?_
      refine g_iload_n (q := 34) 2 dX10_paper_33 rfl rfl rfl ?_
      refine g_callO (As := [.int a2]) (st := [.int a1, .ref (b + rr5)]) (cn_X4_upNow) shX4 rfl cwX10_147 rfl dX10_paper_34 rfl (Nat.le_of_ble_eq_true rfl) (by decide) (kk_I (fun v6 s7 => ?_))
      refine g_callO (As := [.int a1, .int v6]) (st := []) (cn_X9_paperOf hrr5) (shX9 hrr5) rfl cwX10_150 rfl dX10_paper_37 rfl (Nat.le_of_ble_eq_true rfl) (by decide) (kk_PI (fun v8 => ?_))
      exact (g_iret dX10_paper_40)
noncomputable def pX10_altered (a1 : Int32) (a2 : Int32) (σ : gS) : Option (Int32 × gS) := bn1 (pX10_isBook a1 σ) (fun v1 => if v1 = 0 then some ((-1 : Int32), σ) else bn1 (pX10_isStep a2) (fun v3 => if v3 = 0 then some ((-1 : Int32), σ) else bn1 (lpP (fun (z6 : (Int32 × Int32 × gS)) => if (z6.2.2.1 21 1) ≤ z6.1 then some (.inr (z6.2.1, z6.2.2)) else gT (z6.2.2.2.2 23 0) tR (fun rr7 => bn2 (pX4_upNow z6.1 z6.2.2) (fun v8 s9 => bn1 (pX9_paperOf rr7 a1 v8 s9) (fun v10 => gT (s9.2.2 23 0) tR (fun rr12 => bn1 (pX10_roundedMinute z6.1 a2 s9) (fun v13 => bn2 (pX4_upAt z6.1 v13 s9) (fun v15 s16 => bn1 (pX9_paperOf rr12 a1 v15 s16) (fun v17 => if v10 = v17 then lt' (z6.1 + (1 : Int32)) (fun x19 => some (.inl (x19, z6.2.1, s16))) else lt' (z6.2.1 + (1 : Int32)) (fun x20 => lt' (z6.1 + (1 : Int32)) (fun x21 => some (.inl (x21, x20, s16)))))))))))) ((0 : Int32), (0 : Int32), σ)) (fun (z5 : (Int32 × gS)) => some (z5.1, z5.2))))
set_option maxRecDepth 100000 in
theorem cn_X10_altered {G : gG} {b : Nat} {a1 : Int32} {a2 : Int32} {σ : gS} : CN vC G b 7 yX10_altered cX10_altered 6 (some .int) kI [.ref (b + 0), .int a1, .int a2] σ (pX10_altered a1 a2 σ) := by
  refine cn_of (own := RX10) rfl rfl (Nat.le_of_ble_eq_true rfl) ?_
  show GF vC G b (7, 0, 0) RX10 cX10_altered 6 (some .int) kI 0 [(0, .ref (b + 0)), (1, .int a1), (2, .int a2)] [] σ (pX10_altered a1 a2 σ)
  unfold pX10_altered
  refine g_aload_n (q := 1) 0 dX10_altered_0 rfl rfl rfl ?_
  refine g_iload_n (q := 2) 1 dX10_altered_1 rfl rfl rfl ?_
  refine g_callO (As := [.int a1]) (st := []) (cn_X10_isBook) shX10 rfl cwX10_144 rfl dX10_altered_2 rfl (Nat.le_of_ble_eq_true rfl) (by decide) (kk_PI (fun v1 => ?_))
  refine g_if_eq (t := 15) (q := 8) dX10_altered_5 (by decide) rfl ?_ ?_
  · refine g_iconst (q := 16) dX10_altered_15 kI_m1 rfl ?_
    exact (g_iret dX10_altered_16)
  · refine g_iload_n (q := 9) 2 dX10_altered_8 rfl rfl rfl ?_
    refine g_callT (As := [.int a2]) (st := []) (cn_X10_isStep) cwX10_117 rfl dX10_altered_9 rfl (Nat.le_of_ble_eq_true rfl) (by decide) (kk_PI (fun v3 => ?_))
    refine g_if_ne (t := 17) (q := 15) dX10_altered_12 (by decide) rfl ?_ ?_
    · refine g_iconst (q := 16) dX10_altered_15 kI_m1 rfl ?_
      exact (g_iret dX10_altered_16)
    · refine g_iconst (q := 18) dX10_altered_17 kI_0 rfl ?_
      refine g_istore_n (lr := [(0, .ref (b + 0)), (1, .int a1), (2, .int a2)]) (q := 19) dX10_altered_18 rfl (by decide) rfl rfl ?_
      refine g_iconst (q := 20) dX10_altered_19 kI_0 rfl ?_
      refine g_istore (lr := [(3, .int (0 : Int32)), (0, .ref (b + 0)), (1, .int a1), (2, .int a2)]) (q := 22) dX10_altered_20 (by decide) rfl rfl ?_
      refine g_bind (S := (Int32 × gS)) (hd := 97) (lvf := fun z5 => [(3, .int z5.1)]) (stf := fun z5 => []) (σf := fun z5 => z5.2) ?_ (fun z5 => ?_)
      · refine g_loop (S := (Int32 × Int32 × gS)) (lvf := fun z6 => [(4, .int z6.1), (3, .int z6.2.1), (0, .ref (b + 0)), (1, .int a1), (2, .int a2)]) (σf := fun z6 => z6.2.2) (fun z6 => ?_) ((0 : Int32), (0 : Int32), σ)
        refine g_iload (q := 24) 0 dX10_altered_22 rfl rfl ?_
        refine g_aload_n (q := 25) 2 dX10_altered_24 rfl rfl rfl ?_
        refine g_getA (q := 28) fX10_people dX10_altered_25 ww379 rfl ?_
        refine g_getI (q := 31) fX2_size dX10_altered_28 ww251 rfl ?_
        refine g_icmp_ge (t := 97) (q := 34) dX10_altered_31 (by decide) rfl ?_ ?_
        · refine g_sub (lr := [(3, .int z6.2.1)]) [1] rfl ?_
          exact (g_leave (g_there ((z6.2.1, z6.2.2) : (Int32 × gS))))
        · refine g_aload_n (q := 35) 2 dX10_altered_34 rfl rfl rfl ?_
          refine g_getA (q := 38) fX10_sky dX10_altered_35 ww380 rfl ?_
          refine g_getR (cT := tR) (q := 41) fX4_told dX10_altered_38 ww283 rfl (fun rr7 hrr7 => ?_)
          refine g_iload_n (q := 42) 3 dX10_altered_41 rfl rfl rfl ?_
          refine g_aload_n (q := 43) 2 dX10_altered_42 rfl rfl rfl ?_
          refine g_getA (q := 46) fX10_sky dX10_altered_43 ww380 rfl ?_
          refine g_iload (q := 48) 0 dX10_altered_46 rfl rfl ?_
          refine g_callO (As := [.int z6.1]) (st := [.int a1, .ref (b + rr7)]) (cn_X4_upNow) shX4 rfl cwX10_147 rfl dX10_altered_48 rfl (Nat.le_of_ble_eq_true rfl) (by decide) (kk_I (fun v8 s9 => ?_))
          refine g_callO (As := [.int a1, .int v8]) (st := []) (cn_X9_paperOf hrr7) (shX9 hrr7) rfl cwX10_150 rfl dX10_altered_51 rfl (Nat.le_of_ble_eq_true rfl) (by decide) (kk_PI (fun v10 => ?_))
          refine g_istore (lr := [(4, .int z6.1), (3, .int z6.2.1), (0, .ref (b + 0)), (1, .int a1), (2, .int a2)]) (q := 56) dX10_altered_54 (by decide) rfl rfl ?_
          refine g_iload (q := 58) 0 dX10_altered_56 rfl rfl ?_
          refine g_aload_n (q := 59) 3 dX10_altered_58 rfl rfl rfl ?_
          refine g_getA (q := 62) fX10_sky dX10_altered_59 ww380 rfl ?_
          refine g_getR (cT := tR) (q := 65) fX4_told dX10_altered_62 ww283 rfl (fun rr12 hrr12 => ?_)
          refine g_iload_n (q := 66) 4 dX10_altered_65 rfl rfl rfl ?_
          refine g_aload_n (q := 67) 3 dX10_altered_66 rfl rfl rfl ?_
          refine g_getA (q := 70) fX10_sky dX10_altered_67 ww380 rfl ?_
          refine g_iload (q := 72) 1 dX10_altered_70 rfl rfl ?_
          refine g_aload_n (q := 73) 3 dX10_altered_72 rfl rfl rfl ?_
          refine g_iload (q := 75) 1 dX10_altered_73 rfl rfl ?_
          refine g_iload_n (q := 76) 5 dX10_altered_75 rfl rfl rfl ?_
          refine g_callO (As := [.int z6.1, .int a2]) (st := [.int z6.1, .ref (b + 23), .int a1, .ref (b + rr12), .int v10]) (cn_X10_roundedMinute) shX10 rfl cwX10_120 rfl dX10_altered_76 rfl (Nat.le_of_ble_eq_true rfl) (by decide) (kk_PI (fun v13 => ?_))
          refine g_callO (As := [.int z6.1, .int v13]) (st := [.int a1, .ref (b + rr12), .int v10]) (cn_X4_upAt) shX4 rfl cwX10_114 rfl dX10_altered_79 rfl (Nat.le_of_ble_eq_true rfl) (by decide) (kk_I (fun v15 s16 => ?_))
          refine g_callO (As := [.int a1, .int v15]) (st := [.int v10]) (cn_X9_paperOf hrr12) (shX9 hrr12) rfl cwX10_150 rfl dX10_altered_82 rfl (Nat.le_of_ble_eq_true rfl) (by decide) (kk_PI (fun v17 => ?_))
          refine g_icmp_eq (t := 91) (q := 88) dX10_altered_85 (by decide) rfl ?_ ?_
          · refine g_iinc (lr := [(5, .int v10), (3, .int z6.2.1), (0, .ref (b + 0)), (1, .int a1), (2, .int a2)]) (q := 94) 1 dX10_altered_91 rfl kI_1 (by decide) rfl rfl (fun x19 => ?_)
            refine g_goto (t := 22) dX10_altered_94 (by decide) ?_
            refine g_sub (lr := [(4, .int x19), (3, .int z6.2.1), (0, .ref (b + 0)), (1, .int a1), (2, .int a2)]) [0, 2, 3, 4, 5] rfl ?_
            exact (g_again ((x19, z6.2.1, s16) : (Int32 × Int32 × gS)))
          · refine g_iinc (lr := [(5, .int v10), (4, .int z6.1), (0, .ref (b + 0)), (1, .int a1), (2, .int a2)]) (q := 91) 2 dX10_altered_88 rfl kI_1 (by decide) rfl rfl (fun x20 => ?_)
            refine g_iinc (lr := [(3, .int x20), (5, .int v10), (0, .ref (b + 0)), (1, .int a1), (2, .int a2)]) (q := 94) 2 dX10_altered_91 rfl kI_1 (by decide) rfl rfl (fun x21 => ?_)
            refine g_goto (t := 22) dX10_altered_94 (by decide) ?_
            refine g_sub (lr := [(4, .int x21), (3, .int x20), (0, .ref (b + 0)), (1, .int a1), (2, .int a2)]) [0, 1, 3, 4, 5] rfl ?_
            exact (g_again ((x21, x20, s16) : (Int32 × Int32 × gS)))
      · refine g_iload_n (q := 98) 0 dX10_altered_97 rfl rfl rfl ?_
        exact (g_iret dX10_altered_98)
noncomputable def pX4_survey (σ : gS) : Option (gS) := bn1 (lpP (fun (z2 : (Int32 × gS)) => if (z2.2.1 21 1) ≤ z2.1 then some (.inr z2.2) else bn1 (pX4_setPerson z2.1 z2.2) (fun s4 => gT (s4.2.2 23 0) tR (fun rr5 => bn2 (pX4_bitsOf (0 : Int32) (s4.1 rr5 0) s4) (fun v6 s7 => gx z2.1 20 (lt' (wI s7 36 z2.1.toNatClampNeg v6) (fun s8 => gT (s8.2.2 23 0) tR (fun rr9 => bn2 (pX4_bitsOf (6 : Int32) (s8.1 rr9 1) s8) (fun v10 s11 => gx z2.1 20 (lt' (wI s11 37 z2.1.toNatClampNeg v10) (fun s12 => lt' (z2.1 + (1 : Int32)) (fun x13 => some (.inl (x13, s12))))))))))))) ((0 : Int32), σ)) (fun (z1 : gS) => some z1)
set_option maxRecDepth 100000 in
theorem cn_X4_survey {G : gG} {b : Nat}  {σ : gS} : CN vC G b 5 yX4_survey cX4_survey 2 none kV [.ref (b + 23)] σ (pX4_survey σ) := by
  refine cn_of (own := RX4) rfl rfl (Nat.le_of_ble_eq_true rfl) ?_
  show GF vC G b (5, 0, 0) RX4 cX4_survey 2 none kV 0 [(0, .ref (b + 23))] [] σ (pX4_survey σ)
  unfold pX4_survey
  refine g_iconst (q := 1) dX4_survey_0 kI_0 rfl ?_
  refine g_istore_n (lr := [(0, .ref (b + 23))]) (q := 2) dX4_survey_1 rfl (by decide) rfl rfl ?_
  refine g_bind (S := gS) (hd := 61) (lvf := fun z1 => []) (stf := fun z1 => []) (σf := fun z1 => z1) ?_ (fun z1 => ?_)
  · refine g_loop (S := (Int32 × gS)) (lvf := fun z2 => [(1, .int z2.1), (0, .ref (b + 23))]) (σf := fun z2 => z2.2) (fun z2 => ?_) ((0 : Int32), σ)
    refine g_iload_n (q := 3) 0 dX4_survey_2 rfl rfl rfl ?_
    refine g_aload_n (q := 4) 1 dX4_survey_3 rfl rfl rfl ?_
    refine g_getA (q := 7) fX4_people dX4_survey_4 ww284 rfl ?_
    refine g_getI (q := 10) fX2_size dX4_survey_7 ww250 rfl ?_
    refine g_icmp_ge (t := 61) (q := 13) dX4_survey_10 (by decide) rfl ?_ ?_
    · refine g_sub (lr := []) [] rfl ?_
      exact (g_leave (g_there (z2.2 : gS)))
    · refine g_aload_n (q := 14) 1 dX4_survey_13 rfl rfl rfl ?_
      refine g_iload_n (q := 15) 0 dX4_survey_14 rfl rfl rfl ?_
      refine g_callO (As := [.int z2.1]) (st := []) (cn_X4_setPerson) shX4 rfl cwX4_45 rfl dX4_survey_15 rfl (Nat.le_of_ble_eq_true rfl) (by decide) (kk_V (fun s4 => ?_))
      refine g_aload_n (q := 19) 1 dX4_survey_18 rfl rfl rfl ?_
      refine g_getA (q := 22) fX4_ups dX4_survey_19 ww286 rfl ?_
      refine g_iload_n (q := 23) 0 dX4_survey_22 rfl rfl rfl ?_
      refine g_aload_n (q := 24) 1 dX4_survey_23 rfl rfl rfl ?_
      refine g_iconst (q := 25) dX4_survey_24 kI_0 rfl ?_
      refine g_aload_n (q := 26) 1 dX4_survey_25 rfl rfl rfl ?_
      refine g_getR (cT := tR) (q := 29) fX4_told dX4_survey_26 ww282 rfl (fun rr5 hrr5 => ?_)
      refine g_getI (q := 32) (fX9_signs hrr5) dX4_survey_29 ww137 rfl ?_
      refine g_callO (As := [.int (0 : Int32), .int (s4.1 rr5 0)]) (st := [.int z2.1, .ref (b + 36)]) (cn_X4_bitsOf) shX4 rfl cwX4_52 rfl dX4_survey_32 rfl (Nat.le_of_ble_eq_true rfl) (by decide) (kk_I (fun v6 s7 => ?_))
      refine g_iast (q := 36) (aX4_ups) dX4_survey_35 rfl (fun s8 => ?_)
      refine g_aload_n (q := 37) 1 dX4_survey_36 rfl rfl rfl ?_
      refine g_getA (q := 40) fX4_truths dX4_survey_37 ww288 rfl ?_
      refine g_iload_n (q := 41) 0 dX4_survey_40 rfl rfl rfl ?_
      refine g_aload_n (q := 42) 1 dX4_survey_41 rfl rfl rfl ?_
      refine g_bipush (q := 44) dX4_survey_42 kB_6 rfl ?_
      refine g_aload_n (q := 45) 1 dX4_survey_44 rfl rfl rfl ?_
      refine g_getR (cT := tR) (q := 48) fX4_told dX4_survey_45 ww282 rfl (fun rr9 hrr9 => ?_)
      refine g_getI (q := 51) (fX9_says hrr9) dX4_survey_48 ww141 rfl ?_
      refine g_callO (As := [.int (6 : Int32), .int (s8.1 rr9 1)]) (st := [.int z2.1, .ref (b + 37)]) (cn_X4_bitsOf) shX4 rfl cwX4_52 rfl dX4_survey_51 rfl (Nat.le_of_ble_eq_true rfl) (by decide) (kk_I (fun v10 s11 => ?_))
      refine g_iast (q := 55) (aX4_truths) dX4_survey_54 rfl (fun s12 => ?_)
      refine g_iinc (lr := [(0, .ref (b + 23))]) (q := 58) 0 dX4_survey_55 rfl kI_1 (by decide) rfl rfl (fun x13 => ?_)
      refine g_goto (t := 2) dX4_survey_58 (by decide) ?_
      exact (g_again ((x13, s12) : (Int32 × gS)))
  · exact (g_vret dX4_survey_61)
