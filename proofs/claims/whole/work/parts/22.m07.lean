noncomputable def pX10_choices (a1 : Int32) (a2 : Int32) (σ : gS) : Option (Int32 × gS) := bn1 (pX1_canKnow a1 σ) (fun v1 => if v1 = 0 then some ((-1 : Int32), σ) else bn1 (pX10_inRange a2 (0 : Int32) (3 : Int32)) (fun v3 => if v3 = 0 then some ((-1 : Int32), σ) else bn1 (pX1_know a1 σ) (fun s6 => if a2 = 0 then bn1 (pX1_sumOf (0 : Int32) (0 : Int32) s6) (fun v7 => bn1 (pX1_sumOf (1 : Int32) (0 : Int32) s6) (fun v9 => some (v7 + v9, s6))) else if a2 = (1 : Int32) then bn1 (pX1_sumOf (0 : Int32) (0 : Int32) s6) (fun v11 => some (v11, s6)) else if a2 = (2 : Int32) then bn1 (pX1_sumOf (0 : Int32) (1 : Int32) s6) (fun v13 => some (v13, s6)) else bn1 (pX1_sumOf (1 : Int32) (1 : Int32) s6) (fun v15 => some (v15, s6)))))
set_option maxRecDepth 100000 in
theorem cn_X10_choices {G : gG} {b : Nat} {a1 : Int32} {a2 : Int32} {σ : gS} : CN vC G b 3 yX10_choices cX10_choices 3 (some .int) kI [.ref (b + 0), .int a1, .int a2] σ (pX10_choices a1 a2 σ) := by
  refine cn_of (own := RX10) rfl rfl (Nat.le_of_ble_eq_true rfl) ?_
  show GF vC G b (3, 0, 0) RX10 cX10_choices 3 (some .int) kI 0 [(0, .ref (b + 0)), (1, .int a1), (2, .int a2)] [] σ (pX10_choices a1 a2 σ)
  unfold pX10_choices
  refine g_aload_n (q := 1) 0 dX10_choices_0 rfl rfl rfl ?_
  refine g_getA (q := 4) fX10_facts dX10_choices_1 ww381 rfl ?_
  refine g_iload_n (q := 5) 1 dX10_choices_4 rfl rfl rfl ?_
  refine g_callO (As := [.int a1]) (st := []) (cn_X1_canKnow) shX1 rfl cwX10_253 rfl dX10_choices_5 rfl (Nat.le_of_ble_eq_true rfl) (by decide) (kk_PI (fun v1 => ?_))
  refine g_if_eq (t := 20) (q := 11) dX10_choices_8 (by decide) rfl ?_ ?_
  · refine g_iconst (q := 21) dX10_choices_20 kI_m1 rfl ?_
    exact (g_iret dX10_choices_21)
  · refine g_iload_n (q := 12) 2 dX10_choices_11 rfl rfl rfl ?_
    refine g_iconst (q := 13) dX10_choices_12 kI_0 rfl ?_
    refine g_iconst (q := 14) dX10_choices_13 kI_3 rfl ?_
    refine g_callT (As := [.int a2, .int (0 : Int32), .int (3 : Int32)]) (st := []) (cn_X10_inRange) cwX10_88 rfl dX10_choices_14 rfl (Nat.le_of_ble_eq_true rfl) (by decide) (kk_PI (fun v3 => ?_))
    refine g_if_ne (t := 22) (q := 20) dX10_choices_17 (by decide) rfl ?_ ?_
    · refine g_iconst (q := 21) dX10_choices_20 kI_m1 rfl ?_
      exact (g_iret dX10_choices_21)
    · refine g_aload_n (q := 23) 0 dX10_choices_22 rfl rfl rfl ?_
      refine g_getA (q := 26) fX10_facts dX10_choices_23 ww381 rfl ?_
      refine g_iload_n (q := 27) 1 dX10_choices_26 rfl rfl rfl ?_
      refine g_callO (As := [.int a1]) (st := []) (cn_X1_know) shX1 rfl cwX10_256 rfl dX10_choices_27 rfl (Nat.le_of_ble_eq_true rfl) (by decide) (kk_V (fun s6 => ?_))
      refine g_iload_n (q := 31) 2 dX10_choices_30 rfl rfl rfl ?_
      refine g_if_ne (t := 54) (q := 34) dX10_choices_31 (by decide) rfl ?_ ?_
      · refine g_aload_n (q := 35) 0 dX10_choices_34 rfl rfl rfl ?_
        refine g_getA (q := 38) fX10_facts dX10_choices_35 ww381 rfl ?_
        refine g_iconst (q := 39) dX10_choices_38 kI_0 rfl ?_
        refine g_iconst (q := 40) dX10_choices_39 kI_0 rfl ?_
        refine g_callO (As := [.int (0 : Int32), .int (0 : Int32)]) (st := []) (cn_X1_sumOf) shX1 rfl cwX10_259 rfl dX10_choices_40 rfl (Nat.le_of_ble_eq_true rfl) (by decide) (kk_PI (fun v7 => ?_))
        refine g_aload_n (q := 44) 0 dX10_choices_43 rfl rfl rfl ?_
        refine g_getA (q := 47) fX10_facts dX10_choices_44 ww381 rfl ?_
        refine g_iconst (q := 48) dX10_choices_47 kI_1 rfl ?_
        refine g_iconst (q := 49) dX10_choices_48 kI_0 rfl ?_
        refine g_callO (As := [.int (1 : Int32), .int (0 : Int32)]) (st := [.int v7]) (cn_X1_sumOf) shX1 rfl cwX10_259 rfl dX10_choices_49 rfl (Nat.le_of_ble_eq_true rfl) (by decide) (kk_PI (fun v9 => ?_))
        refine g_iadd (q := 53) dX10_choices_52 rfl ?_
        exact (g_iret dX10_choices_53)
      · refine g_iload_n (q := 55) 2 dX10_choices_54 rfl rfl rfl ?_
        refine g_iconst (q := 56) dX10_choices_55 kI_1 rfl ?_
        refine g_icmp_ne (t := 69) (q := 59) dX10_choices_56 (by decide) rfl ?_ ?_
        · refine g_aload_n (q := 60) 0 dX10_choices_59 rfl rfl rfl ?_
          refine g_getA (q := 63) fX10_facts dX10_choices_60 ww381 rfl ?_
          refine g_iconst (q := 64) dX10_choices_63 kI_0 rfl ?_
          refine g_iconst (q := 65) dX10_choices_64 kI_0 rfl ?_
          refine g_callO (As := [.int (0 : Int32), .int (0 : Int32)]) (st := []) (cn_X1_sumOf) shX1 rfl cwX10_259 rfl dX10_choices_65 rfl (Nat.le_of_ble_eq_true rfl) (by decide) (kk_PI (fun v11 => ?_))
          exact (g_iret dX10_choices_68)
        · refine g_aload_n (q := 70) 0 dX10_choices_69 rfl rfl rfl ?_
          refine g_getA (q := 73) fX10_facts dX10_choices_70 ww381 rfl ?_
          refine g_iload_n (q := 74) 2 dX10_choices_73 rfl rfl rfl ?_
          refine g_iconst (q := 75) dX10_choices_74 kI_2 rfl ?_
          refine g_icmp_ne (t := 82) (q := 78) dX10_choices_75 (by decide) rfl ?_ ?_
          · refine g_iconst (q := 79) dX10_choices_78 kI_0 rfl ?_
            refine g_goto (t := 83) dX10_choices_79 (by decide) ?_
            refine g_iconst (q := 84) dX10_choices_83 kI_1 rfl ?_
            refine g_callO (As := [.int (0 : Int32), .int (1 : Int32)]) (st := []) (cn_X1_sumOf) shX1 rfl cwX10_259 rfl dX10_choices_84 rfl (Nat.le_of_ble_eq_true rfl) (by decide) (kk_PI (fun v13 => ?_))
            exact (g_iret dX10_choices_87)
          · refine g_iconst (q := 83) dX10_choices_82 kI_1 rfl ?_
            refine g_iconst (q := 84) dX10_choices_83 kI_1 rfl ?_
            refine g_callO (As := [.int (1 : Int32), .int (1 : Int32)]) (st := []) (cn_X1_sumOf) shX1 rfl cwX10_259 rfl dX10_choices_84 rfl (Nat.le_of_ble_eq_true rfl) (by decide) (kk_PI (fun v15 => ?_))
            exact (g_iret dX10_choices_87)
noncomputable def pX1_howManySure (a1 : Int32) (a2 : Int32) (σ : gS) : Option (Int32) := bn1 (lpP (fun (z2 : (Int32 × Int32)) => if (σ.1 39 4) ≤ z2.1 then some (.inr z2.2) else gx z2.1 60 (if (σ.1 43 z2.1.toNatClampNeg) = 0 then lt' (z2.1 + (1 : Int32)) (fun x3 => some (.inl (x3, z2.2))) else gx z2.1 60 (if (σ.1 40 z2.1.toNatClampNeg) = a1 then gx z2.1 60 (if (σ.1 42 z2.1.toNatClampNeg) = a2 then lt' (z2.2 + (1 : Int32)) (fun x4 => lt' (z2.1 + (1 : Int32)) (fun x5 => some (.inl (x5, x4)))) else lt' (z2.1 + (1 : Int32)) (fun x6 => some (.inl (x6, z2.2)))) else lt' (z2.1 + (1 : Int32)) (fun x7 => some (.inl (x7, z2.2)))))) ((0 : Int32), (0 : Int32))) (fun (z1 : Int32) => some (z1))
set_option maxRecDepth 100000 in
theorem cn_X1_howManySure {G : gG} {b : Nat} {a1 : Int32} {a2 : Int32} {σ : gS} : CN vC G b 1 yX1_howManySure cX1_howManySure 5 (some .int) (kPI σ) [.ref (b + 39), .int a1, .int a2] σ (pX1_howManySure a1 a2 σ) := by
  refine cn_of (own := RX1) rfl rfl (Nat.le_of_ble_eq_true rfl) ?_
  show GF vC G b (1, 0, 0) RX1 cX1_howManySure 5 (some .int) (kPI σ) 0 [(0, .ref (b + 39)), (1, .int a1), (2, .int a2)] [] σ (pX1_howManySure a1 a2 σ)
  unfold pX1_howManySure
  refine g_iconst (q := 1) dX1_howManySure_0 kI_0 rfl ?_
  refine g_istore_n (lr := [(0, .ref (b + 39)), (1, .int a1), (2, .int a2)]) (q := 2) dX1_howManySure_1 rfl (by decide) rfl rfl ?_
  refine g_iconst (q := 3) dX1_howManySure_2 kI_0 rfl ?_
  refine g_istore (lr := [(3, .int (0 : Int32)), (0, .ref (b + 39)), (1, .int a1), (2, .int a2)]) (q := 5) dX1_howManySure_3 (by decide) rfl rfl ?_
  refine g_bind (S := Int32) (hd := 55) (lvf := fun z1 => [(3, .int z1)]) (stf := fun z1 => []) (σf := fun z1 => σ) ?_ (fun z1 => ?_)
  · refine g_loop (S := (Int32 × Int32)) (lvf := fun z2 => [(4, .int z2.1), (3, .int z2.2), (0, .ref (b + 39)), (1, .int a1), (2, .int a2)]) (σf := fun z2 => σ) (fun z2 => ?_) ((0 : Int32), (0 : Int32))
    refine g_iload (q := 7) 0 dX1_howManySure_5 rfl rfl ?_
    refine g_aload_n (q := 8) 2 dX1_howManySure_7 rfl rfl rfl ?_
    refine g_getI (q := 11) fX1_size dX1_howManySure_8 ww315 rfl ?_
    refine g_icmp_ge (t := 55) (q := 14) dX1_howManySure_11 (by decide) rfl ?_ ?_
    · refine g_sub (lr := [(3, .int z2.2)]) [1] rfl ?_
      exact (g_leave (g_there (z2.2 : Int32)))
    · refine g_aload_n (q := 15) 2 dX1_howManySure_14 rfl rfl rfl ?_
      refine g_getA (q := 18) fX1_known dX1_howManySure_15 ww314 rfl ?_
      refine g_iload (q := 20) 0 dX1_howManySure_18 rfl rfl ?_
      refine g_zald (q := 21) (aX1_known) dX1_howManySure_20 rfl ?_
      refine g_if_eq (t := 49) (q := 24) dX1_howManySure_21 (by decide) rfl ?_ ?_
      · refine g_iinc (lr := [(3, .int z2.2), (0, .ref (b + 39)), (1, .int a1), (2, .int a2)]) (q := 52) 0 dX1_howManySure_49 rfl kI_1 (by decide) rfl rfl (fun x3 => ?_)
        refine g_goto (t := 5) dX1_howManySure_52 (by decide) ?_
        exact (g_again ((x3, z2.2) : (Int32 × Int32)))
      · refine g_aload_n (q := 25) 2 dX1_howManySure_24 rfl rfl rfl ?_
        refine g_getA (q := 28) fX1_kinds dX1_howManySure_25 ww310 rfl ?_
        refine g_iload (q := 30) 0 dX1_howManySure_28 rfl rfl ?_
        refine g_iald (q := 31) (aX1_kinds) dX1_howManySure_30 rfl ?_
        refine g_iload_n (q := 32) 3 dX1_howManySure_31 rfl rfl rfl ?_
        refine g_icmp_ne (t := 49) (q := 35) dX1_howManySure_32 (by decide) rfl ?_ ?_
        · refine g_aload_n (q := 36) 2 dX1_howManySure_35 rfl rfl rfl ?_
          refine g_getA (q := 39) fX1_values dX1_howManySure_36 ww313 rfl ?_
          refine g_iload (q := 41) 0 dX1_howManySure_39 rfl rfl ?_
          refine g_iald (q := 42) (aX1_values) dX1_howManySure_41 rfl ?_
          refine g_iload_n (q := 43) 4 dX1_howManySure_42 rfl rfl rfl ?_
          refine g_icmp_ne (t := 49) (q := 46) dX1_howManySure_43 (by decide) rfl ?_ ?_
          · refine g_iinc (lr := [(4, .int z2.1), (0, .ref (b + 39)), (1, .int a1), (2, .int a2)]) (q := 49) 1 dX1_howManySure_46 rfl kI_1 (by decide) rfl rfl (fun x4 => ?_)
            refine g_iinc (lr := [(3, .int x4), (0, .ref (b + 39)), (1, .int a1), (2, .int a2)]) (q := 52) 1 dX1_howManySure_49 rfl kI_1 (by decide) rfl rfl (fun x5 => ?_)
            refine g_goto (t := 5) dX1_howManySure_52 (by decide) ?_
            exact (g_again ((x5, x4) : (Int32 × Int32)))
          · refine g_iinc (lr := [(3, .int z2.2), (0, .ref (b + 39)), (1, .int a1), (2, .int a2)]) (q := 52) 0 dX1_howManySure_49 rfl kI_1 (by decide) rfl rfl (fun x6 => ?_)
            refine g_goto (t := 5) dX1_howManySure_52 (by decide) ?_
            exact (g_again ((x6, z2.2) : (Int32 × Int32)))
        · refine g_iinc (lr := [(3, .int z2.2), (0, .ref (b + 39)), (1, .int a1), (2, .int a2)]) (q := 52) 0 dX1_howManySure_49 rfl kI_1 (by decide) rfl rfl (fun x7 => ?_)
          refine g_goto (t := 5) dX1_howManySure_52 (by decide) ?_
          exact (g_again ((x7, z2.2) : (Int32 × Int32)))
  · refine g_iload_n (q := 56) 0 dX1_howManySure_55 rfl rfl rfl ?_
    exact (g_iretP dX1_howManySure_56)
noncomputable def pX10_sure (a1 : Int32) (a2 : Int32) (a3 : Int32) (σ : gS) : Option (Int32 × gS) := bn1 (pX1_canKnow a1 σ) (fun v1 => if v1 = 0 then some ((-1 : Int32), σ) else bn1 (pX10_inRange a2 (1 : Int32) (5 : Int32)) (fun v3 => if v3 = 0 then some ((-1 : Int32), σ) else bn1 (pX10_inRange a3 (0 : Int32) (1 : Int32)) (fun v5 => if v5 = 0 then some ((-1 : Int32), σ) else bn1 (pX1_know a1 σ) (fun s8 => bn1 (pX1_howManySure (0 : Int32) a2 s8) (fun v9 => if a3 = (1 : Int32) then some (v9, s8) else bn1 (pX1_howManySure (1 : Int32) a2 s8) (fun v11 => some (v9 + v11, s8)))))))
set_option maxRecDepth 100000 in
theorem cn_X10_sure {G : gG} {b : Nat} {a1 : Int32} {a2 : Int32} {a3 : Int32} {σ : gS} : CN vC G b 3 yX10_sure cX10_sure 5 (some .int) kI [.ref (b + 0), .int a1, .int a2, .int a3] σ (pX10_sure a1 a2 a3 σ) := by
  refine cn_of (own := RX10) rfl rfl (Nat.le_of_ble_eq_true rfl) ?_
  show GF vC G b (3, 0, 0) RX10 cX10_sure 5 (some .int) kI 0 [(0, .ref (b + 0)), (1, .int a1), (2, .int a2), (3, .int a3)] [] σ (pX10_sure a1 a2 a3 σ)
  unfold pX10_sure
  refine g_aload_n (q := 1) 0 dX10_sure_0 rfl rfl rfl ?_
  refine g_getA (q := 4) fX10_facts dX10_sure_1 ww381 rfl ?_
  refine g_iload_n (q := 5) 1 dX10_sure_4 rfl rfl rfl ?_
  refine g_callO (As := [.int a1]) (st := []) (cn_X1_canKnow) shX1 rfl cwX10_253 rfl dX10_sure_5 rfl (Nat.le_of_ble_eq_true rfl) (by decide) (kk_PI (fun v1 => ?_))
  refine g_if_eq (t := 29) (q := 11) dX10_sure_8 (by decide) rfl ?_ ?_
  · refine g_iconst (q := 30) dX10_sure_29 kI_m1 rfl ?_
    exact (g_iret dX10_sure_30)
  · refine g_iload_n (q := 12) 2 dX10_sure_11 rfl rfl rfl ?_
    refine g_iconst (q := 13) dX10_sure_12 kI_1 rfl ?_
    refine g_iconst (q := 14) dX10_sure_13 kI_5 rfl ?_
    refine g_callT (As := [.int a2, .int (1 : Int32), .int (5 : Int32)]) (st := []) (cn_X10_inRange) cwX10_88 rfl dX10_sure_14 rfl (Nat.le_of_ble_eq_true rfl) (by decide) (kk_PI (fun v3 => ?_))
    refine g_if_eq (t := 29) (q := 20) dX10_sure_17 (by decide) rfl ?_ ?_
    · refine g_iconst (q := 30) dX10_sure_29 kI_m1 rfl ?_
      exact (g_iret dX10_sure_30)
    · refine g_iload_n (q := 21) 3 dX10_sure_20 rfl rfl rfl ?_
      refine g_iconst (q := 22) dX10_sure_21 kI_0 rfl ?_
      refine g_iconst (q := 23) dX10_sure_22 kI_1 rfl ?_
      refine g_callT (As := [.int a3, .int (0 : Int32), .int (1 : Int32)]) (st := []) (cn_X10_inRange) cwX10_88 rfl dX10_sure_23 rfl (Nat.le_of_ble_eq_true rfl) (by decide) (kk_PI (fun v5 => ?_))
      refine g_if_ne (t := 31) (q := 29) dX10_sure_26 (by decide) rfl ?_ ?_
      · refine g_iconst (q := 30) dX10_sure_29 kI_m1 rfl ?_
        exact (g_iret dX10_sure_30)
      · refine g_aload_n (q := 32) 0 dX10_sure_31 rfl rfl rfl ?_
        refine g_getA (q := 35) fX10_facts dX10_sure_32 ww381 rfl ?_
        refine g_iload_n (q := 36) 1 dX10_sure_35 rfl rfl rfl ?_
        refine g_callO (As := [.int a1]) (st := []) (cn_X1_know) shX1 rfl cwX10_256 rfl dX10_sure_36 rfl (Nat.le_of_ble_eq_true rfl) (by decide) (kk_V (fun s8 => ?_))
        refine g_aload_n (q := 40) 0 dX10_sure_39 rfl rfl rfl ?_
        refine g_getA (q := 43) fX10_facts dX10_sure_40 ww381 rfl ?_
        refine g_iconst (q := 44) dX10_sure_43 kI_0 rfl ?_
        refine g_iload_n (q := 45) 2 dX10_sure_44 rfl rfl rfl ?_
        refine g_callO (As := [.int (0 : Int32), .int a2]) (st := []) (cn_X1_howManySure) shX1 rfl cwX10_263 rfl dX10_sure_45 rfl (Nat.le_of_ble_eq_true rfl) (by decide) (kk_PI (fun v9 => ?_))
        refine g_istore (lr := [(0, .ref (b + 0)), (1, .int a1), (2, .int a2), (3, .int a3)]) (q := 50) dX10_sure_48 (by decide) rfl rfl ?_
        refine g_iload_n (q := 51) 4 dX10_sure_50 rfl rfl rfl ?_
        refine g_iconst (q := 52) dX10_sure_51 kI_1 rfl ?_
        refine g_icmp_ne (t := 60) (q := 55) dX10_sure_52 (by decide) rfl ?_ ?_
        · refine g_iload (q := 57) 0 dX10_sure_55 rfl rfl ?_
          refine g_goto (t := 72) dX10_sure_57 (by decide) ?_
          exact (g_iret dX10_sure_72)
        · refine g_iload (q := 62) 0 dX10_sure_60 rfl rfl ?_
          refine g_aload_n (q := 63) 1 dX10_sure_62 rfl rfl rfl ?_
          refine g_getA (q := 66) fX10_facts dX10_sure_63 ww381 rfl ?_
          refine g_iconst (q := 67) dX10_sure_66 kI_1 rfl ?_
          refine g_iload_n (q := 68) 3 dX10_sure_67 rfl rfl rfl ?_
          refine g_callO (As := [.int (1 : Int32), .int a2]) (st := [.int v9]) (cn_X1_howManySure) shX1 rfl cwX10_263 rfl dX10_sure_68 rfl (Nat.le_of_ble_eq_true rfl) (by decide) (kk_PI (fun v11 => ?_))
          refine g_iadd (q := 72) dX10_sure_71 rfl ?_
          exact (g_iret dX10_sure_72)
noncomputable def pJ6_compare_7cf53 (a1 : Int32) (a2 : Int32) : Option (Int32) := if a2 ≤ a1 then if a1 = a2 then some ((0 : Int32)) else some ((1 : Int32)) else some ((-1 : Int32))
set_option maxRecDepth 100000 in
theorem cn_J6_compare_7cf53 {G : gG} {b : Nat} {V : gV} {a1 : Int32} {a2 : Int32} {σ : gS} : CN V G b 1 yJ6_compare_7cf53 cJ6_compare_7cf53 2 (some .int) (kPI σ) [.int a1, .int a2] σ (pJ6_compare_7cf53 a1 a2) := by
  refine cn_ofF (own := RJ6) (by decide +kernel) rfl (Nat.le_of_ble_eq_true rfl) ?_
  show GF V G b (1, 0, 0) RJ6 cJ6_compare_7cf53 2 (some .int) (kPI σ) 0 [(0, .int a1), (1, .int a2)] [] σ (pJ6_compare_7cf53 a1 a2)
  unfold pJ6_compare_7cf53
  refine g_iload_n (q := 1) 0 dJ6_compare_7cf53_0 rfl rfl rfl ?_
  refine g_iload_n (q := 2) 1 dJ6_compare_7cf53_1 rfl rfl rfl ?_
  refine g_icmp_ge (t := 9) (q := 5) dJ6_compare_7cf53_2 (by decide) rfl ?_ ?_
  · refine g_iload_n (q := 10) 0 dJ6_compare_7cf53_9 rfl rfl rfl ?_
    refine g_iload_n (q := 11) 1 dJ6_compare_7cf53_10 rfl rfl rfl ?_
    refine g_icmp_ne (t := 18) (q := 14) dJ6_compare_7cf53_11 (by decide) rfl ?_ ?_
    · refine g_iconst (q := 15) dJ6_compare_7cf53_14 kI_0 rfl ?_
      refine g_goto (t := 19) dJ6_compare_7cf53_15 (by decide) ?_
      exact (g_iretP dJ6_compare_7cf53_19)
    · refine g_iconst (q := 19) dJ6_compare_7cf53_18 kI_1 rfl ?_
      exact (g_iretP dJ6_compare_7cf53_19)
  · refine g_iconst (q := 6) dJ6_compare_7cf53_5 kI_m1 rfl ?_
    refine g_goto (t := 19) dJ6_compare_7cf53_6 (by decide) ?_
    exact (g_iretP dJ6_compare_7cf53_19)
noncomputable def pX10_surer (a1 : Int32) (a2 : Int32) (σ : gS) : Option (Int32 × gS) := bn1 (pX1_canKnow a1 σ) (fun v1 => if v1 = 0 then some ((-1 : Int32), σ) else bn1 (pX10_inRange a2 (0 : Int32) (2 : Int32)) (fun v3 => if v3 = 0 then some ((-1 : Int32), σ) else bn1 (pX1_know a1 σ) (fun s6 => bn1 (lpP (fun (z8 : (Int32 × Int32)) => if (5 : Int32) < z8.1 then some (.inr z8.2) else bn1 (lpP (fun (z10 : (Int32 × Int32)) => if (5 : Int32) < z10.1 then some (.inr z10.2) else bn1 (pJ6_compare_7cf53 z8.1 z10.1) (fun v11 => if ((1 : Int32) - v11) = a2 then bn1 (pX1_howManySure (0 : Int32) z8.1 s6) (fun v13 => bn1 (pX1_howManySure (1 : Int32) z10.1 s6) (fun v15 => lt' (z10.2 + (v13 * v15)) (fun x17 => lt' (z10.1 + (1 : Int32)) (fun x18 => some (.inl (x18, x17)))))) else lt' (z10.1 + (1 : Int32)) (fun x19 => some (.inl (x19, z10.2))))) ((1 : Int32), z8.2)) (fun (z9 : Int32) => lt' (z8.1 + (1 : Int32)) (fun x20 => some (.inl (x20, z9))))) ((1 : Int32), (0 : Int32))) (fun (z7 : Int32) => some (z7, s6)))))
set_option maxRecDepth 100000 in
theorem cn_X10_surer {G : gG} {b : Nat} {a1 : Int32} {a2 : Int32} {σ : gS} : CN vC G b 3 yX10_surer cX10_surer 6 (some .int) kI [.ref (b + 0), .int a1, .int a2] σ (pX10_surer a1 a2 σ) := by
  refine cn_of (own := RX10) rfl rfl (Nat.le_of_ble_eq_true rfl) ?_
  show GF vC G b (3, 0, 0) RX10 cX10_surer 6 (some .int) kI 0 [(0, .ref (b + 0)), (1, .int a1), (2, .int a2)] [] σ (pX10_surer a1 a2 σ)
  unfold pX10_surer
  refine g_aload_n (q := 1) 0 dX10_surer_0 rfl rfl rfl ?_
  refine g_getA (q := 4) fX10_facts dX10_surer_1 ww381 rfl ?_
  refine g_iload_n (q := 5) 1 dX10_surer_4 rfl rfl rfl ?_
  refine g_callO (As := [.int a1]) (st := []) (cn_X1_canKnow) shX1 rfl cwX10_253 rfl dX10_surer_5 rfl (Nat.le_of_ble_eq_true rfl) (by decide) (kk_PI (fun v1 => ?_))
  refine g_if_eq (t := 20) (q := 11) dX10_surer_8 (by decide) rfl ?_ ?_
  · refine g_iconst (q := 21) dX10_surer_20 kI_m1 rfl ?_
    exact (g_iret dX10_surer_21)
  · refine g_iload_n (q := 12) 2 dX10_surer_11 rfl rfl rfl ?_
    refine g_iconst (q := 13) dX10_surer_12 kI_0 rfl ?_
    refine g_iconst (q := 14) dX10_surer_13 kI_2 rfl ?_
    refine g_callT (As := [.int a2, .int (0 : Int32), .int (2 : Int32)]) (st := []) (cn_X10_inRange) cwX10_88 rfl dX10_surer_14 rfl (Nat.le_of_ble_eq_true rfl) (by decide) (kk_PI (fun v3 => ?_))
    refine g_if_ne (t := 22) (q := 20) dX10_surer_17 (by decide) rfl ?_ ?_
    · refine g_iconst (q := 21) dX10_surer_20 kI_m1 rfl ?_
      exact (g_iret dX10_surer_21)
    · refine g_aload_n (q := 23) 0 dX10_surer_22 rfl rfl rfl ?_
      refine g_getA (q := 26) fX10_facts dX10_surer_23 ww381 rfl ?_
      refine g_iload_n (q := 27) 1 dX10_surer_26 rfl rfl rfl ?_
      refine g_callO (As := [.int a1]) (st := []) (cn_X1_know) shX1 rfl cwX10_256 rfl dX10_surer_27 rfl (Nat.le_of_ble_eq_true rfl) (by decide) (kk_V (fun s6 => ?_))
      refine g_iconst (q := 31) dX10_surer_30 kI_0 rfl ?_
      refine g_istore_n (lr := [(0, .ref (b + 0)), (1, .int a1), (2, .int a2)]) (q := 32) dX10_surer_31 rfl (by decide) rfl rfl ?_
      refine g_iconst (q := 33) dX10_surer_32 kI_1 rfl ?_
      refine g_istore (lr := [(3, .int (0 : Int32)), (0, .ref (b + 0)), (1, .int a1), (2, .int a2)]) (q := 35) dX10_surer_33 (by decide) rfl rfl ?_
      refine g_bind (S := Int32) (hd := 99) (lvf := fun z7 => [(3, .int z7)]) (stf := fun z7 => []) (σf := fun z7 => s6) ?_ (fun z7 => ?_)
      · refine g_sub (lr := [(4, .int (1 : Int32)), (3, .int (0 : Int32)), (0, .ref (b + 0)), (2, .int a2)]) [0, 1, 2, 4] rfl ?_
        refine g_loop (S := (Int32 × Int32)) (lvf := fun z8 => [(4, .int z8.1), (3, .int z8.2), (0, .ref (b + 0)), (2, .int a2)]) (σf := fun z8 => s6) (fun z8 => ?_) ((1 : Int32), (0 : Int32))
        refine g_iload (q := 37) 0 dX10_surer_35 rfl rfl ?_
        refine g_iconst (q := 38) dX10_surer_37 kI_5 rfl ?_
        refine g_icmp_gt (t := 99) (q := 41) dX10_surer_38 (by decide) rfl ?_ ?_
        · refine g_sub (lr := [(3, .int z8.2)]) [1] rfl ?_
          exact (g_leave (g_there (z8.2 : Int32)))
        · refine g_iconst (q := 42) dX10_surer_41 kI_1 rfl ?_
          refine g_istore (lr := [(4, .int z8.1), (3, .int z8.2), (0, .ref (b + 0)), (2, .int a2)]) (q := 44) dX10_surer_42 (by decide) rfl rfl ?_
          refine g_bind (S := Int32) (hd := 93) (lvf := fun z9 => [(3, .int z9), (4, .int z8.1), (0, .ref (b + 0)), (2, .int a2)]) (stf := fun z9 => []) (σf := fun z9 => s6) ?_ (fun z9 => ?_)
          · refine g_sub (lr := [(5, .int (1 : Int32)), (3, .int z8.2), (4, .int z8.1), (0, .ref (b + 0)), (2, .int a2)]) [0, 2, 1, 3, 4] rfl ?_
            refine g_loop (S := (Int32 × Int32)) (lvf := fun z10 => [(5, .int z10.1), (3, .int z10.2), (4, .int z8.1), (0, .ref (b + 0)), (2, .int a2)]) (σf := fun z10 => s6) (fun z10 => ?_) ((1 : Int32), z8.2)
            refine g_iload (q := 46) 0 dX10_surer_44 rfl rfl ?_
            refine g_iconst (q := 47) dX10_surer_46 kI_5 rfl ?_
            refine g_icmp_gt (t := 93) (q := 50) dX10_surer_47 (by decide) rfl ?_ ?_
            · refine g_sub (lr := [(3, .int z10.2), (4, .int z8.1), (0, .ref (b + 0)), (2, .int a2)]) [1, 2, 3, 4] rfl ?_
              exact (g_leave (g_there (z10.2 : Int32)))
            · refine g_iconst (q := 51) dX10_surer_50 kI_1 rfl ?_
              refine g_iload (q := 53) 2 dX10_surer_51 rfl rfl ?_
              refine g_iload (q := 55) 0 dX10_surer_53 rfl rfl ?_
              refine g_callT (As := [.int z8.1, .int z10.1]) (st := [.int (1 : Int32)]) (cn_J6_compare_7cf53) cwX10_266 rfl dX10_surer_55 rfl (Nat.le_of_ble_eq_true rfl) (by decide) (kk_PI (fun v11 => ?_))
              refine g_isub (q := 59) dX10_surer_58 rfl ?_
              refine g_iload_n (q := 60) 4 dX10_surer_59 rfl rfl rfl ?_
              refine g_icmp_ne (t := 87) (q := 63) dX10_surer_60 (by decide) rfl ?_ ?_
              · refine g_iload_n (q := 64) 1 dX10_surer_63 rfl rfl rfl ?_
                refine g_aload_n (q := 65) 3 dX10_surer_64 rfl rfl rfl ?_
                refine g_getA (q := 68) fX10_facts dX10_surer_65 ww381 rfl ?_
                refine g_iconst (q := 69) dX10_surer_68 kI_0 rfl ?_
                refine g_iload (q := 71) 2 dX10_surer_69 rfl rfl ?_
                refine g_callO (As := [.int (0 : Int32), .int z8.1]) (st := [.int z10.2]) (cn_X1_howManySure) shX1 rfl cwX10_263 rfl dX10_surer_71 rfl (Nat.le_of_ble_eq_true rfl) (by decide) (kk_PI (fun v13 => ?_))
                refine g_aload_n (q := 75) 3 dX10_surer_74 rfl rfl rfl ?_
                refine g_getA (q := 78) fX10_facts dX10_surer_75 ww381 rfl ?_
                refine g_iconst (q := 79) dX10_surer_78 kI_1 rfl ?_
                refine g_iload (q := 81) 0 dX10_surer_79 rfl rfl ?_
                refine g_callO (As := [.int (1 : Int32), .int z10.1]) (st := [.int v13, .int z10.2]) (cn_X1_howManySure) shX1 rfl cwX10_263 rfl dX10_surer_81 rfl (Nat.le_of_ble_eq_true rfl) (by decide) (kk_PI (fun v15 => ?_))
                refine g_imul (q := 85) dX10_surer_84 rfl ?_
                refine g_iadd (q := 86) dX10_surer_85 rfl ?_
                refine g_leti (fun x17 => ?_)
                refine g_istore_n (lr := [(5, .int z10.1), (4, .int z8.1), (0, .ref (b + 0)), (2, .int a2)]) (q := 87) dX10_surer_86 rfl (by decide) rfl rfl ?_
                refine g_iinc (lr := [(3, .int x17), (4, .int z8.1), (0, .ref (b + 0)), (2, .int a2)]) (q := 90) 1 dX10_surer_87 rfl kI_1 (by decide) rfl rfl (fun x18 => ?_)
                refine g_goto (t := 44) dX10_surer_90 (by decide) ?_
                exact (g_again ((x18, x17) : (Int32 × Int32)))
              · refine g_iinc (lr := [(3, .int z10.2), (4, .int z8.1), (0, .ref (b + 0)), (2, .int a2)]) (q := 90) 0 dX10_surer_87 rfl kI_1 (by decide) rfl rfl (fun x19 => ?_)
                refine g_goto (t := 44) dX10_surer_90 (by decide) ?_
                exact (g_again ((x19, z10.2) : (Int32 × Int32)))
          · refine g_iinc (lr := [(3, .int z9), (0, .ref (b + 0)), (2, .int a2)]) (q := 96) 1 dX10_surer_93 rfl kI_1 (by decide) rfl rfl (fun x20 => ?_)
            refine g_goto (t := 35) dX10_surer_96 (by decide) ?_
            exact (g_again ((x20, z9) : (Int32 × Int32)))
      · refine g_iload_n (q := 100) 0 dX10_surer_99 rfl rfl rfl ?_
        exact (g_iret dX10_surer_100)
noncomputable def pX1_isListed (a1 : Int32) (σ : gS) : Option (Int32) := bn1 (lpP (fun (z2 : (Int32 × Int32)) => if (σ.1 39 4) ≤ z2.1 then some (.inr z2.2) else gx z2.1 60 (if (σ.1 43 z2.1.toNatClampNeg) = 0 then lt' (z2.1 + (1 : Int32)) (fun x3 => some (.inl (x3, z2.2))) else gx z2.1 60 (if (σ.1 41 z2.1.toNatClampNeg) = a1 then gx z2.1 60 (if (σ.1 40 z2.1.toNatClampNeg) = (2 : Int32) then gx z2.1 60 (if (σ.1 40 z2.1.toNatClampNeg) = (2 : Int32) then lt' (z2.1 + (1 : Int32)) (fun x4 => some (.inl (x4, (1 : Int32)))) else lt' (z2.1 + (1 : Int32)) (fun x5 => some (.inl (x5, (0 : Int32))))) else gx z2.1 60 (if (σ.1 40 z2.1.toNatClampNeg) = (3 : Int32) then gx z2.1 60 (if (σ.1 40 z2.1.toNatClampNeg) = (2 : Int32) then lt' (z2.1 + (1 : Int32)) (fun x6 => some (.inl (x6, (1 : Int32)))) else lt' (z2.1 + (1 : Int32)) (fun x7 => some (.inl (x7, (0 : Int32))))) else lt' (z2.1 + (1 : Int32)) (fun x8 => some (.inl (x8, z2.2))))) else lt' (z2.1 + (1 : Int32)) (fun x9 => some (.inl (x9, z2.2)))))) ((0 : Int32), (0 : Int32))) (fun (z1 : Int32) => some (z1 &&& 1))
set_option maxRecDepth 100000 in
theorem cn_X1_isListed {G : gG} {b : Nat} {a1 : Int32} {σ : gS} : CN vC G b 1 yX1_isListed cX1_isListed 4 (some .boolean) (kPI σ) [.ref (b + 39), .int a1] σ (pX1_isListed a1 σ) := by
  refine cn_of (own := RX1) rfl rfl (Nat.le_of_ble_eq_true rfl) ?_
  show GF vC G b (1, 0, 0) RX1 cX1_isListed 4 (some .boolean) (kPI σ) 0 [(0, .ref (b + 39)), (1, .int a1)] [] σ (pX1_isListed a1 σ)
  unfold pX1_isListed
  refine g_iconst (q := 1) dX1_isListed_0 kI_0 rfl ?_
  refine g_istore_n (lr := [(0, .ref (b + 39)), (1, .int a1)]) (q := 2) dX1_isListed_1 rfl (by decide) rfl rfl ?_
  refine g_iconst (q := 3) dX1_isListed_2 kI_0 rfl ?_
  refine g_istore_n (lr := [(2, .int (0 : Int32)), (0, .ref (b + 39)), (1, .int a1)]) (q := 4) dX1_isListed_3 rfl (by decide) rfl rfl ?_
  refine g_bind (S := Int32) (hd := 73) (lvf := fun z1 => [(2, .int z1)]) (stf := fun z1 => []) (σf := fun z1 => σ) ?_ (fun z1 => ?_)
  · refine g_loop (S := (Int32 × Int32)) (lvf := fun z2 => [(3, .int z2.1), (2, .int z2.2), (0, .ref (b + 39)), (1, .int a1)]) (σf := fun z2 => σ) (fun z2 => ?_) ((0 : Int32), (0 : Int32))
    refine g_iload_n (q := 5) 0 dX1_isListed_4 rfl rfl rfl ?_
    refine g_aload_n (q := 6) 2 dX1_isListed_5 rfl rfl rfl ?_
    refine g_getI (q := 9) fX1_size dX1_isListed_6 ww315 rfl ?_
    refine g_icmp_ge (t := 73) (q := 12) dX1_isListed_9 (by decide) rfl ?_ ?_
    · refine g_sub (lr := [(2, .int z2.2)]) [1] rfl ?_
      exact (g_leave (g_there (z2.2 : Int32)))
    · refine g_aload_n (q := 13) 2 dX1_isListed_12 rfl rfl rfl ?_
      refine g_getA (q := 16) fX1_known dX1_isListed_13 ww314 rfl ?_
      refine g_iload_n (q := 17) 0 dX1_isListed_16 rfl rfl rfl ?_
      refine g_zald (q := 18) (aX1_known) dX1_isListed_17 rfl ?_
      refine g_if_eq (t := 67) (q := 21) dX1_isListed_18 (by decide) rfl ?_ ?_
      · refine g_iinc (lr := [(2, .int z2.2), (0, .ref (b + 39)), (1, .int a1)]) (q := 70) 0 dX1_isListed_67 rfl kI_1 (by decide) rfl rfl (fun x3 => ?_)
        refine g_goto (t := 4) dX1_isListed_70 (by decide) ?_
        exact (g_again ((x3, z2.2) : (Int32 × Int32)))
      · refine g_aload_n (q := 22) 2 dX1_isListed_21 rfl rfl rfl ?_
        refine g_getA (q := 25) fX1_subjects dX1_isListed_22 ww312 rfl ?_
        refine g_iload_n (q := 26) 0 dX1_isListed_25 rfl rfl rfl ?_
        refine g_iald (q := 27) (aX1_subjects) dX1_isListed_26 rfl ?_
        refine g_iload_n (q := 28) 3 dX1_isListed_27 rfl rfl rfl ?_
        refine g_icmp_ne (t := 67) (q := 31) dX1_isListed_28 (by decide) rfl ?_ ?_
        · refine g_aload_n (q := 32) 2 dX1_isListed_31 rfl rfl rfl ?_
          refine g_getA (q := 35) fX1_kinds dX1_isListed_32 ww310 rfl ?_
          refine g_iload_n (q := 36) 0 dX1_isListed_35 rfl rfl rfl ?_
          refine g_iald (q := 37) (aX1_kinds) dX1_isListed_36 rfl ?_
          refine g_iconst (q := 38) dX1_isListed_37 kI_2 rfl ?_
          refine g_icmp_eq (t := 51) (q := 41) dX1_isListed_38 (by decide) rfl ?_ ?_
          · refine g_aload_n (q := 52) 2 dX1_isListed_51 rfl rfl rfl ?_
            refine g_getA (q := 55) fX1_kinds dX1_isListed_52 ww310 rfl ?_
            refine g_iload_n (q := 56) 0 dX1_isListed_55 rfl rfl rfl ?_
            refine g_iald (q := 57) (aX1_kinds) dX1_isListed_56 rfl ?_
            refine g_iconst (q := 58) dX1_isListed_57 kI_2 rfl ?_
            refine g_icmp_ne (t := 65) (q := 61) dX1_isListed_58 (by decide) rfl ?_ ?_
            · refine g_iconst (q := 62) dX1_isListed_61 kI_1 rfl ?_
              refine g_goto (t := 66) dX1_isListed_62 (by decide) ?_
              refine g_istore_n (lr := [(3, .int z2.1), (0, .ref (b + 39)), (1, .int a1)]) (q := 67) dX1_isListed_66 rfl (by decide) rfl rfl ?_
              refine g_iinc (lr := [(2, .int (1 : Int32)), (0, .ref (b + 39)), (1, .int a1)]) (q := 70) 1 dX1_isListed_67 rfl kI_1 (by decide) rfl rfl (fun x4 => ?_)
              refine g_goto (t := 4) dX1_isListed_70 (by decide) ?_
              exact (g_again ((x4, (1 : Int32)) : (Int32 × Int32)))
            · refine g_iconst (q := 66) dX1_isListed_65 kI_0 rfl ?_
              refine g_istore_n (lr := [(3, .int z2.1), (0, .ref (b + 39)), (1, .int a1)]) (q := 67) dX1_isListed_66 rfl (by decide) rfl rfl ?_
              refine g_iinc (lr := [(2, .int (0 : Int32)), (0, .ref (b + 39)), (1, .int a1)]) (q := 70) 1 dX1_isListed_67 rfl kI_1 (by decide) rfl rfl (fun x5 => ?_)
              refine g_goto (t := 4) dX1_isListed_70 (by decide) ?_
              exact (g_again ((x5, (0 : Int32)) : (Int32 × Int32)))
          · refine g_aload_n (q := 42) 2 dX1_isListed_41 rfl rfl rfl ?_
            refine g_getA (q := 45) fX1_kinds dX1_isListed_42 ww310 rfl ?_
            refine g_iload_n (q := 46) 0 dX1_isListed_45 rfl rfl rfl ?_
            refine g_iald (q := 47) (aX1_kinds) dX1_isListed_46 rfl ?_
            refine g_iconst (q := 48) dX1_isListed_47 kI_3 rfl ?_
            refine g_icmp_ne (t := 67) (q := 51) dX1_isListed_48 (by decide) rfl ?_ ?_
            · refine g_aload_n (q := 52) 2 dX1_isListed_51 rfl rfl rfl ?_
              refine g_getA (q := 55) fX1_kinds dX1_isListed_52 ww310 rfl ?_
              refine g_iload_n (q := 56) 0 dX1_isListed_55 rfl rfl rfl ?_
              refine g_iald (q := 57) (aX1_kinds) dX1_isListed_56 rfl ?_
              refine g_iconst (q := 58) dX1_isListed_57 kI_2 rfl ?_
              refine g_icmp_ne (t := 65) (q := 61) dX1_isListed_58 (by decide) rfl ?_ ?_
              · refine g_iconst (q := 62) dX1_isListed_61 kI_1 rfl ?_
                refine g_goto (t := 66) dX1_isListed_62 (by decide) ?_
                refine g_istore_n (lr := [(3, .int z2.1), (0, .ref (b + 39)), (1, .int a1)]) (q := 67) dX1_isListed_66 rfl (by decide) rfl rfl ?_
                refine g_iinc (lr := [(2, .int (1 : Int32)), (0, .ref (b + 39)), (1, .int a1)]) (q := 70) 1 dX1_isListed_67 rfl kI_1 (by decide) rfl rfl (fun x6 => ?_)
                refine g_goto (t := 4) dX1_isListed_70 (by decide) ?_
                exact (g_again ((x6, (1 : Int32)) : (Int32 × Int32)))
              · refine g_iconst (q := 66) dX1_isListed_65 kI_0 rfl ?_
                refine g_istore_n (lr := [(3, .int z2.1), (0, .ref (b + 39)), (1, .int a1)]) (q := 67) dX1_isListed_66 rfl (by decide) rfl rfl ?_
                refine g_iinc (lr := [(2, .int (0 : Int32)), (0, .ref (b + 39)), (1, .int a1)]) (q := 70) 1 dX1_isListed_67 rfl kI_1 (by decide) rfl rfl (fun x7 => ?_)
                refine g_goto (t := 4) dX1_isListed_70 (by decide) ?_
                exact (g_again ((x7, (0 : Int32)) : (Int32 × Int32)))
            · refine g_iinc (lr := [(2, .int z2.2), (0, .ref (b + 39)), (1, .int a1)]) (q := 70) 0 dX1_isListed_67 rfl kI_1 (by decide) rfl rfl (fun x8 => ?_)
              refine g_goto (t := 4) dX1_isListed_70 (by decide) ?_
              exact (g_again ((x8, z2.2) : (Int32 × Int32)))
        · refine g_iinc (lr := [(2, .int z2.2), (0, .ref (b + 39)), (1, .int a1)]) (q := 70) 0 dX1_isListed_67 rfl kI_1 (by decide) rfl rfl (fun x9 => ?_)
          refine g_goto (t := 4) dX1_isListed_70 (by decide) ?_
          exact (g_again ((x9, z2.2) : (Int32 × Int32)))
  · refine g_iload_n (q := 74) 0 dX1_isListed_73 rfl rfl rfl ?_
    exact (g_bretP dX1_isListed_74)
noncomputable def pX10_on (a1 : Int32) (a2 : Int32) (σ : gS) : Option (Int32 × gS) := bn1 (pX2_has a1 σ) (fun v1 => if v1 = 0 then some ((-1 : Int32), σ) else bn1 (pX1_canKnow a2 σ) (fun v3 => if v3 = 0 then some ((-1 : Int32), σ) else bn1 (pX1_know a2 σ) (fun s6 => bn1 (pX1_isListed a1 s6) (fun v7 => if v7 = 0 then some ((0 : Int32), s6) else some ((1 : Int32), s6)))))
set_option maxRecDepth 100000 in
theorem cn_X10_on {G : gG} {b : Nat} {a1 : Int32} {a2 : Int32} {σ : gS} : CN vC G b 3 yX10_on cX10_on 3 (some .int) kI [.ref (b + 0), .int a1, .int a2] σ (pX10_on a1 a2 σ) := by
  refine cn_of (own := RX10) rfl rfl (Nat.le_of_ble_eq_true rfl) ?_
  show GF vC G b (3, 0, 0) RX10 cX10_on 3 (some .int) kI 0 [(0, .ref (b + 0)), (1, .int a1), (2, .int a2)] [] σ (pX10_on a1 a2 σ)
  unfold pX10_on
  refine g_aload_n (q := 1) 0 dX10_on_0 rfl rfl rfl ?_
  refine g_getA (q := 4) fX10_people dX10_on_1 ww379 rfl ?_
  refine g_iload_n (q := 5) 1 dX10_on_4 rfl rfl rfl ?_
  refine g_callO (As := [.int a1]) (st := []) (cn_X2_has) shX2 rfl cwX10_106 rfl dX10_on_5 rfl (Nat.le_of_ble_eq_true rfl) (by decide) (kk_PI (fun v1 => ?_))
  refine g_if_eq (t := 22) (q := 11) dX10_on_8 (by decide) rfl ?_ ?_
  · refine g_iconst (q := 23) dX10_on_22 kI_m1 rfl ?_
    exact (g_iret dX10_on_23)
  · refine g_aload_n (q := 12) 0 dX10_on_11 rfl rfl rfl ?_
    refine g_getA (q := 15) fX10_facts dX10_on_12 ww381 rfl ?_
    refine g_iload_n (q := 16) 2 dX10_on_15 rfl rfl rfl ?_
    refine g_callO (As := [.int a2]) (st := []) (cn_X1_canKnow) shX1 rfl cwX10_253 rfl dX10_on_16 rfl (Nat.le_of_ble_eq_true rfl) (by decide) (kk_PI (fun v3 => ?_))
    refine g_if_ne (t := 24) (q := 22) dX10_on_19 (by decide) rfl ?_ ?_
    · refine g_iconst (q := 23) dX10_on_22 kI_m1 rfl ?_
      exact (g_iret dX10_on_23)
    · refine g_aload_n (q := 25) 0 dX10_on_24 rfl rfl rfl ?_
      refine g_getA (q := 28) fX10_facts dX10_on_25 ww381 rfl ?_
      refine g_iload_n (q := 29) 2 dX10_on_28 rfl rfl rfl ?_
      refine g_callO (As := [.int a2]) (st := []) (cn_X1_know) shX1 rfl cwX10_256 rfl dX10_on_29 rfl (Nat.le_of_ble_eq_true rfl) (by decide) (kk_V (fun s6 => ?_))
      refine g_aload_n (q := 33) 0 dX10_on_32 rfl rfl rfl ?_
      refine g_getA (q := 36) fX10_facts dX10_on_33 ww381 rfl ?_
      refine g_iload_n (q := 37) 1 dX10_on_36 rfl rfl rfl ?_
      refine g_callO (As := [.int a1]) (st := []) (cn_X1_isListed) shX1 rfl cwX10_271 rfl dX10_on_37 rfl (Nat.le_of_ble_eq_true rfl) (by decide) (kk_PI (fun v7 => ?_))
      refine g_if_eq (t := 47) (q := 43) dX10_on_40 (by decide) rfl ?_ ?_
      · refine g_iconst (q := 48) dX10_on_47 kI_0 rfl ?_
        exact (g_iret dX10_on_48)
      · refine g_iconst (q := 44) dX10_on_43 kI_1 rfl ?_
        refine g_goto (t := 48) dX10_on_44 (by decide) ?_
        exact (g_iret dX10_on_48)
noncomputable def pX10_fillRedTable (a1 : Int32) (a2 : Int32) (σ : gS) : Option (gS) := bn1 (pX1_know a2 σ) (fun s2 => bn1 (pX5_clear s2) (fun s4 => bn1 (lpP (fun (z6 : (Int32 × gS)) => if (z6.2.1 21 1) ≤ z6.1 then some (.inr z6.2) else gx z6.1 20 (bn1 (pX10_bitOf (z6.2.1 36 z6.1.toNatClampNeg) a1) (fun v7 => bn1 (pX1_isListed z6.1 z6.2) (fun v9 => if v9 = 0 then bn1 (pX5_addOne v7 (0 : Int32) z6.2) (fun s12 => lt' (z6.1 + (1 : Int32)) (fun x13 => some (.inl (x13, s12)))) else bn1 (pX5_addOne v7 (1 : Int32) z6.2) (fun s15 => lt' (z6.1 + (1 : Int32)) (fun x16 => some (.inl (x16, s15)))))))) ((0 : Int32), s4)) (fun (z5 : gS) => some z5)))
set_option maxRecDepth 100000 in
theorem cn_X10_fillRedTable {G : gG} {b : Nat} {a1 : Int32} {a2 : Int32} {σ : gS} : CN vC G b 3 yX10_fillRedTable cX10_fillRedTable 4 none kV [.ref (b + 0), .int a1, .int a2] σ (pX10_fillRedTable a1 a2 σ) := by
  refine cn_of (own := RX10) rfl rfl (Nat.le_of_ble_eq_true rfl) ?_
  show GF vC G b (3, 0, 0) RX10 cX10_fillRedTable 4 none kV 0 [(0, .ref (b + 0)), (1, .int a1), (2, .int a2)] [] σ (pX10_fillRedTable a1 a2 σ)
  unfold pX10_fillRedTable
  refine g_aload_n (q := 1) 0 dX10_fillRedTable_0 rfl rfl rfl ?_
  refine g_getA (q := 4) fX10_facts dX10_fillRedTable_1 ww381 rfl ?_
  refine g_iload_n (q := 5) 2 dX10_fillRedTable_4 rfl rfl rfl ?_
  refine g_callO (As := [.int a2]) (st := []) (cn_X1_know) shX1 rfl cwX10_256 rfl dX10_fillRedTable_5 rfl (Nat.le_of_ble_eq_true rfl) (by decide) (kk_V (fun s2 => ?_))
  refine g_aload_n (q := 9) 0 dX10_fillRedTable_8 rfl rfl rfl ?_
  refine g_getA (q := 12) fX10_tally dX10_fillRedTable_9 ww383 rfl ?_
  refine g_callO (As := []) (st := []) (cn_X5_clear) shX5 rfl cwX10_300 rfl dX10_fillRedTable_12 rfl (Nat.le_of_ble_eq_true rfl) (by decide) (kk_V (fun s4 => ?_))
  refine g_iconst (q := 16) dX10_fillRedTable_15 kI_0 rfl ?_
  refine g_istore_n (lr := [(0, .ref (b + 0)), (1, .int a1), (2, .int a2)]) (q := 17) dX10_fillRedTable_16 rfl (by decide) rfl rfl ?_
  refine g_bind (S := gS) (hd := 70) (lvf := fun z5 => []) (stf := fun z5 => []) (σf := fun z5 => z5) ?_ (fun z5 => ?_)
  · refine g_sub (lr := [(3, .int (0 : Int32)), (0, .ref (b + 0)), (1, .int a1)]) [0, 1, 2] rfl ?_
    refine g_loop (S := (Int32 × gS)) (lvf := fun z6 => [(3, .int z6.1), (0, .ref (b + 0)), (1, .int a1)]) (σf := fun z6 => z6.2) (fun z6 => ?_) ((0 : Int32), s4)
    refine g_iload_n (q := 18) 0 dX10_fillRedTable_17 rfl rfl rfl ?_
    refine g_aload_n (q := 19) 1 dX10_fillRedTable_18 rfl rfl rfl ?_
    refine g_getA (q := 22) fX10_people dX10_fillRedTable_19 ww379 rfl ?_
    refine g_getI (q := 25) fX2_size dX10_fillRedTable_22 ww251 rfl ?_
    refine g_icmp_ge (t := 70) (q := 28) dX10_fillRedTable_25 (by decide) rfl ?_ ?_
    · refine g_sub (lr := []) [] rfl ?_
      exact (g_leave (g_there (z6.2 : gS)))
    · refine g_aload_n (q := 29) 1 dX10_fillRedTable_28 rfl rfl rfl ?_
      refine g_getA (q := 32) fX10_tally dX10_fillRedTable_29 ww383 rfl ?_
      refine g_aload_n (q := 33) 1 dX10_fillRedTable_32 rfl rfl rfl ?_
      refine g_getA (q := 36) fX10_sky dX10_fillRedTable_33 ww380 rfl ?_
      refine g_getA (q := 39) fX4_ups dX10_fillRedTable_36 ww287 rfl ?_
      refine g_iload_n (q := 40) 0 dX10_fillRedTable_39 rfl rfl rfl ?_
      refine g_iald (q := 41) (aX4_ups) dX10_fillRedTable_40 rfl ?_
      refine g_iload_n (q := 42) 2 dX10_fillRedTable_41 rfl rfl rfl ?_
      refine g_callT (As := [.int (z6.2.1 36 z6.1.toNatClampNeg), .int a1]) (st := [.ref (b + 50)]) (cn_X10_bitOf) cwX10_135 rfl dX10_fillRedTable_42 rfl (Nat.le_of_ble_eq_true rfl) (by decide) (kk_PI (fun v7 => ?_))
      refine g_aload_n (q := 46) 1 dX10_fillRedTable_45 rfl rfl rfl ?_
      refine g_getA (q := 49) fX10_facts dX10_fillRedTable_46 ww381 rfl ?_
      refine g_iload_n (q := 50) 0 dX10_fillRedTable_49 rfl rfl rfl ?_
      refine g_callO (As := [.int z6.1]) (st := [.int v7, .ref (b + 50)]) (cn_X1_isListed) shX1 rfl cwX10_271 rfl dX10_fillRedTable_50 rfl (Nat.le_of_ble_eq_true rfl) (by decide) (kk_PI (fun v9 => ?_))
      refine g_if_eq (t := 60) (q := 56) dX10_fillRedTable_53 (by decide) rfl ?_ ?_
      · refine g_iconst (q := 61) dX10_fillRedTable_60 kI_0 rfl ?_
        refine g_callO (As := [.int v7, .int (0 : Int32)]) (st := []) (cn_X5_addOne) shX5 rfl cwX10_303 rfl dX10_fillRedTable_61 rfl (Nat.le_of_ble_eq_true rfl) (by decide) (kk_V (fun s12 => ?_))
        refine g_iinc (lr := [(0, .ref (b + 0)), (1, .int a1)]) (q := 67) 0 dX10_fillRedTable_64 rfl kI_1 (by decide) rfl rfl (fun x13 => ?_)
        refine g_goto (t := 17) dX10_fillRedTable_67 (by decide) ?_
        exact (g_again ((x13, s12) : (Int32 × gS)))
      · refine g_iconst (q := 57) dX10_fillRedTable_56 kI_1 rfl ?_
        refine g_goto (t := 61) dX10_fillRedTable_57 (by decide) ?_
        refine g_callO (As := [.int v7, .int (1 : Int32)]) (st := []) (cn_X5_addOne) shX5 rfl cwX10_303 rfl dX10_fillRedTable_61 rfl (Nat.le_of_ble_eq_true rfl) (by decide) (kk_V (fun s15 => ?_))
        refine g_iinc (lr := [(0, .ref (b + 0)), (1, .int a1)]) (q := 67) 0 dX10_fillRedTable_64 rfl kI_1 (by decide) rfl rfl (fun x16 => ?_)
        refine g_goto (t := 17) dX10_fillRedTable_67 (by decide) ?_
        exact (g_again ((x16, s15) : (Int32 × gS)))
  · exact (g_vret dX10_fillRedTable_70)
noncomputable def pJ13_bitCount_95d88 (a1 : Int64) : Option (Int32) := lt' (a1 - ((ushrL a1 (1 : Int32)) &&& (6148914691236517205 : Int64))) (fun x1 => lt' ((x1 &&& (3689348814741910323 : Int64)) + ((ushrL x1 (2 : Int32)) &&& (3689348814741910323 : Int64))) (fun x2 => lt' ((x2 + (ushrL x2 (4 : Int32))) &&& (1085102592571150095 : Int64)) (fun x3 => lt' (x3 + (ushrL x3 (8 : Int32))) (fun x4 => lt' (x4 + (ushrL x4 (16 : Int32))) (fun x5 => lt' (x5 + (ushrL x5 (32 : Int32))) (fun x6 => some ((x6.toInt32) &&& (127 : Int32))))))))
set_option maxRecDepth 100000 in
theorem cn_J13_bitCount_95d88 {G : gG} {b : Nat} {V : gV} {a1 : Int64} {σ : gS} : CN V G b 1 yJ13_bitCount_95d88 cJ13_bitCount_95d88 2 (some .int) (kPI σ) [.long a1] σ (pJ13_bitCount_95d88 a1) := by
  refine cn_ofF (own := RJ13) (by decide +kernel) rfl (Nat.le_of_ble_eq_true rfl) ?_
  show GF V G b (1, 0, 0) RJ13 cJ13_bitCount_95d88 2 (some .int) (kPI σ) 0 [(0, .long a1)] [] σ (pJ13_bitCount_95d88 a1)
  unfold pJ13_bitCount_95d88
  refine g_lload_n (q := 1) 0 dJ13_bitCount_95d88_0 rfl rfl rfl ?_
  refine g_lload_n (q := 2) 0 dJ13_bitCount_95d88_1 rfl rfl rfl ?_
  refine g_iconst (q := 3) dJ13_bitCount_95d88_2 kI_1 rfl ?_
  refine g_lushr (q := 4) dJ13_bitCount_95d88_3 rfl ?_
  refine g_ldc2 (q := 7) dJ13_bitCount_95d88_4 ww1009 rfl ?_
  refine g_land (q := 8) dJ13_bitCount_95d88_7 rfl ?_
  refine g_lsub (q := 9) dJ13_bitCount_95d88_8 rfl ?_
  refine g_letl (fun x1 => ?_)
  refine g_lstore_n (lr := []) (q := 10) dJ13_bitCount_95d88_9 rfl (by decide) rfl rfl ?_
  refine g_lload_n (q := 11) 0 dJ13_bitCount_95d88_10 rfl rfl rfl ?_
  refine g_ldc2 (q := 14) dJ13_bitCount_95d88_11 ww1010 rfl ?_
  refine g_land (q := 15) dJ13_bitCount_95d88_14 rfl ?_
  refine g_lload_n (q := 16) 0 dJ13_bitCount_95d88_15 rfl rfl rfl ?_
  refine g_iconst (q := 17) dJ13_bitCount_95d88_16 kI_2 rfl ?_
  refine g_lushr (q := 18) dJ13_bitCount_95d88_17 rfl ?_
  refine g_ldc2 (q := 21) dJ13_bitCount_95d88_18 ww1010 rfl ?_
  refine g_land (q := 22) dJ13_bitCount_95d88_21 rfl ?_
  refine g_ladd (q := 23) dJ13_bitCount_95d88_22 rfl ?_
  refine g_letl (fun x2 => ?_)
  refine g_lstore_n (lr := []) (q := 24) dJ13_bitCount_95d88_23 rfl (by decide) rfl rfl ?_
  refine g_lload_n (q := 25) 0 dJ13_bitCount_95d88_24 rfl rfl rfl ?_
  refine g_lload_n (q := 26) 0 dJ13_bitCount_95d88_25 rfl rfl rfl ?_
  refine g_iconst (q := 27) dJ13_bitCount_95d88_26 kI_4 rfl ?_
  refine g_lushr (q := 28) dJ13_bitCount_95d88_27 rfl ?_
  refine g_ladd (q := 29) dJ13_bitCount_95d88_28 rfl ?_
  refine g_ldc2 (q := 32) dJ13_bitCount_95d88_29 ww1011 rfl ?_
  refine g_land (q := 33) dJ13_bitCount_95d88_32 rfl ?_
  refine g_letl (fun x3 => ?_)
  refine g_lstore_n (lr := []) (q := 34) dJ13_bitCount_95d88_33 rfl (by decide) rfl rfl ?_
  refine g_lload_n (q := 35) 0 dJ13_bitCount_95d88_34 rfl rfl rfl ?_
  refine g_lload_n (q := 36) 0 dJ13_bitCount_95d88_35 rfl rfl rfl ?_
  refine g_bipush (q := 38) dJ13_bitCount_95d88_36 kB_8 rfl ?_
  refine g_lushr (q := 39) dJ13_bitCount_95d88_38 rfl ?_
  refine g_ladd (q := 40) dJ13_bitCount_95d88_39 rfl ?_
  refine g_letl (fun x4 => ?_)
  refine g_lstore_n (lr := []) (q := 41) dJ13_bitCount_95d88_40 rfl (by decide) rfl rfl ?_
  refine g_lload_n (q := 42) 0 dJ13_bitCount_95d88_41 rfl rfl rfl ?_
  refine g_lload_n (q := 43) 0 dJ13_bitCount_95d88_42 rfl rfl rfl ?_
  refine g_bipush (q := 45) dJ13_bitCount_95d88_43 kB_16 rfl ?_
  refine g_lushr (q := 46) dJ13_bitCount_95d88_45 rfl ?_
  refine g_ladd (q := 47) dJ13_bitCount_95d88_46 rfl ?_
  refine g_letl (fun x5 => ?_)
  refine g_lstore_n (lr := []) (q := 48) dJ13_bitCount_95d88_47 rfl (by decide) rfl rfl ?_
  refine g_lload_n (q := 49) 0 dJ13_bitCount_95d88_48 rfl rfl rfl ?_
  refine g_lload_n (q := 50) 0 dJ13_bitCount_95d88_49 rfl rfl rfl ?_
  refine g_bipush (q := 52) dJ13_bitCount_95d88_50 kB_32 rfl ?_
  refine g_lushr (q := 53) dJ13_bitCount_95d88_52 rfl ?_
  refine g_ladd (q := 54) dJ13_bitCount_95d88_53 rfl ?_
  refine g_letl (fun x6 => ?_)
  refine g_lstore_n (lr := []) (q := 55) dJ13_bitCount_95d88_54 rfl (by decide) rfl rfl ?_
  refine g_lload_n (q := 56) 0 dJ13_bitCount_95d88_55 rfl rfl rfl ?_
  refine g_l2i (q := 57) dJ13_bitCount_95d88_56 rfl ?_
  refine g_bipush (q := 59) dJ13_bitCount_95d88_57 kB_127 rfl ?_
  refine g_iand (q := 60) dJ13_bitCount_95d88_59 rfl ?_
  exact (g_iretP dJ13_bitCount_95d88_60)
noncomputable def pX1_unlikeTries (σ : gS) : Option (Int32) := bn1 (lpP (fun (z2 : (Int32 × Int64)) => if (σ.1 39 4) ≤ z2.1 then some (.inr z2.2) else gx z2.1 60 (if (σ.1 43 z2.1.toNatClampNeg) = 0 then lt' (z2.1 + (1 : Int32)) (fun x3 => some (.inl (x3, z2.2))) else gx z2.1 60 (if (σ.1 40 z2.1.toNatClampNeg) = (4 : Int32) then gx z2.1 60 (gx z2.1 60 (lt' (z2.2 ||| (shlL (1 : Int64) (((σ.1 41 z2.1.toNatClampNeg) * (10 : Int32)) + (σ.1 42 z2.1.toNatClampNeg)))) (fun x4 => lt' (z2.1 + (1 : Int32)) (fun x5 => some (.inl (x5, x4)))))) else lt' (z2.1 + (1 : Int32)) (fun x6 => some (.inl (x6, z2.2)))))) ((0 : Int32), (0 : Int64))) (fun (z1 : Int64) => bn1 (pJ13_bitCount_95d88 z1) (fun v7 => some (v7)))
set_option maxRecDepth 100000 in
theorem cn_X1_unlikeTries {G : gG} {b : Nat}  {σ : gS} : CN vC G b 2 yX1_unlikeTries cX1_unlikeTries 4 (some .int) (kPI σ) [.ref (b + 39)] σ (pX1_unlikeTries σ) := by
  refine cn_of (own := RX1) rfl rfl (Nat.le_of_ble_eq_true rfl) ?_
  show GF vC G b (2, 0, 0) RX1 cX1_unlikeTries 4 (some .int) (kPI σ) 0 [(0, .ref (b + 39))] [] σ (pX1_unlikeTries σ)
  unfold pX1_unlikeTries
  refine g_lconst (q := 1) (v := (0 : Int64)) dX1_unlikeTries_0 rfl rfl ?_
  refine g_lstore_n (lr := [(0, .ref (b + 39))]) (q := 2) dX1_unlikeTries_1 rfl (by decide) rfl rfl ?_
  refine g_iconst (q := 3) dX1_unlikeTries_2 kI_0 rfl ?_
  refine g_istore_n (lr := [(1, .long (0 : Int64)), (0, .ref (b + 39))]) (q := 4) dX1_unlikeTries_3 rfl (by decide) rfl rfl ?_
  refine g_bind (S := Int64) (hd := 58) (lvf := fun z1 => [(1, .long z1)]) (stf := fun z1 => []) (σf := fun z1 => σ) ?_ (fun z1 => ?_)
  · refine g_loop (S := (Int32 × Int64)) (lvf := fun z2 => [(3, .int z2.1), (1, .long z2.2), (0, .ref (b + 39))]) (σf := fun z2 => σ) (fun z2 => ?_) ((0 : Int32), (0 : Int64))
    refine g_iload_n (q := 5) 0 dX1_unlikeTries_4 rfl rfl rfl ?_
    refine g_aload_n (q := 6) 2 dX1_unlikeTries_5 rfl rfl rfl ?_
    refine g_getI (q := 9) fX1_size dX1_unlikeTries_6 ww315 rfl ?_
    refine g_icmp_ge (t := 58) (q := 12) dX1_unlikeTries_9 (by decide) rfl ?_ ?_
    · refine g_sub (lr := [(1, .long z2.2)]) [1] rfl ?_
      exact (g_leave (g_there (z2.2 : Int64)))
    · refine g_aload_n (q := 13) 2 dX1_unlikeTries_12 rfl rfl rfl ?_
      refine g_getA (q := 16) fX1_known dX1_unlikeTries_13 ww314 rfl ?_
      refine g_iload_n (q := 17) 0 dX1_unlikeTries_16 rfl rfl rfl ?_
      refine g_zald (q := 18) (aX1_known) dX1_unlikeTries_17 rfl ?_
      refine g_if_eq (t := 52) (q := 21) dX1_unlikeTries_18 (by decide) rfl ?_ ?_
      · refine g_iinc (lr := [(1, .long z2.2), (0, .ref (b + 39))]) (q := 55) 0 dX1_unlikeTries_52 rfl kI_1 (by decide) rfl rfl (fun x3 => ?_)
        refine g_goto (t := 4) dX1_unlikeTries_55 (by decide) ?_
        exact (g_again ((x3, z2.2) : (Int32 × Int64)))
      · refine g_aload_n (q := 22) 2 dX1_unlikeTries_21 rfl rfl rfl ?_
        refine g_getA (q := 25) fX1_kinds dX1_unlikeTries_22 ww310 rfl ?_
        refine g_iload_n (q := 26) 0 dX1_unlikeTries_25 rfl rfl rfl ?_
        refine g_iald (q := 27) (aX1_kinds) dX1_unlikeTries_26 rfl ?_
        refine g_iconst (q := 28) dX1_unlikeTries_27 kI_4 rfl ?_
        refine g_icmp_ne (t := 52) (q := 31) dX1_unlikeTries_28 (by decide) rfl ?_ ?_
        · refine g_lload_n (q := 32) 1 dX1_unlikeTries_31 rfl rfl rfl ?_
          refine g_lconst (q := 33) (v := (1 : Int64)) dX1_unlikeTries_32 rfl rfl ?_
          refine g_aload_n (q := 34) 2 dX1_unlikeTries_33 rfl rfl rfl ?_
          refine g_getA (q := 37) fX1_subjects dX1_unlikeTries_34 ww312 rfl ?_
          refine g_iload_n (q := 38) 0 dX1_unlikeTries_37 rfl rfl rfl ?_
          refine g_iald (q := 39) (aX1_subjects) dX1_unlikeTries_38 rfl ?_
          refine g_bipush (q := 41) dX1_unlikeTries_39 kB_10 rfl ?_
          refine g_imul (q := 42) dX1_unlikeTries_41 rfl ?_
          refine g_aload_n (q := 43) 2 dX1_unlikeTries_42 rfl rfl rfl ?_
          refine g_getA (q := 46) fX1_values dX1_unlikeTries_43 ww313 rfl ?_
          refine g_iload_n (q := 47) 0 dX1_unlikeTries_46 rfl rfl rfl ?_
          refine g_iald (q := 48) (aX1_values) dX1_unlikeTries_47 rfl ?_
          refine g_iadd (q := 49) dX1_unlikeTries_48 rfl ?_
          refine g_lshl (q := 50) dX1_unlikeTries_49 rfl ?_
          refine g_lor (q := 51) dX1_unlikeTries_50 rfl ?_
          refine g_letl (fun x4 => ?_)
          refine g_lstore_n (lr := [(3, .int z2.1), (0, .ref (b + 39))]) (q := 52) dX1_unlikeTries_51 rfl (by decide) rfl rfl ?_
          refine g_iinc (lr := [(1, .long x4), (0, .ref (b + 39))]) (q := 55) 1 dX1_unlikeTries_52 rfl kI_1 (by decide) rfl rfl (fun x5 => ?_)
          refine g_goto (t := 4) dX1_unlikeTries_55 (by decide) ?_
          exact (g_again ((x5, x4) : (Int32 × Int64)))
        · refine g_iinc (lr := [(1, .long z2.2), (0, .ref (b + 39))]) (q := 55) 0 dX1_unlikeTries_52 rfl kI_1 (by decide) rfl rfl (fun x6 => ?_)
          refine g_goto (t := 4) dX1_unlikeTries_55 (by decide) ?_
          exact (g_again ((x6, z2.2) : (Int32 × Int64)))
  · refine g_lload_n (q := 59) 0 dX1_unlikeTries_58 rfl rfl rfl ?_
    refine g_callT (As := [.long z1]) (st := []) (cn_J13_bitCount_95d88) cwX1_33 rfl dX1_unlikeTries_59 rfl (Nat.le_of_ble_eq_true rfl) (by decide) (kk_PI (fun v7 => ?_))
    exact (g_iretP dX1_unlikeTries_62)
noncomputable def pX10_redStands (σ : gS) : Option (Int32) := bn1 (pX1_unlikeTries σ) (fun v1 => bn1 (pJ9_max_7cf53 v1 (1 : Int32)) (fun v3 => lt' (v3.toInt64) (fun x5 => bn1 (pX0_moreOf σ) (fun v6 => bn1 (pX0_allOf σ) (fun v8 => if 0 < (lg_cmp ((v6 * x5) * (20 : Int64)) v8) then some (0 : Int32) else some (1 : Int32))))))
set_option maxRecDepth 100000 in
theorem cn_X10_redStands {G : gG} {b : Nat}  {σ : gS} : CN vC G b 5 yX10_redStands cX10_redStands 3 (some .boolean) (kPI σ) [.ref (b + 0)] σ (pX10_redStands σ) := by
  refine cn_of (own := RX10) rfl rfl (Nat.le_of_ble_eq_true rfl) ?_
  show GF vC G b (5, 0, 0) RX10 cX10_redStands 3 (some .boolean) (kPI σ) 0 [(0, .ref (b + 0))] [] σ (pX10_redStands σ)
  unfold pX10_redStands
  refine g_aload_n (q := 1) 0 dX10_redStands_0 rfl rfl rfl ?_
  refine g_getA (q := 4) fX10_facts dX10_redStands_1 ww381 rfl ?_
  refine g_callO (As := []) (st := []) (cn_X1_unlikeTries) shX1 rfl cwX10_283 rfl dX10_redStands_4 rfl (Nat.le_of_ble_eq_true rfl) (by decide) (kk_PI (fun v1 => ?_))
  refine g_iconst (q := 8) dX10_redStands_7 kI_1 rfl ?_
  refine g_callT (As := [.int v1, .int (1 : Int32)]) (st := []) (cn_J9_max_7cf53) cwX10_306 rfl dX10_redStands_8 rfl (Nat.le_of_ble_eq_true rfl) (by decide) (kk_PI (fun v3 => ?_))
  refine g_i2l (q := 12) dX10_redStands_11 rfl ?_
  refine g_letl (fun x5 => ?_)
  refine g_lstore_n (lr := [(0, .ref (b + 0))]) (q := 13) dX10_redStands_12 rfl (by decide) rfl rfl ?_
  refine g_aload_n (q := 14) 1 dX10_redStands_13 rfl rfl rfl ?_
  refine g_getA (q := 17) fX10_chance dX10_redStands_14 ww382 rfl ?_
  refine g_aload_n (q := 18) 1 dX10_redStands_17 rfl rfl rfl ?_
  refine g_getA (q := 21) fX10_tally dX10_redStands_18 ww383 rfl ?_
  refine g_callO (As := [.ref (b + 50)]) (st := []) (cn_X0_moreOf) shX0 rfl cwX10_218 rfl dX10_redStands_21 rfl (Nat.le_of_ble_eq_true rfl) (by decide) (kk_PL (fun v6 => ?_))
  refine g_lload_n (q := 25) 0 dX10_redStands_24 rfl rfl rfl ?_
  refine g_lmul (q := 26) dX10_redStands_25 rfl ?_
  refine g_ldc2 (q := 29) dX10_redStands_26 ww1017 rfl ?_
  refine g_lmul (q := 30) dX10_redStands_29 rfl ?_
  refine g_aload_n (q := 31) 1 dX10_redStands_30 rfl rfl rfl ?_
  refine g_getA (q := 34) fX10_chance dX10_redStands_31 ww382 rfl ?_
  refine g_aload_n (q := 35) 1 dX10_redStands_34 rfl rfl rfl ?_
  refine g_getA (q := 38) fX10_tally dX10_redStands_35 ww383 rfl ?_
  refine g_callO (As := [.ref (b + 50)]) (st := [.long ((v6 * x5) * (20 : Int64))]) (cn_X0_allOf) shX0 rfl cwX10_222 rfl dX10_redStands_38 rfl (Nat.le_of_ble_eq_true rfl) (by decide) (kk_PL (fun v8 => ?_))
  refine g_lcmp (q := 42) dX10_redStands_41 rfl ?_
  refine g_if_gt (t := 49) (q := 45) dX10_redStands_42 (by decide) rfl ?_ ?_
  · refine g_iconst (q := 50) dX10_redStands_49 kI_0 rfl ?_
    exact (g_bretP0 dX10_redStands_50)
  · refine g_iconst (q := 46) dX10_redStands_45 kI_1 rfl ?_
    refine g_goto (t := 50) dX10_redStands_46 (by decide) ?_
    exact (g_bretP1 dX10_redStands_50)
noncomputable def pX10_red (a1 : Int32) (a2 : Int32) (a3 : Int32) (σ : gS) : Option (Int32 × gS) := bn1 (pX10_isSign a1 σ) (fun v1 => if v1 = 0 then some ((-1 : Int32), σ) else bn1 (pX1_canKnow a2 σ) (fun v3 => if v3 = 0 then some ((-1 : Int32), σ) else bn1 (pX10_inRange a3 (0 : Int32) (4 : Int32)) (fun v5 => if v5 = 0 then some ((-1 : Int32), σ) else bn1 (pX4_survey σ) (fun s8 => bn1 (pX10_fillRedTable a1 a2 s8) (fun s10 => if a3 = (0 : Int32) then some (s10.1 50 2, s10) else if a3 = (1 : Int32) then some (s10.1 50 3, s10) else if a3 = (2 : Int32) then some (s10.1 50 1, s10) else if a3 = (3 : Int32) then bn1 (pX1_unlikeTries s10) (fun v14 => some (v14, s10)) else bn1 (pX10_redStands s10) (fun v17 => if v17 = 0 then some ((0 : Int32), s10) else some ((1 : Int32), s10)))))))
set_option maxRecDepth 100000 in
theorem cn_X10_red {G : gG} {b : Nat} {a1 : Int32} {a2 : Int32} {a3 : Int32} {σ : gS} : CN vC G b 6 yX10_red cX10_red 4 (some .int) kI [.ref (b + 0), .int a1, .int a2, .int a3] σ (pX10_red a1 a2 a3 σ) := by
  refine cn_of (own := RX10) rfl rfl (Nat.le_of_ble_eq_true rfl) ?_
  show GF vC G b (6, 0, 0) RX10 cX10_red 4 (some .int) kI 0 [(0, .ref (b + 0)), (1, .int a1), (2, .int a2), (3, .int a3)] [] σ (pX10_red a1 a2 a3 σ)
  unfold pX10_red
  refine g_aload_n (q := 1) 0 dX10_red_0 rfl rfl rfl ?_
  refine g_iload_n (q := 2) 1 dX10_red_1 rfl rfl rfl ?_
  refine g_callO (As := [.int a1]) (st := []) (cn_X10_isSign) shX10 rfl cwX10_208 rfl dX10_red_2 rfl (Nat.le_of_ble_eq_true rfl) (by decide) (kk_PI (fun v1 => ?_))
  refine g_if_eq (t := 28) (q := 8) dX10_red_5 (by decide) rfl ?_ ?_
  · refine g_iconst (q := 29) dX10_red_28 kI_m1 rfl ?_
    exact (g_iret dX10_red_29)
  · refine g_aload_n (q := 9) 0 dX10_red_8 rfl rfl rfl ?_
    refine g_getA (q := 12) fX10_facts dX10_red_9 ww381 rfl ?_
    refine g_iload_n (q := 13) 2 dX10_red_12 rfl rfl rfl ?_
    refine g_callO (As := [.int a2]) (st := []) (cn_X1_canKnow) shX1 rfl cwX10_253 rfl dX10_red_13 rfl (Nat.le_of_ble_eq_true rfl) (by decide) (kk_PI (fun v3 => ?_))
    refine g_if_eq (t := 28) (q := 19) dX10_red_16 (by decide) rfl ?_ ?_
    · refine g_iconst (q := 29) dX10_red_28 kI_m1 rfl ?_
      exact (g_iret dX10_red_29)
    · refine g_iload_n (q := 20) 3 dX10_red_19 rfl rfl rfl ?_
      refine g_iconst (q := 21) dX10_red_20 kI_0 rfl ?_
      refine g_iconst (q := 22) dX10_red_21 kI_4 rfl ?_
      refine g_callT (As := [.int a3, .int (0 : Int32), .int (4 : Int32)]) (st := []) (cn_X10_inRange) cwX10_88 rfl dX10_red_22 rfl (Nat.le_of_ble_eq_true rfl) (by decide) (kk_PI (fun v5 => ?_))
      refine g_if_ne (t := 30) (q := 28) dX10_red_25 (by decide) rfl ?_ ?_
      · refine g_iconst (q := 29) dX10_red_28 kI_m1 rfl ?_
        exact (g_iret dX10_red_29)
      · refine g_aload_n (q := 31) 0 dX10_red_30 rfl rfl rfl ?_
        refine g_getA (q := 34) fX10_sky dX10_red_31 ww380 rfl ?_
        refine g_callO (As := []) (st := []) (cn_X4_survey) shX4 rfl cwX10_153 rfl dX10_red_34 rfl (Nat.le_of_ble_eq_true rfl) (by decide) (kk_V (fun s8 => ?_))
        refine g_aload_n (q := 38) 0 dX10_red_37 rfl rfl rfl ?_
        refine g_iload_n (q := 39) 1 dX10_red_38 rfl rfl rfl ?_
        refine g_iload_n (q := 40) 2 dX10_red_39 rfl rfl rfl ?_
        refine g_callO (As := [.int a1, .int a2]) (st := []) (cn_X10_fillRedTable) shX10 rfl cwX10_274 rfl dX10_red_40 rfl (Nat.le_of_ble_eq_true rfl) (by decide) (kk_V (fun s10 => ?_))
        refine g_iload_n (q := 44) 3 dX10_red_43 rfl rfl rfl ?_
        refine g_case (t := 76) (off := 32) (0 : Int32) dX10_red_44 (by decide +kernel) (by decide) ?_ (fun h11 => ?_)
        · refine g_aload_n (q := 77) 0 dX10_red_76 rfl rfl rfl ?_
          refine g_getA (q := 80) fX10_tally dX10_red_77 ww383 rfl ?_
          refine g_getI (q := 83) fX5_trueOnes dX10_red_80 ww364 rfl ?_
          exact (g_iret dX10_red_83)
        refine g_case (t := 84) (off := 40) (1 : Int32) dX10_red_44 (by decide +kernel) (by decide) ?_ (fun h12 => ?_)
        · refine g_aload_n (q := 85) 0 dX10_red_84 rfl rfl rfl ?_
          refine g_getA (q := 88) fX10_tally dX10_red_85 ww383 rfl ?_
          refine g_getI (q := 91) fX5_both dX10_red_88 ww367 rfl ?_
          exact (g_iret dX10_red_91)
        refine g_case (t := 92) (off := 48) (2 : Int32) dX10_red_44 (by decide +kernel) (by decide) ?_ (fun h13 => ?_)
        · refine g_aload_n (q := 93) 0 dX10_red_92 rfl rfl rfl ?_
          refine g_getA (q := 96) fX10_tally dX10_red_93 ww383 rfl ?_
          refine g_getI (q := 99) fX5_up dX10_red_96 ww361 rfl ?_
          exact (g_iret dX10_red_99)
        refine g_case (t := 100) (off := 56) (3 : Int32) dX10_red_44 (by decide +kernel) (by decide) ?_ (fun h16 => ?_)
        · refine g_aload_n (q := 101) 0 dX10_red_100 rfl rfl rfl ?_
          refine g_getA (q := 104) fX10_facts dX10_red_101 ww381 rfl ?_
          refine g_callO (As := []) (st := []) (cn_X1_unlikeTries) shX1 rfl cwX10_283 rfl dX10_red_104 rfl (Nat.le_of_ble_eq_true rfl) (by decide) (kk_PI (fun v14 => ?_))
          exact (g_iret dX10_red_107)
        refine g_dflt (t := 108) [(0 : Int32), (1 : Int32), (2 : Int32), (3 : Int32)] dX10_red_44 (by decide +kernel) (fun v hv => by simp only [List.mem_cons, List.not_mem_nil, or_false] at hv; rcases hv with rfl | rfl | rfl | rfl <;> assumption) (by decide) ?_
        refine g_aload_n (q := 109) 0 dX10_red_108 rfl rfl rfl ?_
        refine g_callO (As := []) (st := []) (cn_X10_redStands) shX10 rfl cwX10_286 rfl dX10_red_109 rfl (Nat.le_of_ble_eq_true rfl) (by decide) (kk_PI (fun v17 => ?_))
        refine g_if_eq (t := 119) (q := 115) dX10_red_112 (by decide) rfl ?_ ?_
        · refine g_iconst (q := 120) dX10_red_119 kI_0 rfl ?_
          exact (g_iret dX10_red_120)
        · refine g_iconst (q := 116) dX10_red_115 kI_1 rfl ?_
          refine g_goto (t := 120) dX10_red_116 (by decide) ?_
          exact (g_iret dX10_red_120)
noncomputable def pX10_odds (a1 : Int32) (a2 : Int32) (a3 : Int32) (σ : gS) : Option (Int64 × gS) := bn1 (pX10_isSign a1 σ) (fun v1 => if v1 = 0 then some ((-1 : Int64), σ) else bn1 (pX1_canKnow a2 σ) (fun v3 => if v3 = 0 then some ((-1 : Int64), σ) else bn1 (pX4_survey σ) (fun s6 => bn1 (pX10_fillRedTable a1 a2 s6) (fun s8 => if a3 = 0 then bn1 (pX0_allOf s8) (fun v9 => some (v9, s8)) else bn1 (pX0_moreOf s8) (fun v11 => some (v11, s8))))))
set_option maxRecDepth 100000 in
theorem cn_X10_odds {G : gG} {b : Nat} {a1 : Int32} {a2 : Int32} {a3 : Int32} {σ : gS} : CN vC G b 6 yX10_odds cX10_odds 4 (some .long) kL [.ref (b + 0), .int a1, .int a2, .int a3] σ (pX10_odds a1 a2 a3 σ) := by
  refine cn_of (own := RX10) rfl rfl (Nat.le_of_ble_eq_true rfl) ?_
  show GF vC G b (6, 0, 0) RX10 cX10_odds 4 (some .long) kL 0 [(0, .ref (b + 0)), (1, .int a1), (2, .int a2), (3, .int a3)] [] σ (pX10_odds a1 a2 a3 σ)
  unfold pX10_odds
  refine g_aload_n (q := 1) 0 dX10_odds_0 rfl rfl rfl ?_
  refine g_iload_n (q := 2) 1 dX10_odds_1 rfl rfl rfl ?_
  refine g_callO (As := [.int a1]) (st := []) (cn_X10_isSign) shX10 rfl cwX10_208 rfl dX10_odds_2 rfl (Nat.le_of_ble_eq_true rfl) (by decide) (kk_PI (fun v1 => ?_))
  refine g_if_eq (t := 19) (q := 8) dX10_odds_5 (by decide) rfl ?_ ?_
  · refine g_ldc2 (q := 22) dX10_odds_19 ww821 rfl ?_
    exact (g_lret dX10_odds_22)
  · refine g_aload_n (q := 9) 0 dX10_odds_8 rfl rfl rfl ?_
    refine g_getA (q := 12) fX10_facts dX10_odds_9 ww381 rfl ?_
    refine g_iload_n (q := 13) 2 dX10_odds_12 rfl rfl rfl ?_
    refine g_callO (As := [.int a2]) (st := []) (cn_X1_canKnow) shX1 rfl cwX10_253 rfl dX10_odds_13 rfl (Nat.le_of_ble_eq_true rfl) (by decide) (kk_PI (fun v3 => ?_))
    refine g_if_ne (t := 23) (q := 19) dX10_odds_16 (by decide) rfl ?_ ?_
    · refine g_ldc2 (q := 22) dX10_odds_19 ww821 rfl ?_
      exact (g_lret dX10_odds_22)
    · refine g_aload_n (q := 24) 0 dX10_odds_23 rfl rfl rfl ?_
      refine g_getA (q := 27) fX10_sky dX10_odds_24 ww380 rfl ?_
      refine g_callO (As := []) (st := []) (cn_X4_survey) shX4 rfl cwX10_153 rfl dX10_odds_27 rfl (Nat.le_of_ble_eq_true rfl) (by decide) (kk_V (fun s6 => ?_))
      refine g_aload_n (q := 31) 0 dX10_odds_30 rfl rfl rfl ?_
      refine g_iload_n (q := 32) 1 dX10_odds_31 rfl rfl rfl ?_
      refine g_iload_n (q := 33) 2 dX10_odds_32 rfl rfl rfl ?_
      refine g_callO (As := [.int a1, .int a2]) (st := []) (cn_X10_fillRedTable) shX10 rfl cwX10_274 rfl dX10_odds_33 rfl (Nat.le_of_ble_eq_true rfl) (by decide) (kk_V (fun s8 => ?_))
      refine g_iload_n (q := 37) 3 dX10_odds_36 rfl rfl rfl ?_
      refine g_if_eq (t := 54) (q := 40) dX10_odds_37 (by decide) rfl ?_ ?_
      · refine g_aload_n (q := 55) 0 dX10_odds_54 rfl rfl rfl ?_
        refine g_getA (q := 58) fX10_chance dX10_odds_55 ww382 rfl ?_
        refine g_aload_n (q := 59) 0 dX10_odds_58 rfl rfl rfl ?_
        refine g_getA (q := 62) fX10_tally dX10_odds_59 ww383 rfl ?_
        refine g_callO (As := [.ref (b + 50)]) (st := []) (cn_X0_allOf) shX0 rfl cwX10_222 rfl dX10_odds_62 rfl (Nat.le_of_ble_eq_true rfl) (by decide) (kk_PL (fun v9 => ?_))
        exact (g_lret dX10_odds_65)
      · refine g_aload_n (q := 41) 0 dX10_odds_40 rfl rfl rfl ?_
        refine g_getA (q := 44) fX10_chance dX10_odds_41 ww382 rfl ?_
        refine g_aload_n (q := 45) 0 dX10_odds_44 rfl rfl rfl ?_
        refine g_getA (q := 48) fX10_tally dX10_odds_45 ww383 rfl ?_
        refine g_callO (As := [.ref (b + 50)]) (st := []) (cn_X0_moreOf) shX0 rfl cwX10_218 rfl dX10_odds_48 rfl (Nat.le_of_ble_eq_true rfl) (by decide) (kk_PL (fun v11 => ?_))
        refine g_goto (t := 65) dX10_odds_51 (by decide) ?_
        exact (g_lret dX10_odds_65)
noncomputable def pX10_turned (a1 : Int32) (a2 : Int32) (σ : gS) : Option (Int32 × gS) := bn1 (pX10_isSign a1 σ) (fun v1 => if v1 = 0 then some ((-1 : Int32), σ) else bn1 (pX1_has a2 σ) (fun v3 => if v3 = 0 then some ((-1 : Int32), σ) else bn1 (pX4_survey σ) (fun s6 => bn1 (pX10_fillRedTable a1 a2 s6) (fun s8 => bn1 (pX10_redStands s8) (fun v9 => bnS (lpP (fun (z12 : (Int32 × gS)) => if (z12.2.1 39 4) ≤ z12.1 then some (.inr (.inl z12.2)) else bn1 (pX10_fillRedTable a1 (z12.1 + (1 : Int32)) z12.2) (fun s14 => bn1 (pX10_redStands s14) (fun v15 => if v15 = v9 then lt' (z12.1 + (1 : Int32)) (fun x17 => some (.inl (x17, s14))) else some (.inr (.inr (z12.1, s14)))))) (a2, s8)) (fun (z11 : gS) => some ((-1 : Int32), z11)))))))
set_option maxRecDepth 100000 in
theorem cn_X10_turned {G : gG} {b : Nat} {a1 : Int32} {a2 : Int32} {σ : gS} : CN vC G b 6 yX10_turned cX10_turned 6 (some .int) kI [.ref (b + 0), .int a1, .int a2] σ (pX10_turned a1 a2 σ) := by
  refine cn_of (own := RX10) rfl rfl (Nat.le_of_ble_eq_true rfl) ?_
  show GF vC G b (6, 0, 0) RX10 cX10_turned 6 (some .int) kI 0 [(0, .ref (b + 0)), (1, .int a1), (2, .int a2)] [] σ (pX10_turned a1 a2 σ)
  unfold pX10_turned
  refine g_aload_n (q := 1) 0 dX10_turned_0 rfl rfl rfl ?_
  refine g_iload_n (q := 2) 1 dX10_turned_1 rfl rfl rfl ?_
  refine g_callO (As := [.int a1]) (st := []) (cn_X10_isSign) shX10 rfl cwX10_208 rfl dX10_turned_2 rfl (Nat.le_of_ble_eq_true rfl) (by decide) (kk_PI (fun v1 => ?_))
  refine g_if_eq (t := 19) (q := 8) dX10_turned_5 (by decide) rfl ?_ ?_
  · refine g_iconst (q := 20) dX10_turned_19 kI_m1 rfl ?_
    exact (g_iret dX10_turned_20)
  · refine g_aload_n (q := 9) 0 dX10_turned_8 rfl rfl rfl ?_
    refine g_getA (q := 12) fX10_facts dX10_turned_9 ww381 rfl ?_
    refine g_iload_n (q := 13) 2 dX10_turned_12 rfl rfl rfl ?_
    refine g_callO (As := [.int a2]) (st := []) (cn_X1_has) shX1 rfl cwX10_249 rfl dX10_turned_13 rfl (Nat.le_of_ble_eq_true rfl) (by decide) (kk_PI (fun v3 => ?_))
    refine g_if_ne (t := 21) (q := 19) dX10_turned_16 (by decide) rfl ?_ ?_
    · refine g_iconst (q := 20) dX10_turned_19 kI_m1 rfl ?_
      exact (g_iret dX10_turned_20)
    · refine g_aload_n (q := 22) 0 dX10_turned_21 rfl rfl rfl ?_
      refine g_getA (q := 25) fX10_sky dX10_turned_22 ww380 rfl ?_
      refine g_callO (As := []) (st := []) (cn_X4_survey) shX4 rfl cwX10_153 rfl dX10_turned_25 rfl (Nat.le_of_ble_eq_true rfl) (by decide) (kk_V (fun s6 => ?_))
      refine g_aload_n (q := 29) 0 dX10_turned_28 rfl rfl rfl ?_
      refine g_iload_n (q := 30) 1 dX10_turned_29 rfl rfl rfl ?_
      refine g_iload_n (q := 31) 2 dX10_turned_30 rfl rfl rfl ?_
      refine g_callO (As := [.int a1, .int a2]) (st := []) (cn_X10_fillRedTable) shX10 rfl cwX10_274 rfl dX10_turned_31 rfl (Nat.le_of_ble_eq_true rfl) (by decide) (kk_V (fun s8 => ?_))
      refine g_aload_n (q := 35) 0 dX10_turned_34 rfl rfl rfl ?_
      refine g_callO (As := []) (st := []) (cn_X10_redStands) shX10 rfl cwX10_286 rfl dX10_turned_35 rfl (Nat.le_of_ble_eq_true rfl) (by decide) (kk_PI (fun v9 => ?_))
      refine g_istore_n (lr := [(0, .ref (b + 0)), (1, .int a1), (2, .int a2)]) (q := 39) dX10_turned_38 rfl (by decide) rfl rfl ?_
      refine g_iload_n (q := 40) 3 dX10_turned_39 rfl rfl rfl ?_
      refine g_istore (lr := [(3, .int v9), (0, .ref (b + 0)), (1, .int a1), (2, .int a2)]) (q := 42) dX10_turned_40 (by decide) rfl rfl ?_
      refine g_bindS (S := gS) (hd := 84) (lvf := fun z11 => []) (stf := fun z11 => []) (σf := fun z11 => z11) ?_ (fun z11 => ?_)
      · refine g_sub (lr := [(4, .int a2), (3, .int v9), (0, .ref (b + 0)), (1, .int a1)]) [0, 1, 2, 3] rfl ?_
        refine g_loop (S := (Int32 × gS)) (lvf := fun z12 => [(4, .int z12.1), (3, .int v9), (0, .ref (b + 0)), (1, .int a1)]) (σf := fun z12 => z12.2) (fun z12 => ?_) (a2, s8)
        refine g_iload (q := 44) 0 dX10_turned_42 rfl rfl ?_
        refine g_aload_n (q := 45) 2 dX10_turned_44 rfl rfl rfl ?_
        refine g_getA (q := 48) fX10_facts dX10_turned_45 ww381 rfl ?_
        refine g_getI (q := 51) fX1_size dX10_turned_48 ww316 rfl ?_
        refine g_icmp_ge (t := 84) (q := 54) dX10_turned_51 (by decide) rfl ?_ ?_
        · refine g_sub (lr := []) [] rfl ?_
          exact (g_leave (g_thereS (z12.2 : gS)))
        · refine g_aload_n (q := 55) 2 dX10_turned_54 rfl rfl rfl ?_
          refine g_iload_n (q := 56) 3 dX10_turned_55 rfl rfl rfl ?_
          refine g_iload (q := 58) 0 dX10_turned_56 rfl rfl ?_
          refine g_iconst (q := 59) dX10_turned_58 kI_1 rfl ?_
          refine g_iadd (q := 60) dX10_turned_59 rfl ?_
          refine g_callO (As := [.int a1, .int (z12.1 + (1 : Int32))]) (st := []) (cn_X10_fillRedTable) shX10 rfl cwX10_274 rfl dX10_turned_60 rfl (Nat.le_of_ble_eq_true rfl) (by decide) (kk_V (fun s14 => ?_))
          refine g_aload_n (q := 64) 2 dX10_turned_63 rfl rfl rfl ?_
          refine g_callO (As := []) (st := []) (cn_X10_redStands) shX10 rfl cwX10_286 rfl dX10_turned_64 rfl (Nat.le_of_ble_eq_true rfl) (by decide) (kk_PI (fun v15 => ?_))
          refine g_istore (lr := [(4, .int z12.1), (3, .int v9), (0, .ref (b + 0)), (1, .int a1)]) (q := 69) dX10_turned_67 (by decide) rfl rfl ?_
          refine g_iload (q := 71) 0 dX10_turned_69 rfl rfl ?_
          refine g_iload_n (q := 72) 2 dX10_turned_71 rfl rfl rfl ?_
          refine g_icmp_eq (t := 78) (q := 75) dX10_turned_72 (by decide) rfl ?_ ?_
          · refine g_iinc (lr := [(5, .int v15), (3, .int v9), (0, .ref (b + 0)), (1, .int a1)]) (q := 81) 1 dX10_turned_78 rfl kI_1 (by decide) rfl rfl (fun x17 => ?_)
            refine g_goto (t := 42) dX10_turned_81 (by decide) ?_
            refine g_sub (lr := [(4, .int x17), (3, .int v9), (0, .ref (b + 0)), (1, .int a1)]) [0, 2, 3, 4] rfl ?_
            exact (g_again ((x17, s14) : (Int32 × gS)))
          · refine g_iload (q := 77) 1 dX10_turned_75 rfl rfl ?_
            exact (g_leave (g_right (g_iret dX10_turned_77)))
      · refine g_iconst (q := 85) dX10_turned_84 kI_m1 rfl ?_
        exact (g_iret dX10_turned_85)
noncomputable def pX10_count (a1 : Int32) (σ : gS) : Option (Int32) := if a1 = (0 : Int32) then some (σ.1 21 1) else if a1 = (1 : Int32) then gT (σ.2.2 23 0) tR (fun rr2 => some (σ.1 rr2 0)) else if a1 = (2 : Int32) then gT (σ.2.2 23 0) tR (fun rr4 => some (σ.1 rr4 1)) else if a1 = (3 : Int32) then gT (σ.2.2 23 0) tR (fun rr6 => some (σ.1 rr6 2)) else if a1 = (4 : Int32) then gT (σ.2.2 23 0) tR (fun rr8 => some (σ.1 rr8 4)) else if a1 = (5 : Int32) then gT (σ.2.2 23 0) tR (fun rr10 => some (σ.1 rr10 3)) else if a1 = (6 : Int32) then some (σ.1 39 4) else if a1 = (7 : Int32) then some (σ.1 1 1) else some ((-1 : Int32))
set_option maxRecDepth 100000 in
theorem cn_X10_count {G : gG} {b : Nat} {a1 : Int32} {σ : gS} : CN vC G b 1 yX10_count cX10_count 2 (some .int) (kPI σ) [.ref (b + 0), .int a1] σ (pX10_count a1 σ) := by
  refine cn_of (own := RX10) rfl rfl (Nat.le_of_ble_eq_true rfl) ?_
  show GF vC G b (1, 0, 0) RX10 cX10_count 2 (some .int) (kPI σ) 0 [(0, .ref (b + 0)), (1, .int a1)] [] σ (pX10_count a1 σ)
  unfold pX10_count
  refine g_iload_n (q := 1) 1 dX10_count_0 rfl rfl rfl ?_
  refine g_case (t := 48) (off := 47) (0 : Int32) dX10_count_1 (by decide +kernel) (by decide) ?_ (fun h1 => ?_)
  · refine g_aload_n (q := 49) 0 dX10_count_48 rfl rfl rfl ?_
    refine g_getA (q := 52) fX10_people dX10_count_49 ww379 rfl ?_
    refine g_getI (q := 55) fX2_size dX10_count_52 ww251 rfl ?_
    exact (g_iretP dX10_count_55)
  refine g_case (t := 56) (off := 55) (1 : Int32) dX10_count_1 (by decide +kernel) (by decide) ?_ (fun h3 => ?_)
  · refine g_aload_n (q := 57) 0 dX10_count_56 rfl rfl rfl ?_
    refine g_getA (q := 60) fX10_sky dX10_count_57 ww380 rfl ?_
    refine g_getR (cT := tR) (q := 63) fX4_told dX10_count_60 ww283 rfl (fun rr2 hrr2 => ?_)
    refine g_getI (q := 66) (fX9_signs hrr2) dX10_count_63 ww139 rfl ?_
    exact (g_iretP dX10_count_66)
  refine g_case (t := 67) (off := 66) (2 : Int32) dX10_count_1 (by decide +kernel) (by decide) ?_ (fun h5 => ?_)
  · refine g_aload_n (q := 68) 0 dX10_count_67 rfl rfl rfl ?_
    refine g_getA (q := 71) fX10_sky dX10_count_68 ww380 rfl ?_
    refine g_getR (cT := tR) (q := 74) fX4_told dX10_count_71 ww283 rfl (fun rr4 hrr4 => ?_)
    refine g_getI (q := 77) (fX9_says hrr4) dX10_count_74 ww143 rfl ?_
    exact (g_iretP dX10_count_77)
  refine g_case (t := 78) (off := 77) (3 : Int32) dX10_count_1 (by decide +kernel) (by decide) ?_ (fun h7 => ?_)
  · refine g_aload_n (q := 79) 0 dX10_count_78 rfl rfl rfl ?_
    refine g_getA (q := 82) fX10_sky dX10_count_79 ww380 rfl ?_
    refine g_getR (cT := tR) (q := 85) fX4_told dX10_count_82 ww283 rfl (fun rr6 hrr6 => ?_)
    refine g_getI (q := 88) (fX9_books hrr6) dX10_count_85 ww146 rfl ?_
    exact (g_iretP dX10_count_88)
  refine g_case (t := 89) (off := 88) (4 : Int32) dX10_count_1 (by decide +kernel) (by decide) ?_ (fun h9 => ?_)
  · refine g_aload_n (q := 90) 0 dX10_count_89 rfl rfl rfl ?_
    refine g_getA (q := 93) fX10_sky dX10_count_90 ww380 rfl ?_
    refine g_getR (cT := tR) (q := 96) fX4_told dX10_count_93 ww283 rfl (fun rr8 hrr8 => ?_)
    refine g_getI (q := 99) (fX9_laws hrr8) dX10_count_96 ww152 rfl ?_
    exact (g_iretP dX10_count_99)
  refine g_case (t := 100) (off := 99) (5 : Int32) dX10_count_1 (by decide +kernel) (by decide) ?_ (fun h11 => ?_)
  · refine g_aload_n (q := 101) 0 dX10_count_100 rfl rfl rfl ?_
    refine g_getA (q := 104) fX10_sky dX10_count_101 ww380 rfl ?_
    refine g_getR (cT := tR) (q := 107) fX4_told dX10_count_104 ww283 rfl (fun rr10 hrr10 => ?_)
    refine g_getI (q := 110) (fX9_whens hrr10) dX10_count_107 ww149 rfl ?_
    exact (g_iretP dX10_count_110)
  refine g_case (t := 111) (off := 110) (6 : Int32) dX10_count_1 (by decide +kernel) (by decide) ?_ (fun h12 => ?_)
  · refine g_aload_n (q := 112) 0 dX10_count_111 rfl rfl rfl ?_
    refine g_getA (q := 115) fX10_facts dX10_count_112 ww381 rfl ?_
    refine g_getI (q := 118) fX1_size dX10_count_115 ww316 rfl ?_
    exact (g_iretP dX10_count_118)
  refine g_case (t := 119) (off := 118) (7 : Int32) dX10_count_1 (by decide +kernel) (by decide) ?_ (fun h13 => ?_)
  · refine g_aload_n (q := 120) 0 dX10_count_119 rfl rfl rfl ?_
    refine g_getA (q := 123) fX10_tape dX10_count_120 ww377 rfl ?_
    refine g_getI (q := 126) fX6_length dX10_count_123 ww37 rfl ?_
    exact (g_iretP dX10_count_126)
  refine g_dflt (t := 127) [(0 : Int32), (1 : Int32), (2 : Int32), (3 : Int32), (4 : Int32), (5 : Int32), (6 : Int32), (7 : Int32)] dX10_count_1 (by decide +kernel) (fun v hv => by simp only [List.mem_cons, List.not_mem_nil, or_false] at hv; rcases hv with rfl | rfl | rfl | rfl | rfl | rfl | rfl | rfl <;> assumption) (by decide) ?_
  refine g_iconst (q := 128) dX10_count_127 kI_m1 rfl ?_
  exact (g_iretP dX10_count_128)
noncomputable def pX11_put (a1 : Int32) (σ : gS) : Option (gS) := bn1 (lpP (fun (z2 : (Int32 × gS)) => if z2.1 < 0 then some (.inr z2.2) else gx (z2.2.1 0 2) 2000 (lt' (wI z2.2 1 (z2.2.1 0 2).toNatClampNeg ((a1 >>> (z2.1 &&& (31 : Int32))).toInt8.toInt32).toInt8.toInt32) (fun s3 => lt' (wI s3 0 2 ((s3.1 0 2) + (1 : Int32))) (fun s4 => lt' (z2.1 + (-8 : Int32)) (fun x5 => some (.inl (x5, s4))))))) ((24 : Int32), σ)) (fun (z1 : gS) => some z1)
set_option maxRecDepth 100000 in
theorem cn_X11_put {G : gG} {b : Nat} {a1 : Int32} {σ : gS} : CN vR G b 1 yX11_put cX11_put 3 none kV [.ref (b + 0), .int a1] σ (pX11_put a1 σ) := by
  refine cn_of (own := RX11) rfl rfl (Nat.le_of_ble_eq_true rfl) ?_
  show GF vR G b (1, 0, 0) RX11 cX11_put 3 none kV 0 [(0, .ref (b + 0)), (1, .int a1)] [] σ (pX11_put a1 σ)
  unfold pX11_put
  refine g_bipush (q := 2) dX11_put_0 kB_24 rfl ?_
  refine g_istore_n (lr := [(0, .ref (b + 0)), (1, .int a1)]) (q := 3) dX11_put_2 rfl (by decide) rfl rfl ?_
  refine g_bind (S := gS) (hd := 36) (lvf := fun z1 => []) (stf := fun z1 => []) (σf := fun z1 => z1) ?_ (fun z1 => ?_)
  · refine g_loop (S := (Int32 × gS)) (lvf := fun z2 => [(2, .int z2.1), (0, .ref (b + 0)), (1, .int a1)]) (σf := fun z2 => z2.2) (fun z2 => ?_) ((24 : Int32), σ)
    refine g_iload_n (q := 4) 0 dX11_put_3 rfl rfl rfl ?_
    refine g_if_lt (t := 36) (q := 7) dX11_put_4 (by decide) rfl ?_ ?_
    · refine g_sub (lr := []) [] rfl ?_
      exact (g_leave (g_there (z2.2 : gS)))
    · refine g_aload_n (q := 8) 1 dX11_put_7 rfl rfl rfl ?_
      refine g_getA (q := 11) fX11_tape dX11_put_8 ww1043 rfl ?_
      refine g_aload_n (q := 12) 1 dX11_put_11 rfl rfl rfl ?_
      refine g_getI (q := 15) fX11_taped dX11_put_12 ww1044 rfl ?_
      refine g_iload_n (q := 16) 2 dX11_put_15 rfl rfl rfl ?_
      refine g_iload_n (q := 17) 0 dX11_put_16 rfl rfl rfl ?_
      refine g_ishr (q := 18) dX11_put_17 rfl ?_
      refine g_i2b (q := 19) dX11_put_18 rfl ?_
      refine g_bast (q := 20) (aX11_tape) dX11_put_19 rfl (fun s3 => ?_)
      refine g_aload_n (q := 21) 1 dX11_put_20 rfl rfl rfl ?_
      refine g_dup (q := 22) dX11_put_21 rfl rfl ?_
      refine g_getI (q := 25) fX11_taped dX11_put_22 ww1044 rfl ?_
      refine g_iconst (q := 26) dX11_put_25 kI_1 rfl ?_
      refine g_iadd (q := 27) dX11_put_26 rfl ?_
      refine g_putI (q := 30) fX11_taped pwX11_taped okTX11 dX11_put_27 ww1044 rfl (fun s4 => ?_)
      refine g_iinc (lr := [(0, .ref (b + 0)), (1, .int a1)]) (q := 33) 0 dX11_put_30 rfl kI_m8 (by decide) rfl rfl (fun x5 => ?_)
      refine g_goto (t := 3) dX11_put_33 (by decide) ?_
      exact (g_again ((x5, s4) : (Int32 × gS)))
  · exact (g_vret dX11_put_36)
noncomputable def pX11_feed (a1 : Int32) (a2 : Int32) (a3 : Int32) (a4 : Int32) (a5 : Int32) (σ : gS) : Option (Int32 × gS) := if ((σ.1 0 2) + (20 : Int32)) ≤ (2000 : Int32) then bn1 (pX11_put a1 σ) (fun s2 => bn1 (pX11_put a2 s2) (fun s4 => bn1 (pX11_put a3 s4) (fun s6 => bn1 (pX11_put a4 s6) (fun s8 => bn1 (pX11_put a5 s8) (fun s10 => some (s10.1 0 2, s10)))))) else some ((-1 : Int32), σ)
set_option maxRecDepth 100000 in
theorem cn_X11_feed {G : gG} {b : Nat} {a1 : Int32} {a2 : Int32} {a3 : Int32} {a4 : Int32} {a5 : Int32} {σ : gS} : CN vR G b 2 yX11_feed cX11_feed 6 (some .int) kI [.ref (b + 0), .int a1, .int a2, .int a3, .int a4, .int a5] σ (pX11_feed a1 a2 a3 a4 a5 σ) := by
  refine cn_of (own := RX11) rfl rfl (Nat.le_of_ble_eq_true rfl) ?_
  show GF vR G b (2, 0, 0) RX11 cX11_feed 6 (some .int) kI 0 [(0, .ref (b + 0)), (1, .int a1), (2, .int a2), (3, .int a3), (4, .int a4), (5, .int a5)] [] σ (pX11_feed a1 a2 a3 a4 a5 σ)
  unfold pX11_feed
  refine g_aload_n (q := 1) 0 dX11_feed_0 rfl rfl rfl ?_
  refine g_getI (q := 4) fX11_taped dX11_feed_1 ww1044 rfl ?_
  refine g_bipush (q := 6) dX11_feed_4 kB_20 rfl ?_
  refine g_iadd (q := 7) dX11_feed_6 rfl ?_
  refine g_sipush (q := 10) dX11_feed_7 kS_2000 rfl ?_
  refine g_icmp_le (t := 15) (q := 13) dX11_feed_10 (by decide) rfl ?_ ?_
  · refine g_aload_n (q := 16) 0 dX11_feed_15 rfl rfl rfl ?_
    refine g_iload_n (q := 17) 1 dX11_feed_16 rfl rfl rfl ?_
    refine g_callO (As := [.int a1]) (st := []) (cn_X11_put) shX11 rfl cwX11_165 rfl dX11_feed_17 rfl (Nat.le_of_ble_eq_true rfl) (by decide) (kk_V (fun s2 => ?_))
    refine g_aload_n (q := 21) 0 dX11_feed_20 rfl rfl rfl ?_
    refine g_iload_n (q := 22) 2 dX11_feed_21 rfl rfl rfl ?_
    refine g_callO (As := [.int a2]) (st := []) (cn_X11_put) shX11 rfl cwX11_165 rfl dX11_feed_22 rfl (Nat.le_of_ble_eq_true rfl) (by decide) (kk_V (fun s4 => ?_))
    refine g_aload_n (q := 26) 0 dX11_feed_25 rfl rfl rfl ?_
    refine g_iload_n (q := 27) 3 dX11_feed_26 rfl rfl rfl ?_
    refine g_callO (As := [.int a3]) (st := []) (cn_X11_put) shX11 rfl cwX11_165 rfl dX11_feed_27 rfl (Nat.le_of_ble_eq_true rfl) (by decide) (kk_V (fun s6 => ?_))
    refine g_aload_n (q := 31) 0 dX11_feed_30 rfl rfl rfl ?_
    refine g_iload (q := 33) 4 dX11_feed_31 rfl rfl ?_
    refine g_callO (As := [.int a4]) (st := []) (cn_X11_put) shX11 rfl cwX11_165 rfl dX11_feed_33 rfl (Nat.le_of_ble_eq_true rfl) (by decide) (kk_V (fun s8 => ?_))
    refine g_aload_n (q := 37) 0 dX11_feed_36 rfl rfl rfl ?_
    refine g_iload (q := 39) 5 dX11_feed_37 rfl rfl ?_
    refine g_callO (As := [.int a5]) (st := []) (cn_X11_put) shX11 rfl cwX11_165 rfl dX11_feed_39 rfl (Nat.le_of_ble_eq_true rfl) (by decide) (kk_V (fun s10 => ?_))
    refine g_aload_n (q := 43) 0 dX11_feed_42 rfl rfl rfl ?_
    refine g_getI (q := 46) fX11_taped dX11_feed_43 ww1044 rfl ?_
    exact (g_iret dX11_feed_46)
  · refine g_iconst (q := 14) dX11_feed_13 kI_m1 rfl ?_
    exact (g_iret dX11_feed_14)
