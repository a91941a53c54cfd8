noncomputable def pX8_scanWord (a2 : Int32) (σ : gS) : Option (Int32 × gS) := bn1 (pX6_afterRun a2 (97 : Int32) (122 : Int32) σ) (fun v1 => bn1 (lpP (fun (z4 : (Int32 × Int64)) => if v1 ≤ z4.1 then some (.inr z4.2) else bn1 (pX6_byteAt z4.1 σ) (fun v5 => bn1 (pX8_withLetter z4.2 v5) (fun v7 => lt' (z4.1 + (1 : Int32)) (fun x9 => some (.inl (x9, v7)))))) (a2, (0 : Int64))) (fun (z3 : Int64) => bn1 (if (v1 - a2) ≤ (8 : Int32) then bn1 (pX8_wordKind z3 σ) (fun v11 => some v11) else some (37 : Int32)) (fun (z10 : Int32) => bn1 (pX8_put z10 a2 z3 σ) (fun s14 => some (v1, s14)))))
set_option maxRecDepth 100000 in
theorem cn_X8_scanWord {G : gG} {b : Nat} {a2 : Int32} {σ : gS} : CN vC G b 3 yX8_scanWord cX8_scanWord 7 (some .int) kI [.ref (b + 4), .ref (b + 1), .int a2] σ (pX8_scanWord a2 σ) := by
  refine cn_of (own := RX8) rfl rfl (Nat.le_of_ble_eq_true rfl) ?_
  show GF vC G b (3, 0, 0) RX8 cX8_scanWord 7 (some .int) kI 0 [(0, .ref (b + 4)), (1, .ref (b + 1)), (2, .int a2)] [] σ (pX8_scanWord a2 σ)
  unfold pX8_scanWord
  refine g_aload_n (q := 1) 1 dX8_scanWord_0 rfl rfl rfl ?_
  refine g_iload_n (q := 2) 2 dX8_scanWord_1 rfl rfl rfl ?_
  refine g_bipush (q := 4) dX8_scanWord_2 kB_97 rfl ?_
  refine g_bipush (q := 6) dX8_scanWord_4 kB_122 rfl ?_
  refine g_callO (As := [.int a2, .int (97 : Int32), .int (122 : Int32)]) (st := []) (cn_X6_afterRun) shX6 rfl cwX8_76 rfl dX8_scanWord_6 rfl (Nat.le_of_ble_eq_true rfl) (by decide) (kk_PI (fun v1 => ?_))
  refine g_istore_n (lr := [(0, .ref (b + 4)), (1, .ref (b + 1)), (2, .int a2)]) (q := 10) dX8_scanWord_9 rfl (by decide) rfl rfl ?_
  refine g_lconst (q := 11) (v := (0 : Int64)) dX8_scanWord_10 rfl rfl ?_
  refine g_lstore (lr := [(3, .int v1), (0, .ref (b + 4)), (1, .ref (b + 1)), (2, .int a2)]) (q := 13) dX8_scanWord_11 (by decide) rfl rfl ?_
  refine g_iload_n (q := 14) 4 dX8_scanWord_13 rfl rfl rfl ?_
  refine g_istore (lr := [(4, .long (0 : Int64)), (3, .int v1), (0, .ref (b + 4)), (1, .ref (b + 1)), (2, .int a2)]) (q := 16) dX8_scanWord_14 (by decide) rfl rfl ?_
  refine g_bind (S := Int64) (hd := 41) (lvf := fun z3 => [(4, .long z3), (3, .int v1), (0, .ref (b + 4)), (2, .int a2)]) (stf := fun z3 => []) (σf := fun z3 => σ) ?_ (fun z3 => ?_)
  · refine g_loop (S := (Int32 × Int64)) (lvf := fun z4 => [(6, .int z4.1), (4, .long z4.2), (3, .int v1), (0, .ref (b + 4)), (1, .ref (b + 1)), (2, .int a2)]) (σf := fun z4 => σ) (fun z4 => ?_) (a2, (0 : Int64))
    refine g_iload (q := 18) 0 dX8_scanWord_16 rfl rfl ?_
    refine g_iload_n (q := 19) 2 dX8_scanWord_18 rfl rfl rfl ?_
    refine g_icmp_ge (t := 41) (q := 22) dX8_scanWord_19 (by decide) rfl ?_ ?_
    · refine g_sub (lr := [(4, .long z4.2), (3, .int v1), (0, .ref (b + 4)), (2, .int a2)]) [1, 2, 3, 5] rfl ?_
      exact (g_leave (g_there (z4.2 : Int64)))
    · refine g_lload (q := 24) 1 dX8_scanWord_22 rfl rfl ?_
      refine g_aload_n (q := 25) 4 dX8_scanWord_24 rfl rfl rfl ?_
      refine g_iload (q := 27) 0 dX8_scanWord_25 rfl rfl ?_
      refine g_callO (As := [.int z4.1]) (st := [.long z4.2]) (cn_X6_byteAt) shX6 rfl cwX8_55 rfl dX8_scanWord_27 rfl (Nat.le_of_ble_eq_true rfl) (by decide) (kk_PI (fun v5 => ?_))
      refine g_callT (As := [.long z4.2, .int v5]) (st := []) (cn_X8_withLetter) cwX8_41 rfl dX8_scanWord_30 rfl (Nat.le_of_ble_eq_true rfl) (by decide) (kk_PL (fun v7 => ?_))
      refine g_lstore (lr := [(6, .int z4.1), (3, .int v1), (0, .ref (b + 4)), (1, .ref (b + 1)), (2, .int a2)]) (q := 35) dX8_scanWord_33 (by decide) rfl rfl ?_
      refine g_iinc (lr := [(4, .long v7), (3, .int v1), (0, .ref (b + 4)), (1, .ref (b + 1)), (2, .int a2)]) (q := 38) 1 dX8_scanWord_35 rfl kI_1 (by decide) rfl rfl (fun x9 => ?_)
      refine g_goto (t := 16) dX8_scanWord_38 (by decide) ?_
      exact (g_again ((x9, v7) : (Int32 × Int64)))
  · refine g_aload_n (q := 42) 2 dX8_scanWord_41 rfl rfl rfl ?_
    refine g_iload_n (q := 43) 1 dX8_scanWord_42 rfl rfl rfl ?_
    refine g_iload_n (q := 44) 3 dX8_scanWord_43 rfl rfl rfl ?_
    refine g_isub (q := 45) dX8_scanWord_44 rfl ?_
    refine g_bipush (q := 47) dX8_scanWord_45 kB_8 rfl ?_
    refine g_bind (S := Int32) (hd := 61) (lvf := fun z10 => [(4, .long z3), (3, .int v1), (2, .int a2)]) (stf := fun z10 => [.int z10, .ref (b + 4)]) (σf := fun z10 => σ) ?_ (fun z10 => ?_)
    · refine g_icmp_le (t := 55) (q := 50) dX8_scanWord_47 (by decide) rfl ?_ ?_
      · refine g_aload_n (q := 56) 2 dX8_scanWord_55 rfl rfl rfl ?_
        refine g_lload (q := 58) 0 dX8_scanWord_56 rfl rfl ?_
        refine g_callO (As := [.long z3]) (st := [.ref (b + 4)]) (cn_X8_wordKind) shX8 rfl cwX8_80 rfl dX8_scanWord_58 rfl (Nat.le_of_ble_eq_true rfl) (by decide) (kk_PI (fun v11 => ?_))
        refine g_sub (lr := [(4, .long z3), (3, .int v1), (2, .int a2)]) [0, 1, 3] rfl ?_
        exact (g_there (v11 : Int32))
      · refine g_bipush (q := 52) dX8_scanWord_50 kB_37 rfl ?_
        refine g_goto (t := 61) dX8_scanWord_52 (by decide) ?_
        refine g_sub (lr := [(4, .long z3), (3, .int v1), (2, .int a2)]) [0, 1, 3] rfl ?_
        exact (g_there ((37 : Int32) : Int32))
    · refine g_iload_n (q := 62) 2 dX8_scanWord_61 rfl rfl rfl ?_
      refine g_lload (q := 64) 0 dX8_scanWord_62 rfl rfl ?_
      refine g_callO (As := [.int z10, .int a2, .long z3]) (st := []) (cn_X8_put) shX8 rfl cwX8_58 rfl dX8_scanWord_64 rfl (Nat.le_of_ble_eq_true rfl) (by decide) (kk_V (fun s14 => ?_))
      refine g_iload_n (q := 68) 1 dX8_scanWord_67 rfl rfl rfl ?_
      exact (g_iret dX8_scanWord_68)
noncomputable def pX8_scanOne (a2 : Int32) (σ : gS) : Option (Int32 × gS) := bn1 (pX6_byteAt a2 σ) (fun v1 => if v1 = (-1 : Int32) then bn1 (pX8_put (36 : Int32) a2 (0 : Int64) σ) (fun s4 => some (a2, s4)) else bn1 (pX10_inRange v1 (97 : Int32) (122 : Int32)) (fun v5 => if v5 = 0 then bn1 (pX10_inRange v1 (48 : Int32) (57 : Int32)) (fun v7 => if v7 = 0 then bn1 (pX6_byteAt (a2 + (1 : Int32)) σ) (fun v9 => bn1 (pX8_markKind v1 v9) (fun v11 => bn1 (pX8_put v11 a2 (0 : Int64) σ) (fun s14 => bnS (if v11 = (30 : Int32) then some (.inl ()) else if v11 = (31 : Int32) then some (.inl ()) else if v11 = (33 : Int32) then some (.inl ()) else some (.inr (a2 + (1 : Int32), s14))) (fun (z15 : Unit) => some (a2 + (2 : Int32), s14))))) else bn2 (pX8_scanInt a2 σ) (fun v16 s17 => some (v16, s17))) else bn2 (pX8_scanWord a2 σ) (fun v18 s19 => some (v18, s19))))
set_option maxRecDepth 100000 in
theorem cn_X8_scanOne {G : gG} {b : Nat} {a2 : Int32} {σ : gS} : CN vC G b 4 yX8_scanOne cX8_scanOne 5 (some .int) kI [.ref (b + 4), .ref (b + 1), .int a2] σ (pX8_scanOne a2 σ) := by
  refine cn_of (own := RX8) rfl rfl (Nat.le_of_ble_eq_true rfl) ?_
  show GF vC G b (4, 0, 0) RX8 cX8_scanOne 5 (some .int) kI 0 [(0, .ref (b + 4)), (1, .ref (b + 1)), (2, .int a2)] [] σ (pX8_scanOne a2 σ)
  unfold pX8_scanOne
  refine g_aload_n (q := 1) 1 dX8_scanOne_0 rfl rfl rfl ?_
  refine g_iload_n (q := 2) 2 dX8_scanOne_1 rfl rfl rfl ?_
  refine g_callO (As := [.int a2]) (st := []) (cn_X6_byteAt) shX6 rfl cwX8_55 rfl dX8_scanOne_2 rfl (Nat.le_of_ble_eq_true rfl) (by decide) (kk_PI (fun v1 => ?_))
  refine g_istore_n (lr := [(0, .ref (b + 4)), (1, .ref (b + 1)), (2, .int a2)]) (q := 6) dX8_scanOne_5 rfl (by decide) rfl rfl ?_
  refine g_iload_n (q := 7) 0 dX8_scanOne_6 rfl rfl rfl ?_
  refine g_iconst (q := 8) dX8_scanOne_7 kI_m1 rfl ?_
  refine g_icmp_ne (t := 21) (q := 11) dX8_scanOne_8 (by decide) rfl ?_ ?_
  · refine g_aload_n (q := 12) 1 dX8_scanOne_11 rfl rfl rfl ?_
    refine g_bipush (q := 14) dX8_scanOne_12 kB_36 rfl ?_
    refine g_iload_n (q := 15) 3 dX8_scanOne_14 rfl rfl rfl ?_
    refine g_lconst (q := 16) (v := (0 : Int64)) dX8_scanOne_15 rfl rfl ?_
    refine g_callO (As := [.int (36 : Int32), .int a2, .long (0 : Int64)]) (st := []) (cn_X8_put) shX8 rfl cwX8_58 rfl dX8_scanOne_16 rfl (Nat.le_of_ble_eq_true rfl) (by decide) (kk_V (fun s4 => ?_))
    refine g_iload_n (q := 20) 3 dX8_scanOne_19 rfl rfl rfl ?_
    exact (g_iret dX8_scanOne_20)
  · refine g_iload_n (q := 22) 0 dX8_scanOne_21 rfl rfl rfl ?_
    refine g_bipush (q := 24) dX8_scanOne_22 kB_97 rfl ?_
    refine g_bipush (q := 26) dX8_scanOne_24 kB_122 rfl ?_
    refine g_callN (As := [.int v1, .int (97 : Int32), .int (122 : Int32)]) (st := []) (cn_X10_inRange) cwX8_62 rfl dX8_scanOne_26 rfl (Nat.le_of_ble_eq_true rfl) (by decide) (kk_PI (fun v5 => ?_))
    refine g_if_eq (t := 39) (q := 32) dX8_scanOne_29 (by decide) rfl ?_ ?_
    · refine g_iload_n (q := 40) 0 dX8_scanOne_39 rfl rfl rfl ?_
      refine g_bipush (q := 42) dX8_scanOne_40 kB_48 rfl ?_
      refine g_bipush (q := 44) dX8_scanOne_42 kB_57 rfl ?_
      refine g_callN (As := [.int v1, .int (48 : Int32), .int (57 : Int32)]) (st := []) (cn_X10_inRange) cwX8_62 rfl dX8_scanOne_44 rfl (Nat.le_of_ble_eq_true rfl) (by decide) (kk_PI (fun v7 => ?_))
      refine g_if_eq (t := 57) (q := 50) dX8_scanOne_47 (by decide) rfl ?_ ?_
      · refine g_iload_n (q := 58) 0 dX8_scanOne_57 rfl rfl rfl ?_
        refine g_aload_n (q := 59) 2 dX8_scanOne_58 rfl rfl rfl ?_
        refine g_iload_n (q := 60) 3 dX8_scanOne_59 rfl rfl rfl ?_
        refine g_iconst (q := 61) dX8_scanOne_60 kI_1 rfl ?_
        refine g_iadd (q := 62) dX8_scanOne_61 rfl ?_
        refine g_callO (As := [.int (a2 + (1 : Int32))]) (st := [.int v1]) (cn_X6_byteAt) shX6 rfl cwX8_55 rfl dX8_scanOne_62 rfl (Nat.le_of_ble_eq_true rfl) (by decide) (kk_PI (fun v9 => ?_))
        refine g_callT (As := [.int v1, .int v9]) (st := []) (cn_X8_markKind) cwX8_72 rfl dX8_scanOne_65 rfl (Nat.le_of_ble_eq_true rfl) (by decide) (kk_PI (fun v11 => ?_))
        refine g_istore (lr := [(3, .int v1), (0, .ref (b + 4)), (1, .ref (b + 1)), (2, .int a2)]) (q := 70) dX8_scanOne_68 (by decide) rfl rfl ?_
        refine g_aload_n (q := 71) 2 dX8_scanOne_70 rfl rfl rfl ?_
        refine g_iload (q := 73) 0 dX8_scanOne_71 rfl rfl ?_
        refine g_iload_n (q := 74) 4 dX8_scanOne_73 rfl rfl rfl ?_
        refine g_lconst (q := 75) (v := (0 : Int64)) dX8_scanOne_74 rfl rfl ?_
        refine g_callO (As := [.int v11, .int a2, .long (0 : Int64)]) (st := []) (cn_X8_put) shX8 rfl cwX8_58 rfl dX8_scanOne_75 rfl (Nat.le_of_ble_eq_true rfl) (by decide) (kk_V (fun s14 => ?_))
        refine g_iload_n (q := 79) 4 dX8_scanOne_78 rfl rfl rfl ?_
        refine g_iload (q := 81) 0 dX8_scanOne_79 rfl rfl ?_
        refine g_bipush (q := 83) dX8_scanOne_81 kB_30 rfl ?_
        refine g_bindS (S := Unit) (hd := 100) (lvf := fun z15 => []) (stf := fun z15 => [.int a2]) (σf := fun z15 => s14) ?_ (fun z15 => ?_)
        · refine g_icmp_eq (t := 100) (q := 86) dX8_scanOne_83 (by decide) rfl ?_ ?_
          · refine g_sub (lr := []) [] rfl ?_
            exact (g_thereS (() : Unit))
          · refine g_iload (q := 88) 0 dX8_scanOne_86 rfl rfl ?_
            refine g_bipush (q := 90) dX8_scanOne_88 kB_31 rfl ?_
            refine g_icmp_eq (t := 100) (q := 93) dX8_scanOne_90 (by decide) rfl ?_ ?_
            · refine g_sub (lr := []) [] rfl ?_
              exact (g_thereS (() : Unit))
            · refine g_iload (q := 95) 0 dX8_scanOne_93 rfl rfl ?_
              refine g_bipush (q := 97) dX8_scanOne_95 kB_33 rfl ?_
              refine g_icmp_ne (t := 104) (q := 100) dX8_scanOne_97 (by decide) rfl ?_ ?_
              · refine g_sub (lr := []) [] rfl ?_
                exact (g_thereS (() : Unit))
              · refine g_iconst (q := 105) dX8_scanOne_104 kI_1 rfl ?_
                refine g_iadd (q := 106) dX8_scanOne_105 rfl ?_
                exact (g_right (g_iret dX8_scanOne_106))
        · refine g_iconst (q := 101) dX8_scanOne_100 kI_2 rfl ?_
          refine g_goto (t := 105) dX8_scanOne_101 (by decide) ?_
          refine g_iadd (q := 106) dX8_scanOne_105 rfl ?_
          exact (g_iret dX8_scanOne_106)
      · refine g_aload_n (q := 51) 1 dX8_scanOne_50 rfl rfl rfl ?_
        refine g_aload_n (q := 52) 2 dX8_scanOne_51 rfl rfl rfl ?_
        refine g_iload_n (q := 53) 3 dX8_scanOne_52 rfl rfl rfl ?_
        refine g_callO (As := [.ref (b + 1), .int a2]) (st := []) (cn_X8_scanInt) shX8 rfl cwX8_69 rfl dX8_scanOne_53 rfl (Nat.le_of_ble_eq_true rfl) (by decide) (kk_I (fun v16 s17 => ?_))
        exact (g_iret dX8_scanOne_56)
    · refine g_aload_n (q := 33) 1 dX8_scanOne_32 rfl rfl rfl ?_
      refine g_aload_n (q := 34) 2 dX8_scanOne_33 rfl rfl rfl ?_
      refine g_iload_n (q := 35) 3 dX8_scanOne_34 rfl rfl rfl ?_
      refine g_callO (As := [.ref (b + 1), .int a2]) (st := []) (cn_X8_scanWord) shX8 rfl cwX8_66 rfl dX8_scanOne_35 rfl (Nat.le_of_ble_eq_true rfl) (by decide) (kk_I (fun v18 s19 => ?_))
      exact (g_iret dX8_scanOne_38)
noncomputable def pX8_scan (σ : gS) : Option (gS) := lt' (wI σ 4 3 (0 : Int32)) (fun s1 => bn1 (lpP (fun (z3 : (Int32 × Int32 × Int32 × gS)) => if (400 : Int32) < z3.1 then some (.inr z3.2.2.2) else if z3.2.1 = 0 then some (.inr z3.2.2.2) else bn1 (pX6_afterBlanks z3.2.2.1 z3.2.2.2) (fun v4 => bn2 (pX8_scanOne v4 z3.2.2.2) (fun v6 s7 => gx z3.1 401 (if (s7.1 5 z3.1.toNatClampNeg) = (36 : Int32) then lt' (z3.1 + (1 : Int32)) (fun x8 => some (.inl (x8, (0 : Int32), v6, s7))) else gx z3.1 401 (if (s7.1 5 z3.1.toNatClampNeg) = (37 : Int32) then lt' (z3.1 + (1 : Int32)) (fun x9 => some (.inl (x9, (0 : Int32), v6, s7))) else lt' (z3.1 + (1 : Int32)) (fun x10 => some (.inl (x10, (1 : Int32), v6, s7)))))))) ((0 : Int32), (1 : Int32), (0 : Int32), s1)) (fun (z2 : gS) => some z2))
set_option maxRecDepth 100000 in
theorem cn_X8_scan {G : gG} {b : Nat}  {σ : gS} : CN vC G b 5 yX8_scan cX8_scan 6 none kV [.ref (b + 4), .ref (b + 1)] σ (pX8_scan σ) := by
  refine cn_of (own := RX8) rfl rfl (Nat.le_of_ble_eq_true rfl) ?_
  show GF vC G b (5, 0, 0) RX8 cX8_scan 6 none kV 0 [(0, .ref (b + 4)), (1, .ref (b + 1))] [] σ (pX8_scan σ)
  unfold pX8_scan
  refine g_aload_n (q := 1) 0 dX8_scan_0 rfl rfl rfl ?_
  refine g_iconst (q := 2) dX8_scan_1 kI_0 rfl ?_
  refine g_putI (q := 5) fX8_size pwX8_size okTX8 dX8_scan_2 ww115 rfl (fun s1 => ?_)
  refine g_iconst (q := 6) dX8_scan_5 kI_0 rfl ?_
  refine g_istore_n (lr := [(0, .ref (b + 4)), (1, .ref (b + 1))]) (q := 7) dX8_scan_6 rfl (by decide) rfl rfl ?_
  refine g_iconst (q := 8) dX8_scan_7 kI_1 rfl ?_
  refine g_istore_n (lr := [(2, .int (0 : Int32)), (0, .ref (b + 4)), (1, .ref (b + 1))]) (q := 9) dX8_scan_8 rfl (by decide) rfl rfl ?_
  refine g_iconst (q := 10) dX8_scan_9 kI_0 rfl ?_
  refine g_istore (lr := [(3, .int (1 : Int32)), (2, .int (0 : Int32)), (0, .ref (b + 4)), (1, .ref (b + 1))]) (q := 12) dX8_scan_10 (by decide) rfl rfl ?_
  refine g_bind (S := gS) (hd := 75) (lvf := fun z2 => []) (stf := fun z2 => []) (σf := fun z2 => z2) ?_ (fun z2 => ?_)
  · refine g_loop (S := (Int32 × Int32 × Int32 × gS)) (lvf := fun z3 => [(4, .int z3.1), (3, .int z3.2.1), (2, .int z3.2.2.1), (0, .ref (b + 4)), (1, .ref (b + 1))]) (σf := fun z3 => z3.2.2.2) (fun z3 => ?_) ((0 : Int32), (1 : Int32), (0 : Int32), s1)
    refine g_iload (q := 14) 0 dX8_scan_12 rfl rfl ?_
    refine g_sipush (q := 17) dX8_scan_14 kS_400 rfl ?_
    refine g_icmp_gt (t := 75) (q := 20) dX8_scan_17 (by decide) rfl ?_ ?_
    · refine g_sub (lr := []) [] rfl ?_
      exact (g_leave (g_there (z3.2.2.2 : gS)))
    · refine g_iload_n (q := 21) 1 dX8_scan_20 rfl rfl rfl ?_
      refine g_if_eq (t := 75) (q := 24) dX8_scan_21 (by decide) rfl ?_ ?_
      · refine g_sub (lr := []) [] rfl ?_
        exact (g_leave (g_there (z3.2.2.2 : gS)))
      · refine g_aload_n (q := 25) 4 dX8_scan_24 rfl rfl rfl ?_
        refine g_iload_n (q := 26) 2 dX8_scan_25 rfl rfl rfl ?_
        refine g_callO (As := [.int z3.2.2.1]) (st := []) (cn_X6_afterBlanks) shX6 rfl cwX8_45 rfl dX8_scan_26 rfl (Nat.le_of_ble_eq_true rfl) (by decide) (kk_PI (fun v4 => ?_))
        refine g_istore (lr := [(4, .int z3.1), (3, .int z3.2.1), (2, .int z3.2.2.1), (0, .ref (b + 4)), (1, .ref (b + 1))]) (q := 31) dX8_scan_29 (by decide) rfl rfl ?_
        refine g_aload_n (q := 32) 4 dX8_scan_31 rfl rfl rfl ?_
        refine g_aload_n (q := 33) 5 dX8_scan_32 rfl rfl rfl ?_
        refine g_iload (q := 35) 0 dX8_scan_33 rfl rfl ?_
        refine g_callO (As := [.ref (b + 1), .int v4]) (st := []) (cn_X8_scanOne) shX8 rfl cwX8_51 rfl dX8_scan_35 rfl (Nat.le_of_ble_eq_true rfl) (by decide) (kk_I (fun v6 s7 => ?_))
        refine g_istore_n (lr := [(5, .int v4), (4, .int z3.1), (3, .int z3.2.1), (0, .ref (b + 4)), (1, .ref (b + 1))]) (q := 39) dX8_scan_38 rfl (by decide) rfl rfl ?_
        refine g_aload_n (q := 40) 4 dX8_scan_39 rfl rfl rfl ?_
        refine g_getA (q := 43) fX8_kinds dX8_scan_40 ww109 rfl ?_
        refine g_iload (q := 45) 2 dX8_scan_43 rfl rfl ?_
        refine g_iald (q := 46) (aX8_kinds) dX8_scan_45 rfl ?_
        refine g_bipush (q := 48) dX8_scan_46 kB_36 rfl ?_
        refine g_icmp_eq (t := 67) (q := 51) dX8_scan_48 (by decide) rfl ?_ ?_
        · refine g_iconst (q := 68) dX8_scan_67 kI_0 rfl ?_
          refine g_istore_n (lr := [(2, .int v6), (5, .int v4), (4, .int z3.1), (0, .ref (b + 4)), (1, .ref (b + 1))]) (q := 69) dX8_scan_68 rfl (by decide) rfl rfl ?_
          refine g_iinc (lr := [(3, .int (0 : Int32)), (2, .int v6), (5, .int v4), (0, .ref (b + 4)), (1, .ref (b + 1))]) (q := 72) 3 dX8_scan_69 rfl kI_1 (by decide) rfl rfl (fun x8 => ?_)
          refine g_goto (t := 12) dX8_scan_72 (by decide) ?_
          refine g_sub (lr := [(4, .int x8), (3, .int (0 : Int32)), (2, .int v6), (0, .ref (b + 4)), (1, .ref (b + 1))]) [0, 1, 2, 4, 5] rfl ?_
          exact (g_again ((x8, (0 : Int32), v6, s7) : (Int32 × Int32 × Int32 × gS)))
        · refine g_aload_n (q := 52) 4 dX8_scan_51 rfl rfl rfl ?_
          refine g_getA (q := 55) fX8_kinds dX8_scan_52 ww109 rfl ?_
          refine g_iload (q := 57) 2 dX8_scan_55 rfl rfl ?_
          refine g_iald (q := 58) (aX8_kinds) dX8_scan_57 rfl ?_
          refine g_bipush (q := 60) dX8_scan_58 kB_37 rfl ?_
          refine g_icmp_eq (t := 67) (q := 63) dX8_scan_60 (by decide) rfl ?_ ?_
          · refine g_iconst (q := 68) dX8_scan_67 kI_0 rfl ?_
            refine g_istore_n (lr := [(2, .int v6), (5, .int v4), (4, .int z3.1), (0, .ref (b + 4)), (1, .ref (b + 1))]) (q := 69) dX8_scan_68 rfl (by decide) rfl rfl ?_
            refine g_iinc (lr := [(3, .int (0 : Int32)), (2, .int v6), (5, .int v4), (0, .ref (b + 4)), (1, .ref (b + 1))]) (q := 72) 3 dX8_scan_69 rfl kI_1 (by decide) rfl rfl (fun x9 => ?_)
            refine g_goto (t := 12) dX8_scan_72 (by decide) ?_
            refine g_sub (lr := [(4, .int x9), (3, .int (0 : Int32)), (2, .int v6), (0, .ref (b + 4)), (1, .ref (b + 1))]) [0, 1, 2, 4, 5] rfl ?_
            exact (g_again ((x9, (0 : Int32), v6, s7) : (Int32 × Int32 × Int32 × gS)))
          · refine g_iconst (q := 64) dX8_scan_63 kI_1 rfl ?_
            refine g_goto (t := 68) dX8_scan_64 (by decide) ?_
            refine g_istore_n (lr := [(2, .int v6), (5, .int v4), (4, .int z3.1), (0, .ref (b + 4)), (1, .ref (b + 1))]) (q := 69) dX8_scan_68 rfl (by decide) rfl rfl ?_
            refine g_iinc (lr := [(3, .int (1 : Int32)), (2, .int v6), (5, .int v4), (0, .ref (b + 4)), (1, .ref (b + 1))]) (q := 72) 3 dX8_scan_69 rfl kI_1 (by decide) rfl rfl (fun x10 => ?_)
            refine g_goto (t := 12) dX8_scan_72 (by decide) ?_
            refine g_sub (lr := [(4, .int x10), (3, .int (1 : Int32)), (2, .int v6), (0, .ref (b + 4)), (1, .ref (b + 1))]) [0, 1, 2, 4, 5] rfl ?_
            exact (g_again ((x10, (1 : Int32), v6, s7) : (Int32 × Int32 × Int32 × gS)))
  · exact (g_vret dX8_scan_75)
noncomputable def pX7_parse (σ : gS) : Option (Int32 × gS) := bn1 (pX8_scan σ) (fun s2 => bn1 (pX7_start s2) (fun s4 => bn1 (lpP (fun (z6 : (Int32 × gS)) => if (400 : Int32) < z6.1 then some (.inr z6.2) else if (z6.2.1 3 3) = (36 : Int32) then some (.inr z6.2) else if (z6.2.1 3 3) = (38 : Int32) then some (.inr z6.2) else if (z6.2.1 3 3) = (0 : Int32) then bn1 (pX7_tellSign z6.2) (fun s8 => lt' (z6.1 + (1 : Int32)) (fun x9 => some (.inl (x9, s8)))) else if (z6.2.1 3 3) = (2 : Int32) then bn1 (pX7_tellSay z6.2) (fun s12 => lt' (z6.1 + (1 : Int32)) (fun x13 => some (.inl (x13, s12)))) else if (z6.2.1 3 3) = (3 : Int32) then bn1 (pX7_tellBook z6.2) (fun s16 => lt' (z6.1 + (1 : Int32)) (fun x17 => some (.inl (x17, s16)))) else if (z6.2.1 3 3) = (4 : Int32) then bn1 (pX7_tellWhen z6.2) (fun s20 => lt' (z6.1 + (1 : Int32)) (fun x21 => some (.inl (x21, s20)))) else if (z6.2.1 3 3) = (5 : Int32) then bn1 (pX7_tellLaw z6.2) (fun s24 => lt' (z6.1 + (1 : Int32)) (fun x25 => some (.inl (x25, s24)))) else bn1 (pX7_fail (1 : Int32) z6.2) (fun s28 => lt' (z6.1 + (1 : Int32)) (fun x29 => some (.inl (x29, s28))))) ((0 : Int32), s4)) (fun (z5 : gS) => if (z5.1 3 6) = 0 then lt' (wI z5 3 6 (z5.1 3 8)) (fun s30 => lt' (wI s30 3 7 (s30.1 3 9)) (fun s31 => some (s31.1 3 6, s31))) else lt' (wI z5 3 7 (z5.1 3 5)) (fun s32 => some (s32.1 3 6, s32)))))
set_option maxRecDepth 100000 in
theorem cn_X7_parse {G : gG} {b : Nat}  {σ : gS} : CN vC G b 26 yX7_parse cX7_parse 3 (some .int) kI [.ref (b + 3), .ref (b + 1)] σ (pX7_parse σ) := by
  refine cn_of (own := RX7) rfl rfl (Nat.le_of_ble_eq_true rfl) ?_
  show GF vC G b (26, 0, 0) RX7 cX7_parse 3 (some .int) kI 0 [(0, .ref (b + 3)), (1, .ref (b + 1))] [] σ (pX7_parse σ)
  unfold pX7_parse
  refine g_aload_n (q := 1) 0 dX7_parse_0 rfl rfl rfl ?_
  refine g_getA (q := 4) fX7_tokens dX7_parse_1 ww199 rfl ?_
  refine g_aload_n (q := 5) 1 dX7_parse_4 rfl rfl rfl ?_
  refine g_callO (As := [.ref (b + 1)]) (st := []) (cn_X8_scan) shX8 rfl cwX7_65 rfl dX7_parse_5 rfl (Nat.le_of_ble_eq_true rfl) (by decide) (kk_V (fun s2 => ?_))
  refine g_aload_n (q := 9) 0 dX7_parse_8 rfl rfl rfl ?_
  refine g_callO (As := []) (st := []) (cn_X7_start) shX7 rfl cwX7_69 rfl dX7_parse_9 rfl (Nat.le_of_ble_eq_true rfl) (by decide) (kk_V (fun s4 => ?_))
  refine g_iconst (q := 13) dX7_parse_12 kI_0 rfl ?_
  refine g_istore_n (lr := [(0, .ref (b + 3)), (1, .ref (b + 1))]) (q := 14) dX7_parse_13 rfl (by decide) rfl rfl ?_
  refine g_bind (S := gS) (hd := 126) (lvf := fun z5 => [(0, .ref (b + 3))]) (stf := fun z5 => []) (σf := fun z5 => z5) ?_ (fun z5 => ?_)
  · refine g_sub (lr := [(2, .int (0 : Int32)), (0, .ref (b + 3))]) [0, 1] rfl ?_
    refine g_loop (S := (Int32 × gS)) (lvf := fun z6 => [(2, .int z6.1), (0, .ref (b + 3))]) (σf := fun z6 => z6.2) (fun z6 => ?_) ((0 : Int32), s4)
    refine g_iload_n (q := 15) 0 dX7_parse_14 rfl rfl rfl ?_
    refine g_sipush (q := 18) dX7_parse_15 kS_400 rfl ?_
    refine g_icmp_gt (t := 126) (q := 21) dX7_parse_18 (by decide) rfl ?_ ?_
    · refine g_sub (lr := [(0, .ref (b + 3))]) [1] rfl ?_
      exact (g_leave (g_there (z6.2 : gS)))
    · refine g_aload_n (q := 22) 1 dX7_parse_21 rfl rfl rfl ?_
      refine g_getI (q := 25) fX7_here dX7_parse_22 ww202 rfl ?_
      refine g_bipush (q := 27) dX7_parse_25 kB_36 rfl ?_
      refine g_icmp_eq (t := 126) (q := 30) dX7_parse_27 (by decide) rfl ?_ ?_
      · refine g_sub (lr := [(0, .ref (b + 3))]) [1] rfl ?_
        exact (g_leave (g_there (z6.2 : gS)))
      · refine g_aload_n (q := 31) 1 dX7_parse_30 rfl rfl rfl ?_
        refine g_getI (q := 34) fX7_here dX7_parse_31 ww202 rfl ?_
        refine g_bipush (q := 36) dX7_parse_34 kB_38 rfl ?_
        refine g_icmp_eq (t := 126) (q := 39) dX7_parse_36 (by decide) rfl ?_ ?_
        · refine g_sub (lr := [(0, .ref (b + 3))]) [1] rfl ?_
          exact (g_leave (g_there (z6.2 : gS)))
        · refine g_aload_n (q := 40) 1 dX7_parse_39 rfl rfl rfl ?_
          refine g_getI (q := 43) fX7_here dX7_parse_40 ww202 rfl ?_
          refine g_case (t := 80) (off := 37) (0 : Int32) dX7_parse_43 (by decide +kernel) (by decide) ?_ (fun h10 => ?_)
          · refine g_aload_n (q := 81) 1 dX7_parse_80 rfl rfl rfl ?_
            refine g_callO (As := []) (st := []) (cn_X7_tellSign) shX7 rfl cwX7_72 rfl dX7_parse_81 rfl (Nat.le_of_ble_eq_true rfl) (by decide) (kk_V (fun s8 => ?_))
            refine g_goto (t := 120) dX7_parse_84 (by decide) ?_
            refine g_iinc (lr := [(0, .ref (b + 3))]) (q := 123) 0 dX7_parse_120 rfl kI_1 (by decide) rfl rfl (fun x9 => ?_)
            refine g_goto (t := 14) dX7_parse_123 (by decide) ?_
            exact (g_again ((x9, s8) : (Int32 × gS)))
          refine g_case (t := 87) (off := 44) (2 : Int32) dX7_parse_43 (by decide +kernel) (by decide) ?_ (fun h14 => ?_)
          · refine g_aload_n (q := 88) 1 dX7_parse_87 rfl rfl rfl ?_
            refine g_callO (As := []) (st := []) (cn_X7_tellSay) shX7 rfl cwX7_75 rfl dX7_parse_88 rfl (Nat.le_of_ble_eq_true rfl) (by decide) (kk_V (fun s12 => ?_))
            refine g_goto (t := 120) dX7_parse_91 (by decide) ?_
            refine g_iinc (lr := [(0, .ref (b + 3))]) (q := 123) 0 dX7_parse_120 rfl kI_1 (by decide) rfl rfl (fun x13 => ?_)
            refine g_goto (t := 14) dX7_parse_123 (by decide) ?_
            exact (g_again ((x13, s12) : (Int32 × gS)))
          refine g_case (t := 94) (off := 51) (3 : Int32) dX7_parse_43 (by decide +kernel) (by decide) ?_ (fun h18 => ?_)
          · refine g_aload_n (q := 95) 1 dX7_parse_94 rfl rfl rfl ?_
            refine g_callO (As := []) (st := []) (cn_X7_tellBook) shX7 rfl cwX7_78 rfl dX7_parse_95 rfl (Nat.le_of_ble_eq_true rfl) (by decide) (kk_V (fun s16 => ?_))
            refine g_goto (t := 120) dX7_parse_98 (by decide) ?_
            refine g_iinc (lr := [(0, .ref (b + 3))]) (q := 123) 0 dX7_parse_120 rfl kI_1 (by decide) rfl rfl (fun x17 => ?_)
            refine g_goto (t := 14) dX7_parse_123 (by decide) ?_
            exact (g_again ((x17, s16) : (Int32 × gS)))
          refine g_case (t := 101) (off := 58) (4 : Int32) dX7_parse_43 (by decide +kernel) (by decide) ?_ (fun h22 => ?_)
          · refine g_aload_n (q := 102) 1 dX7_parse_101 rfl rfl rfl ?_
            refine g_callO (As := []) (st := []) (cn_X7_tellWhen) shX7 rfl cwX7_81 rfl dX7_parse_102 rfl (Nat.le_of_ble_eq_true rfl) (by decide) (kk_V (fun s20 => ?_))
            refine g_goto (t := 120) dX7_parse_105 (by decide) ?_
            refine g_iinc (lr := [(0, .ref (b + 3))]) (q := 123) 0 dX7_parse_120 rfl kI_1 (by decide) rfl rfl (fun x21 => ?_)
            refine g_goto (t := 14) dX7_parse_123 (by decide) ?_
            exact (g_again ((x21, s20) : (Int32 × gS)))
          refine g_case (t := 108) (off := 65) (5 : Int32) dX7_parse_43 (by decide +kernel) (by decide) ?_ (fun h26 => ?_)
          · refine g_aload_n (q := 109) 1 dX7_parse_108 rfl rfl rfl ?_
            refine g_callO (As := []) (st := []) (cn_X7_tellLaw) shX7 rfl cwX7_84 rfl dX7_parse_109 rfl (Nat.le_of_ble_eq_true rfl) (by decide) (kk_V (fun s24 => ?_))
            refine g_goto (t := 120) dX7_parse_112 (by decide) ?_
            refine g_iinc (lr := [(0, .ref (b + 3))]) (q := 123) 0 dX7_parse_120 rfl kI_1 (by decide) rfl rfl (fun x25 => ?_)
            refine g_goto (t := 14) dX7_parse_123 (by decide) ?_
            exact (g_again ((x25, s24) : (Int32 × gS)))
          refine g_dflt (t := 115) [(0 : Int32), (2 : Int32), (3 : Int32), (4 : Int32), (5 : Int32)] dX7_parse_43 (by decide +kernel) (fun v hv => by simp only [List.mem_cons, List.not_mem_nil, or_false] at hv; rcases hv with rfl | rfl | rfl | rfl | rfl <;> assumption) (by decide) ?_
          refine g_aload_n (q := 116) 1 dX7_parse_115 rfl rfl rfl ?_
          refine g_iconst (q := 117) dX7_parse_116 kI_1 rfl ?_
          refine g_callO (As := [.int (1 : Int32)]) (st := []) (cn_X7_fail) shX7 rfl cwX7_87 rfl dX7_parse_117 rfl (Nat.le_of_ble_eq_true rfl) (by decide) (kk_V (fun s28 => ?_))
          refine g_iinc (lr := [(0, .ref (b + 3))]) (q := 123) 0 dX7_parse_120 rfl kI_1 (by decide) rfl rfl (fun x29 => ?_)
          refine g_goto (t := 14) dX7_parse_123 (by decide) ?_
          exact (g_again ((x29, s28) : (Int32 × gS)))
  · refine g_aload_n (q := 127) 0 dX7_parse_126 rfl rfl rfl ?_
    refine g_getI (q := 130) fX7_fault dX7_parse_127 ww205 rfl ?_
    refine g_if_eq (t := 144) (q := 133) dX7_parse_130 (by decide) rfl ?_ ?_
    · refine g_aload_n (q := 145) 0 dX7_parse_144 rfl rfl rfl ?_
      refine g_aload_n (q := 146) 0 dX7_parse_145 rfl rfl rfl ?_
      refine g_getI (q := 149) fX7_laterFault dX7_parse_146 ww207 rfl ?_
      refine g_putI (q := 152) fX7_fault pwX7_fault okTX7 dX7_parse_149 ww205 rfl (fun s30 => ?_)
      refine g_aload_n (q := 153) 0 dX7_parse_152 rfl rfl rfl ?_
      refine g_aload_n (q := 154) 0 dX7_parse_153 rfl rfl rfl ?_
      refine g_getI (q := 157) fX7_laterAt dX7_parse_154 ww208 rfl ?_
      refine g_putI (q := 160) fX7_faultAt pwX7_faultAt okTX7 dX7_parse_157 ww206 rfl (fun s31 => ?_)
      refine g_aload_n (q := 161) 0 dX7_parse_160 rfl rfl rfl ?_
      refine g_getI (q := 164) fX7_fault dX7_parse_161 ww205 rfl ?_
      exact (g_iret dX7_parse_164)
    · refine g_aload_n (q := 134) 0 dX7_parse_133 rfl rfl rfl ?_
      refine g_aload_n (q := 135) 0 dX7_parse_134 rfl rfl rfl ?_
      refine g_getI (q := 138) fX7_spot dX7_parse_135 ww204 rfl ?_
      refine g_putI (q := 141) fX7_faultAt pwX7_faultAt okTX7 dX7_parse_138 ww206 rfl (fun s32 => ?_)
      refine g_goto (t := 160) dX7_parse_141 (by decide) ?_
      refine g_aload_n (q := 161) 0 dX7_parse_160 rfl rfl rfl ?_
      refine g_getI (q := 164) fX7_fault dX7_parse_161 ww205 rfl ?_
      exact (g_iret dX7_parse_164)
noncomputable def pX10_read (σ : gS) : Option (Int32 × gS) := bn2 (pX7_parse σ) (fun v1 s2 => lt' (wI s2 1 1 (0 : Int32)) (fun s3 => if v1 = 0 then gT (s3.2.2 23 0) tR (fun rr4 => bn2 (pX7_exchange rr4 s3) (fun v5 s6 => lt' (wR s6 23 0 v5) (fun s7 => some (v1, s7)))) else some (v1, s3)))
set_option maxRecDepth 100000 in
theorem cn_X10_read {G : gG} {b : Nat}  {σ : gS} : CN vC G b 27 yX10_read cX10_read 2 (some .int) kI [.ref (b + 0)] σ (pX10_read σ) := by
  refine cn_of (own := RX10) rfl rfl (Nat.le_of_ble_eq_true rfl) ?_
  show GF vC G b (27, 0, 0) RX10 cX10_read 2 (some .int) kI 0 [(0, .ref (b + 0))] [] σ (pX10_read σ)
  unfold pX10_read
  refine g_aload_n (q := 1) 0 dX10_read_0 rfl rfl rfl ?_
  refine g_getA (q := 4) fX10_reader dX10_read_1 ww378 rfl ?_
  refine g_aload_n (q := 5) 0 dX10_read_4 rfl rfl rfl ?_
  refine g_getA (q := 8) fX10_tape dX10_read_5 ww377 rfl ?_
  refine g_callO (As := [.ref (b + 1)]) (st := []) (cn_X7_parse) shX7 rfl cwX10_68 rfl dX10_read_8 rfl (Nat.le_of_ble_eq_true rfl) (by decide) (kk_I (fun v1 s2 => ?_))
  refine g_istore_n (lr := [(0, .ref (b + 0))]) (q := 12) dX10_read_11 rfl (by decide) rfl rfl ?_
  refine g_aload_n (q := 13) 1 dX10_read_12 rfl rfl rfl ?_
  refine g_getA (q := 16) fX10_tape dX10_read_13 ww377 rfl ?_
  refine g_iconst (q := 17) dX10_read_16 kI_0 rfl ?_
  refine g_putI (q := 20) fX6_length pwX6_length okTX6 dX10_read_17 ww37 rfl (fun s3 => ?_)
  refine g_iload_n (q := 21) 0 dX10_read_20 rfl rfl rfl ?_
  refine g_if_ne (t := 45) (q := 24) dX10_read_21 (by decide) rfl ?_ ?_
  · refine g_aload_n (q := 25) 1 dX10_read_24 rfl rfl rfl ?_
    refine g_getA (q := 28) fX10_sky dX10_read_25 ww380 rfl ?_
    refine g_aload_n (q := 29) 1 dX10_read_28 rfl rfl rfl ?_
    refine g_getA (q := 32) fX10_reader dX10_read_29 ww378 rfl ?_
    refine g_aload_n (q := 33) 1 dX10_read_32 rfl rfl rfl ?_
    refine g_getA (q := 36) fX10_sky dX10_read_33 ww380 rfl ?_
    refine g_getR (cT := tR) (q := 39) fX4_told dX10_read_36 ww283 rfl (fun rr4 hrr4 => ?_)
    refine g_callO (As := [.ref (b + rr4)]) (st := [.ref (b + 23)]) (cn_X7_exchange hrr4) shX7 rfl cwX10_76 rfl dX10_read_39 rfl (Nat.le_of_ble_eq_true rfl) (by decide) (kk_A (fun v5 s6 => ?_))
    refine g_putR (q := 45) fX4_told pwX4_told okTX4 dX10_read_42 ww283 rfl (fun s7 => ?_)
    refine g_iload_n (q := 46) 0 dX10_read_45 rfl rfl rfl ?_
    exact (g_iret dX10_read_46)
  · refine g_iload_n (q := 46) 0 dX10_read_45 rfl rfl rfl ?_
    exact (g_iret dX10_read_46)
noncomputable def pX7_faultPlace (σ : gS) : Option (Int32) := some (σ.1 3 7)
set_option maxRecDepth 100000 in
theorem cn_X7_faultPlace {G : gG} {b : Nat}  {σ : gS} : CN vC G b 1 yX7_faultPlace cX7_faultPlace 1 (some .int) (kPI σ) [.ref (b + 3)] σ (pX7_faultPlace σ) := by
  refine cn_of (own := RX7) rfl rfl (Nat.le_of_ble_eq_true rfl) ?_
  show GF vC G b (1, 0, 0) RX7 cX7_faultPlace 1 (some .int) (kPI σ) 0 [(0, .ref (b + 3))] [] σ (pX7_faultPlace σ)
  unfold pX7_faultPlace
  refine g_aload_n (q := 1) 0 dX7_faultPlace_0 rfl rfl rfl ?_
  refine g_getI (q := 4) fX7_faultAt dX7_faultPlace_1 ww206 rfl ?_
  exact (g_iretP dX7_faultPlace_4)
noncomputable def pX10_place (σ : gS) : Option (Int32) := bn1 (pX7_faultPlace σ) (fun v1 => some (v1))
set_option maxRecDepth 100000 in
theorem cn_X10_place {G : gG} {b : Nat}  {σ : gS} : CN vC G b 2 yX10_place cX10_place 1 (some .int) (kPI σ) [.ref (b + 0)] σ (pX10_place σ) := by
  refine cn_of (own := RX10) rfl rfl (Nat.le_of_ble_eq_true rfl) ?_
  show GF vC G b (2, 0, 0) RX10 cX10_place 1 (some .int) (kPI σ) 0 [(0, .ref (b + 0))] [] σ (pX10_place σ)
  unfold pX10_place
  refine g_aload_n (q := 1) 0 dX10_place_0 rfl rfl rfl ?_
  refine g_getA (q := 4) fX10_reader dX10_place_1 ww378 rfl ?_
  refine g_callO (As := []) (st := []) (cn_X7_faultPlace) shX7 rfl cwX10_80 rfl dX10_place_4 rfl (Nat.le_of_ble_eq_true rfl) (by decide) (kk_PI (fun v1 => ?_))
  exact (g_iretP dX10_place_7)
noncomputable def pX2_setTrait (a1 : Int32) (a2 : Int32) (a3 : Int32) (σ : gS) : Option (gS) := bn1 (pX10_inRange a1 (0 : Int32) (19 : Int32)) (fun v1 => if v1 = 0 then some σ else bn1 (pX10_inRange a2 (0 : Int32) (11 : Int32)) (fun v3 => if v3 = 0 then some σ else gx ((a1 * (12 : Int32)) + a2) 240 (lt' (wI σ 22 ((a1 * (12 : Int32)) + a2).toNatClampNeg a3) (fun s5 => some s5))))
set_option maxRecDepth 100000 in
theorem cn_X2_setTrait {G : gG} {b : Nat} {a1 : Int32} {a2 : Int32} {a3 : Int32} {σ : gS} : CN vC G b 2 yX2_setTrait cX2_setTrait 4 none kV [.ref (b + 21), .int a1, .int a2, .int a3] σ (pX2_setTrait a1 a2 a3 σ) := by
  refine cn_of (own := RX2) rfl rfl (Nat.le_of_ble_eq_true rfl) ?_
  show GF vC G b (2, 0, 0) RX2 cX2_setTrait 4 none kV 0 [(0, .ref (b + 21)), (1, .int a1), (2, .int a2), (3, .int a3)] [] σ (pX2_setTrait a1 a2 a3 σ)
  unfold pX2_setTrait
  refine g_iload_n (q := 1) 1 dX2_setTrait_0 rfl rfl rfl ?_
  refine g_iconst (q := 2) dX2_setTrait_1 kI_0 rfl ?_
  refine g_bipush (q := 4) dX2_setTrait_2 kB_19 rfl ?_
  refine g_callN (As := [.int a1, .int (0 : Int32), .int (19 : Int32)]) (st := []) (cn_X10_inRange) cwX2_19 rfl dX2_setTrait_4 rfl (Nat.le_of_ble_eq_true rfl) (by decide) (kk_PI (fun v1 => ?_))
  refine g_if_eq (t := 32) (q := 10) dX2_setTrait_7 (by decide) rfl ?_ ?_
  · exact (g_vret dX2_setTrait_32)
  · refine g_iload_n (q := 11) 2 dX2_setTrait_10 rfl rfl rfl ?_
    refine g_iconst (q := 12) dX2_setTrait_11 kI_0 rfl ?_
    refine g_bipush (q := 14) dX2_setTrait_12 kB_11 rfl ?_
    refine g_callN (As := [.int a2, .int (0 : Int32), .int (11 : Int32)]) (st := []) (cn_X10_inRange) cwX2_19 rfl dX2_setTrait_14 rfl (Nat.le_of_ble_eq_true rfl) (by decide) (kk_PI (fun v3 => ?_))
    refine g_if_eq (t := 32) (q := 20) dX2_setTrait_17 (by decide) rfl ?_ ?_
    · exact (g_vret dX2_setTrait_32)
    · refine g_aload_n (q := 21) 0 dX2_setTrait_20 rfl rfl rfl ?_
      refine g_getA (q := 24) fX2_traits dX2_setTrait_21 ww248 rfl ?_
      refine g_iload_n (q := 25) 1 dX2_setTrait_24 rfl rfl rfl ?_
      refine g_bipush (q := 27) dX2_setTrait_25 kB_12 rfl ?_
      refine g_imul (q := 28) dX2_setTrait_27 rfl ?_
      refine g_iload_n (q := 29) 2 dX2_setTrait_28 rfl rfl rfl ?_
      refine g_iadd (q := 30) dX2_setTrait_29 rfl ?_
      refine g_iload_n (q := 31) 3 dX2_setTrait_30 rfl rfl rfl ?_
      refine g_iast (q := 32) (aX2_traits) dX2_setTrait_31 rfl (fun s5 => ?_)
      exact (g_vret dX2_setTrait_32)
noncomputable def pX2_setWays (a1 : Int32) (a2 : Int32) (σ : gS) : Option (gS) := bn1 (lpP (fun (z2 : (Int32 × Int32 × gS)) => if (8 : Int32) ≤ z2.1 then some (.inr z2.2.2) else g0 (10 : Int32) (bn1 (pX2_setTrait a1 ((4 : Int32) + z2.1) (z2.2.1 - z2.2.1 / (10 : Int32) * (10 : Int32)) z2.2.2) (fun s4 => g0 (10 : Int32) (lt' (z2.2.1 / (10 : Int32)) (fun x5 => lt' (z2.1 + (1 : Int32)) (fun x6 => some (.inl (x6, x5, s4)))))))) ((0 : Int32), a2, σ)) (fun (z1 : gS) => some z1)
set_option maxRecDepth 100000 in
theorem cn_X2_setWays {G : gG} {b : Nat} {a1 : Int32} {a2 : Int32} {σ : gS} : CN vC G b 3 yX2_setWays cX2_setWays 5 none kV [.ref (b + 21), .int a1, .int a2] σ (pX2_setWays a1 a2 σ) := by
  refine cn_of (own := RX2) rfl rfl (Nat.le_of_ble_eq_true rfl) ?_
  show GF vC G b (3, 0, 0) RX2 cX2_setWays 5 none kV 0 [(0, .ref (b + 21)), (1, .int a1), (2, .int a2)] [] σ (pX2_setWays a1 a2 σ)
  unfold pX2_setWays
  refine g_iload_n (q := 1) 2 dX2_setWays_0 rfl rfl rfl ?_
  refine g_istore_n (lr := [(0, .ref (b + 21)), (1, .int a1), (2, .int a2)]) (q := 2) dX2_setWays_1 rfl (by decide) rfl rfl ?_
  refine g_iconst (q := 3) dX2_setWays_2 kI_0 rfl ?_
  refine g_istore (lr := [(3, .int a2), (0, .ref (b + 21)), (1, .int a1), (2, .int a2)]) (q := 5) dX2_setWays_3 (by decide) rfl rfl ?_
  refine g_bind (S := gS) (hd := 36) (lvf := fun z1 => []) (stf := fun z1 => []) (σf := fun z1 => z1) ?_ (fun z1 => ?_)
  · refine g_sub (lr := [(4, .int (0 : Int32)), (3, .int a2), (0, .ref (b + 21)), (1, .int a1)]) [0, 1, 2, 3] rfl ?_
    refine g_loop (S := (Int32 × Int32 × gS)) (lvf := fun z2 => [(4, .int z2.1), (3, .int z2.2.1), (0, .ref (b + 21)), (1, .int a1)]) (σf := fun z2 => z2.2.2) (fun z2 => ?_) ((0 : Int32), a2, σ)
    refine g_iload (q := 7) 0 dX2_setWays_5 rfl rfl ?_
    refine g_bipush (q := 9) dX2_setWays_7 kB_8 rfl ?_
    refine g_icmp_ge (t := 36) (q := 12) dX2_setWays_9 (by decide) rfl ?_ ?_
    · refine g_sub (lr := []) [] rfl ?_
      exact (g_leave (g_there (z2.2.2 : gS)))
    · refine g_aload_n (q := 13) 2 dX2_setWays_12 rfl rfl rfl ?_
      refine g_iload_n (q := 14) 3 dX2_setWays_13 rfl rfl rfl ?_
      refine g_iconst (q := 15) dX2_setWays_14 kI_4 rfl ?_
      refine g_iload (q := 17) 0 dX2_setWays_15 rfl rfl ?_
      refine g_iadd (q := 18) dX2_setWays_17 rfl ?_
      refine g_iload_n (q := 19) 1 dX2_setWays_18 rfl rfl rfl ?_
      refine g_bipush (q := 21) dX2_setWays_19 kB_10 rfl ?_
      refine g_irem (q := 22) dX2_setWays_21 rfl ?_
      refine g_callO (As := [.int a1, .int ((4 : Int32) + z2.1), .int (z2.2.1 - z2.2.1 / (10 : Int32) * (10 : Int32))]) (st := []) (cn_X2_setTrait) shX2 rfl cwX2_23 rfl dX2_setWays_22 rfl (Nat.le_of_ble_eq_true rfl) (by decide) (kk_V (fun s4 => ?_))
      refine g_iload_n (q := 26) 1 dX2_setWays_25 rfl rfl rfl ?_
      refine g_bipush (q := 28) dX2_setWays_26 kB_10 rfl ?_
      refine g_idiv (q := 29) dX2_setWays_28 rfl ?_
      refine g_leti (fun x5 => ?_)
      refine g_istore_n (lr := [(4, .int z2.1), (0, .ref (b + 21)), (1, .int a1)]) (q := 30) dX2_setWays_29 rfl (by decide) rfl rfl ?_
      refine g_iinc (lr := [(3, .int x5), (0, .ref (b + 21)), (1, .int a1)]) (q := 33) 1 dX2_setWays_30 rfl kI_1 (by decide) rfl rfl (fun x6 => ?_)
      refine g_goto (t := 5) dX2_setWays_33 (by decide) ?_
      exact (g_again ((x6, x5, s4) : (Int32 × Int32 × gS)))
  · exact (g_vret dX2_setWays_36)
noncomputable def pX10_person (a1 : Int32) (a2 : Int32) (a3 : Int32) (a4 : Int32) (a5 : Int32) (σ : gS) : Option (Int32 × gS) := if (20 : Int32) ≤ (σ.1 21 1) then some ((-1 : Int32), σ) else if a5 < 0 then some ((-1 : Int32), σ) else if a5 ≤ (99999999 : Int32) then bn1 (pX10_inRange a1 (0 : Int32) (59 : Int32)) (fun v1 => if v1 = 0 then some ((-1 : Int32), σ) else bn1 (pX10_inRange a2 (0 : Int32) (11 : Int32)) (fun v3 => if v3 = 0 then some ((-1 : Int32), σ) else bn1 (pX10_inRange a3 (0 : Int32) (9 : Int32)) (fun v5 => if v5 = 0 then some ((-1 : Int32), σ) else bn1 (pX10_inRange a4 (0 : Int32) (3 : Int32)) (fun v7 => if v7 = 0 then some ((-1 : Int32), σ) else lt' (σ.1 21 1) (fun x9 => lt' (wI σ 21 1 ((σ.1 21 1) + (1 : Int32))) (fun s10 => bn1 (pX2_setTrait x9 (0 : Int32) a1 s10) (fun s12 => bn1 (pX2_setTrait x9 (1 : Int32) a2 s12) (fun s14 => bn1 (pX2_setTrait x9 (2 : Int32) a3 s14) (fun s16 => bn1 (pX2_setTrait x9 (3 : Int32) a4 s16) (fun s18 => bn1 (pX2_setWays x9 a5 s18) (fun s20 => some (x9, s20)))))))))))) else some ((-1 : Int32), σ)
set_option maxRecDepth 100000 in
theorem cn_X10_person {G : gG} {b : Nat} {a1 : Int32} {a2 : Int32} {a3 : Int32} {a4 : Int32} {a5 : Int32} {σ : gS} : CN vC G b 4 yX10_person cX10_person 7 (some .int) kI [.ref (b + 0), .int a1, .int a2, .int a3, .int a4, .int a5] σ (pX10_person a1 a2 a3 a4 a5 σ) := by
  refine cn_of (own := RX10) rfl rfl (Nat.le_of_ble_eq_true rfl) ?_
  show GF vC G b (4, 0, 0) RX10 cX10_person 7 (some .int) kI 0 [(0, .ref (b + 0)), (1, .int a1), (2, .int a2), (3, .int a3), (4, .int a4), (5, .int a5)] [] σ (pX10_person a1 a2 a3 a4 a5 σ)
  unfold pX10_person
  refine g_aload_n (q := 1) 0 dX10_person_0 rfl rfl rfl ?_
  refine g_getA (q := 4) fX10_people dX10_person_1 ww379 rfl ?_
  refine g_getI (q := 7) fX2_size dX10_person_4 ww251 rfl ?_
  refine g_bipush (q := 9) dX10_person_7 kB_20 rfl ?_
  refine g_icmp_ge (t := 24) (q := 12) dX10_person_9 (by decide) rfl ?_ ?_
  · refine g_iconst (q := 25) dX10_person_24 kI_m1 rfl ?_
    exact (g_iret dX10_person_25)
  · refine g_iload (q := 14) 5 dX10_person_12 rfl rfl ?_
    refine g_if_lt (t := 24) (q := 17) dX10_person_14 (by decide) rfl ?_ ?_
    · refine g_iconst (q := 25) dX10_person_24 kI_m1 rfl ?_
      exact (g_iret dX10_person_25)
    · refine g_iload (q := 19) 5 dX10_person_17 rfl rfl ?_
      refine g_ldc (q := 21) dX10_person_19 ww579 rfl ?_
      refine g_icmp_le (t := 26) (q := 24) dX10_person_21 (by decide) rfl ?_ ?_
      · refine g_iload_n (q := 27) 1 dX10_person_26 rfl rfl rfl ?_
        refine g_iconst (q := 28) dX10_person_27 kI_0 rfl ?_
        refine g_bipush (q := 30) dX10_person_28 kB_59 rfl ?_
        refine g_callT (As := [.int a1, .int (0 : Int32), .int (59 : Int32)]) (st := []) (cn_X10_inRange) cwX10_88 rfl dX10_person_30 rfl (Nat.le_of_ble_eq_true rfl) (by decide) (kk_PI (fun v1 => ?_))
        refine g_if_eq (t := 66) (q := 36) dX10_person_33 (by decide) rfl ?_ ?_
        · refine g_iconst (q := 67) dX10_person_66 kI_m1 rfl ?_
          exact (g_iret dX10_person_67)
        · refine g_iload_n (q := 37) 2 dX10_person_36 rfl rfl rfl ?_
          refine g_iconst (q := 38) dX10_person_37 kI_0 rfl ?_
          refine g_bipush (q := 40) dX10_person_38 kB_11 rfl ?_
          refine g_callT (As := [.int a2, .int (0 : Int32), .int (11 : Int32)]) (st := []) (cn_X10_inRange) cwX10_88 rfl dX10_person_40 rfl (Nat.le_of_ble_eq_true rfl) (by decide) (kk_PI (fun v3 => ?_))
          refine g_if_eq (t := 66) (q := 46) dX10_person_43 (by decide) rfl ?_ ?_
          · refine g_iconst (q := 67) dX10_person_66 kI_m1 rfl ?_
            exact (g_iret dX10_person_67)
          · refine g_iload_n (q := 47) 3 dX10_person_46 rfl rfl rfl ?_
            refine g_iconst (q := 48) dX10_person_47 kI_0 rfl ?_
            refine g_bipush (q := 50) dX10_person_48 kB_9 rfl ?_
            refine g_callT (As := [.int a3, .int (0 : Int32), .int (9 : Int32)]) (st := []) (cn_X10_inRange) cwX10_88 rfl dX10_person_50 rfl (Nat.le_of_ble_eq_true rfl) (by decide) (kk_PI (fun v5 => ?_))
            refine g_if_eq (t := 66) (q := 56) dX10_person_53 (by decide) rfl ?_ ?_
            · refine g_iconst (q := 67) dX10_person_66 kI_m1 rfl ?_
              exact (g_iret dX10_person_67)
            · refine g_iload (q := 58) 4 dX10_person_56 rfl rfl ?_
              refine g_iconst (q := 59) dX10_person_58 kI_0 rfl ?_
              refine g_iconst (q := 60) dX10_person_59 kI_3 rfl ?_
              refine g_callT (As := [.int a4, .int (0 : Int32), .int (3 : Int32)]) (st := []) (cn_X10_inRange) cwX10_88 rfl dX10_person_60 rfl (Nat.le_of_ble_eq_true rfl) (by decide) (kk_PI (fun v7 => ?_))
              refine g_if_ne (t := 68) (q := 66) dX10_person_63 (by decide) rfl ?_ ?_
              · refine g_iconst (q := 67) dX10_person_66 kI_m1 rfl ?_
                exact (g_iret dX10_person_67)
              · refine g_aload_n (q := 69) 0 dX10_person_68 rfl rfl rfl ?_
                refine g_getA (q := 72) fX10_people dX10_person_69 ww379 rfl ?_
                refine g_getI (q := 75) fX2_size dX10_person_72 ww251 rfl ?_
                refine g_leti (fun x9 => ?_)
                refine g_istore (lr := [(0, .ref (b + 0)), (1, .int a1), (2, .int a2), (3, .int a3), (4, .int a4), (5, .int a5)]) (q := 77) dX10_person_75 (by decide) rfl rfl ?_
                refine g_aload_n (q := 78) 1 dX10_person_77 rfl rfl rfl ?_
                refine g_getA (q := 81) fX10_people dX10_person_78 ww379 rfl ?_
                refine g_dup (q := 82) dX10_person_81 rfl rfl ?_
                refine g_getI (q := 85) fX2_size dX10_person_82 ww251 rfl ?_
                refine g_iconst (q := 86) dX10_person_85 kI_1 rfl ?_
                refine g_iadd (q := 87) dX10_person_86 rfl ?_
                refine g_putI (q := 90) fX2_size pwX2_size okTX2 dX10_person_87 ww251 rfl (fun s10 => ?_)
                refine g_aload_n (q := 91) 1 dX10_person_90 rfl rfl rfl ?_
                refine g_getA (q := 94) fX10_people dX10_person_91 ww379 rfl ?_
                refine g_iload (q := 96) 0 dX10_person_94 rfl rfl ?_
                refine g_iconst (q := 97) dX10_person_96 kI_0 rfl ?_
                refine g_iload_n (q := 98) 2 dX10_person_97 rfl rfl rfl ?_
                refine g_callO (As := [.int x9, .int (0 : Int32), .int a1]) (st := []) (cn_X2_setTrait) shX2 rfl cwX10_92 rfl dX10_person_98 rfl (Nat.le_of_ble_eq_true rfl) (by decide) (kk_V (fun s12 => ?_))
                refine g_aload_n (q := 102) 1 dX10_person_101 rfl rfl rfl ?_
                refine g_getA (q := 105) fX10_people dX10_person_102 ww379 rfl ?_
                refine g_iload (q := 107) 0 dX10_person_105 rfl rfl ?_
                refine g_iconst (q := 108) dX10_person_107 kI_1 rfl ?_
                refine g_iload_n (q := 109) 3 dX10_person_108 rfl rfl rfl ?_
                refine g_callO (As := [.int x9, .int (1 : Int32), .int a2]) (st := []) (cn_X2_setTrait) shX2 rfl cwX10_92 rfl dX10_person_109 rfl (Nat.le_of_ble_eq_true rfl) (by decide) (kk_V (fun s14 => ?_))
                refine g_aload_n (q := 113) 1 dX10_person_112 rfl rfl rfl ?_
                refine g_getA (q := 116) fX10_people dX10_person_113 ww379 rfl ?_
                refine g_iload (q := 118) 0 dX10_person_116 rfl rfl ?_
                refine g_iconst (q := 119) dX10_person_118 kI_2 rfl ?_
                refine g_iload_n (q := 120) 4 dX10_person_119 rfl rfl rfl ?_
                refine g_callO (As := [.int x9, .int (2 : Int32), .int a3]) (st := []) (cn_X2_setTrait) shX2 rfl cwX10_92 rfl dX10_person_120 rfl (Nat.le_of_ble_eq_true rfl) (by decide) (kk_V (fun s16 => ?_))
                refine g_aload_n (q := 124) 1 dX10_person_123 rfl rfl rfl ?_
                refine g_getA (q := 127) fX10_people dX10_person_124 ww379 rfl ?_
                refine g_iload (q := 129) 0 dX10_person_127 rfl rfl ?_
                refine g_iconst (q := 130) dX10_person_129 kI_3 rfl ?_
                refine g_iload (q := 132) 5 dX10_person_130 rfl rfl ?_
                refine g_callO (As := [.int x9, .int (3 : Int32), .int a4]) (st := []) (cn_X2_setTrait) shX2 rfl cwX10_92 rfl dX10_person_132 rfl (Nat.le_of_ble_eq_true rfl) (by decide) (kk_V (fun s18 => ?_))
                refine g_aload_n (q := 136) 1 dX10_person_135 rfl rfl rfl ?_
                refine g_getA (q := 139) fX10_people dX10_person_136 ww379 rfl ?_
                refine g_iload (q := 141) 0 dX10_person_139 rfl rfl ?_
                refine g_iload (q := 143) 6 dX10_person_141 rfl rfl ?_
                refine g_callO (As := [.int x9, .int a5]) (st := []) (cn_X2_setWays) shX2 rfl cwX10_96 rfl dX10_person_143 rfl (Nat.le_of_ble_eq_true rfl) (by decide) (kk_V (fun s20 => ?_))
                refine g_iload (q := 148) 0 dX10_person_146 rfl rfl ?_
                exact (g_iret dX10_person_148)
      · refine g_iconst (q := 25) dX10_person_24 kI_m1 rfl ?_
        exact (g_iret dX10_person_25)
noncomputable def pX2_mix (a1 : Int32) (a2 : Int32) : Option (Int32) := lt' (((a1 ^^^ a2) * (1103515245 : Int32)) + (12345 : Int32)) (fun x1 => some (x1 ^^^ (ushrI x1 (15 : Int32))))
set_option maxRecDepth 100000 in
theorem cn_X2_mix {G : gG} {b : Nat} {V : gV} {a1 : Int32} {a2 : Int32} {σ : gS} : CN V G b 1 yX2_mix cX2_mix 3 (some .int) (kPI σ) [.int a1, .int a2] σ (pX2_mix a1 a2) := by
  refine cn_of (own := RX2) rfl rfl (Nat.le_of_ble_eq_true rfl) ?_
  show GF V G b (1, 0, 0) RX2 cX2_mix 3 (some .int) (kPI σ) 0 [(0, .int a1), (1, .int a2)] [] σ (pX2_mix a1 a2)
  unfold pX2_mix
  refine g_iload_n (q := 1) 0 dX2_mix_0 rfl rfl rfl ?_
  refine g_iload_n (q := 2) 1 dX2_mix_1 rfl rfl rfl ?_
  refine g_ixor (q := 3) dX2_mix_2 rfl ?_
  refine g_ldc (q := 5) dX2_mix_3 ww607 rfl ?_
  refine g_imul (q := 6) dX2_mix_5 rfl ?_
  refine g_sipush (q := 9) dX2_mix_6 kS_12345 rfl ?_
  refine g_iadd (q := 10) dX2_mix_9 rfl ?_
  refine g_leti (fun x1 => ?_)
  refine g_istore_n (lr := [(0, .int a1), (1, .int a2)]) (q := 11) dX2_mix_10 rfl (by decide) rfl rfl ?_
  refine g_iload_n (q := 12) 0 dX2_mix_11 rfl rfl rfl ?_
  refine g_iload_n (q := 13) 0 dX2_mix_12 rfl rfl rfl ?_
  refine g_bipush (q := 15) dX2_mix_13 kB_15 rfl ?_
  refine g_iushr (q := 16) dX2_mix_15 rfl ?_
  refine g_ixor (q := 17) dX2_mix_16 rfl ?_
  exact (g_iretP dX2_mix_17)
noncomputable def pX2_lot (a1 : Int32) (a2 : Int32) (a3 : Int32) : Option (Int32) := if (1 : Int32) ≤ a1 then bn1 (pX2_mix a2 (7 : Int32)) (fun v1 => bn1 (pX2_mix v1 a3) (fun v3 => g0 a1 (some ((ushrI v3 (1 : Int32)) - (ushrI v3 (1 : Int32)) / a1 * a1)))) else some ((0 : Int32))
set_option maxRecDepth 100000 in
theorem cn_X2_lot {G : gG} {b : Nat} {V : gV} {a1 : Int32} {a2 : Int32} {a3 : Int32} {σ : gS} : CN V G b 2 yX2_lot cX2_lot 4 (some .int) (kPI σ) [.int a1, .int a2, .int a3] σ (pX2_lot a1 a2 a3) := by
  refine cn_of (own := RX2) rfl rfl (Nat.le_of_ble_eq_true rfl) ?_
  show GF V G b (2, 0, 0) RX2 cX2_lot 4 (some .int) (kPI σ) 0 [(0, .int a1), (1, .int a2), (2, .int a3)] [] σ (pX2_lot a1 a2 a3)
  unfold pX2_lot
  refine g_iload_n (q := 1) 0 dX2_lot_0 rfl rfl rfl ?_
  refine g_iconst (q := 2) dX2_lot_1 kI_1 rfl ?_
  refine g_icmp_ge (t := 7) (q := 5) dX2_lot_2 (by decide) rfl ?_ ?_
  · refine g_iload_n (q := 8) 1 dX2_lot_7 rfl rfl rfl ?_
    refine g_bipush (q := 10) dX2_lot_8 kB_7 rfl ?_
    refine g_callT (As := [.int a2, .int (7 : Int32)]) (st := []) (cn_X2_mix) cwX2_41 rfl dX2_lot_10 rfl (Nat.le_of_ble_eq_true rfl) (by decide) (kk_PI (fun v1 => ?_))
    refine g_iload_n (q := 14) 2 dX2_lot_13 rfl rfl rfl ?_
    refine g_callT (As := [.int v1, .int a3]) (st := []) (cn_X2_mix) cwX2_41 rfl dX2_lot_14 rfl (Nat.le_of_ble_eq_true rfl) (by decide) (kk_PI (fun v3 => ?_))
    refine g_istore_n (lr := [(0, .int a1), (1, .int a2), (2, .int a3)]) (q := 18) dX2_lot_17 rfl (by decide) rfl rfl ?_
    refine g_iload_n (q := 19) 0 dX2_lot_18 rfl rfl rfl ?_
    refine g_iconst (q := 20) dX2_lot_19 kI_1 rfl ?_
    refine g_iushr (q := 21) dX2_lot_20 rfl ?_
    refine g_iload_n (q := 22) 1 dX2_lot_21 rfl rfl rfl ?_
    refine g_irem (q := 23) dX2_lot_22 rfl ?_
    exact (g_iretP dX2_lot_23)
  · refine g_iconst (q := 6) dX2_lot_5 kI_0 rfl ?_
    exact (g_iretP dX2_lot_6)
noncomputable def pX2_draw (a1 : Int32) (a2 : Int32) (σ : gS) : Option (gS) := bn1 (lpP (fun (z2 : (Int32 × gS)) => if (12 : Int32) ≤ z2.1 then some (.inr z2.2) else gx z2.1 12 (bn1 (pX2_lot (gTS z2.1.toNatClampNeg) a2 (((20 : Int32) * a1) + z2.1)) (fun v3 => bn1 (pX2_setTrait a1 z2.1 v3 z2.2) (fun s6 => lt' (z2.1 + (1 : Int32)) (fun x7 => some (.inl (x7, s6))))))) ((0 : Int32), σ)) (fun (z1 : gS) => some z1)
set_option maxRecDepth 100000 in
theorem cn_X2_draw {G : gG} {b : Nat} {a1 : Int32} {a2 : Int32} {σ : gS} : CN vC G b 3 yX2_draw cX2_draw 4 none kV [.ref (b + 21), .int a1, .int a2] σ (pX2_draw a1 a2 σ) := by
  refine cn_of (own := RX2) rfl rfl (Nat.le_of_ble_eq_true rfl) ?_
  show GF vC G b (3, 0, 0) RX2 cX2_draw 4 none kV 0 [(0, .ref (b + 21)), (1, .int a1), (2, .int a2)] [] σ (pX2_draw a1 a2 σ)
  unfold pX2_draw
  refine g_iconst (q := 1) dX2_draw_0 kI_0 rfl ?_
  refine g_istore_n (lr := [(0, .ref (b + 21)), (1, .int a1), (2, .int a2)]) (q := 2) dX2_draw_1 rfl (by decide) rfl rfl ?_
  refine g_bind (S := gS) (hd := 35) (lvf := fun z1 => []) (stf := fun z1 => []) (σf := fun z1 => z1) ?_ (fun z1 => ?_)
  · refine g_loop (S := (Int32 × gS)) (lvf := fun z2 => [(3, .int z2.1), (0, .ref (b + 21)), (1, .int a1), (2, .int a2)]) (σf := fun z2 => z2.2) (fun z2 => ?_) ((0 : Int32), σ)
    refine g_iload_n (q := 3) 0 dX2_draw_2 rfl rfl rfl ?_
    refine g_bipush (q := 5) dX2_draw_3 kB_12 rfl ?_
    refine g_icmp_ge (t := 35) (q := 8) dX2_draw_5 (by decide) rfl ?_ ?_
    · refine g_sub (lr := []) [] rfl ?_
      exact (g_leave (g_there (z2.2 : gS)))
    · refine g_aload_n (q := 9) 1 dX2_draw_8 rfl rfl rfl ?_
      refine g_iload_n (q := 10) 2 dX2_draw_9 rfl rfl rfl ?_
      refine g_iload_n (q := 11) 0 dX2_draw_10 rfl rfl rfl ?_
      refine g_ts (host := "SkyTrial") (q := 14) dX2_draw_11 (nest_in 599 rfl rfl) rfl ?_
      refine g_iload_n (q := 15) 0 dX2_draw_14 rfl rfl rfl ?_
      refine g_tald (q := 16) dX2_draw_15 rfl ?_
      refine g_iload_n (q := 17) 3 dX2_draw_16 rfl rfl rfl ?_
      refine g_bipush (q := 19) dX2_draw_17 kB_20 rfl ?_
      refine g_iload_n (q := 20) 2 dX2_draw_19 rfl rfl rfl ?_
      refine g_imul (q := 21) dX2_draw_20 rfl ?_
      refine g_iload_n (q := 22) 0 dX2_draw_21 rfl rfl rfl ?_
      refine g_iadd (q := 23) dX2_draw_22 rfl ?_
      refine g_callT (As := [.int (gTS z2.1.toNatClampNeg), .int a2, .int (((20 : Int32) * a1) + z2.1)]) (st := [.int z2.1, .int a1, .ref (b + 21)]) (cn_X2_lot) cwX2_30 rfl dX2_draw_23 rfl (Nat.le_of_ble_eq_true rfl) (by decide) (kk_PI (fun v3 => ?_))
      refine g_callO (As := [.int a1, .int z2.1, .int v3]) (st := []) (cn_X2_setTrait) shX2 rfl cwX2_23 rfl dX2_draw_26 rfl (Nat.le_of_ble_eq_true rfl) (by decide) (kk_V (fun s6 => ?_))
      refine g_iinc (lr := [(0, .ref (b + 21)), (1, .int a1), (2, .int a2)]) (q := 32) 0 dX2_draw_29 rfl kI_1 (by decide) rfl rfl (fun x7 => ?_)
      refine g_goto (t := 2) dX2_draw_32 (by decide) ?_
      exact (g_again ((x7, s6) : (Int32 × gS)))
  · exact (g_vret dX2_draw_35)
noncomputable def pX3_pop (σ : gS) : Option (Int32 × gS) := if 0 < (σ.1 33 2) then lt' (wI σ 33 2 ((σ.1 33 2) - (1 : Int32))) (fun s1 => gx (s1.1 33 2) 40 (some (s1.1 35 (s1.1 33 2).toNatClampNeg, s1))) else some ((0 : Int32), σ)
set_option maxRecDepth 100000 in
theorem cn_X3_pop {G : gG} {b : Nat}  {σ : gS} : CN vC G b 1 yX3_pop cX3_pop 1 (some .int) kI [.ref (b + 33)] σ (pX3_pop σ) := by
  refine cn_of (own := RX3) rfl rfl (Nat.le_of_ble_eq_true rfl) ?_
  show GF vC G b (1, 0, 0) RX3 cX3_pop 1 (some .int) kI 0 [(0, .ref (b + 33))] [] σ (pX3_pop σ)
  unfold pX3_pop
  refine g_aload_n (q := 1) 0 dX3_pop_0 rfl rfl rfl ?_
  refine g_getI (q := 4) fX3_top dX3_pop_1 ww274 rfl ?_
  refine g_if_gt (t := 9) (q := 7) dX3_pop_4 (by decide) rfl ?_ ?_
  · refine g_aload_n (q := 10) 0 dX3_pop_9 rfl rfl rfl ?_
    refine g_dup (q := 11) dX3_pop_10 rfl rfl ?_
    refine g_getI (q := 14) fX3_top dX3_pop_11 ww274 rfl ?_
    refine g_iconst (q := 15) dX3_pop_14 kI_1 rfl ?_
    refine g_isub (q := 16) dX3_pop_15 rfl ?_
    refine g_putI (q := 19) fX3_top pwX3_top okTX3 dX3_pop_16 ww274 rfl (fun s1 => ?_)
    refine g_aload_n (q := 20) 0 dX3_pop_19 rfl rfl rfl ?_
    refine g_getA (q := 23) fX3_stack dX3_pop_20 ww273 rfl ?_
    refine g_aload_n (q := 24) 0 dX3_pop_23 rfl rfl rfl ?_
    refine g_getI (q := 27) fX3_top dX3_pop_24 ww274 rfl ?_
    refine g_iald (q := 28) (aX3_stack) dX3_pop_27 rfl ?_
    exact (g_iret dX3_pop_28)
  · refine g_iconst (q := 8) dX3_pop_7 kI_0 rfl ?_
    exact (g_iret dX3_pop_8)
noncomputable def pX3_joined (a1 : Int32) (a2 : Int32) (a3 : Int32) : Option (Int32) := if a1 = (6 : Int32) then some (a2 ||| a3) else if a1 = (7 : Int32) then some (a2 &&& a3) else if a1 = (27 : Int32) then some (a2 + a3) else if a1 = (28 : Int32) then some (a2 - a3) else if a1 = (29 : Int32) then some (a2 * a3) else if a1 = (30 : Int32) then if a2 = a3 then some ((1 : Int32)) else some ((0 : Int32)) else if a1 = (31 : Int32) then if a2 = a3 then some ((0 : Int32)) else some ((1 : Int32)) else if a1 = (32 : Int32) then if a3 ≤ a2 then some ((0 : Int32)) else some ((1 : Int32)) else if a1 = (33 : Int32) then if a3 < a2 then some ((0 : Int32)) else some ((1 : Int32)) else some ((0 : Int32))
set_option maxRecDepth 100000 in
theorem cn_X3_joined {G : gG} {b : Nat} {V : gV} {a1 : Int32} {a2 : Int32} {a3 : Int32} {σ : gS} : CN V G b 1 yX3_joined cX3_joined 3 (some .int) (kPI σ) [.int a1, .int a2, .int a3] σ (pX3_joined a1 a2 a3) := by
  refine cn_of (own := RX3) rfl rfl (Nat.le_of_ble_eq_true rfl) ?_
  show GF V G b (1, 0, 0) RX3 cX3_joined 3 (some .int) (kPI σ) 0 [(0, .int a1), (1, .int a2), (2, .int a3)] [] σ (pX3_joined a1 a2 a3)
  unfold pX3_joined
  refine g_iload_n (q := 1) 0 dX3_joined_0 rfl rfl rfl ?_
  refine g_case (t := 188) (off := 187) (6 : Int32) dX3_joined_1 (by decide +kernel) (by decide) ?_ (fun h1 => ?_)
  · refine g_iload_n (q := 189) 1 dX3_joined_188 rfl rfl rfl ?_
    refine g_iload_n (q := 190) 2 dX3_joined_189 rfl rfl rfl ?_
    refine g_ior (q := 191) dX3_joined_190 rfl ?_
    exact (g_iretP dX3_joined_191)
  refine g_case (t := 184) (off := 183) (7 : Int32) dX3_joined_1 (by decide +kernel) (by decide) ?_ (fun h2 => ?_)
  · refine g_iload_n (q := 185) 1 dX3_joined_184 rfl rfl rfl ?_
    refine g_iload_n (q := 186) 2 dX3_joined_185 rfl rfl rfl ?_
    refine g_iand (q := 187) dX3_joined_186 rfl ?_
    exact (g_iretP dX3_joined_187)
  refine g_case (t := 128) (off := 127) (27 : Int32) dX3_joined_1 (by decide +kernel) (by decide) ?_ (fun h3 => ?_)
  · refine g_iload_n (q := 129) 1 dX3_joined_128 rfl rfl rfl ?_
    refine g_iload_n (q := 130) 2 dX3_joined_129 rfl rfl rfl ?_
    refine g_iadd (q := 131) dX3_joined_130 rfl ?_
    exact (g_iretP dX3_joined_131)
  refine g_case (t := 132) (off := 131) (28 : Int32) dX3_joined_1 (by decide +kernel) (by decide) ?_ (fun h4 => ?_)
  · refine g_iload_n (q := 133) 1 dX3_joined_132 rfl rfl rfl ?_
    refine g_iload_n (q := 134) 2 dX3_joined_133 rfl rfl rfl ?_
    refine g_isub (q := 135) dX3_joined_134 rfl ?_
    exact (g_iretP dX3_joined_135)
  refine g_case (t := 136) (off := 135) (29 : Int32) dX3_joined_1 (by decide +kernel) (by decide) ?_ (fun h5 => ?_)
  · refine g_iload_n (q := 137) 1 dX3_joined_136 rfl rfl rfl ?_
    refine g_iload_n (q := 138) 2 dX3_joined_137 rfl rfl rfl ?_
    refine g_imul (q := 139) dX3_joined_138 rfl ?_
    exact (g_iretP dX3_joined_139)
  refine g_case (t := 140) (off := 139) (30 : Int32) dX3_joined_1 (by decide +kernel) (by decide) ?_ (fun h6 => ?_)
  · refine g_iload_n (q := 141) 1 dX3_joined_140 rfl rfl rfl ?_
    refine g_iload_n (q := 142) 2 dX3_joined_141 rfl rfl rfl ?_
    refine g_icmp_ne (t := 149) (q := 145) dX3_joined_142 (by decide) rfl ?_ ?_
    · refine g_iconst (q := 146) dX3_joined_145 kI_1 rfl ?_
      refine g_goto (t := 150) dX3_joined_146 (by decide) ?_
      exact (g_iretP dX3_joined_150)
    · refine g_iconst (q := 150) dX3_joined_149 kI_0 rfl ?_
      exact (g_iretP dX3_joined_150)
  refine g_case (t := 151) (off := 150) (31 : Int32) dX3_joined_1 (by decide +kernel) (by decide) ?_ (fun h7 => ?_)
  · refine g_iload_n (q := 152) 1 dX3_joined_151 rfl rfl rfl ?_
    refine g_iload_n (q := 153) 2 dX3_joined_152 rfl rfl rfl ?_
    refine g_icmp_eq (t := 160) (q := 156) dX3_joined_153 (by decide) rfl ?_ ?_
    · refine g_iconst (q := 161) dX3_joined_160 kI_0 rfl ?_
      exact (g_iretP dX3_joined_161)
    · refine g_iconst (q := 157) dX3_joined_156 kI_1 rfl ?_
      refine g_goto (t := 161) dX3_joined_157 (by decide) ?_
      exact (g_iretP dX3_joined_161)
  refine g_case (t := 162) (off := 161) (32 : Int32) dX3_joined_1 (by decide +kernel) (by decide) ?_ (fun h8 => ?_)
  · refine g_iload_n (q := 163) 1 dX3_joined_162 rfl rfl rfl ?_
    refine g_iload_n (q := 164) 2 dX3_joined_163 rfl rfl rfl ?_
    refine g_icmp_ge (t := 171) (q := 167) dX3_joined_164 (by decide) rfl ?_ ?_
    · refine g_iconst (q := 172) dX3_joined_171 kI_0 rfl ?_
      exact (g_iretP dX3_joined_172)
    · refine g_iconst (q := 168) dX3_joined_167 kI_1 rfl ?_
      refine g_goto (t := 172) dX3_joined_168 (by decide) ?_
      exact (g_iretP dX3_joined_172)
  refine g_case (t := 173) (off := 172) (33 : Int32) dX3_joined_1 (by decide +kernel) (by decide) ?_ (fun h9 => ?_)
  · refine g_iload_n (q := 174) 1 dX3_joined_173 rfl rfl rfl ?_
    refine g_iload_n (q := 175) 2 dX3_joined_174 rfl rfl rfl ?_
    refine g_icmp_gt (t := 182) (q := 178) dX3_joined_175 (by decide) rfl ?_ ?_
    · refine g_iconst (q := 183) dX3_joined_182 kI_0 rfl ?_
      exact (g_iretP dX3_joined_183)
    · refine g_iconst (q := 179) dX3_joined_178 kI_1 rfl ?_
      refine g_goto (t := 183) dX3_joined_179 (by decide) ?_
      exact (g_iretP dX3_joined_183)
  refine g_dflt (t := 192) [(6 : Int32), (7 : Int32), (27 : Int32), (28 : Int32), (29 : Int32), (30 : Int32), (31 : Int32), (32 : Int32), (33 : Int32)] dX3_joined_1 (by decide +kernel) (fun v hv => by simp only [List.mem_cons, List.not_mem_nil, or_false] at hv; rcases hv with rfl | rfl | rfl | rfl | rfl | rfl | rfl | rfl | rfl <;> assumption) (by decide) ?_
  refine g_iconst (q := 193) dX3_joined_192 kI_0 rfl ?_
  exact (g_iretP dX3_joined_193)
noncomputable def pX3_push (a1 : Int32) (σ : gS) : Option (gS) := if (40 : Int32) ≤ (σ.1 33 2) then some σ else gx (σ.1 33 2) 40 (lt' (wI σ 35 (σ.1 33 2).toNatClampNeg a1) (fun s1 => lt' (wI s1 33 2 ((s1.1 33 2) + (1 : Int32))) (fun s2 => some s2)))
set_option maxRecDepth 100000 in
theorem cn_X3_push {G : gG} {b : Nat} {a1 : Int32} {σ : gS} : CN vC G b 1 yX3_push cX3_push 2 none kV [.ref (b + 33), .int a1] σ (pX3_push a1 σ) := by
  refine cn_of (own := RX3) rfl rfl (Nat.le_of_ble_eq_true rfl) ?_
  show GF vC G b (1, 0, 0) RX3 cX3_push 2 none kV 0 [(0, .ref (b + 33)), (1, .int a1)] [] σ (pX3_push a1 σ)
  unfold pX3_push
  refine g_aload_n (q := 1) 0 dX3_push_0 rfl rfl rfl ?_
  refine g_getI (q := 4) fX3_top dX3_push_1 ww274 rfl ?_
  refine g_bipush (q := 6) dX3_push_4 kB_40 rfl ?_
  refine g_icmp_ge (t := 29) (q := 9) dX3_push_6 (by decide) rfl ?_ ?_
  · exact (g_vret dX3_push_29)
  · refine g_aload_n (q := 10) 0 dX3_push_9 rfl rfl rfl ?_
    refine g_getA (q := 13) fX3_stack dX3_push_10 ww273 rfl ?_
    refine g_aload_n (q := 14) 0 dX3_push_13 rfl rfl rfl ?_
    refine g_getI (q := 17) fX3_top dX3_push_14 ww274 rfl ?_
    refine g_iload_n (q := 18) 1 dX3_push_17 rfl rfl rfl ?_
    refine g_iast (q := 19) (aX3_stack) dX3_push_18 rfl (fun s1 => ?_)
    refine g_aload_n (q := 20) 0 dX3_push_19 rfl rfl rfl ?_
    refine g_dup (q := 21) dX3_push_20 rfl rfl ?_
    refine g_getI (q := 24) fX3_top dX3_push_21 ww274 rfl ?_
    refine g_iconst (q := 25) dX3_push_24 kI_1 rfl ?_
    refine g_iadd (q := 26) dX3_push_25 rfl ?_
    refine g_putI (q := 29) fX3_top pwX3_top okTX3 dX3_push_26 ww274 rfl (fun s2 => ?_)
    exact (g_vret dX3_push_29)
noncomputable def pX3_step (a1 : Int32) (a2 : Int32) (σ : gS) : Option (gS) := if a1 = (24 : Int32) then bn1 (pX3_push a2 σ) (fun s2 => some s2) else if a1 = (9 : Int32) then bn1 (pX10_inRange a2 (0 : Int32) (20 : Int32)) (fun v3 => if v3 = 0 then bn1 (pX3_push (0 : Int32) σ) (fun s6 => some s6) else gx a2 21 (bn1 (pX3_push (σ.1 34 a2.toNatClampNeg) σ) (fun s8 => some s8))) else if a1 = (8 : Int32) then bn2 (pX3_pop σ) (fun v9 s10 => bn1 (pX3_push ((1 : Int32) - v9) s10) (fun s12 => some s12)) else bn2 (pX3_pop σ) (fun v13 s14 => bn2 (pX3_pop s14) (fun v15 s16 => bn1 (pX3_joined a1 v15 v13) (fun v17 => bn1 (pX3_push v17 s16) (fun s20 => some s20))))
set_option maxRecDepth 100000 in
theorem cn_X3_step {G : gG} {b : Nat} {a1 : Int32} {a2 : Int32} {σ : gS} : CN vC G b 2 yX3_step cX3_step 5 none kV [.ref (b + 33), .int a1, .int a2] σ (pX3_step a1 a2 σ) := by
  refine cn_of (own := RX3) rfl rfl (Nat.le_of_ble_eq_true rfl) ?_
  show GF vC G b (2, 0, 0) RX3 cX3_step 5 none kV 0 [(0, .ref (b + 33)), (1, .int a1), (2, .int a2)] [] σ (pX3_step a1 a2 σ)
  unfold pX3_step
  refine g_iload_n (q := 1) 1 dX3_step_0 rfl rfl rfl ?_
  refine g_bipush (q := 3) dX3_step_1 kB_24 rfl ?_
  refine g_icmp_ne (t := 14) (q := 6) dX3_step_3 (by decide) rfl ?_ ?_
  · refine g_aload_n (q := 7) 0 dX3_step_6 rfl rfl rfl ?_
    refine g_iload_n (q := 8) 2 dX3_step_7 rfl rfl rfl ?_
    refine g_callO (As := [.int a2]) (st := []) (cn_X3_push) shX3 rfl cwX3_60 rfl dX3_step_8 rfl (Nat.le_of_ble_eq_true rfl) (by decide) (kk_V (fun s2 => ?_))
    refine g_goto (t := 88) dX3_step_11 (by decide) ?_
    exact (g_vret dX3_step_88)
  · refine g_iload_n (q := 15) 1 dX3_step_14 rfl rfl rfl ?_
    refine g_bipush (q := 17) dX3_step_15 kB_9 rfl ?_
    refine g_icmp_ne (t := 47) (q := 20) dX3_step_17 (by decide) rfl ?_ ?_
    · refine g_aload_n (q := 21) 0 dX3_step_20 rfl rfl rfl ?_
      refine g_iload_n (q := 22) 2 dX3_step_21 rfl rfl rfl ?_
      refine g_iconst (q := 23) dX3_step_22 kI_0 rfl ?_
      refine g_bipush (q := 25) dX3_step_23 kB_20 rfl ?_
      refine g_callN (As := [.int a2, .int (0 : Int32), .int (20 : Int32)]) (st := [.ref (b + 33)]) (cn_X10_inRange) cwX3_24 rfl dX3_step_25 rfl (Nat.le_of_ble_eq_true rfl) (by decide) (kk_PI (fun v3 => ?_))
      refine g_if_eq (t := 40) (q := 31) dX3_step_28 (by decide) rfl ?_ ?_
      · refine g_iconst (q := 41) dX3_step_40 kI_0 rfl ?_
        refine g_callO (As := [.int (0 : Int32)]) (st := []) (cn_X3_push) shX3 rfl cwX3_60 rfl dX3_step_41 rfl (Nat.le_of_ble_eq_true rfl) (by decide) (kk_V (fun s6 => ?_))
        refine g_goto (t := 88) dX3_step_44 (by decide) ?_
        exact (g_vret dX3_step_88)
      · refine g_aload_n (q := 32) 0 dX3_step_31 rfl rfl rfl ?_
        refine g_getA (q := 35) fX3_slots dX3_step_32 ww271 rfl ?_
        refine g_iload_n (q := 36) 2 dX3_step_35 rfl rfl rfl ?_
        refine g_iald (q := 37) (aX3_slots) dX3_step_36 rfl ?_
        refine g_goto (t := 41) dX3_step_37 (by decide) ?_
        refine g_callO (As := [.int (σ.1 34 a2.toNatClampNeg)]) (st := []) (cn_X3_push) shX3 rfl cwX3_60 rfl dX3_step_41 rfl (Nat.le_of_ble_eq_true rfl) (by decide) (kk_V (fun s8 => ?_))
        refine g_goto (t := 88) dX3_step_44 (by decide) ?_
        exact (g_vret dX3_step_88)
    · refine g_iload_n (q := 48) 1 dX3_step_47 rfl rfl rfl ?_
      refine g_bipush (q := 50) dX3_step_48 kB_8 rfl ?_
      refine g_icmp_ne (t := 66) (q := 53) dX3_step_50 (by decide) rfl ?_ ?_
      · refine g_aload_n (q := 54) 0 dX3_step_53 rfl rfl rfl ?_
        refine g_iconst (q := 55) dX3_step_54 kI_1 rfl ?_
        refine g_aload_n (q := 56) 0 dX3_step_55 rfl rfl rfl ?_
        refine g_callO (As := []) (st := [.int (1 : Int32), .ref (b + 33)]) (cn_X3_pop) shX3 rfl cwX3_56 rfl dX3_step_56 rfl (Nat.le_of_ble_eq_true rfl) (by decide) (kk_I (fun v9 s10 => ?_))
        refine g_isub (q := 60) dX3_step_59 rfl ?_
        refine g_callO (As := [.int ((1 : Int32) - v9)]) (st := []) (cn_X3_push) shX3 rfl cwX3_60 rfl dX3_step_60 rfl (Nat.le_of_ble_eq_true rfl) (by decide) (kk_V (fun s12 => ?_))
        refine g_goto (t := 88) dX3_step_63 (by decide) ?_
        exact (g_vret dX3_step_88)
      · refine g_aload_n (q := 67) 0 dX3_step_66 rfl rfl rfl ?_
        refine g_callO (As := []) (st := []) (cn_X3_pop) shX3 rfl cwX3_56 rfl dX3_step_67 rfl (Nat.le_of_ble_eq_true rfl) (by decide) (kk_I (fun v13 s14 => ?_))
        refine g_istore_n (lr := [(0, .ref (b + 33)), (1, .int a1), (2, .int a2)]) (q := 71) dX3_step_70 rfl (by decide) rfl rfl ?_
        refine g_aload_n (q := 72) 1 dX3_step_71 rfl rfl rfl ?_
        refine g_callO (As := []) (st := []) (cn_X3_pop) shX3 rfl cwX3_56 rfl dX3_step_72 rfl (Nat.le_of_ble_eq_true rfl) (by decide) (kk_I (fun v15 s16 => ?_))
        refine g_istore (lr := [(3, .int v13), (0, .ref (b + 33)), (1, .int a1), (2, .int a2)]) (q := 77) dX3_step_75 (by decide) rfl rfl ?_
        refine g_aload_n (q := 78) 2 dX3_step_77 rfl rfl rfl ?_
        refine g_iload_n (q := 79) 3 dX3_step_78 rfl rfl rfl ?_
        refine g_iload (q := 81) 0 dX3_step_79 rfl rfl ?_
        refine g_iload_n (q := 82) 1 dX3_step_81 rfl rfl rfl ?_
        refine g_callT (As := [.int a1, .int v15, .int v13]) (st := [.ref (b + 33)]) (cn_X3_joined) cwX3_64 rfl dX3_step_82 rfl (Nat.le_of_ble_eq_true rfl) (by decide) (kk_PI (fun v17 => ?_))
        refine g_callO (As := [.int v17]) (st := []) (cn_X3_push) shX3 rfl cwX3_60 rfl dX3_step_85 rfl (Nat.le_of_ble_eq_true rfl) (by decide) (kk_V (fun s20 => ?_))
        exact (g_vret dX3_step_88)
noncomputable def pJ9_max_7cf53 (a1 : Int32) (a2 : Int32) : Option (Int32) := if a1 < a2 then some (a2) else some (a1)
set_option maxRecDepth 100000 in
theorem cn_J9_max_7cf53 {G : gG} {b : Nat} {V : gV} {a1 : Int32} {a2 : Int32} {σ : gS} : CN V G b 1 yJ9_max_7cf53 cJ9_max_7cf53 2 (some .int) (kPI σ) [.int a1, .int a2] σ (pJ9_max_7cf53 a1 a2) := by
  refine cn_ofF (own := RJ9) (by decide +kernel) rfl (Nat.le_of_ble_eq_true rfl) ?_
  show GF V G b (1, 0, 0) RJ9 cJ9_max_7cf53 2 (some .int) (kPI σ) 0 [(0, .int a1), (1, .int a2)] [] σ (pJ9_max_7cf53 a1 a2)
  unfold pJ9_max_7cf53
  refine g_iload_n (q := 1) 0 dJ9_max_7cf53_0 rfl rfl rfl ?_
  refine g_iload_n (q := 2) 1 dJ9_max_7cf53_1 rfl rfl rfl ?_
  refine g_icmp_lt (t := 9) (q := 5) dJ9_max_7cf53_2 (by decide) rfl ?_ ?_
  · refine g_iload_n (q := 10) 1 dJ9_max_7cf53_9 rfl rfl rfl ?_
    exact (g_iretP dJ9_max_7cf53_10)
  · refine g_iload_n (q := 6) 0 dJ9_max_7cf53_5 rfl rfl rfl ?_
    refine g_goto (t := 10) dJ9_max_7cf53_6 (by decide) ?_
    exact (g_iretP dJ9_max_7cf53_10)
noncomputable def pJ9_min_7cf53 (a1 : Int32) (a2 : Int32) : Option (Int32) := if a2 < a1 then some (a2) else some (a1)
set_option maxRecDepth 100000 in
theorem cn_J9_min_7cf53 {G : gG} {b : Nat} {V : gV} {a1 : Int32} {a2 : Int32} {σ : gS} : CN V G b 1 yJ9_min_7cf53 cJ9_min_7cf53 2 (some .int) (kPI σ) [.int a1, .int a2] σ (pJ9_min_7cf53 a1 a2) := by
  refine cn_ofF (own := RJ9) (by decide +kernel) rfl (Nat.le_of_ble_eq_true rfl) ?_
  show GF V G b (1, 0, 0) RJ9 cJ9_min_7cf53 2 (some .int) (kPI σ) 0 [(0, .int a1), (1, .int a2)] [] σ (pJ9_min_7cf53 a1 a2)
  unfold pJ9_min_7cf53
  refine g_iload_n (q := 1) 0 dJ9_min_7cf53_0 rfl rfl rfl ?_
  refine g_iload_n (q := 2) 1 dJ9_min_7cf53_1 rfl rfl rfl ?_
  refine g_icmp_gt (t := 9) (q := 5) dJ9_min_7cf53_2 (by decide) rfl ?_ ?_
  · refine g_iload_n (q := 10) 1 dJ9_min_7cf53_9 rfl rfl rfl ?_
    exact (g_iretP dJ9_min_7cf53_10)
  · refine g_iload_n (q := 6) 0 dJ9_min_7cf53_5 rfl rfl rfl ?_
    refine g_goto (t := 10) dJ9_min_7cf53_6 (by decide) ?_
    exact (g_iretP dJ9_min_7cf53_10)
noncomputable def pX3_valueOf (r1 : Nat) (a2 : Int32) (σ : gS) : Option (Int32 × gS) := lt' (wI σ 33 2 (0 : Int32)) (fun s1 => bn1 (pX10_inRange a2 (0 : Int32) (25 : Int32)) (fun v2 => if v2 = 0 then bn2 (pX3_pop s1) (fun v4 s5 => some (v4, s5)) else gx a2 26 (bn1 (pJ9_min_7cf53 (s1.1 (r1 + 6) a2.toNatClampNeg) (s1.1 r1 13)) (fun v6 => gx a2 26 (bn1 (pJ9_max_7cf53 (s1.1 (r1 + 5) a2.toNatClampNeg) (0 : Int32)) (fun v8 => bn1 (lpP (fun (z11 : (Int32 × gS)) => if v6 ≤ z11.1 then some (.inr z11.2) else gx z11.1 400 (gx z11.1 400 (bn1 (pX3_step (z11.2.1 (r1 + 7) z11.1.toNatClampNeg) (z11.2.1 (r1 + 8) z11.1.toNatClampNeg) z11.2) (fun s13 => lt' (z11.1 + (1 : Int32)) (fun x14 => some (.inl (x14, s13))))))) (v8, s1)) (fun (z10 : gS) => bn2 (pX3_pop z10) (fun v15 s16 => some (v15, s16)))))))))
set_option maxRecDepth 100000 in
theorem cn_X3_valueOf {G : gG} {b : Nat} {r1 : Nat} (hr1 : tR r1 = true) {a2 : Int32} {σ : gS} : CN vC G b 3 yX3_valueOf cX3_valueOf 5 (some .int) kI [.ref (b + 33), .ref (b + r1), .int a2] σ (pX3_valueOf r1 a2 σ) := by
  refine cn_of (own := RX3) rfl rfl (Nat.le_of_ble_eq_true rfl) ?_
  show GF vC G b (3, 0, 0) RX3 cX3_valueOf 5 (some .int) kI 0 [(0, .ref (b + 33)), (1, .ref (b + r1)), (2, .int a2)] [] σ (pX3_valueOf r1 a2 σ)
  unfold pX3_valueOf
  refine g_aload_n (q := 1) 0 dX3_valueOf_0 rfl rfl rfl ?_
  refine g_iconst (q := 2) dX3_valueOf_1 kI_0 rfl ?_
  refine g_putI (q := 5) fX3_top pwX3_top okTX3 dX3_valueOf_2 ww274 rfl (fun s1 => ?_)
  refine g_iload_n (q := 6) 2 dX3_valueOf_5 rfl rfl rfl ?_
  refine g_iconst (q := 7) dX3_valueOf_6 kI_0 rfl ?_
  refine g_bipush (q := 9) dX3_valueOf_7 kB_25 rfl ?_
  refine g_callN (As := [.int a2, .int (0 : Int32), .int (25 : Int32)]) (st := []) (cn_X10_inRange) cwX3_24 rfl dX3_valueOf_9 rfl (Nat.le_of_ble_eq_true rfl) (by decide) (kk_PI (fun v2 => ?_))
  refine g_if_eq (t := 71) (q := 15) dX3_valueOf_12 (by decide) rfl ?_ ?_
  · refine g_aload_n (q := 72) 0 dX3_valueOf_71 rfl rfl rfl ?_
    refine g_callO (As := []) (st := []) (cn_X3_pop) shX3 rfl cwX3_56 rfl dX3_valueOf_72 rfl (Nat.le_of_ble_eq_true rfl) (by decide) (kk_I (fun v4 s5 => ?_))
    exact (g_iret dX3_valueOf_75)
  · refine g_aload_n (q := 16) 1 dX3_valueOf_15 rfl rfl rfl ?_
    refine g_getA (q := 19) (fX9_formulaEnds hr1) dX3_valueOf_16 ww163 rfl ?_
    refine g_iload_n (q := 20) 2 dX3_valueOf_19 rfl rfl rfl ?_
    refine g_iald (q := 21) (aX9_formulaEnds hr1) dX3_valueOf_20 rfl ?_
    refine g_aload_n (q := 22) 1 dX3_valueOf_21 rfl rfl rfl ?_
    refine g_getI (q := 25) (fX9_steps hr1) dX3_valueOf_22 ww169 rfl ?_
    refine g_callT (As := [.int (s1.1 (r1 + 6) a2.toNatClampNeg), .int (s1.1 r1 13)]) (st := []) (cn_J9_min_7cf53) cwX3_34 rfl dX3_valueOf_25 rfl (Nat.le_of_ble_eq_true rfl) (by decide) (kk_PI (fun v6 => ?_))
    refine g_istore_n (lr := [(0, .ref (b + 33)), (1, .ref (b + r1)), (2, .int a2)]) (q := 29) dX3_valueOf_28 rfl (by decide) rfl rfl ?_
    refine g_aload_n (q := 30) 2 dX3_valueOf_29 rfl rfl rfl ?_
    refine g_getA (q := 33) (fX9_formulaStarts hr1) dX3_valueOf_30 ww161 rfl ?_
    refine g_iload_n (q := 34) 3 dX3_valueOf_33 rfl rfl rfl ?_
    refine g_iald (q := 35) (aX9_formulaStarts hr1) dX3_valueOf_34 rfl ?_
    refine g_iconst (q := 36) dX3_valueOf_35 kI_0 rfl ?_
    refine g_callT (As := [.int (s1.1 (r1 + 5) a2.toNatClampNeg), .int (0 : Int32)]) (st := []) (cn_J9_max_7cf53) cwX3_43 rfl dX3_valueOf_36 rfl (Nat.le_of_ble_eq_true rfl) (by decide) (kk_PI (fun v8 => ?_))
    refine g_istore (lr := [(3, .int v6), (0, .ref (b + 33)), (1, .ref (b + r1)), (2, .int a2)]) (q := 41) dX3_valueOf_39 (by decide) rfl rfl ?_
    refine g_bind (S := gS) (hd := 71) (lvf := fun z10 => [(0, .ref (b + 33))]) (stf := fun z10 => []) (σf := fun z10 => z10) ?_ (fun z10 => ?_)
    · refine g_sub (lr := [(4, .int v8), (3, .int v6), (0, .ref (b + 33)), (1, .ref (b + r1))]) [0, 1, 2, 3] rfl ?_
      refine g_loop (S := (Int32 × gS)) (lvf := fun z11 => [(4, .int z11.1), (3, .int v6), (0, .ref (b + 33)), (1, .ref (b + r1))]) (σf := fun z11 => z11.2) (fun z11 => ?_) (v8, s1)
      refine g_iload (q := 43) 0 dX3_valueOf_41 rfl rfl ?_
      refine g_iload_n (q := 44) 1 dX3_valueOf_43 rfl rfl rfl ?_
      refine g_icmp_ge (t := 71) (q := 47) dX3_valueOf_44 (by decide) rfl ?_ ?_
      · refine g_sub (lr := [(0, .ref (b + 33))]) [2] rfl ?_
        exact (g_leave (g_there (z11.2 : gS)))
      · refine g_aload_n (q := 48) 2 dX3_valueOf_47 rfl rfl rfl ?_
        refine g_aload_n (q := 49) 3 dX3_valueOf_48 rfl rfl rfl ?_
        refine g_getA (q := 52) (fX9_stepKinds hr1) dX3_valueOf_49 ww165 rfl ?_
        refine g_iload (q := 54) 0 dX3_valueOf_52 rfl rfl ?_
        refine g_iald (q := 55) (aX9_stepKinds hr1) dX3_valueOf_54 rfl ?_
        refine g_aload_n (q := 56) 3 dX3_valueOf_55 rfl rfl rfl ?_
        refine g_getA (q := 59) (fX9_stepValues hr1) dX3_valueOf_56 ww167 rfl ?_
        refine g_iload (q := 61) 0 dX3_valueOf_59 rfl rfl ?_
        refine g_iald (q := 62) (aX9_stepValues hr1) dX3_valueOf_61 rfl ?_
        refine g_callO (As := [.int (z11.2.1 (r1 + 7) z11.1.toNatClampNeg), .int (z11.2.1 (r1 + 8) z11.1.toNatClampNeg)]) (st := []) (cn_X3_step) shX3 rfl cwX3_52 rfl dX3_valueOf_62 rfl (Nat.le_of_ble_eq_true rfl) (by decide) (kk_V (fun s13 => ?_))
        refine g_iinc (lr := [(3, .int v6), (0, .ref (b + 33)), (1, .ref (b + r1))]) (q := 68) 0 dX3_valueOf_65 rfl kI_1 (by decide) rfl rfl (fun x14 => ?_)
        refine g_goto (t := 41) dX3_valueOf_68 (by decide) ?_
        exact (g_again ((x14, s13) : (Int32 × gS)))
    · refine g_aload_n (q := 72) 0 dX3_valueOf_71 rfl rfl rfl ?_
      refine g_callO (As := []) (st := []) (cn_X3_pop) shX3 rfl cwX3_56 rfl dX3_valueOf_72 rfl (Nat.le_of_ble_eq_true rfl) (by decide) (kk_I (fun v15 s16 => ?_))
      exact (g_iret dX3_valueOf_75)
noncomputable def pX2_trait (a1 : Int32) (a2 : Int32) (σ : gS) : Option (Int32) := bn1 (pX10_inRange a1 (0 : Int32) (19 : Int32)) (fun v1 => if v1 = 0 then some ((0 : Int32)) else bn1 (pX10_inRange a2 (0 : Int32) (11 : Int32)) (fun v3 => if v3 = 0 then some ((0 : Int32)) else gx ((a1 * (12 : Int32)) + a2) 240 (some (σ.1 22 ((a1 * (12 : Int32)) + a2).toNatClampNeg))))
set_option maxRecDepth 100000 in
theorem cn_X2_trait {G : gG} {b : Nat} {a1 : Int32} {a2 : Int32} {σ : gS} : CN vC G b 2 yX2_trait cX2_trait 3 (some .int) (kPI σ) [.ref (b + 21), .int a1, .int a2] σ (pX2_trait a1 a2 σ) := by
  refine cn_of (own := RX2) rfl rfl (Nat.le_of_ble_eq_true rfl) ?_
  show GF vC G b (2, 0, 0) RX2 cX2_trait 3 (some .int) (kPI σ) 0 [(0, .ref (b + 21)), (1, .int a1), (2, .int a2)] [] σ (pX2_trait a1 a2 σ)
  unfold pX2_trait
  refine g_iload_n (q := 1) 1 dX2_trait_0 rfl rfl rfl ?_
  refine g_iconst (q := 2) dX2_trait_1 kI_0 rfl ?_
  refine g_bipush (q := 4) dX2_trait_2 kB_19 rfl ?_
  refine g_callN (As := [.int a1, .int (0 : Int32), .int (19 : Int32)]) (st := []) (cn_X10_inRange) cwX2_19 rfl dX2_trait_4 rfl (Nat.le_of_ble_eq_true rfl) (by decide) (kk_PI (fun v1 => ?_))
  refine g_if_eq (t := 34) (q := 10) dX2_trait_7 (by decide) rfl ?_ ?_
  · refine g_iconst (q := 35) dX2_trait_34 kI_0 rfl ?_
    exact (g_iretP dX2_trait_35)
  · refine g_iload_n (q := 11) 2 dX2_trait_10 rfl rfl rfl ?_
    refine g_iconst (q := 12) dX2_trait_11 kI_0 rfl ?_
    refine g_bipush (q := 14) dX2_trait_12 kB_11 rfl ?_
    refine g_callN (As := [.int a2, .int (0 : Int32), .int (11 : Int32)]) (st := []) (cn_X10_inRange) cwX2_19 rfl dX2_trait_14 rfl (Nat.le_of_ble_eq_true rfl) (by decide) (kk_PI (fun v3 => ?_))
    refine g_if_eq (t := 34) (q := 20) dX2_trait_17 (by decide) rfl ?_ ?_
    · refine g_iconst (q := 35) dX2_trait_34 kI_0 rfl ?_
      exact (g_iretP dX2_trait_35)
    · refine g_aload_n (q := 21) 0 dX2_trait_20 rfl rfl rfl ?_
      refine g_getA (q := 24) fX2_traits dX2_trait_21 ww248 rfl ?_
      refine g_iload_n (q := 25) 1 dX2_trait_24 rfl rfl rfl ?_
      refine g_bipush (q := 27) dX2_trait_25 kB_12 rfl ?_
      refine g_imul (q := 28) dX2_trait_27 rfl ?_
      refine g_iload_n (q := 29) 2 dX2_trait_28 rfl rfl rfl ?_
      refine g_iadd (q := 30) dX2_trait_29 rfl ?_
      refine g_iald (q := 31) (aX2_traits) dX2_trait_30 rfl ?_
      refine g_goto (t := 35) dX2_trait_31 (by decide) ?_
      exact (g_iretP dX2_trait_35)
