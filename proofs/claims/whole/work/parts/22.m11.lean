noncomputable def pX11_person (a1 : Int32) (a2 : Int32) (a3 : Int32) (a4 : Int32) (a5 : Int32) (σ : gS) : Option (Int32 × gS) := if (σ.1 0 51) = (20 : Int32) then some ((-1 : Int32), σ) else bn1 (pX11_in a1 (0 : Int32) (59 : Int32)) (fun v1 => if v1 = 0 then some ((-1 : Int32), σ) else bn1 (pX11_in a2 (0 : Int32) (11 : Int32)) (fun v3 => if v3 = 0 then some ((-1 : Int32), σ) else bn1 (pX11_in a3 (0 : Int32) (9 : Int32)) (fun v5 => if v5 = 0 then some ((-1 : Int32), σ) else bn1 (pX11_in a4 (0 : Int32) (3 : Int32)) (fun v7 => if v7 = 0 then some ((-1 : Int32), σ) else bn1 (pX11_in a5 (0 : Int32) (99999999 : Int32)) (fun v9 => if v9 = 0 then some ((-1 : Int32), σ) else gx (σ.1 0 51) 20 (lt' (wI σ 35 (σ.1 0 51).toNatClampNeg a1) (fun s11 => gx (s11.1 0 51) 20 (lt' (wI s11 36 (s11.1 0 51).toNatClampNeg a2) (fun s12 => gx (s12.1 0 51) 20 (lt' (wI s12 37 (s12.1 0 51).toNatClampNeg a3) (fun s13 => gx (s13.1 0 51) 20 (lt' (wI s13 38 (s13.1 0 51).toNatClampNeg a4) (fun s14 => bn1 (lpP (fun (z16 : (Int32 × Int32 × gS)) => if (8 : Int32) ≤ z16.1 then some (.inr z16.2.2) else g0 (10 : Int32) (gx (((8 : Int32) * (z16.2.2.1 0 51)) + z16.1) 160 (lt' (wI z16.2.2 39 (((8 : Int32) * (z16.2.2.1 0 51)) + z16.1).toNatClampNeg (z16.2.1 - z16.2.1 / (10 : Int32) * (10 : Int32))) (fun s17 => g0 (10 : Int32) (lt' (z16.2.1 / (10 : Int32)) (fun x18 => lt' (z16.1 + (1 : Int32)) (fun x19 => some (.inl (x19, x18, s17))))))))) ((0 : Int32), a5, s14)) (fun (z15 : gS) => lt' (wI z15 0 51 ((z15.1 0 51) + (1 : Int32))) (fun s20 => some ((s20.1 0 51) - (1 : Int32), s20))))))))))))))))
set_option maxRecDepth 100000 in
theorem cn_X11_person {G : gG} {b : Nat} {a1 : Int32} {a2 : Int32} {a3 : Int32} {a4 : Int32} {a5 : Int32} {σ : gS} : CN vR G b 2 yX11_person cX11_person 8 (some .int) kI [.ref (b + 0), .int a1, .int a2, .int a3, .int a4, .int a5] σ (pX11_person a1 a2 a3 a4 a5 σ) := by
  refine cn_of (own := RX11) rfl rfl (Nat.le_of_ble_eq_true rfl) ?_
  show GF vR G b (2, 0, 0) RX11 cX11_person 8 (some .int) kI 0 [(0, .ref (b + 0)), (1, .int a1), (2, .int a2), (3, .int a3), (4, .int a4), (5, .int a5)] [] σ (pX11_person a1 a2 a3 a4 a5 σ)
  unfold pX11_person
  refine g_aload_n (q := 1) 0 dX11_person_0 rfl rfl rfl ?_
  refine g_getI (q := 4) fX11_people dX11_person_1 ww1093 rfl ?_
  refine g_bipush (q := 6) dX11_person_4 kB_20 rfl ?_
  refine g_icmp_eq (t := 61) (q := 9) dX11_person_6 (by decide) rfl ?_ ?_
  · refine g_iconst (q := 62) dX11_person_61 kI_m1 rfl ?_
    exact (g_iret dX11_person_62)
  · refine g_iload_n (q := 10) 1 dX11_person_9 rfl rfl rfl ?_
    refine g_iconst (q := 11) dX11_person_10 kI_0 rfl ?_
    refine g_bipush (q := 13) dX11_person_11 kB_59 rfl ?_
    refine g_callT (As := [.int a1, .int (0 : Int32), .int (59 : Int32)]) (st := []) (cn_X11_in) cwX11_313 rfl dX11_person_13 rfl (Nat.le_of_ble_eq_true rfl) (by decide) (kk_PI (fun v1 => ?_))
    refine g_if_eq (t := 61) (q := 19) dX11_person_16 (by decide) rfl ?_ ?_
    · refine g_iconst (q := 62) dX11_person_61 kI_m1 rfl ?_
      exact (g_iret dX11_person_62)
    · refine g_iload_n (q := 20) 2 dX11_person_19 rfl rfl rfl ?_
      refine g_iconst (q := 21) dX11_person_20 kI_0 rfl ?_
      refine g_bipush (q := 23) dX11_person_21 kB_11 rfl ?_
      refine g_callT (As := [.int a2, .int (0 : Int32), .int (11 : Int32)]) (st := []) (cn_X11_in) cwX11_313 rfl dX11_person_23 rfl (Nat.le_of_ble_eq_true rfl) (by decide) (kk_PI (fun v3 => ?_))
      refine g_if_eq (t := 61) (q := 29) dX11_person_26 (by decide) rfl ?_ ?_
      · refine g_iconst (q := 62) dX11_person_61 kI_m1 rfl ?_
        exact (g_iret dX11_person_62)
      · refine g_iload_n (q := 30) 3 dX11_person_29 rfl rfl rfl ?_
        refine g_iconst (q := 31) dX11_person_30 kI_0 rfl ?_
        refine g_bipush (q := 33) dX11_person_31 kB_9 rfl ?_
        refine g_callT (As := [.int a3, .int (0 : Int32), .int (9 : Int32)]) (st := []) (cn_X11_in) cwX11_313 rfl dX11_person_33 rfl (Nat.le_of_ble_eq_true rfl) (by decide) (kk_PI (fun v5 => ?_))
        refine g_if_eq (t := 61) (q := 39) dX11_person_36 (by decide) rfl ?_ ?_
        · refine g_iconst (q := 62) dX11_person_61 kI_m1 rfl ?_
          exact (g_iret dX11_person_62)
        · refine g_iload (q := 41) 4 dX11_person_39 rfl rfl ?_
          refine g_iconst (q := 42) dX11_person_41 kI_0 rfl ?_
          refine g_iconst (q := 43) dX11_person_42 kI_3 rfl ?_
          refine g_callT (As := [.int a4, .int (0 : Int32), .int (3 : Int32)]) (st := []) (cn_X11_in) cwX11_313 rfl dX11_person_43 rfl (Nat.le_of_ble_eq_true rfl) (by decide) (kk_PI (fun v7 => ?_))
          refine g_if_eq (t := 61) (q := 49) dX11_person_46 (by decide) rfl ?_ ?_
          · refine g_iconst (q := 62) dX11_person_61 kI_m1 rfl ?_
            exact (g_iret dX11_person_62)
          · refine g_iload (q := 51) 5 dX11_person_49 rfl rfl ?_
            refine g_iconst (q := 52) dX11_person_51 kI_0 rfl ?_
            refine g_ldcw (q := 55) dX11_person_52 ww1367 rfl ?_
            refine g_callT (As := [.int a5, .int (0 : Int32), .int (99999999 : Int32)]) (st := []) (cn_X11_in) cwX11_313 rfl dX11_person_55 rfl (Nat.le_of_ble_eq_true rfl) (by decide) (kk_PI (fun v9 => ?_))
            refine g_if_ne (t := 63) (q := 61) dX11_person_58 (by decide) rfl ?_ ?_
            · refine g_iconst (q := 62) dX11_person_61 kI_m1 rfl ?_
              exact (g_iret dX11_person_62)
            · refine g_aload_n (q := 64) 0 dX11_person_63 rfl rfl rfl ?_
              refine g_getA (q := 67) fX11_minutes dX11_person_64 ww1094 rfl ?_
              refine g_aload_n (q := 68) 0 dX11_person_67 rfl rfl rfl ?_
              refine g_getI (q := 71) fX11_people dX11_person_68 ww1093 rfl ?_
              refine g_iload_n (q := 72) 1 dX11_person_71 rfl rfl rfl ?_
              refine g_iast (q := 73) (aX11_minutes) dX11_person_72 rfl (fun s11 => ?_)
              refine g_aload_n (q := 74) 0 dX11_person_73 rfl rfl rfl ?_
              refine g_getA (q := 77) fX11_months dX11_person_74 ww1095 rfl ?_
              refine g_aload_n (q := 78) 0 dX11_person_77 rfl rfl rfl ?_
              refine g_getI (q := 81) fX11_people dX11_person_78 ww1093 rfl ?_
              refine g_iload_n (q := 82) 2 dX11_person_81 rfl rfl rfl ?_
              refine g_iast (q := 83) (aX11_months) dX11_person_82 rfl (fun s12 => ?_)
              refine g_aload_n (q := 84) 0 dX11_person_83 rfl rfl rfl ?_
              refine g_getA (q := 87) fX11_years dX11_person_84 ww1096 rfl ?_
              refine g_aload_n (q := 88) 0 dX11_person_87 rfl rfl rfl ?_
              refine g_getI (q := 91) fX11_people dX11_person_88 ww1093 rfl ?_
              refine g_iload_n (q := 92) 3 dX11_person_91 rfl rfl rfl ?_
              refine g_iast (q := 93) (aX11_years) dX11_person_92 rfl (fun s13 => ?_)
              refine g_aload_n (q := 94) 0 dX11_person_93 rfl rfl rfl ?_
              refine g_getA (q := 97) fX11_coats dX11_person_94 ww1097 rfl ?_
              refine g_aload_n (q := 98) 0 dX11_person_97 rfl rfl rfl ?_
              refine g_getI (q := 101) fX11_people dX11_person_98 ww1093 rfl ?_
              refine g_iload (q := 103) 4 dX11_person_101 rfl rfl ?_
              refine g_iast (q := 104) (aX11_coats) dX11_person_103 rfl (fun s14 => ?_)
              refine g_iload (q := 106) 5 dX11_person_104 rfl rfl ?_
              refine g_istore (lr := [(0, .ref (b + 0)), (1, .int a1), (2, .int a2), (3, .int a3), (4, .int a4), (5, .int a5)]) (q := 108) dX11_person_106 (by decide) rfl rfl ?_
              refine g_iconst (q := 109) dX11_person_108 kI_0 rfl ?_
              refine g_istore (lr := [(6, .int a5), (0, .ref (b + 0)), (1, .int a1), (2, .int a2), (3, .int a3), (4, .int a4), (5, .int a5)]) (q := 111) dX11_person_109 (by decide) rfl rfl ?_
              refine g_bind (S := gS) (hd := 151) (lvf := fun z15 => [(0, .ref (b + 0))]) (stf := fun z15 => []) (σf := fun z15 => z15) ?_ (fun z15 => ?_)
              · refine g_sub (lr := [(7, .int (0 : Int32)), (6, .int a5), (0, .ref (b + 0))]) [0, 1, 2] rfl ?_
                refine g_loop (S := (Int32 × Int32 × gS)) (lvf := fun z16 => [(7, .int z16.1), (6, .int z16.2.1), (0, .ref (b + 0))]) (σf := fun z16 => z16.2.2) (fun z16 => ?_) ((0 : Int32), a5, s14)
                refine g_iload (q := 113) 0 dX11_person_111 rfl rfl ?_
                refine g_bipush (q := 115) dX11_person_113 kB_8 rfl ?_
                refine g_icmp_ge (t := 151) (q := 118) dX11_person_115 (by decide) rfl ?_ ?_
                · refine g_sub (lr := [(0, .ref (b + 0))]) [2] rfl ?_
                  exact (g_leave (g_there (z16.2.2 : gS)))
                · refine g_aload_n (q := 119) 2 dX11_person_118 rfl rfl rfl ?_
                  refine g_getA (q := 122) fX11_ways dX11_person_119 ww1098 rfl ?_
                  refine g_bipush (q := 124) dX11_person_122 kB_8 rfl ?_
                  refine g_aload_n (q := 125) 2 dX11_person_124 rfl rfl rfl ?_
                  refine g_getI (q := 128) fX11_people dX11_person_125 ww1093 rfl ?_
                  refine g_imul (q := 129) dX11_person_128 rfl ?_
                  refine g_iload (q := 131) 0 dX11_person_129 rfl rfl ?_
                  refine g_iadd (q := 132) dX11_person_131 rfl ?_
                  refine g_iload (q := 134) 1 dX11_person_132 rfl rfl ?_
                  refine g_bipush (q := 136) dX11_person_134 kB_10 rfl ?_
                  refine g_irem (q := 137) dX11_person_136 rfl ?_
                  refine g_iast (q := 138) (aX11_ways) dX11_person_137 rfl (fun s17 => ?_)
                  refine g_iload (q := 140) 1 dX11_person_138 rfl rfl ?_
                  refine g_bipush (q := 142) dX11_person_140 kB_10 rfl ?_
                  refine g_idiv (q := 143) dX11_person_142 rfl ?_
                  refine g_leti (fun x18 => ?_)
                  refine g_istore (lr := [(7, .int z16.1), (0, .ref (b + 0))]) (q := 145) dX11_person_143 (by decide) rfl rfl ?_
                  refine g_iinc (lr := [(6, .int x18), (0, .ref (b + 0))]) (q := 148) 1 dX11_person_145 rfl kI_1 (by decide) rfl rfl (fun x19 => ?_)
                  refine g_goto (t := 111) dX11_person_148 (by decide) ?_
                  exact (g_again ((x19, x18, s17) : (Int32 × Int32 × gS)))
              · refine g_aload_n (q := 152) 0 dX11_person_151 rfl rfl rfl ?_
                refine g_dup (q := 153) dX11_person_152 rfl rfl ?_
                refine g_getI (q := 156) fX11_people dX11_person_153 ww1093 rfl ?_
                refine g_iconst (q := 157) dX11_person_156 kI_1 rfl ?_
                refine g_iadd (q := 158) dX11_person_157 rfl ?_
                refine g_putI (q := 161) fX11_people pwX11_people okTX11 dX11_person_158 ww1093 rfl (fun s20 => ?_)
                refine g_aload_n (q := 162) 0 dX11_person_161 rfl rfl rfl ?_
                refine g_getI (q := 165) fX11_people dX11_person_162 ww1093 rfl ?_
                refine g_iconst (q := 166) dX11_person_165 kI_1 rfl ?_
                refine g_isub (q := 167) dX11_person_166 rfl ?_
                exact (g_iret dX11_person_167)
noncomputable def pX11_mixed (a1 : Int32) (a2 : Int32) : Option (Int32) := lt' (((a1 ^^^ a2) * (1103515245 : Int32)) + (12345 : Int32)) (fun x1 => some (x1 ^^^ (ushrI x1 (15 : Int32))))
set_option maxRecDepth 100000 in
theorem cn_X11_mixed {G : gG} {b : Nat} {V : gV} {a1 : Int32} {a2 : Int32} {σ : gS} : CN V G b 1 yX11_mixed cX11_mixed 3 (some .int) (kPI σ) [.int a1, .int a2] σ (pX11_mixed a1 a2) := by
  refine cn_of (own := RX11) rfl rfl (Nat.le_of_ble_eq_true rfl) ?_
  show GF V G b (1, 0, 0) RX11 cX11_mixed 3 (some .int) (kPI σ) 0 [(0, .int a1), (1, .int a2)] [] σ (pX11_mixed a1 a2)
  unfold pX11_mixed
  refine g_iload_n (q := 1) 0 dX11_mixed_0 rfl rfl rfl ?_
  refine g_iload_n (q := 2) 1 dX11_mixed_1 rfl rfl rfl ?_
  refine g_ixor (q := 3) dX11_mixed_2 rfl ?_
  refine g_ldcw (q := 6) dX11_mixed_3 ww1378 rfl ?_
  refine g_imul (q := 7) dX11_mixed_6 rfl ?_
  refine g_sipush (q := 10) dX11_mixed_7 kS_12345 rfl ?_
  refine g_iadd (q := 11) dX11_mixed_10 rfl ?_
  refine g_leti (fun x1 => ?_)
  refine g_istore_n (lr := [(0, .int a1), (1, .int a2)]) (q := 12) dX11_mixed_11 rfl (by decide) rfl rfl ?_
  refine g_iload_n (q := 13) 0 dX11_mixed_12 rfl rfl rfl ?_
  refine g_iload_n (q := 14) 0 dX11_mixed_13 rfl rfl rfl ?_
  refine g_bipush (q := 16) dX11_mixed_14 kB_15 rfl ?_
  refine g_iushr (q := 17) dX11_mixed_16 rfl ?_
  refine g_ixor (q := 18) dX11_mixed_17 rfl ?_
  exact (g_iretP dX11_mixed_18)
noncomputable def pX11_lot (a1 : Int32) (a2 : Int32) (a3 : Int32) : Option (Int32) := bn1 (pX11_mixed a1 (7 : Int32)) (fun v1 => bn1 (pX11_mixed v1 a2) (fun v3 => g0 a3 (some ((ushrI v3 (1 : Int32)) - (ushrI v3 (1 : Int32)) / a3 * a3))))
set_option maxRecDepth 100000 in
theorem cn_X11_lot {G : gG} {b : Nat} {V : gV} {a1 : Int32} {a2 : Int32} {a3 : Int32} {σ : gS} : CN V G b 2 yX11_lot cX11_lot 3 (some .int) (kPI σ) [.int a1, .int a2, .int a3] σ (pX11_lot a1 a2 a3) := by
  refine cn_of (own := RX11) rfl rfl (Nat.le_of_ble_eq_true rfl) ?_
  show GF V G b (2, 0, 0) RX11 cX11_lot 3 (some .int) (kPI σ) 0 [(0, .int a1), (1, .int a2), (2, .int a3)] [] σ (pX11_lot a1 a2 a3)
  unfold pX11_lot
  refine g_iload_n (q := 1) 0 dX11_lot_0 rfl rfl rfl ?_
  refine g_bipush (q := 3) dX11_lot_1 kB_7 rfl ?_
  refine g_callT (As := [.int a1, .int (7 : Int32)]) (st := []) (cn_X11_mixed) cwX11_319 rfl dX11_lot_3 rfl (Nat.le_of_ble_eq_true rfl) (by decide) (kk_PI (fun v1 => ?_))
  refine g_iload_n (q := 7) 1 dX11_lot_6 rfl rfl rfl ?_
  refine g_callT (As := [.int v1, .int a2]) (st := []) (cn_X11_mixed) cwX11_319 rfl dX11_lot_7 rfl (Nat.le_of_ble_eq_true rfl) (by decide) (kk_PI (fun v3 => ?_))
  refine g_iconst (q := 11) dX11_lot_10 kI_1 rfl ?_
  refine g_iushr (q := 12) dX11_lot_11 rfl ?_
  refine g_iload_n (q := 13) 2 dX11_lot_12 rfl rfl rfl ?_
  refine g_irem (q := 14) dX11_lot_13 rfl ?_
  exact (g_iretP dX11_lot_14)
noncomputable def pX11_looksAt (a1 : Int32) (a2 : Int32) (σ : gS) : Option (gS) := bn1 (lpP (fun (z2 : (Int32 × gS)) => if (8 : Int32) ≤ z2.1 then some (.inr z2.2) else gx (((8 : Int32) * a1) + z2.1) 160 (gx z2.1 21 (lt' (wI z2.2 33 z2.1.toNatClampNeg (z2.2.1 39 (((8 : Int32) * a1) + z2.1).toNatClampNeg)) (fun s3 => lt' (z2.1 + (1 : Int32)) (fun x4 => some (.inl (x4, s3))))))) ((0 : Int32), σ)) (fun (z1 : gS) => gx (8 : Int32) 21 (lt' (wI z1 33 (8 : Int32).toNatClampNeg a2) (fun s5 => gx a1 20 (gx (9 : Int32) 21 (lt' (wI s5 33 (9 : Int32).toNatClampNeg (s5.1 36 a1.toNatClampNeg)) (fun s6 => gx a1 20 (gx (10 : Int32) 21 (lt' (wI s6 33 (10 : Int32).toNatClampNeg (s6.1 37 a1.toNatClampNeg)) (fun s7 => gx a1 20 (gx (11 : Int32) 21 (lt' (wI s7 33 (11 : Int32).toNatClampNeg (s7.1 38 a1.toNatClampNeg)) (fun s8 => bn1 (lpP (fun (z10 : (Int32 × gS)) => if (21 : Int32) ≤ z10.1 then some (.inr z10.2) else gx z10.1 21 (lt' (wI z10.2 33 z10.1.toNatClampNeg (0 : Int32)) (fun s11 => lt' (z10.1 + (1 : Int32)) (fun x12 => some (.inl (x12, s11)))))) ((12 : Int32), s8)) (fun (z9 : gS) => some z9)))))))))))))
set_option maxRecDepth 100000 in
theorem cn_X11_looksAt {G : gG} {b : Nat} {a1 : Int32} {a2 : Int32} {σ : gS} : CN vR G b 1 yX11_looksAt cX11_looksAt 4 none kV [.ref (b + 0), .int a1, .int a2] σ (pX11_looksAt a1 a2 σ) := by
  refine cn_of (own := RX11) rfl rfl (Nat.le_of_ble_eq_true rfl) ?_
  show GF vR G b (1, 0, 0) RX11 cX11_looksAt 4 none kV 0 [(0, .ref (b + 0)), (1, .int a1), (2, .int a2)] [] σ (pX11_looksAt a1 a2 σ)
  unfold pX11_looksAt
  refine g_iconst (q := 1) dX11_looksAt_0 kI_0 rfl ?_
  refine g_istore_n (lr := [(0, .ref (b + 0)), (1, .int a1), (2, .int a2)]) (q := 2) dX11_looksAt_1 rfl (by decide) rfl rfl ?_
  refine g_bind (S := gS) (hd := 31) (lvf := fun z1 => [(0, .ref (b + 0)), (1, .int a1), (2, .int a2)]) (stf := fun z1 => []) (σf := fun z1 => z1) ?_ (fun z1 => ?_)
  · refine g_loop (S := (Int32 × gS)) (lvf := fun z2 => [(3, .int z2.1), (0, .ref (b + 0)), (1, .int a1), (2, .int a2)]) (σf := fun z2 => z2.2) (fun z2 => ?_) ((0 : Int32), σ)
    refine g_iload_n (q := 3) 0 dX11_looksAt_2 rfl rfl rfl ?_
    refine g_bipush (q := 5) dX11_looksAt_3 kB_8 rfl ?_
    refine g_icmp_ge (t := 31) (q := 8) dX11_looksAt_5 (by decide) rfl ?_ ?_
    · refine g_sub (lr := [(0, .ref (b + 0)), (1, .int a1), (2, .int a2)]) [1, 2, 3] rfl ?_
      exact (g_leave (g_there (z2.2 : gS)))
    · refine g_aload_n (q := 9) 1 dX11_looksAt_8 rfl rfl rfl ?_
      refine g_getA (q := 12) fX11_variables dX11_looksAt_9 ww1091 rfl ?_
      refine g_iload_n (q := 13) 0 dX11_looksAt_12 rfl rfl rfl ?_
      refine g_aload_n (q := 14) 1 dX11_looksAt_13 rfl rfl rfl ?_
      refine g_getA (q := 17) fX11_ways dX11_looksAt_14 ww1098 rfl ?_
      refine g_bipush (q := 19) dX11_looksAt_17 kB_8 rfl ?_
      refine g_iload_n (q := 20) 2 dX11_looksAt_19 rfl rfl rfl ?_
      refine g_imul (q := 21) dX11_looksAt_20 rfl ?_
      refine g_iload_n (q := 22) 0 dX11_looksAt_21 rfl rfl rfl ?_
      refine g_iadd (q := 23) dX11_looksAt_22 rfl ?_
      refine g_iald (q := 24) (aX11_ways) dX11_looksAt_23 rfl ?_
      refine g_iast (q := 25) (aX11_variables) dX11_looksAt_24 rfl (fun s3 => ?_)
      refine g_iinc (lr := [(0, .ref (b + 0)), (1, .int a1), (2, .int a2)]) (q := 28) 0 dX11_looksAt_25 rfl kI_1 (by decide) rfl rfl (fun x4 => ?_)
      refine g_goto (t := 2) dX11_looksAt_28 (by decide) ?_
      exact (g_again ((x4, s3) : (Int32 × gS)))
  · refine g_aload_n (q := 32) 0 dX11_looksAt_31 rfl rfl rfl ?_
    refine g_getA (q := 35) fX11_variables dX11_looksAt_32 ww1091 rfl ?_
    refine g_bipush (q := 37) dX11_looksAt_35 kB_8 rfl ?_
    refine g_iload_n (q := 38) 2 dX11_looksAt_37 rfl rfl rfl ?_
    refine g_iast (q := 39) (aX11_variables) dX11_looksAt_38 rfl (fun s5 => ?_)
    refine g_aload_n (q := 40) 0 dX11_looksAt_39 rfl rfl rfl ?_
    refine g_getA (q := 43) fX11_variables dX11_looksAt_40 ww1091 rfl ?_
    refine g_bipush (q := 45) dX11_looksAt_43 kB_9 rfl ?_
    refine g_aload_n (q := 46) 0 dX11_looksAt_45 rfl rfl rfl ?_
    refine g_getA (q := 49) fX11_months dX11_looksAt_46 ww1095 rfl ?_
    refine g_iload_n (q := 50) 1 dX11_looksAt_49 rfl rfl rfl ?_
    refine g_iald (q := 51) (aX11_months) dX11_looksAt_50 rfl ?_
    refine g_iast (q := 52) (aX11_variables) dX11_looksAt_51 rfl (fun s6 => ?_)
    refine g_aload_n (q := 53) 0 dX11_looksAt_52 rfl rfl rfl ?_
    refine g_getA (q := 56) fX11_variables dX11_looksAt_53 ww1091 rfl ?_
    refine g_bipush (q := 58) dX11_looksAt_56 kB_10 rfl ?_
    refine g_aload_n (q := 59) 0 dX11_looksAt_58 rfl rfl rfl ?_
    refine g_getA (q := 62) fX11_years dX11_looksAt_59 ww1096 rfl ?_
    refine g_iload_n (q := 63) 1 dX11_looksAt_62 rfl rfl rfl ?_
    refine g_iald (q := 64) (aX11_years) dX11_looksAt_63 rfl ?_
    refine g_iast (q := 65) (aX11_variables) dX11_looksAt_64 rfl (fun s7 => ?_)
    refine g_aload_n (q := 66) 0 dX11_looksAt_65 rfl rfl rfl ?_
    refine g_getA (q := 69) fX11_variables dX11_looksAt_66 ww1091 rfl ?_
    refine g_bipush (q := 71) dX11_looksAt_69 kB_11 rfl ?_
    refine g_aload_n (q := 72) 0 dX11_looksAt_71 rfl rfl rfl ?_
    refine g_getA (q := 75) fX11_coats dX11_looksAt_72 ww1097 rfl ?_
    refine g_iload_n (q := 76) 1 dX11_looksAt_75 rfl rfl rfl ?_
    refine g_iald (q := 77) (aX11_coats) dX11_looksAt_76 rfl ?_
    refine g_iast (q := 78) (aX11_variables) dX11_looksAt_77 rfl (fun s8 => ?_)
    refine g_bipush (q := 80) dX11_looksAt_78 kB_12 rfl ?_
    refine g_istore_n (lr := [(0, .ref (b + 0)), (1, .int a1), (2, .int a2)]) (q := 81) dX11_looksAt_80 rfl (by decide) rfl rfl ?_
    refine g_bind (S := gS) (hd := 100) (lvf := fun z9 => []) (stf := fun z9 => []) (σf := fun z9 => z9) ?_ (fun z9 => ?_)
    · refine g_sub (lr := [(3, .int (12 : Int32)), (0, .ref (b + 0))]) [0, 1] rfl ?_
      refine g_loop (S := (Int32 × gS)) (lvf := fun z10 => [(3, .int z10.1), (0, .ref (b + 0))]) (σf := fun z10 => z10.2) (fun z10 => ?_) ((12 : Int32), s8)
      refine g_iload_n (q := 82) 0 dX11_looksAt_81 rfl rfl rfl ?_
      refine g_bipush (q := 84) dX11_looksAt_82 kB_21 rfl ?_
      refine g_icmp_ge (t := 100) (q := 87) dX11_looksAt_84 (by decide) rfl ?_ ?_
      · refine g_sub (lr := []) [] rfl ?_
        exact (g_leave (g_there (z10.2 : gS)))
      · refine g_aload_n (q := 88) 1 dX11_looksAt_87 rfl rfl rfl ?_
        refine g_getA (q := 91) fX11_variables dX11_looksAt_88 ww1091 rfl ?_
        refine g_iload_n (q := 92) 0 dX11_looksAt_91 rfl rfl rfl ?_
        refine g_iconst (q := 93) dX11_looksAt_92 kI_0 rfl ?_
        refine g_iast (q := 94) (aX11_variables) dX11_looksAt_93 rfl (fun s11 => ?_)
        refine g_iinc (lr := [(0, .ref (b + 0))]) (q := 97) 0 dX11_looksAt_94 rfl kI_1 (by decide) rfl rfl (fun x12 => ?_)
        refine g_goto (t := 81) dX11_looksAt_97 (by decide) ?_
        exact (g_again ((x12, s11) : (Int32 × gS)))
    · exact (g_vret dX11_looksAt_100)
noncomputable def pX11_isUp (a1 : Int32) (a2 : Int32) (a3 : Int32) (σ : gS) : Option (Int32 × gS) := bn1 (pX11_looksAt a2 a3 σ) (fun s2 => bn2 (pX11_holdsRule (((26 : Int32) * (s2.1 0 18)) + a1) s2) (fun v3 s4 => some (v3 &&& 1, s4)))
set_option maxRecDepth 100000 in
theorem cn_X11_isUp {G : gG} {b : Nat} {a1 : Int32} {a2 : Int32} {a3 : Int32} {σ : gS} : CN vR G b 4 yX11_isUp cX11_isUp 4 (some .boolean) kI [.ref (b + 0), .int a1, .int a2, .int a3] σ (pX11_isUp a1 a2 a3 σ) := by
  refine cn_of (own := RX11) rfl rfl (Nat.le_of_ble_eq_true rfl) ?_
  show GF vR G b (4, 0, 0) RX11 cX11_isUp 4 (some .boolean) kI 0 [(0, .ref (b + 0)), (1, .int a1), (2, .int a2), (3, .int a3)] [] σ (pX11_isUp a1 a2 a3 σ)
  unfold pX11_isUp
  refine g_aload_n (q := 1) 0 dX11_isUp_0 rfl rfl rfl ?_
  refine g_iload_n (q := 2) 2 dX11_isUp_1 rfl rfl rfl ?_
  refine g_iload_n (q := 3) 3 dX11_isUp_2 rfl rfl rfl ?_
  refine g_callO (As := [.int a2, .int a3]) (st := []) (cn_X11_looksAt) shX11 rfl cwX11_331 rfl dX11_isUp_3 rfl (Nat.le_of_ble_eq_true rfl) (by decide) (kk_V (fun s2 => ?_))
  refine g_aload_n (q := 7) 0 dX11_isUp_6 rfl rfl rfl ?_
  refine g_bipush (q := 9) dX11_isUp_7 kB_26 rfl ?_
  refine g_aload_n (q := 10) 0 dX11_isUp_9 rfl rfl rfl ?_
  refine g_getI (q := 13) fX11_live dX11_isUp_10 ww1060 rfl ?_
  refine g_imul (q := 14) dX11_isUp_13 rfl ?_
  refine g_iload_n (q := 15) 1 dX11_isUp_14 rfl rfl rfl ?_
  refine g_iadd (q := 16) dX11_isUp_15 rfl ?_
  refine g_callO (As := [.int (((26 : Int32) * (s2.1 0 18)) + a1)]) (st := []) (cn_X11_holdsRule) shX11 rfl cwX11_334 rfl dX11_isUp_16 rfl (Nat.le_of_ble_eq_true rfl) (by decide) (kk_I (fun v3 s4 => ?_))
  exact (g_bret dX11_isUp_19)
noncomputable def pX11_world (a1 : Int32) (a2 : Int32) (a3 : Int32) (σ : gS) : Option (Int32 × gS) := bn1 (pX11_in a2 (0 : Int32) (20 : Int32)) (fun v1 => if v1 = 0 then some ((-1 : Int32), σ) else bn1 (pX11_in a3 (0 : Int32) (10 : Int32)) (fun v3 => if v3 = 0 then some ((-1 : Int32), σ) else lt' (wI σ 0 51 a2) (fun s5 => bn1 (lpP (fun (z7 : (Int32 × gS)) => if a2 ≤ z7.1 then some (.inr z7.2) else bn1 (pX11_lot a1 ((20 : Int32) * z7.1) (60 : Int32)) (fun v8 => gx z7.1 20 (lt' (wI z7.2 35 z7.1.toNatClampNeg v8) (fun s10 => bn1 (pX11_lot a1 (((20 : Int32) * z7.1) + (1 : Int32)) (12 : Int32)) (fun v11 => gx z7.1 20 (lt' (wI s10 36 z7.1.toNatClampNeg v11) (fun s13 => bn1 (pX11_lot a1 (((20 : Int32) * z7.1) + (2 : Int32)) (10 : Int32)) (fun v14 => gx z7.1 20 (lt' (wI s13 37 z7.1.toNatClampNeg v14) (fun s16 => bn1 (pX11_lot a1 (((20 : Int32) * z7.1) + (3 : Int32)) (4 : Int32)) (fun v17 => gx z7.1 20 (lt' (wI s16 38 z7.1.toNatClampNeg v17) (fun s19 => bn1 (lpP (fun (z21 : (Int32 × gS)) => if (8 : Int32) ≤ z21.1 then some (.inr z21.2) else bn1 (pX11_lot a1 ((((20 : Int32) * z7.1) + (4 : Int32)) + z21.1) (10 : Int32)) (fun v22 => gx (((8 : Int32) * z7.1) + z21.1) 160 (lt' (wI z21.2 39 (((8 : Int32) * z7.1) + z21.1).toNatClampNeg v22) (fun s24 => lt' (z21.1 + (1 : Int32)) (fun x25 => some (.inl (x25, s24))))))) ((0 : Int32), s19)) (fun (z20 : gS) => bn1 (lpP (fun (z27 : (Int32 × gS)) => gx (z27.2.1 0 18) 2 (if (z27.2.1 11 (z27.2.1 0 18).toNatClampNeg) ≤ z27.1 then some (.inr z27.2) else gx z7.1 20 (bn2 (pX11_isUp z27.1 z7.1 (z27.2.1 35 z7.1.toNatClampNeg) z27.2) (fun v28 s29 => if v28 = 0 then lt' (z27.1 + (1 : Int32)) (fun x30 => some (.inl (x30, s29))) else bn1 (pX11_lot a1 ((((20 : Int32) * z7.1) + (12 : Int32)) + z27.1) (10 : Int32)) (fun v31 => if a3 ≤ v31 then lt' (z27.1 + (1 : Int32)) (fun x33 => some (.inl (x33, s29))) else gx (((8 : Int32) * z7.1) + z27.1) 160 (lt' (wI s29 39 (((8 : Int32) * z7.1) + z27.1).toNatClampNeg (9 : Int32)) (fun s34 => lt' (z27.1 + (1 : Int32)) (fun x35 => some (.inl (x35, s34)))))))))) ((0 : Int32), z20)) (fun (z26 : gS) => lt' (z7.1 + (1 : Int32)) (fun x36 => some (.inl (x36, z26)))))))))))))))))) ((0 : Int32), s5)) (fun (z6 : gS) => some (a2, z6)))))
set_option maxRecDepth 100000 in
theorem cn_X11_world {G : gG} {b : Nat} {a1 : Int32} {a2 : Int32} {a3 : Int32} {σ : gS} : CN vR G b 5 yX11_world cX11_world 6 (some .int) kI [.ref (b + 0), .int a1, .int a2, .int a3] σ (pX11_world a1 a2 a3 σ) := by
  refine cn_of (own := RX11) rfl rfl (Nat.le_of_ble_eq_true rfl) ?_
  show GF vR G b (5, 0, 0) RX11 cX11_world 6 (some .int) kI 0 [(0, .ref (b + 0)), (1, .int a1), (2, .int a2), (3, .int a3)] [] σ (pX11_world a1 a2 a3 σ)
  unfold pX11_world
  refine g_iload_n (q := 1) 2 dX11_world_0 rfl rfl rfl ?_
  refine g_iconst (q := 2) dX11_world_1 kI_0 rfl ?_
  refine g_bipush (q := 4) dX11_world_2 kB_20 rfl ?_
  refine g_callT (As := [.int a2, .int (0 : Int32), .int (20 : Int32)]) (st := []) (cn_X11_in) cwX11_313 rfl dX11_world_4 rfl (Nat.le_of_ble_eq_true rfl) (by decide) (kk_PI (fun v1 => ?_))
  refine g_if_eq (t := 20) (q := 10) dX11_world_7 (by decide) rfl ?_ ?_
  · refine g_iconst (q := 21) dX11_world_20 kI_m1 rfl ?_
    exact (g_iret dX11_world_21)
  · refine g_iload_n (q := 11) 3 dX11_world_10 rfl rfl rfl ?_
    refine g_iconst (q := 12) dX11_world_11 kI_0 rfl ?_
    refine g_bipush (q := 14) dX11_world_12 kB_10 rfl ?_
    refine g_callT (As := [.int a3, .int (0 : Int32), .int (10 : Int32)]) (st := []) (cn_X11_in) cwX11_313 rfl dX11_world_14 rfl (Nat.le_of_ble_eq_true rfl) (by decide) (kk_PI (fun v3 => ?_))
    refine g_if_ne (t := 22) (q := 20) dX11_world_17 (by decide) rfl ?_ ?_
    · refine g_iconst (q := 21) dX11_world_20 kI_m1 rfl ?_
      exact (g_iret dX11_world_21)
    · refine g_aload_n (q := 23) 0 dX11_world_22 rfl rfl rfl ?_
      refine g_iload_n (q := 24) 2 dX11_world_23 rfl rfl rfl ?_
      refine g_putI (q := 27) fX11_people pwX11_people okTX11 dX11_world_24 ww1093 rfl (fun s5 => ?_)
      refine g_iconst (q := 28) dX11_world_27 kI_0 rfl ?_
      refine g_istore (lr := [(0, .ref (b + 0)), (1, .int a1), (2, .int a2), (3, .int a3)]) (q := 30) dX11_world_28 (by decide) rfl rfl ?_
      refine g_bind (S := gS) (hd := 241) (lvf := fun z6 => [(2, .int a2)]) (stf := fun z6 => []) (σf := fun z6 => z6) ?_ (fun z6 => ?_)
      · refine g_loop (S := (Int32 × gS)) (lvf := fun z7 => [(4, .int z7.1), (0, .ref (b + 0)), (1, .int a1), (2, .int a2), (3, .int a3)]) (σf := fun z7 => z7.2) (fun z7 => ?_) ((0 : Int32), s5)
        refine g_iload (q := 32) 0 dX11_world_30 rfl rfl ?_
        refine g_iload_n (q := 33) 3 dX11_world_32 rfl rfl rfl ?_
        refine g_icmp_ge (t := 241) (q := 36) dX11_world_33 (by decide) rfl ?_ ?_
        · refine g_sub (lr := [(2, .int a2)]) [3] rfl ?_
          exact (g_leave (g_there (z7.2 : gS)))
        · refine g_aload_n (q := 37) 1 dX11_world_36 rfl rfl rfl ?_
          refine g_getA (q := 40) fX11_minutes dX11_world_37 ww1094 rfl ?_
          refine g_iload (q := 42) 0 dX11_world_40 rfl rfl ?_
          refine g_iload_n (q := 43) 2 dX11_world_42 rfl rfl rfl ?_
          refine g_bipush (q := 45) dX11_world_43 kB_20 rfl ?_
          refine g_iload (q := 47) 0 dX11_world_45 rfl rfl ?_
          refine g_imul (q := 48) dX11_world_47 rfl ?_
          refine g_bipush (q := 50) dX11_world_48 kB_60 rfl ?_
          refine g_callT (As := [.int a1, .int ((20 : Int32) * z7.1), .int (60 : Int32)]) (st := [.int z7.1, .ref (b + 35)]) (cn_X11_lot) cwX11_322 rfl dX11_world_50 rfl (Nat.le_of_ble_eq_true rfl) (by decide) (kk_PI (fun v8 => ?_))
          refine g_iast (q := 54) (aX11_minutes) dX11_world_53 rfl (fun s10 => ?_)
          refine g_aload_n (q := 55) 1 dX11_world_54 rfl rfl rfl ?_
          refine g_getA (q := 58) fX11_months dX11_world_55 ww1095 rfl ?_
          refine g_iload (q := 60) 0 dX11_world_58 rfl rfl ?_
          refine g_iload_n (q := 61) 2 dX11_world_60 rfl rfl rfl ?_
          refine g_bipush (q := 63) dX11_world_61 kB_20 rfl ?_
          refine g_iload (q := 65) 0 dX11_world_63 rfl rfl ?_
          refine g_imul (q := 66) dX11_world_65 rfl ?_
          refine g_iconst (q := 67) dX11_world_66 kI_1 rfl ?_
          refine g_iadd (q := 68) dX11_world_67 rfl ?_
          refine g_bipush (q := 70) dX11_world_68 kB_12 rfl ?_
          refine g_callT (As := [.int a1, .int (((20 : Int32) * z7.1) + (1 : Int32)), .int (12 : Int32)]) (st := [.int z7.1, .ref (b + 36)]) (cn_X11_lot) cwX11_322 rfl dX11_world_70 rfl (Nat.le_of_ble_eq_true rfl) (by decide) (kk_PI (fun v11 => ?_))
          refine g_iast (q := 74) (aX11_months) dX11_world_73 rfl (fun s13 => ?_)
          refine g_aload_n (q := 75) 1 dX11_world_74 rfl rfl rfl ?_
          refine g_getA (q := 78) fX11_years dX11_world_75 ww1096 rfl ?_
          refine g_iload (q := 80) 0 dX11_world_78 rfl rfl ?_
          refine g_iload_n (q := 81) 2 dX11_world_80 rfl rfl rfl ?_
          refine g_bipush (q := 83) dX11_world_81 kB_20 rfl ?_
          refine g_iload (q := 85) 0 dX11_world_83 rfl rfl ?_
          refine g_imul (q := 86) dX11_world_85 rfl ?_
          refine g_iconst (q := 87) dX11_world_86 kI_2 rfl ?_
          refine g_iadd (q := 88) dX11_world_87 rfl ?_
          refine g_bipush (q := 90) dX11_world_88 kB_10 rfl ?_
          refine g_callT (As := [.int a1, .int (((20 : Int32) * z7.1) + (2 : Int32)), .int (10 : Int32)]) (st := [.int z7.1, .ref (b + 37)]) (cn_X11_lot) cwX11_322 rfl dX11_world_90 rfl (Nat.le_of_ble_eq_true rfl) (by decide) (kk_PI (fun v14 => ?_))
          refine g_iast (q := 94) (aX11_years) dX11_world_93 rfl (fun s16 => ?_)
          refine g_aload_n (q := 95) 1 dX11_world_94 rfl rfl rfl ?_
          refine g_getA (q := 98) fX11_coats dX11_world_95 ww1097 rfl ?_
          refine g_iload (q := 100) 0 dX11_world_98 rfl rfl ?_
          refine g_iload_n (q := 101) 2 dX11_world_100 rfl rfl rfl ?_
          refine g_bipush (q := 103) dX11_world_101 kB_20 rfl ?_
          refine g_iload (q := 105) 0 dX11_world_103 rfl rfl ?_
          refine g_imul (q := 106) dX11_world_105 rfl ?_
          refine g_iconst (q := 107) dX11_world_106 kI_3 rfl ?_
          refine g_iadd (q := 108) dX11_world_107 rfl ?_
          refine g_iconst (q := 109) dX11_world_108 kI_4 rfl ?_
          refine g_callT (As := [.int a1, .int (((20 : Int32) * z7.1) + (3 : Int32)), .int (4 : Int32)]) (st := [.int z7.1, .ref (b + 38)]) (cn_X11_lot) cwX11_322 rfl dX11_world_109 rfl (Nat.le_of_ble_eq_true rfl) (by decide) (kk_PI (fun v17 => ?_))
          refine g_iast (q := 113) (aX11_coats) dX11_world_112 rfl (fun s19 => ?_)
          refine g_iconst (q := 114) dX11_world_113 kI_0 rfl ?_
          refine g_istore (lr := [(4, .int z7.1), (0, .ref (b + 0)), (1, .int a1), (2, .int a2), (3, .int a3)]) (q := 116) dX11_world_114 (by decide) rfl rfl ?_
          refine g_bind (S := gS) (hd := 158) (lvf := fun z20 => [(4, .int z7.1), (0, .ref (b + 0)), (1, .int a1), (2, .int a2), (3, .int a3)]) (stf := fun z20 => []) (σf := fun z20 => z20) ?_ (fun z20 => ?_)
          · refine g_loop (S := (Int32 × gS)) (lvf := fun z21 => [(5, .int z21.1), (4, .int z7.1), (0, .ref (b + 0)), (1, .int a1), (2, .int a2), (3, .int a3)]) (σf := fun z21 => z21.2) (fun z21 => ?_) ((0 : Int32), s19)
            refine g_iload (q := 118) 0 dX11_world_116 rfl rfl ?_
            refine g_bipush (q := 120) dX11_world_118 kB_8 rfl ?_
            refine g_icmp_ge (t := 158) (q := 123) dX11_world_120 (by decide) rfl ?_ ?_
            · refine g_sub (lr := [(4, .int z7.1), (0, .ref (b + 0)), (1, .int a1), (2, .int a2), (3, .int a3)]) [1, 2, 3, 4, 5] rfl ?_
              exact (g_leave (g_there (z21.2 : gS)))
            · refine g_aload_n (q := 124) 2 dX11_world_123 rfl rfl rfl ?_
              refine g_getA (q := 127) fX11_ways dX11_world_124 ww1098 rfl ?_
              refine g_bipush (q := 129) dX11_world_127 kB_8 rfl ?_
              refine g_iload (q := 131) 1 dX11_world_129 rfl rfl ?_
              refine g_imul (q := 132) dX11_world_131 rfl ?_
              refine g_iload (q := 134) 0 dX11_world_132 rfl rfl ?_
              refine g_iadd (q := 135) dX11_world_134 rfl ?_
              refine g_iload_n (q := 136) 3 dX11_world_135 rfl rfl rfl ?_
              refine g_bipush (q := 138) dX11_world_136 kB_20 rfl ?_
              refine g_iload (q := 140) 1 dX11_world_138 rfl rfl ?_
              refine g_imul (q := 141) dX11_world_140 rfl ?_
              refine g_iconst (q := 142) dX11_world_141 kI_4 rfl ?_
              refine g_iadd (q := 143) dX11_world_142 rfl ?_
              refine g_iload (q := 145) 0 dX11_world_143 rfl rfl ?_
              refine g_iadd (q := 146) dX11_world_145 rfl ?_
              refine g_bipush (q := 148) dX11_world_146 kB_10 rfl ?_
              refine g_callT (As := [.int a1, .int ((((20 : Int32) * z7.1) + (4 : Int32)) + z21.1), .int (10 : Int32)]) (st := [.int (((8 : Int32) * z7.1) + z21.1), .ref (b + 39)]) (cn_X11_lot) cwX11_322 rfl dX11_world_148 rfl (Nat.le_of_ble_eq_true rfl) (by decide) (kk_PI (fun v22 => ?_))
              refine g_iast (q := 152) (aX11_ways) dX11_world_151 rfl (fun s24 => ?_)
              refine g_iinc (lr := [(4, .int z7.1), (0, .ref (b + 0)), (1, .int a1), (2, .int a2), (3, .int a3)]) (q := 155) 0 dX11_world_152 rfl kI_1 (by decide) rfl rfl (fun x25 => ?_)
              refine g_goto (t := 116) dX11_world_155 (by decide) ?_
              exact (g_again ((x25, s24) : (Int32 × gS)))
          · refine g_iconst (q := 159) dX11_world_158 kI_0 rfl ?_
            refine g_istore (lr := [(4, .int z7.1), (0, .ref (b + 0)), (1, .int a1), (2, .int a2), (3, .int a3)]) (q := 161) dX11_world_159 (by decide) rfl rfl ?_
            refine g_bind (S := gS) (hd := 235) (lvf := fun z26 => [(4, .int z7.1), (0, .ref (b + 0)), (1, .int a1), (2, .int a2), (3, .int a3)]) (stf := fun z26 => []) (σf := fun z26 => z26) ?_ (fun z26 => ?_)
            · refine g_loop (S := (Int32 × gS)) (lvf := fun z27 => [(5, .int z27.1), (4, .int z7.1), (0, .ref (b + 0)), (1, .int a1), (2, .int a2), (3, .int a3)]) (σf := fun z27 => z27.2) (fun z27 => ?_) ((0 : Int32), z20)
              refine g_iload (q := 163) 0 dX11_world_161 rfl rfl ?_
              refine g_aload_n (q := 164) 2 dX11_world_163 rfl rfl rfl ?_
              refine g_getA (q := 167) fX11_signs dX11_world_164 ww1066 rfl ?_
              refine g_aload_n (q := 168) 2 dX11_world_167 rfl rfl rfl ?_
              refine g_getI (q := 171) fX11_live dX11_world_168 ww1060 rfl ?_
              refine g_iald (q := 172) (aX11_signs) dX11_world_171 rfl ?_
              refine g_icmp_ge (t := 235) (q := 175) dX11_world_172 (by decide) rfl ?_ ?_
              · refine g_sub (lr := [(4, .int z7.1), (0, .ref (b + 0)), (1, .int a1), (2, .int a2), (3, .int a3)]) [1, 2, 3, 4, 5] rfl ?_
                exact (g_leave (g_there (z27.2 : gS)))
              · refine g_aload_n (q := 176) 2 dX11_world_175 rfl rfl rfl ?_
                refine g_iload (q := 178) 0 dX11_world_176 rfl rfl ?_
                refine g_iload (q := 180) 1 dX11_world_178 rfl rfl ?_
                refine g_aload_n (q := 181) 2 dX11_world_180 rfl rfl rfl ?_
                refine g_getA (q := 184) fX11_minutes dX11_world_181 ww1094 rfl ?_
                refine g_iload (q := 186) 1 dX11_world_184 rfl rfl ?_
                refine g_iald (q := 187) (aX11_minutes) dX11_world_186 rfl ?_
                refine g_callO (As := [.int z27.1, .int z7.1, .int (z27.2.1 35 z7.1.toNatClampNeg)]) (st := []) (cn_X11_isUp) shX11 rfl cwX11_325 rfl dX11_world_187 rfl (Nat.le_of_ble_eq_true rfl) (by decide) (kk_I (fun v28 s29 => ?_))
                refine g_if_eq (t := 229) (q := 193) dX11_world_190 (by decide) rfl ?_ ?_
                · refine g_iinc (lr := [(4, .int z7.1), (0, .ref (b + 0)), (1, .int a1), (2, .int a2), (3, .int a3)]) (q := 232) 0 dX11_world_229 rfl kI_1 (by decide) rfl rfl (fun x30 => ?_)
                  refine g_goto (t := 161) dX11_world_232 (by decide) ?_
                  exact (g_again ((x30, s29) : (Int32 × gS)))
                · refine g_iload_n (q := 194) 3 dX11_world_193 rfl rfl rfl ?_
                  refine g_bipush (q := 196) dX11_world_194 kB_20 rfl ?_
                  refine g_iload (q := 198) 1 dX11_world_196 rfl rfl ?_
                  refine g_imul (q := 199) dX11_world_198 rfl ?_
                  refine g_bipush (q := 201) dX11_world_199 kB_12 rfl ?_
                  refine g_iadd (q := 202) dX11_world_201 rfl ?_
                  refine g_iload (q := 204) 0 dX11_world_202 rfl rfl ?_
                  refine g_iadd (q := 205) dX11_world_204 rfl ?_
                  refine g_bipush (q := 207) dX11_world_205 kB_10 rfl ?_
                  refine g_callT (As := [.int a1, .int ((((20 : Int32) * z7.1) + (12 : Int32)) + z27.1), .int (10 : Int32)]) (st := []) (cn_X11_lot) cwX11_322 rfl dX11_world_207 rfl (Nat.le_of_ble_eq_true rfl) (by decide) (kk_PI (fun v31 => ?_))
                  refine g_iload_n (q := 211) 5 dX11_world_210 rfl rfl rfl ?_
                  refine g_icmp_ge (t := 229) (q := 214) dX11_world_211 (by decide) rfl ?_ ?_
                  · refine g_iinc (lr := [(4, .int z7.1), (0, .ref (b + 0)), (1, .int a1), (2, .int a2), (3, .int a3)]) (q := 232) 0 dX11_world_229 rfl kI_1 (by decide) rfl rfl (fun x33 => ?_)
                    refine g_goto (t := 161) dX11_world_232 (by decide) ?_
                    exact (g_again ((x33, s29) : (Int32 × gS)))
                  · refine g_aload_n (q := 215) 2 dX11_world_214 rfl rfl rfl ?_
                    refine g_getA (q := 218) fX11_ways dX11_world_215 ww1098 rfl ?_
                    refine g_bipush (q := 220) dX11_world_218 kB_8 rfl ?_
                    refine g_iload (q := 222) 1 dX11_world_220 rfl rfl ?_
                    refine g_imul (q := 223) dX11_world_222 rfl ?_
                    refine g_iload (q := 225) 0 dX11_world_223 rfl rfl ?_
                    refine g_iadd (q := 226) dX11_world_225 rfl ?_
                    refine g_bipush (q := 228) dX11_world_226 kB_9 rfl ?_
                    refine g_iast (q := 229) (aX11_ways) dX11_world_228 rfl (fun s34 => ?_)
                    refine g_iinc (lr := [(4, .int z7.1), (0, .ref (b + 0)), (1, .int a1), (2, .int a2), (3, .int a3)]) (q := 232) 0 dX11_world_229 rfl kI_1 (by decide) rfl rfl (fun x35 => ?_)
                    refine g_goto (t := 161) dX11_world_232 (by decide) ?_
                    exact (g_again ((x35, s34) : (Int32 × gS)))
            · refine g_iinc (lr := [(0, .ref (b + 0)), (1, .int a1), (2, .int a2), (3, .int a3)]) (q := 238) 0 dX11_world_235 rfl kI_1 (by decide) rfl rfl (fun x36 => ?_)
              refine g_goto (t := 30) dX11_world_238 (by decide) ?_
              exact (g_again ((x36, z26) : (Int32 × gS)))
      · refine g_iload_n (q := 242) 0 dX11_world_241 rfl rfl rfl ?_
        exact (g_iret dX11_world_242)
noncomputable def pX11_of (a1 : Int32) (a2 : Int32) (σ : gS) : Option (Int32) := bn1 (pX11_isPerson a1 σ) (fun v1 => if v1 = 0 then some ((-1 : Int32)) else if a2 = (0 : Int32) then gx a1 20 (some (σ.1 35 a1.toNatClampNeg)) else if a2 = (1 : Int32) then gx a1 20 (some (σ.1 36 a1.toNatClampNeg)) else if a2 = (2 : Int32) then gx a1 20 (some (σ.1 37 a1.toNatClampNeg)) else if a2 = (3 : Int32) then gx a1 20 (some (σ.1 38 a1.toNatClampNeg)) else bn1 (pX11_in a2 (10 : Int32) (17 : Int32)) (fun v7 => if v7 = 0 then some ((-1 : Int32)) else gx ((((8 : Int32) * a1) + a2) - (10 : Int32)) 160 (some (σ.1 39 ((((8 : Int32) * a1) + a2) - (10 : Int32)).toNatClampNeg))))
set_option maxRecDepth 100000 in
theorem cn_X11_of {G : gG} {b : Nat} {a1 : Int32} {a2 : Int32} {σ : gS} : CN vR G b 3 yX11_of cX11_of 3 (some .int) (kPI σ) [.ref (b + 0), .int a1, .int a2] σ (pX11_of a1 a2 σ) := by
  refine cn_of (own := RX11) rfl rfl (Nat.le_of_ble_eq_true rfl) ?_
  show GF vR G b (3, 0, 0) RX11 cX11_of 3 (some .int) (kPI σ) 0 [(0, .ref (b + 0)), (1, .int a1), (2, .int a2)] [] σ (pX11_of a1 a2 σ)
  unfold pX11_of
  refine g_aload_n (q := 1) 0 dX11_of_0 rfl rfl rfl ?_
  refine g_iload_n (q := 2) 1 dX11_of_1 rfl rfl rfl ?_
  refine g_callO (As := [.int a1]) (st := []) (cn_X11_isPerson) shX11 rfl cwX11_328 rfl dX11_of_2 rfl (Nat.le_of_ble_eq_true rfl) (by decide) (kk_PI (fun v1 => ?_))
  refine g_if_ne (t := 10) (q := 8) dX11_of_5 (by decide) rfl ?_ ?_
  · refine g_iconst (q := 9) dX11_of_8 kI_m1 rfl ?_
    exact (g_iretP dX11_of_9)
  · refine g_iload_n (q := 11) 2 dX11_of_10 rfl rfl rfl ?_
    refine g_case (t := 40) (off := 29) (0 : Int32) dX11_of_11 (by decide +kernel) (by decide) ?_ (fun h3 => ?_)
    · refine g_aload_n (q := 41) 0 dX11_of_40 rfl rfl rfl ?_
      refine g_getA (q := 44) fX11_minutes dX11_of_41 ww1094 rfl ?_
      refine g_iload_n (q := 45) 1 dX11_of_44 rfl rfl rfl ?_
      refine g_iald (q := 46) (aX11_minutes) dX11_of_45 rfl ?_
      exact (g_iretP dX11_of_46)
    refine g_case (t := 47) (off := 36) (1 : Int32) dX11_of_11 (by decide +kernel) (by decide) ?_ (fun h4 => ?_)
    · refine g_aload_n (q := 48) 0 dX11_of_47 rfl rfl rfl ?_
      refine g_getA (q := 51) fX11_months dX11_of_48 ww1095 rfl ?_
      refine g_iload_n (q := 52) 1 dX11_of_51 rfl rfl rfl ?_
      refine g_iald (q := 53) (aX11_months) dX11_of_52 rfl ?_
      exact (g_iretP dX11_of_53)
    refine g_case (t := 54) (off := 43) (2 : Int32) dX11_of_11 (by decide +kernel) (by decide) ?_ (fun h5 => ?_)
    · refine g_aload_n (q := 55) 0 dX11_of_54 rfl rfl rfl ?_
      refine g_getA (q := 58) fX11_years dX11_of_55 ww1096 rfl ?_
      refine g_iload_n (q := 59) 1 dX11_of_58 rfl rfl rfl ?_
      refine g_iald (q := 60) (aX11_years) dX11_of_59 rfl ?_
      exact (g_iretP dX11_of_60)
    refine g_case (t := 61) (off := 50) (3 : Int32) dX11_of_11 (by decide +kernel) (by decide) ?_ (fun h6 => ?_)
    · refine g_aload_n (q := 62) 0 dX11_of_61 rfl rfl rfl ?_
      refine g_getA (q := 65) fX11_coats dX11_of_62 ww1097 rfl ?_
      refine g_iload_n (q := 66) 1 dX11_of_65 rfl rfl rfl ?_
      refine g_iald (q := 67) (aX11_coats) dX11_of_66 rfl ?_
      exact (g_iretP dX11_of_67)
    refine g_dflt (t := 68) [(0 : Int32), (1 : Int32), (2 : Int32), (3 : Int32)] dX11_of_11 (by decide +kernel) (fun v hv => by simp only [List.mem_cons, List.not_mem_nil, or_false] at hv; rcases hv with rfl | rfl | rfl | rfl <;> assumption) (by decide) ?_
    refine g_iload_n (q := 69) 2 dX11_of_68 rfl rfl rfl ?_
    refine g_bipush (q := 71) dX11_of_69 kB_10 rfl ?_
    refine g_bipush (q := 73) dX11_of_71 kB_17 rfl ?_
    refine g_callT (As := [.int a2, .int (10 : Int32), .int (17 : Int32)]) (st := []) (cn_X11_in) cwX11_313 rfl dX11_of_73 rfl (Nat.le_of_ble_eq_true rfl) (by decide) (kk_PI (fun v7 => ?_))
    refine g_if_eq (t := 96) (q := 79) dX11_of_76 (by decide) rfl ?_ ?_
    · refine g_iconst (q := 97) dX11_of_96 kI_m1 rfl ?_
      exact (g_iretP dX11_of_97)
    · refine g_aload_n (q := 80) 0 dX11_of_79 rfl rfl rfl ?_
      refine g_getA (q := 83) fX11_ways dX11_of_80 ww1098 rfl ?_
      refine g_bipush (q := 85) dX11_of_83 kB_8 rfl ?_
      refine g_iload_n (q := 86) 1 dX11_of_85 rfl rfl rfl ?_
      refine g_imul (q := 87) dX11_of_86 rfl ?_
      refine g_iload_n (q := 88) 2 dX11_of_87 rfl rfl rfl ?_
      refine g_iadd (q := 89) dX11_of_88 rfl ?_
      refine g_bipush (q := 91) dX11_of_89 kB_10 rfl ?_
      refine g_isub (q := 92) dX11_of_91 rfl ?_
      refine g_iald (q := 93) (aX11_ways) dX11_of_92 rfl ?_
      refine g_goto (t := 97) dX11_of_93 (by decide) ?_
      exact (g_iretP dX11_of_97)
noncomputable def pX11_signsOf (a1 : Int32) (a2 : Int32) (σ : gS) : Option (Int32 × gS) := bn1 (lpP (fun (z2 : (Int32 × Int32 × gS)) => gx (z2.2.2.1 0 18) 2 (if (z2.2.2.1 11 (z2.2.2.1 0 18).toNatClampNeg) ≤ z2.1 then some (.inr (z2.2.1, z2.2.2)) else bn2 (pX11_isUp z2.1 a1 a2 z2.2.2) (fun v3 s4 => if v3 = 0 then lt' (z2.1 + (1 : Int32)) (fun x5 => some (.inl (x5, z2.2.1, s4))) else lt' (z2.2.1 ||| ((1 : Int32) <<< (z2.1 &&& (31 : Int32)))) (fun x6 => lt' (z2.1 + (1 : Int32)) (fun x7 => some (.inl (x7, x6, s4))))))) ((0 : Int32), (0 : Int32), σ)) (fun (z1 : (Int32 × gS)) => some (z1.1, z1.2))
set_option maxRecDepth 100000 in
theorem cn_X11_signsOf {G : gG} {b : Nat} {a1 : Int32} {a2 : Int32} {σ : gS} : CN vR G b 5 yX11_signsOf cX11_signsOf 5 (some .int) kI [.ref (b + 0), .int a1, .int a2] σ (pX11_signsOf a1 a2 σ) := by
  refine cn_of (own := RX11) rfl rfl (Nat.le_of_ble_eq_true rfl) ?_
  show GF vR G b (5, 0, 0) RX11 cX11_signsOf 5 (some .int) kI 0 [(0, .ref (b + 0)), (1, .int a1), (2, .int a2)] [] σ (pX11_signsOf a1 a2 σ)
  unfold pX11_signsOf
  refine g_iconst (q := 1) dX11_signsOf_0 kI_0 rfl ?_
  refine g_istore_n (lr := [(0, .ref (b + 0)), (1, .int a1), (2, .int a2)]) (q := 2) dX11_signsOf_1 rfl (by decide) rfl rfl ?_
  refine g_iconst (q := 3) dX11_signsOf_2 kI_0 rfl ?_
  refine g_istore (lr := [(3, .int (0 : Int32)), (0, .ref (b + 0)), (1, .int a1), (2, .int a2)]) (q := 5) dX11_signsOf_3 (by decide) rfl rfl ?_
  refine g_bind (S := (Int32 × gS)) (hd := 43) (lvf := fun z1 => [(3, .int z1.1)]) (stf := fun z1 => []) (σf := fun z1 => z1.2) ?_ (fun z1 => ?_)
  · refine g_loop (S := (Int32 × Int32 × gS)) (lvf := fun z2 => [(4, .int z2.1), (3, .int z2.2.1), (0, .ref (b + 0)), (1, .int a1), (2, .int a2)]) (σf := fun z2 => z2.2.2) (fun z2 => ?_) ((0 : Int32), (0 : Int32), σ)
    refine g_iload (q := 7) 0 dX11_signsOf_5 rfl rfl ?_
    refine g_aload_n (q := 8) 2 dX11_signsOf_7 rfl rfl rfl ?_
    refine g_getA (q := 11) fX11_signs dX11_signsOf_8 ww1066 rfl ?_
    refine g_aload_n (q := 12) 2 dX11_signsOf_11 rfl rfl rfl ?_
    refine g_getI (q := 15) fX11_live dX11_signsOf_12 ww1060 rfl ?_
    refine g_iald (q := 16) (aX11_signs) dX11_signsOf_15 rfl ?_
    refine g_icmp_ge (t := 43) (q := 19) dX11_signsOf_16 (by decide) rfl ?_ ?_
    · refine g_sub (lr := [(3, .int z2.2.1)]) [1] rfl ?_
      exact (g_leave (g_there ((z2.2.1, z2.2.2) : (Int32 × gS))))
    · refine g_aload_n (q := 20) 2 dX11_signsOf_19 rfl rfl rfl ?_
      refine g_iload (q := 22) 0 dX11_signsOf_20 rfl rfl ?_
      refine g_iload_n (q := 23) 3 dX11_signsOf_22 rfl rfl rfl ?_
      refine g_iload_n (q := 24) 4 dX11_signsOf_23 rfl rfl rfl ?_
      refine g_callO (As := [.int z2.1, .int a1, .int a2]) (st := []) (cn_X11_isUp) shX11 rfl cwX11_325 rfl dX11_signsOf_24 rfl (Nat.le_of_ble_eq_true rfl) (by decide) (kk_I (fun v3 s4 => ?_))
      refine g_if_eq (t := 37) (q := 30) dX11_signsOf_27 (by decide) rfl ?_ ?_
      · refine g_iinc (lr := [(3, .int z2.2.1), (0, .ref (b + 0)), (1, .int a1), (2, .int a2)]) (q := 40) 0 dX11_signsOf_37 rfl kI_1 (by decide) rfl rfl (fun x5 => ?_)
        refine g_goto (t := 5) dX11_signsOf_40 (by decide) ?_
        exact (g_again ((x5, z2.2.1, s4) : (Int32 × Int32 × gS)))
      · refine g_iload_n (q := 31) 1 dX11_signsOf_30 rfl rfl rfl ?_
        refine g_iconst (q := 32) dX11_signsOf_31 kI_1 rfl ?_
        refine g_iload (q := 34) 0 dX11_signsOf_32 rfl rfl ?_
        refine g_ishl (q := 35) dX11_signsOf_34 rfl ?_
        refine g_ior (q := 36) dX11_signsOf_35 rfl ?_
        refine g_leti (fun x6 => ?_)
        refine g_istore_n (lr := [(4, .int z2.1), (0, .ref (b + 0)), (1, .int a1), (2, .int a2)]) (q := 37) dX11_signsOf_36 rfl (by decide) rfl rfl ?_
        refine g_iinc (lr := [(3, .int x6), (0, .ref (b + 0)), (1, .int a1), (2, .int a2)]) (q := 40) 1 dX11_signsOf_37 rfl kI_1 (by decide) rfl rfl (fun x7 => ?_)
        refine g_goto (t := 5) dX11_signsOf_40 (by decide) ?_
        exact (g_again ((x7, x6, s4) : (Int32 × Int32 × gS)))
  · refine g_iload_n (q := 44) 0 dX11_signsOf_43 rfl rfl rfl ?_
    exact (g_iret dX11_signsOf_44)
noncomputable def pX11_signs (a1 : Int32) (a2 : Int32) (σ : gS) : Option (Int32 × gS) := bn1 (pX11_isPerson a1 σ) (fun v1 => if v1 = 0 then some ((-1 : Int32), σ) else bnS (if a2 = (-1 : Int32) then some (.inl ()) else bn1 (pX11_in a2 (0 : Int32) (59 : Int32)) (fun v4 => if v4 = 0 then some (.inr ((-1 : Int32), σ)) else some (.inl ()))) (fun (z3 : Unit) => if a2 = (-1 : Int32) then gx a1 20 (bn2 (pX11_signsOf a1 (σ.1 35 a1.toNatClampNeg) σ) (fun v6 s7 => some (v6, s7))) else bn2 (pX11_signsOf a1 a2 σ) (fun v8 s9 => some (v8, s9))))
set_option maxRecDepth 100000 in
theorem cn_X11_signs {G : gG} {b : Nat} {a1 : Int32} {a2 : Int32} {σ : gS} : CN vR G b 6 yX11_signs cX11_signs 3 (some .int) kI [.ref (b + 0), .int a1, .int a2] σ (pX11_signs a1 a2 σ) := by
  refine cn_of (own := RX11) rfl rfl (Nat.le_of_ble_eq_true rfl) ?_
  show GF vR G b (6, 0, 0) RX11 cX11_signs 3 (some .int) kI 0 [(0, .ref (b + 0)), (1, .int a1), (2, .int a2)] [] σ (pX11_signs a1 a2 σ)
  unfold pX11_signs
  refine g_aload_n (q := 1) 0 dX11_signs_0 rfl rfl rfl ?_
  refine g_iload_n (q := 2) 1 dX11_signs_1 rfl rfl rfl ?_
  refine g_callO (As := [.int a1]) (st := []) (cn_X11_isPerson) shX11 rfl cwX11_328 rfl dX11_signs_2 rfl (Nat.le_of_ble_eq_true rfl) (by decide) (kk_PI (fun v1 => ?_))
  refine g_if_eq (t := 23) (q := 8) dX11_signs_5 (by decide) rfl ?_ ?_
  · refine g_iconst (q := 24) dX11_signs_23 kI_m1 rfl ?_
    refine g_goto (t := 47) dX11_signs_24 (by decide) ?_
    exact (g_iret dX11_signs_47)
  · refine g_iload_n (q := 9) 2 dX11_signs_8 rfl rfl rfl ?_
    refine g_iconst (q := 10) dX11_signs_9 kI_m1 rfl ?_
    refine g_bindS (S := Unit) (hd := 27) (lvf := fun z3 => [(0, .ref (b + 0)), (1, .int a1), (2, .int a2)]) (stf := fun z3 => []) (σf := fun z3 => σ) ?_ (fun z3 => ?_)
    · refine g_icmp_eq (t := 27) (q := 13) dX11_signs_10 (by decide) rfl ?_ ?_
      · exact (g_thereS (() : Unit))
      · refine g_iload_n (q := 14) 2 dX11_signs_13 rfl rfl rfl ?_
        refine g_iconst (q := 15) dX11_signs_14 kI_0 rfl ?_
        refine g_bipush (q := 17) dX11_signs_15 kB_59 rfl ?_
        refine g_callT (As := [.int a2, .int (0 : Int32), .int (59 : Int32)]) (st := []) (cn_X11_in) cwX11_313 rfl dX11_signs_17 rfl (Nat.le_of_ble_eq_true rfl) (by decide) (kk_PI (fun v4 => ?_))
        refine g_if_ne (t := 27) (q := 23) dX11_signs_20 (by decide) rfl ?_ ?_
        · refine g_iconst (q := 24) dX11_signs_23 kI_m1 rfl ?_
          refine g_goto (t := 47) dX11_signs_24 (by decide) ?_
          exact (g_right (g_iret dX11_signs_47))
        · exact (g_thereS (() : Unit))
    · refine g_aload_n (q := 28) 0 dX11_signs_27 rfl rfl rfl ?_
      refine g_iload_n (q := 29) 1 dX11_signs_28 rfl rfl rfl ?_
      refine g_iload_n (q := 30) 2 dX11_signs_29 rfl rfl rfl ?_
      refine g_iconst (q := 31) dX11_signs_30 kI_m1 rfl ?_
      refine g_icmp_ne (t := 43) (q := 34) dX11_signs_31 (by decide) rfl ?_ ?_
      · refine g_aload_n (q := 35) 0 dX11_signs_34 rfl rfl rfl ?_
        refine g_getA (q := 38) fX11_minutes dX11_signs_35 ww1094 rfl ?_
        refine g_iload_n (q := 39) 1 dX11_signs_38 rfl rfl rfl ?_
        refine g_iald (q := 40) (aX11_minutes) dX11_signs_39 rfl ?_
        refine g_goto (t := 44) dX11_signs_40 (by decide) ?_
        refine g_callO (As := [.int a1, .int (σ.1 35 a1.toNatClampNeg)]) (st := []) (cn_X11_signsOf) shX11 rfl cwX11_337 rfl dX11_signs_44 rfl (Nat.le_of_ble_eq_true rfl) (by decide) (kk_I (fun v6 s7 => ?_))
        exact (g_iret dX11_signs_47)
      · refine g_iload_n (q := 44) 2 dX11_signs_43 rfl rfl rfl ?_
        refine g_callO (As := [.int a1, .int a2]) (st := []) (cn_X11_signsOf) shX11 rfl cwX11_337 rfl dX11_signs_44 rfl (Nat.le_of_ble_eq_true rfl) (by decide) (kk_I (fun v8 s9 => ?_))
        exact (g_iret dX11_signs_47)
noncomputable def pX11_round (a1 : Int32) (a2 : Int32) : Option (Int32) := g0 ((2 : Int32) * a2) (g0 (60 : Int32) (some ((((((2 : Int32) * a1) + a2) / ((2 : Int32) * a2)) * a2) - (((((2 : Int32) * a1) + a2) / ((2 : Int32) * a2)) * a2) / (60 : Int32) * (60 : Int32))))
set_option maxRecDepth 100000 in
theorem cn_X11_round {G : gG} {b : Nat} {V : gV} {a1 : Int32} {a2 : Int32} {σ : gS} : CN V G b 1 yX11_round cX11_round 2 (some .int) (kPI σ) [.int a1, .int a2] σ (pX11_round a1 a2) := by
  refine cn_of (own := RX11) rfl rfl (Nat.le_of_ble_eq_true rfl) ?_
  show GF V G b (1, 0, 0) RX11 cX11_round 2 (some .int) (kPI σ) 0 [(0, .int a1), (1, .int a2)] [] σ (pX11_round a1 a2)
  unfold pX11_round
  refine g_iconst (q := 1) dX11_round_0 kI_2 rfl ?_
  refine g_iload_n (q := 2) 0 dX11_round_1 rfl rfl rfl ?_
  refine g_imul (q := 3) dX11_round_2 rfl ?_
  refine g_iload_n (q := 4) 1 dX11_round_3 rfl rfl rfl ?_
  refine g_iadd (q := 5) dX11_round_4 rfl ?_
  refine g_iconst (q := 6) dX11_round_5 kI_2 rfl ?_
  refine g_iload_n (q := 7) 1 dX11_round_6 rfl rfl rfl ?_
  refine g_imul (q := 8) dX11_round_7 rfl ?_
  refine g_idiv (q := 9) dX11_round_8 rfl ?_
  refine g_iload_n (q := 10) 1 dX11_round_9 rfl rfl rfl ?_
  refine g_imul (q := 11) dX11_round_10 rfl ?_
  refine g_bipush (q := 13) dX11_round_11 kB_60 rfl ?_
  refine g_irem (q := 14) dX11_round_13 rfl ?_
  exact (g_iretP dX11_round_14)
noncomputable def pX11_rounded (a1 : Int32) (a2 : Int32) (σ : gS) : Option (Int32 × gS) := bn1 (pX11_isPerson a1 σ) (fun v1 => if v1 = 0 then some ((-1 : Int32), σ) else bn1 (pX11_in a2 (2 : Int32) (30 : Int32)) (fun v3 => if v3 = 0 then some ((-1 : Int32), σ) else gx a1 20 (bn1 (pX11_round (σ.1 35 a1.toNatClampNeg) a2) (fun v5 => bn2 (pX11_signsOf a1 v5 σ) (fun v7 s8 => some (v7, s8))))))
set_option maxRecDepth 100000 in
theorem cn_X11_rounded {G : gG} {b : Nat} {a1 : Int32} {a2 : Int32} {σ : gS} : CN vR G b 6 yX11_rounded cX11_rounded 3 (some .int) kI [.ref (b + 0), .int a1, .int a2] σ (pX11_rounded a1 a2 σ) := by
  refine cn_of (own := RX11) rfl rfl (Nat.le_of_ble_eq_true rfl) ?_
  show GF vR G b (6, 0, 0) RX11 cX11_rounded 3 (some .int) kI 0 [(0, .ref (b + 0)), (1, .int a1), (2, .int a2)] [] σ (pX11_rounded a1 a2 σ)
  unfold pX11_rounded
  refine g_aload_n (q := 1) 0 dX11_rounded_0 rfl rfl rfl ?_
  refine g_iload_n (q := 2) 1 dX11_rounded_1 rfl rfl rfl ?_
  refine g_callO (As := [.int a1]) (st := []) (cn_X11_isPerson) shX11 rfl cwX11_328 rfl dX11_rounded_2 rfl (Nat.le_of_ble_eq_true rfl) (by decide) (kk_PI (fun v1 => ?_))
  refine g_if_eq (t := 18) (q := 8) dX11_rounded_5 (by decide) rfl ?_ ?_
  · refine g_iconst (q := 19) dX11_rounded_18 kI_m1 rfl ?_
    refine g_goto (t := 37) dX11_rounded_19 (by decide) ?_
    exact (g_iret dX11_rounded_37)
  · refine g_iload_n (q := 9) 2 dX11_rounded_8 rfl rfl rfl ?_
    refine g_iconst (q := 10) dX11_rounded_9 kI_2 rfl ?_
    refine g_bipush (q := 12) dX11_rounded_10 kB_30 rfl ?_
    refine g_callT (As := [.int a2, .int (2 : Int32), .int (30 : Int32)]) (st := []) (cn_X11_in) cwX11_313 rfl dX11_rounded_12 rfl (Nat.le_of_ble_eq_true rfl) (by decide) (kk_PI (fun v3 => ?_))
    refine g_if_ne (t := 22) (q := 18) dX11_rounded_15 (by decide) rfl ?_ ?_
    · refine g_iconst (q := 19) dX11_rounded_18 kI_m1 rfl ?_
      refine g_goto (t := 37) dX11_rounded_19 (by decide) ?_
      exact (g_iret dX11_rounded_37)
    · refine g_aload_n (q := 23) 0 dX11_rounded_22 rfl rfl rfl ?_
      refine g_iload_n (q := 24) 1 dX11_rounded_23 rfl rfl rfl ?_
      refine g_aload_n (q := 25) 0 dX11_rounded_24 rfl rfl rfl ?_
      refine g_getA (q := 28) fX11_minutes dX11_rounded_25 ww1094 rfl ?_
      refine g_iload_n (q := 29) 1 dX11_rounded_28 rfl rfl rfl ?_
      refine g_iald (q := 30) (aX11_minutes) dX11_rounded_29 rfl ?_
      refine g_iload_n (q := 31) 2 dX11_rounded_30 rfl rfl rfl ?_
      refine g_callT (As := [.int (σ.1 35 a1.toNatClampNeg), .int a2]) (st := [.int a1, .ref (b + 0)]) (cn_X11_round) cwX11_340 rfl dX11_rounded_31 rfl (Nat.le_of_ble_eq_true rfl) (by decide) (kk_PI (fun v5 => ?_))
      refine g_callO (As := [.int a1, .int v5]) (st := []) (cn_X11_signsOf) shX11 rfl cwX11_337 rfl dX11_rounded_34 rfl (Nat.le_of_ble_eq_true rfl) (by decide) (kk_I (fun v7 s8 => ?_))
      exact (g_iret dX11_rounded_37)
noncomputable def pX11_moved (a1 : Int32) (a2 : Int32) (a3 : Int32) (σ : gS) : Option (Int32 × gS) := bn1 (pX11_isPerson a1 σ) (fun v1 => if v1 = 0 then some ((-1 : Int32), σ) else bn1 (pX11_in a2 (0 : Int32) (30 : Int32)) (fun v3 => if v3 = 0 then some ((-1 : Int32), σ) else bn1 (if a3 = 0 then gx (σ.1 0 18) 2 (some (((1 : Int32) <<< ((σ.1 11 (σ.1 0 18).toNatClampNeg) &&& (31 : Int32))) - (1 : Int32))) else some (0 : Int32)) (fun (z5 : Int32) => lt' (-a2) (fun x6 => bn1 (lpP (fun (z8 : (Int32 × Int32 × gS)) => if a2 < z8.1 then some (.inr (z8.2.1, z8.2.2)) else gx a1 20 (g0 (60 : Int32) (bn2 (pX11_signsOf a1 ((((z8.2.2.1 35 a1.toNatClampNeg) + z8.1) + (60 : Int32)) - (((z8.2.2.1 35 a1.toNatClampNeg) + z8.1) + (60 : Int32)) / (60 : Int32) * (60 : Int32)) z8.2.2) (fun v9 s10 => if a3 = 0 then lt' (z8.2.1 &&& v9) (fun x11 => lt' (z8.1 + (1 : Int32)) (fun x12 => some (.inl (x12, x11, s10)))) else lt' (z8.2.1 ||| v9) (fun x13 => lt' (z8.1 + (1 : Int32)) (fun x14 => some (.inl (x14, x13, s10)))))))) (x6, z5, σ)) (fun (z7 : (Int32 × gS)) => some (z7.1, z7.2))))))
set_option maxRecDepth 100000 in
theorem cn_X11_moved {G : gG} {b : Nat} {a1 : Int32} {a2 : Int32} {a3 : Int32} {σ : gS} : CN vR G b 6 yX11_moved cX11_moved 7 (some .int) kI [.ref (b + 0), .int a1, .int a2, .int a3] σ (pX11_moved a1 a2 a3 σ) := by
  refine cn_of (own := RX11) rfl rfl (Nat.le_of_ble_eq_true rfl) ?_
  show GF vR G b (6, 0, 0) RX11 cX11_moved 7 (some .int) kI 0 [(0, .ref (b + 0)), (1, .int a1), (2, .int a2), (3, .int a3)] [] σ (pX11_moved a1 a2 a3 σ)
  unfold pX11_moved
  refine g_aload_n (q := 1) 0 dX11_moved_0 rfl rfl rfl ?_
  refine g_iload_n (q := 2) 1 dX11_moved_1 rfl rfl rfl ?_
  refine g_callO (As := [.int a1]) (st := []) (cn_X11_isPerson) shX11 rfl cwX11_328 rfl dX11_moved_2 rfl (Nat.le_of_ble_eq_true rfl) (by decide) (kk_PI (fun v1 => ?_))
  refine g_if_eq (t := 18) (q := 8) dX11_moved_5 (by decide) rfl ?_ ?_
  · refine g_iconst (q := 19) dX11_moved_18 kI_m1 rfl ?_
    exact (g_iret dX11_moved_19)
  · refine g_iload_n (q := 9) 2 dX11_moved_8 rfl rfl rfl ?_
    refine g_iconst (q := 10) dX11_moved_9 kI_0 rfl ?_
    refine g_bipush (q := 12) dX11_moved_10 kB_30 rfl ?_
    refine g_callT (As := [.int a2, .int (0 : Int32), .int (30 : Int32)]) (st := []) (cn_X11_in) cwX11_313 rfl dX11_moved_12 rfl (Nat.le_of_ble_eq_true rfl) (by decide) (kk_PI (fun v3 => ?_))
    refine g_if_ne (t := 20) (q := 18) dX11_moved_15 (by decide) rfl ?_ ?_
    · refine g_iconst (q := 19) dX11_moved_18 kI_m1 rfl ?_
      exact (g_iret dX11_moved_19)
    · refine g_iload_n (q := 21) 3 dX11_moved_20 rfl rfl rfl ?_
      refine g_bind (S := Int32) (hd := 41) (lvf := fun z5 => [(0, .ref (b + 0)), (1, .int a1), (2, .int a2), (3, .int a3)]) (stf := fun z5 => [.int z5]) (σf := fun z5 => σ) ?_ (fun z5 => ?_)
      · refine g_if_eq (t := 28) (q := 24) dX11_moved_21 (by decide) rfl ?_ ?_
        · refine g_iconst (q := 29) dX11_moved_28 kI_1 rfl ?_
          refine g_aload_n (q := 30) 0 dX11_moved_29 rfl rfl rfl ?_
          refine g_getA (q := 33) fX11_signs dX11_moved_30 ww1066 rfl ?_
          refine g_aload_n (q := 34) 0 dX11_moved_33 rfl rfl rfl ?_
          refine g_getI (q := 37) fX11_live dX11_moved_34 ww1060 rfl ?_
          refine g_iald (q := 38) (aX11_signs) dX11_moved_37 rfl ?_
          refine g_ishl (q := 39) dX11_moved_38 rfl ?_
          refine g_iconst (q := 40) dX11_moved_39 kI_1 rfl ?_
          refine g_isub (q := 41) dX11_moved_40 rfl ?_
          exact (g_there (((1 : Int32) <<< ((σ.1 11 (σ.1 0 18).toNatClampNeg) &&& (31 : Int32))) - (1 : Int32) : Int32))
        · refine g_iconst (q := 25) dX11_moved_24 kI_0 rfl ?_
          refine g_goto (t := 41) dX11_moved_25 (by decide) ?_
          exact (g_there ((0 : Int32) : Int32))
      · refine g_istore (lr := [(0, .ref (b + 0)), (1, .int a1), (2, .int a2), (3, .int a3)]) (q := 43) dX11_moved_41 (by decide) rfl rfl ?_
        refine g_iload_n (q := 44) 3 dX11_moved_43 rfl rfl rfl ?_
        refine g_ineg (q := 45) dX11_moved_44 rfl ?_
        refine g_leti (fun x6 => ?_)
        refine g_istore (lr := [(4, .int z5), (0, .ref (b + 0)), (1, .int a1), (2, .int a2), (3, .int a3)]) (q := 47) dX11_moved_45 (by decide) rfl rfl ?_
        refine g_bind (S := (Int32 × gS)) (hd := 100) (lvf := fun z7 => [(4, .int z7.1)]) (stf := fun z7 => []) (σf := fun z7 => z7.2) ?_ (fun z7 => ?_)
        · refine g_loop (S := (Int32 × Int32 × gS)) (lvf := fun z8 => [(5, .int z8.1), (4, .int z8.2.1), (0, .ref (b + 0)), (1, .int a1), (2, .int a2), (3, .int a3)]) (σf := fun z8 => z8.2.2) (fun z8 => ?_) (x6, z5, σ)
          refine g_iload (q := 49) 0 dX11_moved_47 rfl rfl ?_
          refine g_iload_n (q := 50) 4 dX11_moved_49 rfl rfl rfl ?_
          refine g_icmp_gt (t := 100) (q := 53) dX11_moved_50 (by decide) rfl ?_ ?_
          · refine g_sub (lr := [(4, .int z8.2.1)]) [1] rfl ?_
            exact (g_leave (g_there ((z8.2.1, z8.2.2) : (Int32 × gS))))
          · refine g_aload_n (q := 54) 2 dX11_moved_53 rfl rfl rfl ?_
            refine g_iload_n (q := 55) 3 dX11_moved_54 rfl rfl rfl ?_
            refine g_aload_n (q := 56) 2 dX11_moved_55 rfl rfl rfl ?_
            refine g_getA (q := 59) fX11_minutes dX11_moved_56 ww1094 rfl ?_
            refine g_iload_n (q := 60) 3 dX11_moved_59 rfl rfl rfl ?_
            refine g_iald (q := 61) (aX11_minutes) dX11_moved_60 rfl ?_
            refine g_iload (q := 63) 0 dX11_moved_61 rfl rfl ?_
            refine g_iadd (q := 64) dX11_moved_63 rfl ?_
            refine g_bipush (q := 66) dX11_moved_64 kB_60 rfl ?_
            refine g_iadd (q := 67) dX11_moved_66 rfl ?_
            refine g_bipush (q := 69) dX11_moved_67 kB_60 rfl ?_
            refine g_irem (q := 70) dX11_moved_69 rfl ?_
            refine g_callO (As := [.int a1, .int ((((z8.2.2.1 35 a1.toNatClampNeg) + z8.1) + (60 : Int32)) - (((z8.2.2.1 35 a1.toNatClampNeg) + z8.1) + (60 : Int32)) / (60 : Int32) * (60 : Int32))]) (st := []) (cn_X11_signsOf) shX11 rfl cwX11_337 rfl dX11_moved_70 rfl (Nat.le_of_ble_eq_true rfl) (by decide) (kk_I (fun v9 s10 => ?_))
            refine g_istore (lr := [(5, .int z8.1), (4, .int z8.2.1), (0, .ref (b + 0)), (1, .int a1), (2, .int a2), (3, .int a3)]) (q := 75) dX11_moved_73 (by decide) rfl rfl ?_
            refine g_iload_n (q := 76) 6 dX11_moved_75 rfl rfl rfl ?_
            refine g_if_eq (t := 87) (q := 79) dX11_moved_76 (by decide) rfl ?_ ?_
            · refine g_iload (q := 89) 2 dX11_moved_87 rfl rfl ?_
              refine g_iload (q := 91) 0 dX11_moved_89 rfl rfl ?_
              refine g_iand (q := 92) dX11_moved_91 rfl ?_
              refine g_leti (fun x11 => ?_)
              refine g_istore (lr := [(6, .int v9), (5, .int z8.1), (0, .ref (b + 0)), (1, .int a1), (2, .int a2), (3, .int a3)]) (q := 94) dX11_moved_92 (by decide) rfl rfl ?_
              refine g_iinc (lr := [(4, .int x11), (6, .int v9), (0, .ref (b + 0)), (1, .int a1), (2, .int a2), (3, .int a3)]) (q := 97) 2 dX11_moved_94 rfl kI_1 (by decide) rfl rfl (fun x12 => ?_)
              refine g_goto (t := 47) dX11_moved_97 (by decide) ?_
              refine g_sub (lr := [(5, .int x12), (4, .int x11), (0, .ref (b + 0)), (1, .int a1), (2, .int a2), (3, .int a3)]) [0, 1, 3, 4, 5, 6] rfl ?_
              exact (g_again ((x12, x11, s10) : (Int32 × Int32 × gS)))
            · refine g_iload (q := 81) 2 dX11_moved_79 rfl rfl ?_
              refine g_iload (q := 83) 0 dX11_moved_81 rfl rfl ?_
              refine g_ior (q := 84) dX11_moved_83 rfl ?_
              refine g_goto (t := 92) dX11_moved_84 (by decide) ?_
              refine g_leti (fun x13 => ?_)
              refine g_istore (lr := [(6, .int v9), (5, .int z8.1), (0, .ref (b + 0)), (1, .int a1), (2, .int a2), (3, .int a3)]) (q := 94) dX11_moved_92 (by decide) rfl rfl ?_
              refine g_iinc (lr := [(4, .int x13), (6, .int v9), (0, .ref (b + 0)), (1, .int a1), (2, .int a2), (3, .int a3)]) (q := 97) 2 dX11_moved_94 rfl kI_1 (by decide) rfl rfl (fun x14 => ?_)
              refine g_goto (t := 47) dX11_moved_97 (by decide) ?_
              refine g_sub (lr := [(5, .int x14), (4, .int x13), (0, .ref (b + 0)), (1, .int a1), (2, .int a2), (3, .int a3)]) [0, 1, 3, 4, 5, 6] rfl ?_
              exact (g_again ((x14, x13, s10) : (Int32 × Int32 × gS)))
        · refine g_iload (q := 102) 0 dX11_moved_100 rfl rfl ?_
          exact (g_iret dX11_moved_102)
noncomputable def pX11_isTrueOf (a1 : Int32) (a2 : Int32) (σ : gS) : Option (Int32 × gS) := gx a2 20 (bn1 (pX11_looksAt a2 (σ.1 35 a2.toNatClampNeg) σ) (fun s2 => bn2 (pX11_holdsRule ((((26 : Int32) * (s2.1 0 18)) + (6 : Int32)) + a1) s2) (fun v3 s4 => some (v3 &&& 1, s4))))
set_option maxRecDepth 100000 in
theorem cn_X11_isTrueOf {G : gG} {b : Nat} {a1 : Int32} {a2 : Int32} {σ : gS} : CN vR G b 4 yX11_isTrueOf cX11_isTrueOf 3 (some .boolean) kI [.ref (b + 0), .int a1, .int a2] σ (pX11_isTrueOf a1 a2 σ) := by
  refine cn_of (own := RX11) rfl rfl (Nat.le_of_ble_eq_true rfl) ?_
  show GF vR G b (4, 0, 0) RX11 cX11_isTrueOf 3 (some .boolean) kI 0 [(0, .ref (b + 0)), (1, .int a1), (2, .int a2)] [] σ (pX11_isTrueOf a1 a2 σ)
  unfold pX11_isTrueOf
  refine g_aload_n (q := 1) 0 dX11_isTrueOf_0 rfl rfl rfl ?_
  refine g_iload_n (q := 2) 2 dX11_isTrueOf_1 rfl rfl rfl ?_
  refine g_aload_n (q := 3) 0 dX11_isTrueOf_2 rfl rfl rfl ?_
  refine g_getA (q := 6) fX11_minutes dX11_isTrueOf_3 ww1094 rfl ?_
  refine g_iload_n (q := 7) 2 dX11_isTrueOf_6 rfl rfl rfl ?_
  refine g_iald (q := 8) (aX11_minutes) dX11_isTrueOf_7 rfl ?_
  refine g_callO (As := [.int a2, .int (σ.1 35 a2.toNatClampNeg)]) (st := []) (cn_X11_looksAt) shX11 rfl cwX11_331 rfl dX11_isTrueOf_8 rfl (Nat.le_of_ble_eq_true rfl) (by decide) (kk_V (fun s2 => ?_))
  refine g_aload_n (q := 12) 0 dX11_isTrueOf_11 rfl rfl rfl ?_
  refine g_bipush (q := 14) dX11_isTrueOf_12 kB_26 rfl ?_
  refine g_aload_n (q := 15) 0 dX11_isTrueOf_14 rfl rfl rfl ?_
  refine g_getI (q := 18) fX11_live dX11_isTrueOf_15 ww1060 rfl ?_
  refine g_imul (q := 19) dX11_isTrueOf_18 rfl ?_
  refine g_bipush (q := 21) dX11_isTrueOf_19 kB_6 rfl ?_
  refine g_iadd (q := 22) dX11_isTrueOf_21 rfl ?_
  refine g_iload_n (q := 23) 1 dX11_isTrueOf_22 rfl rfl rfl ?_
  refine g_iadd (q := 24) dX11_isTrueOf_23 rfl ?_
  refine g_callO (As := [.int ((((26 : Int32) * (s2.1 0 18)) + (6 : Int32)) + a1)]) (st := []) (cn_X11_holdsRule) shX11 rfl cwX11_334 rfl dX11_isTrueOf_24 rfl (Nat.le_of_ble_eq_true rfl) (by decide) (kk_I (fun v3 s4 => ?_))
  exact (g_bret dX11_isTrueOf_27)
noncomputable def pX11_holds (a1 : Int32) (a2 : Int32) (σ : gS) : Option (Int32 × gS) := bn1 (pX11_isSay a1 σ) (fun v1 => if v1 = 0 then some ((-1 : Int32), σ) else bn1 (pX11_isPerson a2 σ) (fun v3 => if v3 = 0 then some ((-1 : Int32), σ) else bn2 (pX11_isTrueOf a1 a2 σ) (fun v5 s6 => if v5 = 0 then some ((0 : Int32), s6) else some ((1 : Int32), s6))))
set_option maxRecDepth 100000 in
theorem cn_X11_holds {G : gG} {b : Nat} {a1 : Int32} {a2 : Int32} {σ : gS} : CN vR G b 5 yX11_holds cX11_holds 3 (some .int) kI [.ref (b + 0), .int a1, .int a2] σ (pX11_holds a1 a2 σ) := by
  refine cn_of (own := RX11) rfl rfl (Nat.le_of_ble_eq_true rfl) ?_
  show GF vR G b (5, 0, 0) RX11 cX11_holds 3 (some .int) kI 0 [(0, .ref (b + 0)), (1, .int a1), (2, .int a2)] [] σ (pX11_holds a1 a2 σ)
  unfold pX11_holds
  refine g_aload_n (q := 1) 0 dX11_holds_0 rfl rfl rfl ?_
  refine g_iload_n (q := 2) 1 dX11_holds_1 rfl rfl rfl ?_
  refine g_callO (As := [.int a1]) (st := []) (cn_X11_isSay) shX11 rfl cwX11_343 rfl dX11_holds_2 rfl (Nat.le_of_ble_eq_true rfl) (by decide) (kk_PI (fun v1 => ?_))
  refine g_if_eq (t := 16) (q := 8) dX11_holds_5 (by decide) rfl ?_ ?_
  · refine g_iconst (q := 17) dX11_holds_16 kI_m1 rfl ?_
    refine g_goto (t := 34) dX11_holds_17 (by decide) ?_
    exact (g_iret dX11_holds_34)
  · refine g_aload_n (q := 9) 0 dX11_holds_8 rfl rfl rfl ?_
    refine g_iload_n (q := 10) 2 dX11_holds_9 rfl rfl rfl ?_
    refine g_callO (As := [.int a2]) (st := []) (cn_X11_isPerson) shX11 rfl cwX11_328 rfl dX11_holds_10 rfl (Nat.le_of_ble_eq_true rfl) (by decide) (kk_PI (fun v3 => ?_))
    refine g_if_ne (t := 20) (q := 16) dX11_holds_13 (by decide) rfl ?_ ?_
    · refine g_iconst (q := 17) dX11_holds_16 kI_m1 rfl ?_
      refine g_goto (t := 34) dX11_holds_17 (by decide) ?_
      exact (g_iret dX11_holds_34)
    · refine g_aload_n (q := 21) 0 dX11_holds_20 rfl rfl rfl ?_
      refine g_iload_n (q := 22) 1 dX11_holds_21 rfl rfl rfl ?_
      refine g_iload_n (q := 23) 2 dX11_holds_22 rfl rfl rfl ?_
      refine g_callO (As := [.int a1, .int a2]) (st := []) (cn_X11_isTrueOf) shX11 rfl cwX11_346 rfl dX11_holds_23 rfl (Nat.le_of_ble_eq_true rfl) (by decide) (kk_I (fun v5 s6 => ?_))
      refine g_if_eq (t := 33) (q := 29) dX11_holds_26 (by decide) rfl ?_ ?_
      · refine g_iconst (q := 34) dX11_holds_33 kI_0 rfl ?_
        exact (g_iret dX11_holds_34)
      · refine g_iconst (q := 30) dX11_holds_29 kI_1 rfl ?_
        refine g_goto (t := 34) dX11_holds_30 (by decide) ?_
        exact (g_iret dX11_holds_34)
noncomputable def pX11_sort (a1 : Int32) (σ : gS) : Option (Int32) := bn1 (pX11_isSay a1 σ) (fun v1 => if v1 = 0 then some ((-1 : Int32)) else gx (((16 : Int32) * (σ.1 0 18)) + a1) 32 (some (σ.1 15 (((16 : Int32) * (σ.1 0 18)) + a1).toNatClampNeg)))
set_option maxRecDepth 100000 in
theorem cn_X11_sort {G : gG} {b : Nat} {a1 : Int32} {σ : gS} : CN vR G b 3 yX11_sort cX11_sort 2 (some .int) (kPI σ) [.ref (b + 0), .int a1] σ (pX11_sort a1 σ) := by
  refine cn_of (own := RX11) rfl rfl (Nat.le_of_ble_eq_true rfl) ?_
  show GF vR G b (3, 0, 0) RX11 cX11_sort 2 (some .int) (kPI σ) 0 [(0, .ref (b + 0)), (1, .int a1)] [] σ (pX11_sort a1 σ)
  unfold pX11_sort
  refine g_aload_n (q := 1) 0 dX11_sort_0 rfl rfl rfl ?_
  refine g_iload_n (q := 2) 1 dX11_sort_1 rfl rfl rfl ?_
  refine g_callO (As := [.int a1]) (st := []) (cn_X11_isSay) shX11 rfl cwX11_343 rfl dX11_sort_2 rfl (Nat.le_of_ble_eq_true rfl) (by decide) (kk_PI (fun v1 => ?_))
  refine g_if_eq (t := 25) (q := 8) dX11_sort_5 (by decide) rfl ?_ ?_
  · refine g_iconst (q := 26) dX11_sort_25 kI_m1 rfl ?_
    exact (g_iretP dX11_sort_26)
  · refine g_aload_n (q := 9) 0 dX11_sort_8 rfl rfl rfl ?_
    refine g_getA (q := 12) fX11_sortOf dX11_sort_9 ww1070 rfl ?_
    refine g_bipush (q := 14) dX11_sort_12 kB_16 rfl ?_
    refine g_aload_n (q := 15) 0 dX11_sort_14 rfl rfl rfl ?_
    refine g_getI (q := 18) fX11_live dX11_sort_15 ww1060 rfl ?_
    refine g_imul (q := 19) dX11_sort_18 rfl ?_
    refine g_iload_n (q := 20) 1 dX11_sort_19 rfl rfl rfl ?_
    refine g_iadd (q := 21) dX11_sort_20 rfl ?_
    refine g_iald (q := 22) (aX11_sortOf) dX11_sort_21 rfl ?_
    refine g_goto (t := 26) dX11_sort_22 (by decide) ?_
    exact (g_iretP dX11_sort_26)
noncomputable def pX11_paperBy (a1 : Int32) (a2 : Int32) (σ : gS) : Option (Int32) := lt' ((40 : Int32) * (σ.1 0 18)) (fun x1 => bn1 (lpP (fun (z3 : (Int32 × Int32)) => gx (σ.1 0 18) 2 (if (((40 : Int32) * (σ.1 0 18)) + (σ.1 16 (σ.1 0 18).toNatClampNeg)) ≤ z3.1 then some (.inr z3.2) else gx z3.1 80 (if (σ.1 17 z3.1.toNatClampNeg) = a1 then gx z3.1 80 (if ((a2 >>> ((σ.1 18 z3.1.toNatClampNeg) &&& (31 : Int32))) &&& (1 : Int32)) = (1 : Int32) then gx z3.1 80 (lt' (z3.2 ||| ((1 : Int32) <<< ((σ.1 19 z3.1.toNatClampNeg) &&& (31 : Int32)))) (fun x4 => lt' (z3.1 + (1 : Int32)) (fun x5 => some (.inl (x5, x4))))) else lt' (z3.1 + (1 : Int32)) (fun x6 => some (.inl (x6, z3.2)))) else lt' (z3.1 + (1 : Int32)) (fun x7 => some (.inl (x7, z3.2)))))) (x1, (0 : Int32))) (fun (z2 : Int32) => some (z2)))
set_option maxRecDepth 100000 in
theorem cn_X11_paperBy {G : gG} {b : Nat} {a1 : Int32} {a2 : Int32} {σ : gS} : CN vR G b 1 yX11_paperBy cX11_paperBy 5 (some .int) (kPI σ) [.ref (b + 0), .int a1, .int a2] σ (pX11_paperBy a1 a2 σ) := by
  refine cn_of (own := RX11) rfl rfl (Nat.le_of_ble_eq_true rfl) ?_
  show GF vR G b (1, 0, 0) RX11 cX11_paperBy 5 (some .int) (kPI σ) 0 [(0, .ref (b + 0)), (1, .int a1), (2, .int a2)] [] σ (pX11_paperBy a1 a2 σ)
  unfold pX11_paperBy
  refine g_iconst (q := 1) dX11_paperBy_0 kI_0 rfl ?_
  refine g_istore_n (lr := [(0, .ref (b + 0)), (1, .int a1), (2, .int a2)]) (q := 2) dX11_paperBy_1 rfl (by decide) rfl rfl ?_
  refine g_bipush (q := 4) dX11_paperBy_2 kB_40 rfl ?_
  refine g_aload_n (q := 5) 1 dX11_paperBy_4 rfl rfl rfl ?_
  refine g_getI (q := 8) fX11_live dX11_paperBy_5 ww1060 rfl ?_
  refine g_imul (q := 9) dX11_paperBy_8 rfl ?_
  refine g_leti (fun x1 => ?_)
  refine g_istore (lr := [(3, .int (0 : Int32)), (0, .ref (b + 0)), (1, .int a1), (2, .int a2)]) (q := 11) dX11_paperBy_9 (by decide) rfl rfl ?_
  refine g_bind (S := Int32) (hd := 77) (lvf := fun z2 => [(3, .int z2)]) (stf := fun z2 => []) (σf := fun z2 => σ) ?_ (fun z2 => ?_)
  · refine g_loop (S := (Int32 × Int32)) (lvf := fun z3 => [(4, .int z3.1), (3, .int z3.2), (0, .ref (b + 0)), (1, .int a1), (2, .int a2)]) (σf := fun z3 => σ) (fun z3 => ?_) (x1, (0 : Int32))
    refine g_iload (q := 13) 0 dX11_paperBy_11 rfl rfl ?_
    refine g_bipush (q := 15) dX11_paperBy_13 kB_40 rfl ?_
    refine g_aload_n (q := 16) 2 dX11_paperBy_15 rfl rfl rfl ?_
    refine g_getI (q := 19) fX11_live dX11_paperBy_16 ww1060 rfl ?_
    refine g_imul (q := 20) dX11_paperBy_19 rfl ?_
    refine g_aload_n (q := 21) 2 dX11_paperBy_20 rfl rfl rfl ?_
    refine g_getA (q := 24) fX11_whens dX11_paperBy_21 ww1071 rfl ?_
    refine g_aload_n (q := 25) 2 dX11_paperBy_24 rfl rfl rfl ?_
    refine g_getI (q := 28) fX11_live dX11_paperBy_25 ww1060 rfl ?_
    refine g_iald (q := 29) (aX11_whens) dX11_paperBy_28 rfl ?_
    refine g_iadd (q := 30) dX11_paperBy_29 rfl ?_
    refine g_icmp_ge (t := 77) (q := 33) dX11_paperBy_30 (by decide) rfl ?_ ?_
    · refine g_sub (lr := [(3, .int z3.2)]) [1] rfl ?_
      exact (g_leave (g_there (z3.2 : Int32)))
    · refine g_aload_n (q := 34) 2 dX11_paperBy_33 rfl rfl rfl ?_
      refine g_getA (q := 37) fX11_whenBook dX11_paperBy_34 ww1072 rfl ?_
      refine g_iload (q := 39) 0 dX11_paperBy_37 rfl rfl ?_
      refine g_iald (q := 40) (aX11_whenBook) dX11_paperBy_39 rfl ?_
      refine g_iload_n (q := 41) 3 dX11_paperBy_40 rfl rfl rfl ?_
      refine g_icmp_ne (t := 71) (q := 44) dX11_paperBy_41 (by decide) rfl ?_ ?_
      · refine g_iload_n (q := 45) 4 dX11_paperBy_44 rfl rfl rfl ?_
        refine g_aload_n (q := 46) 2 dX11_paperBy_45 rfl rfl rfl ?_
        refine g_getA (q := 49) fX11_whenSign dX11_paperBy_46 ww1073 rfl ?_
        refine g_iload (q := 51) 0 dX11_paperBy_49 rfl rfl ?_
        refine g_iald (q := 52) (aX11_whenSign) dX11_paperBy_51 rfl ?_
        refine g_ishr (q := 53) dX11_paperBy_52 rfl ?_
        refine g_iconst (q := 54) dX11_paperBy_53 kI_1 rfl ?_
        refine g_iand (q := 55) dX11_paperBy_54 rfl ?_
        refine g_iconst (q := 56) dX11_paperBy_55 kI_1 rfl ?_
        refine g_icmp_ne (t := 71) (q := 59) dX11_paperBy_56 (by decide) rfl ?_ ?_
        · refine g_iload_n (q := 60) 1 dX11_paperBy_59 rfl rfl rfl ?_
          refine g_iconst (q := 61) dX11_paperBy_60 kI_1 rfl ?_
          refine g_aload_n (q := 62) 2 dX11_paperBy_61 rfl rfl rfl ?_
          refine g_getA (q := 65) fX11_whenSay dX11_paperBy_62 ww1074 rfl ?_
          refine g_iload (q := 67) 0 dX11_paperBy_65 rfl rfl ?_
          refine g_iald (q := 68) (aX11_whenSay) dX11_paperBy_67 rfl ?_
          refine g_ishl (q := 69) dX11_paperBy_68 rfl ?_
          refine g_ior (q := 70) dX11_paperBy_69 rfl ?_
          refine g_leti (fun x4 => ?_)
          refine g_istore_n (lr := [(4, .int z3.1), (0, .ref (b + 0)), (1, .int a1), (2, .int a2)]) (q := 71) dX11_paperBy_70 rfl (by decide) rfl rfl ?_
          refine g_iinc (lr := [(3, .int x4), (0, .ref (b + 0)), (1, .int a1), (2, .int a2)]) (q := 74) 1 dX11_paperBy_71 rfl kI_1 (by decide) rfl rfl (fun x5 => ?_)
          refine g_goto (t := 11) dX11_paperBy_74 (by decide) ?_
          exact (g_again ((x5, x4) : (Int32 × Int32)))
        · refine g_iinc (lr := [(3, .int z3.2), (0, .ref (b + 0)), (1, .int a1), (2, .int a2)]) (q := 74) 0 dX11_paperBy_71 rfl kI_1 (by decide) rfl rfl (fun x6 => ?_)
          refine g_goto (t := 11) dX11_paperBy_74 (by decide) ?_
          exact (g_again ((x6, z3.2) : (Int32 × Int32)))
      · refine g_iinc (lr := [(3, .int z3.2), (0, .ref (b + 0)), (1, .int a1), (2, .int a2)]) (q := 74) 0 dX11_paperBy_71 rfl kI_1 (by decide) rfl rfl (fun x7 => ?_)
        refine g_goto (t := 11) dX11_paperBy_74 (by decide) ?_
        exact (g_again ((x7, z3.2) : (Int32 × Int32)))
  · refine g_iload_n (q := 78) 0 dX11_paperBy_77 rfl rfl rfl ?_
    exact (g_iretP dX11_paperBy_78)
noncomputable def pX11_paperOf (a1 : Int32) (a2 : Int32) (σ : gS) : Option (Int32 × gS) := gx a2 20 (bn2 (pX11_signsOf a2 (σ.1 35 a2.toNatClampNeg) σ) (fun v1 s2 => bn1 (pX11_paperBy a1 v1 s2) (fun v3 => some (v3, s2))))
set_option maxRecDepth 100000 in
theorem cn_X11_paperOf {G : gG} {b : Nat} {a1 : Int32} {a2 : Int32} {σ : gS} : CN vR G b 6 yX11_paperOf cX11_paperOf 3 (some .int) kI [.ref (b + 0), .int a1, .int a2] σ (pX11_paperOf a1 a2 σ) := by
  refine cn_of (own := RX11) rfl rfl (Nat.le_of_ble_eq_true rfl) ?_
  show GF vR G b (6, 0, 0) RX11 cX11_paperOf 3 (some .int) kI 0 [(0, .ref (b + 0)), (1, .int a1), (2, .int a2)] [] σ (pX11_paperOf a1 a2 σ)
  unfold pX11_paperOf
  refine g_aload_n (q := 1) 0 dX11_paperOf_0 rfl rfl rfl ?_
  refine g_iload_n (q := 2) 1 dX11_paperOf_1 rfl rfl rfl ?_
  refine g_aload_n (q := 3) 0 dX11_paperOf_2 rfl rfl rfl ?_
  refine g_iload_n (q := 4) 2 dX11_paperOf_3 rfl rfl rfl ?_
  refine g_aload_n (q := 5) 0 dX11_paperOf_4 rfl rfl rfl ?_
  refine g_getA (q := 8) fX11_minutes dX11_paperOf_5 ww1094 rfl ?_
  refine g_iload_n (q := 9) 2 dX11_paperOf_8 rfl rfl rfl ?_
  refine g_iald (q := 10) (aX11_minutes) dX11_paperOf_9 rfl ?_
  refine g_callO (As := [.int a2, .int (σ.1 35 a2.toNatClampNeg)]) (st := [.int a1, .ref (b + 0)]) (cn_X11_signsOf) shX11 rfl cwX11_337 rfl dX11_paperOf_10 rfl (Nat.le_of_ble_eq_true rfl) (by decide) (kk_I (fun v1 s2 => ?_))
  refine g_callO (As := [.int a1, .int v1]) (st := []) (cn_X11_paperBy) shX11 rfl cwX11_350 rfl dX11_paperOf_13 rfl (Nat.le_of_ble_eq_true rfl) (by decide) (kk_PI (fun v3 => ?_))
  exact (g_iret dX11_paperOf_16)
