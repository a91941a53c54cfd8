noncomputable def pX11_within (a1 : Int32) (a2 : Int32) (a3 : Int32) (a4 : Int32) (σ : gS) : Option (Int64 × gS) := bn1 (pX11_isSign a1 σ) (fun v1 => if v1 = 0 then some ((-1 : Int64), σ) else bn1 (pX11_isSay a2 σ) (fun v3 => if v3 = 0 then some ((-1 : Int64), σ) else bn1 (pX11_in a3 (0 : Int32) (2 : Int32)) (fun v5 => if v5 = 0 then some ((-1 : Int64), σ) else bn2 (pX11_upSet a1 σ) (fun v7 s8 => bn2 (pX11_trueSet a2 s8) (fun v9 s10 => bn1 (lpP (fun (z12 : (Int32 × gS)) => if (21 : Int32) ≤ z12.1 then some (.inr z12.2) else if z12.1 = 0 then gx z12.1 21 (lt' (wL z12.2 41 z12.1.toNatClampNeg (1 : Int64)) (fun s13 => lt' (z12.1 + (1 : Int32)) (fun x14 => some (.inl (x14, s13))))) else gx z12.1 21 (lt' (wL z12.2 41 z12.1.toNatClampNeg (0 : Int64)) (fun s15 => lt' (z12.1 + (1 : Int32)) (fun x16 => some (.inl (x16, s15)))))) ((0 : Int32), s10)) (fun (z11 : gS) => bn1 (lpP (fun (z18 : (Int32 × gS)) => if (10 : Int32) ≤ z18.1 then some (.inr z18.2) else bn1 (lpP (fun (z20 : (Int32 × Int32)) => if (z18.2.1 0 51) ≤ z20.1 then some (.inr z20.2) else bn1 (pX11_classOf z20.1 a3 z18.2) (fun v21 => if v21 = z18.1 then lt' (z20.2 ||| ((1 : Int32) <<< (z20.1 &&& (31 : Int32)))) (fun x23 => lt' (z20.1 + (1 : Int32)) (fun x24 => some (.inl (x24, x23)))) else lt' (z20.1 + (1 : Int32)) (fun x25 => some (.inl (x25, z20.2))))) ((0 : Int32), (0 : Int32))) (fun (z19 : Int32) => bn1 (pX11_bits z19) (fun v26 => bn1 (pX11_bits (z19 &&& v7)) (fun v28 => bn1 (pX11_bits (z19 &&& v9)) (fun v30 => bn1 (lpP (fun (z33 : (Int32 × gS)) => if (21 : Int32) ≤ z33.1 then some (.inr z33.2) else gx z33.1 21 (lt' (wL z33.2 42 z33.1.toNatClampNeg (0 : Int64)) (fun s34 => lt' (z33.1 + (1 : Int32)) (fun x35 => some (.inl (x35, s34)))))) ((0 : Int32), z18.2)) (fun (z32 : gS) => bn1 (lpP (fun (z37 : (Int32 × gS)) => if (21 : Int32) ≤ z37.1 then some (.inr z37.2) else bn1 (lpP (fun (z39 : (Int32 × gS)) => if v30 < z39.1 then some (.inr z39.2) else if (21 : Int32) ≤ (z37.1 + z39.1) then some (.inr z39.2) else gx (z37.1 + z39.1) 21 (gx z37.1 21 (bn1 (pX11_picks v30 z39.1) (fun v40 => bn1 (pX11_picks (v26 - v30) (v28 - z39.1)) (fun v42 => gx (z37.1 + z39.1) 21 (lt' (wL z39.2 42 (z37.1 + z39.1).toNatClampNeg ((z39.2.2.1 42 (z37.1 + z39.1).toNatClampNeg) + (((z39.2.2.1 41 z37.1.toNatClampNeg) * v40) * v42))) (fun s44 => lt' (z39.1 + (1 : Int32)) (fun x45 => some (.inl (x45, s44)))))))))) ((0 : Int32), z37.2)) (fun (z38 : gS) => lt' (z37.1 + (1 : Int32)) (fun x46 => some (.inl (x46, z38))))) ((0 : Int32), z32)) (fun (z36 : gS) => bn1 (lpP (fun (z48 : (Int32 × gS)) => if (21 : Int32) ≤ z48.1 then some (.inr z48.2) else gx z48.1 21 (gx z48.1 21 (lt' (wL z48.2 41 z48.1.toNatClampNeg (z48.2.2.1 42 z48.1.toNatClampNeg)) (fun s49 => lt' (z48.1 + (1 : Int32)) (fun x50 => some (.inl (x50, s49))))))) ((0 : Int32), z36)) (fun (z47 : gS) => lt' (z18.1 + (1 : Int32)) (fun x51 => some (.inl (x51, z47))))))))))) ((0 : Int32), z11)) (fun (z17 : gS) => bn1 (if a4 = 0 then some (0 : Int32) else bn1 (pX11_bits (v7 &&& v9)) (fun v53 => some v53)) (fun (z52 : Int32) => bn1 (lpP (fun (z56 : (Int32 × Int64)) => if (21 : Int32) ≤ z56.1 then some (.inr z56.2) else gx z56.1 21 (lt' (z56.2 + (z17.2.1 41 z56.1.toNatClampNeg)) (fun x57 => lt' (z56.1 + (1 : Int32)) (fun x58 => some (.inl (x58, x57)))))) (z52, (0 : Int64))) (fun (z55 : Int64) => some (z55, z17))))))))))
set_option maxRecDepth 100000 in
theorem cn_X11_within {G : gG} {b : Nat} {a1 : Int32} {a2 : Int32} {a3 : Int32} {a4 : Int32} {σ : gS} : CN vR G b 6 yX11_within cX11_within 14 (some .long) kL [.ref (b + 0), .int a1, .int a2, .int a3, .int a4] σ (pX11_within a1 a2 a3 a4 σ) := by
  refine cn_of (own := RX11) rfl rfl (Nat.le_of_ble_eq_true rfl) ?_
  show GF vR G b (6, 0, 0) RX11 cX11_within 14 (some .long) kL 0 [(0, .ref (b + 0)), (1, .int a1), (2, .int a2), (3, .int a3), (4, .int a4)] [] σ (pX11_within a1 a2 a3 a4 σ)
  unfold pX11_within
  refine g_aload_n (q := 1) 0 dX11_within_0 rfl rfl rfl ?_
  refine g_iload_n (q := 2) 1 dX11_within_1 rfl rfl rfl ?_
  refine g_callO (As := [.int a1]) (st := []) (cn_X11_isSign) shX11 rfl cwX11_400 rfl dX11_within_2 rfl (Nat.le_of_ble_eq_true rfl) (by decide) (kk_PI (fun v1 => ?_))
  refine g_if_eq (t := 25) (q := 8) dX11_within_5 (by decide) rfl ?_ ?_
  · refine g_ldc2 (q := 28) dX11_within_25 ww1527 rfl ?_
    exact (g_lret dX11_within_28)
  · refine g_aload_n (q := 9) 0 dX11_within_8 rfl rfl rfl ?_
    refine g_iload_n (q := 10) 2 dX11_within_9 rfl rfl rfl ?_
    refine g_callO (As := [.int a2]) (st := []) (cn_X11_isSay) shX11 rfl cwX11_343 rfl dX11_within_10 rfl (Nat.le_of_ble_eq_true rfl) (by decide) (kk_PI (fun v3 => ?_))
    refine g_if_eq (t := 25) (q := 16) dX11_within_13 (by decide) rfl ?_ ?_
    · refine g_ldc2 (q := 28) dX11_within_25 ww1527 rfl ?_
      exact (g_lret dX11_within_28)
    · refine g_iload_n (q := 17) 3 dX11_within_16 rfl rfl rfl ?_
      refine g_iconst (q := 18) dX11_within_17 kI_0 rfl ?_
      refine g_iconst (q := 19) dX11_within_18 kI_2 rfl ?_
      refine g_callT (As := [.int a3, .int (0 : Int32), .int (2 : Int32)]) (st := []) (cn_X11_in) cwX11_313 rfl dX11_within_19 rfl (Nat.le_of_ble_eq_true rfl) (by decide) (kk_PI (fun v5 => ?_))
      refine g_if_ne (t := 29) (q := 25) dX11_within_22 (by decide) rfl ?_ ?_
      · refine g_ldc2 (q := 28) dX11_within_25 ww1527 rfl ?_
        exact (g_lret dX11_within_28)
      · refine g_aload_n (q := 30) 0 dX11_within_29 rfl rfl rfl ?_
        refine g_iload_n (q := 31) 1 dX11_within_30 rfl rfl rfl ?_
        refine g_callO (As := [.int a1]) (st := []) (cn_X11_upSet) shX11 rfl cwX11_403 rfl dX11_within_31 rfl (Nat.le_of_ble_eq_true rfl) (by decide) (kk_I (fun v7 s8 => ?_))
        refine g_istore (lr := [(0, .ref (b + 0)), (1, .int a1), (2, .int a2), (3, .int a3), (4, .int a4)]) (q := 36) dX11_within_34 (by decide) rfl rfl ?_
        refine g_aload_n (q := 37) 1 dX11_within_36 rfl rfl rfl ?_
        refine g_iload_n (q := 38) 3 dX11_within_37 rfl rfl rfl ?_
        refine g_callO (As := [.int a2]) (st := []) (cn_X11_trueSet) shX11 rfl cwX11_409 rfl dX11_within_38 rfl (Nat.le_of_ble_eq_true rfl) (by decide) (kk_I (fun v9 s10 => ?_))
        refine g_istore (lr := [(5, .int v7), (0, .ref (b + 0)), (1, .int a1), (2, .int a2), (3, .int a3), (4, .int a4)]) (q := 43) dX11_within_41 (by decide) rfl rfl ?_
        refine g_iconst (q := 44) dX11_within_43 kI_0 rfl ?_
        refine g_istore (lr := [(6, .int v9), (5, .int v7), (0, .ref (b + 0)), (1, .int a1), (2, .int a2), (3, .int a3), (4, .int a4)]) (q := 46) dX11_within_44 (by decide) rfl rfl ?_
        refine g_bind (S := gS) (hd := 76) (lvf := fun z11 => [(6, .int v9), (5, .int v7), (0, .ref (b + 0)), (3, .int a3), (4, .int a4)]) (stf := fun z11 => []) (σf := fun z11 => z11) ?_ (fun z11 => ?_)
        · refine g_sub (lr := [(7, .int (0 : Int32)), (6, .int v9), (5, .int v7), (0, .ref (b + 0)), (3, .int a3), (4, .int a4)]) [0, 1, 2, 3, 6, 7] rfl ?_
          refine g_loop (S := (Int32 × gS)) (lvf := fun z12 => [(7, .int z12.1), (6, .int v9), (5, .int v7), (0, .ref (b + 0)), (3, .int a3), (4, .int a4)]) (σf := fun z12 => z12.2) (fun z12 => ?_) ((0 : Int32), s10)
          refine g_iload (q := 48) 0 dX11_within_46 rfl rfl ?_
          refine g_bipush (q := 50) dX11_within_48 kB_21 rfl ?_
          refine g_icmp_ge (t := 76) (q := 53) dX11_within_50 (by decide) rfl ?_ ?_
          · refine g_sub (lr := [(6, .int v9), (5, .int v7), (0, .ref (b + 0)), (3, .int a3), (4, .int a4)]) [1, 2, 3, 4, 5] rfl ?_
            exact (g_leave (g_there (z12.2 : gS)))
          · refine g_aload_n (q := 54) 3 dX11_within_53 rfl rfl rfl ?_
            refine g_getA (q := 57) fX11_rows dX11_within_54 ww1100 rfl ?_
            refine g_iload (q := 59) 0 dX11_within_57 rfl rfl ?_
            refine g_iload (q := 61) 0 dX11_within_59 rfl rfl ?_
            refine g_if_ne (t := 68) (q := 64) dX11_within_61 (by decide) rfl ?_ ?_
            · refine g_lconst (q := 65) (v := (1 : Int64)) dX11_within_64 rfl rfl ?_
              refine g_goto (t := 69) dX11_within_65 (by decide) ?_
              refine g_last (q := 70) (aX11_rows) dX11_within_69 rfl (fun s13 => ?_)
              refine g_iinc (lr := [(6, .int v9), (5, .int v7), (0, .ref (b + 0)), (3, .int a3), (4, .int a4)]) (q := 73) 0 dX11_within_70 rfl kI_1 (by decide) rfl rfl (fun x14 => ?_)
              refine g_goto (t := 46) dX11_within_73 (by decide) ?_
              exact (g_again ((x14, s13) : (Int32 × gS)))
            · refine g_lconst (q := 69) (v := (0 : Int64)) dX11_within_68 rfl rfl ?_
              refine g_last (q := 70) (aX11_rows) dX11_within_69 rfl (fun s15 => ?_)
              refine g_iinc (lr := [(6, .int v9), (5, .int v7), (0, .ref (b + 0)), (3, .int a3), (4, .int a4)]) (q := 73) 0 dX11_within_70 rfl kI_1 (by decide) rfl rfl (fun x16 => ?_)
              refine g_goto (t := 46) dX11_within_73 (by decide) ?_
              exact (g_again ((x16, s15) : (Int32 × gS)))
        · refine g_iconst (q := 77) dX11_within_76 kI_0 rfl ?_
          refine g_istore (lr := [(6, .int v9), (5, .int v7), (0, .ref (b + 0)), (3, .int a3), (4, .int a4)]) (q := 79) dX11_within_77 (by decide) rfl rfl ?_
          refine g_bind (S := gS) (hd := 299) (lvf := fun z17 => [(6, .int v9), (5, .int v7), (0, .ref (b + 0)), (4, .int a4)]) (stf := fun z17 => []) (σf := fun z17 => z17) ?_ (fun z17 => ?_)
          · refine g_loop (S := (Int32 × gS)) (lvf := fun z18 => [(7, .int z18.1), (6, .int v9), (5, .int v7), (0, .ref (b + 0)), (3, .int a3), (4, .int a4)]) (σf := fun z18 => z18.2) (fun z18 => ?_) ((0 : Int32), z11)
            refine g_iload (q := 81) 0 dX11_within_79 rfl rfl ?_
            refine g_bipush (q := 83) dX11_within_81 kB_10 rfl ?_
            refine g_icmp_ge (t := 299) (q := 86) dX11_within_83 (by decide) rfl ?_ ?_
            · refine g_sub (lr := [(6, .int v9), (5, .int v7), (0, .ref (b + 0)), (4, .int a4)]) [1, 2, 3, 5] rfl ?_
              exact (g_leave (g_there (z18.2 : gS)))
            · refine g_iconst (q := 87) dX11_within_86 kI_0 rfl ?_
              refine g_istore (lr := [(7, .int z18.1), (6, .int v9), (5, .int v7), (0, .ref (b + 0)), (3, .int a3), (4, .int a4)]) (q := 89) dX11_within_87 (by decide) rfl rfl ?_
              refine g_iconst (q := 90) dX11_within_89 kI_0 rfl ?_
              refine g_istore (lr := [(8, .int (0 : Int32)), (7, .int z18.1), (6, .int v9), (5, .int v7), (0, .ref (b + 0)), (3, .int a3), (4, .int a4)]) (q := 92) dX11_within_90 (by decide) rfl rfl ?_
              refine g_bind (S := Int32) (hd := 128) (lvf := fun z19 => [(8, .int z19), (7, .int z18.1), (6, .int v9), (5, .int v7), (0, .ref (b + 0)), (3, .int a3), (4, .int a4)]) (stf := fun z19 => []) (σf := fun z19 => z18.2) ?_ (fun z19 => ?_)
              · refine g_loop (S := (Int32 × Int32)) (lvf := fun z20 => [(9, .int z20.1), (8, .int z20.2), (7, .int z18.1), (6, .int v9), (5, .int v7), (0, .ref (b + 0)), (3, .int a3), (4, .int a4)]) (σf := fun z20 => z18.2) (fun z20 => ?_) ((0 : Int32), (0 : Int32))
                refine g_iload (q := 94) 0 dX11_within_92 rfl rfl ?_
                refine g_aload_n (q := 95) 5 dX11_within_94 rfl rfl rfl ?_
                refine g_getI (q := 98) fX11_people dX11_within_95 ww1093 rfl ?_
                refine g_icmp_ge (t := 128) (q := 101) dX11_within_98 (by decide) rfl ?_ ?_
                · refine g_sub (lr := [(8, .int z20.2), (7, .int z18.1), (6, .int v9), (5, .int v7), (0, .ref (b + 0)), (3, .int a3), (4, .int a4)]) [1, 2, 3, 4, 5, 6, 7] rfl ?_
                  exact (g_leave (g_there (z20.2 : Int32)))
                · refine g_aload_n (q := 102) 5 dX11_within_101 rfl rfl rfl ?_
                  refine g_iload (q := 104) 0 dX11_within_102 rfl rfl ?_
                  refine g_iload_n (q := 105) 6 dX11_within_104 rfl rfl rfl ?_
                  refine g_callO (As := [.int z20.1, .int a3]) (st := []) (cn_X11_classOf) shX11 rfl cwX11_422 rfl dX11_within_105 rfl (Nat.le_of_ble_eq_true rfl) (by decide) (kk_PI (fun v21 => ?_))
                  refine g_iload (q := 110) 2 dX11_within_108 rfl rfl ?_
                  refine g_icmp_ne (t := 122) (q := 113) dX11_within_110 (by decide) rfl ?_ ?_
                  · refine g_iload (q := 115) 1 dX11_within_113 rfl rfl ?_
                    refine g_iconst (q := 116) dX11_within_115 kI_1 rfl ?_
                    refine g_iload (q := 118) 0 dX11_within_116 rfl rfl ?_
                    refine g_ishl (q := 119) dX11_within_118 rfl ?_
                    refine g_ior (q := 120) dX11_within_119 rfl ?_
                    refine g_leti (fun x23 => ?_)
                    refine g_istore (lr := [(9, .int z20.1), (7, .int z18.1), (6, .int v9), (5, .int v7), (0, .ref (b + 0)), (3, .int a3), (4, .int a4)]) (q := 122) dX11_within_120 (by decide) rfl rfl ?_
                    refine g_iinc (lr := [(8, .int x23), (7, .int z18.1), (6, .int v9), (5, .int v7), (0, .ref (b + 0)), (3, .int a3), (4, .int a4)]) (q := 125) 1 dX11_within_122 rfl kI_1 (by decide) rfl rfl (fun x24 => ?_)
                    refine g_goto (t := 92) dX11_within_125 (by decide) ?_
                    exact (g_again ((x24, x23) : (Int32 × Int32)))
                  · refine g_iinc (lr := [(8, .int z20.2), (7, .int z18.1), (6, .int v9), (5, .int v7), (0, .ref (b + 0)), (3, .int a3), (4, .int a4)]) (q := 125) 0 dX11_within_122 rfl kI_1 (by decide) rfl rfl (fun x25 => ?_)
                    refine g_goto (t := 92) dX11_within_125 (by decide) ?_
                    exact (g_again ((x25, z20.2) : (Int32 × Int32)))
              · refine g_iload (q := 130) 0 dX11_within_128 rfl rfl ?_
                refine g_callT (As := [.int z19]) (st := []) (cn_X11_bits) cwX11_406 rfl dX11_within_130 rfl (Nat.le_of_ble_eq_true rfl) (by decide) (kk_PI (fun v26 => ?_))
                refine g_istore (lr := [(8, .int z19), (7, .int z18.1), (6, .int v9), (5, .int v7), (0, .ref (b + 0)), (3, .int a3), (4, .int a4)]) (q := 135) dX11_within_133 (by decide) rfl rfl ?_
                refine g_iload (q := 137) 1 dX11_within_135 rfl rfl ?_
                refine g_iload (q := 139) 4 dX11_within_137 rfl rfl ?_
                refine g_iand (q := 140) dX11_within_139 rfl ?_
                refine g_callT (As := [.int (z19 &&& v7)]) (st := []) (cn_X11_bits) cwX11_406 rfl dX11_within_140 rfl (Nat.le_of_ble_eq_true rfl) (by decide) (kk_PI (fun v28 => ?_))
                refine g_istore (lr := [(9, .int v26), (8, .int z19), (7, .int z18.1), (6, .int v9), (5, .int v7), (0, .ref (b + 0)), (3, .int a3), (4, .int a4)]) (q := 145) dX11_within_143 (by decide) rfl rfl ?_
                refine g_iload (q := 147) 2 dX11_within_145 rfl rfl ?_
                refine g_iload (q := 149) 4 dX11_within_147 rfl rfl ?_
                refine g_iand (q := 150) dX11_within_149 rfl ?_
                refine g_callT (As := [.int (z19 &&& v9)]) (st := []) (cn_X11_bits) cwX11_406 rfl dX11_within_150 rfl (Nat.le_of_ble_eq_true rfl) (by decide) (kk_PI (fun v30 => ?_))
                refine g_istore (lr := [(10, .int v28), (9, .int v26), (8, .int z19), (7, .int z18.1), (6, .int v9), (5, .int v7), (0, .ref (b + 0)), (3, .int a3), (4, .int a4)]) (q := 155) dX11_within_153 (by decide) rfl rfl ?_
                refine g_iconst (q := 156) dX11_within_155 kI_0 rfl ?_
                refine g_istore (lr := [(11, .int v30), (10, .int v28), (9, .int v26), (8, .int z19), (7, .int z18.1), (6, .int v9), (5, .int v7), (0, .ref (b + 0)), (3, .int a3), (4, .int a4)]) (q := 158) dX11_within_156 (by decide) rfl rfl ?_
                refine g_bind (S := gS) (hd := 179) (lvf := fun z32 => [(11, .int v30), (10, .int v28), (9, .int v26), (7, .int z18.1), (6, .int v9), (5, .int v7), (0, .ref (b + 0)), (3, .int a3), (4, .int a4)]) (stf := fun z32 => []) (σf := fun z32 => z32) ?_ (fun z32 => ?_)
                · refine g_sub (lr := [(12, .int (0 : Int32)), (11, .int v30), (10, .int v28), (9, .int v26), (7, .int z18.1), (6, .int v9), (5, .int v7), (0, .ref (b + 0)), (3, .int a3), (4, .int a4)]) [0, 1, 2, 3, 5, 6, 7, 8, 9, 10] rfl ?_
                  refine g_loop (S := (Int32 × gS)) (lvf := fun z33 => [(12, .int z33.1), (11, .int v30), (10, .int v28), (9, .int v26), (7, .int z18.1), (6, .int v9), (5, .int v7), (0, .ref (b + 0)), (3, .int a3), (4, .int a4)]) (σf := fun z33 => z33.2) (fun z33 => ?_) ((0 : Int32), z18.2)
                  refine g_iload (q := 160) 0 dX11_within_158 rfl rfl ?_
                  refine g_bipush (q := 162) dX11_within_160 kB_21 rfl ?_
                  refine g_icmp_ge (t := 179) (q := 165) dX11_within_162 (by decide) rfl ?_ ?_
                  · refine g_sub (lr := [(11, .int v30), (10, .int v28), (9, .int v26), (7, .int z18.1), (6, .int v9), (5, .int v7), (0, .ref (b + 0)), (3, .int a3), (4, .int a4)]) [1, 2, 3, 4, 5, 6, 7, 8, 9] rfl ?_
                    exact (g_leave (g_there (z33.2 : gS)))
                  · refine g_aload_n (q := 166) 7 dX11_within_165 rfl rfl rfl ?_
                    refine g_getA (q := 169) fX11_after dX11_within_166 ww1101 rfl ?_
                    refine g_iload (q := 171) 0 dX11_within_169 rfl rfl ?_
                    refine g_lconst (q := 172) (v := (0 : Int64)) dX11_within_171 rfl rfl ?_
                    refine g_last (q := 173) (aX11_after) dX11_within_172 rfl (fun s34 => ?_)
                    refine g_iinc (lr := [(11, .int v30), (10, .int v28), (9, .int v26), (7, .int z18.1), (6, .int v9), (5, .int v7), (0, .ref (b + 0)), (3, .int a3), (4, .int a4)]) (q := 176) 0 dX11_within_173 rfl kI_1 (by decide) rfl rfl (fun x35 => ?_)
                    refine g_goto (t := 158) dX11_within_176 (by decide) ?_
                    exact (g_again ((x35, s34) : (Int32 × gS)))
                · refine g_iconst (q := 180) dX11_within_179 kI_0 rfl ?_
                  refine g_istore (lr := [(11, .int v30), (10, .int v28), (9, .int v26), (7, .int z18.1), (6, .int v9), (5, .int v7), (0, .ref (b + 0)), (3, .int a3), (4, .int a4)]) (q := 182) dX11_within_180 (by decide) rfl rfl ?_
                  refine g_bind (S := gS) (hd := 263) (lvf := fun z36 => [(7, .int z18.1), (6, .int v9), (5, .int v7), (0, .ref (b + 0)), (3, .int a3), (4, .int a4)]) (stf := fun z36 => []) (σf := fun z36 => z36) ?_ (fun z36 => ?_)
                  · refine g_loop (S := (Int32 × gS)) (lvf := fun z37 => [(12, .int z37.1), (11, .int v30), (10, .int v28), (9, .int v26), (7, .int z18.1), (6, .int v9), (5, .int v7), (0, .ref (b + 0)), (3, .int a3), (4, .int a4)]) (σf := fun z37 => z37.2) (fun z37 => ?_) ((0 : Int32), z32)
                    refine g_iload (q := 184) 0 dX11_within_182 rfl rfl ?_
                    refine g_bipush (q := 186) dX11_within_184 kB_21 rfl ?_
                    refine g_icmp_ge (t := 263) (q := 189) dX11_within_186 (by decide) rfl ?_ ?_
                    · refine g_sub (lr := [(7, .int z18.1), (6, .int v9), (5, .int v7), (0, .ref (b + 0)), (3, .int a3), (4, .int a4)]) [4, 5, 6, 7, 8, 9] rfl ?_
                      exact (g_leave (g_there (z37.2 : gS)))
                    · refine g_iconst (q := 190) dX11_within_189 kI_0 rfl ?_
                      refine g_istore (lr := [(12, .int z37.1), (11, .int v30), (10, .int v28), (9, .int v26), (7, .int z18.1), (6, .int v9), (5, .int v7), (0, .ref (b + 0)), (3, .int a3), (4, .int a4)]) (q := 192) dX11_within_190 (by decide) rfl rfl ?_
                      refine g_bind (S := gS) (hd := 257) (lvf := fun z38 => [(12, .int z37.1), (11, .int v30), (10, .int v28), (9, .int v26), (7, .int z18.1), (6, .int v9), (5, .int v7), (0, .ref (b + 0)), (3, .int a3), (4, .int a4)]) (stf := fun z38 => []) (σf := fun z38 => z38) ?_ (fun z38 => ?_)
                      · refine g_loop (S := (Int32 × gS)) (lvf := fun z39 => [(13, .int z39.1), (12, .int z37.1), (11, .int v30), (10, .int v28), (9, .int v26), (7, .int z18.1), (6, .int v9), (5, .int v7), (0, .ref (b + 0)), (3, .int a3), (4, .int a4)]) (σf := fun z39 => z39.2) (fun z39 => ?_) ((0 : Int32), z37.2)
                        refine g_iload (q := 194) 0 dX11_within_192 rfl rfl ?_
                        refine g_iload (q := 196) 2 dX11_within_194 rfl rfl ?_
                        refine g_icmp_gt (t := 257) (q := 199) dX11_within_196 (by decide) rfl ?_ ?_
                        · refine g_sub (lr := [(12, .int z37.1), (11, .int v30), (10, .int v28), (9, .int v26), (7, .int z18.1), (6, .int v9), (5, .int v7), (0, .ref (b + 0)), (3, .int a3), (4, .int a4)]) [1, 2, 3, 4, 5, 6, 7, 8, 9, 10] rfl ?_
                          exact (g_leave (g_there (z39.2 : gS)))
                        · refine g_iload (q := 201) 1 dX11_within_199 rfl rfl ?_
                          refine g_iload (q := 203) 0 dX11_within_201 rfl rfl ?_
                          refine g_iadd (q := 204) dX11_within_203 rfl ?_
                          refine g_bipush (q := 206) dX11_within_204 kB_21 rfl ?_
                          refine g_icmp_ge (t := 257) (q := 209) dX11_within_206 (by decide) rfl ?_ ?_
                          · refine g_sub (lr := [(12, .int z37.1), (11, .int v30), (10, .int v28), (9, .int v26), (7, .int z18.1), (6, .int v9), (5, .int v7), (0, .ref (b + 0)), (3, .int a3), (4, .int a4)]) [1, 2, 3, 4, 5, 6, 7, 8, 9, 10] rfl ?_
                            exact (g_leave (g_there (z39.2 : gS)))
                          · refine g_aload_n (q := 210) 8 dX11_within_209 rfl rfl rfl ?_
                            refine g_getA (q := 213) fX11_after dX11_within_210 ww1101 rfl ?_
                            refine g_iload (q := 215) 1 dX11_within_213 rfl rfl ?_
                            refine g_iload (q := 217) 0 dX11_within_215 rfl rfl ?_
                            refine g_iadd (q := 218) dX11_within_217 rfl ?_
                            refine g_dup2 (q := 219) dX11_within_218 rfl rfl rfl ?_
                            refine g_lald (q := 220) (aX11_after) dX11_within_219 rfl ?_
                            refine g_aload_n (q := 221) 8 dX11_within_220 rfl rfl rfl ?_
                            refine g_getA (q := 224) fX11_rows dX11_within_221 ww1100 rfl ?_
                            refine g_iload (q := 226) 1 dX11_within_224 rfl rfl ?_
                            refine g_lald (q := 227) (aX11_rows) dX11_within_226 rfl ?_
                            refine g_iload (q := 229) 2 dX11_within_227 rfl rfl ?_
                            refine g_iload (q := 231) 0 dX11_within_229 rfl rfl ?_
                            refine g_callT (As := [.int v30, .int z39.1]) (st := [.long (z39.2.2.1 41 z37.1.toNatClampNeg), .long (z39.2.2.1 42 (z37.1 + z39.1).toNatClampNeg), .int (z37.1 + z39.1), .ref (b + 42)]) (cn_X11_picks) cwX11_383 rfl dX11_within_231 rfl (Nat.le_of_ble_eq_true rfl) (by decide) (kk_PL (fun v40 => ?_))
                            refine g_lmul (q := 235) dX11_within_234 rfl ?_
                            refine g_iload (q := 237) 4 dX11_within_235 rfl rfl ?_
                            refine g_iload (q := 239) 2 dX11_within_237 rfl rfl ?_
                            refine g_isub (q := 240) dX11_within_239 rfl ?_
                            refine g_iload (q := 242) 3 dX11_within_240 rfl rfl ?_
                            refine g_iload (q := 244) 0 dX11_within_242 rfl rfl ?_
                            refine g_isub (q := 245) dX11_within_244 rfl ?_
                            refine g_callT (As := [.int (v26 - v30), .int (v28 - z39.1)]) (st := [.long ((z39.2.2.1 41 z37.1.toNatClampNeg) * v40), .long (z39.2.2.1 42 (z37.1 + z39.1).toNatClampNeg), .int (z37.1 + z39.1), .ref (b + 42)]) (cn_X11_picks) cwX11_383 rfl dX11_within_245 rfl (Nat.le_of_ble_eq_true rfl) (by decide) (kk_PL (fun v42 => ?_))
                            refine g_lmul (q := 249) dX11_within_248 rfl ?_
                            refine g_ladd (q := 250) dX11_within_249 rfl ?_
                            refine g_last (q := 251) (aX11_after) dX11_within_250 rfl (fun s44 => ?_)
                            refine g_iinc (lr := [(12, .int z37.1), (11, .int v30), (10, .int v28), (9, .int v26), (7, .int z18.1), (6, .int v9), (5, .int v7), (0, .ref (b + 0)), (3, .int a3), (4, .int a4)]) (q := 254) 0 dX11_within_251 rfl kI_1 (by decide) rfl rfl (fun x45 => ?_)
                            refine g_goto (t := 192) dX11_within_254 (by decide) ?_
                            exact (g_again ((x45, s44) : (Int32 × gS)))
                      · refine g_iinc (lr := [(11, .int v30), (10, .int v28), (9, .int v26), (7, .int z18.1), (6, .int v9), (5, .int v7), (0, .ref (b + 0)), (3, .int a3), (4, .int a4)]) (q := 260) 0 dX11_within_257 rfl kI_1 (by decide) rfl rfl (fun x46 => ?_)
                        refine g_goto (t := 182) dX11_within_260 (by decide) ?_
                        exact (g_again ((x46, z38) : (Int32 × gS)))
                  · refine g_iconst (q := 264) dX11_within_263 kI_0 rfl ?_
                    refine g_istore (lr := [(7, .int z18.1), (6, .int v9), (5, .int v7), (0, .ref (b + 0)), (3, .int a3), (4, .int a4)]) (q := 266) dX11_within_264 (by decide) rfl rfl ?_
                    refine g_bind (S := gS) (hd := 293) (lvf := fun z47 => [(7, .int z18.1), (6, .int v9), (5, .int v7), (0, .ref (b + 0)), (3, .int a3), (4, .int a4)]) (stf := fun z47 => []) (σf := fun z47 => z47) ?_ (fun z47 => ?_)
                    · refine g_loop (S := (Int32 × gS)) (lvf := fun z48 => [(12, .int z48.1), (7, .int z18.1), (6, .int v9), (5, .int v7), (0, .ref (b + 0)), (3, .int a3), (4, .int a4)]) (σf := fun z48 => z48.2) (fun z48 => ?_) ((0 : Int32), z36)
                      refine g_iload (q := 268) 0 dX11_within_266 rfl rfl ?_
                      refine g_bipush (q := 270) dX11_within_268 kB_21 rfl ?_
                      refine g_icmp_ge (t := 293) (q := 273) dX11_within_270 (by decide) rfl ?_ ?_
                      · refine g_sub (lr := [(7, .int z18.1), (6, .int v9), (5, .int v7), (0, .ref (b + 0)), (3, .int a3), (4, .int a4)]) [1, 2, 3, 4, 5, 6] rfl ?_
                        exact (g_leave (g_there (z48.2 : gS)))
                      · refine g_aload_n (q := 274) 4 dX11_within_273 rfl rfl rfl ?_
                        refine g_getA (q := 277) fX11_rows dX11_within_274 ww1100 rfl ?_
                        refine g_iload (q := 279) 0 dX11_within_277 rfl rfl ?_
                        refine g_aload_n (q := 280) 4 dX11_within_279 rfl rfl rfl ?_
                        refine g_getA (q := 283) fX11_after dX11_within_280 ww1101 rfl ?_
                        refine g_iload (q := 285) 0 dX11_within_283 rfl rfl ?_
                        refine g_lald (q := 286) (aX11_after) dX11_within_285 rfl ?_
                        refine g_last (q := 287) (aX11_rows) dX11_within_286 rfl (fun s49 => ?_)
                        refine g_iinc (lr := [(7, .int z18.1), (6, .int v9), (5, .int v7), (0, .ref (b + 0)), (3, .int a3), (4, .int a4)]) (q := 290) 0 dX11_within_287 rfl kI_1 (by decide) rfl rfl (fun x50 => ?_)
                        refine g_goto (t := 266) dX11_within_290 (by decide) ?_
                        exact (g_again ((x50, s49) : (Int32 × gS)))
                    · refine g_iinc (lr := [(6, .int v9), (5, .int v7), (0, .ref (b + 0)), (3, .int a3), (4, .int a4)]) (q := 296) 0 dX11_within_293 rfl kI_1 (by decide) rfl rfl (fun x51 => ?_)
                      refine g_goto (t := 79) dX11_within_296 (by decide) ?_
                      exact (g_again ((x51, z47) : (Int32 × gS)))
          · refine g_lconst (q := 300) (v := (0 : Int64)) dX11_within_299 rfl rfl ?_
            refine g_lstore (lr := [(6, .int v9), (5, .int v7), (0, .ref (b + 0)), (4, .int a4)]) (q := 302) dX11_within_300 (by decide) rfl rfl ?_
            refine g_iload (q := 304) 4 dX11_within_302 rfl rfl ?_
            refine g_bind (S := Int32) (hd := 319) (lvf := fun z52 => [(7, .long (0 : Int64)), (0, .ref (b + 0))]) (stf := fun z52 => [.int z52]) (σf := fun z52 => z17) ?_ (fun z52 => ?_)
            · refine g_if_eq (t := 318) (q := 307) dX11_within_304 (by decide) rfl ?_ ?_
              · refine g_iconst (q := 319) dX11_within_318 kI_0 rfl ?_
                refine g_sub (lr := [(7, .long (0 : Int64)), (0, .ref (b + 0))]) [0, 3] rfl ?_
                exact (g_there ((0 : Int32) : Int32))
              · refine g_iload (q := 309) 2 dX11_within_307 rfl rfl ?_
                refine g_iload (q := 311) 1 dX11_within_309 rfl rfl ?_
                refine g_iand (q := 312) dX11_within_311 rfl ?_
                refine g_callT (As := [.int (v7 &&& v9)]) (st := []) (cn_X11_bits) cwX11_406 rfl dX11_within_312 rfl (Nat.le_of_ble_eq_true rfl) (by decide) (kk_PI (fun v53 => ?_))
                refine g_goto (t := 319) dX11_within_315 (by decide) ?_
                refine g_sub (lr := [(7, .long (0 : Int64)), (0, .ref (b + 0))]) [0, 3] rfl ?_
                exact (g_there (v53 : Int32))
            · refine g_istore (lr := [(7, .long (0 : Int64)), (0, .ref (b + 0))]) (q := 321) dX11_within_319 (by decide) rfl rfl ?_
              refine g_bind (S := Int64) (hd := 346) (lvf := fun z55 => [(7, .long z55)]) (stf := fun z55 => []) (σf := fun z55 => z17) ?_ (fun z55 => ?_)
              · refine g_loop (S := (Int32 × Int64)) (lvf := fun z56 => [(9, .int z56.1), (7, .long z56.2), (0, .ref (b + 0))]) (σf := fun z56 => z17) (fun z56 => ?_) (z52, (0 : Int64))
                refine g_iload (q := 323) 0 dX11_within_321 rfl rfl ?_
                refine g_bipush (q := 325) dX11_within_323 kB_21 rfl ?_
                refine g_icmp_ge (t := 346) (q := 328) dX11_within_325 (by decide) rfl ?_ ?_
                · refine g_sub (lr := [(7, .long z56.2)]) [1] rfl ?_
                  exact (g_leave (g_there (z56.2 : Int64)))
                · refine g_lload (q := 330) 1 dX11_within_328 rfl rfl ?_
                  refine g_aload_n (q := 331) 2 dX11_within_330 rfl rfl rfl ?_
                  refine g_getA (q := 334) fX11_rows dX11_within_331 ww1100 rfl ?_
                  refine g_iload (q := 336) 0 dX11_within_334 rfl rfl ?_
                  refine g_lald (q := 337) (aX11_rows) dX11_within_336 rfl ?_
                  refine g_ladd (q := 338) dX11_within_337 rfl ?_
                  refine g_letl (fun x57 => ?_)
                  refine g_lstore (lr := [(9, .int z56.1), (0, .ref (b + 0))]) (q := 340) dX11_within_338 (by decide) rfl rfl ?_
                  refine g_iinc (lr := [(7, .long x57), (0, .ref (b + 0))]) (q := 343) 1 dX11_within_340 rfl kI_1 (by decide) rfl rfl (fun x58 => ?_)
                  refine g_goto (t := 321) dX11_within_343 (by decide) ?_
                  exact (g_again ((x58, x57) : (Int32 × Int64)))
              · refine g_lload (q := 348) 0 dX11_within_346 rfl rfl ?_
                exact (g_lret dX11_within_348)
noncomputable def pX11_striking (σ : gS) : Option (Int32 × gS) := bn1 (lpP (fun (z2 : (Int32 × Int64 × Int64 × Int32 × gS)) => gx (z2.2.2.2.2.1 0 18) 2 (if (z2.2.2.2.2.1 11 (z2.2.2.2.2.1 0 18).toNatClampNeg) ≤ z2.1 then some (.inr (z2.2.2.2.1, z2.2.2.2.2)) else bn1 (lpP (fun (z4 : (Int32 × Int64 × Int64 × Int32 × gS)) => gx (z4.2.2.2.2.1 0 18) 2 (if (z4.2.2.2.2.1 12 (z4.2.2.2.2.1 0 18).toNatClampNeg) ≤ z4.1 then some (.inr (z4.2.2.2.1, z4.2.2.1, z4.2.1, z4.2.2.2.2)) else bn2 (pX11_upSet z2.1 z4.2.2.2.2) (fun v5 s6 => bn2 (pX11_trueSet z4.1 s6) (fun v7 s8 => bn1 (pX11_moreIn v5 v7 s8) (fun v9 => bn2 (pX11_upSet z2.1 s8) (fun v11 s12 => bn1 (pX11_allIn v11 s12) (fun v13 => if z4.2.2.2.1 = (-1 : Int32) then lt' (((100 : Int32) * z2.1) + z4.1) (fun x15 => lt' (z4.1 + (1 : Int32)) (fun x16 => some (.inl (x16, v13, v9, x15, s12)))) else if (lg_cmp (v9 * z4.2.1) (z4.2.2.1 * v13)) < 0 then lt' (((100 : Int32) * z2.1) + z4.1) (fun x17 => lt' (z4.1 + (1 : Int32)) (fun x18 => some (.inl (x18, v13, v9, x17, s12)))) else lt' (z4.1 + (1 : Int32)) (fun x19 => some (.inl (x19, z4.2.1, z4.2.2.1, z4.2.2.2.1, s12)))))))))) ((0 : Int32), z2.2.1, z2.2.2.1, z2.2.2.2.1, z2.2.2.2.2)) (fun (z3 : (Int32 × Int64 × Int64 × gS)) => lt' (z2.1 + (1 : Int32)) (fun x20 => some (.inl (x20, z3.2.2.1, z3.2.1, z3.1, z3.2.2.2)))))) ((0 : Int32), (1 : Int64), (0 : Int64), (-1 : Int32), σ)) (fun (z1 : (Int32 × gS)) => some (z1.1, z1.2))
set_option maxRecDepth 100000 in
theorem cn_X11_striking {G : gG} {b : Nat}  {σ : gS} : CN vR G b 6 yX11_striking cX11_striking 12 (some .int) kI [.ref (b + 0)] σ (pX11_striking σ) := by
  refine cn_of (own := RX11) rfl rfl (Nat.le_of_ble_eq_true rfl) ?_
  show GF vR G b (6, 0, 0) RX11 cX11_striking 12 (some .int) kI 0 [(0, .ref (b + 0))] [] σ (pX11_striking σ)
  unfold pX11_striking
  refine g_iconst (q := 1) dX11_striking_0 kI_m1 rfl ?_
  refine g_istore_n (lr := [(0, .ref (b + 0))]) (q := 2) dX11_striking_1 rfl (by decide) rfl rfl ?_
  refine g_lconst (q := 3) (v := (0 : Int64)) dX11_striking_2 rfl rfl ?_
  refine g_lstore_n (lr := [(1, .int (-1 : Int32)), (0, .ref (b + 0))]) (q := 4) dX11_striking_3 rfl (by decide) rfl rfl ?_
  refine g_lconst (q := 5) (v := (1 : Int64)) dX11_striking_4 rfl rfl ?_
  refine g_lstore (lr := [(2, .long (0 : Int64)), (1, .int (-1 : Int32)), (0, .ref (b + 0))]) (q := 7) dX11_striking_5 (by decide) rfl rfl ?_
  refine g_iconst (q := 8) dX11_striking_7 kI_0 rfl ?_
  refine g_istore (lr := [(4, .long (1 : Int64)), (2, .long (0 : Int64)), (1, .int (-1 : Int32)), (0, .ref (b + 0))]) (q := 10) dX11_striking_8 (by decide) rfl rfl ?_
  refine g_bind (S := (Int32 × gS)) (hd := 120) (lvf := fun z1 => [(1, .int z1.1)]) (stf := fun z1 => []) (σf := fun z1 => z1.2) ?_ (fun z1 => ?_)
  · refine g_loop (S := (Int32 × Int64 × Int64 × Int32 × gS)) (lvf := fun z2 => [(6, .int z2.1), (4, .long z2.2.1), (2, .long z2.2.2.1), (1, .int z2.2.2.2.1), (0, .ref (b + 0))]) (σf := fun z2 => z2.2.2.2.2) (fun z2 => ?_) ((0 : Int32), (1 : Int64), (0 : Int64), (-1 : Int32), σ)
    refine g_iload (q := 12) 0 dX11_striking_10 rfl rfl ?_
    refine g_aload_n (q := 13) 4 dX11_striking_12 rfl rfl rfl ?_
    refine g_getA (q := 16) fX11_signs dX11_striking_13 ww1066 rfl ?_
    refine g_aload_n (q := 17) 4 dX11_striking_16 rfl rfl rfl ?_
    refine g_getI (q := 20) fX11_live dX11_striking_17 ww1060 rfl ?_
    refine g_iald (q := 21) (aX11_signs) dX11_striking_20 rfl ?_
    refine g_icmp_ge (t := 120) (q := 24) dX11_striking_21 (by decide) rfl ?_ ?_
    · refine g_sub (lr := [(1, .int z2.2.2.2.1)]) [3] rfl ?_
      exact (g_leave (g_there ((z2.2.2.2.1, z2.2.2.2.2) : (Int32 × gS))))
    · refine g_iconst (q := 25) dX11_striking_24 kI_0 rfl ?_
      refine g_istore (lr := [(6, .int z2.1), (4, .long z2.2.1), (2, .long z2.2.2.1), (1, .int z2.2.2.2.1), (0, .ref (b + 0))]) (q := 27) dX11_striking_25 (by decide) rfl rfl ?_
      refine g_bind (S := (Int32 × Int64 × Int64 × gS)) (hd := 114) (lvf := fun z3 => [(1, .int z3.1), (2, .long z3.2.1), (4, .long z3.2.2.1), (6, .int z2.1), (0, .ref (b + 0))]) (stf := fun z3 => []) (σf := fun z3 => z3.2.2.2) ?_ (fun z3 => ?_)
      · refine g_sub (lr := [(7, .int (0 : Int32)), (4, .long z2.2.1), (2, .long z2.2.2.1), (1, .int z2.2.2.2.1), (6, .int z2.1), (0, .ref (b + 0))]) [0, 2, 3, 4, 1, 5] rfl ?_
        refine g_loop (S := (Int32 × Int64 × Int64 × Int32 × gS)) (lvf := fun z4 => [(7, .int z4.1), (4, .long z4.2.1), (2, .long z4.2.2.1), (1, .int z4.2.2.2.1), (6, .int z2.1), (0, .ref (b + 0))]) (σf := fun z4 => z4.2.2.2.2) (fun z4 => ?_) ((0 : Int32), z2.2.1, z2.2.2.1, z2.2.2.2.1, z2.2.2.2.2)
        refine g_iload (q := 29) 0 dX11_striking_27 rfl rfl ?_
        refine g_aload_n (q := 30) 5 dX11_striking_29 rfl rfl rfl ?_
        refine g_getA (q := 33) fX11_says dX11_striking_30 ww1067 rfl ?_
        refine g_aload_n (q := 34) 5 dX11_striking_33 rfl rfl rfl ?_
        refine g_getI (q := 37) fX11_live dX11_striking_34 ww1060 rfl ?_
        refine g_iald (q := 38) (aX11_says) dX11_striking_37 rfl ?_
        refine g_icmp_ge (t := 114) (q := 41) dX11_striking_38 (by decide) rfl ?_ ?_
        · refine g_sub (lr := [(1, .int z4.2.2.2.1), (2, .long z4.2.2.1), (4, .long z4.2.1), (6, .int z2.1), (0, .ref (b + 0))]) [3, 2, 1, 4, 5] rfl ?_
          exact (g_leave (g_there ((z4.2.2.2.1, z4.2.2.1, z4.2.1, z4.2.2.2.2) : (Int32 × Int64 × Int64 × gS))))
        · refine g_aload_n (q := 42) 5 dX11_striking_41 rfl rfl rfl ?_
          refine g_aload_n (q := 43) 5 dX11_striking_42 rfl rfl rfl ?_
          refine g_iload (q := 45) 4 dX11_striking_43 rfl rfl ?_
          refine g_callO (As := [.int z2.1]) (st := [.ref (b + 0)]) (cn_X11_upSet) shX11 rfl cwX11_403 rfl dX11_striking_45 rfl (Nat.le_of_ble_eq_true rfl) (by decide) (kk_I (fun v5 s6 => ?_))
          refine g_aload_n (q := 49) 5 dX11_striking_48 rfl rfl rfl ?_
          refine g_iload (q := 51) 0 dX11_striking_49 rfl rfl ?_
          refine g_callO (As := [.int z4.1]) (st := [.int v5, .ref (b + 0)]) (cn_X11_trueSet) shX11 rfl cwX11_409 rfl dX11_striking_51 rfl (Nat.le_of_ble_eq_true rfl) (by decide) (kk_I (fun v7 s8 => ?_))
          refine g_callO (As := [.int v5, .int v7]) (st := []) (cn_X11_moreIn) shX11 rfl cwX11_415 rfl dX11_striking_54 rfl (Nat.le_of_ble_eq_true rfl) (by decide) (kk_PL (fun v9 => ?_))
          refine g_lstore (lr := [(7, .int z4.1), (4, .long z4.2.1), (2, .long z4.2.2.1), (1, .int z4.2.2.2.1), (6, .int z2.1), (0, .ref (b + 0))]) (q := 59) dX11_striking_57 (by decide) rfl rfl ?_
          refine g_aload_n (q := 60) 6 dX11_striking_59 rfl rfl rfl ?_
          refine g_aload_n (q := 61) 6 dX11_striking_60 rfl rfl rfl ?_
          refine g_iload (q := 63) 5 dX11_striking_61 rfl rfl ?_
          refine g_callO (As := [.int z2.1]) (st := [.ref (b + 0)]) (cn_X11_upSet) shX11 rfl cwX11_403 rfl dX11_striking_63 rfl (Nat.le_of_ble_eq_true rfl) (by decide) (kk_I (fun v11 s12 => ?_))
          refine g_callO (As := [.int v11]) (st := []) (cn_X11_allIn) shX11 rfl cwX11_418 rfl dX11_striking_66 rfl (Nat.le_of_ble_eq_true rfl) (by decide) (kk_PL (fun v13 => ?_))
          refine g_lstore (lr := [(8, .long v9), (7, .int z4.1), (4, .long z4.2.1), (2, .long z4.2.2.1), (1, .int z4.2.2.2.1), (6, .int z2.1), (0, .ref (b + 0))]) (q := 71) dX11_striking_69 (by decide) rfl rfl ?_
          refine g_iload_n (q := 72) 5 dX11_striking_71 rfl rfl rfl ?_
          refine g_iconst (q := 73) dX11_striking_72 kI_m1 rfl ?_
          refine g_icmp_eq (t := 92) (q := 76) dX11_striking_73 (by decide) rfl ?_ ?_
          · refine g_bipush (q := 94) dX11_striking_92 kB_100 rfl ?_
            refine g_iload (q := 96) 6 dX11_striking_94 rfl rfl ?_
            refine g_imul (q := 97) dX11_striking_96 rfl ?_
            refine g_iload (q := 99) 2 dX11_striking_97 rfl rfl ?_
            refine g_iadd (q := 100) dX11_striking_99 rfl ?_
            refine g_leti (fun x15 => ?_)
            refine g_istore_n (lr := [(10, .long v13), (8, .long v9), (7, .int z4.1), (4, .long z4.2.1), (2, .long z4.2.2.1), (6, .int z2.1), (0, .ref (b + 0))]) (q := 101) dX11_striking_100 rfl (by decide) rfl rfl ?_
            refine g_lload (q := 103) 2 dX11_striking_101 rfl rfl ?_
            refine g_lstore_n (lr := [(1, .int x15), (10, .long v13), (8, .long v9), (7, .int z4.1), (4, .long z4.2.1), (6, .int z2.1), (0, .ref (b + 0))]) (q := 104) dX11_striking_103 rfl (by decide) rfl rfl ?_
            refine g_lload (q := 106) 2 dX11_striking_104 rfl rfl ?_
            refine g_lstore (lr := [(2, .long v9), (1, .int x15), (10, .long v13), (8, .long v9), (7, .int z4.1), (6, .int z2.1), (0, .ref (b + 0))]) (q := 108) dX11_striking_106 (by decide) rfl rfl ?_
            refine g_iinc (lr := [(4, .long v13), (2, .long v9), (1, .int x15), (10, .long v13), (8, .long v9), (6, .int z2.1), (0, .ref (b + 0))]) (q := 111) 5 dX11_striking_108 rfl kI_1 (by decide) rfl rfl (fun x16 => ?_)
            refine g_goto (t := 27) dX11_striking_111 (by decide) ?_
            refine g_sub (lr := [(7, .int x16), (4, .long v13), (2, .long v9), (1, .int x15), (6, .int z2.1), (0, .ref (b + 0))]) [0, 1, 2, 3, 6, 7] rfl ?_
            exact (g_again ((x16, v13, v9, x15, s12) : (Int32 × Int64 × Int64 × Int32 × gS)))
          · refine g_lload (q := 78) 1 dX11_striking_76 rfl rfl ?_
            refine g_lload (q := 80) 3 dX11_striking_78 rfl rfl ?_
            refine g_lmul (q := 81) dX11_striking_80 rfl ?_
            refine g_lload_n (q := 82) 4 dX11_striking_81 rfl rfl rfl ?_
            refine g_lload (q := 84) 0 dX11_striking_82 rfl rfl ?_
            refine g_lmul (q := 85) dX11_striking_84 rfl ?_
            refine g_lcmp (q := 86) dX11_striking_85 rfl ?_
            refine g_if_lt (t := 92) (q := 89) dX11_striking_86 (by decide) rfl ?_ ?_
            · refine g_bipush (q := 94) dX11_striking_92 kB_100 rfl ?_
              refine g_iload (q := 96) 6 dX11_striking_94 rfl rfl ?_
              refine g_imul (q := 97) dX11_striking_96 rfl ?_
              refine g_iload (q := 99) 2 dX11_striking_97 rfl rfl ?_
              refine g_iadd (q := 100) dX11_striking_99 rfl ?_
              refine g_leti (fun x17 => ?_)
              refine g_istore_n (lr := [(10, .long v13), (8, .long v9), (7, .int z4.1), (4, .long z4.2.1), (2, .long z4.2.2.1), (6, .int z2.1), (0, .ref (b + 0))]) (q := 101) dX11_striking_100 rfl (by decide) rfl rfl ?_
              refine g_lload (q := 103) 2 dX11_striking_101 rfl rfl ?_
              refine g_lstore_n (lr := [(1, .int x17), (10, .long v13), (8, .long v9), (7, .int z4.1), (4, .long z4.2.1), (6, .int z2.1), (0, .ref (b + 0))]) (q := 104) dX11_striking_103 rfl (by decide) rfl rfl ?_
              refine g_lload (q := 106) 2 dX11_striking_104 rfl rfl ?_
              refine g_lstore (lr := [(2, .long v9), (1, .int x17), (10, .long v13), (8, .long v9), (7, .int z4.1), (6, .int z2.1), (0, .ref (b + 0))]) (q := 108) dX11_striking_106 (by decide) rfl rfl ?_
              refine g_iinc (lr := [(4, .long v13), (2, .long v9), (1, .int x17), (10, .long v13), (8, .long v9), (6, .int z2.1), (0, .ref (b + 0))]) (q := 111) 5 dX11_striking_108 rfl kI_1 (by decide) rfl rfl (fun x18 => ?_)
              refine g_goto (t := 27) dX11_striking_111 (by decide) ?_
              refine g_sub (lr := [(7, .int x18), (4, .long v13), (2, .long v9), (1, .int x17), (6, .int z2.1), (0, .ref (b + 0))]) [0, 1, 2, 3, 6, 7] rfl ?_
              exact (g_again ((x18, v13, v9, x17, s12) : (Int32 × Int64 × Int64 × Int32 × gS)))
            · refine g_goto (t := 108) dX11_striking_89 (by decide) ?_
              refine g_iinc (lr := [(10, .long v13), (8, .long v9), (4, .long z4.2.1), (2, .long z4.2.2.1), (1, .int z4.2.2.2.1), (6, .int z2.1), (0, .ref (b + 0))]) (q := 111) 2 dX11_striking_108 rfl kI_1 (by decide) rfl rfl (fun x19 => ?_)
              refine g_goto (t := 27) dX11_striking_111 (by decide) ?_
              refine g_sub (lr := [(7, .int x19), (4, .long z4.2.1), (2, .long z4.2.2.1), (1, .int z4.2.2.2.1), (6, .int z2.1), (0, .ref (b + 0))]) [0, 3, 4, 5, 6, 7] rfl ?_
              exact (g_again ((x19, z4.2.1, z4.2.2.1, z4.2.2.2.1, s12) : (Int32 × Int64 × Int64 × Int32 × gS)))
      · refine g_iinc (lr := [(1, .int z3.1), (2, .long z3.2.1), (4, .long z3.2.2.1), (0, .ref (b + 0))]) (q := 117) 3 dX11_striking_114 rfl kI_1 (by decide) rfl rfl (fun x20 => ?_)
        refine g_goto (t := 10) dX11_striking_117 (by decide) ?_
        refine g_sub (lr := [(6, .int x20), (4, .long z3.2.2.1), (2, .long z3.2.1), (1, .int z3.1), (0, .ref (b + 0))]) [0, 3, 2, 1, 4] rfl ?_
        exact (g_again ((x20, z3.2.2.1, z3.2.1, z3.1, z3.2.2.2) : (Int32 × Int64 × Int64 × Int32 × gS)))
  · refine g_iload_n (q := 121) 0 dX11_striking_120 rfl rfl rfl ?_
    exact (g_iret dX11_striking_121)
noncomputable def pX11_bound (a1 : Int32) (σ : gS) : Option (Int32 × gS) := bn1 (pX11_in a1 (1 : Int32) (10000 : Int32)) (fun v1 => if v1 = 0 then some ((-1 : Int32), σ) else bn1 (lpP (fun (z4 : (Int32 × Int32 × gS)) => gx (z4.2.2.1 0 18) 2 (if (z4.2.2.1 11 (z4.2.2.1 0 18).toNatClampNeg) ≤ z4.1 then some (.inr (z4.2.1, z4.2.2)) else bn1 (lpP (fun (z6 : (Int32 × Int32 × gS)) => gx (z6.2.2.1 0 18) 2 (if (z6.2.2.1 12 (z6.2.2.1 0 18).toNatClampNeg) ≤ z6.1 then some (.inr (z6.2.1, z6.2.2)) else bn2 (pX11_upSet z4.1 z6.2.2) (fun v7 s8 => bn2 (pX11_trueSet z6.1 s8) (fun v9 s10 => bn1 (pX11_moreIn v7 v9 s10) (fun v11 => bn2 (pX11_upSet z4.1 s10) (fun v13 s14 => bn1 (pX11_allIn v13 s14) (fun v15 => if 0 < (lg_cmp (v11 * (a1.toInt64)) v15) then lt' (z6.1 + (1 : Int32)) (fun x17 => some (.inl (x17, z6.2.1, s14))) else lt' (z6.2.1 + (1 : Int32)) (fun x18 => lt' (z6.1 + (1 : Int32)) (fun x19 => some (.inl (x19, x18, s14))))))))))) ((0 : Int32), z4.2.1, z4.2.2)) (fun (z5 : (Int32 × gS)) => lt' (z4.1 + (1 : Int32)) (fun x20 => some (.inl (x20, z5.1, z5.2)))))) ((0 : Int32), (0 : Int32), σ)) (fun (z3 : (Int32 × gS)) => some (z3.1, z3.2)))
set_option maxRecDepth 100000 in
theorem cn_X11_bound {G : gG} {b : Nat} {a1 : Int32} {σ : gS} : CN vR G b 6 yX11_bound cX11_bound 5 (some .int) kI [.ref (b + 0), .int a1] σ (pX11_bound a1 σ) := by
  refine cn_of (own := RX11) rfl rfl (Nat.le_of_ble_eq_true rfl) ?_
  show GF vR G b (6, 0, 0) RX11 cX11_bound 5 (some .int) kI 0 [(0, .ref (b + 0)), (1, .int a1)] [] σ (pX11_bound a1 σ)
  unfold pX11_bound
  refine g_iload_n (q := 1) 1 dX11_bound_0 rfl rfl rfl ?_
  refine g_iconst (q := 2) dX11_bound_1 kI_1 rfl ?_
  refine g_sipush (q := 5) dX11_bound_2 kS_10000 rfl ?_
  refine g_callT (As := [.int a1, .int (1 : Int32), .int (10000 : Int32)]) (st := []) (cn_X11_in) cwX11_313 rfl dX11_bound_5 rfl (Nat.le_of_ble_eq_true rfl) (by decide) (kk_PI (fun v1 => ?_))
  refine g_if_ne (t := 13) (q := 11) dX11_bound_8 (by decide) rfl ?_ ?_
  · refine g_iconst (q := 12) dX11_bound_11 kI_m1 rfl ?_
    exact (g_iret dX11_bound_12)
  · refine g_iconst (q := 14) dX11_bound_13 kI_0 rfl ?_
    refine g_istore_n (lr := [(0, .ref (b + 0)), (1, .int a1)]) (q := 15) dX11_bound_14 rfl (by decide) rfl rfl ?_
    refine g_iconst (q := 16) dX11_bound_15 kI_0 rfl ?_
    refine g_istore_n (lr := [(2, .int (0 : Int32)), (0, .ref (b + 0)), (1, .int a1)]) (q := 17) dX11_bound_16 rfl (by decide) rfl rfl ?_
    refine g_bind (S := (Int32 × gS)) (hd := 93) (lvf := fun z3 => [(2, .int z3.1)]) (stf := fun z3 => []) (σf := fun z3 => z3.2) ?_ (fun z3 => ?_)
    · refine g_loop (S := (Int32 × Int32 × gS)) (lvf := fun z4 => [(3, .int z4.1), (2, .int z4.2.1), (0, .ref (b + 0)), (1, .int a1)]) (σf := fun z4 => z4.2.2) (fun z4 => ?_) ((0 : Int32), (0 : Int32), σ)
      refine g_iload_n (q := 18) 0 dX11_bound_17 rfl rfl rfl ?_
      refine g_aload_n (q := 19) 2 dX11_bound_18 rfl rfl rfl ?_
      refine g_getA (q := 22) fX11_signs dX11_bound_19 ww1066 rfl ?_
      refine g_aload_n (q := 23) 2 dX11_bound_22 rfl rfl rfl ?_
      refine g_getI (q := 26) fX11_live dX11_bound_23 ww1060 rfl ?_
      refine g_iald (q := 27) (aX11_signs) dX11_bound_26 rfl ?_
      refine g_icmp_ge (t := 93) (q := 30) dX11_bound_27 (by decide) rfl ?_ ?_
      · refine g_sub (lr := [(2, .int z4.2.1)]) [1] rfl ?_
        exact (g_leave (g_there ((z4.2.1, z4.2.2) : (Int32 × gS))))
      · refine g_iconst (q := 31) dX11_bound_30 kI_0 rfl ?_
        refine g_istore (lr := [(3, .int z4.1), (2, .int z4.2.1), (0, .ref (b + 0)), (1, .int a1)]) (q := 33) dX11_bound_31 (by decide) rfl rfl ?_
        refine g_bind (S := (Int32 × gS)) (hd := 87) (lvf := fun z5 => [(2, .int z5.1), (3, .int z4.1), (0, .ref (b + 0)), (1, .int a1)]) (stf := fun z5 => []) (σf := fun z5 => z5.2) ?_ (fun z5 => ?_)
        · refine g_sub (lr := [(4, .int (0 : Int32)), (2, .int z4.2.1), (3, .int z4.1), (0, .ref (b + 0)), (1, .int a1)]) [0, 2, 1, 3, 4] rfl ?_
          refine g_loop (S := (Int32 × Int32 × gS)) (lvf := fun z6 => [(4, .int z6.1), (2, .int z6.2.1), (3, .int z4.1), (0, .ref (b + 0)), (1, .int a1)]) (σf := fun z6 => z6.2.2) (fun z6 => ?_) ((0 : Int32), z4.2.1, z4.2.2)
          refine g_iload (q := 35) 0 dX11_bound_33 rfl rfl ?_
          refine g_aload_n (q := 36) 3 dX11_bound_35 rfl rfl rfl ?_
          refine g_getA (q := 39) fX11_says dX11_bound_36 ww1067 rfl ?_
          refine g_aload_n (q := 40) 3 dX11_bound_39 rfl rfl rfl ?_
          refine g_getI (q := 43) fX11_live dX11_bound_40 ww1060 rfl ?_
          refine g_iald (q := 44) (aX11_says) dX11_bound_43 rfl ?_
          refine g_icmp_ge (t := 87) (q := 47) dX11_bound_44 (by decide) rfl ?_ ?_
          · refine g_sub (lr := [(2, .int z6.2.1), (3, .int z4.1), (0, .ref (b + 0)), (1, .int a1)]) [1, 2, 3, 4] rfl ?_
            exact (g_leave (g_there ((z6.2.1, z6.2.2) : (Int32 × gS))))
          · refine g_aload_n (q := 48) 3 dX11_bound_47 rfl rfl rfl ?_
            refine g_aload_n (q := 49) 3 dX11_bound_48 rfl rfl rfl ?_
            refine g_iload_n (q := 50) 2 dX11_bound_49 rfl rfl rfl ?_
            refine g_callO (As := [.int z4.1]) (st := [.ref (b + 0)]) (cn_X11_upSet) shX11 rfl cwX11_403 rfl dX11_bound_50 rfl (Nat.le_of_ble_eq_true rfl) (by decide) (kk_I (fun v7 s8 => ?_))
            refine g_aload_n (q := 54) 3 dX11_bound_53 rfl rfl rfl ?_
            refine g_iload (q := 56) 0 dX11_bound_54 rfl rfl ?_
            refine g_callO (As := [.int z6.1]) (st := [.int v7, .ref (b + 0)]) (cn_X11_trueSet) shX11 rfl cwX11_409 rfl dX11_bound_56 rfl (Nat.le_of_ble_eq_true rfl) (by decide) (kk_I (fun v9 s10 => ?_))
            refine g_callO (As := [.int v7, .int v9]) (st := []) (cn_X11_moreIn) shX11 rfl cwX11_415 rfl dX11_bound_59 rfl (Nat.le_of_ble_eq_true rfl) (by decide) (kk_PL (fun v11 => ?_))
            refine g_iload_n (q := 63) 4 dX11_bound_62 rfl rfl rfl ?_
            refine g_i2l (q := 64) dX11_bound_63 rfl ?_
            refine g_lmul (q := 65) dX11_bound_64 rfl ?_
            refine g_aload_n (q := 66) 3 dX11_bound_65 rfl rfl rfl ?_
            refine g_aload_n (q := 67) 3 dX11_bound_66 rfl rfl rfl ?_
            refine g_iload_n (q := 68) 2 dX11_bound_67 rfl rfl rfl ?_
            refine g_callO (As := [.int z4.1]) (st := [.ref (b + 0), .long (v11 * (a1.toInt64))]) (cn_X11_upSet) shX11 rfl cwX11_403 rfl dX11_bound_68 rfl (Nat.le_of_ble_eq_true rfl) (by decide) (kk_I (fun v13 s14 => ?_))
            refine g_callO (As := [.int v13]) (st := [.long (v11 * (a1.toInt64))]) (cn_X11_allIn) shX11 rfl cwX11_418 rfl dX11_bound_71 rfl (Nat.le_of_ble_eq_true rfl) (by decide) (kk_PL (fun v15 => ?_))
            refine g_lcmp (q := 75) dX11_bound_74 rfl ?_
            refine g_if_gt (t := 81) (q := 78) dX11_bound_75 (by decide) rfl ?_ ?_
            · refine g_iinc (lr := [(2, .int z6.2.1), (3, .int z4.1), (0, .ref (b + 0)), (1, .int a1)]) (q := 84) 0 dX11_bound_81 rfl kI_1 (by decide) rfl rfl (fun x17 => ?_)
              refine g_goto (t := 33) dX11_bound_84 (by decide) ?_
              exact (g_again ((x17, z6.2.1, s14) : (Int32 × Int32 × gS)))
            · refine g_iinc (lr := [(4, .int z6.1), (3, .int z4.1), (0, .ref (b + 0)), (1, .int a1)]) (q := 81) 1 dX11_bound_78 rfl kI_1 (by decide) rfl rfl (fun x18 => ?_)
              refine g_iinc (lr := [(2, .int x18), (3, .int z4.1), (0, .ref (b + 0)), (1, .int a1)]) (q := 84) 1 dX11_bound_81 rfl kI_1 (by decide) rfl rfl (fun x19 => ?_)
              refine g_goto (t := 33) dX11_bound_84 (by decide) ?_
              exact (g_again ((x19, x18, s14) : (Int32 × Int32 × gS)))
        · refine g_iinc (lr := [(2, .int z5.1), (0, .ref (b + 0)), (1, .int a1)]) (q := 90) 1 dX11_bound_87 rfl kI_1 (by decide) rfl rfl (fun x20 => ?_)
          refine g_goto (t := 17) dX11_bound_90 (by decide) ?_
          exact (g_again ((x20, z5.1, z5.2) : (Int32 × Int32 × gS)))
    · refine g_iload_n (q := 94) 0 dX11_bound_93 rfl rfl rfl ?_
      exact (g_iret dX11_bound_94)
noncomputable def pX11_fact (a1 : Int32) (a2 : Int32) (a3 : Int32) (a4 : Int32) (σ : gS) : Option (Int32 × gS) := gx (σ.1 0 60) 60 (lt' (wI σ 43 (σ.1 0 60).toNatClampNeg a1) (fun s1 => gx (s1.1 0 60) 60 (lt' (wI s1 44 (s1.1 0 60).toNatClampNeg a2) (fun s2 => gx (s2.1 0 60) 60 (lt' (wI s2 45 (s2.1 0 60).toNatClampNeg a3) (fun s3 => gx (s3.1 0 60) 60 (lt' (wI s3 46 (s3.1 0 60).toNatClampNeg (a4 &&& 1)) (fun s4 => lt' (wI s4 0 60 ((s4.1 0 60) + (1 : Int32))) (fun s5 => some ((s5.1 0 60) - (1 : Int32), s5))))))))))
set_option maxRecDepth 100000 in
theorem cn_X11_fact {G : gG} {b : Nat} {a1 : Int32} {a2 : Int32} {a3 : Int32} {a4 : Int32} {σ : gS} : CN vR G b 1 yX11_fact cX11_fact 5 (some .int) kI [.ref (b + 0), .int a1, .int a2, .int a3, .int a4] σ (pX11_fact a1 a2 a3 a4 σ) := by
  refine cn_of (own := RX11) rfl rfl (Nat.le_of_ble_eq_true rfl) ?_
  show GF vR G b (1, 0, 0) RX11 cX11_fact 5 (some .int) kI 0 [(0, .ref (b + 0)), (1, .int a1), (2, .int a2), (3, .int a3), (4, .int a4)] [] σ (pX11_fact a1 a2 a3 a4 σ)
  unfold pX11_fact
  refine g_aload_n (q := 1) 0 dX11_fact_0 rfl rfl rfl ?_
  refine g_getA (q := 4) fX11_factSort dX11_fact_1 ww1103 rfl ?_
  refine g_aload_n (q := 5) 0 dX11_fact_4 rfl rfl rfl ?_
  refine g_getI (q := 8) fX11_facts dX11_fact_5 ww1102 rfl ?_
  refine g_iload_n (q := 9) 1 dX11_fact_8 rfl rfl rfl ?_
  refine g_iast (q := 10) (aX11_factSort) dX11_fact_9 rfl (fun s1 => ?_)
  refine g_aload_n (q := 11) 0 dX11_fact_10 rfl rfl rfl ?_
  refine g_getA (q := 14) fX11_factA dX11_fact_11 ww1104 rfl ?_
  refine g_aload_n (q := 15) 0 dX11_fact_14 rfl rfl rfl ?_
  refine g_getI (q := 18) fX11_facts dX11_fact_15 ww1102 rfl ?_
  refine g_iload_n (q := 19) 2 dX11_fact_18 rfl rfl rfl ?_
  refine g_iast (q := 20) (aX11_factA) dX11_fact_19 rfl (fun s2 => ?_)
  refine g_aload_n (q := 21) 0 dX11_fact_20 rfl rfl rfl ?_
  refine g_getA (q := 24) fX11_factB dX11_fact_21 ww1105 rfl ?_
  refine g_aload_n (q := 25) 0 dX11_fact_24 rfl rfl rfl ?_
  refine g_getI (q := 28) fX11_facts dX11_fact_25 ww1102 rfl ?_
  refine g_iload_n (q := 29) 3 dX11_fact_28 rfl rfl rfl ?_
  refine g_iast (q := 30) (aX11_factB) dX11_fact_29 rfl (fun s3 => ?_)
  refine g_aload_n (q := 31) 0 dX11_fact_30 rfl rfl rfl ?_
  refine g_getA (q := 34) fX11_isRight dX11_fact_31 ww1106 rfl ?_
  refine g_aload_n (q := 35) 0 dX11_fact_34 rfl rfl rfl ?_
  refine g_getI (q := 38) fX11_facts dX11_fact_35 ww1102 rfl ?_
  refine g_iload (q := 40) 4 dX11_fact_38 rfl rfl ?_
  refine g_zast (q := 41) (aX11_isRight) dX11_fact_40 rfl (fun s4 => ?_)
  refine g_aload_n (q := 42) 0 dX11_fact_41 rfl rfl rfl ?_
  refine g_dup (q := 43) dX11_fact_42 rfl rfl ?_
  refine g_getI (q := 46) fX11_facts dX11_fact_43 ww1102 rfl ?_
  refine g_iconst (q := 47) dX11_fact_46 kI_1 rfl ?_
  refine g_iadd (q := 48) dX11_fact_47 rfl ?_
  refine g_putI (q := 51) fX11_facts pwX11_facts okTX11 dX11_fact_48 ww1102 rfl (fun s5 => ?_)
  refine g_aload_n (q := 52) 0 dX11_fact_51 rfl rfl rfl ?_
  refine g_getI (q := 55) fX11_facts dX11_fact_52 ww1102 rfl ?_
  refine g_iconst (q := 56) dX11_fact_55 kI_1 rfl ?_
  refine g_isub (q := 57) dX11_fact_56 rfl ?_
  exact (g_iret dX11_fact_57)
noncomputable def pX11_choice (a1 : Int32) (a2 : Int32) (a3 : Int32) (σ : gS) : Option (Int32 × gS) := if (σ.1 0 60) = (60 : Int32) then some ((-1 : Int32), σ) else bn1 (pX11_isPerson a1 σ) (fun v1 => if v1 = 0 then some ((-1 : Int32), σ) else bn1 (pX11_in a3 (1 : Int32) (5 : Int32)) (fun v3 => if v3 = 0 then some ((-1 : Int32), σ) else bn2 (pX11_fact (0 : Int32) a1 a3 a2 σ) (fun v5 s6 => some (v5, s6))))
set_option maxRecDepth 100000 in
theorem cn_X11_choice {G : gG} {b : Nat} {a1 : Int32} {a2 : Int32} {a3 : Int32} {σ : gS} : CN vR G b 3 yX11_choice cX11_choice 4 (some .int) kI [.ref (b + 0), .int a1, .int a2, .int a3] σ (pX11_choice a1 a2 a3 σ) := by
  refine cn_of (own := RX11) rfl rfl (Nat.le_of_ble_eq_true rfl) ?_
  show GF vR G b (3, 0, 0) RX11 cX11_choice 4 (some .int) kI 0 [(0, .ref (b + 0)), (1, .int a1), (2, .int a2), (3, .int a3)] [] σ (pX11_choice a1 a2 a3 σ)
  unfold pX11_choice
  refine g_aload_n (q := 1) 0 dX11_choice_0 rfl rfl rfl ?_
  refine g_getI (q := 4) fX11_facts dX11_choice_1 ww1102 rfl ?_
  refine g_bipush (q := 6) dX11_choice_4 kB_60 rfl ?_
  refine g_icmp_eq (t := 26) (q := 9) dX11_choice_6 (by decide) rfl ?_ ?_
  · refine g_iconst (q := 27) dX11_choice_26 kI_m1 rfl ?_
    refine g_goto (t := 38) dX11_choice_27 (by decide) ?_
    exact (g_iret dX11_choice_38)
  · refine g_aload_n (q := 10) 0 dX11_choice_9 rfl rfl rfl ?_
    refine g_iload_n (q := 11) 1 dX11_choice_10 rfl rfl rfl ?_
    refine g_callO (As := [.int a1]) (st := []) (cn_X11_isPerson) shX11 rfl cwX11_328 rfl dX11_choice_11 rfl (Nat.le_of_ble_eq_true rfl) (by decide) (kk_PI (fun v1 => ?_))
    refine g_if_eq (t := 26) (q := 17) dX11_choice_14 (by decide) rfl ?_ ?_
    · refine g_iconst (q := 27) dX11_choice_26 kI_m1 rfl ?_
      refine g_goto (t := 38) dX11_choice_27 (by decide) ?_
      exact (g_iret dX11_choice_38)
    · refine g_iload_n (q := 18) 3 dX11_choice_17 rfl rfl rfl ?_
      refine g_iconst (q := 19) dX11_choice_18 kI_1 rfl ?_
      refine g_iconst (q := 20) dX11_choice_19 kI_5 rfl ?_
      refine g_callT (As := [.int a3, .int (1 : Int32), .int (5 : Int32)]) (st := []) (cn_X11_in) cwX11_313 rfl dX11_choice_20 rfl (Nat.le_of_ble_eq_true rfl) (by decide) (kk_PI (fun v3 => ?_))
      refine g_if_ne (t := 30) (q := 26) dX11_choice_23 (by decide) rfl ?_ ?_
      · refine g_iconst (q := 27) dX11_choice_26 kI_m1 rfl ?_
        refine g_goto (t := 38) dX11_choice_27 (by decide) ?_
        exact (g_iret dX11_choice_38)
      · refine g_aload_n (q := 31) 0 dX11_choice_30 rfl rfl rfl ?_
        refine g_iconst (q := 32) dX11_choice_31 kI_0 rfl ?_
        refine g_iload_n (q := 33) 1 dX11_choice_32 rfl rfl rfl ?_
        refine g_iload_n (q := 34) 3 dX11_choice_33 rfl rfl rfl ?_
        refine g_iload_n (q := 35) 2 dX11_choice_34 rfl rfl rfl ?_
        refine g_callO (As := [.int (0 : Int32), .int a1, .int a3, .int a2]) (st := []) (cn_X11_fact) shX11 rfl cwX11_428 rfl dX11_choice_35 rfl (Nat.le_of_ble_eq_true rfl) (by decide) (kk_I (fun v5 s6 => ?_))
        exact (g_iret dX11_choice_38)
noncomputable def pX11_list (a1 : Int32) (a2 : Int32) (σ : gS) : Option (Int32 × gS) := if (σ.1 0 60) = (60 : Int32) then some ((-1 : Int32), σ) else bn1 (pX11_isPerson a1 σ) (fun v1 => if v1 = 0 then some ((-1 : Int32), σ) else bn1 (if a2 = 0 then some (2 : Int32) else some (1 : Int32)) (fun (z3 : Int32) => bn2 (pX11_fact z3 a1 (0 : Int32) (0 : Int32) σ) (fun v4 s5 => some (v4, s5))))
set_option maxRecDepth 100000 in
theorem cn_X11_list {G : gG} {b : Nat} {a1 : Int32} {a2 : Int32} {σ : gS} : CN vR G b 3 yX11_list cX11_list 3 (some .int) kI [.ref (b + 0), .int a1, .int a2] σ (pX11_list a1 a2 σ) := by
  refine cn_of (own := RX11) rfl rfl (Nat.le_of_ble_eq_true rfl) ?_
  show GF vR G b (3, 0, 0) RX11 cX11_list 3 (some .int) kI 0 [(0, .ref (b + 0)), (1, .int a1), (2, .int a2)] [] σ (pX11_list a1 a2 σ)
  unfold pX11_list
  refine g_aload_n (q := 1) 0 dX11_list_0 rfl rfl rfl ?_
  refine g_getI (q := 4) fX11_facts dX11_list_1 ww1102 rfl ?_
  refine g_bipush (q := 6) dX11_list_4 kB_60 rfl ?_
  refine g_icmp_eq (t := 17) (q := 9) dX11_list_6 (by decide) rfl ?_ ?_
  · refine g_iconst (q := 18) dX11_list_17 kI_m1 rfl ?_
    refine g_goto (t := 37) dX11_list_18 (by decide) ?_
    exact (g_iret dX11_list_37)
  · refine g_aload_n (q := 10) 0 dX11_list_9 rfl rfl rfl ?_
    refine g_iload_n (q := 11) 1 dX11_list_10 rfl rfl rfl ?_
    refine g_callO (As := [.int a1]) (st := []) (cn_X11_isPerson) shX11 rfl cwX11_328 rfl dX11_list_11 rfl (Nat.le_of_ble_eq_true rfl) (by decide) (kk_PI (fun v1 => ?_))
    refine g_if_ne (t := 21) (q := 17) dX11_list_14 (by decide) rfl ?_ ?_
    · refine g_iconst (q := 18) dX11_list_17 kI_m1 rfl ?_
      refine g_goto (t := 37) dX11_list_18 (by decide) ?_
      exact (g_iret dX11_list_37)
    · refine g_aload_n (q := 22) 0 dX11_list_21 rfl rfl rfl ?_
      refine g_iload_n (q := 23) 2 dX11_list_22 rfl rfl rfl ?_
      refine g_bind (S := Int32) (hd := 31) (lvf := fun z3 => [(1, .int a1)]) (stf := fun z3 => [.int z3, .ref (b + 0)]) (σf := fun z3 => σ) ?_ (fun z3 => ?_)
      · refine g_if_eq (t := 30) (q := 26) dX11_list_23 (by decide) rfl ?_ ?_
        · refine g_iconst (q := 31) dX11_list_30 kI_2 rfl ?_
          refine g_sub (lr := [(1, .int a1)]) [1] rfl ?_
          exact (g_there ((2 : Int32) : Int32))
        · refine g_iconst (q := 27) dX11_list_26 kI_1 rfl ?_
          refine g_goto (t := 31) dX11_list_27 (by decide) ?_
          refine g_sub (lr := [(1, .int a1)]) [1] rfl ?_
          exact (g_there ((1 : Int32) : Int32))
      · refine g_iload_n (q := 32) 0 dX11_list_31 rfl rfl rfl ?_
        refine g_iconst (q := 33) dX11_list_32 kI_0 rfl ?_
        refine g_iconst (q := 34) dX11_list_33 kI_0 rfl ?_
        refine g_callO (As := [.int z3, .int a1, .int (0 : Int32), .int (0 : Int32)]) (st := []) (cn_X11_fact) shX11 rfl cwX11_428 rfl dX11_list_34 rfl (Nat.le_of_ble_eq_true rfl) (by decide) (kk_I (fun v4 s5 => ?_))
        exact (g_iret dX11_list_37)
noncomputable def pX11_tried (a1 : Int32) (a2 : Int32) (σ : gS) : Option (Int32 × gS) := if (σ.1 0 60) = (60 : Int32) then some ((-1 : Int32), σ) else bn1 (pX11_isSign a1 σ) (fun v1 => if v1 = 0 then some ((-1 : Int32), σ) else bn1 (pX11_in a2 (0 : Int32) (9 : Int32)) (fun v3 => if v3 = 0 then some ((-1 : Int32), σ) else bn2 (pX11_fact (3 : Int32) a1 a2 (0 : Int32) σ) (fun v5 s6 => some (v5, s6))))
set_option maxRecDepth 100000 in
theorem cn_X11_tried {G : gG} {b : Nat} {a1 : Int32} {a2 : Int32} {σ : gS} : CN vR G b 3 yX11_tried cX11_tried 3 (some .int) kI [.ref (b + 0), .int a1, .int a2] σ (pX11_tried a1 a2 σ) := by
  refine cn_of (own := RX11) rfl rfl (Nat.le_of_ble_eq_true rfl) ?_
  show GF vR G b (3, 0, 0) RX11 cX11_tried 3 (some .int) kI 0 [(0, .ref (b + 0)), (1, .int a1), (2, .int a2)] [] σ (pX11_tried a1 a2 σ)
  unfold pX11_tried
  refine g_aload_n (q := 1) 0 dX11_tried_0 rfl rfl rfl ?_
  refine g_getI (q := 4) fX11_facts dX11_tried_1 ww1102 rfl ?_
  refine g_bipush (q := 6) dX11_tried_4 kB_60 rfl ?_
  refine g_icmp_eq (t := 27) (q := 9) dX11_tried_6 (by decide) rfl ?_ ?_
  · refine g_iconst (q := 28) dX11_tried_27 kI_m1 rfl ?_
    refine g_goto (t := 39) dX11_tried_28 (by decide) ?_
    exact (g_iret dX11_tried_39)
  · refine g_aload_n (q := 10) 0 dX11_tried_9 rfl rfl rfl ?_
    refine g_iload_n (q := 11) 1 dX11_tried_10 rfl rfl rfl ?_
    refine g_callO (As := [.int a1]) (st := []) (cn_X11_isSign) shX11 rfl cwX11_400 rfl dX11_tried_11 rfl (Nat.le_of_ble_eq_true rfl) (by decide) (kk_PI (fun v1 => ?_))
    refine g_if_eq (t := 27) (q := 17) dX11_tried_14 (by decide) rfl ?_ ?_
    · refine g_iconst (q := 28) dX11_tried_27 kI_m1 rfl ?_
      refine g_goto (t := 39) dX11_tried_28 (by decide) ?_
      exact (g_iret dX11_tried_39)
    · refine g_iload_n (q := 18) 2 dX11_tried_17 rfl rfl rfl ?_
      refine g_iconst (q := 19) dX11_tried_18 kI_0 rfl ?_
      refine g_bipush (q := 21) dX11_tried_19 kB_9 rfl ?_
      refine g_callT (As := [.int a2, .int (0 : Int32), .int (9 : Int32)]) (st := []) (cn_X11_in) cwX11_313 rfl dX11_tried_21 rfl (Nat.le_of_ble_eq_true rfl) (by decide) (kk_PI (fun v3 => ?_))
      refine g_if_ne (t := 31) (q := 27) dX11_tried_24 (by decide) rfl ?_ ?_
      · refine g_iconst (q := 28) dX11_tried_27 kI_m1 rfl ?_
        refine g_goto (t := 39) dX11_tried_28 (by decide) ?_
        exact (g_iret dX11_tried_39)
      · refine g_aload_n (q := 32) 0 dX11_tried_31 rfl rfl rfl ?_
        refine g_iconst (q := 33) dX11_tried_32 kI_3 rfl ?_
        refine g_iload_n (q := 34) 1 dX11_tried_33 rfl rfl rfl ?_
        refine g_iload_n (q := 35) 2 dX11_tried_34 rfl rfl rfl ?_
        refine g_iconst (q := 36) dX11_tried_35 kI_0 rfl ?_
        refine g_callO (As := [.int (3 : Int32), .int a1, .int a2, .int (0 : Int32)]) (st := []) (cn_X11_fact) shX11 rfl cwX11_428 rfl dX11_tried_36 rfl (Nat.le_of_ble_eq_true rfl) (by decide) (kk_I (fun v5 s6 => ?_))
        exact (g_iret dX11_tried_39)
noncomputable def pX11_annul (a1 : Int32) (σ : gS) : Option (Int32 × gS) := if (σ.1 0 60) = (60 : Int32) then some ((-1 : Int32), σ) else bn1 (pX11_in a1 (0 : Int32) ((σ.1 0 60) - (1 : Int32))) (fun v1 => if v1 = 0 then some ((-1 : Int32), σ) else gx a1 60 (if (σ.1 43 a1.toNatClampNeg) = (4 : Int32) then some ((-1 : Int32), σ) else bn2 (pX11_fact (4 : Int32) a1 (0 : Int32) (0 : Int32) σ) (fun v3 s4 => some (v3, s4))))
set_option maxRecDepth 100000 in
theorem cn_X11_annul {G : gG} {b : Nat} {a1 : Int32} {σ : gS} : CN vR G b 2 yX11_annul cX11_annul 2 (some .int) kI [.ref (b + 0), .int a1] σ (pX11_annul a1 σ) := by
  refine cn_of (own := RX11) rfl rfl (Nat.le_of_ble_eq_true rfl) ?_
  show GF vR G b (2, 0, 0) RX11 cX11_annul 2 (some .int) kI 0 [(0, .ref (b + 0)), (1, .int a1)] [] σ (pX11_annul a1 σ)
  unfold pX11_annul
  refine g_aload_n (q := 1) 0 dX11_annul_0 rfl rfl rfl ?_
  refine g_getI (q := 4) fX11_facts dX11_annul_1 ww1102 rfl ?_
  refine g_bipush (q := 6) dX11_annul_4 kB_60 rfl ?_
  refine g_icmp_eq (t := 33) (q := 9) dX11_annul_6 (by decide) rfl ?_ ?_
  · refine g_iconst (q := 34) dX11_annul_33 kI_m1 rfl ?_
    refine g_goto (t := 45) dX11_annul_34 (by decide) ?_
    exact (g_iret dX11_annul_45)
  · refine g_iload_n (q := 10) 1 dX11_annul_9 rfl rfl rfl ?_
    refine g_iconst (q := 11) dX11_annul_10 kI_0 rfl ?_
    refine g_aload_n (q := 12) 0 dX11_annul_11 rfl rfl rfl ?_
    refine g_getI (q := 15) fX11_facts dX11_annul_12 ww1102 rfl ?_
    refine g_iconst (q := 16) dX11_annul_15 kI_1 rfl ?_
    refine g_isub (q := 17) dX11_annul_16 rfl ?_
    refine g_callT (As := [.int a1, .int (0 : Int32), .int ((σ.1 0 60) - (1 : Int32))]) (st := []) (cn_X11_in) cwX11_313 rfl dX11_annul_17 rfl (Nat.le_of_ble_eq_true rfl) (by decide) (kk_PI (fun v1 => ?_))
    refine g_if_eq (t := 33) (q := 23) dX11_annul_20 (by decide) rfl ?_ ?_
    · refine g_iconst (q := 34) dX11_annul_33 kI_m1 rfl ?_
      refine g_goto (t := 45) dX11_annul_34 (by decide) ?_
      exact (g_iret dX11_annul_45)
    · refine g_aload_n (q := 24) 0 dX11_annul_23 rfl rfl rfl ?_
      refine g_getA (q := 27) fX11_factSort dX11_annul_24 ww1103 rfl ?_
      refine g_iload_n (q := 28) 1 dX11_annul_27 rfl rfl rfl ?_
      refine g_iald (q := 29) (aX11_factSort) dX11_annul_28 rfl ?_
      refine g_iconst (q := 30) dX11_annul_29 kI_4 rfl ?_
      refine g_icmp_ne (t := 37) (q := 33) dX11_annul_30 (by decide) rfl ?_ ?_
      · refine g_iconst (q := 34) dX11_annul_33 kI_m1 rfl ?_
        refine g_goto (t := 45) dX11_annul_34 (by decide) ?_
        exact (g_iret dX11_annul_45)
      · refine g_aload_n (q := 38) 0 dX11_annul_37 rfl rfl rfl ?_
        refine g_iconst (q := 39) dX11_annul_38 kI_4 rfl ?_
        refine g_iload_n (q := 40) 1 dX11_annul_39 rfl rfl rfl ?_
        refine g_iconst (q := 41) dX11_annul_40 kI_0 rfl ?_
        refine g_iconst (q := 42) dX11_annul_41 kI_0 rfl ?_
        refine g_callO (As := [.int (4 : Int32), .int a1, .int (0 : Int32), .int (0 : Int32)]) (st := []) (cn_X11_fact) shX11 rfl cwX11_428 rfl dX11_annul_42 rfl (Nat.le_of_ble_eq_true rfl) (by decide) (kk_I (fun v3 s4 => ?_))
        exact (g_iret dX11_annul_45)
noncomputable def pX11_isKnown (a1 : Int32) (σ : gS) : Option (Int32) := bn1 (pX11_in a1 (0 : Int32) (σ.1 0 60)) (fun v1 => some (v1 &&& 1))
set_option maxRecDepth 100000 in
theorem cn_X11_isKnown {G : gG} {b : Nat} {a1 : Int32} {σ : gS} : CN vR G b 2 yX11_isKnown cX11_isKnown 2 (some .boolean) (kPI σ) [.ref (b + 0), .int a1] σ (pX11_isKnown a1 σ) := by
  refine cn_of (own := RX11) rfl rfl (Nat.le_of_ble_eq_true rfl) ?_
  show GF vR G b (2, 0, 0) RX11 cX11_isKnown 2 (some .boolean) (kPI σ) 0 [(0, .ref (b + 0)), (1, .int a1)] [] σ (pX11_isKnown a1 σ)
  unfold pX11_isKnown
  refine g_iload_n (q := 1) 1 dX11_isKnown_0 rfl rfl rfl ?_
  refine g_iconst (q := 2) dX11_isKnown_1 kI_0 rfl ?_
  refine g_aload_n (q := 3) 0 dX11_isKnown_2 rfl rfl rfl ?_
  refine g_getI (q := 6) fX11_facts dX11_isKnown_3 ww1102 rfl ?_
  refine g_callT (As := [.int a1, .int (0 : Int32), .int (σ.1 0 60)]) (st := []) (cn_X11_in) cwX11_313 rfl dX11_isKnown_6 rfl (Nat.le_of_ble_eq_true rfl) (by decide) (kk_PI (fun v1 => ?_))
  exact (g_bretP dX11_isKnown_9)
noncomputable def pX11_isFact (a1 : Int32) (a2 : Int32) (a3 : Int32) (σ : gS) : Option (Int32) := gx a1 60 (if (σ.1 43 a1.toNatClampNeg) = a2 then lt' (a1 + (1 : Int32)) (fun x1 => bnS (lpP (fun (z3 : Int32) => if a3 ≤ z3 then some (.inr (.inl ())) else gx z3 60 (if (σ.1 43 z3.toNatClampNeg) = (4 : Int32) then gx z3 60 (if (σ.1 44 z3.toNatClampNeg) = a1 then some (.inr (.inr (0 : Int32))) else lt' (z3 + (1 : Int32)) (fun x4 => some (.inl x4))) else lt' (z3 + (1 : Int32)) (fun x5 => some (.inl x5)))) x1) (fun (z2 : Unit) => some (1 : Int32))) else some (0 : Int32))
set_option maxRecDepth 100000 in
theorem cn_X11_isFact {G : gG} {b : Nat} {a1 : Int32} {a2 : Int32} {a3 : Int32} {σ : gS} : CN vR G b 1 yX11_isFact cX11_isFact 5 (some .boolean) (kPI σ) [.ref (b + 0), .int a1, .int a2, .int a3] σ (pX11_isFact a1 a2 a3 σ) := by
  refine cn_of (own := RX11) rfl rfl (Nat.le_of_ble_eq_true rfl) ?_
  show GF vR G b (1, 0, 0) RX11 cX11_isFact 5 (some .boolean) (kPI σ) 0 [(0, .ref (b + 0)), (1, .int a1), (2, .int a2), (3, .int a3)] [] σ (pX11_isFact a1 a2 a3 σ)
  unfold pX11_isFact
  refine g_aload_n (q := 1) 0 dX11_isFact_0 rfl rfl rfl ?_
  refine g_getA (q := 4) fX11_factSort dX11_isFact_1 ww1103 rfl ?_
  refine g_iload_n (q := 5) 1 dX11_isFact_4 rfl rfl rfl ?_
  refine g_iald (q := 6) (aX11_factSort) dX11_isFact_5 rfl ?_
  refine g_iload_n (q := 7) 2 dX11_isFact_6 rfl rfl rfl ?_
  refine g_icmp_eq (t := 12) (q := 10) dX11_isFact_7 (by decide) rfl ?_ ?_
  · refine g_iload_n (q := 13) 1 dX11_isFact_12 rfl rfl rfl ?_
    refine g_iconst (q := 14) dX11_isFact_13 kI_1 rfl ?_
    refine g_iadd (q := 15) dX11_isFact_14 rfl ?_
    refine g_leti (fun x1 => ?_)
    refine g_istore (lr := [(0, .ref (b + 0)), (1, .int a1), (2, .int a2), (3, .int a3)]) (q := 17) dX11_isFact_15 (by decide) rfl rfl ?_
    refine g_bindS (S := Unit) (hd := 53) (lvf := fun z2 => []) (stf := fun z2 => []) (σf := fun z2 => σ) ?_ (fun z2 => ?_)
    · refine g_sub (lr := [(4, .int x1), (0, .ref (b + 0)), (1, .int a1), (3, .int a3)]) [0, 1, 2, 4] rfl ?_
      refine g_loop (S := Int32) (lvf := fun z3 => [(4, .int z3), (0, .ref (b + 0)), (1, .int a1), (3, .int a3)]) (σf := fun z3 => σ) (fun z3 => ?_) x1
      refine g_iload (q := 19) 0 dX11_isFact_17 rfl rfl ?_
      refine g_iload_n (q := 20) 3 dX11_isFact_19 rfl rfl rfl ?_
      refine g_icmp_ge (t := 53) (q := 23) dX11_isFact_20 (by decide) rfl ?_ ?_
      · refine g_sub (lr := []) [] rfl ?_
        exact (g_leave (g_thereS (() : Unit)))
      · refine g_aload_n (q := 24) 1 dX11_isFact_23 rfl rfl rfl ?_
        refine g_getA (q := 27) fX11_factSort dX11_isFact_24 ww1103 rfl ?_
        refine g_iload (q := 29) 0 dX11_isFact_27 rfl rfl ?_
        refine g_iald (q := 30) (aX11_factSort) dX11_isFact_29 rfl ?_
        refine g_iconst (q := 31) dX11_isFact_30 kI_4 rfl ?_
        refine g_icmp_ne (t := 47) (q := 34) dX11_isFact_31 (by decide) rfl ?_ ?_
        · refine g_aload_n (q := 35) 1 dX11_isFact_34 rfl rfl rfl ?_
          refine g_getA (q := 38) fX11_factA dX11_isFact_35 ww1104 rfl ?_
          refine g_iload (q := 40) 0 dX11_isFact_38 rfl rfl ?_
          refine g_iald (q := 41) (aX11_factA) dX11_isFact_40 rfl ?_
          refine g_iload_n (q := 42) 2 dX11_isFact_41 rfl rfl rfl ?_
          refine g_icmp_ne (t := 47) (q := 45) dX11_isFact_42 (by decide) rfl ?_ ?_
          · refine g_iconst (q := 46) dX11_isFact_45 kI_0 rfl ?_
            exact (g_leave (g_right (g_bretP0 dX11_isFact_46)))
          · refine g_iinc (lr := [(0, .ref (b + 0)), (1, .int a1), (3, .int a3)]) (q := 50) 0 dX11_isFact_47 rfl kI_1 (by decide) rfl rfl (fun x4 => ?_)
            refine g_goto (t := 17) dX11_isFact_50 (by decide) ?_
            exact (g_again (x4 : Int32))
        · refine g_iinc (lr := [(0, .ref (b + 0)), (1, .int a1), (3, .int a3)]) (q := 50) 0 dX11_isFact_47 rfl kI_1 (by decide) rfl rfl (fun x5 => ?_)
          refine g_goto (t := 17) dX11_isFact_50 (by decide) ?_
          exact (g_again (x5 : Int32))
    · refine g_iconst (q := 54) dX11_isFact_53 kI_1 rfl ?_
      exact (g_bretP1 dX11_isFact_54)
  · refine g_iconst (q := 11) dX11_isFact_10 kI_0 rfl ?_
    exact (g_bretP0 dX11_isFact_11)
