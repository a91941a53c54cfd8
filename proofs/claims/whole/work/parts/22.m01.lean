noncomputable def pX7_literal (σ : gS) : Option (gS) := bn1 (lpP (fun (z2 : (Int32 × Int32 × gS)) => if (400 : Int32) < z2.1 then some (.inr (z2.2.1, z2.2.2)) else if (z2.2.2.1 3 3) = (8 : Int32) then bn1 (if z2.2.1 = 0 then some (1 : Int32) else some (0 : Int32)) (fun (z3 : Int32) => bn1 (pX7_take z2.2.2) (fun s5 => lt' (z2.1 + (1 : Int32)) (fun x6 => some (.inl (x6, z3, s5))))) else some (.inr (z2.2.1, z2.2.2))) ((0 : Int32), (0 : Int32), σ)) (fun (z1 : (Int32 × gS)) => bn1 (pX7_sum (0 : Int32) z1.2) (fun s8 => lt' (s8.1 3 3) (fun x9 => bn1 (pX10_inRange x9 (30 : Int32) (33 : Int32)) (fun v10 => if v10 = 0 then bn1 (pX7_fail (1 : Int32) s8) (fun s13 => some s13) else bn1 (pX7_take s8) (fun s15 => bn1 (pX7_sum (0 : Int32) s15) (fun s17 => gT (s17.2.2 3 1) tR (fun rr18 => bn1 (pX9_addStep rr18 x9 (0 : Int32) s17) (fun s20 => if z1.1 = 0 then some s20 else gT (s20.2.2 3 1) tR (fun rr21 => bn1 (pX9_addStep rr21 (8 : Int32) (0 : Int32) s20) (fun s23 => some s23))))))))))
set_option maxRecDepth 100000 in
theorem cn_X7_literal {G : gG} {b : Nat}  {σ : gS} : CN vC G b 23 yX7_literal cX7_literal 3 none kV [.ref (b + 3)] σ (pX7_literal σ) := by
  refine cn_of (own := RX7) rfl rfl (Nat.le_of_ble_eq_true rfl) ?_
  show GF vC G b (23, 0, 0) RX7 cX7_literal 3 none kV 0 [(0, .ref (b + 3))] [] σ (pX7_literal σ)
  unfold pX7_literal
  refine g_iconst (q := 1) dX7_literal_0 kI_0 rfl ?_
  refine g_istore_n (lr := [(0, .ref (b + 3))]) (q := 2) dX7_literal_1 rfl (by decide) rfl rfl ?_
  refine g_iconst (q := 3) dX7_literal_2 kI_0 rfl ?_
  refine g_istore_n (lr := [(1, .int (0 : Int32)), (0, .ref (b + 3))]) (q := 4) dX7_literal_3 rfl (by decide) rfl rfl ?_
  refine g_bind (S := (Int32 × gS)) (hd := 40) (lvf := fun z1 => [(1, .int z1.1), (0, .ref (b + 3))]) (stf := fun z1 => []) (σf := fun z1 => z1.2) ?_ (fun z1 => ?_)
  · refine g_loop (S := (Int32 × Int32 × gS)) (lvf := fun z2 => [(2, .int z2.1), (1, .int z2.2.1), (0, .ref (b + 3))]) (σf := fun z2 => z2.2.2) (fun z2 => ?_) ((0 : Int32), (0 : Int32), σ)
    refine g_iload_n (q := 5) 0 dX7_literal_4 rfl rfl rfl ?_
    refine g_sipush (q := 8) dX7_literal_5 kS_400 rfl ?_
    refine g_icmp_gt (t := 40) (q := 11) dX7_literal_8 (by decide) rfl ?_ ?_
    · refine g_sub (lr := [(1, .int z2.2.1), (0, .ref (b + 3))]) [1, 2] rfl ?_
      exact (g_leave (g_there ((z2.2.1, z2.2.2) : (Int32 × gS))))
    · refine g_aload_n (q := 12) 2 dX7_literal_11 rfl rfl rfl ?_
      refine g_getI (q := 15) fX7_here dX7_literal_12 ww202 rfl ?_
      refine g_bipush (q := 17) dX7_literal_15 kB_8 rfl ?_
      refine g_icmp_ne (t := 40) (q := 20) dX7_literal_17 (by decide) rfl ?_ ?_
      · refine g_iload_n (q := 21) 1 dX7_literal_20 rfl rfl rfl ?_
        refine g_bind (S := Int32) (hd := 29) (lvf := fun z3 => [(2, .int z2.1), (0, .ref (b + 3))]) (stf := fun z3 => [.int z3]) (σf := fun z3 => z2.2.2) ?_ (fun z3 => ?_)
        · refine g_if_ne (t := 28) (q := 24) dX7_literal_21 (by decide) rfl ?_ ?_
          · refine g_iconst (q := 25) dX7_literal_24 kI_1 rfl ?_
            refine g_goto (t := 29) dX7_literal_25 (by decide) ?_
            refine g_sub (lr := [(2, .int z2.1), (0, .ref (b + 3))]) [0, 2] rfl ?_
            exact (g_there ((1 : Int32) : Int32))
          · refine g_iconst (q := 29) dX7_literal_28 kI_0 rfl ?_
            refine g_sub (lr := [(2, .int z2.1), (0, .ref (b + 3))]) [0, 2] rfl ?_
            exact (g_there ((0 : Int32) : Int32))
        · refine g_istore_n (lr := [(2, .int z2.1), (0, .ref (b + 3))]) (q := 30) dX7_literal_29 rfl (by decide) rfl rfl ?_
          refine g_aload_n (q := 31) 2 dX7_literal_30 rfl rfl rfl ?_
          refine g_callO (As := []) (st := []) (cn_X7_take) shX7 rfl cwX7_136 rfl dX7_literal_31 rfl (Nat.le_of_ble_eq_true rfl) (by decide) (kk_V (fun s5 => ?_))
          refine g_iinc (lr := [(1, .int z3), (0, .ref (b + 3))]) (q := 37) 1 dX7_literal_34 rfl kI_1 (by decide) rfl rfl (fun x6 => ?_)
          refine g_goto (t := 4) dX7_literal_37 (by decide) ?_
          exact (g_again ((x6, z3, s5) : (Int32 × Int32 × gS)))
      · refine g_sub (lr := [(1, .int z2.2.1), (0, .ref (b + 3))]) [1, 2] rfl ?_
        exact (g_leave (g_there ((z2.2.1, z2.2.2) : (Int32 × gS))))
  · refine g_aload_n (q := 41) 1 dX7_literal_40 rfl rfl rfl ?_
    refine g_iconst (q := 42) dX7_literal_41 kI_0 rfl ?_
    refine g_callO (As := [.int (0 : Int32)]) (st := []) (cn_X7_sum) shX7 rfl cwX7_162 rfl dX7_literal_42 rfl (Nat.le_of_ble_eq_true rfl) (by decide) (kk_V (fun s8 => ?_))
    refine g_aload_n (q := 46) 1 dX7_literal_45 rfl rfl rfl ?_
    refine g_getI (q := 49) fX7_here dX7_literal_46 ww202 rfl ?_
    refine g_leti (fun x9 => ?_)
    refine g_istore_n (lr := [(1, .int z1.1), (0, .ref (b + 3))]) (q := 50) dX7_literal_49 rfl (by decide) rfl rfl ?_
    refine g_iload_n (q := 51) 0 dX7_literal_50 rfl rfl rfl ?_
    refine g_bipush (q := 53) dX7_literal_51 kB_30 rfl ?_
    refine g_bipush (q := 55) dX7_literal_53 kB_33 rfl ?_
    refine g_callN (As := [.int x9, .int (30 : Int32), .int (33 : Int32)]) (st := []) (cn_X10_inRange) cwX7_129 rfl dX7_literal_55 rfl (Nat.le_of_ble_eq_true rfl) (by decide) (kk_PI (fun v10 => ?_))
    refine g_if_ne (t := 67) (q := 61) dX7_literal_58 (by decide) rfl ?_ ?_
    · refine g_aload_n (q := 62) 2 dX7_literal_61 rfl rfl rfl ?_
      refine g_iconst (q := 63) dX7_literal_62 kI_1 rfl ?_
      refine g_callO (As := [.int (1 : Int32)]) (st := []) (cn_X7_fail) shX7 rfl cwX7_87 rfl dX7_literal_63 rfl (Nat.le_of_ble_eq_true rfl) (by decide) (kk_V (fun s13 => ?_))
      exact (g_vret dX7_literal_66)
    · refine g_aload_n (q := 68) 2 dX7_literal_67 rfl rfl rfl ?_
      refine g_callO (As := []) (st := []) (cn_X7_take) shX7 rfl cwX7_136 rfl dX7_literal_68 rfl (Nat.le_of_ble_eq_true rfl) (by decide) (kk_V (fun s15 => ?_))
      refine g_aload_n (q := 72) 2 dX7_literal_71 rfl rfl rfl ?_
      refine g_iconst (q := 73) dX7_literal_72 kI_0 rfl ?_
      refine g_callO (As := [.int (0 : Int32)]) (st := []) (cn_X7_sum) shX7 rfl cwX7_162 rfl dX7_literal_73 rfl (Nat.le_of_ble_eq_true rfl) (by decide) (kk_V (fun s17 => ?_))
      refine g_aload_n (q := 77) 2 dX7_literal_76 rfl rfl rfl ?_
      refine g_getR (cT := tR) (q := 80) fX7_draft dX7_literal_77 ww200 rfl (fun rr18 hrr18 => ?_)
      refine g_iload_n (q := 81) 0 dX7_literal_80 rfl rfl rfl ?_
      refine g_iconst (q := 82) dX7_literal_81 kI_0 rfl ?_
      refine g_callO (As := [.int x9, .int (0 : Int32)]) (st := []) (cn_X9_addStep hrr18) (shX9 hrr18) rfl cwX7_172 rfl dX7_literal_82 rfl (Nat.le_of_ble_eq_true rfl) (by decide) (kk_V (fun s20 => ?_))
      refine g_iload_n (q := 86) 1 dX7_literal_85 rfl rfl rfl ?_
      refine g_if_eq (t := 99) (q := 89) dX7_literal_86 (by decide) rfl ?_ ?_
      · exact (g_vret dX7_literal_99)
      · refine g_aload_n (q := 90) 2 dX7_literal_89 rfl rfl rfl ?_
        refine g_getR (cT := tR) (q := 93) fX7_draft dX7_literal_90 ww200 rfl (fun rr21 hrr21 => ?_)
        refine g_bipush (q := 95) dX7_literal_93 kB_8 rfl ?_
        refine g_iconst (q := 96) dX7_literal_95 kI_0 rfl ?_
        refine g_callO (As := [.int (8 : Int32), .int (0 : Int32)]) (st := []) (cn_X9_addStep hrr21) (shX9 hrr21) rfl cwX7_172 rfl dX7_literal_96 rfl (Nat.le_of_ble_eq_true rfl) (by decide) (kk_V (fun s23 => ?_))
        exact (g_vret dX7_literal_99)
noncomputable def pX7_condition (σ : gS) : Option (gS) := bn1 (lpP (fun (z2 : (Int32 × Int32 × Int32 × Int32 × gS)) => if (400 : Int32) < z2.1 then some (.inr z2.2.2.2.2) else if z2.2.1 = 0 then some (.inr z2.2.2.2.2) else bn1 (pX7_literal z2.2.2.2.2) (fun s4 => bn1 (if z2.2.2.2.1 = 0 then some s4 else gT (s4.2.2 3 1) tR (fun rr6 => bn1 (pX9_addStep rr6 (7 : Int32) (0 : Int32) s4) (fun s8 => some s8))) (fun (z5 : gS) => bn1 (if (z5.1 3 3) = (7 : Int32) then some (1 : Int32) else some (0 : Int32)) (fun (z9 : Int32) => bn1 (if z9 = 0 then bn1 (if z2.2.2.1 = 0 then some z5 else gT (z5.2.2 3 1) tR (fun rr12 => bn1 (pX9_addStep rr12 (6 : Int32) (0 : Int32) z5) (fun s14 => some s14))) (fun (z11 : gS) => if (z11.1 3 3) = (6 : Int32) then some ((1 : Int32), z11) else some ((0 : Int32), z11)) else some (z2.2.2.1, z5)) (fun (z10 : (Int32 × gS)) => bn1 (if z9 = 0 then if z10.1 = 0 then some (0 : Int32) else some (1 : Int32) else some (1 : Int32)) (fun (z15 : Int32) => if z15 = 0 then lt' (z2.1 + (1 : Int32)) (fun x16 => some (.inl (x16, z15, z10.1, z9, z10.2))) else bn1 (pX7_take z10.2) (fun s18 => lt' (z2.1 + (1 : Int32)) (fun x19 => some (.inl (x19, z15, z10.1, z9, s18)))))))))) ((0 : Int32), (1 : Int32), (0 : Int32), (0 : Int32), σ)) (fun (z1 : gS) => some z1)
set_option maxRecDepth 100000 in
theorem cn_X7_condition {G : gG} {b : Nat}  {σ : gS} : CN vC G b 24 yX7_condition cX7_condition 5 none kV [.ref (b + 3)] σ (pX7_condition σ) := by
  refine cn_of (own := RX7) rfl rfl (Nat.le_of_ble_eq_true rfl) ?_
  show GF vC G b (24, 0, 0) RX7 cX7_condition 5 none kV 0 [(0, .ref (b + 3))] [] σ (pX7_condition σ)
  unfold pX7_condition
  refine g_iconst (q := 1) dX7_condition_0 kI_0 rfl ?_
  refine g_istore_n (lr := [(0, .ref (b + 3))]) (q := 2) dX7_condition_1 rfl (by decide) rfl rfl ?_
  refine g_iconst (q := 3) dX7_condition_2 kI_0 rfl ?_
  refine g_istore_n (lr := [(1, .int (0 : Int32)), (0, .ref (b + 3))]) (q := 4) dX7_condition_3 rfl (by decide) rfl rfl ?_
  refine g_iconst (q := 5) dX7_condition_4 kI_1 rfl ?_
  refine g_istore_n (lr := [(2, .int (0 : Int32)), (1, .int (0 : Int32)), (0, .ref (b + 3))]) (q := 6) dX7_condition_5 rfl (by decide) rfl rfl ?_
  refine g_iconst (q := 7) dX7_condition_6 kI_0 rfl ?_
  refine g_istore (lr := [(3, .int (1 : Int32)), (2, .int (0 : Int32)), (1, .int (0 : Int32)), (0, .ref (b + 3))]) (q := 9) dX7_condition_7 (by decide) rfl rfl ?_
  refine g_bind (S := gS) (hd := 115) (lvf := fun z1 => []) (stf := fun z1 => []) (σf := fun z1 => z1) ?_ (fun z1 => ?_)
  · refine g_loop (S := (Int32 × Int32 × Int32 × Int32 × gS)) (lvf := fun z2 => [(4, .int z2.1), (3, .int z2.2.1), (2, .int z2.2.2.1), (1, .int z2.2.2.2.1), (0, .ref (b + 3))]) (σf := fun z2 => z2.2.2.2.2) (fun z2 => ?_) ((0 : Int32), (1 : Int32), (0 : Int32), (0 : Int32), σ)
    refine g_iload (q := 11) 0 dX7_condition_9 rfl rfl ?_
    refine g_sipush (q := 14) dX7_condition_11 kS_400 rfl ?_
    refine g_icmp_gt (t := 115) (q := 17) dX7_condition_14 (by decide) rfl ?_ ?_
    · refine g_sub (lr := []) [] rfl ?_
      exact (g_leave (g_there (z2.2.2.2.2 : gS)))
    · refine g_iload_n (q := 18) 1 dX7_condition_17 rfl rfl rfl ?_
      refine g_if_eq (t := 115) (q := 21) dX7_condition_18 (by decide) rfl ?_ ?_
      · refine g_sub (lr := []) [] rfl ?_
        exact (g_leave (g_there (z2.2.2.2.2 : gS)))
      · refine g_aload_n (q := 22) 4 dX7_condition_21 rfl rfl rfl ?_
        refine g_callO (As := []) (st := []) (cn_X7_literal) shX7 rfl cwX7_169 rfl dX7_condition_22 rfl (Nat.le_of_ble_eq_true rfl) (by decide) (kk_V (fun s4 => ?_))
        refine g_iload_n (q := 26) 3 dX7_condition_25 rfl rfl rfl ?_
        refine g_bind (S := gS) (hd := 39) (lvf := fun z5 => [(4, .int z2.1), (2, .int z2.2.2.1), (0, .ref (b + 3))]) (stf := fun z5 => []) (σf := fun z5 => z5) ?_ (fun z5 => ?_)
        · refine g_if_eq (t := 39) (q := 29) dX7_condition_26 (by decide) rfl ?_ ?_
          · refine g_sub (lr := [(4, .int z2.1), (2, .int z2.2.2.1), (0, .ref (b + 3))]) [0, 2, 4] rfl ?_
            exact (g_there (s4 : gS))
          · refine g_aload_n (q := 30) 4 dX7_condition_29 rfl rfl rfl ?_
            refine g_getR (cT := tR) (q := 33) fX7_draft dX7_condition_30 ww200 rfl (fun rr6 hrr6 => ?_)
            refine g_bipush (q := 35) dX7_condition_33 kB_7 rfl ?_
            refine g_iconst (q := 36) dX7_condition_35 kI_0 rfl ?_
            refine g_callO (As := [.int (7 : Int32), .int (0 : Int32)]) (st := []) (cn_X9_addStep hrr6) (shX9 hrr6) rfl cwX7_172 rfl dX7_condition_36 rfl (Nat.le_of_ble_eq_true rfl) (by decide) (kk_V (fun s8 => ?_))
            refine g_sub (lr := [(4, .int z2.1), (2, .int z2.2.2.1), (0, .ref (b + 3))]) [0, 2, 4] rfl ?_
            exact (g_there (s8 : gS))
        · refine g_aload_n (q := 40) 2 dX7_condition_39 rfl rfl rfl ?_
          refine g_getI (q := 43) fX7_here dX7_condition_40 ww202 rfl ?_
          refine g_bipush (q := 45) dX7_condition_43 kB_7 rfl ?_
          refine g_bind (S := Int32) (hd := 53) (lvf := fun z9 => [(4, .int z2.1), (2, .int z2.2.2.1), (0, .ref (b + 3))]) (stf := fun z9 => [.int z9]) (σf := fun z9 => z5) ?_ (fun z9 => ?_)
          · refine g_icmp_ne (t := 52) (q := 48) dX7_condition_45 (by decide) rfl ?_ ?_
            · refine g_iconst (q := 49) dX7_condition_48 kI_1 rfl ?_
              refine g_goto (t := 53) dX7_condition_49 (by decide) ?_
              exact (g_there ((1 : Int32) : Int32))
            · refine g_iconst (q := 53) dX7_condition_52 kI_0 rfl ?_
              exact (g_there ((0 : Int32) : Int32))
          · refine g_istore_n (lr := [(4, .int z2.1), (2, .int z2.2.2.1), (0, .ref (b + 3))]) (q := 54) dX7_condition_53 rfl (by decide) rfl rfl ?_
            refine g_iload_n (q := 55) 0 dX7_condition_54 rfl rfl rfl ?_
            refine g_bind (S := (Int32 × gS)) (hd := 87) (lvf := fun z10 => [(2, .int z10.1), (1, .int z9), (4, .int z2.1), (0, .ref (b + 3))]) (stf := fun z10 => []) (σf := fun z10 => z10.2) ?_ (fun z10 => ?_)
            · refine g_if_ne (t := 87) (q := 58) dX7_condition_55 (by decide) rfl ?_ ?_
              · refine g_iload_n (q := 59) 2 dX7_condition_58 rfl rfl rfl ?_
                refine g_bind (S := gS) (hd := 72) (lvf := fun z11 => [(1, .int z9), (4, .int z2.1), (0, .ref (b + 3))]) (stf := fun z11 => []) (σf := fun z11 => z11) ?_ (fun z11 => ?_)
                · refine g_if_eq (t := 72) (q := 62) dX7_condition_59 (by decide) rfl ?_ ?_
                  · refine g_sub (lr := [(1, .int z9), (4, .int z2.1), (0, .ref (b + 3))]) [0, 1, 3] rfl ?_
                    exact (g_there (z5 : gS))
                  · refine g_aload_n (q := 63) 3 dX7_condition_62 rfl rfl rfl ?_
                    refine g_getR (cT := tR) (q := 66) fX7_draft dX7_condition_63 ww200 rfl (fun rr12 hrr12 => ?_)
                    refine g_bipush (q := 68) dX7_condition_66 kB_6 rfl ?_
                    refine g_iconst (q := 69) dX7_condition_68 kI_0 rfl ?_
                    refine g_callO (As := [.int (6 : Int32), .int (0 : Int32)]) (st := []) (cn_X9_addStep hrr12) (shX9 hrr12) rfl cwX7_172 rfl dX7_condition_69 rfl (Nat.le_of_ble_eq_true rfl) (by decide) (kk_V (fun s14 => ?_))
                    refine g_sub (lr := [(1, .int z9), (4, .int z2.1), (0, .ref (b + 3))]) [0, 1, 3] rfl ?_
                    exact (g_there (s14 : gS))
                · refine g_aload_n (q := 73) 2 dX7_condition_72 rfl rfl rfl ?_
                  refine g_getI (q := 76) fX7_here dX7_condition_73 ww202 rfl ?_
                  refine g_bipush (q := 78) dX7_condition_76 kB_6 rfl ?_
                  refine g_icmp_ne (t := 85) (q := 81) dX7_condition_78 (by decide) rfl ?_ ?_
                  · refine g_iconst (q := 82) dX7_condition_81 kI_1 rfl ?_
                    refine g_goto (t := 86) dX7_condition_82 (by decide) ?_
                    refine g_istore_n (lr := [(1, .int z9), (4, .int z2.1), (0, .ref (b + 3))]) (q := 87) dX7_condition_86 rfl (by decide) rfl rfl ?_
                    exact (g_there (((1 : Int32), z11) : (Int32 × gS)))
                  · refine g_iconst (q := 86) dX7_condition_85 kI_0 rfl ?_
                    refine g_istore_n (lr := [(1, .int z9), (4, .int z2.1), (0, .ref (b + 3))]) (q := 87) dX7_condition_86 rfl (by decide) rfl rfl ?_
                    exact (g_there (((0 : Int32), z11) : (Int32 × gS)))
              · refine g_sub (lr := [(2, .int z2.2.2.1), (1, .int z9), (4, .int z2.1), (0, .ref (b + 3))]) [2, 0, 1, 3] rfl ?_
                exact (g_there ((z2.2.2.1, z5) : (Int32 × gS)))
            · refine g_iload_n (q := 88) 1 dX7_condition_87 rfl rfl rfl ?_
              refine g_bind (S := Int32) (hd := 100) (lvf := fun z15 => [(2, .int z10.1), (1, .int z9), (4, .int z2.1), (0, .ref (b + 3))]) (stf := fun z15 => [.int z15]) (σf := fun z15 => z10.2) ?_ (fun z15 => ?_)
              · refine g_if_ne (t := 95) (q := 91) dX7_condition_88 (by decide) rfl ?_ ?_
                · refine g_iload_n (q := 92) 0 dX7_condition_91 rfl rfl rfl ?_
                  refine g_if_eq (t := 99) (q := 95) dX7_condition_92 (by decide) rfl ?_ ?_
                  · refine g_iconst (q := 100) dX7_condition_99 kI_0 rfl ?_
                    exact (g_there ((0 : Int32) : Int32))
                  · refine g_iconst (q := 96) dX7_condition_95 kI_1 rfl ?_
                    refine g_goto (t := 100) dX7_condition_96 (by decide) ?_
                    exact (g_there ((1 : Int32) : Int32))
                · refine g_iconst (q := 96) dX7_condition_95 kI_1 rfl ?_
                  refine g_goto (t := 100) dX7_condition_96 (by decide) ?_
                  exact (g_there ((1 : Int32) : Int32))
              · refine g_istore_n (lr := [(2, .int z10.1), (1, .int z9), (4, .int z2.1), (0, .ref (b + 3))]) (q := 101) dX7_condition_100 rfl (by decide) rfl rfl ?_
                refine g_iload_n (q := 102) 0 dX7_condition_101 rfl rfl rfl ?_
                refine g_if_eq (t := 109) (q := 105) dX7_condition_102 (by decide) rfl ?_ ?_
                · refine g_iinc (lr := [(3, .int z15), (2, .int z10.1), (1, .int z9), (0, .ref (b + 3))]) (q := 112) 3 dX7_condition_109 rfl kI_1 (by decide) rfl rfl (fun x16 => ?_)
                  refine g_goto (t := 9) dX7_condition_112 (by decide) ?_
                  exact (g_again ((x16, z15, z10.1, z9, z10.2) : (Int32 × Int32 × Int32 × Int32 × gS)))
                · refine g_aload_n (q := 106) 4 dX7_condition_105 rfl rfl rfl ?_
                  refine g_callO (As := []) (st := []) (cn_X7_take) shX7 rfl cwX7_136 rfl dX7_condition_106 rfl (Nat.le_of_ble_eq_true rfl) (by decide) (kk_V (fun s18 => ?_))
                  refine g_iinc (lr := [(3, .int z15), (2, .int z10.1), (1, .int z9), (0, .ref (b + 3))]) (q := 112) 3 dX7_condition_109 rfl kI_1 (by decide) rfl rfl (fun x19 => ?_)
                  refine g_goto (t := 9) dX7_condition_112 (by decide) ?_
                  exact (g_again ((x19, z15, z10.1, z9, s18) : (Int32 × Int32 × Int32 × Int32 × gS)))
  · exact (g_vret dX7_condition_115)
noncomputable def pX7_tellSay (σ : gS) : Option (gS) := gT (σ.2.2 3 1) tR (fun rr1 => bn1 (if (16 : Int32) ≤ (σ.1 rr1 1) then some (0 : Int32) else some (1 : Int32)) (fun (z2 : Int32) => bn2 (pX7_open z2 σ) (fun v3 s4 => if v3 = 0 then some s4 else gT (s4.2.2 3 1) tR (fun rr5 => lt' ((6 : Int32) + (s4.1 rr5 1)) (fun x6 => gT (s4.2.2 3 1) tR (fun rr7 => bn1 (pX7_tellName (2 : Int32) (s4.1 rr7 1) s4) (fun s9 => bn1 (pX10_inRange (s9.1 3 3) (16 : Int32) (22 : Int32)) (fun v10 => bn1 (if v10 = 0 then bn1 (pX7_fail (1 : Int32) s9) (fun s14 => some s14) else gT (s9.2.2 3 1) tR (fun rr15 => gT (s9.2.2 3 1) tR (fun rr16 => gx (s9.1 rr16 1) 16 (lt' (wI s9 (rr15 + 1) (s9.1 rr16 1).toNatClampNeg ((s9.1 3 3) - (16 : Int32))) (fun s17 => bn1 (pX7_take s17) (fun s19 => some s19)))))) (fun (z12 : gS) => bn1 (pX7_need (1 : Int32) z12) (fun s21 => gT (s21.2.2 3 1) tR (fun rr22 => bn1 (pX9_startFormula rr22 x6 s21) (fun s24 => bn1 (pX7_condition s24) (fun s26 => gT (s26.2.2 3 1) tR (fun rr27 => bn1 (pX9_endFormula rr27 x6 s26) (fun s29 => bn1 (pX7_need (25 : Int32) s29) (fun s31 => gT (s31.2.2 3 1) tR (fun rr32 => lt' (wI s31 rr32 1 ((s31.1 rr32 1) + (1 : Int32))) (fun s33 => some s33))))))))))))))))))
set_option maxRecDepth 100000 in
theorem cn_X7_tellSay {G : gG} {b : Nat}  {σ : gS} : CN vC G b 25 yX7_tellSay cX7_tellSay 2 none kV [.ref (b + 3)] σ (pX7_tellSay σ) := by
  refine cn_of (own := RX7) rfl rfl (Nat.le_of_ble_eq_true rfl) ?_
  show GF vC G b (25, 0, 0) RX7 cX7_tellSay 2 none kV 0 [(0, .ref (b + 3))] [] σ (pX7_tellSay σ)
  unfold pX7_tellSay
  refine g_aload_n (q := 1) 0 dX7_tellSay_0 rfl rfl rfl ?_
  refine g_aload_n (q := 2) 0 dX7_tellSay_1 rfl rfl rfl ?_
  refine g_getR (cT := tR) (q := 5) fX7_draft dX7_tellSay_2 ww200 rfl (fun rr1 hrr1 => ?_)
  refine g_getI (q := 8) (fX9_says hrr1) dX7_tellSay_5 ww142 rfl ?_
  refine g_bipush (q := 10) dX7_tellSay_8 kB_16 rfl ?_
  refine g_bind (S := Int32) (hd := 18) (lvf := fun z2 => [(0, .ref (b + 3))]) (stf := fun z2 => [.int z2, .ref (b + 3)]) (σf := fun z2 => σ) ?_ (fun z2 => ?_)
  · refine g_icmp_ge (t := 17) (q := 13) dX7_tellSay_10 (by decide) rfl ?_ ?_
    · refine g_iconst (q := 18) dX7_tellSay_17 kI_0 rfl ?_
      exact (g_there ((0 : Int32) : Int32))
    · refine g_iconst (q := 14) dX7_tellSay_13 kI_1 rfl ?_
      refine g_goto (t := 18) dX7_tellSay_14 (by decide) ?_
      exact (g_there ((1 : Int32) : Int32))
  · refine g_callO (As := [.int z2]) (st := []) (cn_X7_open) shX7 rfl cwX7_106 rfl dX7_tellSay_18 rfl (Nat.le_of_ble_eq_true rfl) (by decide) (kk_I (fun v3 s4 => ?_))
    refine g_if_ne (t := 25) (q := 24) dX7_tellSay_21 (by decide) rfl ?_ ?_
    · exact (g_vret dX7_tellSay_24)
    · refine g_bipush (q := 27) dX7_tellSay_25 kB_6 rfl ?_
      refine g_aload_n (q := 28) 0 dX7_tellSay_27 rfl rfl rfl ?_
      refine g_getR (cT := tR) (q := 31) fX7_draft dX7_tellSay_28 ww200 rfl (fun rr5 hrr5 => ?_)
      refine g_getI (q := 34) (fX9_says hrr5) dX7_tellSay_31 ww142 rfl ?_
      refine g_iadd (q := 35) dX7_tellSay_34 rfl ?_
      refine g_leti (fun x6 => ?_)
      refine g_istore_n (lr := [(0, .ref (b + 3))]) (q := 36) dX7_tellSay_35 rfl (by decide) rfl rfl ?_
      refine g_aload_n (q := 37) 1 dX7_tellSay_36 rfl rfl rfl ?_
      refine g_iconst (q := 38) dX7_tellSay_37 kI_2 rfl ?_
      refine g_aload_n (q := 39) 1 dX7_tellSay_38 rfl rfl rfl ?_
      refine g_getR (cT := tR) (q := 42) fX7_draft dX7_tellSay_39 ww200 rfl (fun rr7 hrr7 => ?_)
      refine g_getI (q := 45) (fX9_says hrr7) dX7_tellSay_42 ww142 rfl ?_
      refine g_callO (As := [.int (2 : Int32), .int (s4.1 rr7 1)]) (st := []) (cn_X7_tellName) shX7 rfl cwX7_110 rfl dX7_tellSay_45 rfl (Nat.le_of_ble_eq_true rfl) (by decide) (kk_V (fun s9 => ?_))
      refine g_aload_n (q := 49) 1 dX7_tellSay_48 rfl rfl rfl ?_
      refine g_getI (q := 52) fX7_here dX7_tellSay_49 ww202 rfl ?_
      refine g_bipush (q := 54) dX7_tellSay_52 kB_16 rfl ?_
      refine g_bipush (q := 56) dX7_tellSay_54 kB_22 rfl ?_
      refine g_callN (As := [.int (s9.1 3 3), .int (16 : Int32), .int (22 : Int32)]) (st := []) (cn_X10_inRange) cwX7_129 rfl dX7_tellSay_56 rfl (Nat.le_of_ble_eq_true rfl) (by decide) (kk_PI (fun v10 => ?_))
      refine g_bind (S := gS) (hd := 96) (lvf := fun z12 => [(1, .int x6), (0, .ref (b + 3))]) (stf := fun z12 => []) (σf := fun z12 => z12) ?_ (fun z12 => ?_)
      · refine g_if_eq (t := 91) (q := 62) dX7_tellSay_59 (by decide) rfl ?_ ?_
        · refine g_aload_n (q := 92) 1 dX7_tellSay_91 rfl rfl rfl ?_
          refine g_iconst (q := 93) dX7_tellSay_92 kI_1 rfl ?_
          refine g_callO (As := [.int (1 : Int32)]) (st := []) (cn_X7_fail) shX7 rfl cwX7_87 rfl dX7_tellSay_93 rfl (Nat.le_of_ble_eq_true rfl) (by decide) (kk_V (fun s14 => ?_))
          exact (g_there (s14 : gS))
        · refine g_aload_n (q := 63) 1 dX7_tellSay_62 rfl rfl rfl ?_
          refine g_getR (cT := tR) (q := 66) fX7_draft dX7_tellSay_63 ww200 rfl (fun rr15 hrr15 => ?_)
          refine g_getA (q := 69) (fX9_sorts hrr15) dX7_tellSay_66 ww154 rfl ?_
          refine g_aload_n (q := 70) 1 dX7_tellSay_69 rfl rfl rfl ?_
          refine g_getR (cT := tR) (q := 73) fX7_draft dX7_tellSay_70 ww200 rfl (fun rr16 hrr16 => ?_)
          refine g_getI (q := 76) (fX9_says hrr16) dX7_tellSay_73 ww142 rfl ?_
          refine g_aload_n (q := 77) 1 dX7_tellSay_76 rfl rfl rfl ?_
          refine g_getI (q := 80) fX7_here dX7_tellSay_77 ww202 rfl ?_
          refine g_bipush (q := 82) dX7_tellSay_80 kB_16 rfl ?_
          refine g_isub (q := 83) dX7_tellSay_82 rfl ?_
          refine g_iast (q := 84) (aX9_sorts hrr15) dX7_tellSay_83 rfl (fun s17 => ?_)
          refine g_aload_n (q := 85) 1 dX7_tellSay_84 rfl rfl rfl ?_
          refine g_callO (As := []) (st := []) (cn_X7_take) shX7 rfl cwX7_136 rfl dX7_tellSay_85 rfl (Nat.le_of_ble_eq_true rfl) (by decide) (kk_V (fun s19 => ?_))
          refine g_goto (t := 96) dX7_tellSay_88 (by decide) ?_
          exact (g_there (s19 : gS))
      · refine g_aload_n (q := 97) 1 dX7_tellSay_96 rfl rfl rfl ?_
        refine g_iconst (q := 98) dX7_tellSay_97 kI_1 rfl ?_
        refine g_callO (As := [.int (1 : Int32)]) (st := []) (cn_X7_need) shX7 rfl cwX7_114 rfl dX7_tellSay_98 rfl (Nat.le_of_ble_eq_true rfl) (by decide) (kk_V (fun s21 => ?_))
        refine g_aload_n (q := 102) 1 dX7_tellSay_101 rfl rfl rfl ?_
        refine g_getR (cT := tR) (q := 105) fX7_draft dX7_tellSay_102 ww200 rfl (fun rr22 hrr22 => ?_)
        refine g_iload_n (q := 106) 0 dX7_tellSay_105 rfl rfl rfl ?_
        refine g_callO (As := [.int x6]) (st := []) (cn_X9_startFormula hrr22) (shX9 hrr22) rfl cwX7_117 rfl dX7_tellSay_106 rfl (Nat.le_of_ble_eq_true rfl) (by decide) (kk_V (fun s24 => ?_))
        refine g_aload_n (q := 110) 1 dX7_tellSay_109 rfl rfl rfl ?_
        refine g_callO (As := []) (st := []) (cn_X7_condition) shX7 rfl cwX7_120 rfl dX7_tellSay_110 rfl (Nat.le_of_ble_eq_true rfl) (by decide) (kk_V (fun s26 => ?_))
        refine g_aload_n (q := 114) 1 dX7_tellSay_113 rfl rfl rfl ?_
        refine g_getR (cT := tR) (q := 117) fX7_draft dX7_tellSay_114 ww200 rfl (fun rr27 hrr27 => ?_)
        refine g_iload_n (q := 118) 0 dX7_tellSay_117 rfl rfl rfl ?_
        refine g_callO (As := [.int x6]) (st := []) (cn_X9_endFormula hrr27) (shX9 hrr27) rfl cwX7_123 rfl dX7_tellSay_118 rfl (Nat.le_of_ble_eq_true rfl) (by decide) (kk_V (fun s29 => ?_))
        refine g_aload_n (q := 122) 1 dX7_tellSay_121 rfl rfl rfl ?_
        refine g_bipush (q := 124) dX7_tellSay_122 kB_25 rfl ?_
        refine g_callO (As := [.int (25 : Int32)]) (st := []) (cn_X7_need) shX7 rfl cwX7_114 rfl dX7_tellSay_124 rfl (Nat.le_of_ble_eq_true rfl) (by decide) (kk_V (fun s31 => ?_))
        refine g_aload_n (q := 128) 1 dX7_tellSay_127 rfl rfl rfl ?_
        refine g_getR (cT := tR) (q := 131) fX7_draft dX7_tellSay_128 ww200 rfl (fun rr32 hrr32 => ?_)
        refine g_dup (q := 132) dX7_tellSay_131 rfl rfl ?_
        refine g_getI (q := 135) (fX9_says hrr32) dX7_tellSay_132 ww142 rfl ?_
        refine g_iconst (q := 136) dX7_tellSay_135 kI_1 rfl ?_
        refine g_iadd (q := 137) dX7_tellSay_136 rfl ?_
        refine g_putI (q := 140) (fX9_says hrr32) pwX9_says okTX9 dX7_tellSay_137 ww142 rfl (fun s33 => ?_)
        exact (g_vret dX7_tellSay_140)
noncomputable def pX7_tellSign (σ : gS) : Option (gS) := gT (σ.2.2 3 1) tR (fun rr1 => bn1 (if (6 : Int32) ≤ (σ.1 rr1 0) then some (0 : Int32) else some (1 : Int32)) (fun (z2 : Int32) => bn2 (pX7_open z2 σ) (fun v3 s4 => if v3 = 0 then some s4 else gT (s4.2.2 3 1) tR (fun rr5 => lt' ((0 : Int32) + (s4.1 rr5 0)) (fun x6 => gT (s4.2.2 3 1) tR (fun rr7 => bn1 (pX7_tellName (0 : Int32) (s4.1 rr7 0) s4) (fun s9 => bn1 (pX7_need (1 : Int32) s9) (fun s11 => gT (s11.2.2 3 1) tR (fun rr12 => bn1 (pX9_startFormula rr12 x6 s11) (fun s14 => bn1 (pX7_condition s14) (fun s16 => gT (s16.2.2 3 1) tR (fun rr17 => bn1 (pX9_endFormula rr17 x6 s16) (fun s19 => bn1 (pX7_need (25 : Int32) s19) (fun s21 => gT (s21.2.2 3 1) tR (fun rr22 => lt' (wI s21 rr22 0 ((s21.1 rr22 0) + (1 : Int32))) (fun s23 => some s23))))))))))))))))
set_option maxRecDepth 100000 in
theorem cn_X7_tellSign {G : gG} {b : Nat}  {σ : gS} : CN vC G b 25 yX7_tellSign cX7_tellSign 2 none kV [.ref (b + 3)] σ (pX7_tellSign σ) := by
  refine cn_of (own := RX7) rfl rfl (Nat.le_of_ble_eq_true rfl) ?_
  show GF vC G b (25, 0, 0) RX7 cX7_tellSign 2 none kV 0 [(0, .ref (b + 3))] [] σ (pX7_tellSign σ)
  unfold pX7_tellSign
  refine g_aload_n (q := 1) 0 dX7_tellSign_0 rfl rfl rfl ?_
  refine g_aload_n (q := 2) 0 dX7_tellSign_1 rfl rfl rfl ?_
  refine g_getR (cT := tR) (q := 5) fX7_draft dX7_tellSign_2 ww200 rfl (fun rr1 hrr1 => ?_)
  refine g_getI (q := 8) (fX9_signs hrr1) dX7_tellSign_5 ww138 rfl ?_
  refine g_bipush (q := 10) dX7_tellSign_8 kB_6 rfl ?_
  refine g_bind (S := Int32) (hd := 18) (lvf := fun z2 => [(0, .ref (b + 3))]) (stf := fun z2 => [.int z2, .ref (b + 3)]) (σf := fun z2 => σ) ?_ (fun z2 => ?_)
  · refine g_icmp_ge (t := 17) (q := 13) dX7_tellSign_10 (by decide) rfl ?_ ?_
    · refine g_iconst (q := 18) dX7_tellSign_17 kI_0 rfl ?_
      exact (g_there ((0 : Int32) : Int32))
    · refine g_iconst (q := 14) dX7_tellSign_13 kI_1 rfl ?_
      refine g_goto (t := 18) dX7_tellSign_14 (by decide) ?_
      exact (g_there ((1 : Int32) : Int32))
  · refine g_callO (As := [.int z2]) (st := []) (cn_X7_open) shX7 rfl cwX7_106 rfl dX7_tellSign_18 rfl (Nat.le_of_ble_eq_true rfl) (by decide) (kk_I (fun v3 s4 => ?_))
    refine g_if_ne (t := 25) (q := 24) dX7_tellSign_21 (by decide) rfl ?_ ?_
    · exact (g_vret dX7_tellSign_24)
    · refine g_iconst (q := 26) dX7_tellSign_25 kI_0 rfl ?_
      refine g_aload_n (q := 27) 0 dX7_tellSign_26 rfl rfl rfl ?_
      refine g_getR (cT := tR) (q := 30) fX7_draft dX7_tellSign_27 ww200 rfl (fun rr5 hrr5 => ?_)
      refine g_getI (q := 33) (fX9_signs hrr5) dX7_tellSign_30 ww138 rfl ?_
      refine g_iadd (q := 34) dX7_tellSign_33 rfl ?_
      refine g_leti (fun x6 => ?_)
      refine g_istore_n (lr := [(0, .ref (b + 3))]) (q := 35) dX7_tellSign_34 rfl (by decide) rfl rfl ?_
      refine g_aload_n (q := 36) 1 dX7_tellSign_35 rfl rfl rfl ?_
      refine g_iconst (q := 37) dX7_tellSign_36 kI_0 rfl ?_
      refine g_aload_n (q := 38) 1 dX7_tellSign_37 rfl rfl rfl ?_
      refine g_getR (cT := tR) (q := 41) fX7_draft dX7_tellSign_38 ww200 rfl (fun rr7 hrr7 => ?_)
      refine g_getI (q := 44) (fX9_signs hrr7) dX7_tellSign_41 ww138 rfl ?_
      refine g_callO (As := [.int (0 : Int32), .int (s4.1 rr7 0)]) (st := []) (cn_X7_tellName) shX7 rfl cwX7_110 rfl dX7_tellSign_44 rfl (Nat.le_of_ble_eq_true rfl) (by decide) (kk_V (fun s9 => ?_))
      refine g_aload_n (q := 48) 1 dX7_tellSign_47 rfl rfl rfl ?_
      refine g_iconst (q := 49) dX7_tellSign_48 kI_1 rfl ?_
      refine g_callO (As := [.int (1 : Int32)]) (st := []) (cn_X7_need) shX7 rfl cwX7_114 rfl dX7_tellSign_49 rfl (Nat.le_of_ble_eq_true rfl) (by decide) (kk_V (fun s11 => ?_))
      refine g_aload_n (q := 53) 1 dX7_tellSign_52 rfl rfl rfl ?_
      refine g_getR (cT := tR) (q := 56) fX7_draft dX7_tellSign_53 ww200 rfl (fun rr12 hrr12 => ?_)
      refine g_iload_n (q := 57) 0 dX7_tellSign_56 rfl rfl rfl ?_
      refine g_callO (As := [.int x6]) (st := []) (cn_X9_startFormula hrr12) (shX9 hrr12) rfl cwX7_117 rfl dX7_tellSign_57 rfl (Nat.le_of_ble_eq_true rfl) (by decide) (kk_V (fun s14 => ?_))
      refine g_aload_n (q := 61) 1 dX7_tellSign_60 rfl rfl rfl ?_
      refine g_callO (As := []) (st := []) (cn_X7_condition) shX7 rfl cwX7_120 rfl dX7_tellSign_61 rfl (Nat.le_of_ble_eq_true rfl) (by decide) (kk_V (fun s16 => ?_))
      refine g_aload_n (q := 65) 1 dX7_tellSign_64 rfl rfl rfl ?_
      refine g_getR (cT := tR) (q := 68) fX7_draft dX7_tellSign_65 ww200 rfl (fun rr17 hrr17 => ?_)
      refine g_iload_n (q := 69) 0 dX7_tellSign_68 rfl rfl rfl ?_
      refine g_callO (As := [.int x6]) (st := []) (cn_X9_endFormula hrr17) (shX9 hrr17) rfl cwX7_123 rfl dX7_tellSign_69 rfl (Nat.le_of_ble_eq_true rfl) (by decide) (kk_V (fun s19 => ?_))
      refine g_aload_n (q := 73) 1 dX7_tellSign_72 rfl rfl rfl ?_
      refine g_bipush (q := 75) dX7_tellSign_73 kB_25 rfl ?_
      refine g_callO (As := [.int (25 : Int32)]) (st := []) (cn_X7_need) shX7 rfl cwX7_114 rfl dX7_tellSign_75 rfl (Nat.le_of_ble_eq_true rfl) (by decide) (kk_V (fun s21 => ?_))
      refine g_aload_n (q := 79) 1 dX7_tellSign_78 rfl rfl rfl ?_
      refine g_getR (cT := tR) (q := 82) fX7_draft dX7_tellSign_79 ww200 rfl (fun rr22 hrr22 => ?_)
      refine g_dup (q := 83) dX7_tellSign_82 rfl rfl ?_
      refine g_getI (q := 86) (fX9_signs hrr22) dX7_tellSign_83 ww138 rfl ?_
      refine g_iconst (q := 87) dX7_tellSign_86 kI_1 rfl ?_
      refine g_iadd (q := 88) dX7_tellSign_87 rfl ?_
      refine g_putI (q := 91) (fX9_signs hrr22) pwX9_signs okTX9 dX7_tellSign_88 ww138 rfl (fun s23 => ?_)
      exact (g_vret dX7_tellSign_91)
noncomputable def pX7_nameAhead (a1 : Int32) (σ : gS) : Option (Int32 × gS) := if (σ.1 3 3) = (23 : Int32) then bn1 (pX7_findName (σ.2.1 3 4) σ) (fun v1 => bnS (if v1 = (-1 : Int32) then some (.inl ()) else gx v1 30 (if (σ.1 19 v1.toNatClampNeg) = a1 then gx v1 30 (some (.inr (σ.1 20 v1.toNatClampNeg, σ))) else some (.inl ()))) (fun (z3 : Unit) => bn1 (pX7_blame (4 : Int32) σ) (fun s5 => some ((-1 : Int32), s5)))) else some ((-1 : Int32), σ)
set_option maxRecDepth 100000 in
theorem cn_X7_nameAhead {G : gG} {b : Nat} {a1 : Int32} {σ : gS} : CN vC G b 2 yX7_nameAhead cX7_nameAhead 3 (some .int) kI [.ref (b + 3), .int a1] σ (pX7_nameAhead a1 σ) := by
  refine cn_of (own := RX7) rfl rfl (Nat.le_of_ble_eq_true rfl) ?_
  show GF vC G b (2, 0, 0) RX7 cX7_nameAhead 3 (some .int) kI 0 [(0, .ref (b + 3)), (1, .int a1)] [] σ (pX7_nameAhead a1 σ)
  unfold pX7_nameAhead
  refine g_aload_n (q := 1) 0 dX7_nameAhead_0 rfl rfl rfl ?_
  refine g_getI (q := 4) fX7_here dX7_nameAhead_1 ww202 rfl ?_
  refine g_bipush (q := 6) dX7_nameAhead_4 kB_23 rfl ?_
  refine g_icmp_eq (t := 11) (q := 9) dX7_nameAhead_6 (by decide) rfl ?_ ?_
  · refine g_aload_n (q := 12) 0 dX7_nameAhead_11 rfl rfl rfl ?_
    refine g_aload_n (q := 13) 0 dX7_nameAhead_12 rfl rfl rfl ?_
    refine g_getL (q := 16) fX7_value dX7_nameAhead_13 ww203 rfl ?_
    refine g_callO (As := [.long (σ.2.1 3 4)]) (st := []) (cn_X7_findName) shX7 rfl cwX7_165 rfl dX7_nameAhead_16 rfl (Nat.le_of_ble_eq_true rfl) (by decide) (kk_PI (fun v1 => ?_))
    refine g_istore_n (lr := [(0, .ref (b + 3)), (1, .int a1)]) (q := 20) dX7_nameAhead_19 rfl (by decide) rfl rfl ?_
    refine g_iload_n (q := 21) 0 dX7_nameAhead_20 rfl rfl rfl ?_
    refine g_iconst (q := 22) dX7_nameAhead_21 kI_m1 rfl ?_
    refine g_bindS (S := Unit) (hd := 35) (lvf := fun z3 => [(0, .ref (b + 3))]) (stf := fun z3 => []) (σf := fun z3 => σ) ?_ (fun z3 => ?_)
    · refine g_icmp_eq (t := 35) (q := 25) dX7_nameAhead_22 (by decide) rfl ?_ ?_
      · refine g_sub (lr := [(0, .ref (b + 3))]) [1] rfl ?_
        exact (g_thereS (() : Unit))
      · refine g_aload_n (q := 26) 1 dX7_nameAhead_25 rfl rfl rfl ?_
        refine g_getA (q := 29) fX7_nameKinds dX7_nameAhead_26 ww210 rfl ?_
        refine g_iload_n (q := 30) 0 dX7_nameAhead_29 rfl rfl rfl ?_
        refine g_iald (q := 31) (aX7_nameKinds) dX7_nameAhead_30 rfl ?_
        refine g_iload_n (q := 32) 2 dX7_nameAhead_31 rfl rfl rfl ?_
        refine g_icmp_eq (t := 42) (q := 35) dX7_nameAhead_32 (by decide) rfl ?_ ?_
        · refine g_aload_n (q := 43) 1 dX7_nameAhead_42 rfl rfl rfl ?_
          refine g_getA (q := 46) fX7_nameNumbers dX7_nameAhead_43 ww211 rfl ?_
          refine g_iload_n (q := 47) 0 dX7_nameAhead_46 rfl rfl rfl ?_
          refine g_iald (q := 48) (aX7_nameNumbers) dX7_nameAhead_47 rfl ?_
          exact (g_right (g_iret dX7_nameAhead_48))
        · refine g_sub (lr := [(0, .ref (b + 3))]) [1] rfl ?_
          exact (g_thereS (() : Unit))
    · refine g_aload_n (q := 36) 0 dX7_nameAhead_35 rfl rfl rfl ?_
      refine g_iconst (q := 37) dX7_nameAhead_36 kI_4 rfl ?_
      refine g_callO (As := [.int (4 : Int32)]) (st := []) (cn_X7_blame) shX7 rfl cwX7_142 rfl dX7_nameAhead_37 rfl (Nat.le_of_ble_eq_true rfl) (by decide) (kk_V (fun s5 => ?_))
      refine g_iconst (q := 41) dX7_nameAhead_40 kI_m1 rfl ?_
      exact (g_iret dX7_nameAhead_41)
  · refine g_iconst (q := 10) dX7_nameAhead_9 kI_m1 rfl ?_
    exact (g_iret dX7_nameAhead_10)
noncomputable def pX9_addWhen (r0 : Nat) (a1 : Int32) (a2 : Int32) (a3 : Int32) (σ : gS) : Option (gS) := if (40 : Int32) ≤ (σ.1 r0 3) then some σ else gx (σ.1 r0 3) 40 (lt' (wI σ (r0 + 2) (σ.1 r0 3).toNatClampNeg a1) (fun s1 => gx (s1.1 r0 3) 40 (lt' (wI s1 (r0 + 3) (s1.1 r0 3).toNatClampNeg a2) (fun s2 => gx (s2.1 r0 3) 40 (lt' (wI s2 (r0 + 4) (s2.1 r0 3).toNatClampNeg a3) (fun s3 => lt' (wI s3 r0 3 ((s3.1 r0 3) + (1 : Int32))) (fun s4 => some s4)))))))
set_option maxRecDepth 100000 in
theorem cn_X9_addWhen {G : gG} {b : Nat} {r0 : Nat} (hr0 : tR r0 = true) {a1 : Int32} {a2 : Int32} {a3 : Int32} {σ : gS} : CN vC G b 1 yX9_addWhen cX9_addWhen 4 none kV [.ref (b + r0), .int a1, .int a2, .int a3] σ (pX9_addWhen r0 a1 a2 a3 σ) := by
  refine cn_of (own := RX9) rfl rfl (Nat.le_of_ble_eq_true rfl) ?_
  show GF vC G b (1, 0, 0) RX9 cX9_addWhen 4 none kV 0 [(0, .ref (b + r0)), (1, .int a1), (2, .int a2), (3, .int a3)] [] σ (pX9_addWhen r0 a1 a2 a3 σ)
  unfold pX9_addWhen
  refine g_aload_n (q := 1) 0 dX9_addWhen_0 rfl rfl rfl ?_
  refine g_getI (q := 4) (fX9_whens hr0) dX9_addWhen_1 ww147 rfl ?_
  refine g_bipush (q := 6) dX9_addWhen_4 kB_40 rfl ?_
  refine g_icmp_ge (t := 49) (q := 9) dX9_addWhen_6 (by decide) rfl ?_ ?_
  · exact (g_vret dX9_addWhen_49)
  · refine g_aload_n (q := 10) 0 dX9_addWhen_9 rfl rfl rfl ?_
    refine g_getA (q := 13) (fX9_whenBooks hr0) dX9_addWhen_10 ww157 rfl ?_
    refine g_aload_n (q := 14) 0 dX9_addWhen_13 rfl rfl rfl ?_
    refine g_getI (q := 17) (fX9_whens hr0) dX9_addWhen_14 ww147 rfl ?_
    refine g_iload_n (q := 18) 1 dX9_addWhen_17 rfl rfl rfl ?_
    refine g_iast (q := 19) (aX9_whenBooks hr0) dX9_addWhen_18 rfl (fun s1 => ?_)
    refine g_aload_n (q := 20) 0 dX9_addWhen_19 rfl rfl rfl ?_
    refine g_getA (q := 23) (fX9_whenSigns hr0) dX9_addWhen_20 ww158 rfl ?_
    refine g_aload_n (q := 24) 0 dX9_addWhen_23 rfl rfl rfl ?_
    refine g_getI (q := 27) (fX9_whens hr0) dX9_addWhen_24 ww147 rfl ?_
    refine g_iload_n (q := 28) 2 dX9_addWhen_27 rfl rfl rfl ?_
    refine g_iast (q := 29) (aX9_whenSigns hr0) dX9_addWhen_28 rfl (fun s2 => ?_)
    refine g_aload_n (q := 30) 0 dX9_addWhen_29 rfl rfl rfl ?_
    refine g_getA (q := 33) (fX9_whenSays hr0) dX9_addWhen_30 ww159 rfl ?_
    refine g_aload_n (q := 34) 0 dX9_addWhen_33 rfl rfl rfl ?_
    refine g_getI (q := 37) (fX9_whens hr0) dX9_addWhen_34 ww147 rfl ?_
    refine g_iload_n (q := 38) 3 dX9_addWhen_37 rfl rfl rfl ?_
    refine g_iast (q := 39) (aX9_whenSays hr0) dX9_addWhen_38 rfl (fun s3 => ?_)
    refine g_aload_n (q := 40) 0 dX9_addWhen_39 rfl rfl rfl ?_
    refine g_dup (q := 41) dX9_addWhen_40 rfl rfl ?_
    refine g_getI (q := 44) (fX9_whens hr0) dX9_addWhen_41 ww147 rfl ?_
    refine g_iconst (q := 45) dX9_addWhen_44 kI_1 rfl ?_
    refine g_iadd (q := 46) dX9_addWhen_45 rfl ?_
    refine g_putI (q := 49) (fX9_whens hr0) pwX9_whens okTX9 dX9_addWhen_46 ww147 rfl (fun s4 => ?_)
    exact (g_vret dX9_addWhen_49)
noncomputable def pX9_hasWhen (r0 : Nat) (a1 : Int32) (a2 : Int32) (a3 : Int32) (σ : gS) : Option (Int32) := bnS (lpP (fun (z2 : Int32) => if (σ.1 r0 3) ≤ z2 then some (.inr (.inl ())) else gx z2 40 (if (σ.1 (r0 + 2) z2.toNatClampNeg) = a1 then gx z2 40 (if (σ.1 (r0 + 3) z2.toNatClampNeg) = a2 then gx z2 40 (if (σ.1 (r0 + 4) z2.toNatClampNeg) = a3 then some (.inr (.inr (1 : Int32))) else lt' (z2 + (1 : Int32)) (fun x3 => some (.inl x3))) else lt' (z2 + (1 : Int32)) (fun x4 => some (.inl x4))) else lt' (z2 + (1 : Int32)) (fun x5 => some (.inl x5)))) (0 : Int32)) (fun (z1 : Unit) => some (0 : Int32))
set_option maxRecDepth 100000 in
theorem cn_X9_hasWhen {G : gG} {b : Nat} {r0 : Nat} (hr0 : tR r0 = true) {a1 : Int32} {a2 : Int32} {a3 : Int32} {σ : gS} : CN vC G b 1 yX9_hasWhen cX9_hasWhen 5 (some .boolean) (kPI σ) [.ref (b + r0), .int a1, .int a2, .int a3] σ (pX9_hasWhen r0 a1 a2 a3 σ) := by
  refine cn_of (own := RX9) rfl rfl (Nat.le_of_ble_eq_true rfl) ?_
  show GF vC G b (1, 0, 0) RX9 cX9_hasWhen 5 (some .boolean) (kPI σ) 0 [(0, .ref (b + r0)), (1, .int a1), (2, .int a2), (3, .int a3)] [] σ (pX9_hasWhen r0 a1 a2 a3 σ)
  unfold pX9_hasWhen
  refine g_iconst (q := 1) dX9_hasWhen_0 kI_0 rfl ?_
  refine g_istore (lr := [(0, .ref (b + r0)), (1, .int a1), (2, .int a2), (3, .int a3)]) (q := 3) dX9_hasWhen_1 (by decide) rfl rfl ?_
  refine g_bindS (S := Unit) (hd := 53) (lvf := fun z1 => []) (stf := fun z1 => []) (σf := fun z1 => σ) ?_ (fun z1 => ?_)
  · refine g_loop (S := Int32) (lvf := fun z2 => [(4, .int z2), (0, .ref (b + r0)), (1, .int a1), (2, .int a2), (3, .int a3)]) (σf := fun z2 => σ) (fun z2 => ?_) (0 : Int32)
    refine g_iload (q := 5) 0 dX9_hasWhen_3 rfl rfl ?_
    refine g_aload_n (q := 6) 1 dX9_hasWhen_5 rfl rfl rfl ?_
    refine g_getI (q := 9) (fX9_whens hr0) dX9_hasWhen_6 ww147 rfl ?_
    refine g_icmp_ge (t := 53) (q := 12) dX9_hasWhen_9 (by decide) rfl ?_ ?_
    · refine g_sub (lr := []) [] rfl ?_
      exact (g_leave (g_thereS (() : Unit)))
    · refine g_aload_n (q := 13) 1 dX9_hasWhen_12 rfl rfl rfl ?_
      refine g_getA (q := 16) (fX9_whenBooks hr0) dX9_hasWhen_13 ww157 rfl ?_
      refine g_iload (q := 18) 0 dX9_hasWhen_16 rfl rfl ?_
      refine g_iald (q := 19) (aX9_whenBooks hr0) dX9_hasWhen_18 rfl ?_
      refine g_iload_n (q := 20) 2 dX9_hasWhen_19 rfl rfl rfl ?_
      refine g_icmp_ne (t := 47) (q := 23) dX9_hasWhen_20 (by decide) rfl ?_ ?_
      · refine g_aload_n (q := 24) 1 dX9_hasWhen_23 rfl rfl rfl ?_
        refine g_getA (q := 27) (fX9_whenSigns hr0) dX9_hasWhen_24 ww158 rfl ?_
        refine g_iload (q := 29) 0 dX9_hasWhen_27 rfl rfl ?_
        refine g_iald (q := 30) (aX9_whenSigns hr0) dX9_hasWhen_29 rfl ?_
        refine g_iload_n (q := 31) 3 dX9_hasWhen_30 rfl rfl rfl ?_
        refine g_icmp_ne (t := 47) (q := 34) dX9_hasWhen_31 (by decide) rfl ?_ ?_
        · refine g_aload_n (q := 35) 1 dX9_hasWhen_34 rfl rfl rfl ?_
          refine g_getA (q := 38) (fX9_whenSays hr0) dX9_hasWhen_35 ww159 rfl ?_
          refine g_iload (q := 40) 0 dX9_hasWhen_38 rfl rfl ?_
          refine g_iald (q := 41) (aX9_whenSays hr0) dX9_hasWhen_40 rfl ?_
          refine g_iload_n (q := 42) 4 dX9_hasWhen_41 rfl rfl rfl ?_
          refine g_icmp_ne (t := 47) (q := 45) dX9_hasWhen_42 (by decide) rfl ?_ ?_
          · refine g_iconst (q := 46) dX9_hasWhen_45 kI_1 rfl ?_
            exact (g_leave (g_right (g_bretP1 dX9_hasWhen_46)))
          · refine g_iinc (lr := [(0, .ref (b + r0)), (1, .int a1), (2, .int a2), (3, .int a3)]) (q := 50) 0 dX9_hasWhen_47 rfl kI_1 (by decide) rfl rfl (fun x3 => ?_)
            refine g_goto (t := 3) dX9_hasWhen_50 (by decide) ?_
            exact (g_again (x3 : Int32))
        · refine g_iinc (lr := [(0, .ref (b + r0)), (1, .int a1), (2, .int a2), (3, .int a3)]) (q := 50) 0 dX9_hasWhen_47 rfl kI_1 (by decide) rfl rfl (fun x4 => ?_)
          refine g_goto (t := 3) dX9_hasWhen_50 (by decide) ?_
          exact (g_again (x4 : Int32))
      · refine g_iinc (lr := [(0, .ref (b + r0)), (1, .int a1), (2, .int a2), (3, .int a3)]) (q := 50) 0 dX9_hasWhen_47 rfl kI_1 (by decide) rfl rfl (fun x5 => ?_)
        refine g_goto (t := 3) dX9_hasWhen_50 (by decide) ?_
        exact (g_again (x5 : Int32))
  · refine g_iconst (q := 54) dX9_hasWhen_53 kI_0 rfl ?_
    exact (g_bretP0 dX9_hasWhen_54)
noncomputable def pX7_tellWhen (σ : gS) : Option (gS) := gT (σ.2.2 3 1) tR (fun rr1 => bn1 (if (σ.1 rr1 2) = 0 then bn1 (pX7_blame (4 : Int32) σ) (fun s4 => some s4) else some σ) (fun (z2 : gS) => gT (z2.2.2 3 1) tR (fun rr5 => bn1 (if (40 : Int32) ≤ (z2.1 rr5 3) then some (0 : Int32) else some (1 : Int32)) (fun (z6 : Int32) => bn2 (pX7_open z6 z2) (fun v7 s8 => if v7 = 0 then some s8 else gT (s8.2.2 3 1) tR (fun rr9 => lt' ((s8.1 rr9 2) - (1 : Int32)) (fun x10 => bn2 (pX7_nameAhead (0 : Int32) s8) (fun v11 s12 => bn1 (pX7_need (23 : Int32) s12) (fun s14 => bn1 (pX7_need (2 : Int32) s14) (fun s16 => bn2 (pX7_nameAhead (2 : Int32) s16) (fun v17 s18 => bn1 (if v11 = (-1 : Int32) then some s18 else if v17 = (-1 : Int32) then some s18 else gT (s18.2.2 3 1) tR (fun rr20 => bn1 (pX9_hasWhen rr20 x10 v11 v17 s18) (fun v21 => if v21 = 0 then some s18 else bn1 (pX7_blame (3 : Int32) s18) (fun s24 => some s24)))) (fun (z19 : gS) => bn1 (pX7_need (23 : Int32) z19) (fun s26 => bn1 (pX7_need (25 : Int32) s26) (fun s28 => gT (s28.2.2 3 1) tR (fun rr29 => bn1 (pX9_addWhen rr29 x10 v11 v17 s28) (fun s31 => some s31))))))))))))))))
set_option maxRecDepth 100000 in
theorem cn_X7_tellWhen {G : gG} {b : Nat}  {σ : gS} : CN vC G b 3 yX7_tellWhen cX7_tellWhen 4 none kV [.ref (b + 3)] σ (pX7_tellWhen σ) := by
  refine cn_of (own := RX7) rfl rfl (Nat.le_of_ble_eq_true rfl) ?_
  show GF vC G b (3, 0, 0) RX7 cX7_tellWhen 4 none kV 0 [(0, .ref (b + 3))] [] σ (pX7_tellWhen σ)
  unfold pX7_tellWhen
  refine g_aload_n (q := 1) 0 dX7_tellWhen_0 rfl rfl rfl ?_
  refine g_getR (cT := tR) (q := 4) fX7_draft dX7_tellWhen_1 ww200 rfl (fun rr1 hrr1 => ?_)
  refine g_getI (q := 7) (fX9_books hrr1) dX7_tellWhen_4 ww145 rfl ?_
  refine g_bind (S := gS) (hd := 15) (lvf := fun z2 => [(0, .ref (b + 3))]) (stf := fun z2 => []) (σf := fun z2 => z2) ?_ (fun z2 => ?_)
  · refine g_if_ne (t := 15) (q := 10) dX7_tellWhen_7 (by decide) rfl ?_ ?_
    · refine g_aload_n (q := 11) 0 dX7_tellWhen_10 rfl rfl rfl ?_
      refine g_iconst (q := 12) dX7_tellWhen_11 kI_4 rfl ?_
      refine g_callO (As := [.int (4 : Int32)]) (st := []) (cn_X7_blame) shX7 rfl cwX7_142 rfl dX7_tellWhen_12 rfl (Nat.le_of_ble_eq_true rfl) (by decide) (kk_V (fun s4 => ?_))
      exact (g_there (s4 : gS))
    · exact (g_there (σ : gS))
  · refine g_aload_n (q := 16) 0 dX7_tellWhen_15 rfl rfl rfl ?_
    refine g_aload_n (q := 17) 0 dX7_tellWhen_16 rfl rfl rfl ?_
    refine g_getR (cT := tR) (q := 20) fX7_draft dX7_tellWhen_17 ww200 rfl (fun rr5 hrr5 => ?_)
    refine g_getI (q := 23) (fX9_whens hrr5) dX7_tellWhen_20 ww148 rfl ?_
    refine g_bipush (q := 25) dX7_tellWhen_23 kB_40 rfl ?_
    refine g_bind (S := Int32) (hd := 33) (lvf := fun z6 => [(0, .ref (b + 3))]) (stf := fun z6 => [.int z6, .ref (b + 3)]) (σf := fun z6 => z2) ?_ (fun z6 => ?_)
    · refine g_icmp_ge (t := 32) (q := 28) dX7_tellWhen_25 (by decide) rfl ?_ ?_
      · refine g_iconst (q := 33) dX7_tellWhen_32 kI_0 rfl ?_
        exact (g_there ((0 : Int32) : Int32))
      · refine g_iconst (q := 29) dX7_tellWhen_28 kI_1 rfl ?_
        refine g_goto (t := 33) dX7_tellWhen_29 (by decide) ?_
        exact (g_there ((1 : Int32) : Int32))
    · refine g_callO (As := [.int z6]) (st := []) (cn_X7_open) shX7 rfl cwX7_106 rfl dX7_tellWhen_33 rfl (Nat.le_of_ble_eq_true rfl) (by decide) (kk_I (fun v7 s8 => ?_))
      refine g_if_ne (t := 40) (q := 39) dX7_tellWhen_36 (by decide) rfl ?_ ?_
      · exact (g_vret dX7_tellWhen_39)
      · refine g_aload_n (q := 41) 0 dX7_tellWhen_40 rfl rfl rfl ?_
        refine g_getR (cT := tR) (q := 44) fX7_draft dX7_tellWhen_41 ww200 rfl (fun rr9 hrr9 => ?_)
        refine g_getI (q := 47) (fX9_books hrr9) dX7_tellWhen_44 ww145 rfl ?_
        refine g_iconst (q := 48) dX7_tellWhen_47 kI_1 rfl ?_
        refine g_isub (q := 49) dX7_tellWhen_48 rfl ?_
        refine g_leti (fun x10 => ?_)
        refine g_istore_n (lr := [(0, .ref (b + 3))]) (q := 50) dX7_tellWhen_49 rfl (by decide) rfl rfl ?_
        refine g_aload_n (q := 51) 1 dX7_tellWhen_50 rfl rfl rfl ?_
        refine g_iconst (q := 52) dX7_tellWhen_51 kI_0 rfl ?_
        refine g_callO (As := [.int (0 : Int32)]) (st := []) (cn_X7_nameAhead) shX7 rfl cwX7_148 rfl dX7_tellWhen_52 rfl (Nat.le_of_ble_eq_true rfl) (by decide) (kk_I (fun v11 s12 => ?_))
        refine g_istore_n (lr := [(1, .int x10), (0, .ref (b + 3))]) (q := 56) dX7_tellWhen_55 rfl (by decide) rfl rfl ?_
        refine g_aload_n (q := 57) 2 dX7_tellWhen_56 rfl rfl rfl ?_
        refine g_bipush (q := 59) dX7_tellWhen_57 kB_23 rfl ?_
        refine g_callO (As := [.int (23 : Int32)]) (st := []) (cn_X7_need) shX7 rfl cwX7_114 rfl dX7_tellWhen_59 rfl (Nat.le_of_ble_eq_true rfl) (by decide) (kk_V (fun s14 => ?_))
        refine g_aload_n (q := 63) 2 dX7_tellWhen_62 rfl rfl rfl ?_
        refine g_iconst (q := 64) dX7_tellWhen_63 kI_2 rfl ?_
        refine g_callO (As := [.int (2 : Int32)]) (st := []) (cn_X7_need) shX7 rfl cwX7_114 rfl dX7_tellWhen_64 rfl (Nat.le_of_ble_eq_true rfl) (by decide) (kk_V (fun s16 => ?_))
        refine g_aload_n (q := 68) 2 dX7_tellWhen_67 rfl rfl rfl ?_
        refine g_iconst (q := 69) dX7_tellWhen_68 kI_2 rfl ?_
        refine g_callO (As := [.int (2 : Int32)]) (st := []) (cn_X7_nameAhead) shX7 rfl cwX7_148 rfl dX7_tellWhen_69 rfl (Nat.le_of_ble_eq_true rfl) (by decide) (kk_I (fun v17 s18 => ?_))
        refine g_istore_n (lr := [(2, .int v11), (1, .int x10), (0, .ref (b + 3))]) (q := 73) dX7_tellWhen_72 rfl (by decide) rfl rfl ?_
        refine g_iload_n (q := 74) 1 dX7_tellWhen_73 rfl rfl rfl ?_
        refine g_iconst (q := 75) dX7_tellWhen_74 kI_m1 rfl ?_
        refine g_bind (S := gS) (hd := 101) (lvf := fun z19 => [(3, .int v17), (2, .int v11), (1, .int x10), (0, .ref (b + 3))]) (stf := fun z19 => []) (σf := fun z19 => z19) ?_ (fun z19 => ?_)
        · refine g_icmp_eq (t := 101) (q := 78) dX7_tellWhen_75 (by decide) rfl ?_ ?_
          · exact (g_there (s18 : gS))
          · refine g_iload_n (q := 79) 0 dX7_tellWhen_78 rfl rfl rfl ?_
            refine g_iconst (q := 80) dX7_tellWhen_79 kI_m1 rfl ?_
            refine g_icmp_eq (t := 101) (q := 83) dX7_tellWhen_80 (by decide) rfl ?_ ?_
            · exact (g_there (s18 : gS))
            · refine g_aload_n (q := 84) 3 dX7_tellWhen_83 rfl rfl rfl ?_
              refine g_getR (cT := tR) (q := 87) fX7_draft dX7_tellWhen_84 ww200 rfl (fun rr20 hrr20 => ?_)
              refine g_iload_n (q := 88) 2 dX7_tellWhen_87 rfl rfl rfl ?_
              refine g_iload_n (q := 89) 1 dX7_tellWhen_88 rfl rfl rfl ?_
              refine g_iload_n (q := 90) 0 dX7_tellWhen_89 rfl rfl rfl ?_
              refine g_callO (As := [.int x10, .int v11, .int v17]) (st := []) (cn_X9_hasWhen hrr20) (shX9 hrr20) rfl cwX7_152 rfl dX7_tellWhen_90 rfl (Nat.le_of_ble_eq_true rfl) (by decide) (kk_PI (fun v21 => ?_))
              refine g_if_eq (t := 101) (q := 96) dX7_tellWhen_93 (by decide) rfl ?_ ?_
              · exact (g_there (s18 : gS))
              · refine g_aload_n (q := 97) 3 dX7_tellWhen_96 rfl rfl rfl ?_
                refine g_iconst (q := 98) dX7_tellWhen_97 kI_3 rfl ?_
                refine g_callO (As := [.int (3 : Int32)]) (st := []) (cn_X7_blame) shX7 rfl cwX7_142 rfl dX7_tellWhen_98 rfl (Nat.le_of_ble_eq_true rfl) (by decide) (kk_V (fun s24 => ?_))
                exact (g_there (s24 : gS))
        · refine g_aload_n (q := 102) 3 dX7_tellWhen_101 rfl rfl rfl ?_
          refine g_bipush (q := 104) dX7_tellWhen_102 kB_23 rfl ?_
          refine g_callO (As := [.int (23 : Int32)]) (st := []) (cn_X7_need) shX7 rfl cwX7_114 rfl dX7_tellWhen_104 rfl (Nat.le_of_ble_eq_true rfl) (by decide) (kk_V (fun s26 => ?_))
          refine g_aload_n (q := 108) 3 dX7_tellWhen_107 rfl rfl rfl ?_
          refine g_bipush (q := 110) dX7_tellWhen_108 kB_25 rfl ?_
          refine g_callO (As := [.int (25 : Int32)]) (st := []) (cn_X7_need) shX7 rfl cwX7_114 rfl dX7_tellWhen_110 rfl (Nat.le_of_ble_eq_true rfl) (by decide) (kk_V (fun s28 => ?_))
          refine g_aload_n (q := 114) 3 dX7_tellWhen_113 rfl rfl rfl ?_
          refine g_getR (cT := tR) (q := 117) fX7_draft dX7_tellWhen_114 ww200 rfl (fun rr29 hrr29 => ?_)
          refine g_iload_n (q := 118) 2 dX7_tellWhen_117 rfl rfl rfl ?_
          refine g_iload_n (q := 119) 1 dX7_tellWhen_118 rfl rfl rfl ?_
          refine g_iload_n (q := 120) 0 dX7_tellWhen_119 rfl rfl rfl ?_
          refine g_callO (As := [.int x10, .int v11, .int v17]) (st := []) (cn_X9_addWhen hrr29) (shX9 hrr29) rfl cwX7_155 rfl dX7_tellWhen_120 rfl (Nat.le_of_ble_eq_true rfl) (by decide) (kk_V (fun s31 => ?_))
          exact (g_vret dX7_tellWhen_123)
noncomputable def pX6_byteAt (a1 : Int32) (σ : gS) : Option (Int32) := if a1 < 0 then some ((-1 : Int32)) else if (σ.1 1 1) ≤ a1 then some ((-1 : Int32)) else gx a1 2000 (some (σ.1 2 a1.toNatClampNeg))
set_option maxRecDepth 100000 in
theorem cn_X6_byteAt {G : gG} {b : Nat} {a1 : Int32} {σ : gS} : CN vC G b 1 yX6_byteAt cX6_byteAt 2 (some .int) (kPI σ) [.ref (b + 1), .int a1] σ (pX6_byteAt a1 σ) := by
  refine cn_of (own := RX6) rfl rfl (Nat.le_of_ble_eq_true rfl) ?_
  show GF vC G b (1, 0, 0) RX6 cX6_byteAt 2 (some .int) (kPI σ) 0 [(0, .ref (b + 1)), (1, .int a1)] [] σ (pX6_byteAt a1 σ)
  unfold pX6_byteAt
  refine g_iload_n (q := 1) 1 dX6_byteAt_0 rfl rfl rfl ?_
  refine g_if_lt (t := 21) (q := 4) dX6_byteAt_1 (by decide) rfl ?_ ?_
  · refine g_iconst (q := 22) dX6_byteAt_21 kI_m1 rfl ?_
    exact (g_iretP dX6_byteAt_22)
  · refine g_iload_n (q := 5) 1 dX6_byteAt_4 rfl rfl rfl ?_
    refine g_aload_n (q := 6) 0 dX6_byteAt_5 rfl rfl rfl ?_
    refine g_getI (q := 9) fX6_length dX6_byteAt_6 ww36 rfl ?_
    refine g_icmp_ge (t := 21) (q := 12) dX6_byteAt_9 (by decide) rfl ?_ ?_
    · refine g_iconst (q := 22) dX6_byteAt_21 kI_m1 rfl ?_
      exact (g_iretP dX6_byteAt_22)
    · refine g_aload_n (q := 13) 0 dX6_byteAt_12 rfl rfl rfl ?_
      refine g_getA (q := 16) fX6_bytes dX6_byteAt_13 ww35 rfl ?_
      refine g_iload_n (q := 17) 1 dX6_byteAt_16 rfl rfl rfl ?_
      refine g_iald (q := 18) (aX6_bytes) dX6_byteAt_17 rfl ?_
      refine g_goto (t := 22) dX6_byteAt_18 (by decide) ?_
      exact (g_iretP dX6_byteAt_22)
noncomputable def pX6_afterBlanks (a1 : Int32) (σ : gS) : Option (Int32) := bnS (lpP (fun (z2 : Int32) => if (σ.1 1 1) ≤ z2 then some (.inr (.inl ())) else bn1 (pX6_byteAt z2 σ) (fun v3 => if v3 = (9 : Int32) then lt' (z2 + (1 : Int32)) (fun x5 => some (.inl x5)) else if v3 = (10 : Int32) then lt' (z2 + (1 : Int32)) (fun x6 => some (.inl x6)) else if v3 = (13 : Int32) then lt' (z2 + (1 : Int32)) (fun x7 => some (.inl x7)) else if v3 = (32 : Int32) then lt' (z2 + (1 : Int32)) (fun x8 => some (.inl x8)) else some (.inr (.inr (z2))))) a1) (fun (z1 : Unit) => some (σ.1 1 1))
set_option maxRecDepth 100000 in
theorem cn_X6_afterBlanks {G : gG} {b : Nat} {a1 : Int32} {σ : gS} : CN vC G b 2 yX6_afterBlanks cX6_afterBlanks 4 (some .int) (kPI σ) [.ref (b + 1), .int a1] σ (pX6_afterBlanks a1 σ) := by
  refine cn_of (own := RX6) rfl rfl (Nat.le_of_ble_eq_true rfl) ?_
  show GF vC G b (2, 0, 0) RX6 cX6_afterBlanks 4 (some .int) (kPI σ) 0 [(0, .ref (b + 1)), (1, .int a1)] [] σ (pX6_afterBlanks a1 σ)
  unfold pX6_afterBlanks
  refine g_iload_n (q := 1) 1 dX6_afterBlanks_0 rfl rfl rfl ?_
  refine g_istore_n (lr := [(0, .ref (b + 1)), (1, .int a1)]) (q := 2) dX6_afterBlanks_1 rfl (by decide) rfl rfl ?_
  refine g_bindS (S := Unit) (hd := 48) (lvf := fun z1 => [(0, .ref (b + 1))]) (stf := fun z1 => []) (σf := fun z1 => σ) ?_ (fun z1 => ?_)
  · refine g_sub (lr := [(2, .int a1), (0, .ref (b + 1))]) [0, 1] rfl ?_
    refine g_loop (S := Int32) (lvf := fun z2 => [(2, .int z2), (0, .ref (b + 1))]) (σf := fun z2 => σ) (fun z2 => ?_) a1
    refine g_iload_n (q := 3) 0 dX6_afterBlanks_2 rfl rfl rfl ?_
    refine g_aload_n (q := 4) 1 dX6_afterBlanks_3 rfl rfl rfl ?_
    refine g_getI (q := 7) fX6_length dX6_afterBlanks_4 ww36 rfl ?_
    refine g_icmp_ge (t := 48) (q := 10) dX6_afterBlanks_7 (by decide) rfl ?_ ?_
    · refine g_sub (lr := [(0, .ref (b + 1))]) [1] rfl ?_
      exact (g_leave (g_thereS (() : Unit)))
    · refine g_aload_n (q := 11) 1 dX6_afterBlanks_10 rfl rfl rfl ?_
      refine g_iload_n (q := 12) 0 dX6_afterBlanks_11 rfl rfl rfl ?_
      refine g_callO (As := [.int z2]) (st := []) (cn_X6_byteAt) shX6 rfl cwX6_19 rfl dX6_afterBlanks_12 rfl (Nat.le_of_ble_eq_true rfl) (by decide) (kk_PI (fun v3 => ?_))
      refine g_istore_n (lr := [(2, .int z2), (0, .ref (b + 1))]) (q := 16) dX6_afterBlanks_15 rfl (by decide) rfl rfl ?_
      refine g_iload_n (q := 17) 0 dX6_afterBlanks_16 rfl rfl rfl ?_
      refine g_bipush (q := 19) dX6_afterBlanks_17 kB_9 rfl ?_
      refine g_icmp_eq (t := 42) (q := 22) dX6_afterBlanks_19 (by decide) rfl ?_ ?_
      · refine g_iinc (lr := [(3, .int v3), (0, .ref (b + 1))]) (q := 45) 1 dX6_afterBlanks_42 rfl kI_1 (by decide) rfl rfl (fun x5 => ?_)
        refine g_goto (t := 2) dX6_afterBlanks_45 (by decide) ?_
        refine g_sub (lr := [(2, .int x5), (0, .ref (b + 1))]) [0, 2] rfl ?_
        exact (g_again (x5 : Int32))
      · refine g_iload_n (q := 23) 0 dX6_afterBlanks_22 rfl rfl rfl ?_
        refine g_bipush (q := 25) dX6_afterBlanks_23 kB_10 rfl ?_
        refine g_icmp_eq (t := 42) (q := 28) dX6_afterBlanks_25 (by decide) rfl ?_ ?_
        · refine g_iinc (lr := [(3, .int v3), (0, .ref (b + 1))]) (q := 45) 1 dX6_afterBlanks_42 rfl kI_1 (by decide) rfl rfl (fun x6 => ?_)
          refine g_goto (t := 2) dX6_afterBlanks_45 (by decide) ?_
          refine g_sub (lr := [(2, .int x6), (0, .ref (b + 1))]) [0, 2] rfl ?_
          exact (g_again (x6 : Int32))
        · refine g_iload_n (q := 29) 0 dX6_afterBlanks_28 rfl rfl rfl ?_
          refine g_bipush (q := 31) dX6_afterBlanks_29 kB_13 rfl ?_
          refine g_icmp_eq (t := 42) (q := 34) dX6_afterBlanks_31 (by decide) rfl ?_ ?_
          · refine g_iinc (lr := [(3, .int v3), (0, .ref (b + 1))]) (q := 45) 1 dX6_afterBlanks_42 rfl kI_1 (by decide) rfl rfl (fun x7 => ?_)
            refine g_goto (t := 2) dX6_afterBlanks_45 (by decide) ?_
            refine g_sub (lr := [(2, .int x7), (0, .ref (b + 1))]) [0, 2] rfl ?_
            exact (g_again (x7 : Int32))
          · refine g_iload_n (q := 35) 0 dX6_afterBlanks_34 rfl rfl rfl ?_
            refine g_bipush (q := 37) dX6_afterBlanks_35 kB_32 rfl ?_
            refine g_icmp_eq (t := 42) (q := 40) dX6_afterBlanks_37 (by decide) rfl ?_ ?_
            · refine g_iinc (lr := [(3, .int v3), (0, .ref (b + 1))]) (q := 45) 1 dX6_afterBlanks_42 rfl kI_1 (by decide) rfl rfl (fun x8 => ?_)
              refine g_goto (t := 2) dX6_afterBlanks_45 (by decide) ?_
              refine g_sub (lr := [(2, .int x8), (0, .ref (b + 1))]) [0, 2] rfl ?_
              exact (g_again (x8 : Int32))
            · refine g_iload_n (q := 41) 1 dX6_afterBlanks_40 rfl rfl rfl ?_
              exact (g_leave (g_right (g_iretP dX6_afterBlanks_41)))
  · refine g_aload_n (q := 49) 0 dX6_afterBlanks_48 rfl rfl rfl ?_
    refine g_getI (q := 52) fX6_length dX6_afterBlanks_49 ww36 rfl ?_
    exact (g_iretP dX6_afterBlanks_52)
noncomputable def pX8_markKind (a1 : Int32) (a2 : Int32) : Option (Int32) := bn1 (if a2 = (61 : Int32) then some (1 : Int32) else some (0 : Int32)) (fun (z1 : Int32) => if a1 = (33 : Int32) then if z1 = 0 then some ((37 : Int32)) else some ((31 : Int32)) else if a1 = (40 : Int32) then some ((34 : Int32)) else if a1 = (41 : Int32) then some ((35 : Int32)) else if a1 = (42 : Int32) then some ((29 : Int32)) else if a1 = (43 : Int32) then some ((27 : Int32)) else if a1 = (45 : Int32) then some ((28 : Int32)) else if a1 = (59 : Int32) then some ((25 : Int32)) else if a1 = (60 : Int32) then if z1 = 0 then some ((32 : Int32)) else some ((33 : Int32)) else if a1 = (61 : Int32) then if z1 = 0 then some ((26 : Int32)) else some ((30 : Int32)) else some ((37 : Int32)))
set_option maxRecDepth 100000 in
theorem cn_X8_markKind {G : gG} {b : Nat} {V : gV} {a1 : Int32} {a2 : Int32} {σ : gS} : CN V G b 1 yX8_markKind cX8_markKind 3 (some .int) (kPI σ) [.int a1, .int a2] σ (pX8_markKind a1 a2) := by
  refine cn_of (own := RX8) rfl rfl (Nat.le_of_ble_eq_true rfl) ?_
  show GF V G b (1, 0, 0) RX8 cX8_markKind 3 (some .int) (kPI σ) 0 [(0, .int a1), (1, .int a2)] [] σ (pX8_markKind a1 a2)
  unfold pX8_markKind
  refine g_iload_n (q := 1) 1 dX8_markKind_0 rfl rfl rfl ?_
  refine g_bipush (q := 3) dX8_markKind_1 kB_61 rfl ?_
  refine g_bind (S := Int32) (hd := 11) (lvf := fun z1 => [(0, .int a1)]) (stf := fun z1 => [.int z1]) (σf := fun z1 => σ) ?_ (fun z1 => ?_)
  · refine g_icmp_ne (t := 10) (q := 6) dX8_markKind_3 (by decide) rfl ?_ ?_
    · refine g_iconst (q := 7) dX8_markKind_6 kI_1 rfl ?_
      refine g_goto (t := 11) dX8_markKind_7 (by decide) ?_
      refine g_sub (lr := [(0, .int a1)]) [0] rfl ?_
      exact (g_there ((1 : Int32) : Int32))
    · refine g_iconst (q := 11) dX8_markKind_10 kI_0 rfl ?_
      refine g_sub (lr := [(0, .int a1)]) [0] rfl ?_
      exact (g_there ((0 : Int32) : Int32))
  · refine g_istore_n (lr := [(0, .int a1)]) (q := 12) dX8_markKind_11 rfl (by decide) rfl rfl ?_
    refine g_iload_n (q := 13) 1 dX8_markKind_12 rfl rfl rfl ?_
    refine g_case (t := 159) (off := 146) (33 : Int32) dX8_markKind_13 (by decide +kernel) (by decide) ?_ (fun h2 => ?_)
    · refine g_iload_n (q := 160) 0 dX8_markKind_159 rfl rfl rfl ?_
      refine g_if_eq (t := 168) (q := 163) dX8_markKind_160 (by decide) rfl ?_ ?_
      · refine g_bipush (q := 170) dX8_markKind_168 kB_37 rfl ?_
        exact (g_iretP dX8_markKind_170)
      · refine g_bipush (q := 165) dX8_markKind_163 kB_31 rfl ?_
        refine g_goto (t := 170) dX8_markKind_165 (by decide) ?_
        exact (g_iretP dX8_markKind_170)
    refine g_case (t := 192) (off := 179) (40 : Int32) dX8_markKind_13 (by decide +kernel) (by decide) ?_ (fun h3 => ?_)
    · refine g_bipush (q := 194) dX8_markKind_192 kB_34 rfl ?_
      exact (g_iretP dX8_markKind_194)
    refine g_case (t := 195) (off := 182) (41 : Int32) dX8_markKind_13 (by decide +kernel) (by decide) ?_ (fun h4 => ?_)
    · refine g_bipush (q := 197) dX8_markKind_195 kB_35 rfl ?_
      exact (g_iretP dX8_markKind_197)
    refine g_case (t := 189) (off := 176) (42 : Int32) dX8_markKind_13 (by decide +kernel) (by decide) ?_ (fun h5 => ?_)
    · refine g_bipush (q := 191) dX8_markKind_189 kB_29 rfl ?_
      exact (g_iretP dX8_markKind_191)
    refine g_case (t := 183) (off := 170) (43 : Int32) dX8_markKind_13 (by decide +kernel) (by decide) ?_ (fun h6 => ?_)
    · refine g_bipush (q := 185) dX8_markKind_183 kB_27 rfl ?_
      exact (g_iretP dX8_markKind_185)
    refine g_case (t := 186) (off := 173) (45 : Int32) dX8_markKind_13 (by decide +kernel) (by decide) ?_ (fun h7 => ?_)
    · refine g_bipush (q := 188) dX8_markKind_186 kB_28 rfl ?_
      exact (g_iretP dX8_markKind_188)
    refine g_case (t := 144) (off := 131) (59 : Int32) dX8_markKind_13 (by decide +kernel) (by decide) ?_ (fun h8 => ?_)
    · refine g_bipush (q := 146) dX8_markKind_144 kB_25 rfl ?_
      exact (g_iretP dX8_markKind_146)
    refine g_case (t := 171) (off := 158) (60 : Int32) dX8_markKind_13 (by decide +kernel) (by decide) ?_ (fun h9 => ?_)
    · refine g_iload_n (q := 172) 0 dX8_markKind_171 rfl rfl rfl ?_
      refine g_if_eq (t := 180) (q := 175) dX8_markKind_172 (by decide) rfl ?_ ?_
      · refine g_bipush (q := 182) dX8_markKind_180 kB_32 rfl ?_
        exact (g_iretP dX8_markKind_182)
      · refine g_bipush (q := 177) dX8_markKind_175 kB_33 rfl ?_
        refine g_goto (t := 182) dX8_markKind_177 (by decide) ?_
        exact (g_iretP dX8_markKind_182)
    refine g_case (t := 147) (off := 134) (61 : Int32) dX8_markKind_13 (by decide +kernel) (by decide) ?_ (fun h10 => ?_)
    · refine g_iload_n (q := 148) 0 dX8_markKind_147 rfl rfl rfl ?_
      refine g_if_eq (t := 156) (q := 151) dX8_markKind_148 (by decide) rfl ?_ ?_
      · refine g_bipush (q := 158) dX8_markKind_156 kB_26 rfl ?_
        exact (g_iretP dX8_markKind_158)
      · refine g_bipush (q := 153) dX8_markKind_151 kB_30 rfl ?_
        refine g_goto (t := 158) dX8_markKind_153 (by decide) ?_
        exact (g_iretP dX8_markKind_158)
    refine g_dflt (t := 198) [(33 : Int32), (40 : Int32), (41 : Int32), (42 : Int32), (43 : Int32), (45 : Int32), (59 : Int32), (60 : Int32), (61 : Int32)] dX8_markKind_13 (by decide +kernel) (fun v hv => by simp only [List.mem_cons, List.not_mem_nil, or_false] at hv; rcases hv with rfl | rfl | rfl | rfl | rfl | rfl | rfl | rfl | rfl <;> assumption) (by decide) ?_
    refine g_bipush (q := 200) dX8_markKind_198 kB_37 rfl ?_
    exact (g_iretP dX8_markKind_200)
noncomputable def pX8_put (a1 : Int32) (a2 : Int32) (a3 : Int64) (σ : gS) : Option (gS) := if (401 : Int32) ≤ (σ.1 4 3) then some σ else gx (σ.1 4 3) 401 (lt' (wI σ 5 (σ.1 4 3).toNatClampNeg a1) (fun s1 => gx (s1.1 4 3) 401 (lt' (wI s1 6 (s1.1 4 3).toNatClampNeg a2) (fun s2 => gx (s2.1 4 3) 401 (lt' (wL s2 7 (s2.1 4 3).toNatClampNeg a3) (fun s3 => lt' (wI s3 4 3 ((s3.1 4 3) + (1 : Int32))) (fun s4 => some s4)))))))
set_option maxRecDepth 100000 in
theorem cn_X8_put {G : gG} {b : Nat} {a1 : Int32} {a2 : Int32} {a3 : Int64} {σ : gS} : CN vC G b 1 yX8_put cX8_put 5 none kV [.ref (b + 4), .int a1, .int a2, .long a3] σ (pX8_put a1 a2 a3 σ) := by
  refine cn_of (own := RX8) rfl rfl (Nat.le_of_ble_eq_true rfl) ?_
  show GF vC G b (1, 0, 0) RX8 cX8_put 5 none kV 0 [(0, .ref (b + 4)), (1, .int a1), (2, .int a2), (3, .long a3)] [] σ (pX8_put a1 a2 a3 σ)
  unfold pX8_put
  refine g_aload_n (q := 1) 0 dX8_put_0 rfl rfl rfl ?_
  refine g_getI (q := 4) fX8_size dX8_put_1 ww115 rfl ?_
  refine g_aload_n (q := 5) 0 dX8_put_4 rfl rfl rfl ?_
  refine g_getA (q := 8) fX8_kinds dX8_put_5 ww109 rfl ?_
  refine g_alenI (v := (401 : Int32)) (q := 9) (aX8_kinds) (by decide) rfl dX8_put_8 rfl ?_
  refine g_icmp_ge (t := 52) (q := 12) dX8_put_9 (by decide) rfl ?_ ?_
  · exact (g_vret dX8_put_52)
  · refine g_aload_n (q := 13) 0 dX8_put_12 rfl rfl rfl ?_
    refine g_getA (q := 16) fX8_kinds dX8_put_13 ww109 rfl ?_
    refine g_aload_n (q := 17) 0 dX8_put_16 rfl rfl rfl ?_
    refine g_getI (q := 20) fX8_size dX8_put_17 ww115 rfl ?_
    refine g_iload_n (q := 21) 1 dX8_put_20 rfl rfl rfl ?_
    refine g_iast (q := 22) (aX8_kinds) dX8_put_21 rfl (fun s1 => ?_)
    refine g_aload_n (q := 23) 0 dX8_put_22 rfl rfl rfl ?_
    refine g_getA (q := 26) fX8_starts dX8_put_23 ww111 rfl ?_
    refine g_aload_n (q := 27) 0 dX8_put_26 rfl rfl rfl ?_
    refine g_getI (q := 30) fX8_size dX8_put_27 ww115 rfl ?_
    refine g_iload_n (q := 31) 2 dX8_put_30 rfl rfl rfl ?_
    refine g_iast (q := 32) (aX8_starts) dX8_put_31 rfl (fun s2 => ?_)
    refine g_aload_n (q := 33) 0 dX8_put_32 rfl rfl rfl ?_
    refine g_getA (q := 36) fX8_values dX8_put_33 ww113 rfl ?_
    refine g_aload_n (q := 37) 0 dX8_put_36 rfl rfl rfl ?_
    refine g_getI (q := 40) fX8_size dX8_put_37 ww115 rfl ?_
    refine g_lload_n (q := 41) 3 dX8_put_40 rfl rfl rfl ?_
    refine g_last (q := 42) (aX8_values) dX8_put_41 rfl (fun s3 => ?_)
    refine g_aload_n (q := 43) 0 dX8_put_42 rfl rfl rfl ?_
    refine g_dup (q := 44) dX8_put_43 rfl rfl ?_
    refine g_getI (q := 47) fX8_size dX8_put_44 ww115 rfl ?_
    refine g_iconst (q := 48) dX8_put_47 kI_1 rfl ?_
    refine g_iadd (q := 49) dX8_put_48 rfl ?_
    refine g_putI (q := 52) fX8_size pwX8_size okTX8 dX8_put_49 ww115 rfl (fun s4 => ?_)
    exact (g_vret dX8_put_52)
noncomputable def pX6_afterRun (a1 : Int32) (a2 : Int32) (a3 : Int32) (σ : gS) : Option (Int32) := bnS (lpP (fun (z2 : Int32) => if (σ.1 1 1) ≤ z2 then some (.inr (.inl ())) else bn1 (pX6_byteAt z2 σ) (fun v3 => bn1 (pX10_inRange v3 a2 a3) (fun v5 => if v5 = 0 then some (.inr (.inr (z2))) else lt' (z2 + (1 : Int32)) (fun x7 => some (.inl x7))))) a1) (fun (z1 : Unit) => some (σ.1 1 1))
set_option maxRecDepth 100000 in
theorem cn_X6_afterRun {G : gG} {b : Nat} {a1 : Int32} {a2 : Int32} {a3 : Int32} {σ : gS} : CN vC G b 2 yX6_afterRun cX6_afterRun 5 (some .int) (kPI σ) [.ref (b + 1), .int a1, .int a2, .int a3] σ (pX6_afterRun a1 a2 a3 σ) := by
  refine cn_of (own := RX6) rfl rfl (Nat.le_of_ble_eq_true rfl) ?_
  show GF vC G b (2, 0, 0) RX6 cX6_afterRun 5 (some .int) (kPI σ) 0 [(0, .ref (b + 1)), (1, .int a1), (2, .int a2), (3, .int a3)] [] σ (pX6_afterRun a1 a2 a3 σ)
  unfold pX6_afterRun
  refine g_iload_n (q := 1) 1 dX6_afterRun_0 rfl rfl rfl ?_
  refine g_istore (lr := [(0, .ref (b + 1)), (1, .int a1), (2, .int a2), (3, .int a3)]) (q := 3) dX6_afterRun_1 (by decide) rfl rfl ?_
  refine g_bindS (S := Unit) (hd := 35) (lvf := fun z1 => [(0, .ref (b + 1))]) (stf := fun z1 => []) (σf := fun z1 => σ) ?_ (fun z1 => ?_)
  · refine g_sub (lr := [(4, .int a1), (0, .ref (b + 1)), (2, .int a2), (3, .int a3)]) [0, 1, 3, 4] rfl ?_
    refine g_loop (S := Int32) (lvf := fun z2 => [(4, .int z2), (0, .ref (b + 1)), (2, .int a2), (3, .int a3)]) (σf := fun z2 => σ) (fun z2 => ?_) a1
    refine g_iload (q := 5) 0 dX6_afterRun_3 rfl rfl ?_
    refine g_aload_n (q := 6) 1 dX6_afterRun_5 rfl rfl rfl ?_
    refine g_getI (q := 9) fX6_length dX6_afterRun_6 ww36 rfl ?_
    refine g_icmp_ge (t := 35) (q := 12) dX6_afterRun_9 (by decide) rfl ?_ ?_
    · refine g_sub (lr := [(0, .ref (b + 1))]) [1] rfl ?_
      exact (g_leave (g_thereS (() : Unit)))
    · refine g_aload_n (q := 13) 1 dX6_afterRun_12 rfl rfl rfl ?_
      refine g_iload (q := 15) 0 dX6_afterRun_13 rfl rfl ?_
      refine g_callO (As := [.int z2]) (st := []) (cn_X6_byteAt) shX6 rfl cwX6_19 rfl dX6_afterRun_15 rfl (Nat.le_of_ble_eq_true rfl) (by decide) (kk_PI (fun v3 => ?_))
      refine g_iload_n (q := 19) 2 dX6_afterRun_18 rfl rfl rfl ?_
      refine g_iload_n (q := 20) 3 dX6_afterRun_19 rfl rfl rfl ?_
      refine g_callN (As := [.int v3, .int a2, .int a3]) (st := []) (cn_X10_inRange) cwX6_23 rfl dX6_afterRun_20 rfl (Nat.le_of_ble_eq_true rfl) (by decide) (kk_PI (fun v5 => ?_))
      refine g_if_ne (t := 29) (q := 26) dX6_afterRun_23 (by decide) rfl ?_ ?_
      · refine g_iload (q := 28) 0 dX6_afterRun_26 rfl rfl ?_
        exact (g_leave (g_right (g_iretP dX6_afterRun_28)))
      · refine g_iinc (lr := [(0, .ref (b + 1)), (2, .int a2), (3, .int a3)]) (q := 32) 0 dX6_afterRun_29 rfl kI_1 (by decide) rfl rfl (fun x7 => ?_)
        refine g_goto (t := 3) dX6_afterRun_32 (by decide) ?_
        exact (g_again (x7 : Int32))
  · refine g_aload_n (q := 36) 0 dX6_afterRun_35 rfl rfl rfl ?_
    refine g_getI (q := 39) fX6_length dX6_afterRun_36 ww36 rfl ?_
    exact (g_iretP dX6_afterRun_39)
noncomputable def pX8_scanInt (a2 : Int32) (σ : gS) : Option (Int32 × gS) := bn1 (pX6_afterRun a2 (48 : Int32) (57 : Int32) σ) (fun v1 => bn1 (lpP (fun (z4 : (Int32 × Int64)) => if v1 ≤ z4.1 then some (.inr z4.2) else bn1 (pX6_byteAt z4.1 σ) (fun v5 => lt' ((z4.2 * (10 : Int64)) + ((v5 - (48 : Int32)).toInt64)) (fun x7 => lt' (z4.1 + (1 : Int32)) (fun x8 => some (.inl (x8, x7)))))) (a2, (0 : Int64))) (fun (z3 : Int64) => bn1 (if (v1 - a2) ≤ (4 : Int32) then some (24 : Int32) else some (37 : Int32)) (fun (z9 : Int32) => bn1 (pX8_put z9 a2 z3 σ) (fun s11 => some (v1, s11)))))
set_option maxRecDepth 100000 in
theorem cn_X8_scanInt {G : gG} {b : Nat} {a2 : Int32} {σ : gS} : CN vC G b 3 yX8_scanInt cX8_scanInt 7 (some .int) kI [.ref (b + 4), .ref (b + 1), .int a2] σ (pX8_scanInt a2 σ) := by
  refine cn_of (own := RX8) rfl rfl (Nat.le_of_ble_eq_true rfl) ?_
  show GF vC G b (3, 0, 0) RX8 cX8_scanInt 7 (some .int) kI 0 [(0, .ref (b + 4)), (1, .ref (b + 1)), (2, .int a2)] [] σ (pX8_scanInt a2 σ)
  unfold pX8_scanInt
  refine g_aload_n (q := 1) 1 dX8_scanInt_0 rfl rfl rfl ?_
  refine g_iload_n (q := 2) 2 dX8_scanInt_1 rfl rfl rfl ?_
  refine g_bipush (q := 4) dX8_scanInt_2 kB_48 rfl ?_
  refine g_bipush (q := 6) dX8_scanInt_4 kB_57 rfl ?_
  refine g_callO (As := [.int a2, .int (48 : Int32), .int (57 : Int32)]) (st := []) (cn_X6_afterRun) shX6 rfl cwX8_76 rfl dX8_scanInt_6 rfl (Nat.le_of_ble_eq_true rfl) (by decide) (kk_PI (fun v1 => ?_))
  refine g_istore_n (lr := [(0, .ref (b + 4)), (1, .ref (b + 1)), (2, .int a2)]) (q := 10) dX8_scanInt_9 rfl (by decide) rfl rfl ?_
  refine g_lconst (q := 11) (v := (0 : Int64)) dX8_scanInt_10 rfl rfl ?_
  refine g_lstore (lr := [(3, .int v1), (0, .ref (b + 4)), (1, .ref (b + 1)), (2, .int a2)]) (q := 13) dX8_scanInt_11 (by decide) rfl rfl ?_
  refine g_iload_n (q := 14) 4 dX8_scanInt_13 rfl rfl rfl ?_
  refine g_istore (lr := [(4, .long (0 : Int64)), (3, .int v1), (0, .ref (b + 4)), (1, .ref (b + 1)), (2, .int a2)]) (q := 16) dX8_scanInt_14 (by decide) rfl rfl ?_
  refine g_bind (S := Int64) (hd := 47) (lvf := fun z3 => [(4, .long z3), (3, .int v1), (0, .ref (b + 4)), (2, .int a2)]) (stf := fun z3 => []) (σf := fun z3 => σ) ?_ (fun z3 => ?_)
  · refine g_loop (S := (Int32 × Int64)) (lvf := fun z4 => [(6, .int z4.1), (4, .long z4.2), (3, .int v1), (0, .ref (b + 4)), (1, .ref (b + 1)), (2, .int a2)]) (σf := fun z4 => σ) (fun z4 => ?_) (a2, (0 : Int64))
    refine g_iload (q := 18) 0 dX8_scanInt_16 rfl rfl ?_
    refine g_iload_n (q := 19) 2 dX8_scanInt_18 rfl rfl rfl ?_
    refine g_icmp_ge (t := 47) (q := 22) dX8_scanInt_19 (by decide) rfl ?_ ?_
    · refine g_sub (lr := [(4, .long z4.2), (3, .int v1), (0, .ref (b + 4)), (2, .int a2)]) [1, 2, 3, 5] rfl ?_
      exact (g_leave (g_there (z4.2 : Int64)))
    · refine g_lload (q := 24) 1 dX8_scanInt_22 rfl rfl ?_
      refine g_ldc2 (q := 27) dX8_scanInt_24 ww460 rfl ?_
      refine g_lmul (q := 28) dX8_scanInt_27 rfl ?_
      refine g_aload_n (q := 29) 4 dX8_scanInt_28 rfl rfl rfl ?_
      refine g_iload (q := 31) 0 dX8_scanInt_29 rfl rfl ?_
      refine g_callO (As := [.int z4.1]) (st := [.long (z4.2 * (10 : Int64))]) (cn_X6_byteAt) shX6 rfl cwX8_55 rfl dX8_scanInt_31 rfl (Nat.le_of_ble_eq_true rfl) (by decide) (kk_PI (fun v5 => ?_))
      refine g_bipush (q := 36) dX8_scanInt_34 kB_48 rfl ?_
      refine g_isub (q := 37) dX8_scanInt_36 rfl ?_
      refine g_i2l (q := 38) dX8_scanInt_37 rfl ?_
      refine g_ladd (q := 39) dX8_scanInt_38 rfl ?_
      refine g_letl (fun x7 => ?_)
      refine g_lstore (lr := [(6, .int z4.1), (3, .int v1), (0, .ref (b + 4)), (1, .ref (b + 1)), (2, .int a2)]) (q := 41) dX8_scanInt_39 (by decide) rfl rfl ?_
      refine g_iinc (lr := [(4, .long x7), (3, .int v1), (0, .ref (b + 4)), (1, .ref (b + 1)), (2, .int a2)]) (q := 44) 1 dX8_scanInt_41 rfl kI_1 (by decide) rfl rfl (fun x8 => ?_)
      refine g_goto (t := 16) dX8_scanInt_44 (by decide) ?_
      exact (g_again ((x8, x7) : (Int32 × Int64)))
  · refine g_aload_n (q := 48) 2 dX8_scanInt_47 rfl rfl rfl ?_
    refine g_iload_n (q := 49) 1 dX8_scanInt_48 rfl rfl rfl ?_
    refine g_iload_n (q := 50) 3 dX8_scanInt_49 rfl rfl rfl ?_
    refine g_isub (q := 51) dX8_scanInt_50 rfl ?_
    refine g_iconst (q := 52) dX8_scanInt_51 kI_4 rfl ?_
    refine g_bind (S := Int32) (hd := 62) (lvf := fun z9 => [(4, .long z3), (3, .int v1), (2, .int a2)]) (stf := fun z9 => [.int z9, .ref (b + 4)]) (σf := fun z9 => σ) ?_ (fun z9 => ?_)
    · refine g_icmp_le (t := 60) (q := 55) dX8_scanInt_52 (by decide) rfl ?_ ?_
      · refine g_bipush (q := 62) dX8_scanInt_60 kB_24 rfl ?_
        refine g_sub (lr := [(4, .long z3), (3, .int v1), (2, .int a2)]) [0, 1, 3] rfl ?_
        exact (g_there ((24 : Int32) : Int32))
      · refine g_bipush (q := 57) dX8_scanInt_55 kB_37 rfl ?_
        refine g_goto (t := 62) dX8_scanInt_57 (by decide) ?_
        refine g_sub (lr := [(4, .long z3), (3, .int v1), (2, .int a2)]) [0, 1, 3] rfl ?_
        exact (g_there ((37 : Int32) : Int32))
    · refine g_iload_n (q := 63) 2 dX8_scanInt_62 rfl rfl rfl ?_
      refine g_lload (q := 65) 0 dX8_scanInt_63 rfl rfl ?_
      refine g_callO (As := [.int z9, .int a2, .long z3]) (st := []) (cn_X8_put) shX8 rfl cwX8_58 rfl dX8_scanInt_65 rfl (Nat.le_of_ble_eq_true rfl) (by decide) (kk_V (fun s11 => ?_))
      refine g_iload_n (q := 69) 1 dX8_scanInt_68 rfl rfl rfl ?_
      exact (g_iret dX8_scanInt_69)
noncomputable def pX8_withLetter (a1 : Int64) (a2 : Int32) : Option (Int64) := some ((a1 * (27 : Int64)) + (((a2 - (97 : Int32)) + (1 : Int32)).toInt64))
set_option maxRecDepth 100000 in
theorem cn_X8_withLetter {G : gG} {b : Nat} {V : gV} {a1 : Int64} {a2 : Int32} {σ : gS} : CN V G b 1 yX8_withLetter cX8_withLetter 3 (some .long) (kPL σ) [.long a1, .int a2] σ (pX8_withLetter a1 a2) := by
  refine cn_of (own := RX8) rfl rfl (Nat.le_of_ble_eq_true rfl) ?_
  show GF V G b (1, 0, 0) RX8 cX8_withLetter 3 (some .long) (kPL σ) 0 [(0, .long a1), (2, .int a2)] [] σ (pX8_withLetter a1 a2)
  unfold pX8_withLetter
  refine g_lload_n (q := 1) 0 dX8_withLetter_0 rfl rfl rfl ?_
  refine g_ldc2 (q := 4) dX8_withLetter_1 ww108 rfl ?_
  refine g_lmul (q := 5) dX8_withLetter_4 rfl ?_
  refine g_iload_n (q := 6) 1 dX8_withLetter_5 rfl rfl rfl ?_
  refine g_bipush (q := 8) dX8_withLetter_6 kB_97 rfl ?_
  refine g_isub (q := 9) dX8_withLetter_8 rfl ?_
  refine g_iconst (q := 10) dX8_withLetter_9 kI_1 rfl ?_
  refine g_iadd (q := 11) dX8_withLetter_10 rfl ?_
  refine g_i2l (q := 12) dX8_withLetter_11 rfl ?_
  refine g_ladd (q := 13) dX8_withLetter_12 rfl ?_
  exact (g_lretP dX8_withLetter_13)
noncomputable def pX8_wordKind (a1 : Int64) (σ : gS) : Option (Int32) := bnS (lpP (fun (z2 : Int32) => if (23 : Int32) ≤ z2 then some (.inr (.inl ())) else gx z2 23 (if (lg_cmp (σ.2.1 8 z2.toNatClampNeg) a1) = 0 then some (.inr (.inr (z2))) else lt' (z2 + (1 : Int32)) (fun x3 => some (.inl x3)))) (0 : Int32)) (fun (z1 : Unit) => some ((23 : Int32)))
set_option maxRecDepth 100000 in
theorem cn_X8_wordKind {G : gG} {b : Nat} {a1 : Int64} {σ : gS} : CN vC G b 1 yX8_wordKind cX8_wordKind 4 (some .int) (kPI σ) [.ref (b + 4), .long a1] σ (pX8_wordKind a1 σ) := by
  refine cn_of (own := RX8) rfl rfl (Nat.le_of_ble_eq_true rfl) ?_
  show GF vC G b (1, 0, 0) RX8 cX8_wordKind 4 (some .int) (kPI σ) 0 [(0, .ref (b + 4)), (1, .long a1)] [] σ (pX8_wordKind a1 σ)
  unfold pX8_wordKind
  refine g_iconst (q := 1) dX8_wordKind_0 kI_0 rfl ?_
  refine g_istore_n (lr := [(0, .ref (b + 4)), (1, .long a1)]) (q := 2) dX8_wordKind_1 rfl (by decide) rfl rfl ?_
  refine g_bindS (S := Unit) (hd := 30) (lvf := fun z1 => []) (stf := fun z1 => []) (σf := fun z1 => σ) ?_ (fun z1 => ?_)
  · refine g_loop (S := Int32) (lvf := fun z2 => [(3, .int z2), (0, .ref (b + 4)), (1, .long a1)]) (σf := fun z2 => σ) (fun z2 => ?_) (0 : Int32)
    refine g_iload_n (q := 3) 0 dX8_wordKind_2 rfl rfl rfl ?_
    refine g_aload_n (q := 4) 1 dX8_wordKind_3 rfl rfl rfl ?_
    refine g_getA (q := 7) fX8_words dX8_wordKind_4 ww116 rfl ?_
    refine g_alenL (v := (23 : Int32)) (q := 8) (aX8_words) rfl dX8_wordKind_7 rfl ?_
    refine g_icmp_ge (t := 30) (q := 11) dX8_wordKind_8 (by decide) rfl ?_ ?_
    · refine g_sub (lr := []) [] rfl ?_
      exact (g_leave (g_thereS (() : Unit)))
    · refine g_aload_n (q := 12) 1 dX8_wordKind_11 rfl rfl rfl ?_
      refine g_getA (q := 15) fX8_words dX8_wordKind_12 ww116 rfl ?_
      refine g_iload_n (q := 16) 0 dX8_wordKind_15 rfl rfl rfl ?_
      refine g_lald (q := 17) (aX8_words) dX8_wordKind_16 rfl ?_
      refine g_lload_n (q := 18) 2 dX8_wordKind_17 rfl rfl rfl ?_
      refine g_lcmp (q := 19) dX8_wordKind_18 rfl ?_
      refine g_if_ne (t := 24) (q := 22) dX8_wordKind_19 (by decide) rfl ?_ ?_
      · refine g_iload_n (q := 23) 0 dX8_wordKind_22 rfl rfl rfl ?_
        exact (g_leave (g_right (g_iretP dX8_wordKind_23)))
      · refine g_iinc (lr := [(0, .ref (b + 4)), (1, .long a1)]) (q := 27) 0 dX8_wordKind_24 rfl kI_1 (by decide) rfl rfl (fun x3 => ?_)
        refine g_goto (t := 2) dX8_wordKind_27 (by decide) ?_
        exact (g_again (x3 : Int32))
  · refine g_bipush (q := 32) dX8_wordKind_30 kB_23 rfl ?_
    exact (g_iretP dX8_wordKind_32)
