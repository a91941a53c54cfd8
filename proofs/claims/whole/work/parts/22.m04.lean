noncomputable def pX10_truly (a1 : Int32) (a2 : Int32) (a3 : Int32) (σ : gS) : Option (Int32 × gS) := bn1 (pX10_isSentence a1 σ) (fun v1 => if v1 = 0 then some ((-1 : Int32), σ) else bn1 (pX10_isBook a2 σ) (fun v3 => if v3 = 0 then some ((-1 : Int32), σ) else bn1 (pX10_inRange a3 (0 : Int32) (3 : Int32)) (fun v5 => if v5 = 0 then some ((-1 : Int32), σ) else bn1 (pX4_survey σ) (fun s8 => bn1 (lpP (fun (z10 : (Int32 × Int32)) => if (s8.1 21 1) ≤ z10.1 then some (.inr z10.2) else gx z10.1 20 (bn1 (pX10_bitOf (s8.1 37 z10.1.toNatClampNeg) a1) (fun v11 => gT (s8.2.2 23 0) tR (fun rr13 => gx z10.1 20 (bn1 (pX9_paperOf rr13 a2 (s8.1 36 z10.1.toNatClampNeg) s8) (fun v14 => bn1 (pX10_bitOf v14 a1) (fun v16 => if a3 = 0 then lt' (z10.2 + v11) (fun x18 => lt' (z10.1 + (1 : Int32)) (fun x19 => some (.inl (x19, x18)))) else if a3 = (1 : Int32) then lt' (z10.2 + (v11 &&& v16)) (fun x20 => lt' (z10.1 + (1 : Int32)) (fun x21 => some (.inl (x21, x20)))) else if a3 = (2 : Int32) then lt' (z10.2 + (v11 &&& ((1 : Int32) - v16))) (fun x22 => lt' (z10.1 + (1 : Int32)) (fun x23 => some (.inl (x23, x22)))) else lt' (z10.2 + v16) (fun x24 => lt' (z10.1 + (1 : Int32)) (fun x25 => some (.inl (x25, x24))))))))))) ((0 : Int32), (0 : Int32))) (fun (z9 : Int32) => some (z9, s8))))))
set_option maxRecDepth 100000 in
theorem cn_X10_truly {G : gG} {b : Nat} {a1 : Int32} {a2 : Int32} {a3 : Int32} {σ : gS} : CN vC G b 6 yX10_truly cX10_truly 8 (some .int) kI [.ref (b + 0), .int a1, .int a2, .int a3] σ (pX10_truly a1 a2 a3 σ) := by
  refine cn_of (own := RX10) rfl rfl (Nat.le_of_ble_eq_true rfl) ?_
  show GF vC G b (6, 0, 0) RX10 cX10_truly 8 (some .int) kI 0 [(0, .ref (b + 0)), (1, .int a1), (2, .int a2), (3, .int a3)] [] σ (pX10_truly a1 a2 a3 σ)
  unfold pX10_truly
  refine g_aload_n (q := 1) 0 dX10_truly_0 rfl rfl rfl ?_
  refine g_iload_n (q := 2) 1 dX10_truly_1 rfl rfl rfl ?_
  refine g_callO (As := [.int a1]) (st := []) (cn_X10_isSentence) shX10 rfl cwX10_128 rfl dX10_truly_2 rfl (Nat.le_of_ble_eq_true rfl) (by decide) (kk_PI (fun v1 => ?_))
  refine g_if_eq (t := 25) (q := 8) dX10_truly_5 (by decide) rfl ?_ ?_
  · refine g_iconst (q := 26) dX10_truly_25 kI_m1 rfl ?_
    exact (g_iret dX10_truly_26)
  · refine g_aload_n (q := 9) 0 dX10_truly_8 rfl rfl rfl ?_
    refine g_iload_n (q := 10) 2 dX10_truly_9 rfl rfl rfl ?_
    refine g_callO (As := [.int a2]) (st := []) (cn_X10_isBook) shX10 rfl cwX10_144 rfl dX10_truly_10 rfl (Nat.le_of_ble_eq_true rfl) (by decide) (kk_PI (fun v3 => ?_))
    refine g_if_eq (t := 25) (q := 16) dX10_truly_13 (by decide) rfl ?_ ?_
    · refine g_iconst (q := 26) dX10_truly_25 kI_m1 rfl ?_
      exact (g_iret dX10_truly_26)
    · refine g_iload_n (q := 17) 3 dX10_truly_16 rfl rfl rfl ?_
      refine g_iconst (q := 18) dX10_truly_17 kI_0 rfl ?_
      refine g_iconst (q := 19) dX10_truly_18 kI_3 rfl ?_
      refine g_callT (As := [.int a3, .int (0 : Int32), .int (3 : Int32)]) (st := []) (cn_X10_inRange) cwX10_88 rfl dX10_truly_19 rfl (Nat.le_of_ble_eq_true rfl) (by decide) (kk_PI (fun v5 => ?_))
      refine g_if_ne (t := 27) (q := 25) dX10_truly_22 (by decide) rfl ?_ ?_
      · refine g_iconst (q := 26) dX10_truly_25 kI_m1 rfl ?_
        exact (g_iret dX10_truly_26)
      · refine g_aload_n (q := 28) 0 dX10_truly_27 rfl rfl rfl ?_
        refine g_getA (q := 31) fX10_sky dX10_truly_28 ww380 rfl ?_
        refine g_callO (As := []) (st := []) (cn_X4_survey) shX4 rfl cwX10_153 rfl dX10_truly_31 rfl (Nat.le_of_ble_eq_true rfl) (by decide) (kk_V (fun s8 => ?_))
        refine g_iconst (q := 35) dX10_truly_34 kI_0 rfl ?_
        refine g_istore (lr := [(0, .ref (b + 0)), (1, .int a1), (2, .int a2), (3, .int a3)]) (q := 37) dX10_truly_35 (by decide) rfl rfl ?_
        refine g_iconst (q := 38) dX10_truly_37 kI_0 rfl ?_
        refine g_istore (lr := [(4, .int (0 : Int32)), (0, .ref (b + 0)), (1, .int a1), (2, .int a2), (3, .int a3)]) (q := 40) dX10_truly_38 (by decide) rfl rfl ?_
        refine g_bind (S := Int32) (hd := 160) (lvf := fun z9 => [(4, .int z9)]) (stf := fun z9 => []) (σf := fun z9 => s8) ?_ (fun z9 => ?_)
        · refine g_loop (S := (Int32 × Int32)) (lvf := fun z10 => [(5, .int z10.1), (4, .int z10.2), (0, .ref (b + 0)), (1, .int a1), (2, .int a2), (3, .int a3)]) (σf := fun z10 => s8) (fun z10 => ?_) ((0 : Int32), (0 : Int32))
          refine g_iload (q := 42) 0 dX10_truly_40 rfl rfl ?_
          refine g_aload_n (q := 43) 2 dX10_truly_42 rfl rfl rfl ?_
          refine g_getA (q := 46) fX10_people dX10_truly_43 ww379 rfl ?_
          refine g_getI (q := 49) fX2_size dX10_truly_46 ww251 rfl ?_
          refine g_icmp_ge (t := 160) (q := 52) dX10_truly_49 (by decide) rfl ?_ ?_
          · refine g_sub (lr := [(4, .int z10.2)]) [1] rfl ?_
            exact (g_leave (g_there (z10.2 : Int32)))
          · refine g_aload_n (q := 53) 2 dX10_truly_52 rfl rfl rfl ?_
            refine g_getA (q := 56) fX10_sky dX10_truly_53 ww380 rfl ?_
            refine g_getA (q := 59) fX4_truths dX10_truly_56 ww289 rfl ?_
            refine g_iload (q := 61) 0 dX10_truly_59 rfl rfl ?_
            refine g_iald (q := 62) (aX4_truths) dX10_truly_61 rfl ?_
            refine g_iload_n (q := 63) 3 dX10_truly_62 rfl rfl rfl ?_
            refine g_callT (As := [.int (s8.1 37 z10.1.toNatClampNeg), .int a1]) (st := []) (cn_X10_bitOf) cwX10_135 rfl dX10_truly_63 rfl (Nat.le_of_ble_eq_true rfl) (by decide) (kk_PI (fun v11 => ?_))
            refine g_istore (lr := [(5, .int z10.1), (4, .int z10.2), (0, .ref (b + 0)), (1, .int a1), (2, .int a2), (3, .int a3)]) (q := 68) dX10_truly_66 (by decide) rfl rfl ?_
            refine g_aload_n (q := 69) 3 dX10_truly_68 rfl rfl rfl ?_
            refine g_getA (q := 72) fX10_sky dX10_truly_69 ww380 rfl ?_
            refine g_getR (cT := tR) (q := 75) fX4_told dX10_truly_72 ww283 rfl (fun rr13 hrr13 => ?_)
            refine g_iload_n (q := 76) 5 dX10_truly_75 rfl rfl rfl ?_
            refine g_aload_n (q := 77) 3 dX10_truly_76 rfl rfl rfl ?_
            refine g_getA (q := 80) fX10_sky dX10_truly_77 ww380 rfl ?_
            refine g_getA (q := 83) fX4_ups dX10_truly_80 ww287 rfl ?_
            refine g_iload (q := 85) 1 dX10_truly_83 rfl rfl ?_
            refine g_iald (q := 86) (aX4_ups) dX10_truly_85 rfl ?_
            refine g_callO (As := [.int a2, .int (s8.1 36 z10.1.toNatClampNeg)]) (st := []) (cn_X9_paperOf hrr13) (shX9 hrr13) rfl cwX10_150 rfl dX10_truly_86 rfl (Nat.le_of_ble_eq_true rfl) (by decide) (kk_PI (fun v14 => ?_))
            refine g_iload_n (q := 90) 4 dX10_truly_89 rfl rfl rfl ?_
            refine g_callT (As := [.int v14, .int a1]) (st := []) (cn_X10_bitOf) cwX10_135 rfl dX10_truly_90 rfl (Nat.le_of_ble_eq_true rfl) (by decide) (kk_PI (fun v16 => ?_))
            refine g_istore (lr := [(6, .int v11), (5, .int z10.1), (4, .int z10.2), (0, .ref (b + 0)), (1, .int a1), (2, .int a2), (3, .int a3)]) (q := 95) dX10_truly_93 (by decide) rfl rfl ?_
            refine g_iload_n (q := 96) 7 dX10_truly_95 rfl rfl rfl ?_
            refine g_if_ne (t := 109) (q := 99) dX10_truly_96 (by decide) rfl ?_ ?_
            · refine g_iload (q := 101) 3 dX10_truly_99 rfl rfl ?_
              refine g_iload (q := 103) 1 dX10_truly_101 rfl rfl ?_
              refine g_iadd (q := 104) dX10_truly_103 rfl ?_
              refine g_leti (fun x18 => ?_)
              refine g_istore (lr := [(7, .int v16), (6, .int v11), (5, .int z10.1), (0, .ref (b + 0)), (1, .int a1), (2, .int a2), (3, .int a3)]) (q := 106) dX10_truly_104 (by decide) rfl rfl ?_
              refine g_goto (t := 154) dX10_truly_106 (by decide) ?_
              refine g_iinc (lr := [(4, .int x18), (7, .int v16), (6, .int v11), (0, .ref (b + 0)), (1, .int a1), (2, .int a2), (3, .int a3)]) (q := 157) 3 dX10_truly_154 rfl kI_1 (by decide) rfl rfl (fun x19 => ?_)
              refine g_goto (t := 40) dX10_truly_157 (by decide) ?_
              refine g_sub (lr := [(5, .int x19), (4, .int x18), (0, .ref (b + 0)), (1, .int a1), (2, .int a2), (3, .int a3)]) [0, 1, 4, 5, 6, 7] rfl ?_
              exact (g_again ((x19, x18) : (Int32 × Int32)))
            · refine g_iload_n (q := 110) 7 dX10_truly_109 rfl rfl rfl ?_
              refine g_iconst (q := 111) dX10_truly_110 kI_1 rfl ?_
              refine g_icmp_ne (t := 127) (q := 114) dX10_truly_111 (by decide) rfl ?_ ?_
              · refine g_iload (q := 116) 3 dX10_truly_114 rfl rfl ?_
                refine g_iload (q := 118) 1 dX10_truly_116 rfl rfl ?_
                refine g_iload (q := 120) 0 dX10_truly_118 rfl rfl ?_
                refine g_iand (q := 121) dX10_truly_120 rfl ?_
                refine g_iadd (q := 122) dX10_truly_121 rfl ?_
                refine g_leti (fun x20 => ?_)
                refine g_istore (lr := [(7, .int v16), (6, .int v11), (5, .int z10.1), (0, .ref (b + 0)), (1, .int a1), (2, .int a2), (3, .int a3)]) (q := 124) dX10_truly_122 (by decide) rfl rfl ?_
                refine g_goto (t := 154) dX10_truly_124 (by decide) ?_
                refine g_iinc (lr := [(4, .int x20), (7, .int v16), (6, .int v11), (0, .ref (b + 0)), (1, .int a1), (2, .int a2), (3, .int a3)]) (q := 157) 3 dX10_truly_154 rfl kI_1 (by decide) rfl rfl (fun x21 => ?_)
                refine g_goto (t := 40) dX10_truly_157 (by decide) ?_
                refine g_sub (lr := [(5, .int x21), (4, .int x20), (0, .ref (b + 0)), (1, .int a1), (2, .int a2), (3, .int a3)]) [0, 1, 4, 5, 6, 7] rfl ?_
                exact (g_again ((x21, x20) : (Int32 × Int32)))
              · refine g_iload_n (q := 128) 7 dX10_truly_127 rfl rfl rfl ?_
                refine g_iconst (q := 129) dX10_truly_128 kI_2 rfl ?_
                refine g_icmp_ne (t := 147) (q := 132) dX10_truly_129 (by decide) rfl ?_ ?_
                · refine g_iload (q := 134) 3 dX10_truly_132 rfl rfl ?_
                  refine g_iload (q := 136) 1 dX10_truly_134 rfl rfl ?_
                  refine g_iconst (q := 137) dX10_truly_136 kI_1 rfl ?_
                  refine g_iload (q := 139) 0 dX10_truly_137 rfl rfl ?_
                  refine g_isub (q := 140) dX10_truly_139 rfl ?_
                  refine g_iand (q := 141) dX10_truly_140 rfl ?_
                  refine g_iadd (q := 142) dX10_truly_141 rfl ?_
                  refine g_leti (fun x22 => ?_)
                  refine g_istore (lr := [(7, .int v16), (6, .int v11), (5, .int z10.1), (0, .ref (b + 0)), (1, .int a1), (2, .int a2), (3, .int a3)]) (q := 144) dX10_truly_142 (by decide) rfl rfl ?_
                  refine g_goto (t := 154) dX10_truly_144 (by decide) ?_
                  refine g_iinc (lr := [(4, .int x22), (7, .int v16), (6, .int v11), (0, .ref (b + 0)), (1, .int a1), (2, .int a2), (3, .int a3)]) (q := 157) 3 dX10_truly_154 rfl kI_1 (by decide) rfl rfl (fun x23 => ?_)
                  refine g_goto (t := 40) dX10_truly_157 (by decide) ?_
                  refine g_sub (lr := [(5, .int x23), (4, .int x22), (0, .ref (b + 0)), (1, .int a1), (2, .int a2), (3, .int a3)]) [0, 1, 4, 5, 6, 7] rfl ?_
                  exact (g_again ((x23, x22) : (Int32 × Int32)))
                · refine g_iload (q := 149) 3 dX10_truly_147 rfl rfl ?_
                  refine g_iload (q := 151) 0 dX10_truly_149 rfl rfl ?_
                  refine g_iadd (q := 152) dX10_truly_151 rfl ?_
                  refine g_leti (fun x24 => ?_)
                  refine g_istore (lr := [(7, .int v16), (6, .int v11), (5, .int z10.1), (0, .ref (b + 0)), (1, .int a1), (2, .int a2), (3, .int a3)]) (q := 154) dX10_truly_152 (by decide) rfl rfl ?_
                  refine g_iinc (lr := [(4, .int x24), (7, .int v16), (6, .int v11), (0, .ref (b + 0)), (1, .int a1), (2, .int a2), (3, .int a3)]) (q := 157) 3 dX10_truly_154 rfl kI_1 (by decide) rfl rfl (fun x25 => ?_)
                  refine g_goto (t := 40) dX10_truly_157 (by decide) ?_
                  refine g_sub (lr := [(5, .int x25), (4, .int x24), (0, .ref (b + 0)), (1, .int a1), (2, .int a2), (3, .int a3)]) [0, 1, 4, 5, 6, 7] rfl ?_
                  exact (g_again ((x25, x24) : (Int32 × Int32)))
        · refine g_iload (q := 162) 0 dX10_truly_160 rfl rfl ?_
          exact (g_iret dX10_truly_162)
noncomputable def pX4_howManyTrue (a1 : Int32) (σ : gS) : Option (Int32) := bn1 (lpP (fun (z2 : (Int32 × Int32)) => if (σ.1 21 1) ≤ z2.1 then some (.inr z2.2) else gx z2.1 20 (bn1 (pX10_bitOf (σ.1 37 z2.1.toNatClampNeg) a1) (fun v3 => lt' (z2.2 + v3) (fun x5 => lt' (z2.1 + (1 : Int32)) (fun x6 => some (.inl (x6, x5))))))) ((0 : Int32), (0 : Int32))) (fun (z1 : Int32) => some (z1))
set_option maxRecDepth 100000 in
theorem cn_X4_howManyTrue {G : gG} {b : Nat} {a1 : Int32} {σ : gS} : CN vC G b 2 yX4_howManyTrue cX4_howManyTrue 4 (some .int) (kPI σ) [.ref (b + 23), .int a1] σ (pX4_howManyTrue a1 σ) := by
  refine cn_of (own := RX4) rfl rfl (Nat.le_of_ble_eq_true rfl) ?_
  show GF vC G b (2, 0, 0) RX4 cX4_howManyTrue 4 (some .int) (kPI σ) 0 [(0, .ref (b + 23)), (1, .int a1)] [] σ (pX4_howManyTrue a1 σ)
  unfold pX4_howManyTrue
  refine g_iconst (q := 1) dX4_howManyTrue_0 kI_0 rfl ?_
  refine g_istore_n (lr := [(0, .ref (b + 23)), (1, .int a1)]) (q := 2) dX4_howManyTrue_1 rfl (by decide) rfl rfl ?_
  refine g_iconst (q := 3) dX4_howManyTrue_2 kI_0 rfl ?_
  refine g_istore_n (lr := [(2, .int (0 : Int32)), (0, .ref (b + 23)), (1, .int a1)]) (q := 4) dX4_howManyTrue_3 rfl (by decide) rfl rfl ?_
  refine g_bind (S := Int32) (hd := 34) (lvf := fun z1 => [(2, .int z1)]) (stf := fun z1 => []) (σf := fun z1 => σ) ?_ (fun z1 => ?_)
  · refine g_loop (S := (Int32 × Int32)) (lvf := fun z2 => [(3, .int z2.1), (2, .int z2.2), (0, .ref (b + 23)), (1, .int a1)]) (σf := fun z2 => σ) (fun z2 => ?_) ((0 : Int32), (0 : Int32))
    refine g_iload_n (q := 5) 0 dX4_howManyTrue_4 rfl rfl rfl ?_
    refine g_aload_n (q := 6) 2 dX4_howManyTrue_5 rfl rfl rfl ?_
    refine g_getA (q := 9) fX4_people dX4_howManyTrue_6 ww284 rfl ?_
    refine g_getI (q := 12) fX2_size dX4_howManyTrue_9 ww250 rfl ?_
    refine g_icmp_ge (t := 34) (q := 15) dX4_howManyTrue_12 (by decide) rfl ?_ ?_
    · refine g_sub (lr := [(2, .int z2.2)]) [1] rfl ?_
      exact (g_leave (g_there (z2.2 : Int32)))
    · refine g_iload_n (q := 16) 1 dX4_howManyTrue_15 rfl rfl rfl ?_
      refine g_aload_n (q := 17) 2 dX4_howManyTrue_16 rfl rfl rfl ?_
      refine g_getA (q := 20) fX4_truths dX4_howManyTrue_17 ww288 rfl ?_
      refine g_iload_n (q := 21) 0 dX4_howManyTrue_20 rfl rfl rfl ?_
      refine g_iald (q := 22) (aX4_truths) dX4_howManyTrue_21 rfl ?_
      refine g_iload_n (q := 23) 3 dX4_howManyTrue_22 rfl rfl rfl ?_
      refine g_callN (As := [.int (σ.1 37 z2.1.toNatClampNeg), .int a1]) (st := [.int z2.2]) (cn_X10_bitOf) cwX4_80 rfl dX4_howManyTrue_23 rfl (Nat.le_of_ble_eq_true rfl) (by decide) (kk_PI (fun v3 => ?_))
      refine g_iadd (q := 27) dX4_howManyTrue_26 rfl ?_
      refine g_leti (fun x5 => ?_)
      refine g_istore_n (lr := [(3, .int z2.1), (0, .ref (b + 23)), (1, .int a1)]) (q := 28) dX4_howManyTrue_27 rfl (by decide) rfl rfl ?_
      refine g_iinc (lr := [(2, .int x5), (0, .ref (b + 23)), (1, .int a1)]) (q := 31) 1 dX4_howManyTrue_28 rfl kI_1 (by decide) rfl rfl (fun x6 => ?_)
      refine g_goto (t := 4) dX4_howManyTrue_31 (by decide) ?_
      exact (g_again ((x6, x5) : (Int32 × Int32)))
  · refine g_iload_n (q := 35) 0 dX4_howManyTrue_34 rfl rfl rfl ?_
    exact (g_iretP dX4_howManyTrue_35)
noncomputable def pX10_left (a1 : Int32) (a2 : Int32) (a3 : Int32) (σ : gS) : Option (Int32 × gS) := bn1 (pX10_isBook a1 σ) (fun v1 => if v1 = 0 then some ((-1 : Int32), σ) else bn1 (pX2_has a2 σ) (fun v3 => if v3 = 0 then some ((-1 : Int32), σ) else bn1 (pX10_inRange a3 (0 : Int32) (20 : Int32)) (fun v5 => if v5 = 0 then some ((-1 : Int32), σ) else bn1 (pX4_survey σ) (fun s8 => gT (s8.2.2 23 0) tR (fun rr9 => gx a2 20 (bn1 (pX9_paperOf rr9 a1 (s8.1 36 a2.toNatClampNeg) s8) (fun v10 => gx a2 20 (lt' (v10 &&& (s8.1 37 a2.toNatClampNeg)) (fun x12 => bn1 (lpP (fun (z14 : (Int32 × Int32)) => gT (s8.2.2 23 0) tR (fun rr15 => if (s8.1 rr15 1) ≤ z14.1 then some (.inr z14.2) else bn1 (pX10_bitOf x12 z14.1) (fun v16 => if v16 = (1 : Int32) then bn1 (pX4_howManyTrue z14.1 s8) (fun v18 => if a3 < v18 then lt' (z14.1 + (1 : Int32)) (fun x20 => some (.inl (x20, z14.2))) else lt' (z14.2 + (1 : Int32)) (fun x21 => lt' (z14.1 + (1 : Int32)) (fun x22 => some (.inl (x22, x21))))) else lt' (z14.1 + (1 : Int32)) (fun x23 => some (.inl (x23, z14.2)))))) ((0 : Int32), (0 : Int32))) (fun (z13 : Int32) => some (z13, s8)))))))))))
set_option maxRecDepth 100000 in
theorem cn_X10_left {G : gG} {b : Nat} {a1 : Int32} {a2 : Int32} {a3 : Int32} {σ : gS} : CN vC G b 6 yX10_left cX10_left 7 (some .int) kI [.ref (b + 0), .int a1, .int a2, .int a3] σ (pX10_left a1 a2 a3 σ) := by
  refine cn_of (own := RX10) rfl rfl (Nat.le_of_ble_eq_true rfl) ?_
  show GF vC G b (6, 0, 0) RX10 cX10_left 7 (some .int) kI 0 [(0, .ref (b + 0)), (1, .int a1), (2, .int a2), (3, .int a3)] [] σ (pX10_left a1 a2 a3 σ)
  unfold pX10_left
  refine g_aload_n (q := 1) 0 dX10_left_0 rfl rfl rfl ?_
  refine g_iload_n (q := 2) 1 dX10_left_1 rfl rfl rfl ?_
  refine g_callO (As := [.int a1]) (st := []) (cn_X10_isBook) shX10 rfl cwX10_144 rfl dX10_left_2 rfl (Nat.le_of_ble_eq_true rfl) (by decide) (kk_PI (fun v1 => ?_))
  refine g_if_eq (t := 29) (q := 8) dX10_left_5 (by decide) rfl ?_ ?_
  · refine g_iconst (q := 30) dX10_left_29 kI_m1 rfl ?_
    exact (g_iret dX10_left_30)
  · refine g_aload_n (q := 9) 0 dX10_left_8 rfl rfl rfl ?_
    refine g_getA (q := 12) fX10_people dX10_left_9 ww379 rfl ?_
    refine g_iload_n (q := 13) 2 dX10_left_12 rfl rfl rfl ?_
    refine g_callO (As := [.int a2]) (st := []) (cn_X2_has) shX2 rfl cwX10_106 rfl dX10_left_13 rfl (Nat.le_of_ble_eq_true rfl) (by decide) (kk_PI (fun v3 => ?_))
    refine g_if_eq (t := 29) (q := 19) dX10_left_16 (by decide) rfl ?_ ?_
    · refine g_iconst (q := 30) dX10_left_29 kI_m1 rfl ?_
      exact (g_iret dX10_left_30)
    · refine g_iload_n (q := 20) 3 dX10_left_19 rfl rfl rfl ?_
      refine g_iconst (q := 21) dX10_left_20 kI_0 rfl ?_
      refine g_bipush (q := 23) dX10_left_21 kB_20 rfl ?_
      refine g_callT (As := [.int a3, .int (0 : Int32), .int (20 : Int32)]) (st := []) (cn_X10_inRange) cwX10_88 rfl dX10_left_23 rfl (Nat.le_of_ble_eq_true rfl) (by decide) (kk_PI (fun v5 => ?_))
      refine g_if_ne (t := 31) (q := 29) dX10_left_26 (by decide) rfl ?_ ?_
      · refine g_iconst (q := 30) dX10_left_29 kI_m1 rfl ?_
        exact (g_iret dX10_left_30)
      · refine g_aload_n (q := 32) 0 dX10_left_31 rfl rfl rfl ?_
        refine g_getA (q := 35) fX10_sky dX10_left_32 ww380 rfl ?_
        refine g_callO (As := []) (st := []) (cn_X4_survey) shX4 rfl cwX10_153 rfl dX10_left_35 rfl (Nat.le_of_ble_eq_true rfl) (by decide) (kk_V (fun s8 => ?_))
        refine g_aload_n (q := 39) 0 dX10_left_38 rfl rfl rfl ?_
        refine g_getA (q := 42) fX10_sky dX10_left_39 ww380 rfl ?_
        refine g_getR (cT := tR) (q := 45) fX4_told dX10_left_42 ww283 rfl (fun rr9 hrr9 => ?_)
        refine g_iload_n (q := 46) 1 dX10_left_45 rfl rfl rfl ?_
        refine g_aload_n (q := 47) 0 dX10_left_46 rfl rfl rfl ?_
        refine g_getA (q := 50) fX10_sky dX10_left_47 ww380 rfl ?_
        refine g_getA (q := 53) fX4_ups dX10_left_50 ww287 rfl ?_
        refine g_iload_n (q := 54) 2 dX10_left_53 rfl rfl rfl ?_
        refine g_iald (q := 55) (aX4_ups) dX10_left_54 rfl ?_
        refine g_callO (As := [.int a1, .int (s8.1 36 a2.toNatClampNeg)]) (st := []) (cn_X9_paperOf hrr9) (shX9 hrr9) rfl cwX10_150 rfl dX10_left_55 rfl (Nat.le_of_ble_eq_true rfl) (by decide) (kk_PI (fun v10 => ?_))
        refine g_aload_n (q := 59) 0 dX10_left_58 rfl rfl rfl ?_
        refine g_getA (q := 62) fX10_sky dX10_left_59 ww380 rfl ?_
        refine g_getA (q := 65) fX4_truths dX10_left_62 ww289 rfl ?_
        refine g_iload_n (q := 66) 2 dX10_left_65 rfl rfl rfl ?_
        refine g_iald (q := 67) (aX4_truths) dX10_left_66 rfl ?_
        refine g_iand (q := 68) dX10_left_67 rfl ?_
        refine g_leti (fun x12 => ?_)
        refine g_istore (lr := [(0, .ref (b + 0)), (1, .int a1), (2, .int a2), (3, .int a3)]) (q := 70) dX10_left_68 (by decide) rfl rfl ?_
        refine g_iconst (q := 71) dX10_left_70 kI_0 rfl ?_
        refine g_istore (lr := [(4, .int x12), (0, .ref (b + 0)), (1, .int a1), (2, .int a2), (3, .int a3)]) (q := 73) dX10_left_71 (by decide) rfl rfl ?_
        refine g_iconst (q := 74) dX10_left_73 kI_0 rfl ?_
        refine g_istore (lr := [(5, .int (0 : Int32)), (4, .int x12), (0, .ref (b + 0)), (1, .int a1), (2, .int a2), (3, .int a3)]) (q := 76) dX10_left_74 (by decide) rfl rfl ?_
        refine g_bind (S := Int32) (hd := 124) (lvf := fun z13 => [(5, .int z13)]) (stf := fun z13 => []) (σf := fun z13 => s8) ?_ (fun z13 => ?_)
        · refine g_sub (lr := [(6, .int (0 : Int32)), (5, .int (0 : Int32)), (4, .int x12), (0, .ref (b + 0)), (3, .int a3)]) [0, 1, 2, 3, 6] rfl ?_
          refine g_loop (S := (Int32 × Int32)) (lvf := fun z14 => [(6, .int z14.1), (5, .int z14.2), (4, .int x12), (0, .ref (b + 0)), (3, .int a3)]) (σf := fun z14 => s8) (fun z14 => ?_) ((0 : Int32), (0 : Int32))
          refine g_iload (q := 78) 0 dX10_left_76 rfl rfl ?_
          refine g_aload_n (q := 79) 3 dX10_left_78 rfl rfl rfl ?_
          refine g_getA (q := 82) fX10_sky dX10_left_79 ww380 rfl ?_
          refine g_getR (cT := tR) (q := 85) fX4_told dX10_left_82 ww283 rfl (fun rr15 hrr15 => ?_)
          refine g_getI (q := 88) (fX9_says hrr15) dX10_left_85 ww143 rfl ?_
          refine g_icmp_ge (t := 124) (q := 91) dX10_left_88 (by decide) rfl ?_ ?_
          · refine g_sub (lr := [(5, .int z14.2)]) [1] rfl ?_
            exact (g_leave (g_there (z14.2 : Int32)))
          · refine g_iload (q := 93) 2 dX10_left_91 rfl rfl ?_
            refine g_iload (q := 95) 0 dX10_left_93 rfl rfl ?_
            refine g_callT (As := [.int x12, .int z14.1]) (st := []) (cn_X10_bitOf) cwX10_135 rfl dX10_left_95 rfl (Nat.le_of_ble_eq_true rfl) (by decide) (kk_PI (fun v16 => ?_))
            refine g_iconst (q := 99) dX10_left_98 kI_1 rfl ?_
            refine g_icmp_ne (t := 118) (q := 102) dX10_left_99 (by decide) rfl ?_ ?_
            · refine g_aload_n (q := 103) 3 dX10_left_102 rfl rfl rfl ?_
              refine g_getA (q := 106) fX10_sky dX10_left_103 ww380 rfl ?_
              refine g_iload (q := 108) 0 dX10_left_106 rfl rfl ?_
              refine g_callO (As := [.int z14.1]) (st := []) (cn_X4_howManyTrue) shX4 rfl cwX10_165 rfl dX10_left_108 rfl (Nat.le_of_ble_eq_true rfl) (by decide) (kk_PI (fun v18 => ?_))
              refine g_iload_n (q := 112) 4 dX10_left_111 rfl rfl rfl ?_
              refine g_icmp_gt (t := 118) (q := 115) dX10_left_112 (by decide) rfl ?_ ?_
              · refine g_iinc (lr := [(5, .int z14.2), (4, .int x12), (0, .ref (b + 0)), (3, .int a3)]) (q := 121) 0 dX10_left_118 rfl kI_1 (by decide) rfl rfl (fun x20 => ?_)
                refine g_goto (t := 76) dX10_left_121 (by decide) ?_
                exact (g_again ((x20, z14.2) : (Int32 × Int32)))
              · refine g_iinc (lr := [(6, .int z14.1), (4, .int x12), (0, .ref (b + 0)), (3, .int a3)]) (q := 118) 1 dX10_left_115 rfl kI_1 (by decide) rfl rfl (fun x21 => ?_)
                refine g_iinc (lr := [(5, .int x21), (4, .int x12), (0, .ref (b + 0)), (3, .int a3)]) (q := 121) 1 dX10_left_118 rfl kI_1 (by decide) rfl rfl (fun x22 => ?_)
                refine g_goto (t := 76) dX10_left_121 (by decide) ?_
                exact (g_again ((x22, x21) : (Int32 × Int32)))
            · refine g_iinc (lr := [(5, .int z14.2), (4, .int x12), (0, .ref (b + 0)), (3, .int a3)]) (q := 121) 0 dX10_left_118 rfl kI_1 (by decide) rfl rfl (fun x23 => ?_)
              refine g_goto (t := 76) dX10_left_121 (by decide) ?_
              exact (g_again ((x23, z14.2) : (Int32 × Int32)))
        · refine g_iload (q := 126) 0 dX10_left_124 rfl rfl ?_
          exact (g_iret dX10_left_126)
noncomputable def pX10_isLaw (a1 : Int32) (σ : gS) : Option (Int32) := gT (σ.2.2 23 0) tR (fun rr1 => bn1 (pX10_inRange a1 (0 : Int32) ((σ.1 rr1 4) - (1 : Int32))) (fun v2 => some (v2 &&& 1)))
set_option maxRecDepth 100000 in
theorem cn_X10_isLaw {G : gG} {b : Nat} {a1 : Int32} {σ : gS} : CN vC G b 2 yX10_isLaw cX10_isLaw 2 (some .boolean) (kPI σ) [.ref (b + 0), .int a1] σ (pX10_isLaw a1 σ) := by
  refine cn_of (own := RX10) rfl rfl (Nat.le_of_ble_eq_true rfl) ?_
  show GF vC G b (2, 0, 0) RX10 cX10_isLaw 2 (some .boolean) (kPI σ) 0 [(0, .ref (b + 0)), (1, .int a1)] [] σ (pX10_isLaw a1 σ)
  unfold pX10_isLaw
  refine g_iload_n (q := 1) 1 dX10_isLaw_0 rfl rfl rfl ?_
  refine g_iconst (q := 2) dX10_isLaw_1 kI_0 rfl ?_
  refine g_aload_n (q := 3) 0 dX10_isLaw_2 rfl rfl rfl ?_
  refine g_getA (q := 6) fX10_sky dX10_isLaw_3 ww380 rfl ?_
  refine g_getR (cT := tR) (q := 9) fX4_told dX10_isLaw_6 ww283 rfl (fun rr1 hrr1 => ?_)
  refine g_getI (q := 12) (fX9_laws hrr1) dX10_isLaw_9 ww152 rfl ?_
  refine g_iconst (q := 13) dX10_isLaw_12 kI_1 rfl ?_
  refine g_isub (q := 14) dX10_isLaw_13 rfl ?_
  refine g_callT (As := [.int a1, .int (0 : Int32), .int ((σ.1 rr1 4) - (1 : Int32))]) (st := []) (cn_X10_inRange) cwX10_88 rfl dX10_isLaw_14 rfl (Nat.le_of_ble_eq_true rfl) (by decide) (kk_PI (fun v2 => ?_))
  exact (g_bretP dX10_isLaw_17)
noncomputable def pX4_fitOf (a1 : Int32) (a2 : Int32) (a3 : Int32) (σ : gS) : Option (Int32 × gS) := bn1 (pX4_setPerson a2 σ) (fun s2 => bn1 (lpP (fun (z4 : (Int32 × gS)) => gT (z4.2.2.2 23 0) tR (fun rr5 => if (z4.2.1 rr5 1) ≤ z4.1 then some (.inr z4.2) else bn1 (pX10_bitOf a3 z4.1) (fun v6 => if v6 = (1 : Int32) then gx a2 20 (bn1 (pX10_bitOf (z4.2.1 37 a2.toNatClampNeg) z4.1) (fun v8 => if v8 = (1 : Int32) then gx (12 : Int32) 21 (gx (12 : Int32) 21 (lt' (wI z4.2 34 (12 : Int32).toNatClampNeg ((z4.2.1 34 (12 : Int32).toNatClampNeg) + (1 : Int32))) (fun s10 => gT (s10.2.2 23 0) tR (fun rr11 => gx z4.1 16 (gx ((14 : Int32) + (s10.1 (rr11 + 1) z4.1.toNatClampNeg)) 21 (gx ((14 : Int32) + (s10.1 (rr11 + 1) z4.1.toNatClampNeg)) 21 (lt' (wI s10 34 ((14 : Int32) + (s10.1 (rr11 + 1) z4.1.toNatClampNeg)).toNatClampNeg ((s10.1 34 ((14 : Int32) + (s10.1 (rr11 + 1) z4.1.toNatClampNeg)).toNatClampNeg) + (1 : Int32))) (fun s12 => lt' (z4.1 + (1 : Int32)) (fun x13 => some (.inl (x13, s12))))))))))) else gx (13 : Int32) 21 (gx (13 : Int32) 21 (lt' (wI z4.2 34 (13 : Int32).toNatClampNeg ((z4.2.1 34 (13 : Int32).toNatClampNeg) + (1 : Int32))) (fun s14 => lt' (z4.1 + (1 : Int32)) (fun x15 => some (.inl (x15, s14)))))))) else lt' (z4.1 + (1 : Int32)) (fun x16 => some (.inl (x16, z4.2)))))) ((0 : Int32), s2)) (fun (z3 : gS) => gT (z3.2.2 23 0) tR (fun rr17 => bn2 (pX3_valueOf rr17 ((22 : Int32) + a1) z3) (fun v18 s19 => some (v18, s19)))))
set_option maxRecDepth 100000 in
theorem cn_X4_fitOf {G : gG} {b : Nat} {a1 : Int32} {a2 : Int32} {a3 : Int32} {σ : gS} : CN vC G b 4 yX4_fitOf cX4_fitOf 5 (some .int) kI [.ref (b + 23), .int a1, .int a2, .int a3] σ (pX4_fitOf a1 a2 a3 σ) := by
  refine cn_of (own := RX4) rfl rfl (Nat.le_of_ble_eq_true rfl) ?_
  show GF vC G b (4, 0, 0) RX4 cX4_fitOf 5 (some .int) kI 0 [(0, .ref (b + 23)), (1, .int a1), (2, .int a2), (3, .int a3)] [] σ (pX4_fitOf a1 a2 a3 σ)
  unfold pX4_fitOf
  refine g_aload_n (q := 1) 0 dX4_fitOf_0 rfl rfl rfl ?_
  refine g_iload_n (q := 2) 2 dX4_fitOf_1 rfl rfl rfl ?_
  refine g_callO (As := [.int a2]) (st := []) (cn_X4_setPerson) shX4 rfl cwX4_45 rfl dX4_fitOf_2 rfl (Nat.le_of_ble_eq_true rfl) (by decide) (kk_V (fun s2 => ?_))
  refine g_iconst (q := 6) dX4_fitOf_5 kI_0 rfl ?_
  refine g_istore (lr := [(0, .ref (b + 23)), (1, .int a1), (2, .int a2), (3, .int a3)]) (q := 8) dX4_fitOf_6 (by decide) rfl rfl ?_
  refine g_bind (S := gS) (hd := 107) (lvf := fun z3 => [(0, .ref (b + 23)), (1, .int a1)]) (stf := fun z3 => []) (σf := fun z3 => z3) ?_ (fun z3 => ?_)
  · refine g_loop (S := (Int32 × gS)) (lvf := fun z4 => [(4, .int z4.1), (0, .ref (b + 23)), (1, .int a1), (2, .int a2), (3, .int a3)]) (σf := fun z4 => z4.2) (fun z4 => ?_) ((0 : Int32), s2)
    refine g_iload (q := 10) 0 dX4_fitOf_8 rfl rfl ?_
    refine g_aload_n (q := 11) 1 dX4_fitOf_10 rfl rfl rfl ?_
    refine g_getR (cT := tR) (q := 14) fX4_told dX4_fitOf_11 ww282 rfl (fun rr5 hrr5 => ?_)
    refine g_getI (q := 17) (fX9_says hrr5) dX4_fitOf_14 ww141 rfl ?_
    refine g_icmp_ge (t := 107) (q := 20) dX4_fitOf_17 (by decide) rfl ?_ ?_
    · refine g_sub (lr := [(0, .ref (b + 23)), (1, .int a1)]) [1, 2] rfl ?_
      exact (g_leave (g_there (z4.2 : gS)))
    · refine g_iload_n (q := 21) 4 dX4_fitOf_20 rfl rfl rfl ?_
      refine g_iload (q := 23) 0 dX4_fitOf_21 rfl rfl ?_
      refine g_callN (As := [.int a3, .int z4.1]) (st := []) (cn_X10_bitOf) cwX4_80 rfl dX4_fitOf_23 rfl (Nat.le_of_ble_eq_true rfl) (by decide) (kk_PI (fun v6 => ?_))
      refine g_iconst (q := 27) dX4_fitOf_26 kI_1 rfl ?_
      refine g_icmp_ne (t := 101) (q := 30) dX4_fitOf_27 (by decide) rfl ?_ ?_
      · refine g_aload_n (q := 31) 1 dX4_fitOf_30 rfl rfl rfl ?_
        refine g_getA (q := 34) fX4_truths dX4_fitOf_31 ww288 rfl ?_
        refine g_iload_n (q := 35) 3 dX4_fitOf_34 rfl rfl rfl ?_
        refine g_iald (q := 36) (aX4_truths) dX4_fitOf_35 rfl ?_
        refine g_iload (q := 38) 0 dX4_fitOf_36 rfl rfl ?_
        refine g_callN (As := [.int (z4.2.1 37 a2.toNatClampNeg), .int z4.1]) (st := []) (cn_X10_bitOf) cwX4_80 rfl dX4_fitOf_38 rfl (Nat.le_of_ble_eq_true rfl) (by decide) (kk_PI (fun v8 => ?_))
        refine g_iconst (q := 42) dX4_fitOf_41 kI_1 rfl ?_
        refine g_icmp_ne (t := 87) (q := 45) dX4_fitOf_42 (by decide) rfl ?_ ?_
        · refine g_aload_n (q := 46) 1 dX4_fitOf_45 rfl rfl rfl ?_
          refine g_getA (q := 49) fX4_reckoner dX4_fitOf_46 ww285 rfl ?_
          refine g_getA (q := 52) fX3_slots dX4_fitOf_49 ww272 rfl ?_
          refine g_bipush (q := 54) dX4_fitOf_52 kB_12 rfl ?_
          refine g_dup2 (q := 55) dX4_fitOf_54 rfl rfl rfl ?_
          refine g_iald (q := 56) (aX3_slots) dX4_fitOf_55 rfl ?_
          refine g_iconst (q := 57) dX4_fitOf_56 kI_1 rfl ?_
          refine g_iadd (q := 58) dX4_fitOf_57 rfl ?_
          refine g_iast (q := 59) (aX3_slots) dX4_fitOf_58 rfl (fun s10 => ?_)
          refine g_aload_n (q := 60) 1 dX4_fitOf_59 rfl rfl rfl ?_
          refine g_getA (q := 63) fX4_reckoner dX4_fitOf_60 ww285 rfl ?_
          refine g_getA (q := 66) fX3_slots dX4_fitOf_63 ww272 rfl ?_
          refine g_bipush (q := 68) dX4_fitOf_66 kB_14 rfl ?_
          refine g_aload_n (q := 69) 1 dX4_fitOf_68 rfl rfl rfl ?_
          refine g_getR (cT := tR) (q := 72) fX4_told dX4_fitOf_69 ww282 rfl (fun rr11 hrr11 => ?_)
          refine g_getA (q := 75) (fX9_sorts hrr11) dX4_fitOf_72 ww155 rfl ?_
          refine g_iload (q := 77) 0 dX4_fitOf_75 rfl rfl ?_
          refine g_iald (q := 78) (aX9_sorts hrr11) dX4_fitOf_77 rfl ?_
          refine g_iadd (q := 79) dX4_fitOf_78 rfl ?_
          refine g_dup2 (q := 80) dX4_fitOf_79 rfl rfl rfl ?_
          refine g_iald (q := 81) (aX3_slots) dX4_fitOf_80 rfl ?_
          refine g_iconst (q := 82) dX4_fitOf_81 kI_1 rfl ?_
          refine g_iadd (q := 83) dX4_fitOf_82 rfl ?_
          refine g_iast (q := 84) (aX3_slots) dX4_fitOf_83 rfl (fun s12 => ?_)
          refine g_goto (t := 101) dX4_fitOf_84 (by decide) ?_
          refine g_iinc (lr := [(0, .ref (b + 23)), (1, .int a1), (2, .int a2), (3, .int a3)]) (q := 104) 0 dX4_fitOf_101 rfl kI_1 (by decide) rfl rfl (fun x13 => ?_)
          refine g_goto (t := 8) dX4_fitOf_104 (by decide) ?_
          exact (g_again ((x13, s12) : (Int32 × gS)))
        · refine g_aload_n (q := 88) 1 dX4_fitOf_87 rfl rfl rfl ?_
          refine g_getA (q := 91) fX4_reckoner dX4_fitOf_88 ww285 rfl ?_
          refine g_getA (q := 94) fX3_slots dX4_fitOf_91 ww272 rfl ?_
          refine g_bipush (q := 96) dX4_fitOf_94 kB_13 rfl ?_
          refine g_dup2 (q := 97) dX4_fitOf_96 rfl rfl rfl ?_
          refine g_iald (q := 98) (aX3_slots) dX4_fitOf_97 rfl ?_
          refine g_iconst (q := 99) dX4_fitOf_98 kI_1 rfl ?_
          refine g_iadd (q := 100) dX4_fitOf_99 rfl ?_
          refine g_iast (q := 101) (aX3_slots) dX4_fitOf_100 rfl (fun s14 => ?_)
          refine g_iinc (lr := [(0, .ref (b + 23)), (1, .int a1), (2, .int a2), (3, .int a3)]) (q := 104) 0 dX4_fitOf_101 rfl kI_1 (by decide) rfl rfl (fun x15 => ?_)
          refine g_goto (t := 8) dX4_fitOf_104 (by decide) ?_
          exact (g_again ((x15, s14) : (Int32 × gS)))
      · refine g_iinc (lr := [(0, .ref (b + 23)), (1, .int a1), (2, .int a2), (3, .int a3)]) (q := 104) 0 dX4_fitOf_101 rfl kI_1 (by decide) rfl rfl (fun x16 => ?_)
        refine g_goto (t := 8) dX4_fitOf_104 (by decide) ?_
        exact (g_again ((x16, z4.2) : (Int32 × gS)))
  · refine g_aload_n (q := 108) 0 dX4_fitOf_107 rfl rfl rfl ?_
    refine g_getA (q := 111) fX4_reckoner dX4_fitOf_108 ww285 rfl ?_
    refine g_aload_n (q := 112) 0 dX4_fitOf_111 rfl rfl rfl ?_
    refine g_getR (cT := tR) (q := 115) fX4_told dX4_fitOf_112 ww282 rfl (fun rr17 hrr17 => ?_)
    refine g_bipush (q := 117) dX4_fitOf_115 kB_22 rfl ?_
    refine g_iload_n (q := 118) 1 dX4_fitOf_117 rfl rfl rfl ?_
    refine g_iadd (q := 119) dX4_fitOf_118 rfl ?_
    refine g_callO (As := [.ref (b + rr17), .int ((22 : Int32) + a1)]) (st := []) (cn_X3_valueOf hrr17) shX3 rfl cwX4_68 rfl dX4_fitOf_119 rfl (Nat.le_of_ble_eq_true rfl) (by decide) (kk_I (fun v18 s19 => ?_))
    exact (g_iret dX4_fitOf_122)
noncomputable def pX9_withoutSorts (r0 : Nat) (a1 : Int32) (a2 : Int32) (σ : gS) : Option (Int32) := bn1 (lpP (fun (z2 : (Int32 × Int32)) => if (σ.1 r0 1) ≤ z2.1 then some (.inr z2.2) else gx z2.1 16 (bn1 (pX10_bitOf a2 (σ.1 (r0 + 1) z2.1.toNatClampNeg)) (fun v3 => if v3 = 0 then lt' (z2.2 ||| (a1 &&& ((1 : Int32) <<< (z2.1 &&& (31 : Int32))))) (fun x5 => lt' (z2.1 + (1 : Int32)) (fun x6 => some (.inl (x6, x5)))) else lt' (z2.1 + (1 : Int32)) (fun x7 => some (.inl (x7, z2.2)))))) ((0 : Int32), (0 : Int32))) (fun (z1 : Int32) => some (z1))
set_option maxRecDepth 100000 in
theorem cn_X9_withoutSorts {G : gG} {b : Nat} {r0 : Nat} (hr0 : tR r0 = true) {a1 : Int32} {a2 : Int32} {σ : gS} : CN vC G b 2 yX9_withoutSorts cX9_withoutSorts 5 (some .int) (kPI σ) [.ref (b + r0), .int a1, .int a2] σ (pX9_withoutSorts r0 a1 a2 σ) := by
  refine cn_of (own := RX9) rfl rfl (Nat.le_of_ble_eq_true rfl) ?_
  show GF vC G b (2, 0, 0) RX9 cX9_withoutSorts 5 (some .int) (kPI σ) 0 [(0, .ref (b + r0)), (1, .int a1), (2, .int a2)] [] σ (pX9_withoutSorts r0 a1 a2 σ)
  unfold pX9_withoutSorts
  refine g_iconst (q := 1) dX9_withoutSorts_0 kI_0 rfl ?_
  refine g_istore_n (lr := [(0, .ref (b + r0)), (1, .int a1), (2, .int a2)]) (q := 2) dX9_withoutSorts_1 rfl (by decide) rfl rfl ?_
  refine g_iconst (q := 3) dX9_withoutSorts_2 kI_0 rfl ?_
  refine g_istore (lr := [(3, .int (0 : Int32)), (0, .ref (b + r0)), (1, .int a1), (2, .int a2)]) (q := 5) dX9_withoutSorts_3 (by decide) rfl rfl ?_
  refine g_bind (S := Int32) (hd := 43) (lvf := fun z1 => [(3, .int z1)]) (stf := fun z1 => []) (σf := fun z1 => σ) ?_ (fun z1 => ?_)
  · refine g_loop (S := (Int32 × Int32)) (lvf := fun z2 => [(4, .int z2.1), (3, .int z2.2), (0, .ref (b + r0)), (1, .int a1), (2, .int a2)]) (σf := fun z2 => σ) (fun z2 => ?_) ((0 : Int32), (0 : Int32))
    refine g_iload (q := 7) 0 dX9_withoutSorts_5 rfl rfl ?_
    refine g_aload_n (q := 8) 2 dX9_withoutSorts_7 rfl rfl rfl ?_
    refine g_getI (q := 11) (fX9_says hr0) dX9_withoutSorts_8 ww140 rfl ?_
    refine g_icmp_ge (t := 43) (q := 14) dX9_withoutSorts_11 (by decide) rfl ?_ ?_
    · refine g_sub (lr := [(3, .int z2.2)]) [1] rfl ?_
      exact (g_leave (g_there (z2.2 : Int32)))
    · refine g_iload_n (q := 15) 4 dX9_withoutSorts_14 rfl rfl rfl ?_
      refine g_aload_n (q := 16) 2 dX9_withoutSorts_15 rfl rfl rfl ?_
      refine g_getA (q := 19) (fX9_sorts hr0) dX9_withoutSorts_16 ww153 rfl ?_
      refine g_iload (q := 21) 0 dX9_withoutSorts_19 rfl rfl ?_
      refine g_iald (q := 22) (aX9_sorts hr0) dX9_withoutSorts_21 rfl ?_
      refine g_callN (As := [.int a2, .int (σ.1 (r0 + 1) z2.1.toNatClampNeg)]) (st := []) (cn_X10_bitOf) cwX9_59 rfl dX9_withoutSorts_22 rfl (Nat.le_of_ble_eq_true rfl) (by decide) (kk_PI (fun v3 => ?_))
      refine g_if_ne (t := 37) (q := 28) dX9_withoutSorts_25 (by decide) rfl ?_ ?_
      · refine g_iload_n (q := 29) 1 dX9_withoutSorts_28 rfl rfl rfl ?_
        refine g_iload_n (q := 30) 3 dX9_withoutSorts_29 rfl rfl rfl ?_
        refine g_iconst (q := 31) dX9_withoutSorts_30 kI_1 rfl ?_
        refine g_iload (q := 33) 0 dX9_withoutSorts_31 rfl rfl ?_
        refine g_ishl (q := 34) dX9_withoutSorts_33 rfl ?_
        refine g_iand (q := 35) dX9_withoutSorts_34 rfl ?_
        refine g_ior (q := 36) dX9_withoutSorts_35 rfl ?_
        refine g_leti (fun x5 => ?_)
        refine g_istore_n (lr := [(4, .int z2.1), (0, .ref (b + r0)), (1, .int a1), (2, .int a2)]) (q := 37) dX9_withoutSorts_36 rfl (by decide) rfl rfl ?_
        refine g_iinc (lr := [(3, .int x5), (0, .ref (b + r0)), (1, .int a1), (2, .int a2)]) (q := 40) 1 dX9_withoutSorts_37 rfl kI_1 (by decide) rfl rfl (fun x6 => ?_)
        refine g_goto (t := 5) dX9_withoutSorts_40 (by decide) ?_
        exact (g_again ((x6, x5) : (Int32 × Int32)))
      · refine g_iinc (lr := [(3, .int z2.2), (0, .ref (b + r0)), (1, .int a1), (2, .int a2)]) (q := 40) 0 dX9_withoutSorts_37 rfl kI_1 (by decide) rfl rfl (fun x7 => ?_)
        refine g_goto (t := 5) dX9_withoutSorts_40 (by decide) ?_
        exact (g_again ((x7, z2.2) : (Int32 × Int32)))
  · refine g_iload_n (q := 44) 0 dX9_withoutSorts_43 rfl rfl rfl ?_
    exact (g_iretP dX9_withoutSorts_44)
noncomputable def pX10_fit (a1 : Int32) (a2 : Int32) (a3 : Int32) (a4 : Int32) (a5 : Int32) (σ : gS) : Option (Int32 × gS) := bn1 (pX10_isLaw a1 σ) (fun v1 => if v1 = 0 then some ((-2147483648 : Int32), σ) else bn1 (pX10_isBook a2 σ) (fun v3 => if v3 = 0 then some ((-2147483648 : Int32), σ) else bn1 (pX2_has a3 σ) (fun v5 => if v5 = 0 then some ((-2147483648 : Int32), σ) else bn1 (pX2_has a4 σ) (fun v7 => if v7 = 0 then some ((-2147483648 : Int32), σ) else bn1 (pX10_inRange a5 (0 : Int32) (127 : Int32)) (fun v9 => if v9 = 0 then some ((-2147483648 : Int32), σ) else bn1 (pX4_survey σ) (fun s12 => gT (s12.2.2 23 0) tR (fun rr13 => gT (s12.2.2 23 0) tR (fun rr14 => gx a4 20 (bn1 (pX9_paperOf rr14 a2 (s12.1 36 a4.toNatClampNeg) s12) (fun v15 => bn1 (pX9_withoutSorts rr13 v15 a5 s12) (fun v17 => bn2 (pX4_fitOf a1 a3 v17 s12) (fun v19 s20 => some (v19, s20)))))))))))))
set_option maxRecDepth 100000 in
theorem cn_X10_fit {G : gG} {b : Nat} {a1 : Int32} {a2 : Int32} {a3 : Int32} {a4 : Int32} {a5 : Int32} {σ : gS} : CN vC G b 6 yX10_fit cX10_fit 7 (some .int) kI [.ref (b + 0), .int a1, .int a2, .int a3, .int a4, .int a5] σ (pX10_fit a1 a2 a3 a4 a5 σ) := by
  refine cn_of (own := RX10) rfl rfl (Nat.le_of_ble_eq_true rfl) ?_
  show GF vC G b (6, 0, 0) RX10 cX10_fit 7 (some .int) kI 0 [(0, .ref (b + 0)), (1, .int a1), (2, .int a2), (3, .int a3), (4, .int a4), (5, .int a5)] [] σ (pX10_fit a1 a2 a3 a4 a5 σ)
  unfold pX10_fit
  refine g_aload_n (q := 1) 0 dX10_fit_0 rfl rfl rfl ?_
  refine g_iload_n (q := 2) 1 dX10_fit_1 rfl rfl rfl ?_
  refine g_callO (As := [.int a1]) (st := []) (cn_X10_isLaw) shX10 rfl cwX10_168 rfl dX10_fit_2 rfl (Nat.le_of_ble_eq_true rfl) (by decide) (kk_PI (fun v1 => ?_))
  refine g_if_eq (t := 50) (q := 8) dX10_fit_5 (by decide) rfl ?_ ?_
  · refine g_ldc (q := 52) dX10_fit_50 ww753 rfl ?_
    exact (g_iret dX10_fit_52)
  · refine g_aload_n (q := 9) 0 dX10_fit_8 rfl rfl rfl ?_
    refine g_iload_n (q := 10) 2 dX10_fit_9 rfl rfl rfl ?_
    refine g_callO (As := [.int a2]) (st := []) (cn_X10_isBook) shX10 rfl cwX10_144 rfl dX10_fit_10 rfl (Nat.le_of_ble_eq_true rfl) (by decide) (kk_PI (fun v3 => ?_))
    refine g_if_eq (t := 50) (q := 16) dX10_fit_13 (by decide) rfl ?_ ?_
    · refine g_ldc (q := 52) dX10_fit_50 ww753 rfl ?_
      exact (g_iret dX10_fit_52)
    · refine g_aload_n (q := 17) 0 dX10_fit_16 rfl rfl rfl ?_
      refine g_getA (q := 20) fX10_people dX10_fit_17 ww379 rfl ?_
      refine g_iload_n (q := 21) 3 dX10_fit_20 rfl rfl rfl ?_
      refine g_callO (As := [.int a3]) (st := []) (cn_X2_has) shX2 rfl cwX10_106 rfl dX10_fit_21 rfl (Nat.le_of_ble_eq_true rfl) (by decide) (kk_PI (fun v5 => ?_))
      refine g_if_eq (t := 50) (q := 27) dX10_fit_24 (by decide) rfl ?_ ?_
      · refine g_ldc (q := 52) dX10_fit_50 ww753 rfl ?_
        exact (g_iret dX10_fit_52)
      · refine g_aload_n (q := 28) 0 dX10_fit_27 rfl rfl rfl ?_
        refine g_getA (q := 31) fX10_people dX10_fit_28 ww379 rfl ?_
        refine g_iload (q := 33) 4 dX10_fit_31 rfl rfl ?_
        refine g_callO (As := [.int a4]) (st := []) (cn_X2_has) shX2 rfl cwX10_106 rfl dX10_fit_33 rfl (Nat.le_of_ble_eq_true rfl) (by decide) (kk_PI (fun v7 => ?_))
        refine g_if_eq (t := 50) (q := 39) dX10_fit_36 (by decide) rfl ?_ ?_
        · refine g_ldc (q := 52) dX10_fit_50 ww753 rfl ?_
          exact (g_iret dX10_fit_52)
        · refine g_iload (q := 41) 5 dX10_fit_39 rfl rfl ?_
          refine g_iconst (q := 42) dX10_fit_41 kI_0 rfl ?_
          refine g_bipush (q := 44) dX10_fit_42 kB_127 rfl ?_
          refine g_callT (As := [.int a5, .int (0 : Int32), .int (127 : Int32)]) (st := []) (cn_X10_inRange) cwX10_88 rfl dX10_fit_44 rfl (Nat.le_of_ble_eq_true rfl) (by decide) (kk_PI (fun v9 => ?_))
          refine g_if_ne (t := 53) (q := 50) dX10_fit_47 (by decide) rfl ?_ ?_
          · refine g_ldc (q := 52) dX10_fit_50 ww753 rfl ?_
            exact (g_iret dX10_fit_52)
          · refine g_aload_n (q := 54) 0 dX10_fit_53 rfl rfl rfl ?_
            refine g_getA (q := 57) fX10_sky dX10_fit_54 ww380 rfl ?_
            refine g_callO (As := []) (st := []) (cn_X4_survey) shX4 rfl cwX10_153 rfl dX10_fit_57 rfl (Nat.le_of_ble_eq_true rfl) (by decide) (kk_V (fun s12 => ?_))
            refine g_aload_n (q := 61) 0 dX10_fit_60 rfl rfl rfl ?_
            refine g_getA (q := 64) fX10_sky dX10_fit_61 ww380 rfl ?_
            refine g_getR (cT := tR) (q := 67) fX4_told dX10_fit_64 ww283 rfl (fun rr13 hrr13 => ?_)
            refine g_aload_n (q := 68) 0 dX10_fit_67 rfl rfl rfl ?_
            refine g_getA (q := 71) fX10_sky dX10_fit_68 ww380 rfl ?_
            refine g_getR (cT := tR) (q := 74) fX4_told dX10_fit_71 ww283 rfl (fun rr14 hrr14 => ?_)
            refine g_iload_n (q := 75) 2 dX10_fit_74 rfl rfl rfl ?_
            refine g_aload_n (q := 76) 0 dX10_fit_75 rfl rfl rfl ?_
            refine g_getA (q := 79) fX10_sky dX10_fit_76 ww380 rfl ?_
            refine g_getA (q := 82) fX4_ups dX10_fit_79 ww287 rfl ?_
            refine g_iload (q := 84) 4 dX10_fit_82 rfl rfl ?_
            refine g_iald (q := 85) (aX4_ups) dX10_fit_84 rfl ?_
            refine g_callO (As := [.int a2, .int (s12.1 36 a4.toNatClampNeg)]) (st := [.ref (b + rr13)]) (cn_X9_paperOf hrr14) (shX9 hrr14) rfl cwX10_150 rfl dX10_fit_85 rfl (Nat.le_of_ble_eq_true rfl) (by decide) (kk_PI (fun v15 => ?_))
            refine g_iload (q := 90) 5 dX10_fit_88 rfl rfl ?_
            refine g_callO (As := [.int v15, .int a5]) (st := []) (cn_X9_withoutSorts hrr13) (shX9 hrr13) rfl cwX10_172 rfl dX10_fit_90 rfl (Nat.le_of_ble_eq_true rfl) (by decide) (kk_PI (fun v17 => ?_))
            refine g_istore (lr := [(0, .ref (b + 0)), (1, .int a1), (2, .int a2), (3, .int a3), (4, .int a4), (5, .int a5)]) (q := 95) dX10_fit_93 (by decide) rfl rfl ?_
            refine g_aload_n (q := 96) 1 dX10_fit_95 rfl rfl rfl ?_
            refine g_getA (q := 99) fX10_sky dX10_fit_96 ww380 rfl ?_
            refine g_iload_n (q := 100) 2 dX10_fit_99 rfl rfl rfl ?_
            refine g_iload_n (q := 101) 4 dX10_fit_100 rfl rfl rfl ?_
            refine g_iload (q := 103) 0 dX10_fit_101 rfl rfl ?_
            refine g_callO (As := [.int a1, .int a3, .int v17]) (st := []) (cn_X4_fitOf) shX4 rfl cwX10_175 rfl dX10_fit_103 rfl (Nat.le_of_ble_eq_true rfl) (by decide) (kk_I (fun v19 s20 => ?_))
            exact (g_iret dX10_fit_106)
noncomputable def pX4_sixths (a1 : Int32) (a2 : Int32) (a3 : Int32) (σ : gS) : Option (Int32) := gx a1 20 (lt' (σ.1 38 a1.toNatClampNeg) (fun x1 => gx a2 20 (if x1 < (σ.1 38 a2.toNatClampNeg) then some ((0 : Int32)) else gx a3 20 (if (σ.1 38 a3.toNatClampNeg) ≤ x1 then gx a2 20 (bnS (if (σ.1 38 a2.toNatClampNeg) = x1 then gx a3 20 (if (σ.1 38 a3.toNatClampNeg) = x1 then some (.inr ((2 : Int32))) else some (.inl ())) else some (.inl ())) (fun (z2 : Unit) => gx a2 20 (if (σ.1 38 a2.toNatClampNeg) = x1 then some ((3 : Int32)) else gx a3 20 (if (σ.1 38 a3.toNatClampNeg) = x1 then some ((3 : Int32)) else some ((6 : Int32)))))) else some ((0 : Int32))))))
set_option maxRecDepth 100000 in
theorem cn_X4_sixths {G : gG} {b : Nat} {a1 : Int32} {a2 : Int32} {a3 : Int32} {σ : gS} : CN vC G b 1 yX4_sixths cX4_sixths 5 (some .int) (kPI σ) [.ref (b + 23), .int a1, .int a2, .int a3] σ (pX4_sixths a1 a2 a3 σ) := by
  refine cn_of (own := RX4) rfl rfl (Nat.le_of_ble_eq_true rfl) ?_
  show GF vC G b (1, 0, 0) RX4 cX4_sixths 5 (some .int) (kPI σ) 0 [(0, .ref (b + 23)), (1, .int a1), (2, .int a2), (3, .int a3)] [] σ (pX4_sixths a1 a2 a3 σ)
  unfold pX4_sixths
  refine g_aload_n (q := 1) 0 dX4_sixths_0 rfl rfl rfl ?_
  refine g_getA (q := 4) fX4_fits dX4_sixths_1 ww290 rfl ?_
  refine g_iload_n (q := 5) 1 dX4_sixths_4 rfl rfl rfl ?_
  refine g_iald (q := 6) (aX4_fits) dX4_sixths_5 rfl ?_
  refine g_leti (fun x1 => ?_)
  refine g_istore (lr := [(0, .ref (b + 23)), (1, .int a1), (2, .int a2), (3, .int a3)]) (q := 8) dX4_sixths_6 (by decide) rfl rfl ?_
  refine g_aload_n (q := 9) 1 dX4_sixths_8 rfl rfl rfl ?_
  refine g_getA (q := 12) fX4_fits dX4_sixths_9 ww290 rfl ?_
  refine g_iload_n (q := 13) 3 dX4_sixths_12 rfl rfl rfl ?_
  refine g_iald (q := 14) (aX4_fits) dX4_sixths_13 rfl ?_
  refine g_iload (q := 16) 0 dX4_sixths_14 rfl rfl ?_
  refine g_icmp_gt (t := 30) (q := 19) dX4_sixths_16 (by decide) rfl ?_ ?_
  · refine g_iconst (q := 31) dX4_sixths_30 kI_0 rfl ?_
    exact (g_iretP dX4_sixths_31)
  · refine g_aload_n (q := 20) 1 dX4_sixths_19 rfl rfl rfl ?_
    refine g_getA (q := 23) fX4_fits dX4_sixths_20 ww290 rfl ?_
    refine g_iload_n (q := 24) 4 dX4_sixths_23 rfl rfl rfl ?_
    refine g_iald (q := 25) (aX4_fits) dX4_sixths_24 rfl ?_
    refine g_iload (q := 27) 0 dX4_sixths_25 rfl rfl ?_
    refine g_icmp_le (t := 32) (q := 30) dX4_sixths_27 (by decide) rfl ?_ ?_
    · refine g_aload_n (q := 33) 1 dX4_sixths_32 rfl rfl rfl ?_
      refine g_getA (q := 36) fX4_fits dX4_sixths_33 ww290 rfl ?_
      refine g_iload_n (q := 37) 3 dX4_sixths_36 rfl rfl rfl ?_
      refine g_iald (q := 38) (aX4_fits) dX4_sixths_37 rfl ?_
      refine g_iload (q := 40) 0 dX4_sixths_38 rfl rfl ?_
      refine g_bindS (S := Unit) (hd := 56) (lvf := fun z2 => [(4, .int x1), (0, .ref (b + 23)), (2, .int a2), (3, .int a3)]) (stf := fun z2 => []) (σf := fun z2 => σ) ?_ (fun z2 => ?_)
      · refine g_icmp_ne (t := 56) (q := 43) dX4_sixths_40 (by decide) rfl ?_ ?_
        · refine g_aload_n (q := 44) 1 dX4_sixths_43 rfl rfl rfl ?_
          refine g_getA (q := 47) fX4_fits dX4_sixths_44 ww290 rfl ?_
          refine g_iload_n (q := 48) 4 dX4_sixths_47 rfl rfl rfl ?_
          refine g_iald (q := 49) (aX4_fits) dX4_sixths_48 rfl ?_
          refine g_iload (q := 51) 0 dX4_sixths_49 rfl rfl ?_
          refine g_icmp_ne (t := 56) (q := 54) dX4_sixths_51 (by decide) rfl ?_ ?_
          · refine g_iconst (q := 55) dX4_sixths_54 kI_2 rfl ?_
            exact (g_right (g_iretP dX4_sixths_55))
          · refine g_sub (lr := [(4, .int x1), (0, .ref (b + 23)), (2, .int a2), (3, .int a3)]) [0, 1, 3, 4] rfl ?_
            exact (g_thereS (() : Unit))
        · refine g_sub (lr := [(4, .int x1), (0, .ref (b + 23)), (2, .int a2), (3, .int a3)]) [0, 1, 3, 4] rfl ?_
          exact (g_thereS (() : Unit))
      · refine g_aload_n (q := 57) 1 dX4_sixths_56 rfl rfl rfl ?_
        refine g_getA (q := 60) fX4_fits dX4_sixths_57 ww290 rfl ?_
        refine g_iload_n (q := 61) 2 dX4_sixths_60 rfl rfl rfl ?_
        refine g_iald (q := 62) (aX4_fits) dX4_sixths_61 rfl ?_
        refine g_iload (q := 64) 0 dX4_sixths_62 rfl rfl ?_
        refine g_icmp_eq (t := 78) (q := 67) dX4_sixths_64 (by decide) rfl ?_ ?_
        · refine g_iconst (q := 79) dX4_sixths_78 kI_3 rfl ?_
          refine g_goto (t := 84) dX4_sixths_79 (by decide) ?_
          exact (g_iretP dX4_sixths_84)
        · refine g_aload_n (q := 68) 1 dX4_sixths_67 rfl rfl rfl ?_
          refine g_getA (q := 71) fX4_fits dX4_sixths_68 ww290 rfl ?_
          refine g_iload_n (q := 72) 3 dX4_sixths_71 rfl rfl rfl ?_
          refine g_iald (q := 73) (aX4_fits) dX4_sixths_72 rfl ?_
          refine g_iload (q := 75) 0 dX4_sixths_73 rfl rfl ?_
          refine g_icmp_ne (t := 82) (q := 78) dX4_sixths_75 (by decide) rfl ?_ ?_
          · refine g_iconst (q := 79) dX4_sixths_78 kI_3 rfl ?_
            refine g_goto (t := 84) dX4_sixths_79 (by decide) ?_
            exact (g_iretP dX4_sixths_84)
          · refine g_bipush (q := 84) dX4_sixths_82 kB_6 rfl ?_
            exact (g_iretP dX4_sixths_84)
    · refine g_iconst (q := 31) dX4_sixths_30 kI_0 rfl ?_
      exact (g_iretP dX4_sixths_31)
noncomputable def pX4_weigh (a1 : Int32) (a2 : Int32) (a3 : Int32) (a4 : Int32) (σ : gS) : Option (Int32 × gS) := gT (σ.2.2 23 0) tR (fun rr1 => gx a4 20 (bn1 (pX9_paperOf rr1 a2 (σ.1 36 a4.toNatClampNeg) σ) (fun v2 => bn2 (pX4_fitOf a1 a3 v2 σ) (fun v4 s5 => gx a4 20 (lt' (wI s5 38 a4.toNatClampNeg v4) (fun s6 => gx a4 20 (some (s6.1 38 a4.toNatClampNeg, s6))))))))
set_option maxRecDepth 100000 in
theorem cn_X4_weigh {G : gG} {b : Nat} {a1 : Int32} {a2 : Int32} {a3 : Int32} {a4 : Int32} {σ : gS} : CN vC G b 5 yX4_weigh cX4_weigh 5 (some .int) kI [.ref (b + 23), .int a1, .int a2, .int a3, .int a4] σ (pX4_weigh a1 a2 a3 a4 σ) := by
  refine cn_of (own := RX4) rfl rfl (Nat.le_of_ble_eq_true rfl) ?_
  show GF vC G b (5, 0, 0) RX4 cX4_weigh 5 (some .int) kI 0 [(0, .ref (b + 23)), (1, .int a1), (2, .int a2), (3, .int a3), (4, .int a4)] [] σ (pX4_weigh a1 a2 a3 a4 σ)
  unfold pX4_weigh
  refine g_aload_n (q := 1) 0 dX4_weigh_0 rfl rfl rfl ?_
  refine g_getA (q := 4) fX4_fits dX4_weigh_1 ww290 rfl ?_
  refine g_iload (q := 6) 4 dX4_weigh_4 rfl rfl ?_
  refine g_aload_n (q := 7) 0 dX4_weigh_6 rfl rfl rfl ?_
  refine g_iload_n (q := 8) 1 dX4_weigh_7 rfl rfl rfl ?_
  refine g_iload_n (q := 9) 3 dX4_weigh_8 rfl rfl rfl ?_
  refine g_aload_n (q := 10) 0 dX4_weigh_9 rfl rfl rfl ?_
  refine g_getR (cT := tR) (q := 13) fX4_told dX4_weigh_10 ww282 rfl (fun rr1 hrr1 => ?_)
  refine g_iload_n (q := 14) 2 dX4_weigh_13 rfl rfl rfl ?_
  refine g_aload_n (q := 15) 0 dX4_weigh_14 rfl rfl rfl ?_
  refine g_getA (q := 18) fX4_ups dX4_weigh_15 ww286 rfl ?_
  refine g_iload (q := 20) 4 dX4_weigh_18 rfl rfl ?_
  refine g_iald (q := 21) (aX4_ups) dX4_weigh_20 rfl ?_
  refine g_callO (As := [.int a2, .int (σ.1 36 a4.toNatClampNeg)]) (st := [.int a3, .int a1, .ref (b + 23), .int a4, .ref (b + 38)]) (cn_X9_paperOf hrr1) (shX9 hrr1) rfl cwX4_86 rfl dX4_weigh_21 rfl (Nat.le_of_ble_eq_true rfl) (by decide) (kk_PI (fun v2 => ?_))
  refine g_callO (As := [.int a1, .int a3, .int v2]) (st := [.int a4, .ref (b + 38)]) (cn_X4_fitOf) shX4 rfl cwX4_89 rfl dX4_weigh_24 rfl (Nat.le_of_ble_eq_true rfl) (by decide) (kk_I (fun v4 s5 => ?_))
  refine g_iast (q := 28) (aX4_fits) dX4_weigh_27 rfl (fun s6 => ?_)
  refine g_aload_n (q := 29) 0 dX4_weigh_28 rfl rfl rfl ?_
  refine g_getA (q := 32) fX4_fits dX4_weigh_29 ww290 rfl ?_
  refine g_iload (q := 34) 4 dX4_weigh_32 rfl rfl ?_
  refine g_iald (q := 35) (aX4_fits) dX4_weigh_34 rfl ?_
  exact (g_iret dX4_weigh_35)
noncomputable def pX4_sixthsOf (a1 : Int32) (a2 : Int32) (a3 : Int32) (a4 : Int32) (a5 : Int32) (σ : gS) : Option (Int32 × gS) := bn2 (pX4_weigh a1 a2 a3 a3 σ) (fun v1 s2 => bn2 (pX4_weigh a1 a2 a3 a4 s2) (fun v3 s4 => bn2 (pX4_weigh a1 a2 a3 a5 s4) (fun v5 s6 => bn1 (pX4_sixths a3 a4 a5 s6) (fun v7 => some (v7, s6)))))
set_option maxRecDepth 100000 in
theorem cn_X4_sixthsOf {G : gG} {b : Nat} {a1 : Int32} {a2 : Int32} {a3 : Int32} {a4 : Int32} {a5 : Int32} {σ : gS} : CN vC G b 6 yX4_sixthsOf cX4_sixthsOf 6 (some .int) kI [.ref (b + 23), .int a1, .int a2, .int a3, .int a4, .int a5] σ (pX4_sixthsOf a1 a2 a3 a4 a5 σ) := by
  refine cn_of (own := RX4) rfl rfl (Nat.le_of_ble_eq_true rfl) ?_
  show GF vC G b (6, 0, 0) RX4 cX4_sixthsOf 6 (some .int) kI 0 [(0, .ref (b + 23)), (1, .int a1), (2, .int a2), (3, .int a3), (4, .int a4), (5, .int a5)] [] σ (pX4_sixthsOf a1 a2 a3 a4 a5 σ)
  unfold pX4_sixthsOf
  refine g_aload_n (q := 1) 0 dX4_sixthsOf_0 rfl rfl rfl ?_
  refine g_iload_n (q := 2) 1 dX4_sixthsOf_1 rfl rfl rfl ?_
  refine g_iload_n (q := 3) 2 dX4_sixthsOf_2 rfl rfl rfl ?_
  refine g_iload_n (q := 4) 3 dX4_sixthsOf_3 rfl rfl rfl ?_
  refine g_iload_n (q := 5) 3 dX4_sixthsOf_4 rfl rfl rfl ?_
  refine g_callO (As := [.int a1, .int a2, .int a3, .int a3]) (st := []) (cn_X4_weigh) shX4 rfl cwX4_92 rfl dX4_sixthsOf_5 rfl (Nat.le_of_ble_eq_true rfl) (by decide) (kk_I (fun v1 s2 => ?_))
  refine g_pop (q := 9) dX4_sixthsOf_8 rfl rfl ?_
  refine g_aload_n (q := 10) 0 dX4_sixthsOf_9 rfl rfl rfl ?_
  refine g_iload_n (q := 11) 1 dX4_sixthsOf_10 rfl rfl rfl ?_
  refine g_iload_n (q := 12) 2 dX4_sixthsOf_11 rfl rfl rfl ?_
  refine g_iload_n (q := 13) 3 dX4_sixthsOf_12 rfl rfl rfl ?_
  refine g_iload (q := 15) 4 dX4_sixthsOf_13 rfl rfl ?_
  refine g_callO (As := [.int a1, .int a2, .int a3, .int a4]) (st := []) (cn_X4_weigh) shX4 rfl cwX4_92 rfl dX4_sixthsOf_15 rfl (Nat.le_of_ble_eq_true rfl) (by decide) (kk_I (fun v3 s4 => ?_))
  refine g_pop (q := 19) dX4_sixthsOf_18 rfl rfl ?_
  refine g_aload_n (q := 20) 0 dX4_sixthsOf_19 rfl rfl rfl ?_
  refine g_iload_n (q := 21) 1 dX4_sixthsOf_20 rfl rfl rfl ?_
  refine g_iload_n (q := 22) 2 dX4_sixthsOf_21 rfl rfl rfl ?_
  refine g_iload_n (q := 23) 3 dX4_sixthsOf_22 rfl rfl rfl ?_
  refine g_iload (q := 25) 5 dX4_sixthsOf_23 rfl rfl ?_
  refine g_callO (As := [.int a1, .int a2, .int a3, .int a5]) (st := []) (cn_X4_weigh) shX4 rfl cwX4_92 rfl dX4_sixthsOf_25 rfl (Nat.le_of_ble_eq_true rfl) (by decide) (kk_I (fun v5 s6 => ?_))
  refine g_pop (q := 29) dX4_sixthsOf_28 rfl rfl ?_
  refine g_aload_n (q := 30) 0 dX4_sixthsOf_29 rfl rfl rfl ?_
  refine g_iload_n (q := 31) 3 dX4_sixthsOf_30 rfl rfl rfl ?_
  refine g_iload (q := 33) 4 dX4_sixthsOf_31 rfl rfl ?_
  refine g_iload (q := 35) 5 dX4_sixthsOf_33 rfl rfl ?_
  refine g_callO (As := [.int a3, .int a4, .int a5]) (st := []) (cn_X4_sixths) shX4 rfl cwX4_96 rfl dX4_sixthsOf_35 rfl (Nat.le_of_ble_eq_true rfl) (by decide) (kk_PI (fun v7 => ?_))
  exact (g_iret dX4_sixthsOf_38)
noncomputable def pX10_choose (a1 : Int32) (a2 : Int32) (a3 : Int32) (a4 : Int32) (a5 : Int32) (σ : gS) : Option (Int32 × gS) := bn1 (pX10_isLaw a1 σ) (fun v1 => if v1 = 0 then some ((-1 : Int32), σ) else bn1 (pX10_isBook a2 σ) (fun v3 => if v3 = 0 then some ((-1 : Int32), σ) else bn1 (pX2_has a3 σ) (fun v5 => if v5 = 0 then some ((-1 : Int32), σ) else bn1 (pX2_has a4 σ) (fun v7 => if v7 = 0 then some ((-1 : Int32), σ) else bn1 (pX2_has a5 σ) (fun v9 => if v9 = 0 then some ((-1 : Int32), σ) else if a3 = a4 then some ((-1 : Int32), σ) else if a3 = a5 then some ((-1 : Int32), σ) else if a4 = a5 then some ((-1 : Int32), σ) else bn1 (pX4_survey σ) (fun s12 => bn2 (pX4_sixthsOf a1 a2 a3 a4 a5 s12) (fun v13 s14 => some (v13, s14))))))))
set_option maxRecDepth 100000 in
theorem cn_X10_choose {G : gG} {b : Nat} {a1 : Int32} {a2 : Int32} {a3 : Int32} {a4 : Int32} {a5 : Int32} {σ : gS} : CN vC G b 7 yX10_choose cX10_choose 6 (some .int) kI [.ref (b + 0), .int a1, .int a2, .int a3, .int a4, .int a5] σ (pX10_choose a1 a2 a3 a4 a5 σ) := by
  refine cn_of (own := RX10) rfl rfl (Nat.le_of_ble_eq_true rfl) ?_
  show GF vC G b (7, 0, 0) RX10 cX10_choose 6 (some .int) kI 0 [(0, .ref (b + 0)), (1, .int a1), (2, .int a2), (3, .int a3), (4, .int a4), (5, .int a5)] [] σ (pX10_choose a1 a2 a3 a4 a5 σ)
  unfold pX10_choose
  refine g_aload_n (q := 1) 0 dX10_choose_0 rfl rfl rfl ?_
  refine g_iload_n (q := 2) 1 dX10_choose_1 rfl rfl rfl ?_
  refine g_callO (As := [.int a1]) (st := []) (cn_X10_isLaw) shX10 rfl cwX10_168 rfl dX10_choose_2 rfl (Nat.le_of_ble_eq_true rfl) (by decide) (kk_PI (fun v1 => ?_))
  refine g_if_eq (t := 51) (q := 8) dX10_choose_5 (by decide) rfl ?_ ?_
  · refine g_iconst (q := 52) dX10_choose_51 kI_m1 rfl ?_
    exact (g_iret dX10_choose_52)
  · refine g_aload_n (q := 9) 0 dX10_choose_8 rfl rfl rfl ?_
    refine g_iload_n (q := 10) 2 dX10_choose_9 rfl rfl rfl ?_
    refine g_callO (As := [.int a2]) (st := []) (cn_X10_isBook) shX10 rfl cwX10_144 rfl dX10_choose_10 rfl (Nat.le_of_ble_eq_true rfl) (by decide) (kk_PI (fun v3 => ?_))
    refine g_if_eq (t := 51) (q := 16) dX10_choose_13 (by decide) rfl ?_ ?_
    · refine g_iconst (q := 52) dX10_choose_51 kI_m1 rfl ?_
      exact (g_iret dX10_choose_52)
    · refine g_aload_n (q := 17) 0 dX10_choose_16 rfl rfl rfl ?_
      refine g_getA (q := 20) fX10_people dX10_choose_17 ww379 rfl ?_
      refine g_iload_n (q := 21) 3 dX10_choose_20 rfl rfl rfl ?_
      refine g_callO (As := [.int a3]) (st := []) (cn_X2_has) shX2 rfl cwX10_106 rfl dX10_choose_21 rfl (Nat.le_of_ble_eq_true rfl) (by decide) (kk_PI (fun v5 => ?_))
      refine g_if_eq (t := 51) (q := 27) dX10_choose_24 (by decide) rfl ?_ ?_
      · refine g_iconst (q := 52) dX10_choose_51 kI_m1 rfl ?_
        exact (g_iret dX10_choose_52)
      · refine g_aload_n (q := 28) 0 dX10_choose_27 rfl rfl rfl ?_
        refine g_getA (q := 31) fX10_people dX10_choose_28 ww379 rfl ?_
        refine g_iload (q := 33) 4 dX10_choose_31 rfl rfl ?_
        refine g_callO (As := [.int a4]) (st := []) (cn_X2_has) shX2 rfl cwX10_106 rfl dX10_choose_33 rfl (Nat.le_of_ble_eq_true rfl) (by decide) (kk_PI (fun v7 => ?_))
        refine g_if_eq (t := 51) (q := 39) dX10_choose_36 (by decide) rfl ?_ ?_
        · refine g_iconst (q := 52) dX10_choose_51 kI_m1 rfl ?_
          exact (g_iret dX10_choose_52)
        · refine g_aload_n (q := 40) 0 dX10_choose_39 rfl rfl rfl ?_
          refine g_getA (q := 43) fX10_people dX10_choose_40 ww379 rfl ?_
          refine g_iload (q := 45) 5 dX10_choose_43 rfl rfl ?_
          refine g_callO (As := [.int a5]) (st := []) (cn_X2_has) shX2 rfl cwX10_106 rfl dX10_choose_45 rfl (Nat.le_of_ble_eq_true rfl) (by decide) (kk_PI (fun v9 => ?_))
          refine g_if_ne (t := 53) (q := 51) dX10_choose_48 (by decide) rfl ?_ ?_
          · refine g_iconst (q := 52) dX10_choose_51 kI_m1 rfl ?_
            exact (g_iret dX10_choose_52)
          · refine g_iload_n (q := 54) 3 dX10_choose_53 rfl rfl rfl ?_
            refine g_iload (q := 56) 4 dX10_choose_54 rfl rfl ?_
            refine g_icmp_eq (t := 72) (q := 59) dX10_choose_56 (by decide) rfl ?_ ?_
            · refine g_iconst (q := 73) dX10_choose_72 kI_m1 rfl ?_
              exact (g_iret dX10_choose_73)
            · refine g_iload_n (q := 60) 3 dX10_choose_59 rfl rfl rfl ?_
              refine g_iload (q := 62) 5 dX10_choose_60 rfl rfl ?_
              refine g_icmp_eq (t := 72) (q := 65) dX10_choose_62 (by decide) rfl ?_ ?_
              · refine g_iconst (q := 73) dX10_choose_72 kI_m1 rfl ?_
                exact (g_iret dX10_choose_73)
              · refine g_iload (q := 67) 4 dX10_choose_65 rfl rfl ?_
                refine g_iload (q := 69) 5 dX10_choose_67 rfl rfl ?_
                refine g_icmp_ne (t := 74) (q := 72) dX10_choose_69 (by decide) rfl ?_ ?_
                · refine g_iconst (q := 73) dX10_choose_72 kI_m1 rfl ?_
                  exact (g_iret dX10_choose_73)
                · refine g_aload_n (q := 75) 0 dX10_choose_74 rfl rfl rfl ?_
                  refine g_getA (q := 78) fX10_sky dX10_choose_75 ww380 rfl ?_
                  refine g_callO (As := []) (st := []) (cn_X4_survey) shX4 rfl cwX10_153 rfl dX10_choose_78 rfl (Nat.le_of_ble_eq_true rfl) (by decide) (kk_V (fun s12 => ?_))
                  refine g_aload_n (q := 82) 0 dX10_choose_81 rfl rfl rfl ?_
                  refine g_getA (q := 85) fX10_sky dX10_choose_82 ww380 rfl ?_
                  refine g_iload_n (q := 86) 1 dX10_choose_85 rfl rfl rfl ?_
                  refine g_iload_n (q := 87) 2 dX10_choose_86 rfl rfl rfl ?_
                  refine g_iload_n (q := 88) 3 dX10_choose_87 rfl rfl rfl ?_
                  refine g_iload (q := 90) 4 dX10_choose_88 rfl rfl ?_
                  refine g_iload (q := 92) 5 dX10_choose_90 rfl rfl ?_
                  refine g_callO (As := [.int a1, .int a2, .int a3, .int a4, .int a5]) (st := []) (cn_X4_sixthsOf) shX4 rfl cwX10_179 rfl dX10_choose_92 rfl (Nat.le_of_ble_eq_true rfl) (by decide) (kk_I (fun v13 s14 => ?_))
                  exact (g_iret dX10_choose_95)
noncomputable def pX2_nthOther (a1 : Int32) (a2 : Int32) (a3 : Int32) (σ : gS) : Option (Int32) := bnS (lpP (fun (z2 : (Int32 × Int32)) => if (σ.1 21 1) ≤ z2.1 then some (.inr (.inl ())) else if z2.1 = a2 then lt' (z2.1 + (1 : Int32)) (fun x3 => some (.inl (x3, z2.2))) else if z2.1 = a3 then lt' (z2.1 + (1 : Int32)) (fun x4 => some (.inl (x4, z2.2))) else if z2.2 = a1 then some (.inr (.inr (z2.1))) else lt' (z2.2 + (1 : Int32)) (fun x5 => lt' (z2.1 + (1 : Int32)) (fun x6 => some (.inl (x6, x5))))) ((0 : Int32), (0 : Int32))) (fun (z1 : Unit) => some ((0 : Int32)))
set_option maxRecDepth 100000 in
theorem cn_X2_nthOther {G : gG} {b : Nat} {a1 : Int32} {a2 : Int32} {a3 : Int32} {σ : gS} : CN vC G b 1 yX2_nthOther cX2_nthOther 6 (some .int) (kPI σ) [.ref (b + 21), .int a1, .int a2, .int a3] σ (pX2_nthOther a1 a2 a3 σ) := by
  refine cn_of (own := RX2) rfl rfl (Nat.le_of_ble_eq_true rfl) ?_
  show GF vC G b (1, 0, 0) RX2 cX2_nthOther 6 (some .int) (kPI σ) 0 [(0, .ref (b + 21)), (1, .int a1), (2, .int a2), (3, .int a3)] [] σ (pX2_nthOther a1 a2 a3 σ)
  unfold pX2_nthOther
  refine g_iconst (q := 1) dX2_nthOther_0 kI_0 rfl ?_
  refine g_istore (lr := [(0, .ref (b + 21)), (1, .int a1), (2, .int a2), (3, .int a3)]) (q := 3) dX2_nthOther_1 (by decide) rfl rfl ?_
  refine g_iconst (q := 4) dX2_nthOther_3 kI_0 rfl ?_
  refine g_istore (lr := [(4, .int (0 : Int32)), (0, .ref (b + 21)), (1, .int a1), (2, .int a2), (3, .int a3)]) (q := 6) dX2_nthOther_4 (by decide) rfl rfl ?_
  refine g_bindS (S := Unit) (hd := 45) (lvf := fun z1 => []) (stf := fun z1 => []) (σf := fun z1 => σ) ?_ (fun z1 => ?_)
  · refine g_loop (S := (Int32 × Int32)) (lvf := fun z2 => [(5, .int z2.1), (4, .int z2.2), (0, .ref (b + 21)), (1, .int a1), (2, .int a2), (3, .int a3)]) (σf := fun z2 => σ) (fun z2 => ?_) ((0 : Int32), (0 : Int32))
    refine g_iload (q := 8) 0 dX2_nthOther_6 rfl rfl ?_
    refine g_aload_n (q := 9) 2 dX2_nthOther_8 rfl rfl rfl ?_
    refine g_getI (q := 12) fX2_size dX2_nthOther_9 ww249 rfl ?_
    refine g_icmp_ge (t := 45) (q := 15) dX2_nthOther_12 (by decide) rfl ?_ ?_
    · refine g_sub (lr := []) [] rfl ?_
      exact (g_leave (g_thereS (() : Unit)))
    · refine g_iload (q := 17) 0 dX2_nthOther_15 rfl rfl ?_
      refine g_iload_n (q := 18) 4 dX2_nthOther_17 rfl rfl rfl ?_
      refine g_icmp_eq (t := 39) (q := 21) dX2_nthOther_18 (by decide) rfl ?_ ?_
      · refine g_iinc (lr := [(4, .int z2.2), (0, .ref (b + 21)), (1, .int a1), (2, .int a2), (3, .int a3)]) (q := 42) 0 dX2_nthOther_39 rfl kI_1 (by decide) rfl rfl (fun x3 => ?_)
        refine g_goto (t := 6) dX2_nthOther_42 (by decide) ?_
        exact (g_again ((x3, z2.2) : (Int32 × Int32)))
      · refine g_iload (q := 23) 0 dX2_nthOther_21 rfl rfl ?_
        refine g_iload_n (q := 24) 5 dX2_nthOther_23 rfl rfl rfl ?_
        refine g_icmp_eq (t := 39) (q := 27) dX2_nthOther_24 (by decide) rfl ?_ ?_
        · refine g_iinc (lr := [(4, .int z2.2), (0, .ref (b + 21)), (1, .int a1), (2, .int a2), (3, .int a3)]) (q := 42) 0 dX2_nthOther_39 rfl kI_1 (by decide) rfl rfl (fun x4 => ?_)
          refine g_goto (t := 6) dX2_nthOther_42 (by decide) ?_
          exact (g_again ((x4, z2.2) : (Int32 × Int32)))
        · refine g_iload (q := 29) 1 dX2_nthOther_27 rfl rfl ?_
          refine g_iload_n (q := 30) 3 dX2_nthOther_29 rfl rfl rfl ?_
          refine g_icmp_ne (t := 36) (q := 33) dX2_nthOther_30 (by decide) rfl ?_ ?_
          · refine g_iload (q := 35) 0 dX2_nthOther_33 rfl rfl ?_
            exact (g_leave (g_right (g_iretP dX2_nthOther_35)))
          · refine g_iinc (lr := [(5, .int z2.1), (0, .ref (b + 21)), (1, .int a1), (2, .int a2), (3, .int a3)]) (q := 39) 1 dX2_nthOther_36 rfl kI_1 (by decide) rfl rfl (fun x5 => ?_)
            refine g_iinc (lr := [(4, .int x5), (0, .ref (b + 21)), (1, .int a1), (2, .int a2), (3, .int a3)]) (q := 42) 1 dX2_nthOther_39 rfl kI_1 (by decide) rfl rfl (fun x6 => ?_)
            refine g_goto (t := 6) dX2_nthOther_42 (by decide) ?_
            exact (g_again ((x6, x5) : (Int32 × Int32)))
  · refine g_iconst (q := 46) dX2_nthOther_45 kI_0 rfl ?_
    exact (g_iretP dX2_nthOther_46)
noncomputable def pX2_firstGiven (a1 : Int32) (a2 : Int32) (σ : gS) : Option (Int32) := bn1 (pX2_lot ((σ.1 21 1) - (1 : Int32)) a2 ((2 : Int32) * a1)) (fun v1 => bn1 (pX2_nthOther v1 a1 a1 σ) (fun v3 => some (v3)))
set_option maxRecDepth 100000 in
theorem cn_X2_firstGiven {G : gG} {b : Nat} {a1 : Int32} {a2 : Int32} {σ : gS} : CN vC G b 3 yX2_firstGiven cX2_firstGiven 3 (some .int) (kPI σ) [.ref (b + 21), .int a1, .int a2] σ (pX2_firstGiven a1 a2 σ) := by
  refine cn_of (own := RX2) rfl rfl (Nat.le_of_ble_eq_true rfl) ?_
  show GF vC G b (3, 0, 0) RX2 cX2_firstGiven 3 (some .int) (kPI σ) 0 [(0, .ref (b + 21)), (1, .int a1), (2, .int a2)] [] σ (pX2_firstGiven a1 a2 σ)
  unfold pX2_firstGiven
  refine g_aload_n (q := 1) 0 dX2_firstGiven_0 rfl rfl rfl ?_
  refine g_aload_n (q := 2) 0 dX2_firstGiven_1 rfl rfl rfl ?_
  refine g_getI (q := 5) fX2_size dX2_firstGiven_2 ww249 rfl ?_
  refine g_iconst (q := 6) dX2_firstGiven_5 kI_1 rfl ?_
  refine g_isub (q := 7) dX2_firstGiven_6 rfl ?_
  refine g_iload_n (q := 8) 2 dX2_firstGiven_7 rfl rfl rfl ?_
  refine g_iconst (q := 9) dX2_firstGiven_8 kI_2 rfl ?_
  refine g_iload_n (q := 10) 1 dX2_firstGiven_9 rfl rfl rfl ?_
  refine g_imul (q := 11) dX2_firstGiven_10 rfl ?_
  refine g_callT (As := [.int ((σ.1 21 1) - (1 : Int32)), .int a2, .int ((2 : Int32) * a1)]) (st := [.ref (b + 21)]) (cn_X2_lot) cwX2_30 rfl dX2_firstGiven_11 rfl (Nat.le_of_ble_eq_true rfl) (by decide) (kk_PI (fun v1 => ?_))
  refine g_iload_n (q := 15) 1 dX2_firstGiven_14 rfl rfl rfl ?_
  refine g_iload_n (q := 16) 1 dX2_firstGiven_15 rfl rfl rfl ?_
  refine g_callO (As := [.int v1, .int a1, .int a1]) (st := []) (cn_X2_nthOther) shX2 rfl cwX2_38 rfl dX2_firstGiven_16 rfl (Nat.le_of_ble_eq_true rfl) (by decide) (kk_PI (fun v3 => ?_))
  exact (g_iretP dX2_firstGiven_19)
noncomputable def pX2_secondGiven (a1 : Int32) (a2 : Int32) (a3 : Int32) (σ : gS) : Option (Int32) := bn1 (pX2_lot ((σ.1 21 1) - (2 : Int32)) a3 (((2 : Int32) * a1) + (1 : Int32))) (fun v1 => bn1 (pX2_nthOther v1 a1 a2 σ) (fun v3 => some (v3)))
set_option maxRecDepth 100000 in
theorem cn_X2_secondGiven {G : gG} {b : Nat} {a1 : Int32} {a2 : Int32} {a3 : Int32} {σ : gS} : CN vC G b 3 yX2_secondGiven cX2_secondGiven 4 (some .int) (kPI σ) [.ref (b + 21), .int a1, .int a2, .int a3] σ (pX2_secondGiven a1 a2 a3 σ) := by
  refine cn_of (own := RX2) rfl rfl (Nat.le_of_ble_eq_true rfl) ?_
  show GF vC G b (3, 0, 0) RX2 cX2_secondGiven 4 (some .int) (kPI σ) 0 [(0, .ref (b + 21)), (1, .int a1), (2, .int a2), (3, .int a3)] [] σ (pX2_secondGiven a1 a2 a3 σ)
  unfold pX2_secondGiven
  refine g_aload_n (q := 1) 0 dX2_secondGiven_0 rfl rfl rfl ?_
  refine g_aload_n (q := 2) 0 dX2_secondGiven_1 rfl rfl rfl ?_
  refine g_getI (q := 5) fX2_size dX2_secondGiven_2 ww249 rfl ?_
  refine g_iconst (q := 6) dX2_secondGiven_5 kI_2 rfl ?_
  refine g_isub (q := 7) dX2_secondGiven_6 rfl ?_
  refine g_iload_n (q := 8) 3 dX2_secondGiven_7 rfl rfl rfl ?_
  refine g_iconst (q := 9) dX2_secondGiven_8 kI_2 rfl ?_
  refine g_iload_n (q := 10) 1 dX2_secondGiven_9 rfl rfl rfl ?_
  refine g_imul (q := 11) dX2_secondGiven_10 rfl ?_
  refine g_iconst (q := 12) dX2_secondGiven_11 kI_1 rfl ?_
  refine g_iadd (q := 13) dX2_secondGiven_12 rfl ?_
  refine g_callT (As := [.int ((σ.1 21 1) - (2 : Int32)), .int a3, .int (((2 : Int32) * a1) + (1 : Int32))]) (st := [.ref (b + 21)]) (cn_X2_lot) cwX2_30 rfl dX2_secondGiven_13 rfl (Nat.le_of_ble_eq_true rfl) (by decide) (kk_PI (fun v1 => ?_))
  refine g_iload_n (q := 17) 1 dX2_secondGiven_16 rfl rfl rfl ?_
  refine g_iload_n (q := 18) 2 dX2_secondGiven_17 rfl rfl rfl ?_
  refine g_callO (As := [.int v1, .int a1, .int a2]) (st := []) (cn_X2_nthOther) shX2 rfl cwX2_38 rfl dX2_secondGiven_18 rfl (Nat.le_of_ble_eq_true rfl) (by decide) (kk_PI (fun v3 => ?_))
  exact (g_iretP dX2_secondGiven_21)
noncomputable def pX10_trial (a1 : Int32) (a2 : Int32) (a3 : Int32) (σ : gS) : Option (Int32 × gS) := bn1 (pX10_isLaw a1 σ) (fun v1 => if v1 = 0 then some ((-1 : Int32), σ) else bn1 (pX10_isBook a2 σ) (fun v3 => if v3 = 0 then some ((-1 : Int32), σ) else if (3 : Int32) ≤ (σ.1 21 1) then bn1 (pX4_survey σ) (fun s6 => bn1 (lpP (fun (z8 : (Int32 × Int32 × gS)) => if (z8.2.2.1 21 1) ≤ z8.1 then some (.inr (z8.2.1, z8.2.2)) else bn1 (pX2_firstGiven z8.1 a3 z8.2.2) (fun v9 => bn1 (pX2_secondGiven z8.1 v9 a3 z8.2.2) (fun v11 => bn2 (pX4_sixthsOf a1 a2 z8.1 v9 v11 z8.2.2) (fun v13 s14 => lt' (z8.2.1 + v13) (fun x15 => lt' (z8.1 + (1 : Int32)) (fun x16 => some (.inl (x16, x15, s14)))))))) ((0 : Int32), (0 : Int32), s6)) (fun (z7 : (Int32 × gS)) => some (z7.1, z7.2))) else some ((-1 : Int32), σ)))
set_option maxRecDepth 100000 in
theorem cn_X10_trial {G : gG} {b : Nat} {a1 : Int32} {a2 : Int32} {a3 : Int32} {σ : gS} : CN vC G b 7 yX10_trial cX10_trial 8 (some .int) kI [.ref (b + 0), .int a1, .int a2, .int a3] σ (pX10_trial a1 a2 a3 σ) := by
  refine cn_of (own := RX10) rfl rfl (Nat.le_of_ble_eq_true rfl) ?_
  show GF vC G b (7, 0, 0) RX10 cX10_trial 8 (some .int) kI 0 [(0, .ref (b + 0)), (1, .int a1), (2, .int a2), (3, .int a3)] [] σ (pX10_trial a1 a2 a3 σ)
  unfold pX10_trial
  refine g_aload_n (q := 1) 0 dX10_trial_0 rfl rfl rfl ?_
  refine g_iload_n (q := 2) 1 dX10_trial_1 rfl rfl rfl ?_
  refine g_callO (As := [.int a1]) (st := []) (cn_X10_isLaw) shX10 rfl cwX10_168 rfl dX10_trial_2 rfl (Nat.le_of_ble_eq_true rfl) (by decide) (kk_PI (fun v1 => ?_))
  refine g_if_eq (t := 27) (q := 8) dX10_trial_5 (by decide) rfl ?_ ?_
  · refine g_iconst (q := 28) dX10_trial_27 kI_m1 rfl ?_
    exact (g_iret dX10_trial_28)
  · refine g_aload_n (q := 9) 0 dX10_trial_8 rfl rfl rfl ?_
    refine g_iload_n (q := 10) 2 dX10_trial_9 rfl rfl rfl ?_
    refine g_callO (As := [.int a2]) (st := []) (cn_X10_isBook) shX10 rfl cwX10_144 rfl dX10_trial_10 rfl (Nat.le_of_ble_eq_true rfl) (by decide) (kk_PI (fun v3 => ?_))
    refine g_if_eq (t := 27) (q := 16) dX10_trial_13 (by decide) rfl ?_ ?_
    · refine g_iconst (q := 28) dX10_trial_27 kI_m1 rfl ?_
      exact (g_iret dX10_trial_28)
    · refine g_aload_n (q := 17) 0 dX10_trial_16 rfl rfl rfl ?_
      refine g_getA (q := 20) fX10_people dX10_trial_17 ww379 rfl ?_
      refine g_getI (q := 23) fX2_size dX10_trial_20 ww251 rfl ?_
      refine g_iconst (q := 24) dX10_trial_23 kI_3 rfl ?_
      refine g_icmp_ge (t := 29) (q := 27) dX10_trial_24 (by decide) rfl ?_ ?_
      · refine g_aload_n (q := 30) 0 dX10_trial_29 rfl rfl rfl ?_
        refine g_getA (q := 33) fX10_sky dX10_trial_30 ww380 rfl ?_
        refine g_callO (As := []) (st := []) (cn_X4_survey) shX4 rfl cwX10_153 rfl dX10_trial_33 rfl (Nat.le_of_ble_eq_true rfl) (by decide) (kk_V (fun s6 => ?_))
        refine g_iconst (q := 37) dX10_trial_36 kI_0 rfl ?_
        refine g_istore (lr := [(0, .ref (b + 0)), (1, .int a1), (2, .int a2), (3, .int a3)]) (q := 39) dX10_trial_37 (by decide) rfl rfl ?_
        refine g_iconst (q := 40) dX10_trial_39 kI_0 rfl ?_
        refine g_istore (lr := [(4, .int (0 : Int32)), (0, .ref (b + 0)), (1, .int a1), (2, .int a2), (3, .int a3)]) (q := 42) dX10_trial_40 (by decide) rfl rfl ?_
        refine g_bind (S := (Int32 × gS)) (hd := 106) (lvf := fun z7 => [(4, .int z7.1)]) (stf := fun z7 => []) (σf := fun z7 => z7.2) ?_ (fun z7 => ?_)
        · refine g_loop (S := (Int32 × Int32 × gS)) (lvf := fun z8 => [(5, .int z8.1), (4, .int z8.2.1), (0, .ref (b + 0)), (1, .int a1), (2, .int a2), (3, .int a3)]) (σf := fun z8 => z8.2.2) (fun z8 => ?_) ((0 : Int32), (0 : Int32), s6)
          refine g_iload (q := 44) 0 dX10_trial_42 rfl rfl ?_
          refine g_aload_n (q := 45) 2 dX10_trial_44 rfl rfl rfl ?_
          refine g_getA (q := 48) fX10_people dX10_trial_45 ww379 rfl ?_
          refine g_getI (q := 51) fX2_size dX10_trial_48 ww251 rfl ?_
          refine g_icmp_ge (t := 106) (q := 54) dX10_trial_51 (by decide) rfl ?_ ?_
          · refine g_sub (lr := [(4, .int z8.2.1)]) [1] rfl ?_
            exact (g_leave (g_there ((z8.2.1, z8.2.2) : (Int32 × gS))))
          · refine g_aload_n (q := 55) 2 dX10_trial_54 rfl rfl rfl ?_
            refine g_getA (q := 58) fX10_people dX10_trial_55 ww379 rfl ?_
            refine g_iload (q := 60) 0 dX10_trial_58 rfl rfl ?_
            refine g_iload_n (q := 61) 5 dX10_trial_60 rfl rfl rfl ?_
            refine g_callO (As := [.int z8.1, .int a3]) (st := []) (cn_X2_firstGiven) shX2 rfl cwX10_183 rfl dX10_trial_61 rfl (Nat.le_of_ble_eq_true rfl) (by decide) (kk_PI (fun v9 => ?_))
            refine g_istore (lr := [(5, .int z8.1), (4, .int z8.2.1), (0, .ref (b + 0)), (1, .int a1), (2, .int a2), (3, .int a3)]) (q := 66) dX10_trial_64 (by decide) rfl rfl ?_
            refine g_aload_n (q := 67) 3 dX10_trial_66 rfl rfl rfl ?_
            refine g_getA (q := 70) fX10_people dX10_trial_67 ww379 rfl ?_
            refine g_iload (q := 72) 1 dX10_trial_70 rfl rfl ?_
            refine g_iload (q := 74) 0 dX10_trial_72 rfl rfl ?_
            refine g_iload_n (q := 75) 6 dX10_trial_74 rfl rfl rfl ?_
            refine g_callO (As := [.int z8.1, .int v9, .int a3]) (st := []) (cn_X2_secondGiven) shX2 rfl cwX10_186 rfl dX10_trial_75 rfl (Nat.le_of_ble_eq_true rfl) (by decide) (kk_PI (fun v11 => ?_))
            refine g_istore (lr := [(6, .int v9), (5, .int z8.1), (4, .int z8.2.1), (0, .ref (b + 0)), (1, .int a1), (2, .int a2), (3, .int a3)]) (q := 80) dX10_trial_78 (by decide) rfl rfl ?_
            refine g_iload (q := 82) 3 dX10_trial_80 rfl rfl ?_
            refine g_aload_n (q := 83) 4 dX10_trial_82 rfl rfl rfl ?_
            refine g_getA (q := 86) fX10_sky dX10_trial_83 ww380 rfl ?_
            refine g_iload_n (q := 87) 5 dX10_trial_86 rfl rfl rfl ?_
            refine g_iload_n (q := 88) 6 dX10_trial_87 rfl rfl rfl ?_
            refine g_iload (q := 90) 2 dX10_trial_88 rfl rfl ?_
            refine g_iload (q := 92) 1 dX10_trial_90 rfl rfl ?_
            refine g_iload (q := 94) 0 dX10_trial_92 rfl rfl ?_
            refine g_callO (As := [.int a1, .int a2, .int z8.1, .int v9, .int v11]) (st := [.int z8.2.1]) (cn_X4_sixthsOf) shX4 rfl cwX10_179 rfl dX10_trial_94 rfl (Nat.le_of_ble_eq_true rfl) (by decide) (kk_I (fun v13 s14 => ?_))
            refine g_iadd (q := 98) dX10_trial_97 rfl ?_
            refine g_leti (fun x15 => ?_)
            refine g_istore (lr := [(7, .int v11), (6, .int v9), (5, .int z8.1), (0, .ref (b + 0)), (1, .int a1), (2, .int a2), (3, .int a3)]) (q := 100) dX10_trial_98 (by decide) rfl rfl ?_
            refine g_iinc (lr := [(4, .int x15), (7, .int v11), (6, .int v9), (0, .ref (b + 0)), (1, .int a1), (2, .int a2), (3, .int a3)]) (q := 103) 3 dX10_trial_100 rfl kI_1 (by decide) rfl rfl (fun x16 => ?_)
            refine g_goto (t := 42) dX10_trial_103 (by decide) ?_
            refine g_sub (lr := [(5, .int x16), (4, .int x15), (0, .ref (b + 0)), (1, .int a1), (2, .int a2), (3, .int a3)]) [0, 1, 4, 5, 6, 7] rfl ?_
            exact (g_again ((x16, x15, s14) : (Int32 × Int32 × gS)))
        · refine g_iload (q := 108) 0 dX10_trial_106 rfl rfl ?_
          exact (g_iret dX10_trial_108)
      · refine g_iconst (q := 28) dX10_trial_27 kI_m1 rfl ?_
        exact (g_iret dX10_trial_28)
noncomputable def pX10_given (a1 : Int32) (a2 : Int32) (a3 : Int32) (σ : gS) : Option (Int32) := bn1 (pX2_has a1 σ) (fun v1 => if v1 = 0 then some ((-1 : Int32)) else if (σ.1 21 1) < (3 : Int32) then some ((-1 : Int32)) else bn1 (pX10_inRange a3 (0 : Int32) (1 : Int32)) (fun v3 => if v3 = 0 then some ((-1 : Int32)) else bn1 (pX2_firstGiven a1 a2 σ) (fun v5 => if a3 = 0 then some (v5) else bn1 (pX2_secondGiven a1 v5 a2 σ) (fun v7 => some (v7)))))
set_option maxRecDepth 100000 in
theorem cn_X10_given {G : gG} {b : Nat} {a1 : Int32} {a2 : Int32} {a3 : Int32} {σ : gS} : CN vC G b 4 yX10_given cX10_given 5 (some .int) (kPI σ) [.ref (b + 0), .int a1, .int a2, .int a3] σ (pX10_given a1 a2 a3 σ) := by
  refine cn_of (own := RX10) rfl rfl (Nat.le_of_ble_eq_true rfl) ?_
  show GF vC G b (4, 0, 0) RX10 cX10_given 5 (some .int) (kPI σ) 0 [(0, .ref (b + 0)), (1, .int a1), (2, .int a2), (3, .int a3)] [] σ (pX10_given a1 a2 a3 σ)
  unfold pX10_given
  refine g_aload_n (q := 1) 0 dX10_given_0 rfl rfl rfl ?_
  refine g_getA (q := 4) fX10_people dX10_given_1 ww379 rfl ?_
  refine g_iload_n (q := 5) 1 dX10_given_4 rfl rfl rfl ?_
  refine g_callO (As := [.int a1]) (st := []) (cn_X2_has) shX2 rfl cwX10_106 rfl dX10_given_5 rfl (Nat.le_of_ble_eq_true rfl) (by decide) (kk_PI (fun v1 => ?_))
  refine g_if_eq (t := 31) (q := 11) dX10_given_8 (by decide) rfl ?_ ?_
  · refine g_iconst (q := 32) dX10_given_31 kI_m1 rfl ?_
    exact (g_iretP dX10_given_32)
  · refine g_aload_n (q := 12) 0 dX10_given_11 rfl rfl rfl ?_
    refine g_getA (q := 15) fX10_people dX10_given_12 ww379 rfl ?_
    refine g_getI (q := 18) fX2_size dX10_given_15 ww251 rfl ?_
    refine g_iconst (q := 19) dX10_given_18 kI_3 rfl ?_
    refine g_icmp_lt (t := 31) (q := 22) dX10_given_19 (by decide) rfl ?_ ?_
    · refine g_iconst (q := 32) dX10_given_31 kI_m1 rfl ?_
      exact (g_iretP dX10_given_32)
    · refine g_iload_n (q := 23) 3 dX10_given_22 rfl rfl rfl ?_
      refine g_iconst (q := 24) dX10_given_23 kI_0 rfl ?_
      refine g_iconst (q := 25) dX10_given_24 kI_1 rfl ?_
      refine g_callT (As := [.int a3, .int (0 : Int32), .int (1 : Int32)]) (st := []) (cn_X10_inRange) cwX10_88 rfl dX10_given_25 rfl (Nat.le_of_ble_eq_true rfl) (by decide) (kk_PI (fun v3 => ?_))
      refine g_if_ne (t := 33) (q := 31) dX10_given_28 (by decide) rfl ?_ ?_
      · refine g_iconst (q := 32) dX10_given_31 kI_m1 rfl ?_
        exact (g_iretP dX10_given_32)
      · refine g_aload_n (q := 34) 0 dX10_given_33 rfl rfl rfl ?_
        refine g_getA (q := 37) fX10_people dX10_given_34 ww379 rfl ?_
        refine g_iload_n (q := 38) 1 dX10_given_37 rfl rfl rfl ?_
        refine g_iload_n (q := 39) 2 dX10_given_38 rfl rfl rfl ?_
        refine g_callO (As := [.int a1, .int a2]) (st := []) (cn_X2_firstGiven) shX2 rfl cwX10_183 rfl dX10_given_39 rfl (Nat.le_of_ble_eq_true rfl) (by decide) (kk_PI (fun v5 => ?_))
        refine g_istore (lr := [(0, .ref (b + 0)), (1, .int a1), (2, .int a2), (3, .int a3)]) (q := 44) dX10_given_42 (by decide) rfl rfl ?_
        refine g_iload_n (q := 45) 4 dX10_given_44 rfl rfl rfl ?_
        refine g_if_ne (t := 53) (q := 48) dX10_given_45 (by decide) rfl ?_ ?_
        · refine g_iload (q := 50) 0 dX10_given_48 rfl rfl ?_
          refine g_goto (t := 64) dX10_given_50 (by decide) ?_
          exact (g_iretP dX10_given_64)
        · refine g_aload_n (q := 54) 1 dX10_given_53 rfl rfl rfl ?_
          refine g_getA (q := 57) fX10_people dX10_given_54 ww379 rfl ?_
          refine g_iload_n (q := 58) 2 dX10_given_57 rfl rfl rfl ?_
          refine g_iload (q := 60) 0 dX10_given_58 rfl rfl ?_
          refine g_iload_n (q := 61) 3 dX10_given_60 rfl rfl rfl ?_
          refine g_callO (As := [.int a1, .int v5, .int a2]) (st := []) (cn_X2_secondGiven) shX2 rfl cwX10_186 rfl dX10_given_61 rfl (Nat.le_of_ble_eq_true rfl) (by decide) (kk_PI (fun v7 => ?_))
          exact (g_iretP dX10_given_64)
