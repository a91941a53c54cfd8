noncomputable def pX11_unit (σ : gS) : Option (gS) := bn1 (pX11_is (2 : Int32) σ) (fun v1 => if v1 = 0 then bn1 (pX11_is (36 : Int32) σ) (fun v3 => if v3 = 0 then bnS (if (σ.1 0 13) = 0 then gx (σ.1 0 11) 403 (if (σ.1 3 (σ.1 0 11).toNatClampNeg) < (37 : Int32) then some (.inl σ) else gx (σ.1 0 11) 403 (if (42 : Int32) < (σ.1 3 (σ.1 0 11).toNatClampNeg) then some (.inl σ) else gx (σ.1 0 11) 403 (bn1 (pX11_emit (1 : Int32) (((8 : Int32) + (σ.1 3 (σ.1 0 11).toNatClampNeg)) - (37 : Int32)) σ) (fun s7 => bn1 (pX11_goesOn s7) (fun s9 => some (.inr s9)))))) else some (.inl σ)) (fun (z5 : gS) => bnS (if (z5.1 0 13) = 0 then gx (z5.1 0 11) 403 (if (z5.1 3 (z5.1 0 11).toNatClampNeg) < (26 : Int32) then some (.inl z5) else gx (z5.1 0 11) 403 (if (32 : Int32) < (z5.1 3 (z5.1 0 11).toNatClampNeg) then some (.inl z5) else gx (z5.1 0 11) 403 (bn1 (pX11_emit (1 : Int32) (((14 : Int32) + (z5.1 3 (z5.1 0 11).toNatClampNeg)) - (26 : Int32)) z5) (fun s12 => bn1 (pX11_goesOn s12) (fun s14 => some (.inr s14)))))) else some (.inl z5)) (fun (z10 : gS) => bn1 (pX11_fail (1 : Int32) z10) (fun s16 => some s16))) else bn1 (pX11_goesOn σ) (fun s18 => bn1 (pX11_is (2 : Int32) s18) (fun v19 => bn1 (if v19 = 0 then some s18 else gx (s18.1 0 11) 403 (if (s18.1 5 (s18.1 0 11).toNatClampNeg) ≤ (7 : Int32) then some s18 else bn1 (pX11_wrong (5 : Int32) (s18.1 0 11) s18) (fun s23 => some s23))) (fun (z21 : gS) => bn1 (pX11_is (2 : Int32) z21) (fun v24 => bnS (if v24 = 0 then some (.inl z21) else gx (z21.1 0 11) 403 (if (8 : Int32) ≤ (z21.1 5 (z21.1 0 11).toNatClampNeg) then some (.inl z21) else gx (z21.1 0 11) 403 (bn1 (pX11_emit (1 : Int32) (z21.1 5 (z21.1 0 11).toNatClampNeg) z21) (fun s28 => bn1 (pX11_must (2 : Int32) s28) (fun s30 => some (.inr s30)))))) (fun (z26 : gS) => bn1 (pX11_emit (1 : Int32) (0 : Int32) z26) (fun s32 => bn1 (pX11_must (2 : Int32) s32) (fun s34 => some s34)))))))) else gx (σ.1 0 11) 403 (bn1 (pX11_emit (0 : Int32) (σ.1 5 (σ.1 0 11).toNatClampNeg) σ) (fun s36 => bn1 (pX11_goesOn s36) (fun s38 => some s38))))
set_option maxRecDepth 100000 in
theorem cn_X11_unit {G : gG} {b : Nat}  {σ : gS} : CN vR G b 4 yX11_unit cX11_unit 1 none kV [.ref (b + 0)] σ (pX11_unit σ) := by
  refine cn_of (own := RX11) rfl rfl (Nat.le_of_ble_eq_true rfl) ?_
  show GF vR G b (4, 0, 0) RX11 cX11_unit 1 none kV 0 [(0, .ref (b + 0))] [] σ (pX11_unit σ)
  unfold pX11_unit
  refine g_aload_n (q := 1) 0 dX11_unit_0 rfl rfl rfl ?_
  refine g_iconst (q := 2) dX11_unit_1 kI_2 rfl ?_
  refine g_callO (As := [.int (2 : Int32)]) (st := []) (cn_X11_is) shX11 rfl cwX11_218 rfl dX11_unit_2 rfl (Nat.le_of_ble_eq_true rfl) (by decide) (kk_PI (fun v1 => ?_))
  refine g_if_eq (t := 29) (q := 8) dX11_unit_5 (by decide) rfl ?_ ?_
  · refine g_aload_n (q := 30) 0 dX11_unit_29 rfl rfl rfl ?_
    refine g_bipush (q := 32) dX11_unit_30 kB_36 rfl ?_
    refine g_callO (As := [.int (36 : Int32)]) (st := []) (cn_X11_is) shX11 rfl cwX11_218 rfl dX11_unit_32 rfl (Nat.le_of_ble_eq_true rfl) (by decide) (kk_PI (fun v3 => ?_))
    refine g_if_eq (t := 121) (q := 38) dX11_unit_35 (by decide) rfl ?_ ?_
    · refine g_aload_n (q := 122) 0 dX11_unit_121 rfl rfl rfl ?_
      refine g_getI (q := 125) fX11_fault dX11_unit_122 ww1055 rfl ?_
      refine g_bindS (S := gS) (hd := 183) (lvf := fun z5 => [(0, .ref (b + 0))]) (stf := fun z5 => []) (σf := fun z5 => z5) ?_ (fun z5 => ?_)
      · refine g_if_ne (t := 183) (q := 128) dX11_unit_125 (by decide) rfl ?_ ?_
        · refine g_aload_n (q := 129) 0 dX11_unit_128 rfl rfl rfl ?_
          refine g_getA (q := 132) fX11_tKind dX11_unit_129 ww1047 rfl ?_
          refine g_aload_n (q := 133) 0 dX11_unit_132 rfl rfl rfl ?_
          refine g_getI (q := 136) fX11_t dX11_unit_133 ww1053 rfl ?_
          refine g_iald (q := 137) (aX11_tKind) dX11_unit_136 rfl ?_
          refine g_bipush (q := 139) dX11_unit_137 kB_37 rfl ?_
          refine g_icmp_lt (t := 183) (q := 142) dX11_unit_139 (by decide) rfl ?_ ?_
          · exact (g_thereS (σ : gS))
          · refine g_aload_n (q := 143) 0 dX11_unit_142 rfl rfl rfl ?_
            refine g_getA (q := 146) fX11_tKind dX11_unit_143 ww1047 rfl ?_
            refine g_aload_n (q := 147) 0 dX11_unit_146 rfl rfl rfl ?_
            refine g_getI (q := 150) fX11_t dX11_unit_147 ww1053 rfl ?_
            refine g_iald (q := 151) (aX11_tKind) dX11_unit_150 rfl ?_
            refine g_bipush (q := 153) dX11_unit_151 kB_42 rfl ?_
            refine g_icmp_gt (t := 183) (q := 156) dX11_unit_153 (by decide) rfl ?_ ?_
            · exact (g_thereS (σ : gS))
            · refine g_aload_n (q := 157) 0 dX11_unit_156 rfl rfl rfl ?_
              refine g_iconst (q := 158) dX11_unit_157 kI_1 rfl ?_
              refine g_bipush (q := 160) dX11_unit_158 kB_8 rfl ?_
              refine g_aload_n (q := 161) 0 dX11_unit_160 rfl rfl rfl ?_
              refine g_getA (q := 164) fX11_tKind dX11_unit_161 ww1047 rfl ?_
              refine g_aload_n (q := 165) 0 dX11_unit_164 rfl rfl rfl ?_
              refine g_getI (q := 168) fX11_t dX11_unit_165 ww1053 rfl ?_
              refine g_iald (q := 169) (aX11_tKind) dX11_unit_168 rfl ?_
              refine g_iadd (q := 170) dX11_unit_169 rfl ?_
              refine g_bipush (q := 172) dX11_unit_170 kB_37 rfl ?_
              refine g_isub (q := 173) dX11_unit_172 rfl ?_
              refine g_callO (As := [.int (1 : Int32), .int (((8 : Int32) + (σ.1 3 (σ.1 0 11).toNatClampNeg)) - (37 : Int32))]) (st := []) (cn_X11_emit) shX11 rfl cwX11_294 rfl dX11_unit_173 rfl (Nat.le_of_ble_eq_true rfl) (by decide) (kk_V (fun s7 => ?_))
              refine g_aload_n (q := 177) 0 dX11_unit_176 rfl rfl rfl ?_
              refine g_callO (As := []) (st := []) (cn_X11_goesOn) shX11 rfl cwX11_221 rfl dX11_unit_177 rfl (Nat.le_of_ble_eq_true rfl) (by decide) (kk_V (fun s9 => ?_))
              refine g_goto (t := 250) dX11_unit_180 (by decide) ?_
              exact (g_right (g_vret dX11_unit_250))
        · exact (g_thereS (σ : gS))
      · refine g_aload_n (q := 184) 0 dX11_unit_183 rfl rfl rfl ?_
        refine g_getI (q := 187) fX11_fault dX11_unit_184 ww1055 rfl ?_
        refine g_bindS (S := gS) (hd := 245) (lvf := fun z10 => [(0, .ref (b + 0))]) (stf := fun z10 => []) (σf := fun z10 => z10) ?_ (fun z10 => ?_)
        · refine g_if_ne (t := 245) (q := 190) dX11_unit_187 (by decide) rfl ?_ ?_
          · refine g_aload_n (q := 191) 0 dX11_unit_190 rfl rfl rfl ?_
            refine g_getA (q := 194) fX11_tKind dX11_unit_191 ww1047 rfl ?_
            refine g_aload_n (q := 195) 0 dX11_unit_194 rfl rfl rfl ?_
            refine g_getI (q := 198) fX11_t dX11_unit_195 ww1053 rfl ?_
            refine g_iald (q := 199) (aX11_tKind) dX11_unit_198 rfl ?_
            refine g_bipush (q := 201) dX11_unit_199 kB_26 rfl ?_
            refine g_icmp_lt (t := 245) (q := 204) dX11_unit_201 (by decide) rfl ?_ ?_
            · exact (g_thereS (z5 : gS))
            · refine g_aload_n (q := 205) 0 dX11_unit_204 rfl rfl rfl ?_
              refine g_getA (q := 208) fX11_tKind dX11_unit_205 ww1047 rfl ?_
              refine g_aload_n (q := 209) 0 dX11_unit_208 rfl rfl rfl ?_
              refine g_getI (q := 212) fX11_t dX11_unit_209 ww1053 rfl ?_
              refine g_iald (q := 213) (aX11_tKind) dX11_unit_212 rfl ?_
              refine g_bipush (q := 215) dX11_unit_213 kB_32 rfl ?_
              refine g_icmp_gt (t := 245) (q := 218) dX11_unit_215 (by decide) rfl ?_ ?_
              · exact (g_thereS (z5 : gS))
              · refine g_aload_n (q := 219) 0 dX11_unit_218 rfl rfl rfl ?_
                refine g_iconst (q := 220) dX11_unit_219 kI_1 rfl ?_
                refine g_bipush (q := 222) dX11_unit_220 kB_14 rfl ?_
                refine g_aload_n (q := 223) 0 dX11_unit_222 rfl rfl rfl ?_
                refine g_getA (q := 226) fX11_tKind dX11_unit_223 ww1047 rfl ?_
                refine g_aload_n (q := 227) 0 dX11_unit_226 rfl rfl rfl ?_
                refine g_getI (q := 230) fX11_t dX11_unit_227 ww1053 rfl ?_
                refine g_iald (q := 231) (aX11_tKind) dX11_unit_230 rfl ?_
                refine g_iadd (q := 232) dX11_unit_231 rfl ?_
                refine g_bipush (q := 234) dX11_unit_232 kB_26 rfl ?_
                refine g_isub (q := 235) dX11_unit_234 rfl ?_
                refine g_callO (As := [.int (1 : Int32), .int (((14 : Int32) + (z5.1 3 (z5.1 0 11).toNatClampNeg)) - (26 : Int32))]) (st := []) (cn_X11_emit) shX11 rfl cwX11_294 rfl dX11_unit_235 rfl (Nat.le_of_ble_eq_true rfl) (by decide) (kk_V (fun s12 => ?_))
                refine g_aload_n (q := 239) 0 dX11_unit_238 rfl rfl rfl ?_
                refine g_callO (As := []) (st := []) (cn_X11_goesOn) shX11 rfl cwX11_221 rfl dX11_unit_239 rfl (Nat.le_of_ble_eq_true rfl) (by decide) (kk_V (fun s14 => ?_))
                refine g_goto (t := 250) dX11_unit_242 (by decide) ?_
                exact (g_right (g_vret dX11_unit_250))
          · exact (g_thereS (z5 : gS))
        · refine g_aload_n (q := 246) 0 dX11_unit_245 rfl rfl rfl ?_
          refine g_iconst (q := 247) dX11_unit_246 kI_1 rfl ?_
          refine g_callO (As := [.int (1 : Int32)]) (st := []) (cn_X11_fail) shX11 rfl cwX11_215 rfl dX11_unit_247 rfl (Nat.le_of_ble_eq_true rfl) (by decide) (kk_V (fun s16 => ?_))
          exact (g_vret dX11_unit_250)
    · refine g_aload_n (q := 39) 0 dX11_unit_38 rfl rfl rfl ?_
      refine g_callO (As := []) (st := []) (cn_X11_goesOn) shX11 rfl cwX11_221 rfl dX11_unit_39 rfl (Nat.le_of_ble_eq_true rfl) (by decide) (kk_V (fun s18 => ?_))
      refine g_aload_n (q := 43) 0 dX11_unit_42 rfl rfl rfl ?_
      refine g_iconst (q := 44) dX11_unit_43 kI_2 rfl ?_
      refine g_callO (As := [.int (2 : Int32)]) (st := []) (cn_X11_is) shX11 rfl cwX11_218 rfl dX11_unit_44 rfl (Nat.le_of_ble_eq_true rfl) (by decide) (kk_PI (fun v19 => ?_))
      refine g_bind (S := gS) (hd := 73) (lvf := fun z21 => [(0, .ref (b + 0))]) (stf := fun z21 => []) (σf := fun z21 => z21) ?_ (fun z21 => ?_)
      · refine g_if_eq (t := 73) (q := 50) dX11_unit_47 (by decide) rfl ?_ ?_
        · exact (g_there (s18 : gS))
        · refine g_aload_n (q := 51) 0 dX11_unit_50 rfl rfl rfl ?_
          refine g_getA (q := 54) fX11_tValue dX11_unit_51 ww1049 rfl ?_
          refine g_aload_n (q := 55) 0 dX11_unit_54 rfl rfl rfl ?_
          refine g_getI (q := 58) fX11_t dX11_unit_55 ww1053 rfl ?_
          refine g_iald (q := 59) (aX11_tValue) dX11_unit_58 rfl ?_
          refine g_bipush (q := 61) dX11_unit_59 kB_7 rfl ?_
          refine g_icmp_le (t := 73) (q := 64) dX11_unit_61 (by decide) rfl ?_ ?_
          · exact (g_there (s18 : gS))
          · refine g_aload_n (q := 65) 0 dX11_unit_64 rfl rfl rfl ?_
            refine g_iconst (q := 66) dX11_unit_65 kI_5 rfl ?_
            refine g_aload_n (q := 67) 0 dX11_unit_66 rfl rfl rfl ?_
            refine g_getI (q := 70) fX11_t dX11_unit_67 ww1053 rfl ?_
            refine g_callO (As := [.int (5 : Int32), .int (s18.1 0 11)]) (st := []) (cn_X11_wrong) shX11 rfl cwX11_266 rfl dX11_unit_70 rfl (Nat.le_of_ble_eq_true rfl) (by decide) (kk_V (fun s23 => ?_))
            exact (g_there (s23 : gS))
      · refine g_aload_n (q := 74) 0 dX11_unit_73 rfl rfl rfl ?_
        refine g_iconst (q := 75) dX11_unit_74 kI_1 rfl ?_
        refine g_aload_n (q := 76) 0 dX11_unit_75 rfl rfl rfl ?_
        refine g_iconst (q := 77) dX11_unit_76 kI_2 rfl ?_
        refine g_callO (As := [.int (2 : Int32)]) (st := [.int (1 : Int32), .ref (b + 0)]) (cn_X11_is) shX11 rfl cwX11_218 rfl dX11_unit_77 rfl (Nat.le_of_ble_eq_true rfl) (by decide) (kk_PI (fun v24 => ?_))
        refine g_bindS (S := gS) (hd := 109) (lvf := fun z26 => [(0, .ref (b + 0))]) (stf := fun z26 => [.int (1 : Int32), .ref (b + 0)]) (σf := fun z26 => z26) ?_ (fun z26 => ?_)
        · refine g_if_eq (t := 109) (q := 83) dX11_unit_80 (by decide) rfl ?_ ?_
          · exact (g_thereS (z21 : gS))
          · refine g_aload_n (q := 84) 0 dX11_unit_83 rfl rfl rfl ?_
            refine g_getA (q := 87) fX11_tValue dX11_unit_84 ww1049 rfl ?_
            refine g_aload_n (q := 88) 0 dX11_unit_87 rfl rfl rfl ?_
            refine g_getI (q := 91) fX11_t dX11_unit_88 ww1053 rfl ?_
            refine g_iald (q := 92) (aX11_tValue) dX11_unit_91 rfl ?_
            refine g_bipush (q := 94) dX11_unit_92 kB_8 rfl ?_
            refine g_icmp_ge (t := 109) (q := 97) dX11_unit_94 (by decide) rfl ?_ ?_
            · exact (g_thereS (z21 : gS))
            · refine g_aload_n (q := 98) 0 dX11_unit_97 rfl rfl rfl ?_
              refine g_getA (q := 101) fX11_tValue dX11_unit_98 ww1049 rfl ?_
              refine g_aload_n (q := 102) 0 dX11_unit_101 rfl rfl rfl ?_
              refine g_getI (q := 105) fX11_t dX11_unit_102 ww1053 rfl ?_
              refine g_iald (q := 106) (aX11_tValue) dX11_unit_105 rfl ?_
              refine g_goto (t := 110) dX11_unit_106 (by decide) ?_
              refine g_callO (As := [.int (1 : Int32), .int (z21.1 5 (z21.1 0 11).toNatClampNeg)]) (st := []) (cn_X11_emit) shX11 rfl cwX11_294 rfl dX11_unit_110 rfl (Nat.le_of_ble_eq_true rfl) (by decide) (kk_V (fun s28 => ?_))
              refine g_aload_n (q := 114) 0 dX11_unit_113 rfl rfl rfl ?_
              refine g_iconst (q := 115) dX11_unit_114 kI_2 rfl ?_
              refine g_callO (As := [.int (2 : Int32)]) (st := []) (cn_X11_must) shX11 rfl cwX11_263 rfl dX11_unit_115 rfl (Nat.le_of_ble_eq_true rfl) (by decide) (kk_V (fun s30 => ?_))
              refine g_goto (t := 250) dX11_unit_118 (by decide) ?_
              exact (g_right (g_vret dX11_unit_250))
        · refine g_iconst (q := 110) dX11_unit_109 kI_0 rfl ?_
          refine g_callO (As := [.int (1 : Int32), .int (0 : Int32)]) (st := []) (cn_X11_emit) shX11 rfl cwX11_294 rfl dX11_unit_110 rfl (Nat.le_of_ble_eq_true rfl) (by decide) (kk_V (fun s32 => ?_))
          refine g_aload_n (q := 114) 0 dX11_unit_113 rfl rfl rfl ?_
          refine g_iconst (q := 115) dX11_unit_114 kI_2 rfl ?_
          refine g_callO (As := [.int (2 : Int32)]) (st := []) (cn_X11_must) shX11 rfl cwX11_263 rfl dX11_unit_115 rfl (Nat.le_of_ble_eq_true rfl) (by decide) (kk_V (fun s34 => ?_))
          refine g_goto (t := 250) dX11_unit_118 (by decide) ?_
          exact (g_vret dX11_unit_250)
  · refine g_aload_n (q := 9) 0 dX11_unit_8 rfl rfl rfl ?_
    refine g_iconst (q := 10) dX11_unit_9 kI_0 rfl ?_
    refine g_aload_n (q := 11) 0 dX11_unit_10 rfl rfl rfl ?_
    refine g_getA (q := 14) fX11_tValue dX11_unit_11 ww1049 rfl ?_
    refine g_aload_n (q := 15) 0 dX11_unit_14 rfl rfl rfl ?_
    refine g_getI (q := 18) fX11_t dX11_unit_15 ww1053 rfl ?_
    refine g_iald (q := 19) (aX11_tValue) dX11_unit_18 rfl ?_
    refine g_callO (As := [.int (0 : Int32), .int (σ.1 5 (σ.1 0 11).toNatClampNeg)]) (st := []) (cn_X11_emit) shX11 rfl cwX11_294 rfl dX11_unit_19 rfl (Nat.le_of_ble_eq_true rfl) (by decide) (kk_V (fun s36 => ?_))
    refine g_aload_n (q := 23) 0 dX11_unit_22 rfl rfl rfl ?_
    refine g_callO (As := []) (st := []) (cn_X11_goesOn) shX11 rfl cwX11_221 rfl dX11_unit_23 rfl (Nat.le_of_ble_eq_true rfl) (by decide) (kk_V (fun s38 => ?_))
    refine g_goto (t := 250) dX11_unit_26 (by decide) ?_
    exact (g_vret dX11_unit_250)
noncomputable def pX11_expression (σ : gS) : Option (gS) := lt' (wI σ 0 48 (0 : Int32)) (fun s1 => lt' (s1.1 0 12) (fun x2 => bnS (lpP (fun (z4 : (Int32 × gS)) => if z4.1 = 0 then some (.inr (.inl z4.2)) else if (z4.2.1 0 13) = 0 then bn1 (lpP (fun (z6 : gS) => bn1 (pX11_is (6 : Int32) z6) (fun v7 => if v7 = 0 then some (.inr z6) else bn1 (if (z6.1 0 12) = (6 : Int32) then bn1 (pX11_fail (2 : Int32) z6) (fun s11 => some s11) else some z6) (fun (z9 : gS) => lt' (wI z9 0 12 ((z9.1 0 12) + (1 : Int32))) (fun s12 => bn1 (pX11_goesOn s12) (fun s14 => gx (s14.1 0 48) 64 (lt' (wI s14 32 (s14.1 0 48).toNatClampNeg (6 : Int32)) (fun s15 => lt' (wI s15 0 48 ((s15.1 0 48) + (1 : Int32))) (fun s16 => some (.inl s16))))))))) z4.2) (fun (z5 : gS) => bn1 (pX11_unit z5) (fun s18 => if (s18.1 0 13) ≤ 0 then bn1 (lpP (fun (z20 : gS) => bn1 (pX11_is (7 : Int32) z20) (fun v21 => if v21 = 0 then some (.inr z20) else if (z20.1 0 12) ≤ x2 then some (.inr z20) else bn1 (pX11_comesOut (0 : Int32) z20) (fun s24 => lt' (wI s24 0 48 ((s24.1 0 48) - (1 : Int32))) (fun s25 => lt' (wI s25 0 12 ((s25.1 0 12) - (1 : Int32))) (fun s26 => bn1 (pX11_goesOn s26) (fun s28 => some (.inl s28))))))) s18) (fun (z19 : gS) => bn1 (pX11_is (8 : Int32) z19) (fun v29 => bn1 (if v29 = 0 then bn1 (pX11_is (9 : Int32) z19) (fun v32 => if v32 = 0 then bn1 (pX11_is (10 : Int32) z19) (fun v34 => if v34 = 0 then some (0 : Int32) else some (1 : Int32)) else some (1 : Int32)) else some (1 : Int32)) (fun (z31 : Int32) => if z31 = 0 then bn1 (if (z19.1 0 12) ≤ x2 then some z19 else bn1 (pX11_fail (1 : Int32) z19) (fun s38 => some s38)) (fun (z36 : gS) => bn1 (pX11_comesOut (0 : Int32) z36) (fun s40 => some (.inr (.inr s40)))) else bn1 (pX11_is (10 : Int32) z19) (fun v41 => bn1 (pX11_comesOut v41 z19) (fun s44 => gx (s44.1 0 11) 403 (gx (s44.1 0 48) 64 (lt' (wI s44 32 (s44.1 0 48).toNatClampNeg (s44.1 3 (s44.1 0 11).toNatClampNeg)) (fun s45 => lt' (wI s45 0 48 ((s45.1 0 48) + (1 : Int32))) (fun s46 => bn1 (pX11_goesOn s46) (fun s48 => some (.inl (z31, s48)))))))))))) else some (.inr (.inr s18)))) else some (.inr (.inl z4.2))) ((1 : Int32), s1)) (fun (z3 : gS) => some z3)))
set_option maxRecDepth 100000 in
theorem cn_X11_expression {G : gG} {b : Nat}  {σ : gS} : CN vR G b 5 yX11_expression cX11_expression 3 none kV [.ref (b + 0)] σ (pX11_expression σ) := by
  refine cn_of (own := RX11) rfl rfl (Nat.le_of_ble_eq_true rfl) ?_
  show GF vR G b (5, 0, 0) RX11 cX11_expression 3 none kV 0 [(0, .ref (b + 0))] [] σ (pX11_expression σ)
  unfold pX11_expression
  refine g_aload_n (q := 1) 0 dX11_expression_0 rfl rfl rfl ?_
  refine g_iconst (q := 2) dX11_expression_1 kI_0 rfl ?_
  refine g_putI (q := 5) fX11_waiting pwX11_waiting okTX11 dX11_expression_2 ww1090 rfl (fun s1 => ?_)
  refine g_aload_n (q := 6) 0 dX11_expression_5 rfl rfl rfl ?_
  refine g_getI (q := 9) fX11_open dX11_expression_6 ww1054 rfl ?_
  refine g_leti (fun x2 => ?_)
  refine g_istore_n (lr := [(0, .ref (b + 0))]) (q := 10) dX11_expression_9 rfl (by decide) rfl rfl ?_
  refine g_iconst (q := 11) dX11_expression_10 kI_1 rfl ?_
  refine g_istore_n (lr := [(1, .int x2), (0, .ref (b + 0))]) (q := 12) dX11_expression_11 rfl (by decide) rfl rfl ?_
  refine g_bindS (S := gS) (hd := 246) (lvf := fun z3 => []) (stf := fun z3 => []) (σf := fun z3 => z3) ?_ (fun z3 => ?_)
  · refine g_loop (S := (Int32 × gS)) (lvf := fun z4 => [(2, .int z4.1), (1, .int x2), (0, .ref (b + 0))]) (σf := fun z4 => z4.2) (fun z4 => ?_) ((1 : Int32), s1)
    refine g_iload_n (q := 13) 0 dX11_expression_12 rfl rfl rfl ?_
    refine g_if_eq (t := 246) (q := 16) dX11_expression_13 (by decide) rfl ?_ ?_
    · refine g_sub (lr := []) [] rfl ?_
      exact (g_leave (g_thereS (z4.2 : gS)))
    · refine g_aload_n (q := 17) 2 dX11_expression_16 rfl rfl rfl ?_
      refine g_getI (q := 20) fX11_fault dX11_expression_17 ww1055 rfl ?_
      refine g_if_ne (t := 246) (q := 23) dX11_expression_20 (by decide) rfl ?_ ?_
      · refine g_bind (S := gS) (hd := 84) (lvf := fun z5 => [(1, .int x2), (0, .ref (b + 0))]) (stf := fun z5 => []) (σf := fun z5 => z5) ?_ (fun z5 => ?_)
        · refine g_sub (lr := [(1, .int x2), (0, .ref (b + 0))]) [1, 2] rfl ?_
          refine g_loop (S := gS) (lvf := fun z6 => [(1, .int x2), (0, .ref (b + 0))]) (σf := fun z6 => z6) (fun z6 => ?_) z4.2
          refine g_aload_n (q := 24) 1 dX11_expression_23 rfl rfl rfl ?_
          refine g_bipush (q := 26) dX11_expression_24 kB_6 rfl ?_
          refine g_callO (As := [.int (6 : Int32)]) (st := []) (cn_X11_is) shX11 rfl cwX11_218 rfl dX11_expression_26 rfl (Nat.le_of_ble_eq_true rfl) (by decide) (kk_PI (fun v7 => ?_))
          refine g_if_eq (t := 84) (q := 32) dX11_expression_29 (by decide) rfl ?_ ?_
          · exact (g_leave (g_there (z6 : gS)))
          · refine g_aload_n (q := 33) 1 dX11_expression_32 rfl rfl rfl ?_
            refine g_getI (q := 36) fX11_open dX11_expression_33 ww1054 rfl ?_
            refine g_bipush (q := 38) dX11_expression_36 kB_6 rfl ?_
            refine g_bind (S := gS) (hd := 46) (lvf := fun z9 => [(1, .int x2), (0, .ref (b + 0))]) (stf := fun z9 => []) (σf := fun z9 => z9) ?_ (fun z9 => ?_)
            · refine g_icmp_ne (t := 46) (q := 41) dX11_expression_38 (by decide) rfl ?_ ?_
              · refine g_aload_n (q := 42) 1 dX11_expression_41 rfl rfl rfl ?_
                refine g_iconst (q := 43) dX11_expression_42 kI_2 rfl ?_
                refine g_callO (As := [.int (2 : Int32)]) (st := []) (cn_X11_fail) shX11 rfl cwX11_215 rfl dX11_expression_43 rfl (Nat.le_of_ble_eq_true rfl) (by decide) (kk_V (fun s11 => ?_))
                exact (g_there (s11 : gS))
              · exact (g_there (z6 : gS))
            · refine g_aload_n (q := 47) 1 dX11_expression_46 rfl rfl rfl ?_
              refine g_dup (q := 48) dX11_expression_47 rfl rfl ?_
              refine g_getI (q := 51) fX11_open dX11_expression_48 ww1054 rfl ?_
              refine g_iconst (q := 52) dX11_expression_51 kI_1 rfl ?_
              refine g_iadd (q := 53) dX11_expression_52 rfl ?_
              refine g_putI (q := 56) fX11_open pwX11_open okTX11 dX11_expression_53 ww1054 rfl (fun s12 => ?_)
              refine g_aload_n (q := 57) 1 dX11_expression_56 rfl rfl rfl ?_
              refine g_callO (As := []) (st := []) (cn_X11_goesOn) shX11 rfl cwX11_221 rfl dX11_expression_57 rfl (Nat.le_of_ble_eq_true rfl) (by decide) (kk_V (fun s14 => ?_))
              refine g_aload_n (q := 61) 1 dX11_expression_60 rfl rfl rfl ?_
              refine g_getA (q := 64) fX11_waits dX11_expression_61 ww1089 rfl ?_
              refine g_aload_n (q := 65) 1 dX11_expression_64 rfl rfl rfl ?_
              refine g_getI (q := 68) fX11_waiting dX11_expression_65 ww1090 rfl ?_
              refine g_bipush (q := 70) dX11_expression_68 kB_6 rfl ?_
              refine g_iast (q := 71) (aX11_waits) dX11_expression_70 rfl (fun s15 => ?_)
              refine g_aload_n (q := 72) 1 dX11_expression_71 rfl rfl rfl ?_
              refine g_dup (q := 73) dX11_expression_72 rfl rfl ?_
              refine g_getI (q := 76) fX11_waiting dX11_expression_73 ww1090 rfl ?_
              refine g_iconst (q := 77) dX11_expression_76 kI_1 rfl ?_
              refine g_iadd (q := 78) dX11_expression_77 rfl ?_
              refine g_putI (q := 81) fX11_waiting pwX11_waiting okTX11 dX11_expression_78 ww1090 rfl (fun s16 => ?_)
              refine g_goto (t := 23) dX11_expression_81 (by decide) ?_
              exact (g_again (s16 : gS))
        · refine g_aload_n (q := 85) 1 dX11_expression_84 rfl rfl rfl ?_
          refine g_callO (As := []) (st := []) (cn_X11_unit) shX11 rfl cwX11_297 rfl dX11_expression_85 rfl (Nat.le_of_ble_eq_true rfl) (by decide) (kk_V (fun s18 => ?_))
          refine g_aload_n (q := 89) 1 dX11_expression_88 rfl rfl rfl ?_
          refine g_getI (q := 92) fX11_fault dX11_expression_89 ww1055 rfl ?_
          refine g_if_le (t := 96) (q := 95) dX11_expression_92 (by decide) rfl ?_ ?_
          · refine g_bind (S := gS) (hd := 145) (lvf := fun z19 => [(1, .int x2), (0, .ref (b + 0))]) (stf := fun z19 => []) (σf := fun z19 => z19) ?_ (fun z19 => ?_)
            · refine g_loop (S := gS) (lvf := fun z20 => [(1, .int x2), (0, .ref (b + 0))]) (σf := fun z20 => z20) (fun z20 => ?_) s18
              refine g_aload_n (q := 97) 1 dX11_expression_96 rfl rfl rfl ?_
              refine g_bipush (q := 99) dX11_expression_97 kB_7 rfl ?_
              refine g_callO (As := [.int (7 : Int32)]) (st := []) (cn_X11_is) shX11 rfl cwX11_218 rfl dX11_expression_99 rfl (Nat.le_of_ble_eq_true rfl) (by decide) (kk_PI (fun v21 => ?_))
              refine g_if_eq (t := 145) (q := 105) dX11_expression_102 (by decide) rfl ?_ ?_
              · exact (g_leave (g_there (z20 : gS)))
              · refine g_aload_n (q := 106) 1 dX11_expression_105 rfl rfl rfl ?_
                refine g_getI (q := 109) fX11_open dX11_expression_106 ww1054 rfl ?_
                refine g_iload_n (q := 110) 0 dX11_expression_109 rfl rfl rfl ?_
                refine g_icmp_le (t := 145) (q := 113) dX11_expression_110 (by decide) rfl ?_ ?_
                · exact (g_leave (g_there (z20 : gS)))
                · refine g_aload_n (q := 114) 1 dX11_expression_113 rfl rfl rfl ?_
                  refine g_iconst (q := 115) dX11_expression_114 kI_0 rfl ?_
                  refine g_callO (As := [.int (0 : Int32)]) (st := []) (cn_X11_comesOut) shX11 rfl cwX11_300 rfl dX11_expression_115 rfl (Nat.le_of_ble_eq_true rfl) (by decide) (kk_V (fun s24 => ?_))
                  refine g_aload_n (q := 119) 1 dX11_expression_118 rfl rfl rfl ?_
                  refine g_dup (q := 120) dX11_expression_119 rfl rfl ?_
                  refine g_getI (q := 123) fX11_waiting dX11_expression_120 ww1090 rfl ?_
                  refine g_iconst (q := 124) dX11_expression_123 kI_1 rfl ?_
                  refine g_isub (q := 125) dX11_expression_124 rfl ?_
                  refine g_putI (q := 128) fX11_waiting pwX11_waiting okTX11 dX11_expression_125 ww1090 rfl (fun s25 => ?_)
                  refine g_aload_n (q := 129) 1 dX11_expression_128 rfl rfl rfl ?_
                  refine g_dup (q := 130) dX11_expression_129 rfl rfl ?_
                  refine g_getI (q := 133) fX11_open dX11_expression_130 ww1054 rfl ?_
                  refine g_iconst (q := 134) dX11_expression_133 kI_1 rfl ?_
                  refine g_isub (q := 135) dX11_expression_134 rfl ?_
                  refine g_putI (q := 138) fX11_open pwX11_open okTX11 dX11_expression_135 ww1054 rfl (fun s26 => ?_)
                  refine g_aload_n (q := 139) 1 dX11_expression_138 rfl rfl rfl ?_
                  refine g_callO (As := []) (st := []) (cn_X11_goesOn) shX11 rfl cwX11_221 rfl dX11_expression_139 rfl (Nat.le_of_ble_eq_true rfl) (by decide) (kk_V (fun s28 => ?_))
                  refine g_goto (t := 96) dX11_expression_142 (by decide) ?_
                  exact (g_again (s28 : gS))
            · refine g_aload_n (q := 146) 1 dX11_expression_145 rfl rfl rfl ?_
              refine g_bipush (q := 148) dX11_expression_146 kB_8 rfl ?_
              refine g_callO (As := [.int (8 : Int32)]) (st := []) (cn_X11_is) shX11 rfl cwX11_218 rfl dX11_expression_148 rfl (Nat.le_of_ble_eq_true rfl) (by decide) (kk_PI (fun v29 => ?_))
              refine g_bind (S := Int32) (hd := 177) (lvf := fun z31 => [(1, .int x2), (0, .ref (b + 0))]) (stf := fun z31 => [.int z31]) (σf := fun z31 => z19) ?_ (fun z31 => ?_)
              · refine g_if_ne (t := 172) (q := 154) dX11_expression_151 (by decide) rfl ?_ ?_
                · refine g_aload_n (q := 155) 1 dX11_expression_154 rfl rfl rfl ?_
                  refine g_bipush (q := 157) dX11_expression_155 kB_9 rfl ?_
                  refine g_callO (As := [.int (9 : Int32)]) (st := []) (cn_X11_is) shX11 rfl cwX11_218 rfl dX11_expression_157 rfl (Nat.le_of_ble_eq_true rfl) (by decide) (kk_PI (fun v32 => ?_))
                  refine g_if_ne (t := 172) (q := 163) dX11_expression_160 (by decide) rfl ?_ ?_
                  · refine g_aload_n (q := 164) 1 dX11_expression_163 rfl rfl rfl ?_
                    refine g_bipush (q := 166) dX11_expression_164 kB_10 rfl ?_
                    refine g_callO (As := [.int (10 : Int32)]) (st := []) (cn_X11_is) shX11 rfl cwX11_218 rfl dX11_expression_166 rfl (Nat.le_of_ble_eq_true rfl) (by decide) (kk_PI (fun v34 => ?_))
                    refine g_if_eq (t := 176) (q := 172) dX11_expression_169 (by decide) rfl ?_ ?_
                    · refine g_iconst (q := 177) dX11_expression_176 kI_0 rfl ?_
                      exact (g_there ((0 : Int32) : Int32))
                    · refine g_iconst (q := 173) dX11_expression_172 kI_1 rfl ?_
                      refine g_goto (t := 177) dX11_expression_173 (by decide) ?_
                      exact (g_there ((1 : Int32) : Int32))
                  · refine g_iconst (q := 173) dX11_expression_172 kI_1 rfl ?_
                    refine g_goto (t := 177) dX11_expression_173 (by decide) ?_
                    exact (g_there ((1 : Int32) : Int32))
                · refine g_iconst (q := 173) dX11_expression_172 kI_1 rfl ?_
                  refine g_goto (t := 177) dX11_expression_173 (by decide) ?_
                  exact (g_there ((1 : Int32) : Int32))
              · refine g_istore_n (lr := [(1, .int x2), (0, .ref (b + 0))]) (q := 178) dX11_expression_177 rfl (by decide) rfl rfl ?_
                refine g_iload_n (q := 179) 0 dX11_expression_178 rfl rfl rfl ?_
                refine g_if_ne (t := 201) (q := 182) dX11_expression_179 (by decide) rfl ?_ ?_
                · refine g_aload_n (q := 183) 2 dX11_expression_182 rfl rfl rfl ?_
                  refine g_getI (q := 186) fX11_open dX11_expression_183 ww1054 rfl ?_
                  refine g_iload_n (q := 187) 1 dX11_expression_186 rfl rfl rfl ?_
                  refine g_bind (S := gS) (hd := 195) (lvf := fun z36 => [(0, .ref (b + 0))]) (stf := fun z36 => []) (σf := fun z36 => z36) ?_ (fun z36 => ?_)
                  · refine g_icmp_le (t := 195) (q := 190) dX11_expression_187 (by decide) rfl ?_ ?_
                    · refine g_sub (lr := [(0, .ref (b + 0))]) [2] rfl ?_
                      exact (g_there (z19 : gS))
                    · refine g_aload_n (q := 191) 2 dX11_expression_190 rfl rfl rfl ?_
                      refine g_iconst (q := 192) dX11_expression_191 kI_1 rfl ?_
                      refine g_callO (As := [.int (1 : Int32)]) (st := []) (cn_X11_fail) shX11 rfl cwX11_215 rfl dX11_expression_192 rfl (Nat.le_of_ble_eq_true rfl) (by decide) (kk_V (fun s38 => ?_))
                      refine g_sub (lr := [(0, .ref (b + 0))]) [2] rfl ?_
                      exact (g_there (s38 : gS))
                  · refine g_aload_n (q := 196) 0 dX11_expression_195 rfl rfl rfl ?_
                    refine g_iconst (q := 197) dX11_expression_196 kI_0 rfl ?_
                    refine g_callO (As := [.int (0 : Int32)]) (st := []) (cn_X11_comesOut) shX11 rfl cwX11_300 rfl dX11_expression_197 rfl (Nat.le_of_ble_eq_true rfl) (by decide) (kk_V (fun s40 => ?_))
                    exact (g_leave (g_right (g_vret dX11_expression_200)))
                · refine g_aload_n (q := 202) 2 dX11_expression_201 rfl rfl rfl ?_
                  refine g_aload_n (q := 203) 2 dX11_expression_202 rfl rfl rfl ?_
                  refine g_bipush (q := 205) dX11_expression_203 kB_10 rfl ?_
                  refine g_callO (As := [.int (10 : Int32)]) (st := [.ref (b + 0)]) (cn_X11_is) shX11 rfl cwX11_218 rfl dX11_expression_205 rfl (Nat.le_of_ble_eq_true rfl) (by decide) (kk_PI (fun v41 => ?_))
                  refine g_callO (As := [.int v41]) (st := []) (cn_X11_comesOut) shX11 rfl cwX11_300 rfl dX11_expression_208 rfl (Nat.le_of_ble_eq_true rfl) (by decide) (kk_V (fun s44 => ?_))
                  refine g_aload_n (q := 212) 2 dX11_expression_211 rfl rfl rfl ?_
                  refine g_getA (q := 215) fX11_waits dX11_expression_212 ww1089 rfl ?_
                  refine g_aload_n (q := 216) 2 dX11_expression_215 rfl rfl rfl ?_
                  refine g_getI (q := 219) fX11_waiting dX11_expression_216 ww1090 rfl ?_
                  refine g_aload_n (q := 220) 2 dX11_expression_219 rfl rfl rfl ?_
                  refine g_getA (q := 223) fX11_tKind dX11_expression_220 ww1047 rfl ?_
                  refine g_aload_n (q := 224) 2 dX11_expression_223 rfl rfl rfl ?_
                  refine g_getI (q := 227) fX11_t dX11_expression_224 ww1053 rfl ?_
                  refine g_iald (q := 228) (aX11_tKind) dX11_expression_227 rfl ?_
                  refine g_iast (q := 229) (aX11_waits) dX11_expression_228 rfl (fun s45 => ?_)
                  refine g_aload_n (q := 230) 2 dX11_expression_229 rfl rfl rfl ?_
                  refine g_dup (q := 231) dX11_expression_230 rfl rfl ?_
                  refine g_getI (q := 234) fX11_waiting dX11_expression_231 ww1090 rfl ?_
                  refine g_iconst (q := 235) dX11_expression_234 kI_1 rfl ?_
                  refine g_iadd (q := 236) dX11_expression_235 rfl ?_
                  refine g_putI (q := 239) fX11_waiting pwX11_waiting okTX11 dX11_expression_236 ww1090 rfl (fun s46 => ?_)
                  refine g_aload_n (q := 240) 2 dX11_expression_239 rfl rfl rfl ?_
                  refine g_callO (As := []) (st := []) (cn_X11_goesOn) shX11 rfl cwX11_221 rfl dX11_expression_240 rfl (Nat.le_of_ble_eq_true rfl) (by decide) (kk_V (fun s48 => ?_))
                  refine g_goto (t := 12) dX11_expression_243 (by decide) ?_
                  exact (g_again ((z31, s48) : (Int32 × gS)))
          · exact (g_leave (g_right (g_vret dX11_expression_95)))
      · refine g_sub (lr := []) [] rfl ?_
        exact (g_leave (g_thereS (z4.2 : gS)))
  · exact (g_vret dX11_expression_246)
noncomputable def pX11_tellLaw (σ : gS) : Option (gS) := gx (σ.1 0 19) 2 (lt' ((((26 : Int32) * (σ.1 0 19)) + (22 : Int32)) + (σ.1 14 (σ.1 0 19).toNatClampNeg)) (fun x1 => bn1 (pX11_goesOn σ) (fun s3 => bn2 (pX11_named s3) (fun v4 s5 => bn1 (pX11_must (15 : Int32) s5) (fun s7 => gx x1 52 (lt' (wI s7 22 x1.toNatClampNeg (s7.1 0 44)) (fun s8 => bn1 (pX11_expression s8) (fun s10 => gx x1 52 (lt' (wI s10 23 x1.toNatClampNeg (s10.1 0 44)) (fun s11 => bn1 (pX11_must (4 : Int32) s11) (fun s13 => if (s13.1 0 13) ≤ 0 then gx (s13.1 0 19) 2 (bn1 (pX11_knows v4 (3 : Int32) (s13.1 14 (s13.1 0 19).toNatClampNeg) s13) (fun s15 => gx (s15.1 0 19) 2 (gx (s15.1 0 19) 2 (lt' (wI s15 14 (s15.1 0 19).toNatClampNeg ((s15.1 14 (s15.1 0 19).toNatClampNeg) + (1 : Int32))) (fun s16 => some s16))))) else some s13)))))))))))
set_option maxRecDepth 100000 in
theorem cn_X11_tellLaw {G : gG} {b : Nat}  {σ : gS} : CN vR G b 6 yX11_tellLaw cX11_tellLaw 3 none kV [.ref (b + 0)] σ (pX11_tellLaw σ) := by
  refine cn_of (own := RX11) rfl rfl (Nat.le_of_ble_eq_true rfl) ?_
  show GF vR G b (6, 0, 0) RX11 cX11_tellLaw 3 none kV 0 [(0, .ref (b + 0))] [] σ (pX11_tellLaw σ)
  unfold pX11_tellLaw
  refine g_bipush (q := 2) dX11_tellLaw_0 kB_26 rfl ?_
  refine g_aload_n (q := 3) 0 dX11_tellLaw_2 rfl rfl rfl ?_
  refine g_getI (q := 6) fX11_side dX11_tellLaw_3 ww1061 rfl ?_
  refine g_imul (q := 7) dX11_tellLaw_6 rfl ?_
  refine g_bipush (q := 9) dX11_tellLaw_7 kB_22 rfl ?_
  refine g_iadd (q := 10) dX11_tellLaw_9 rfl ?_
  refine g_aload_n (q := 11) 0 dX11_tellLaw_10 rfl rfl rfl ?_
  refine g_getA (q := 14) fX11_laws dX11_tellLaw_11 ww1069 rfl ?_
  refine g_aload_n (q := 15) 0 dX11_tellLaw_14 rfl rfl rfl ?_
  refine g_getI (q := 18) fX11_side dX11_tellLaw_15 ww1061 rfl ?_
  refine g_iald (q := 19) (aX11_laws) dX11_tellLaw_18 rfl ?_
  refine g_iadd (q := 20) dX11_tellLaw_19 rfl ?_
  refine g_leti (fun x1 => ?_)
  refine g_istore_n (lr := [(0, .ref (b + 0))]) (q := 21) dX11_tellLaw_20 rfl (by decide) rfl rfl ?_
  refine g_aload_n (q := 22) 1 dX11_tellLaw_21 rfl rfl rfl ?_
  refine g_callO (As := []) (st := []) (cn_X11_goesOn) shX11 rfl cwX11_221 rfl dX11_tellLaw_22 rfl (Nat.le_of_ble_eq_true rfl) (by decide) (kk_V (fun s3 => ?_))
  refine g_aload_n (q := 26) 1 dX11_tellLaw_25 rfl rfl rfl ?_
  refine g_callO (As := []) (st := []) (cn_X11_named) shX11 rfl cwX11_274 rfl dX11_tellLaw_26 rfl (Nat.le_of_ble_eq_true rfl) (by decide) (kk_I (fun v4 s5 => ?_))
  refine g_istore_n (lr := [(1, .int x1), (0, .ref (b + 0))]) (q := 30) dX11_tellLaw_29 rfl (by decide) rfl rfl ?_
  refine g_aload_n (q := 31) 2 dX11_tellLaw_30 rfl rfl rfl ?_
  refine g_bipush (q := 33) dX11_tellLaw_31 kB_15 rfl ?_
  refine g_callO (As := [.int (15 : Int32)]) (st := []) (cn_X11_must) shX11 rfl cwX11_263 rfl dX11_tellLaw_33 rfl (Nat.le_of_ble_eq_true rfl) (by decide) (kk_V (fun s7 => ?_))
  refine g_aload_n (q := 37) 2 dX11_tellLaw_36 rfl rfl rfl ?_
  refine g_getA (q := 40) fX11_lawFrom dX11_tellLaw_37 ww1077 rfl ?_
  refine g_iload_n (q := 41) 1 dX11_tellLaw_40 rfl rfl rfl ?_
  refine g_aload_n (q := 42) 2 dX11_tellLaw_41 rfl rfl rfl ?_
  refine g_getI (q := 45) fX11_codes dX11_tellLaw_42 ww1086 rfl ?_
  refine g_iast (q := 46) (aX11_lawFrom) dX11_tellLaw_45 rfl (fun s8 => ?_)
  refine g_aload_n (q := 47) 2 dX11_tellLaw_46 rfl rfl rfl ?_
  refine g_callO (As := []) (st := []) (cn_X11_expression) shX11 rfl cwX11_288 rfl dX11_tellLaw_47 rfl (Nat.le_of_ble_eq_true rfl) (by decide) (kk_V (fun s10 => ?_))
  refine g_aload_n (q := 51) 2 dX11_tellLaw_50 rfl rfl rfl ?_
  refine g_getA (q := 54) fX11_lawTo dX11_tellLaw_51 ww1078 rfl ?_
  refine g_iload_n (q := 55) 1 dX11_tellLaw_54 rfl rfl rfl ?_
  refine g_aload_n (q := 56) 2 dX11_tellLaw_55 rfl rfl rfl ?_
  refine g_getI (q := 59) fX11_codes dX11_tellLaw_56 ww1086 rfl ?_
  refine g_iast (q := 60) (aX11_lawTo) dX11_tellLaw_59 rfl (fun s11 => ?_)
  refine g_aload_n (q := 61) 2 dX11_tellLaw_60 rfl rfl rfl ?_
  refine g_iconst (q := 62) dX11_tellLaw_61 kI_4 rfl ?_
  refine g_callO (As := [.int (4 : Int32)]) (st := []) (cn_X11_must) shX11 rfl cwX11_263 rfl dX11_tellLaw_62 rfl (Nat.le_of_ble_eq_true rfl) (by decide) (kk_V (fun s13 => ?_))
  refine g_aload_n (q := 66) 2 dX11_tellLaw_65 rfl rfl rfl ?_
  refine g_getI (q := 69) fX11_fault dX11_tellLaw_66 ww1055 rfl ?_
  refine g_if_le (t := 73) (q := 72) dX11_tellLaw_69 (by decide) rfl ?_ ?_
  · refine g_aload_n (q := 74) 2 dX11_tellLaw_73 rfl rfl rfl ?_
    refine g_iload_n (q := 75) 0 dX11_tellLaw_74 rfl rfl rfl ?_
    refine g_iconst (q := 76) dX11_tellLaw_75 kI_3 rfl ?_
    refine g_aload_n (q := 77) 2 dX11_tellLaw_76 rfl rfl rfl ?_
    refine g_getA (q := 80) fX11_laws dX11_tellLaw_77 ww1069 rfl ?_
    refine g_aload_n (q := 81) 2 dX11_tellLaw_80 rfl rfl rfl ?_
    refine g_getI (q := 84) fX11_side dX11_tellLaw_81 ww1061 rfl ?_
    refine g_iald (q := 85) (aX11_laws) dX11_tellLaw_84 rfl ?_
    refine g_callO (As := [.int v4, .int (3 : Int32), .int (s13.1 14 (s13.1 0 19).toNatClampNeg)]) (st := []) (cn_X11_knows) shX11 rfl cwX11_281 rfl dX11_tellLaw_85 rfl (Nat.le_of_ble_eq_true rfl) (by decide) (kk_V (fun s15 => ?_))
    refine g_aload_n (q := 89) 2 dX11_tellLaw_88 rfl rfl rfl ?_
    refine g_getA (q := 92) fX11_laws dX11_tellLaw_89 ww1069 rfl ?_
    refine g_aload_n (q := 93) 2 dX11_tellLaw_92 rfl rfl rfl ?_
    refine g_getI (q := 96) fX11_side dX11_tellLaw_93 ww1061 rfl ?_
    refine g_dup2 (q := 97) dX11_tellLaw_96 rfl rfl rfl ?_
    refine g_iald (q := 98) (aX11_laws) dX11_tellLaw_97 rfl ?_
    refine g_iconst (q := 99) dX11_tellLaw_98 kI_1 rfl ?_
    refine g_iadd (q := 100) dX11_tellLaw_99 rfl ?_
    refine g_iast (q := 101) (aX11_laws) dX11_tellLaw_100 rfl (fun s16 => ?_)
    exact (g_vret dX11_tellLaw_101)
  · exact (g_vret dX11_tellLaw_72)
noncomputable def pX11_literal (a1 : Int32) (σ : gS) : Option (gS) := bn1 (lpP (fun (z2 : (Int32 × gS)) => bn1 (pX11_is (35 : Int32) z2.2) (fun v3 => if v3 = 0 then some (.inr (z2.1, z2.2)) else bn1 (if z2.1 = 0 then some (1 : Int32) else some (0 : Int32)) (fun (z5 : Int32) => bn1 (pX11_goesOn z2.2) (fun s7 => some (.inl (z5, s7)))))) ((0 : Int32), σ)) (fun (z1 : (Int32 × gS)) => lt' (z1.2.1 0 44) (fun x8 => bn1 (pX11_expression z1.2) (fun s10 => bn1 (if (s10.1 0 13) ≤ 0 then gx (s10.1 0 11) 403 (some ((s10.1 3 (s10.1 0 11).toNatClampNeg) - (11 : Int32))) else some (0 : Int32)) (fun (z11 : Int32) => bn1 (if (s10.1 0 13) = 0 then if z11 < 0 then bn1 (pX11_fail (1 : Int32) s10) (fun s14 => some s14) else if z11 ≤ (3 : Int32) then some s10 else bn1 (pX11_fail (1 : Int32) s10) (fun s16 => some s16) else some s10) (fun (z12 : gS) => bn1 (pX11_goesOn z12) (fun s18 => lt' (s18.1 0 44) (fun x19 => bn1 (pX11_expression s18) (fun s21 => if (s21.1 0 13) ≤ 0 then gx (s21.1 0 37) 300 (lt' (wI s21 24 (s21.1 0 37).toNatClampNeg z11) (fun s22 => gx (s22.1 0 37) 300 (lt' (wI s22 25 (s22.1 0 37).toNatClampNeg (z1.1 &&& 1)) (fun s23 => gx (s23.1 0 37) 300 (lt' (wI s23 26 (s23.1 0 37).toNatClampNeg (a1 &&& 1)) (fun s24 => gx (s24.1 0 37) 300 (lt' (wI s24 27 (s24.1 0 37).toNatClampNeg x8) (fun s25 => gx (s25.1 0 37) 300 (lt' (wI s25 28 (s25.1 0 37).toNatClampNeg x19) (fun s26 => gx (s26.1 0 37) 300 (lt' (wI s26 29 (s26.1 0 37).toNatClampNeg (s26.1 0 44)) (fun s27 => lt' (wI s27 0 37 ((s27.1 0 37) + (1 : Int32))) (fun s28 => some s28))))))))))))) else some s21))))))))
set_option maxRecDepth 100000 in
theorem cn_X11_literal {G : gG} {b : Nat} {a1 : Int32} {σ : gS} : CN vR G b 6 yX11_literal cX11_literal 6 none kV [.ref (b + 0), .int a1] σ (pX11_literal a1 σ) := by
  refine cn_of (own := RX11) rfl rfl (Nat.le_of_ble_eq_true rfl) ?_
  show GF vR G b (6, 0, 0) RX11 cX11_literal 6 none kV 0 [(0, .ref (b + 0)), (1, .int a1)] [] σ (pX11_literal a1 σ)
  unfold pX11_literal
  refine g_iconst (q := 1) dX11_literal_0 kI_0 rfl ?_
  refine g_istore_n (lr := [(0, .ref (b + 0)), (1, .int a1)]) (q := 2) dX11_literal_1 rfl (by decide) rfl rfl ?_
  refine g_bind (S := (Int32 × gS)) (hd := 28) (lvf := fun z1 => [(2, .int z1.1), (0, .ref (b + 0)), (1, .int a1)]) (stf := fun z1 => []) (σf := fun z1 => z1.2) ?_ (fun z1 => ?_)
  · refine g_loop (S := (Int32 × gS)) (lvf := fun z2 => [(2, .int z2.1), (0, .ref (b + 0)), (1, .int a1)]) (σf := fun z2 => z2.2) (fun z2 => ?_) ((0 : Int32), σ)
    refine g_aload_n (q := 3) 1 dX11_literal_2 rfl rfl rfl ?_
    refine g_bipush (q := 5) dX11_literal_3 kB_35 rfl ?_
    refine g_callO (As := [.int (35 : Int32)]) (st := []) (cn_X11_is) shX11 rfl cwX11_218 rfl dX11_literal_5 rfl (Nat.le_of_ble_eq_true rfl) (by decide) (kk_PI (fun v3 => ?_))
    refine g_if_eq (t := 28) (q := 11) dX11_literal_8 (by decide) rfl ?_ ?_
    · exact (g_leave (g_there ((z2.1, z2.2) : (Int32 × gS))))
    · refine g_iload_n (q := 12) 0 dX11_literal_11 rfl rfl rfl ?_
      refine g_bind (S := Int32) (hd := 20) (lvf := fun z5 => [(0, .ref (b + 0)), (1, .int a1)]) (stf := fun z5 => [.int z5]) (σf := fun z5 => z2.2) ?_ (fun z5 => ?_)
      · refine g_if_ne (t := 19) (q := 15) dX11_literal_12 (by decide) rfl ?_ ?_
        · refine g_iconst (q := 16) dX11_literal_15 kI_1 rfl ?_
          refine g_goto (t := 20) dX11_literal_16 (by decide) ?_
          refine g_sub (lr := [(0, .ref (b + 0)), (1, .int a1)]) [1, 2] rfl ?_
          exact (g_there ((1 : Int32) : Int32))
        · refine g_iconst (q := 20) dX11_literal_19 kI_0 rfl ?_
          refine g_sub (lr := [(0, .ref (b + 0)), (1, .int a1)]) [1, 2] rfl ?_
          exact (g_there ((0 : Int32) : Int32))
      · refine g_istore_n (lr := [(0, .ref (b + 0)), (1, .int a1)]) (q := 21) dX11_literal_20 rfl (by decide) rfl rfl ?_
        refine g_aload_n (q := 22) 1 dX11_literal_21 rfl rfl rfl ?_
        refine g_callO (As := []) (st := []) (cn_X11_goesOn) shX11 rfl cwX11_221 rfl dX11_literal_22 rfl (Nat.le_of_ble_eq_true rfl) (by decide) (kk_V (fun s7 => ?_))
        refine g_goto (t := 2) dX11_literal_25 (by decide) ?_
        exact (g_again ((z5, s7) : (Int32 × gS)))
  · refine g_aload_n (q := 29) 1 dX11_literal_28 rfl rfl rfl ?_
    refine g_getI (q := 32) fX11_codes dX11_literal_29 ww1086 rfl ?_
    refine g_leti (fun x8 => ?_)
    refine g_istore_n (lr := [(2, .int z1.1), (0, .ref (b + 0)), (1, .int a1)]) (q := 33) dX11_literal_32 rfl (by decide) rfl rfl ?_
    refine g_aload_n (q := 34) 2 dX11_literal_33 rfl rfl rfl ?_
    refine g_callO (As := []) (st := []) (cn_X11_expression) shX11 rfl cwX11_288 rfl dX11_literal_34 rfl (Nat.le_of_ble_eq_true rfl) (by decide) (kk_V (fun s10 => ?_))
    refine g_aload_n (q := 38) 2 dX11_literal_37 rfl rfl rfl ?_
    refine g_getI (q := 41) fX11_fault dX11_literal_38 ww1055 rfl ?_
    refine g_bind (S := Int32) (hd := 60) (lvf := fun z11 => [(3, .int x8), (2, .int z1.1), (0, .ref (b + 0)), (1, .int a1)]) (stf := fun z11 => [.int z11]) (σf := fun z11 => s10) ?_ (fun z11 => ?_)
    · refine g_if_le (t := 48) (q := 44) dX11_literal_41 (by decide) rfl ?_ ?_
      · refine g_aload_n (q := 49) 2 dX11_literal_48 rfl rfl rfl ?_
        refine g_getA (q := 52) fX11_tKind dX11_literal_49 ww1047 rfl ?_
        refine g_aload_n (q := 53) 2 dX11_literal_52 rfl rfl rfl ?_
        refine g_getI (q := 56) fX11_t dX11_literal_53 ww1053 rfl ?_
        refine g_iald (q := 57) (aX11_tKind) dX11_literal_56 rfl ?_
        refine g_bipush (q := 59) dX11_literal_57 kB_11 rfl ?_
        refine g_isub (q := 60) dX11_literal_59 rfl ?_
        exact (g_there ((s10.1 3 (s10.1 0 11).toNatClampNeg) - (11 : Int32) : Int32))
      · refine g_iconst (q := 45) dX11_literal_44 kI_0 rfl ?_
        refine g_goto (t := 60) dX11_literal_45 (by decide) ?_
        exact (g_there ((0 : Int32) : Int32))
    · refine g_istore (lr := [(3, .int x8), (2, .int z1.1), (0, .ref (b + 0)), (1, .int a1)]) (q := 62) dX11_literal_60 (by decide) rfl rfl ?_
      refine g_aload_n (q := 63) 3 dX11_literal_62 rfl rfl rfl ?_
      refine g_getI (q := 66) fX11_fault dX11_literal_63 ww1055 rfl ?_
      refine g_bind (S := gS) (hd := 85) (lvf := fun z12 => [(4, .int z11), (3, .int x8), (2, .int z1.1), (0, .ref (b + 0)), (1, .int a1)]) (stf := fun z12 => []) (σf := fun z12 => z12) ?_ (fun z12 => ?_)
      · refine g_if_ne (t := 85) (q := 69) dX11_literal_66 (by decide) rfl ?_ ?_
        · refine g_iload (q := 71) 0 dX11_literal_69 rfl rfl ?_
          refine g_if_lt (t := 80) (q := 74) dX11_literal_71 (by decide) rfl ?_ ?_
          · refine g_aload_n (q := 81) 3 dX11_literal_80 rfl rfl rfl ?_
            refine g_iconst (q := 82) dX11_literal_81 kI_1 rfl ?_
            refine g_callO (As := [.int (1 : Int32)]) (st := []) (cn_X11_fail) shX11 rfl cwX11_215 rfl dX11_literal_82 rfl (Nat.le_of_ble_eq_true rfl) (by decide) (kk_V (fun s14 => ?_))
            exact (g_there (s14 : gS))
          · refine g_iload (q := 76) 0 dX11_literal_74 rfl rfl ?_
            refine g_iconst (q := 77) dX11_literal_76 kI_3 rfl ?_
            refine g_icmp_le (t := 85) (q := 80) dX11_literal_77 (by decide) rfl ?_ ?_
            · exact (g_there (s10 : gS))
            · refine g_aload_n (q := 81) 3 dX11_literal_80 rfl rfl rfl ?_
              refine g_iconst (q := 82) dX11_literal_81 kI_1 rfl ?_
              refine g_callO (As := [.int (1 : Int32)]) (st := []) (cn_X11_fail) shX11 rfl cwX11_215 rfl dX11_literal_82 rfl (Nat.le_of_ble_eq_true rfl) (by decide) (kk_V (fun s16 => ?_))
              exact (g_there (s16 : gS))
        · exact (g_there (s10 : gS))
      · refine g_aload_n (q := 86) 3 dX11_literal_85 rfl rfl rfl ?_
        refine g_callO (As := []) (st := []) (cn_X11_goesOn) shX11 rfl cwX11_221 rfl dX11_literal_86 rfl (Nat.le_of_ble_eq_true rfl) (by decide) (kk_V (fun s18 => ?_))
        refine g_aload_n (q := 90) 3 dX11_literal_89 rfl rfl rfl ?_
        refine g_getI (q := 93) fX11_codes dX11_literal_90 ww1086 rfl ?_
        refine g_leti (fun x19 => ?_)
        refine g_istore (lr := [(4, .int z11), (3, .int x8), (2, .int z1.1), (0, .ref (b + 0)), (1, .int a1)]) (q := 95) dX11_literal_93 (by decide) rfl rfl ?_
        refine g_aload_n (q := 96) 4 dX11_literal_95 rfl rfl rfl ?_
        refine g_callO (As := []) (st := []) (cn_X11_expression) shX11 rfl cwX11_288 rfl dX11_literal_96 rfl (Nat.le_of_ble_eq_true rfl) (by decide) (kk_V (fun s21 => ?_))
        refine g_aload_n (q := 100) 4 dX11_literal_99 rfl rfl rfl ?_
        refine g_getI (q := 103) fX11_fault dX11_literal_100 ww1055 rfl ?_
        refine g_if_le (t := 107) (q := 106) dX11_literal_103 (by decide) rfl ?_ ?_
        · refine g_aload_n (q := 108) 4 dX11_literal_107 rfl rfl rfl ?_
          refine g_getA (q := 111) fX11_litSort dX11_literal_108 ww1080 rfl ?_
          refine g_aload_n (q := 112) 4 dX11_literal_111 rfl rfl rfl ?_
          refine g_getI (q := 115) fX11_lits dX11_literal_112 ww1079 rfl ?_
          refine g_iload (q := 117) 1 dX11_literal_115 rfl rfl ?_
          refine g_iast (q := 118) (aX11_litSort) dX11_literal_117 rfl (fun s22 => ?_)
          refine g_aload_n (q := 119) 4 dX11_literal_118 rfl rfl rfl ?_
          refine g_getA (q := 122) fX11_litNot dX11_literal_119 ww1081 rfl ?_
          refine g_aload_n (q := 123) 4 dX11_literal_122 rfl rfl rfl ?_
          refine g_getI (q := 126) fX11_lits dX11_literal_123 ww1079 rfl ?_
          refine g_iload_n (q := 127) 3 dX11_literal_126 rfl rfl rfl ?_
          refine g_zast (q := 128) (aX11_litNot) dX11_literal_127 rfl (fun s23 => ?_)
          refine g_aload_n (q := 129) 4 dX11_literal_128 rfl rfl rfl ?_
          refine g_getA (q := 132) fX11_litOr dX11_literal_129 ww1082 rfl ?_
          refine g_aload_n (q := 133) 4 dX11_literal_132 rfl rfl rfl ?_
          refine g_getI (q := 136) fX11_lits dX11_literal_133 ww1079 rfl ?_
          refine g_iload_n (q := 137) 5 dX11_literal_136 rfl rfl rfl ?_
          refine g_zast (q := 138) (aX11_litOr) dX11_literal_137 rfl (fun s24 => ?_)
          refine g_aload_n (q := 139) 4 dX11_literal_138 rfl rfl rfl ?_
          refine g_getA (q := 142) fX11_litLeft dX11_literal_139 ww1083 rfl ?_
          refine g_aload_n (q := 143) 4 dX11_literal_142 rfl rfl rfl ?_
          refine g_getI (q := 146) fX11_lits dX11_literal_143 ww1079 rfl ?_
          refine g_iload_n (q := 147) 2 dX11_literal_146 rfl rfl rfl ?_
          refine g_iast (q := 148) (aX11_litLeft) dX11_literal_147 rfl (fun s25 => ?_)
          refine g_aload_n (q := 149) 4 dX11_literal_148 rfl rfl rfl ?_
          refine g_getA (q := 152) fX11_litRight dX11_literal_149 ww1084 rfl ?_
          refine g_aload_n (q := 153) 4 dX11_literal_152 rfl rfl rfl ?_
          refine g_getI (q := 156) fX11_lits dX11_literal_153 ww1079 rfl ?_
          refine g_iload (q := 158) 0 dX11_literal_156 rfl rfl ?_
          refine g_iast (q := 159) (aX11_litRight) dX11_literal_158 rfl (fun s26 => ?_)
          refine g_aload_n (q := 160) 4 dX11_literal_159 rfl rfl rfl ?_
          refine g_getA (q := 163) fX11_litEnd dX11_literal_160 ww1085 rfl ?_
          refine g_aload_n (q := 164) 4 dX11_literal_163 rfl rfl rfl ?_
          refine g_getI (q := 167) fX11_lits dX11_literal_164 ww1079 rfl ?_
          refine g_aload_n (q := 168) 4 dX11_literal_167 rfl rfl rfl ?_
          refine g_getI (q := 171) fX11_codes dX11_literal_168 ww1086 rfl ?_
          refine g_iast (q := 172) (aX11_litEnd) dX11_literal_171 rfl (fun s27 => ?_)
          refine g_aload_n (q := 173) 4 dX11_literal_172 rfl rfl rfl ?_
          refine g_dup (q := 174) dX11_literal_173 rfl rfl ?_
          refine g_getI (q := 177) fX11_lits dX11_literal_174 ww1079 rfl ?_
          refine g_iconst (q := 178) dX11_literal_177 kI_1 rfl ?_
          refine g_iadd (q := 179) dX11_literal_178 rfl ?_
          refine g_putI (q := 182) fX11_lits pwX11_lits okTX11 dX11_literal_179 ww1079 rfl (fun s28 => ?_)
          exact (g_vret dX11_literal_182)
        · exact (g_vret dX11_literal_106)
noncomputable def pX11_condition (a1 : Int32) (σ : gS) : Option (gS) := gx a1 52 (lt' (wI σ 20 a1.toNatClampNeg (σ.1 0 37)) (fun s1 => bn1 (pX11_must (21 : Int32) s1) (fun s3 => bn1 (lpP (fun (z5 : (Int32 × Int32 × gS)) => if z5.1 = 0 then some (.inr z5.2.2) else if (z5.2.2.1 0 13) = 0 then bn1 (pX11_literal z5.2.1 z5.2.2) (fun s7 => bn1 (pX11_is (33 : Int32) s7) (fun v8 => bn1 (if v8 = 0 then bn1 (pX11_is (34 : Int32) s7) (fun v11 => if v11 = 0 then some (0 : Int32) else some (1 : Int32)) else some (1 : Int32)) (fun (z10 : Int32) => if z10 = 0 then some (.inl (z10, v8, s7)) else bn1 (pX11_goesOn s7) (fun s14 => some (.inl (z10, v8, s14)))))) else some (.inr z5.2.2)) ((1 : Int32), (1 : Int32), s3)) (fun (z4 : gS) => gx a1 52 (lt' (wI z4 21 a1.toNatClampNeg (z4.1 0 37)) (fun s15 => some s15))))))
set_option maxRecDepth 100000 in
theorem cn_X11_condition {G : gG} {b : Nat} {a1 : Int32} {σ : gS} : CN vR G b 7 yX11_condition cX11_condition 4 none kV [.ref (b + 0), .int a1] σ (pX11_condition a1 σ) := by
  refine cn_of (own := RX11) rfl rfl (Nat.le_of_ble_eq_true rfl) ?_
  show GF vR G b (7, 0, 0) RX11 cX11_condition 4 none kV 0 [(0, .ref (b + 0)), (1, .int a1)] [] σ (pX11_condition a1 σ)
  unfold pX11_condition
  refine g_aload_n (q := 1) 0 dX11_condition_0 rfl rfl rfl ?_
  refine g_getA (q := 4) fX11_litFirst dX11_condition_1 ww1075 rfl ?_
  refine g_iload_n (q := 5) 1 dX11_condition_4 rfl rfl rfl ?_
  refine g_aload_n (q := 6) 0 dX11_condition_5 rfl rfl rfl ?_
  refine g_getI (q := 9) fX11_lits dX11_condition_6 ww1079 rfl ?_
  refine g_iast (q := 10) (aX11_litFirst) dX11_condition_9 rfl (fun s1 => ?_)
  refine g_aload_n (q := 11) 0 dX11_condition_10 rfl rfl rfl ?_
  refine g_bipush (q := 13) dX11_condition_11 kB_21 rfl ?_
  refine g_callO (As := [.int (21 : Int32)]) (st := []) (cn_X11_must) shX11 rfl cwX11_263 rfl dX11_condition_13 rfl (Nat.le_of_ble_eq_true rfl) (by decide) (kk_V (fun s3 => ?_))
  refine g_iconst (q := 17) dX11_condition_16 kI_1 rfl ?_
  refine g_istore_n (lr := [(0, .ref (b + 0)), (1, .int a1)]) (q := 18) dX11_condition_17 rfl (by decide) rfl rfl ?_
  refine g_iconst (q := 19) dX11_condition_18 kI_1 rfl ?_
  refine g_istore_n (lr := [(2, .int (1 : Int32)), (0, .ref (b + 0)), (1, .int a1)]) (q := 20) dX11_condition_19 rfl (by decide) rfl rfl ?_
  refine g_bind (S := gS) (hd := 73) (lvf := fun z4 => [(0, .ref (b + 0)), (1, .int a1)]) (stf := fun z4 => []) (σf := fun z4 => z4) ?_ (fun z4 => ?_)
  · refine g_loop (S := (Int32 × Int32 × gS)) (lvf := fun z5 => [(3, .int z5.1), (2, .int z5.2.1), (0, .ref (b + 0)), (1, .int a1)]) (σf := fun z5 => z5.2.2) (fun z5 => ?_) ((1 : Int32), (1 : Int32), s3)
    refine g_iload_n (q := 21) 0 dX11_condition_20 rfl rfl rfl ?_
    refine g_if_eq (t := 73) (q := 24) dX11_condition_21 (by decide) rfl ?_ ?_
    · refine g_sub (lr := [(0, .ref (b + 0)), (1, .int a1)]) [2, 3] rfl ?_
      exact (g_leave (g_there (z5.2.2 : gS)))
    · refine g_aload_n (q := 25) 2 dX11_condition_24 rfl rfl rfl ?_
      refine g_getI (q := 28) fX11_fault dX11_condition_25 ww1055 rfl ?_
      refine g_if_ne (t := 73) (q := 31) dX11_condition_28 (by decide) rfl ?_ ?_
      · refine g_aload_n (q := 32) 2 dX11_condition_31 rfl rfl rfl ?_
        refine g_iload_n (q := 33) 1 dX11_condition_32 rfl rfl rfl ?_
        refine g_callO (As := [.int z5.2.1]) (st := []) (cn_X11_literal) shX11 rfl cwX11_270 rfl dX11_condition_33 rfl (Nat.le_of_ble_eq_true rfl) (by decide) (kk_V (fun s7 => ?_))
        refine g_aload_n (q := 37) 2 dX11_condition_36 rfl rfl rfl ?_
        refine g_bipush (q := 39) dX11_condition_37 kB_33 rfl ?_
        refine g_callO (As := [.int (33 : Int32)]) (st := []) (cn_X11_is) shX11 rfl cwX11_218 rfl dX11_condition_39 rfl (Nat.le_of_ble_eq_true rfl) (by decide) (kk_PI (fun v8 => ?_))
        refine g_istore_n (lr := [(3, .int z5.1), (0, .ref (b + 0)), (1, .int a1)]) (q := 43) dX11_condition_42 rfl (by decide) rfl rfl ?_
        refine g_iload_n (q := 44) 0 dX11_condition_43 rfl rfl rfl ?_
        refine g_bind (S := Int32) (hd := 61) (lvf := fun z10 => [(2, .int v8), (0, .ref (b + 0)), (1, .int a1)]) (stf := fun z10 => [.int z10]) (σf := fun z10 => s7) ?_ (fun z10 => ?_)
        · refine g_if_ne (t := 56) (q := 47) dX11_condition_44 (by decide) rfl ?_ ?_
          · refine g_aload_n (q := 48) 2 dX11_condition_47 rfl rfl rfl ?_
            refine g_bipush (q := 50) dX11_condition_48 kB_34 rfl ?_
            refine g_callO (As := [.int (34 : Int32)]) (st := []) (cn_X11_is) shX11 rfl cwX11_218 rfl dX11_condition_50 rfl (Nat.le_of_ble_eq_true rfl) (by decide) (kk_PI (fun v11 => ?_))
            refine g_if_eq (t := 60) (q := 56) dX11_condition_53 (by decide) rfl ?_ ?_
            · refine g_iconst (q := 61) dX11_condition_60 kI_0 rfl ?_
              refine g_sub (lr := [(2, .int v8), (0, .ref (b + 0)), (1, .int a1)]) [0, 2, 3] rfl ?_
              exact (g_there ((0 : Int32) : Int32))
            · refine g_iconst (q := 57) dX11_condition_56 kI_1 rfl ?_
              refine g_goto (t := 61) dX11_condition_57 (by decide) ?_
              refine g_sub (lr := [(2, .int v8), (0, .ref (b + 0)), (1, .int a1)]) [0, 2, 3] rfl ?_
              exact (g_there ((1 : Int32) : Int32))
          · refine g_iconst (q := 57) dX11_condition_56 kI_1 rfl ?_
            refine g_goto (t := 61) dX11_condition_57 (by decide) ?_
            refine g_sub (lr := [(2, .int v8), (0, .ref (b + 0)), (1, .int a1)]) [0, 2, 3] rfl ?_
            exact (g_there ((1 : Int32) : Int32))
        · refine g_istore_n (lr := [(2, .int v8), (0, .ref (b + 0)), (1, .int a1)]) (q := 62) dX11_condition_61 rfl (by decide) rfl rfl ?_
          refine g_iload_n (q := 63) 0 dX11_condition_62 rfl rfl rfl ?_
          refine g_if_eq (t := 20) (q := 66) dX11_condition_63 (by decide) rfl ?_ ?_
          · exact (g_again ((z10, v8, s7) : (Int32 × Int32 × gS)))
          · refine g_aload_n (q := 67) 2 dX11_condition_66 rfl rfl rfl ?_
            refine g_callO (As := []) (st := []) (cn_X11_goesOn) shX11 rfl cwX11_221 rfl dX11_condition_67 rfl (Nat.le_of_ble_eq_true rfl) (by decide) (kk_V (fun s14 => ?_))
            refine g_goto (t := 20) dX11_condition_70 (by decide) ?_
            exact (g_again ((z10, v8, s14) : (Int32 × Int32 × gS)))
      · refine g_sub (lr := [(0, .ref (b + 0)), (1, .int a1)]) [2, 3] rfl ?_
        exact (g_leave (g_there (z5.2.2 : gS)))
  · refine g_aload_n (q := 74) 0 dX11_condition_73 rfl rfl rfl ?_
    refine g_getA (q := 77) fX11_litLast dX11_condition_74 ww1076 rfl ?_
    refine g_iload_n (q := 78) 1 dX11_condition_77 rfl rfl rfl ?_
    refine g_aload_n (q := 79) 0 dX11_condition_78 rfl rfl rfl ?_
    refine g_getI (q := 82) fX11_lits dX11_condition_79 ww1079 rfl ?_
    refine g_iast (q := 83) (aX11_litLast) dX11_condition_82 rfl (fun s15 => ?_)
    exact (g_vret dX11_condition_83)
noncomputable def pX11_tellSay (σ : gS) : Option (gS) := bn1 (pX11_goesOn σ) (fun s2 => bn2 (pX11_named s2) (fun v3 s4 => bn1 (if (s4.1 0 13) = 0 then gx (s4.1 0 11) 403 (if (s4.1 3 (s4.1 0 11).toNatClampNeg) < (26 : Int32) then bn1 (pX11_fail (1 : Int32) s4) (fun s7 => some s7) else gx (s4.1 0 11) 403 (if (s4.1 3 (s4.1 0 11).toNatClampNeg) ≤ (32 : Int32) then some s4 else bn1 (pX11_fail (1 : Int32) s4) (fun s9 => some s9))) else some s4) (fun (z5 : gS) => if (z5.1 0 13) ≤ 0 then gx (z5.1 0 19) 2 (gx (z5.1 0 11) 403 (gx (((16 : Int32) * (z5.1 0 19)) + (z5.1 12 (z5.1 0 19).toNatClampNeg)) 32 (lt' (wI z5 15 (((16 : Int32) * (z5.1 0 19)) + (z5.1 12 (z5.1 0 19).toNatClampNeg)).toNatClampNeg ((z5.1 3 (z5.1 0 11).toNatClampNeg) - (26 : Int32))) (fun s10 => bn1 (pX11_goesOn s10) (fun s12 => gx (s12.1 0 19) 2 (bn1 (pX11_condition ((((26 : Int32) * (s12.1 0 19)) + (6 : Int32)) + (s12.1 12 (s12.1 0 19).toNatClampNeg)) s12) (fun s14 => bn1 (pX11_must (4 : Int32) s14) (fun s16 => if (s16.1 0 13) ≤ 0 then gx (s16.1 0 19) 2 (bn1 (pX11_knows v3 (1 : Int32) (s16.1 12 (s16.1 0 19).toNatClampNeg) s16) (fun s18 => gx (s18.1 0 19) 2 (gx (s18.1 0 19) 2 (lt' (wI s18 12 (s18.1 0 19).toNatClampNeg ((s18.1 12 (s18.1 0 19).toNatClampNeg) + (1 : Int32))) (fun s19 => some s19))))) else some s16)))))))) else some z5)))
set_option maxRecDepth 100000 in
theorem cn_X11_tellSay {G : gG} {b : Nat}  {σ : gS} : CN vR G b 8 yX11_tellSay cX11_tellSay 2 none kV [.ref (b + 0)] σ (pX11_tellSay σ) := by
  refine cn_of (own := RX11) rfl rfl (Nat.le_of_ble_eq_true rfl) ?_
  show GF vR G b (8, 0, 0) RX11 cX11_tellSay 2 none kV 0 [(0, .ref (b + 0))] [] σ (pX11_tellSay σ)
  unfold pX11_tellSay
  refine g_aload_n (q := 1) 0 dX11_tellSay_0 rfl rfl rfl ?_
  refine g_callO (As := []) (st := []) (cn_X11_goesOn) shX11 rfl cwX11_221 rfl dX11_tellSay_1 rfl (Nat.le_of_ble_eq_true rfl) (by decide) (kk_V (fun s2 => ?_))
  refine g_aload_n (q := 5) 0 dX11_tellSay_4 rfl rfl rfl ?_
  refine g_callO (As := []) (st := []) (cn_X11_named) shX11 rfl cwX11_274 rfl dX11_tellSay_5 rfl (Nat.le_of_ble_eq_true rfl) (by decide) (kk_I (fun v3 s4 => ?_))
  refine g_istore_n (lr := [(0, .ref (b + 0))]) (q := 9) dX11_tellSay_8 rfl (by decide) rfl rfl ?_
  refine g_aload_n (q := 10) 1 dX11_tellSay_9 rfl rfl rfl ?_
  refine g_getI (q := 13) fX11_fault dX11_tellSay_10 ww1055 rfl ?_
  refine g_bind (S := gS) (hd := 49) (lvf := fun z5 => [(1, .int v3), (0, .ref (b + 0))]) (stf := fun z5 => []) (σf := fun z5 => z5) ?_ (fun z5 => ?_)
  · refine g_if_ne (t := 49) (q := 16) dX11_tellSay_13 (by decide) rfl ?_ ?_
    · refine g_aload_n (q := 17) 1 dX11_tellSay_16 rfl rfl rfl ?_
      refine g_getA (q := 20) fX11_tKind dX11_tellSay_17 ww1047 rfl ?_
      refine g_aload_n (q := 21) 1 dX11_tellSay_20 rfl rfl rfl ?_
      refine g_getI (q := 24) fX11_t dX11_tellSay_21 ww1053 rfl ?_
      refine g_iald (q := 25) (aX11_tKind) dX11_tellSay_24 rfl ?_
      refine g_bipush (q := 27) dX11_tellSay_25 kB_26 rfl ?_
      refine g_icmp_lt (t := 44) (q := 30) dX11_tellSay_27 (by decide) rfl ?_ ?_
      · refine g_aload_n (q := 45) 1 dX11_tellSay_44 rfl rfl rfl ?_
        refine g_iconst (q := 46) dX11_tellSay_45 kI_1 rfl ?_
        refine g_callO (As := [.int (1 : Int32)]) (st := []) (cn_X11_fail) shX11 rfl cwX11_215 rfl dX11_tellSay_46 rfl (Nat.le_of_ble_eq_true rfl) (by decide) (kk_V (fun s7 => ?_))
        exact (g_there (s7 : gS))
      · refine g_aload_n (q := 31) 1 dX11_tellSay_30 rfl rfl rfl ?_
        refine g_getA (q := 34) fX11_tKind dX11_tellSay_31 ww1047 rfl ?_
        refine g_aload_n (q := 35) 1 dX11_tellSay_34 rfl rfl rfl ?_
        refine g_getI (q := 38) fX11_t dX11_tellSay_35 ww1053 rfl ?_
        refine g_iald (q := 39) (aX11_tKind) dX11_tellSay_38 rfl ?_
        refine g_bipush (q := 41) dX11_tellSay_39 kB_32 rfl ?_
        refine g_icmp_le (t := 49) (q := 44) dX11_tellSay_41 (by decide) rfl ?_ ?_
        · exact (g_there (s4 : gS))
        · refine g_aload_n (q := 45) 1 dX11_tellSay_44 rfl rfl rfl ?_
          refine g_iconst (q := 46) dX11_tellSay_45 kI_1 rfl ?_
          refine g_callO (As := [.int (1 : Int32)]) (st := []) (cn_X11_fail) shX11 rfl cwX11_215 rfl dX11_tellSay_46 rfl (Nat.le_of_ble_eq_true rfl) (by decide) (kk_V (fun s9 => ?_))
          exact (g_there (s9 : gS))
    · exact (g_there (s4 : gS))
  · refine g_aload_n (q := 50) 1 dX11_tellSay_49 rfl rfl rfl ?_
    refine g_getI (q := 53) fX11_fault dX11_tellSay_50 ww1055 rfl ?_
    refine g_if_le (t := 57) (q := 56) dX11_tellSay_53 (by decide) rfl ?_ ?_
    · refine g_aload_n (q := 58) 1 dX11_tellSay_57 rfl rfl rfl ?_
      refine g_getA (q := 61) fX11_sortOf dX11_tellSay_58 ww1070 rfl ?_
      refine g_bipush (q := 63) dX11_tellSay_61 kB_16 rfl ?_
      refine g_aload_n (q := 64) 1 dX11_tellSay_63 rfl rfl rfl ?_
      refine g_getI (q := 67) fX11_side dX11_tellSay_64 ww1061 rfl ?_
      refine g_imul (q := 68) dX11_tellSay_67 rfl ?_
      refine g_aload_n (q := 69) 1 dX11_tellSay_68 rfl rfl rfl ?_
      refine g_getA (q := 72) fX11_says dX11_tellSay_69 ww1067 rfl ?_
      refine g_aload_n (q := 73) 1 dX11_tellSay_72 rfl rfl rfl ?_
      refine g_getI (q := 76) fX11_side dX11_tellSay_73 ww1061 rfl ?_
      refine g_iald (q := 77) (aX11_says) dX11_tellSay_76 rfl ?_
      refine g_iadd (q := 78) dX11_tellSay_77 rfl ?_
      refine g_aload_n (q := 79) 1 dX11_tellSay_78 rfl rfl rfl ?_
      refine g_getA (q := 82) fX11_tKind dX11_tellSay_79 ww1047 rfl ?_
      refine g_aload_n (q := 83) 1 dX11_tellSay_82 rfl rfl rfl ?_
      refine g_getI (q := 86) fX11_t dX11_tellSay_83 ww1053 rfl ?_
      refine g_iald (q := 87) (aX11_tKind) dX11_tellSay_86 rfl ?_
      refine g_bipush (q := 89) dX11_tellSay_87 kB_26 rfl ?_
      refine g_isub (q := 90) dX11_tellSay_89 rfl ?_
      refine g_iast (q := 91) (aX11_sortOf) dX11_tellSay_90 rfl (fun s10 => ?_)
      refine g_aload_n (q := 92) 1 dX11_tellSay_91 rfl rfl rfl ?_
      refine g_callO (As := []) (st := []) (cn_X11_goesOn) shX11 rfl cwX11_221 rfl dX11_tellSay_92 rfl (Nat.le_of_ble_eq_true rfl) (by decide) (kk_V (fun s12 => ?_))
      refine g_aload_n (q := 96) 1 dX11_tellSay_95 rfl rfl rfl ?_
      refine g_bipush (q := 98) dX11_tellSay_96 kB_26 rfl ?_
      refine g_aload_n (q := 99) 1 dX11_tellSay_98 rfl rfl rfl ?_
      refine g_getI (q := 102) fX11_side dX11_tellSay_99 ww1061 rfl ?_
      refine g_imul (q := 103) dX11_tellSay_102 rfl ?_
      refine g_bipush (q := 105) dX11_tellSay_103 kB_6 rfl ?_
      refine g_iadd (q := 106) dX11_tellSay_105 rfl ?_
      refine g_aload_n (q := 107) 1 dX11_tellSay_106 rfl rfl rfl ?_
      refine g_getA (q := 110) fX11_says dX11_tellSay_107 ww1067 rfl ?_
      refine g_aload_n (q := 111) 1 dX11_tellSay_110 rfl rfl rfl ?_
      refine g_getI (q := 114) fX11_side dX11_tellSay_111 ww1061 rfl ?_
      refine g_iald (q := 115) (aX11_says) dX11_tellSay_114 rfl ?_
      refine g_iadd (q := 116) dX11_tellSay_115 rfl ?_
      refine g_callO (As := [.int ((((26 : Int32) * (s12.1 0 19)) + (6 : Int32)) + (s12.1 12 (s12.1 0 19).toNatClampNeg))]) (st := []) (cn_X11_condition) shX11 rfl cwX11_278 rfl dX11_tellSay_116 rfl (Nat.le_of_ble_eq_true rfl) (by decide) (kk_V (fun s14 => ?_))
      refine g_aload_n (q := 120) 1 dX11_tellSay_119 rfl rfl rfl ?_
      refine g_iconst (q := 121) dX11_tellSay_120 kI_4 rfl ?_
      refine g_callO (As := [.int (4 : Int32)]) (st := []) (cn_X11_must) shX11 rfl cwX11_263 rfl dX11_tellSay_121 rfl (Nat.le_of_ble_eq_true rfl) (by decide) (kk_V (fun s16 => ?_))
      refine g_aload_n (q := 125) 1 dX11_tellSay_124 rfl rfl rfl ?_
      refine g_getI (q := 128) fX11_fault dX11_tellSay_125 ww1055 rfl ?_
      refine g_if_le (t := 132) (q := 131) dX11_tellSay_128 (by decide) rfl ?_ ?_
      · refine g_aload_n (q := 133) 1 dX11_tellSay_132 rfl rfl rfl ?_
        refine g_iload_n (q := 134) 0 dX11_tellSay_133 rfl rfl rfl ?_
        refine g_iconst (q := 135) dX11_tellSay_134 kI_1 rfl ?_
        refine g_aload_n (q := 136) 1 dX11_tellSay_135 rfl rfl rfl ?_
        refine g_getA (q := 139) fX11_says dX11_tellSay_136 ww1067 rfl ?_
        refine g_aload_n (q := 140) 1 dX11_tellSay_139 rfl rfl rfl ?_
        refine g_getI (q := 143) fX11_side dX11_tellSay_140 ww1061 rfl ?_
        refine g_iald (q := 144) (aX11_says) dX11_tellSay_143 rfl ?_
        refine g_callO (As := [.int v3, .int (1 : Int32), .int (s16.1 12 (s16.1 0 19).toNatClampNeg)]) (st := []) (cn_X11_knows) shX11 rfl cwX11_281 rfl dX11_tellSay_144 rfl (Nat.le_of_ble_eq_true rfl) (by decide) (kk_V (fun s18 => ?_))
        refine g_aload_n (q := 148) 1 dX11_tellSay_147 rfl rfl rfl ?_
        refine g_getA (q := 151) fX11_says dX11_tellSay_148 ww1067 rfl ?_
        refine g_aload_n (q := 152) 1 dX11_tellSay_151 rfl rfl rfl ?_
        refine g_getI (q := 155) fX11_side dX11_tellSay_152 ww1061 rfl ?_
        refine g_dup2 (q := 156) dX11_tellSay_155 rfl rfl rfl ?_
        refine g_iald (q := 157) (aX11_says) dX11_tellSay_156 rfl ?_
        refine g_iconst (q := 158) dX11_tellSay_157 kI_1 rfl ?_
        refine g_iadd (q := 159) dX11_tellSay_158 rfl ?_
        refine g_iast (q := 160) (aX11_says) dX11_tellSay_159 rfl (fun s19 => ?_)
        exact (g_vret dX11_tellSay_160)
      · exact (g_vret dX11_tellSay_131)
    · exact (g_vret dX11_tellSay_56)
noncomputable def pX11_tellSign (σ : gS) : Option (gS) := bn1 (pX11_goesOn σ) (fun s2 => bn2 (pX11_named s2) (fun v3 s4 => gx (s4.1 0 19) 2 (bn1 (pX11_condition (((26 : Int32) * (s4.1 0 19)) + (s4.1 11 (s4.1 0 19).toNatClampNeg)) s4) (fun s6 => bn1 (pX11_must (4 : Int32) s6) (fun s8 => if (s8.1 0 13) ≤ 0 then gx (s8.1 0 19) 2 (bn1 (pX11_knows v3 (0 : Int32) (s8.1 11 (s8.1 0 19).toNatClampNeg) s8) (fun s10 => gx (s10.1 0 19) 2 (gx (s10.1 0 19) 2 (lt' (wI s10 11 (s10.1 0 19).toNatClampNeg ((s10.1 11 (s10.1 0 19).toNatClampNeg) + (1 : Int32))) (fun s11 => some s11))))) else some s8)))))
set_option maxRecDepth 100000 in
theorem cn_X11_tellSign {G : gG} {b : Nat}  {σ : gS} : CN vR G b 8 yX11_tellSign cX11_tellSign 2 none kV [.ref (b + 0)] σ (pX11_tellSign σ) := by
  refine cn_of (own := RX11) rfl rfl (Nat.le_of_ble_eq_true rfl) ?_
  show GF vR G b (8, 0, 0) RX11 cX11_tellSign 2 none kV 0 [(0, .ref (b + 0))] [] σ (pX11_tellSign σ)
  unfold pX11_tellSign
  refine g_aload_n (q := 1) 0 dX11_tellSign_0 rfl rfl rfl ?_
  refine g_callO (As := []) (st := []) (cn_X11_goesOn) shX11 rfl cwX11_221 rfl dX11_tellSign_1 rfl (Nat.le_of_ble_eq_true rfl) (by decide) (kk_V (fun s2 => ?_))
  refine g_aload_n (q := 5) 0 dX11_tellSign_4 rfl rfl rfl ?_
  refine g_callO (As := []) (st := []) (cn_X11_named) shX11 rfl cwX11_274 rfl dX11_tellSign_5 rfl (Nat.le_of_ble_eq_true rfl) (by decide) (kk_I (fun v3 s4 => ?_))
  refine g_istore_n (lr := [(0, .ref (b + 0))]) (q := 9) dX11_tellSign_8 rfl (by decide) rfl rfl ?_
  refine g_aload_n (q := 10) 1 dX11_tellSign_9 rfl rfl rfl ?_
  refine g_bipush (q := 12) dX11_tellSign_10 kB_26 rfl ?_
  refine g_aload_n (q := 13) 1 dX11_tellSign_12 rfl rfl rfl ?_
  refine g_getI (q := 16) fX11_side dX11_tellSign_13 ww1061 rfl ?_
  refine g_imul (q := 17) dX11_tellSign_16 rfl ?_
  refine g_aload_n (q := 18) 1 dX11_tellSign_17 rfl rfl rfl ?_
  refine g_getA (q := 21) fX11_signs dX11_tellSign_18 ww1066 rfl ?_
  refine g_aload_n (q := 22) 1 dX11_tellSign_21 rfl rfl rfl ?_
  refine g_getI (q := 25) fX11_side dX11_tellSign_22 ww1061 rfl ?_
  refine g_iald (q := 26) (aX11_signs) dX11_tellSign_25 rfl ?_
  refine g_iadd (q := 27) dX11_tellSign_26 rfl ?_
  refine g_callO (As := [.int (((26 : Int32) * (s4.1 0 19)) + (s4.1 11 (s4.1 0 19).toNatClampNeg))]) (st := []) (cn_X11_condition) shX11 rfl cwX11_278 rfl dX11_tellSign_27 rfl (Nat.le_of_ble_eq_true rfl) (by decide) (kk_V (fun s6 => ?_))
  refine g_aload_n (q := 31) 1 dX11_tellSign_30 rfl rfl rfl ?_
  refine g_iconst (q := 32) dX11_tellSign_31 kI_4 rfl ?_
  refine g_callO (As := [.int (4 : Int32)]) (st := []) (cn_X11_must) shX11 rfl cwX11_263 rfl dX11_tellSign_32 rfl (Nat.le_of_ble_eq_true rfl) (by decide) (kk_V (fun s8 => ?_))
  refine g_aload_n (q := 36) 1 dX11_tellSign_35 rfl rfl rfl ?_
  refine g_getI (q := 39) fX11_fault dX11_tellSign_36 ww1055 rfl ?_
  refine g_if_le (t := 43) (q := 42) dX11_tellSign_39 (by decide) rfl ?_ ?_
  · refine g_aload_n (q := 44) 1 dX11_tellSign_43 rfl rfl rfl ?_
    refine g_iload_n (q := 45) 0 dX11_tellSign_44 rfl rfl rfl ?_
    refine g_iconst (q := 46) dX11_tellSign_45 kI_0 rfl ?_
    refine g_aload_n (q := 47) 1 dX11_tellSign_46 rfl rfl rfl ?_
    refine g_getA (q := 50) fX11_signs dX11_tellSign_47 ww1066 rfl ?_
    refine g_aload_n (q := 51) 1 dX11_tellSign_50 rfl rfl rfl ?_
    refine g_getI (q := 54) fX11_side dX11_tellSign_51 ww1061 rfl ?_
    refine g_iald (q := 55) (aX11_signs) dX11_tellSign_54 rfl ?_
    refine g_callO (As := [.int v3, .int (0 : Int32), .int (s8.1 11 (s8.1 0 19).toNatClampNeg)]) (st := []) (cn_X11_knows) shX11 rfl cwX11_281 rfl dX11_tellSign_55 rfl (Nat.le_of_ble_eq_true rfl) (by decide) (kk_V (fun s10 => ?_))
    refine g_aload_n (q := 59) 1 dX11_tellSign_58 rfl rfl rfl ?_
    refine g_getA (q := 62) fX11_signs dX11_tellSign_59 ww1066 rfl ?_
    refine g_aload_n (q := 63) 1 dX11_tellSign_62 rfl rfl rfl ?_
    refine g_getI (q := 66) fX11_side dX11_tellSign_63 ww1061 rfl ?_
    refine g_dup2 (q := 67) dX11_tellSign_66 rfl rfl rfl ?_
    refine g_iald (q := 68) (aX11_signs) dX11_tellSign_67 rfl ?_
    refine g_iconst (q := 69) dX11_tellSign_68 kI_1 rfl ?_
    refine g_iadd (q := 70) dX11_tellSign_69 rfl ?_
    refine g_iast (q := 71) (aX11_signs) dX11_tellSign_70 rfl (fun s11 => ?_)
    exact (g_vret dX11_tellSign_71)
  · exact (g_vret dX11_tellSign_42)
noncomputable def pX11_known (a1 : Int32) (σ : gS) : Option (Int32 × gS) := lt' (σ.1 0 11) (fun x1 => bn1 (pX11_must (1 : Int32) σ) (fun s3 => if (s3.1 0 13) ≤ 0 then bn1 (lpP (fun (z5 : (Int32 × Int32)) => if (s3.1 0 20) ≤ z5.1 then some (.inr z5.2) else if z5.2 = (-1 : Int32) then gx z5.1 40 (gx x1 403 (if (lg_cmp (s3.2.1 8 z5.1.toNatClampNeg) (s3.2.1 6 x1.toNatClampNeg)) = 0 then gx z5.1 40 (if (s3.1 9 z5.1.toNatClampNeg) = a1 then gx z5.1 40 (lt' (s3.1 10 z5.1.toNatClampNeg) (fun x6 => lt' (z5.1 + (1 : Int32)) (fun x7 => some (.inl (x7, x6))))) else lt' (z5.1 + (1 : Int32)) (fun x8 => some (.inl (x8, z5.2)))) else lt' (z5.1 + (1 : Int32)) (fun x9 => some (.inl (x9, z5.2))))) else lt' (z5.1 + (1 : Int32)) (fun x10 => some (.inl (x10, z5.2)))) ((0 : Int32), (-1 : Int32))) (fun (z4 : Int32) => if z4 = (-1 : Int32) then bn1 (pX11_wrong (4 : Int32) x1 s3) (fun s12 => some (z4, s12)) else some (z4, s3)) else some ((-1 : Int32), s3)))
set_option maxRecDepth 100000 in
theorem cn_X11_known {G : gG} {b : Nat} {a1 : Int32} {σ : gS} : CN vR G b 4 yX11_known cX11_known 5 (some .int) kI [.ref (b + 0), .int a1] σ (pX11_known a1 σ) := by
  refine cn_of (own := RX11) rfl rfl (Nat.le_of_ble_eq_true rfl) ?_
  show GF vR G b (4, 0, 0) RX11 cX11_known 5 (some .int) kI 0 [(0, .ref (b + 0)), (1, .int a1)] [] σ (pX11_known a1 σ)
  unfold pX11_known
  refine g_aload_n (q := 1) 0 dX11_known_0 rfl rfl rfl ?_
  refine g_getI (q := 4) fX11_t dX11_known_1 ww1053 rfl ?_
  refine g_leti (fun x1 => ?_)
  refine g_istore_n (lr := [(0, .ref (b + 0)), (1, .int a1)]) (q := 5) dX11_known_4 rfl (by decide) rfl rfl ?_
  refine g_aload_n (q := 6) 1 dX11_known_5 rfl rfl rfl ?_
  refine g_iconst (q := 7) dX11_known_6 kI_1 rfl ?_
  refine g_callO (As := [.int (1 : Int32)]) (st := []) (cn_X11_must) shX11 rfl cwX11_263 rfl dX11_known_7 rfl (Nat.le_of_ble_eq_true rfl) (by decide) (kk_V (fun s3 => ?_))
  refine g_aload_n (q := 11) 1 dX11_known_10 rfl rfl rfl ?_
  refine g_getI (q := 14) fX11_fault dX11_known_11 ww1055 rfl ?_
  refine g_if_le (t := 19) (q := 17) dX11_known_14 (by decide) rfl ?_ ?_
  · refine g_iconst (q := 20) dX11_known_19 kI_m1 rfl ?_
    refine g_istore_n (lr := [(2, .int x1), (0, .ref (b + 0)), (1, .int a1)]) (q := 21) dX11_known_20 rfl (by decide) rfl rfl ?_
    refine g_iconst (q := 22) dX11_known_21 kI_0 rfl ?_
    refine g_istore (lr := [(3, .int (-1 : Int32)), (2, .int x1), (0, .ref (b + 0)), (1, .int a1)]) (q := 24) dX11_known_22 (by decide) rfl rfl ?_
    refine g_bind (S := Int32) (hd := 80) (lvf := fun z4 => [(3, .int z4), (2, .int x1), (0, .ref (b + 0))]) (stf := fun z4 => []) (σf := fun z4 => s3) ?_ (fun z4 => ?_)
    · refine g_loop (S := (Int32 × Int32)) (lvf := fun z5 => [(4, .int z5.1), (3, .int z5.2), (2, .int x1), (0, .ref (b + 0)), (1, .int a1)]) (σf := fun z5 => s3) (fun z5 => ?_) ((0 : Int32), (-1 : Int32))
      refine g_iload (q := 26) 0 dX11_known_24 rfl rfl ?_
      refine g_aload_n (q := 27) 3 dX11_known_26 rfl rfl rfl ?_
      refine g_getI (q := 30) fX11_names dX11_known_27 ww1062 rfl ?_
      refine g_icmp_ge (t := 80) (q := 33) dX11_known_30 (by decide) rfl ?_ ?_
      · refine g_sub (lr := [(3, .int z5.2), (2, .int x1), (0, .ref (b + 0))]) [1, 2, 3] rfl ?_
        exact (g_leave (g_there (z5.2 : Int32)))
      · refine g_iload_n (q := 34) 1 dX11_known_33 rfl rfl rfl ?_
        refine g_iconst (q := 35) dX11_known_34 kI_m1 rfl ?_
        refine g_icmp_ne (t := 74) (q := 38) dX11_known_35 (by decide) rfl ?_ ?_
        · refine g_aload_n (q := 39) 3 dX11_known_38 rfl rfl rfl ?_
          refine g_getA (q := 42) fX11_nameOf dX11_known_39 ww1063 rfl ?_
          refine g_iload (q := 44) 0 dX11_known_42 rfl rfl ?_
          refine g_lald (q := 45) (aX11_nameOf) dX11_known_44 rfl ?_
          refine g_aload_n (q := 46) 3 dX11_known_45 rfl rfl rfl ?_
          refine g_getA (q := 49) fX11_tName dX11_known_46 ww1050 rfl ?_
          refine g_iload_n (q := 50) 2 dX11_known_49 rfl rfl rfl ?_
          refine g_lald (q := 51) (aX11_tName) dX11_known_50 rfl ?_
          refine g_lcmp (q := 52) dX11_known_51 rfl ?_
          refine g_if_ne (t := 74) (q := 55) dX11_known_52 (by decide) rfl ?_ ?_
          · refine g_aload_n (q := 56) 3 dX11_known_55 rfl rfl rfl ?_
            refine g_getA (q := 59) fX11_nameSort dX11_known_56 ww1064 rfl ?_
            refine g_iload (q := 61) 0 dX11_known_59 rfl rfl ?_
            refine g_iald (q := 62) (aX11_nameSort) dX11_known_61 rfl ?_
            refine g_iload_n (q := 63) 4 dX11_known_62 rfl rfl rfl ?_
            refine g_icmp_ne (t := 74) (q := 66) dX11_known_63 (by decide) rfl ?_ ?_
            · refine g_aload_n (q := 67) 3 dX11_known_66 rfl rfl rfl ?_
              refine g_getA (q := 70) fX11_nameAt dX11_known_67 ww1065 rfl ?_
              refine g_iload (q := 72) 0 dX11_known_70 rfl rfl ?_
              refine g_iald (q := 73) (aX11_nameAt) dX11_known_72 rfl ?_
              refine g_leti (fun x6 => ?_)
              refine g_istore_n (lr := [(4, .int z5.1), (2, .int x1), (0, .ref (b + 0)), (1, .int a1)]) (q := 74) dX11_known_73 rfl (by decide) rfl rfl ?_
              refine g_iinc (lr := [(3, .int x6), (2, .int x1), (0, .ref (b + 0)), (1, .int a1)]) (q := 77) 1 dX11_known_74 rfl kI_1 (by decide) rfl rfl (fun x7 => ?_)
              refine g_goto (t := 24) dX11_known_77 (by decide) ?_
              exact (g_again ((x7, x6) : (Int32 × Int32)))
            · refine g_iinc (lr := [(3, .int z5.2), (2, .int x1), (0, .ref (b + 0)), (1, .int a1)]) (q := 77) 0 dX11_known_74 rfl kI_1 (by decide) rfl rfl (fun x8 => ?_)
              refine g_goto (t := 24) dX11_known_77 (by decide) ?_
              exact (g_again ((x8, z5.2) : (Int32 × Int32)))
          · refine g_iinc (lr := [(3, .int z5.2), (2, .int x1), (0, .ref (b + 0)), (1, .int a1)]) (q := 77) 0 dX11_known_74 rfl kI_1 (by decide) rfl rfl (fun x9 => ?_)
            refine g_goto (t := 24) dX11_known_77 (by decide) ?_
            exact (g_again ((x9, z5.2) : (Int32 × Int32)))
        · refine g_iinc (lr := [(3, .int z5.2), (2, .int x1), (0, .ref (b + 0)), (1, .int a1)]) (q := 77) 0 dX11_known_74 rfl kI_1 (by decide) rfl rfl (fun x10 => ?_)
          refine g_goto (t := 24) dX11_known_77 (by decide) ?_
          exact (g_again ((x10, z5.2) : (Int32 × Int32)))
    · refine g_iload_n (q := 81) 0 dX11_known_80 rfl rfl rfl ?_
      refine g_iconst (q := 82) dX11_known_81 kI_m1 rfl ?_
      refine g_icmp_ne (t := 91) (q := 85) dX11_known_82 (by decide) rfl ?_ ?_
      · refine g_aload_n (q := 86) 2 dX11_known_85 rfl rfl rfl ?_
        refine g_iconst (q := 87) dX11_known_86 kI_4 rfl ?_
        refine g_iload_n (q := 88) 1 dX11_known_87 rfl rfl rfl ?_
        refine g_callO (As := [.int (4 : Int32), .int x1]) (st := []) (cn_X11_wrong) shX11 rfl cwX11_266 rfl dX11_known_88 rfl (Nat.le_of_ble_eq_true rfl) (by decide) (kk_V (fun s12 => ?_))
        refine g_iload_n (q := 92) 0 dX11_known_91 rfl rfl rfl ?_
        exact (g_iret dX11_known_92)
      · refine g_iload_n (q := 92) 0 dX11_known_91 rfl rfl rfl ?_
        exact (g_iret dX11_known_92)
  · refine g_iconst (q := 18) dX11_known_17 kI_m1 rfl ?_
    exact (g_iret dX11_known_18)
