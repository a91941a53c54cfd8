noncomputable def pX11_tellWhen (σ : gS) : Option (gS) := gx (σ.1 0 19) 2 (lt' (((40 : Int32) * (σ.1 0 19)) + (σ.1 16 (σ.1 0 19).toNatClampNeg)) (fun x1 => gx (σ.1 0 19) 2 (bn1 (if (σ.1 13 (σ.1 0 19).toNatClampNeg) = 0 then bn1 (pX11_wrong (4 : Int32) (σ.1 0 11) σ) (fun s4 => some s4) else some σ) (fun (z2 : gS) => bn1 (pX11_goesOn z2) (fun s6 => bn1 (if (s6.1 0 13) ≤ 0 then bn2 (pX11_known (0 : Int32) s6) (fun v8 s9 => some (v8, s9)) else some ((-1 : Int32), s6)) (fun (z7 : (Int32 × gS)) => bn1 (pX11_must (22 : Int32) z7.2) (fun s11 => lt' (s11.1 0 11) (fun x12 => bn1 (if (s11.1 0 13) ≤ 0 then bn2 (pX11_known (1 : Int32) s11) (fun v14 s15 => some (v14, s15)) else some ((-1 : Int32), s11)) (fun (z13 : (Int32 × gS)) => bn1 (pX11_must (4 : Int32) z13.2) (fun s17 => if (s17.1 0 13) ≤ 0 then gx (s17.1 0 19) 2 (gx x1 80 (lt' (wI s17 17 x1.toNatClampNeg ((s17.1 13 (s17.1 0 19).toNatClampNeg) - (1 : Int32))) (fun s18 => gx x1 80 (lt' (wI s18 18 x1.toNatClampNeg z7.1) (fun s19 => gx x1 80 (lt' (wI s19 19 x1.toNatClampNeg z13.1) (fun s20 => lt' ((40 : Int32) * (s20.1 0 19)) (fun x21 => bn1 (lpP (fun (z23 : (Int32 × gS)) => if x1 ≤ z23.1 then some (.inr z23.2) else if z7.1 = (-1 : Int32) then lt' (z23.1 + (1 : Int32)) (fun x24 => some (.inl (x24, z23.2))) else if z13.1 = (-1 : Int32) then lt' (z23.1 + (1 : Int32)) (fun x25 => some (.inl (x25, z23.2))) else gx z23.1 80 (gx x1 80 (if (z23.2.1 17 z23.1.toNatClampNeg) = (z23.2.1 17 x1.toNatClampNeg) then gx z23.1 80 (if (z23.2.1 18 z23.1.toNatClampNeg) = z7.1 then gx z23.1 80 (if (z23.2.1 19 z23.1.toNatClampNeg) = z13.1 then bn1 (pX11_wrong (3 : Int32) x12 z23.2) (fun s27 => lt' (z23.1 + (1 : Int32)) (fun x28 => some (.inl (x28, s27)))) else lt' (z23.1 + (1 : Int32)) (fun x29 => some (.inl (x29, z23.2)))) else lt' (z23.1 + (1 : Int32)) (fun x30 => some (.inl (x30, z23.2)))) else lt' (z23.1 + (1 : Int32)) (fun x31 => some (.inl (x31, z23.2)))))) (x21, s20)) (fun (z22 : gS) => gx (z22.1 0 19) 2 (gx (z22.1 0 19) 2 (lt' (wI z22 16 (z22.1 0 19).toNatClampNeg ((z22.1 16 (z22.1 0 19).toNatClampNeg) + (1 : Int32))) (fun s32 => some s32)))))))))))) else some s17))))))))))
set_option maxRecDepth 100000 in
theorem cn_X11_tellWhen {G : gG} {b : Nat}  {σ : gS} : CN vR G b 5 yX11_tellWhen cX11_tellWhen 6 none kV [.ref (b + 0)] σ (pX11_tellWhen σ) := by
  refine cn_of (own := RX11) rfl rfl (Nat.le_of_ble_eq_true rfl) ?_
  show GF vR G b (5, 0, 0) RX11 cX11_tellWhen 6 none kV 0 [(0, .ref (b + 0))] [] σ (pX11_tellWhen σ)
  unfold pX11_tellWhen
  refine g_bipush (q := 2) dX11_tellWhen_0 kB_40 rfl ?_
  refine g_aload_n (q := 3) 0 dX11_tellWhen_2 rfl rfl rfl ?_
  refine g_getI (q := 6) fX11_side dX11_tellWhen_3 ww1061 rfl ?_
  refine g_imul (q := 7) dX11_tellWhen_6 rfl ?_
  refine g_aload_n (q := 8) 0 dX11_tellWhen_7 rfl rfl rfl ?_
  refine g_getA (q := 11) fX11_whens dX11_tellWhen_8 ww1071 rfl ?_
  refine g_aload_n (q := 12) 0 dX11_tellWhen_11 rfl rfl rfl ?_
  refine g_getI (q := 15) fX11_side dX11_tellWhen_12 ww1061 rfl ?_
  refine g_iald (q := 16) (aX11_whens) dX11_tellWhen_15 rfl ?_
  refine g_iadd (q := 17) dX11_tellWhen_16 rfl ?_
  refine g_leti (fun x1 => ?_)
  refine g_istore_n (lr := [(0, .ref (b + 0))]) (q := 18) dX11_tellWhen_17 rfl (by decide) rfl rfl ?_
  refine g_aload_n (q := 19) 1 dX11_tellWhen_18 rfl rfl rfl ?_
  refine g_getA (q := 22) fX11_books dX11_tellWhen_19 ww1068 rfl ?_
  refine g_aload_n (q := 23) 1 dX11_tellWhen_22 rfl rfl rfl ?_
  refine g_getI (q := 26) fX11_side dX11_tellWhen_23 ww1061 rfl ?_
  refine g_iald (q := 27) (aX11_books) dX11_tellWhen_26 rfl ?_
  refine g_bind (S := gS) (hd := 39) (lvf := fun z2 => [(1, .int x1), (0, .ref (b + 0))]) (stf := fun z2 => []) (σf := fun z2 => z2) ?_ (fun z2 => ?_)
  · refine g_if_ne (t := 39) (q := 30) dX11_tellWhen_27 (by decide) rfl ?_ ?_
    · refine g_aload_n (q := 31) 1 dX11_tellWhen_30 rfl rfl rfl ?_
      refine g_iconst (q := 32) dX11_tellWhen_31 kI_4 rfl ?_
      refine g_aload_n (q := 33) 1 dX11_tellWhen_32 rfl rfl rfl ?_
      refine g_getI (q := 36) fX11_t dX11_tellWhen_33 ww1053 rfl ?_
      refine g_callO (As := [.int (4 : Int32), .int (σ.1 0 11)]) (st := []) (cn_X11_wrong) shX11 rfl cwX11_266 rfl dX11_tellWhen_36 rfl (Nat.le_of_ble_eq_true rfl) (by decide) (kk_V (fun s4 => ?_))
      exact (g_there (s4 : gS))
    · exact (g_there (σ : gS))
  · refine g_aload_n (q := 40) 1 dX11_tellWhen_39 rfl rfl rfl ?_
    refine g_callO (As := []) (st := []) (cn_X11_goesOn) shX11 rfl cwX11_221 rfl dX11_tellWhen_40 rfl (Nat.le_of_ble_eq_true rfl) (by decide) (kk_V (fun s6 => ?_))
    refine g_aload_n (q := 44) 1 dX11_tellWhen_43 rfl rfl rfl ?_
    refine g_getI (q := 47) fX11_fault dX11_tellWhen_44 ww1055 rfl ?_
    refine g_bind (S := (Int32 × gS)) (hd := 59) (lvf := fun z7 => [(1, .int x1), (0, .ref (b + 0))]) (stf := fun z7 => [.int z7.1]) (σf := fun z7 => z7.2) ?_ (fun z7 => ?_)
    · refine g_if_le (t := 54) (q := 50) dX11_tellWhen_47 (by decide) rfl ?_ ?_
      · refine g_aload_n (q := 55) 1 dX11_tellWhen_54 rfl rfl rfl ?_
        refine g_iconst (q := 56) dX11_tellWhen_55 kI_0 rfl ?_
        refine g_callO (As := [.int (0 : Int32)]) (st := []) (cn_X11_known) shX11 rfl cwX11_285 rfl dX11_tellWhen_56 rfl (Nat.le_of_ble_eq_true rfl) (by decide) (kk_I (fun v8 s9 => ?_))
        exact (g_there ((v8, s9) : (Int32 × gS)))
      · refine g_iconst (q := 51) dX11_tellWhen_50 kI_m1 rfl ?_
        refine g_goto (t := 59) dX11_tellWhen_51 (by decide) ?_
        exact (g_there (((-1 : Int32), s6) : (Int32 × gS)))
    · refine g_istore_n (lr := [(1, .int x1), (0, .ref (b + 0))]) (q := 60) dX11_tellWhen_59 rfl (by decide) rfl rfl ?_
      refine g_aload_n (q := 61) 2 dX11_tellWhen_60 rfl rfl rfl ?_
      refine g_bipush (q := 63) dX11_tellWhen_61 kB_22 rfl ?_
      refine g_callO (As := [.int (22 : Int32)]) (st := []) (cn_X11_must) shX11 rfl cwX11_263 rfl dX11_tellWhen_63 rfl (Nat.le_of_ble_eq_true rfl) (by decide) (kk_V (fun s11 => ?_))
      refine g_aload_n (q := 67) 2 dX11_tellWhen_66 rfl rfl rfl ?_
      refine g_getI (q := 70) fX11_t dX11_tellWhen_67 ww1053 rfl ?_
      refine g_leti (fun x12 => ?_)
      refine g_istore_n (lr := [(2, .int z7.1), (1, .int x1), (0, .ref (b + 0))]) (q := 71) dX11_tellWhen_70 rfl (by decide) rfl rfl ?_
      refine g_aload_n (q := 72) 3 dX11_tellWhen_71 rfl rfl rfl ?_
      refine g_getI (q := 75) fX11_fault dX11_tellWhen_72 ww1055 rfl ?_
      refine g_bind (S := (Int32 × gS)) (hd := 87) (lvf := fun z13 => [(3, .int x12), (2, .int z7.1), (1, .int x1), (0, .ref (b + 0))]) (stf := fun z13 => [.int z13.1]) (σf := fun z13 => z13.2) ?_ (fun z13 => ?_)
      · refine g_if_le (t := 82) (q := 78) dX11_tellWhen_75 (by decide) rfl ?_ ?_
        · refine g_aload_n (q := 83) 3 dX11_tellWhen_82 rfl rfl rfl ?_
          refine g_iconst (q := 84) dX11_tellWhen_83 kI_1 rfl ?_
          refine g_callO (As := [.int (1 : Int32)]) (st := []) (cn_X11_known) shX11 rfl cwX11_285 rfl dX11_tellWhen_84 rfl (Nat.le_of_ble_eq_true rfl) (by decide) (kk_I (fun v14 s15 => ?_))
          exact (g_there ((v14, s15) : (Int32 × gS)))
        · refine g_iconst (q := 79) dX11_tellWhen_78 kI_m1 rfl ?_
          refine g_goto (t := 87) dX11_tellWhen_79 (by decide) ?_
          exact (g_there (((-1 : Int32), s11) : (Int32 × gS)))
      · refine g_istore (lr := [(3, .int x12), (2, .int z7.1), (1, .int x1), (0, .ref (b + 0))]) (q := 89) dX11_tellWhen_87 (by decide) rfl rfl ?_
        refine g_aload_n (q := 90) 4 dX11_tellWhen_89 rfl rfl rfl ?_
        refine g_iconst (q := 91) dX11_tellWhen_90 kI_4 rfl ?_
        refine g_callO (As := [.int (4 : Int32)]) (st := []) (cn_X11_must) shX11 rfl cwX11_263 rfl dX11_tellWhen_91 rfl (Nat.le_of_ble_eq_true rfl) (by decide) (kk_V (fun s17 => ?_))
        refine g_aload_n (q := 95) 4 dX11_tellWhen_94 rfl rfl rfl ?_
        refine g_getI (q := 98) fX11_fault dX11_tellWhen_95 ww1055 rfl ?_
        refine g_if_le (t := 102) (q := 101) dX11_tellWhen_98 (by decide) rfl ?_ ?_
        · refine g_aload_n (q := 103) 4 dX11_tellWhen_102 rfl rfl rfl ?_
          refine g_getA (q := 106) fX11_whenBook dX11_tellWhen_103 ww1072 rfl ?_
          refine g_iload_n (q := 107) 3 dX11_tellWhen_106 rfl rfl rfl ?_
          refine g_aload_n (q := 108) 4 dX11_tellWhen_107 rfl rfl rfl ?_
          refine g_getA (q := 111) fX11_books dX11_tellWhen_108 ww1068 rfl ?_
          refine g_aload_n (q := 112) 4 dX11_tellWhen_111 rfl rfl rfl ?_
          refine g_getI (q := 115) fX11_side dX11_tellWhen_112 ww1061 rfl ?_
          refine g_iald (q := 116) (aX11_books) dX11_tellWhen_115 rfl ?_
          refine g_iconst (q := 117) dX11_tellWhen_116 kI_1 rfl ?_
          refine g_isub (q := 118) dX11_tellWhen_117 rfl ?_
          refine g_iast (q := 119) (aX11_whenBook) dX11_tellWhen_118 rfl (fun s18 => ?_)
          refine g_aload_n (q := 120) 4 dX11_tellWhen_119 rfl rfl rfl ?_
          refine g_getA (q := 123) fX11_whenSign dX11_tellWhen_120 ww1073 rfl ?_
          refine g_iload_n (q := 124) 3 dX11_tellWhen_123 rfl rfl rfl ?_
          refine g_iload_n (q := 125) 2 dX11_tellWhen_124 rfl rfl rfl ?_
          refine g_iast (q := 126) (aX11_whenSign) dX11_tellWhen_125 rfl (fun s19 => ?_)
          refine g_aload_n (q := 127) 4 dX11_tellWhen_126 rfl rfl rfl ?_
          refine g_getA (q := 130) fX11_whenSay dX11_tellWhen_127 ww1074 rfl ?_
          refine g_iload_n (q := 131) 3 dX11_tellWhen_130 rfl rfl rfl ?_
          refine g_iload (q := 133) 0 dX11_tellWhen_131 rfl rfl ?_
          refine g_iast (q := 134) (aX11_whenSay) dX11_tellWhen_133 rfl (fun s20 => ?_)
          refine g_bipush (q := 136) dX11_tellWhen_134 kB_40 rfl ?_
          refine g_aload_n (q := 137) 4 dX11_tellWhen_136 rfl rfl rfl ?_
          refine g_getI (q := 140) fX11_side dX11_tellWhen_137 ww1061 rfl ?_
          refine g_imul (q := 141) dX11_tellWhen_140 rfl ?_
          refine g_leti (fun x21 => ?_)
          refine g_istore (lr := [(4, .int z13.1), (3, .int x12), (2, .int z7.1), (1, .int x1), (0, .ref (b + 0))]) (q := 143) dX11_tellWhen_141 (by decide) rfl rfl ?_
          refine g_bind (S := gS) (hd := 211) (lvf := fun z22 => [(0, .ref (b + 0))]) (stf := fun z22 => []) (σf := fun z22 => z22) ?_ (fun z22 => ?_)
          · refine g_loop (S := (Int32 × gS)) (lvf := fun z23 => [(5, .int z23.1), (4, .int z13.1), (3, .int x12), (2, .int z7.1), (1, .int x1), (0, .ref (b + 0))]) (σf := fun z23 => z23.2) (fun z23 => ?_) (x21, s20)
            refine g_iload (q := 145) 0 dX11_tellWhen_143 rfl rfl ?_
            refine g_iload_n (q := 146) 4 dX11_tellWhen_145 rfl rfl rfl ?_
            refine g_icmp_ge (t := 211) (q := 149) dX11_tellWhen_146 (by decide) rfl ?_ ?_
            · refine g_sub (lr := [(0, .ref (b + 0))]) [5] rfl ?_
              exact (g_leave (g_there (z23.2 : gS)))
            · refine g_iload_n (q := 150) 3 dX11_tellWhen_149 rfl rfl rfl ?_
              refine g_iconst (q := 151) dX11_tellWhen_150 kI_m1 rfl ?_
              refine g_icmp_eq (t := 205) (q := 154) dX11_tellWhen_151 (by decide) rfl ?_ ?_
              · refine g_iinc (lr := [(4, .int z13.1), (3, .int x12), (2, .int z7.1), (1, .int x1), (0, .ref (b + 0))]) (q := 208) 0 dX11_tellWhen_205 rfl kI_1 (by decide) rfl rfl (fun x24 => ?_)
                refine g_goto (t := 143) dX11_tellWhen_208 (by decide) ?_
                exact (g_again ((x24, z23.2) : (Int32 × gS)))
              · refine g_iload (q := 156) 1 dX11_tellWhen_154 rfl rfl ?_
                refine g_iconst (q := 157) dX11_tellWhen_156 kI_m1 rfl ?_
                refine g_icmp_eq (t := 205) (q := 160) dX11_tellWhen_157 (by decide) rfl ?_ ?_
                · refine g_iinc (lr := [(4, .int z13.1), (3, .int x12), (2, .int z7.1), (1, .int x1), (0, .ref (b + 0))]) (q := 208) 0 dX11_tellWhen_205 rfl kI_1 (by decide) rfl rfl (fun x25 => ?_)
                  refine g_goto (t := 143) dX11_tellWhen_208 (by decide) ?_
                  exact (g_again ((x25, z23.2) : (Int32 × gS)))
                · refine g_aload_n (q := 161) 5 dX11_tellWhen_160 rfl rfl rfl ?_
                  refine g_getA (q := 164) fX11_whenBook dX11_tellWhen_161 ww1072 rfl ?_
                  refine g_iload (q := 166) 0 dX11_tellWhen_164 rfl rfl ?_
                  refine g_iald (q := 167) (aX11_whenBook) dX11_tellWhen_166 rfl ?_
                  refine g_aload_n (q := 168) 5 dX11_tellWhen_167 rfl rfl rfl ?_
                  refine g_getA (q := 171) fX11_whenBook dX11_tellWhen_168 ww1072 rfl ?_
                  refine g_iload_n (q := 172) 4 dX11_tellWhen_171 rfl rfl rfl ?_
                  refine g_iald (q := 173) (aX11_whenBook) dX11_tellWhen_172 rfl ?_
                  refine g_icmp_ne (t := 205) (q := 176) dX11_tellWhen_173 (by decide) rfl ?_ ?_
                  · refine g_aload_n (q := 177) 5 dX11_tellWhen_176 rfl rfl rfl ?_
                    refine g_getA (q := 180) fX11_whenSign dX11_tellWhen_177 ww1073 rfl ?_
                    refine g_iload (q := 182) 0 dX11_tellWhen_180 rfl rfl ?_
                    refine g_iald (q := 183) (aX11_whenSign) dX11_tellWhen_182 rfl ?_
                    refine g_iload_n (q := 184) 3 dX11_tellWhen_183 rfl rfl rfl ?_
                    refine g_icmp_ne (t := 205) (q := 187) dX11_tellWhen_184 (by decide) rfl ?_ ?_
                    · refine g_aload_n (q := 188) 5 dX11_tellWhen_187 rfl rfl rfl ?_
                      refine g_getA (q := 191) fX11_whenSay dX11_tellWhen_188 ww1074 rfl ?_
                      refine g_iload (q := 193) 0 dX11_tellWhen_191 rfl rfl ?_
                      refine g_iald (q := 194) (aX11_whenSay) dX11_tellWhen_193 rfl ?_
                      refine g_iload (q := 196) 1 dX11_tellWhen_194 rfl rfl ?_
                      refine g_icmp_ne (t := 205) (q := 199) dX11_tellWhen_196 (by decide) rfl ?_ ?_
                      · refine g_aload_n (q := 200) 5 dX11_tellWhen_199 rfl rfl rfl ?_
                        refine g_iconst (q := 201) dX11_tellWhen_200 kI_3 rfl ?_
                        refine g_iload_n (q := 202) 2 dX11_tellWhen_201 rfl rfl rfl ?_
                        refine g_callO (As := [.int (3 : Int32), .int x12]) (st := []) (cn_X11_wrong) shX11 rfl cwX11_266 rfl dX11_tellWhen_202 rfl (Nat.le_of_ble_eq_true rfl) (by decide) (kk_V (fun s27 => ?_))
                        refine g_iinc (lr := [(4, .int z13.1), (3, .int x12), (2, .int z7.1), (1, .int x1), (0, .ref (b + 0))]) (q := 208) 0 dX11_tellWhen_205 rfl kI_1 (by decide) rfl rfl (fun x28 => ?_)
                        refine g_goto (t := 143) dX11_tellWhen_208 (by decide) ?_
                        exact (g_again ((x28, s27) : (Int32 × gS)))
                      · refine g_iinc (lr := [(4, .int z13.1), (3, .int x12), (2, .int z7.1), (1, .int x1), (0, .ref (b + 0))]) (q := 208) 0 dX11_tellWhen_205 rfl kI_1 (by decide) rfl rfl (fun x29 => ?_)
                        refine g_goto (t := 143) dX11_tellWhen_208 (by decide) ?_
                        exact (g_again ((x29, z23.2) : (Int32 × gS)))
                    · refine g_iinc (lr := [(4, .int z13.1), (3, .int x12), (2, .int z7.1), (1, .int x1), (0, .ref (b + 0))]) (q := 208) 0 dX11_tellWhen_205 rfl kI_1 (by decide) rfl rfl (fun x30 => ?_)
                      refine g_goto (t := 143) dX11_tellWhen_208 (by decide) ?_
                      exact (g_again ((x30, z23.2) : (Int32 × gS)))
                  · refine g_iinc (lr := [(4, .int z13.1), (3, .int x12), (2, .int z7.1), (1, .int x1), (0, .ref (b + 0))]) (q := 208) 0 dX11_tellWhen_205 rfl kI_1 (by decide) rfl rfl (fun x31 => ?_)
                    refine g_goto (t := 143) dX11_tellWhen_208 (by decide) ?_
                    exact (g_again ((x31, z23.2) : (Int32 × gS)))
          · refine g_aload_n (q := 212) 0 dX11_tellWhen_211 rfl rfl rfl ?_
            refine g_getA (q := 215) fX11_whens dX11_tellWhen_212 ww1071 rfl ?_
            refine g_aload_n (q := 216) 0 dX11_tellWhen_215 rfl rfl rfl ?_
            refine g_getI (q := 219) fX11_side dX11_tellWhen_216 ww1061 rfl ?_
            refine g_dup2 (q := 220) dX11_tellWhen_219 rfl rfl rfl ?_
            refine g_iald (q := 221) (aX11_whens) dX11_tellWhen_220 rfl ?_
            refine g_iconst (q := 222) dX11_tellWhen_221 kI_1 rfl ?_
            refine g_iadd (q := 223) dX11_tellWhen_222 rfl ?_
            refine g_iast (q := 224) (aX11_whens) dX11_tellWhen_223 rfl (fun s32 => ?_)
            exact (g_vret dX11_tellWhen_224)
        · exact (g_vret dX11_tellWhen_101)
noncomputable def pX11_tell (σ : gS) : Option (gS) := gx (σ.1 0 11) 403 (if (σ.1 3 (σ.1 0 11).toNatClampNeg) = (20 : Int32) then gx (σ.1 0 19) 2 (bn1 (if (σ.1 11 (σ.1 0 19).toNatClampNeg) = (6 : Int32) then bn1 (pX11_fail (2 : Int32) σ) (fun s3 => some s3) else some σ) (fun (z1 : gS) => if (z1.1 0 13) = 0 then bn1 (pX11_tellSign z1) (fun s5 => some s5) else some z1)) else if (σ.1 3 (σ.1 0 11).toNatClampNeg) = (22 : Int32) then gx (σ.1 0 19) 2 (bn1 (if (σ.1 12 (σ.1 0 19).toNatClampNeg) = (16 : Int32) then bn1 (pX11_fail (2 : Int32) σ) (fun s9 => some s9) else some σ) (fun (z7 : gS) => if (z7.1 0 13) = 0 then bn1 (pX11_tellSay z7) (fun s11 => some s11) else some z7)) else if (σ.1 3 (σ.1 0 11).toNatClampNeg) = (23 : Int32) then gx (σ.1 0 19) 2 (bn1 (if (σ.1 13 (σ.1 0 19).toNatClampNeg) = (4 : Int32) then bn1 (pX11_fail (2 : Int32) σ) (fun s15 => some s15) else some σ) (fun (z13 : gS) => if (z13.1 0 13) = 0 then bn1 (pX11_tellBook z13) (fun s17 => some s17) else some z13)) else if (σ.1 3 (σ.1 0 11).toNatClampNeg) = (24 : Int32) then gx (σ.1 0 19) 2 (bn1 (if (σ.1 16 (σ.1 0 19).toNatClampNeg) = (40 : Int32) then bn1 (pX11_fail (2 : Int32) σ) (fun s21 => some s21) else some σ) (fun (z19 : gS) => if (z19.1 0 13) = 0 then bn1 (pX11_tellWhen z19) (fun s23 => some s23) else some z19)) else if (σ.1 3 (σ.1 0 11).toNatClampNeg) = (25 : Int32) then gx (σ.1 0 19) 2 (bn1 (if (σ.1 14 (σ.1 0 19).toNatClampNeg) = (4 : Int32) then bn1 (pX11_fail (2 : Int32) σ) (fun s27 => some s27) else some σ) (fun (z25 : gS) => if (z25.1 0 13) = 0 then bn1 (pX11_tellLaw z25) (fun s29 => some s29) else some z25)) else bn1 (pX11_fail (1 : Int32) σ) (fun s32 => some s32))
set_option maxRecDepth 100000 in
theorem cn_X11_tell {G : gG} {b : Nat}  {σ : gS} : CN vR G b 9 yX11_tell cX11_tell 1 none kV [.ref (b + 0)] σ (pX11_tell σ) := by
  refine cn_of (own := RX11) rfl rfl (Nat.le_of_ble_eq_true rfl) ?_
  show GF vR G b (9, 0, 0) RX11 cX11_tell 1 none kV 0 [(0, .ref (b + 0))] [] σ (pX11_tell σ)
  unfold pX11_tell
  refine g_aload_n (q := 1) 0 dX11_tell_0 rfl rfl rfl ?_
  refine g_getA (q := 4) fX11_tKind dX11_tell_1 ww1047 rfl ?_
  refine g_aload_n (q := 5) 0 dX11_tell_4 rfl rfl rfl ?_
  refine g_getI (q := 8) fX11_t dX11_tell_5 ww1053 rfl ?_
  refine g_iald (q := 9) (aX11_tKind) dX11_tell_8 rfl ?_
  refine g_case (t := 48) (off := 39) (20 : Int32) dX11_tell_9 (by decide +kernel) (by decide) ?_ (fun h6 => ?_)
  · refine g_aload_n (q := 49) 0 dX11_tell_48 rfl rfl rfl ?_
    refine g_getA (q := 52) fX11_signs dX11_tell_49 ww1066 rfl ?_
    refine g_aload_n (q := 53) 0 dX11_tell_52 rfl rfl rfl ?_
    refine g_getI (q := 56) fX11_side dX11_tell_53 ww1061 rfl ?_
    refine g_iald (q := 57) (aX11_signs) dX11_tell_56 rfl ?_
    refine g_bipush (q := 59) dX11_tell_57 kB_6 rfl ?_
    refine g_bind (S := gS) (hd := 67) (lvf := fun z1 => [(0, .ref (b + 0))]) (stf := fun z1 => []) (σf := fun z1 => z1) ?_ (fun z1 => ?_)
    · refine g_icmp_ne (t := 67) (q := 62) dX11_tell_59 (by decide) rfl ?_ ?_
      · refine g_aload_n (q := 63) 0 dX11_tell_62 rfl rfl rfl ?_
        refine g_iconst (q := 64) dX11_tell_63 kI_2 rfl ?_
        refine g_callO (As := [.int (2 : Int32)]) (st := []) (cn_X11_fail) shX11 rfl cwX11_215 rfl dX11_tell_64 rfl (Nat.le_of_ble_eq_true rfl) (by decide) (kk_V (fun s3 => ?_))
        exact (g_there (s3 : gS))
      · exact (g_there (σ : gS))
    · refine g_aload_n (q := 68) 0 dX11_tell_67 rfl rfl rfl ?_
      refine g_getI (q := 71) fX11_fault dX11_tell_68 ww1055 rfl ?_
      refine g_if_ne (t := 216) (q := 74) dX11_tell_71 (by decide) rfl ?_ ?_
      · refine g_aload_n (q := 75) 0 dX11_tell_74 rfl rfl rfl ?_
        refine g_callO (As := []) (st := []) (cn_X11_tellSign) shX11 rfl cwX11_248 rfl dX11_tell_75 rfl (Nat.le_of_ble_eq_true rfl) (by decide) (kk_V (fun s5 => ?_))
        refine g_goto (t := 216) dX11_tell_78 (by decide) ?_
        exact (g_vret dX11_tell_216)
      · exact (g_vret dX11_tell_216)
  refine g_case (t := 81) (off := 72) (22 : Int32) dX11_tell_9 (by decide +kernel) (by decide) ?_ (fun h12 => ?_)
  · refine g_aload_n (q := 82) 0 dX11_tell_81 rfl rfl rfl ?_
    refine g_getA (q := 85) fX11_says dX11_tell_82 ww1067 rfl ?_
    refine g_aload_n (q := 86) 0 dX11_tell_85 rfl rfl rfl ?_
    refine g_getI (q := 89) fX11_side dX11_tell_86 ww1061 rfl ?_
    refine g_iald (q := 90) (aX11_says) dX11_tell_89 rfl ?_
    refine g_bipush (q := 92) dX11_tell_90 kB_16 rfl ?_
    refine g_bind (S := gS) (hd := 100) (lvf := fun z7 => [(0, .ref (b + 0))]) (stf := fun z7 => []) (σf := fun z7 => z7) ?_ (fun z7 => ?_)
    · refine g_icmp_ne (t := 100) (q := 95) dX11_tell_92 (by decide) rfl ?_ ?_
      · refine g_aload_n (q := 96) 0 dX11_tell_95 rfl rfl rfl ?_
        refine g_iconst (q := 97) dX11_tell_96 kI_2 rfl ?_
        refine g_callO (As := [.int (2 : Int32)]) (st := []) (cn_X11_fail) shX11 rfl cwX11_215 rfl dX11_tell_97 rfl (Nat.le_of_ble_eq_true rfl) (by decide) (kk_V (fun s9 => ?_))
        exact (g_there (s9 : gS))
      · exact (g_there (σ : gS))
    · refine g_aload_n (q := 101) 0 dX11_tell_100 rfl rfl rfl ?_
      refine g_getI (q := 104) fX11_fault dX11_tell_101 ww1055 rfl ?_
      refine g_if_ne (t := 216) (q := 107) dX11_tell_104 (by decide) rfl ?_ ?_
      · refine g_aload_n (q := 108) 0 dX11_tell_107 rfl rfl rfl ?_
        refine g_callO (As := []) (st := []) (cn_X11_tellSay) shX11 rfl cwX11_251 rfl dX11_tell_108 rfl (Nat.le_of_ble_eq_true rfl) (by decide) (kk_V (fun s11 => ?_))
        refine g_goto (t := 216) dX11_tell_111 (by decide) ?_
        exact (g_vret dX11_tell_216)
      · exact (g_vret dX11_tell_216)
  refine g_case (t := 114) (off := 105) (23 : Int32) dX11_tell_9 (by decide +kernel) (by decide) ?_ (fun h18 => ?_)
  · refine g_aload_n (q := 115) 0 dX11_tell_114 rfl rfl rfl ?_
    refine g_getA (q := 118) fX11_books dX11_tell_115 ww1068 rfl ?_
    refine g_aload_n (q := 119) 0 dX11_tell_118 rfl rfl rfl ?_
    refine g_getI (q := 122) fX11_side dX11_tell_119 ww1061 rfl ?_
    refine g_iald (q := 123) (aX11_books) dX11_tell_122 rfl ?_
    refine g_iconst (q := 124) dX11_tell_123 kI_4 rfl ?_
    refine g_bind (S := gS) (hd := 132) (lvf := fun z13 => [(0, .ref (b + 0))]) (stf := fun z13 => []) (σf := fun z13 => z13) ?_ (fun z13 => ?_)
    · refine g_icmp_ne (t := 132) (q := 127) dX11_tell_124 (by decide) rfl ?_ ?_
      · refine g_aload_n (q := 128) 0 dX11_tell_127 rfl rfl rfl ?_
        refine g_iconst (q := 129) dX11_tell_128 kI_2 rfl ?_
        refine g_callO (As := [.int (2 : Int32)]) (st := []) (cn_X11_fail) shX11 rfl cwX11_215 rfl dX11_tell_129 rfl (Nat.le_of_ble_eq_true rfl) (by decide) (kk_V (fun s15 => ?_))
        exact (g_there (s15 : gS))
      · exact (g_there (σ : gS))
    · refine g_aload_n (q := 133) 0 dX11_tell_132 rfl rfl rfl ?_
      refine g_getI (q := 136) fX11_fault dX11_tell_133 ww1055 rfl ?_
      refine g_if_ne (t := 216) (q := 139) dX11_tell_136 (by decide) rfl ?_ ?_
      · refine g_aload_n (q := 140) 0 dX11_tell_139 rfl rfl rfl ?_
        refine g_callO (As := []) (st := []) (cn_X11_tellBook) shX11 rfl cwX11_254 rfl dX11_tell_140 rfl (Nat.le_of_ble_eq_true rfl) (by decide) (kk_V (fun s17 => ?_))
        refine g_goto (t := 216) dX11_tell_143 (by decide) ?_
        exact (g_vret dX11_tell_216)
      · exact (g_vret dX11_tell_216)
  refine g_case (t := 146) (off := 137) (24 : Int32) dX11_tell_9 (by decide +kernel) (by decide) ?_ (fun h24 => ?_)
  · refine g_aload_n (q := 147) 0 dX11_tell_146 rfl rfl rfl ?_
    refine g_getA (q := 150) fX11_whens dX11_tell_147 ww1071 rfl ?_
    refine g_aload_n (q := 151) 0 dX11_tell_150 rfl rfl rfl ?_
    refine g_getI (q := 154) fX11_side dX11_tell_151 ww1061 rfl ?_
    refine g_iald (q := 155) (aX11_whens) dX11_tell_154 rfl ?_
    refine g_bipush (q := 157) dX11_tell_155 kB_40 rfl ?_
    refine g_bind (S := gS) (hd := 165) (lvf := fun z19 => [(0, .ref (b + 0))]) (stf := fun z19 => []) (σf := fun z19 => z19) ?_ (fun z19 => ?_)
    · refine g_icmp_ne (t := 165) (q := 160) dX11_tell_157 (by decide) rfl ?_ ?_
      · refine g_aload_n (q := 161) 0 dX11_tell_160 rfl rfl rfl ?_
        refine g_iconst (q := 162) dX11_tell_161 kI_2 rfl ?_
        refine g_callO (As := [.int (2 : Int32)]) (st := []) (cn_X11_fail) shX11 rfl cwX11_215 rfl dX11_tell_162 rfl (Nat.le_of_ble_eq_true rfl) (by decide) (kk_V (fun s21 => ?_))
        exact (g_there (s21 : gS))
      · exact (g_there (σ : gS))
    · refine g_aload_n (q := 166) 0 dX11_tell_165 rfl rfl rfl ?_
      refine g_getI (q := 169) fX11_fault dX11_tell_166 ww1055 rfl ?_
      refine g_if_ne (t := 216) (q := 172) dX11_tell_169 (by decide) rfl ?_ ?_
      · refine g_aload_n (q := 173) 0 dX11_tell_172 rfl rfl rfl ?_
        refine g_callO (As := []) (st := []) (cn_X11_tellWhen) shX11 rfl cwX11_257 rfl dX11_tell_173 rfl (Nat.le_of_ble_eq_true rfl) (by decide) (kk_V (fun s23 => ?_))
        refine g_goto (t := 216) dX11_tell_176 (by decide) ?_
        exact (g_vret dX11_tell_216)
      · exact (g_vret dX11_tell_216)
  refine g_case (t := 179) (off := 170) (25 : Int32) dX11_tell_9 (by decide +kernel) (by decide) ?_ (fun h30 => ?_)
  · refine g_aload_n (q := 180) 0 dX11_tell_179 rfl rfl rfl ?_
    refine g_getA (q := 183) fX11_laws dX11_tell_180 ww1069 rfl ?_
    refine g_aload_n (q := 184) 0 dX11_tell_183 rfl rfl rfl ?_
    refine g_getI (q := 187) fX11_side dX11_tell_184 ww1061 rfl ?_
    refine g_iald (q := 188) (aX11_laws) dX11_tell_187 rfl ?_
    refine g_iconst (q := 189) dX11_tell_188 kI_4 rfl ?_
    refine g_bind (S := gS) (hd := 197) (lvf := fun z25 => [(0, .ref (b + 0))]) (stf := fun z25 => []) (σf := fun z25 => z25) ?_ (fun z25 => ?_)
    · refine g_icmp_ne (t := 197) (q := 192) dX11_tell_189 (by decide) rfl ?_ ?_
      · refine g_aload_n (q := 193) 0 dX11_tell_192 rfl rfl rfl ?_
        refine g_iconst (q := 194) dX11_tell_193 kI_2 rfl ?_
        refine g_callO (As := [.int (2 : Int32)]) (st := []) (cn_X11_fail) shX11 rfl cwX11_215 rfl dX11_tell_194 rfl (Nat.le_of_ble_eq_true rfl) (by decide) (kk_V (fun s27 => ?_))
        exact (g_there (s27 : gS))
      · exact (g_there (σ : gS))
    · refine g_aload_n (q := 198) 0 dX11_tell_197 rfl rfl rfl ?_
      refine g_getI (q := 201) fX11_fault dX11_tell_198 ww1055 rfl ?_
      refine g_if_ne (t := 216) (q := 204) dX11_tell_201 (by decide) rfl ?_ ?_
      · refine g_aload_n (q := 205) 0 dX11_tell_204 rfl rfl rfl ?_
        refine g_callO (As := []) (st := []) (cn_X11_tellLaw) shX11 rfl cwX11_260 rfl dX11_tell_205 rfl (Nat.le_of_ble_eq_true rfl) (by decide) (kk_V (fun s29 => ?_))
        refine g_goto (t := 216) dX11_tell_208 (by decide) ?_
        exact (g_vret dX11_tell_216)
      · exact (g_vret dX11_tell_216)
  refine g_dflt (t := 211) [(20 : Int32), (22 : Int32), (23 : Int32), (24 : Int32), (25 : Int32)] dX11_tell_9 (by decide +kernel) (fun v hv => by simp only [List.mem_cons, List.not_mem_nil, or_false] at hv; rcases hv with rfl | rfl | rfl | rfl | rfl <;> assumption) (by decide) ?_
  refine g_aload_n (q := 212) 0 dX11_tell_211 rfl rfl rfl ?_
  refine g_iconst (q := 213) dX11_tell_212 kI_1 rfl ?_
  refine g_callO (As := [.int (1 : Int32)]) (st := []) (cn_X11_fail) shX11 rfl cwX11_215 rfl dX11_tell_213 rfl (Nat.le_of_ble_eq_true rfl) (by decide) (kk_V (fun s32 => ?_))
  exact (g_vret dX11_tell_216)
noncomputable def pX11_read (σ : gS) : Option (Int32 × gS) := lt' (wI σ 0 4 (σ.1 0 2)) (fun s1 => bn1 (lpP (fun (z3 : (Int32 × gS)) => if (z3.2.1 0 4) ≤ z3.1 then some (.inr z3.2) else gx z3.1 2000 (gx z3.1 2000 (lt' (wI z3.2 2 z3.1.toNatClampNeg (z3.2.1 1 z3.1.toNatClampNeg).toInt8.toInt32) (fun s4 => lt' (z3.1 + (1 : Int32)) (fun x5 => some (.inl (x5, s4))))))) ((0 : Int32), s1)) (fun (z2 : gS) => lt' (wI z2 0 2 (0 : Int32)) (fun s6 => bn1 (pX11_cut s6) (fun s8 => lt' (wI s8 0 11 (0 : Int32)) (fun s9 => lt' (wI s9 0 12 (0 : Int32)) (fun s10 => lt' (wI s10 0 13 (0 : Int32)) (fun s11 => lt' (wI s11 0 15 (0 : Int32)) (fun s12 => lt' (wI s12 0 19 ((1 : Int32) - (s12.1 0 18))) (fun s13 => lt' (wI s13 0 20 (0 : Int32)) (fun s14 => gx (s14.1 0 19) 2 (lt' (wI s14 11 (s14.1 0 19).toNatClampNeg (0 : Int32)) (fun s15 => gx (s15.1 0 19) 2 (lt' (wI s15 12 (s15.1 0 19).toNatClampNeg (0 : Int32)) (fun s16 => gx (s16.1 0 19) 2 (lt' (wI s16 13 (s16.1 0 19).toNatClampNeg (0 : Int32)) (fun s17 => gx (s17.1 0 19) 2 (lt' (wI s17 14 (s17.1 0 19).toNatClampNeg (0 : Int32)) (fun s18 => gx (s18.1 0 19) 2 (lt' (wI s18 16 (s18.1 0 19).toNatClampNeg (0 : Int32)) (fun s19 => lt' (wI s19 0 37 ((150 : Int32) * (s19.1 0 19))) (fun s20 => lt' (wI s20 0 44 ((420 : Int32) * (s20.1 0 19))) (fun s21 => bn1 (lpP (fun (z23 : gS) => if (z23.1 0 13) = 0 then bn1 (pX11_is (0 : Int32) z23) (fun v24 => if v24 = 0 then bn1 (pX11_tell z23) (fun s27 => some (.inl s27)) else some (.inr z23)) else some (.inr z23)) s21) (fun (z22 : gS) => bn1 (if (z22.1 0 13) ≤ 0 then if (z22.1 0 15) ≤ 0 then some (-1 : Int32) else some (z22.1 0 16) else some (z22.1 0 14)) (fun (z28 : Int32) => lt' (wI z22 0 17 z28) (fun s29 => if (s29.1 0 13) ≤ 0 then if (s29.1 0 15) ≤ 0 then lt' (wI s29 0 18 (s29.1 0 19)) (fun s30 => some ((0 : Int32), s30)) else some (s29.1 0 15, s29) else some (s29.1 0 13, s29))))))))))))))))))))))))))
set_option maxRecDepth 100000 in
theorem cn_X11_read {G : gG} {b : Nat}  {σ : gS} : CN vR G b 10 yX11_read cX11_read 2 (some .int) kI [.ref (b + 0)] σ (pX11_read σ) := by
  refine cn_of (own := RX11) rfl rfl (Nat.le_of_ble_eq_true rfl) ?_
  show GF vR G b (10, 0, 0) RX11 cX11_read 2 (some .int) kI 0 [(0, .ref (b + 0))] [] σ (pX11_read σ)
  unfold pX11_read
  refine g_aload_n (q := 1) 0 dX11_read_0 rfl rfl rfl ?_
  refine g_aload_n (q := 2) 0 dX11_read_1 rfl rfl rfl ?_
  refine g_getI (q := 5) fX11_taped dX11_read_2 ww1044 rfl ?_
  refine g_putI (q := 8) fX11_size pwX11_size okTX11 dX11_read_5 ww1046 rfl (fun s1 => ?_)
  refine g_iconst (q := 9) dX11_read_8 kI_0 rfl ?_
  refine g_istore_n (lr := [(0, .ref (b + 0))]) (q := 10) dX11_read_9 rfl (by decide) rfl rfl ?_
  refine g_bind (S := gS) (hd := 36) (lvf := fun z2 => [(0, .ref (b + 0))]) (stf := fun z2 => []) (σf := fun z2 => z2) ?_ (fun z2 => ?_)
  · refine g_loop (S := (Int32 × gS)) (lvf := fun z3 => [(1, .int z3.1), (0, .ref (b + 0))]) (σf := fun z3 => z3.2) (fun z3 => ?_) ((0 : Int32), s1)
    refine g_iload_n (q := 11) 0 dX11_read_10 rfl rfl rfl ?_
    refine g_aload_n (q := 12) 1 dX11_read_11 rfl rfl rfl ?_
    refine g_getI (q := 15) fX11_size dX11_read_12 ww1046 rfl ?_
    refine g_icmp_ge (t := 36) (q := 18) dX11_read_15 (by decide) rfl ?_ ?_
    · refine g_sub (lr := [(0, .ref (b + 0))]) [1] rfl ?_
      exact (g_leave (g_there (z3.2 : gS)))
    · refine g_aload_n (q := 19) 1 dX11_read_18 rfl rfl rfl ?_
      refine g_getA (q := 22) fX11_text dX11_read_19 ww1045 rfl ?_
      refine g_iload_n (q := 23) 0 dX11_read_22 rfl rfl rfl ?_
      refine g_aload_n (q := 24) 1 dX11_read_23 rfl rfl rfl ?_
      refine g_getA (q := 27) fX11_tape dX11_read_24 ww1043 rfl ?_
      refine g_iload_n (q := 28) 0 dX11_read_27 rfl rfl rfl ?_
      refine g_bald (q := 29) (aX11_tape) dX11_read_28 rfl ?_
      refine g_bast (q := 30) (aX11_text) dX11_read_29 rfl (fun s4 => ?_)
      refine g_iinc (lr := [(0, .ref (b + 0))]) (q := 33) 0 dX11_read_30 rfl kI_1 (by decide) rfl rfl (fun x5 => ?_)
      refine g_goto (t := 10) dX11_read_33 (by decide) ?_
      exact (g_again ((x5, s4) : (Int32 × gS)))
  · refine g_aload_n (q := 37) 0 dX11_read_36 rfl rfl rfl ?_
    refine g_iconst (q := 38) dX11_read_37 kI_0 rfl ?_
    refine g_putI (q := 41) fX11_taped pwX11_taped okTX11 dX11_read_38 ww1044 rfl (fun s6 => ?_)
    refine g_aload_n (q := 42) 0 dX11_read_41 rfl rfl rfl ?_
    refine g_callO (As := []) (st := []) (cn_X11_cut) shX11 rfl cwX11_224 rfl dX11_read_42 rfl (Nat.le_of_ble_eq_true rfl) (by decide) (kk_V (fun s8 => ?_))
    refine g_aload_n (q := 46) 0 dX11_read_45 rfl rfl rfl ?_
    refine g_iconst (q := 47) dX11_read_46 kI_0 rfl ?_
    refine g_putI (q := 50) fX11_t pwX11_t okTX11 dX11_read_47 ww1053 rfl (fun s9 => ?_)
    refine g_aload_n (q := 51) 0 dX11_read_50 rfl rfl rfl ?_
    refine g_iconst (q := 52) dX11_read_51 kI_0 rfl ?_
    refine g_putI (q := 55) fX11_open pwX11_open okTX11 dX11_read_52 ww1054 rfl (fun s10 => ?_)
    refine g_aload_n (q := 56) 0 dX11_read_55 rfl rfl rfl ?_
    refine g_iconst (q := 57) dX11_read_56 kI_0 rfl ?_
    refine g_putI (q := 60) fX11_fault pwX11_fault okTX11 dX11_read_57 ww1055 rfl (fun s11 => ?_)
    refine g_aload_n (q := 61) 0 dX11_read_60 rfl rfl rfl ?_
    refine g_iconst (q := 62) dX11_read_61 kI_0 rfl ?_
    refine g_putI (q := 65) fX11_worst pwX11_worst okTX11 dX11_read_62 ww1057 rfl (fun s12 => ?_)
    refine g_aload_n (q := 66) 0 dX11_read_65 rfl rfl rfl ?_
    refine g_iconst (q := 67) dX11_read_66 kI_1 rfl ?_
    refine g_aload_n (q := 68) 0 dX11_read_67 rfl rfl rfl ?_
    refine g_getI (q := 71) fX11_live dX11_read_68 ww1060 rfl ?_
    refine g_isub (q := 72) dX11_read_71 rfl ?_
    refine g_putI (q := 75) fX11_side pwX11_side okTX11 dX11_read_72 ww1061 rfl (fun s13 => ?_)
    refine g_aload_n (q := 76) 0 dX11_read_75 rfl rfl rfl ?_
    refine g_iconst (q := 77) dX11_read_76 kI_0 rfl ?_
    refine g_putI (q := 80) fX11_names pwX11_names okTX11 dX11_read_77 ww1062 rfl (fun s14 => ?_)
    refine g_aload_n (q := 81) 0 dX11_read_80 rfl rfl rfl ?_
    refine g_getA (q := 84) fX11_signs dX11_read_81 ww1066 rfl ?_
    refine g_aload_n (q := 85) 0 dX11_read_84 rfl rfl rfl ?_
    refine g_getI (q := 88) fX11_side dX11_read_85 ww1061 rfl ?_
    refine g_iconst (q := 89) dX11_read_88 kI_0 rfl ?_
    refine g_iast (q := 90) (aX11_signs) dX11_read_89 rfl (fun s15 => ?_)
    refine g_aload_n (q := 91) 0 dX11_read_90 rfl rfl rfl ?_
    refine g_getA (q := 94) fX11_says dX11_read_91 ww1067 rfl ?_
    refine g_aload_n (q := 95) 0 dX11_read_94 rfl rfl rfl ?_
    refine g_getI (q := 98) fX11_side dX11_read_95 ww1061 rfl ?_
    refine g_iconst (q := 99) dX11_read_98 kI_0 rfl ?_
    refine g_iast (q := 100) (aX11_says) dX11_read_99 rfl (fun s16 => ?_)
    refine g_aload_n (q := 101) 0 dX11_read_100 rfl rfl rfl ?_
    refine g_getA (q := 104) fX11_books dX11_read_101 ww1068 rfl ?_
    refine g_aload_n (q := 105) 0 dX11_read_104 rfl rfl rfl ?_
    refine g_getI (q := 108) fX11_side dX11_read_105 ww1061 rfl ?_
    refine g_iconst (q := 109) dX11_read_108 kI_0 rfl ?_
    refine g_iast (q := 110) (aX11_books) dX11_read_109 rfl (fun s17 => ?_)
    refine g_aload_n (q := 111) 0 dX11_read_110 rfl rfl rfl ?_
    refine g_getA (q := 114) fX11_laws dX11_read_111 ww1069 rfl ?_
    refine g_aload_n (q := 115) 0 dX11_read_114 rfl rfl rfl ?_
    refine g_getI (q := 118) fX11_side dX11_read_115 ww1061 rfl ?_
    refine g_iconst (q := 119) dX11_read_118 kI_0 rfl ?_
    refine g_iast (q := 120) (aX11_laws) dX11_read_119 rfl (fun s18 => ?_)
    refine g_aload_n (q := 121) 0 dX11_read_120 rfl rfl rfl ?_
    refine g_getA (q := 124) fX11_whens dX11_read_121 ww1071 rfl ?_
    refine g_aload_n (q := 125) 0 dX11_read_124 rfl rfl rfl ?_
    refine g_getI (q := 128) fX11_side dX11_read_125 ww1061 rfl ?_
    refine g_iconst (q := 129) dX11_read_128 kI_0 rfl ?_
    refine g_iast (q := 130) (aX11_whens) dX11_read_129 rfl (fun s19 => ?_)
    refine g_aload_n (q := 131) 0 dX11_read_130 rfl rfl rfl ?_
    refine g_sipush (q := 134) dX11_read_131 kS_150 rfl ?_
    refine g_aload_n (q := 135) 0 dX11_read_134 rfl rfl rfl ?_
    refine g_getI (q := 138) fX11_side dX11_read_135 ww1061 rfl ?_
    refine g_imul (q := 139) dX11_read_138 rfl ?_
    refine g_putI (q := 142) fX11_lits pwX11_lits okTX11 dX11_read_139 ww1079 rfl (fun s20 => ?_)
    refine g_aload_n (q := 143) 0 dX11_read_142 rfl rfl rfl ?_
    refine g_sipush (q := 146) dX11_read_143 kS_420 rfl ?_
    refine g_aload_n (q := 147) 0 dX11_read_146 rfl rfl rfl ?_
    refine g_getI (q := 150) fX11_side dX11_read_147 ww1061 rfl ?_
    refine g_imul (q := 151) dX11_read_150 rfl ?_
    refine g_putI (q := 154) fX11_codes pwX11_codes okTX11 dX11_read_151 ww1086 rfl (fun s21 => ?_)
    refine g_bind (S := gS) (hd := 176) (lvf := fun z22 => [(0, .ref (b + 0))]) (stf := fun z22 => []) (σf := fun z22 => z22) ?_ (fun z22 => ?_)
    · refine g_loop (S := gS) (lvf := fun z23 => [(0, .ref (b + 0))]) (σf := fun z23 => z23) (fun z23 => ?_) s21
      refine g_aload_n (q := 155) 0 dX11_read_154 rfl rfl rfl ?_
      refine g_getI (q := 158) fX11_fault dX11_read_155 ww1055 rfl ?_
      refine g_if_ne (t := 176) (q := 161) dX11_read_158 (by decide) rfl ?_ ?_
      · refine g_aload_n (q := 162) 0 dX11_read_161 rfl rfl rfl ?_
        refine g_iconst (q := 163) dX11_read_162 kI_0 rfl ?_
        refine g_callO (As := [.int (0 : Int32)]) (st := []) (cn_X11_is) shX11 rfl cwX11_218 rfl dX11_read_163 rfl (Nat.le_of_ble_eq_true rfl) (by decide) (kk_PI (fun v24 => ?_))
        refine g_if_ne (t := 176) (q := 169) dX11_read_166 (by decide) rfl ?_ ?_
        · refine g_aload_n (q := 170) 0 dX11_read_169 rfl rfl rfl ?_
          refine g_callO (As := []) (st := []) (cn_X11_tell) shX11 rfl cwX11_245 rfl dX11_read_170 rfl (Nat.le_of_ble_eq_true rfl) (by decide) (kk_V (fun s27 => ?_))
          refine g_goto (t := 154) dX11_read_173 (by decide) ?_
          exact (g_again (s27 : gS))
        · exact (g_leave (g_there (z23 : gS)))
      · exact (g_leave (g_there (z23 : gS)))
    · refine g_aload_n (q := 177) 0 dX11_read_176 rfl rfl rfl ?_
      refine g_aload_n (q := 178) 0 dX11_read_177 rfl rfl rfl ?_
      refine g_getI (q := 181) fX11_fault dX11_read_178 ww1055 rfl ?_
      refine g_bind (S := Int32) (hd := 206) (lvf := fun z28 => [(0, .ref (b + 0))]) (stf := fun z28 => [.int z28, .ref (b + 0)]) (σf := fun z28 => z22) ?_ (fun z28 => ?_)
      · refine g_if_le (t := 191) (q := 184) dX11_read_181 (by decide) rfl ?_ ?_
        · refine g_aload_n (q := 192) 0 dX11_read_191 rfl rfl rfl ?_
          refine g_getI (q := 195) fX11_worst dX11_read_192 ww1057 rfl ?_
          refine g_if_le (t := 205) (q := 198) dX11_read_195 (by decide) rfl ?_ ?_
          · refine g_iconst (q := 206) dX11_read_205 kI_m1 rfl ?_
            exact (g_there ((-1 : Int32) : Int32))
          · refine g_aload_n (q := 199) 0 dX11_read_198 rfl rfl rfl ?_
            refine g_getI (q := 202) fX11_worstPlace dX11_read_199 ww1058 rfl ?_
            refine g_goto (t := 206) dX11_read_202 (by decide) ?_
            exact (g_there (z22.1 0 16 : Int32))
        · refine g_aload_n (q := 185) 0 dX11_read_184 rfl rfl rfl ?_
          refine g_getI (q := 188) fX11_faultPlace dX11_read_185 ww1056 rfl ?_
          refine g_goto (t := 206) dX11_read_188 (by decide) ?_
          exact (g_there (z22.1 0 14 : Int32))
      · refine g_putI (q := 209) fX11_place pwX11_place okTX11 dX11_read_206 ww1059 rfl (fun s29 => ?_)
        refine g_aload_n (q := 210) 0 dX11_read_209 rfl rfl rfl ?_
        refine g_getI (q := 213) fX11_fault dX11_read_210 ww1055 rfl ?_
        refine g_if_le (t := 221) (q := 216) dX11_read_213 (by decide) rfl ?_ ?_
        · refine g_aload_n (q := 222) 0 dX11_read_221 rfl rfl rfl ?_
          refine g_getI (q := 225) fX11_worst dX11_read_222 ww1057 rfl ?_
          refine g_if_le (t := 233) (q := 228) dX11_read_225 (by decide) rfl ?_ ?_
          · refine g_aload_n (q := 234) 0 dX11_read_233 rfl rfl rfl ?_
            refine g_aload_n (q := 235) 0 dX11_read_234 rfl rfl rfl ?_
            refine g_getI (q := 238) fX11_side dX11_read_235 ww1061 rfl ?_
            refine g_putI (q := 241) fX11_live pwX11_live okTX11 dX11_read_238 ww1060 rfl (fun s30 => ?_)
            refine g_iconst (q := 242) dX11_read_241 kI_0 rfl ?_
            exact (g_iret dX11_read_242)
          · refine g_aload_n (q := 229) 0 dX11_read_228 rfl rfl rfl ?_
            refine g_getI (q := 232) fX11_worst dX11_read_229 ww1057 rfl ?_
            exact (g_iret dX11_read_232)
        · refine g_aload_n (q := 217) 0 dX11_read_216 rfl rfl rfl ?_
          refine g_getI (q := 220) fX11_fault dX11_read_217 ww1055 rfl ?_
          exact (g_iret dX11_read_220)
noncomputable def pX11_place (σ : gS) : Option (Int32) := some (σ.1 0 17)
set_option maxRecDepth 100000 in
theorem cn_X11_place {G : gG} {b : Nat}  {σ : gS} : CN vR G b 1 yX11_place cX11_place 1 (some .int) (kPI σ) [.ref (b + 0)] σ (pX11_place σ) := by
  refine cn_of (own := RX11) rfl rfl (Nat.le_of_ble_eq_true rfl) ?_
  show GF vR G b (1, 0, 0) RX11 cX11_place 1 (some .int) (kPI σ) 0 [(0, .ref (b + 0))] [] σ (pX11_place σ)
  unfold pX11_place
  refine g_aload_n (q := 1) 0 dX11_place_0 rfl rfl rfl ?_
  refine g_getI (q := 4) fX11_place dX11_place_1 ww1059 rfl ?_
  exact (g_iretP dX11_place_4)
noncomputable def pX11_termOf (a1 : Int32) (a2 : Int32) (σ : gS) : Option (Int32 × gS) := bn1 (lpP (fun (z2 : (Int32 × Int32 × gS)) => if a2 ≤ z2.1 then some (.inr z2.2.2) else gx z2.1 840 (lt' (z2.2.2.1 30 z2.1.toNatClampNeg) (fun x3 => if (2 : Int32) ≤ x3 then lt' (z2.2.1 + (-1 : Int32)) (fun x4 => gx (x4 - (1 : Int32)) 400 (lt' (z2.2.2.1 34 (x4 - (1 : Int32)).toNatClampNeg) (fun x5 => gx x4 400 (lt' (z2.2.2.1 34 x4.toNatClampNeg) (fun x6 => if x3 = (2 : Int32) then gx (x4 - (1 : Int32)) 400 (lt' (wI z2.2.2 34 (x4 - (1 : Int32)).toNatClampNeg (x5 + x6)) (fun s7 => lt' (z2.1 + (1 : Int32)) (fun x8 => some (.inl (x8, x4, s7))))) else if x3 = (3 : Int32) then gx (x4 - (1 : Int32)) 400 (lt' (wI z2.2.2 34 (x4 - (1 : Int32)).toNatClampNeg (x5 - x6)) (fun s9 => lt' (z2.1 + (1 : Int32)) (fun x10 => some (.inl (x10, x4, s9))))) else gx (x4 - (1 : Int32)) 400 (lt' (wI z2.2.2 34 (x4 - (1 : Int32)).toNatClampNeg (x5 * x6)) (fun s11 => lt' (z2.1 + (1 : Int32)) (fun x12 => some (.inl (x12, x4, s11)))))))))) else bn1 (if x3 = 0 then gx z2.1 840 (some (z2.2.2.1 31 z2.1.toNatClampNeg)) else gx z2.1 840 (gx (z2.2.2.1 31 z2.1.toNatClampNeg) 21 (some (z2.2.2.1 33 (z2.2.2.1 31 z2.1.toNatClampNeg).toNatClampNeg)))) (fun (z13 : Int32) => gx z2.2.1 400 (lt' (wI z2.2.2 34 z2.2.1.toNatClampNeg z13) (fun s14 => lt' (z2.2.1 + (1 : Int32)) (fun x15 => lt' (z2.1 + (1 : Int32)) (fun x16 => some (.inl (x16, x15, s14)))))))))) (a1, (0 : Int32), σ)) (fun (z1 : gS) => gx (0 : Int32) 400 (some (z1.1 34 (0 : Int32).toNatClampNeg, z1)))
set_option maxRecDepth 100000 in
theorem cn_X11_termOf {G : gG} {b : Nat} {a1 : Int32} {a2 : Int32} {σ : gS} : CN vR G b 1 yX11_termOf cX11_termOf 8 (some .int) kI [.ref (b + 0), .int a1, .int a2] σ (pX11_termOf a1 a2 σ) := by
  refine cn_of (own := RX11) rfl rfl (Nat.le_of_ble_eq_true rfl) ?_
  show GF vR G b (1, 0, 0) RX11 cX11_termOf 8 (some .int) kI 0 [(0, .ref (b + 0)), (1, .int a1), (2, .int a2)] [] σ (pX11_termOf a1 a2 σ)
  unfold pX11_termOf
  refine g_iconst (q := 1) dX11_termOf_0 kI_0 rfl ?_
  refine g_istore_n (lr := [(0, .ref (b + 0)), (1, .int a1), (2, .int a2)]) (q := 2) dX11_termOf_1 rfl (by decide) rfl rfl ?_
  refine g_iload_n (q := 3) 2 dX11_termOf_2 rfl rfl rfl ?_
  refine g_istore (lr := [(3, .int (0 : Int32)), (0, .ref (b + 0)), (1, .int a1), (2, .int a2)]) (q := 5) dX11_termOf_3 (by decide) rfl rfl ?_
  refine g_bind (S := gS) (hd := 133) (lvf := fun z1 => [(0, .ref (b + 0))]) (stf := fun z1 => []) (σf := fun z1 => z1) ?_ (fun z1 => ?_)
  · refine g_sub (lr := [(4, .int a1), (3, .int (0 : Int32)), (0, .ref (b + 0)), (2, .int a2)]) [0, 1, 2, 4] rfl ?_
    refine g_loop (S := (Int32 × Int32 × gS)) (lvf := fun z2 => [(4, .int z2.1), (3, .int z2.2.1), (0, .ref (b + 0)), (2, .int a2)]) (σf := fun z2 => z2.2.2) (fun z2 => ?_) (a1, (0 : Int32), σ)
    refine g_iload (q := 7) 0 dX11_termOf_5 rfl rfl ?_
    refine g_iload_n (q := 8) 3 dX11_termOf_7 rfl rfl rfl ?_
    refine g_icmp_ge (t := 133) (q := 11) dX11_termOf_8 (by decide) rfl ?_ ?_
    · refine g_sub (lr := [(0, .ref (b + 0))]) [2] rfl ?_
      exact (g_leave (g_there (z2.2.2 : gS)))
    · refine g_aload_n (q := 12) 2 dX11_termOf_11 rfl rfl rfl ?_
      refine g_getA (q := 15) fX11_code dX11_termOf_12 ww1087 rfl ?_
      refine g_iload (q := 17) 0 dX11_termOf_15 rfl rfl ?_
      refine g_iald (q := 18) (aX11_code) dX11_termOf_17 rfl ?_
      refine g_leti (fun x3 => ?_)
      refine g_istore (lr := [(4, .int z2.1), (3, .int z2.2.1), (0, .ref (b + 0)), (2, .int a2)]) (q := 20) dX11_termOf_18 (by decide) rfl rfl ?_
      refine g_iload (q := 22) 0 dX11_termOf_20 rfl rfl ?_
      refine g_iconst (q := 23) dX11_termOf_22 kI_2 rfl ?_
      refine g_icmp_ge (t := 65) (q := 26) dX11_termOf_23 (by decide) rfl ?_ ?_
      · refine g_iinc (lr := [(5, .int x3), (4, .int z2.1), (0, .ref (b + 0)), (2, .int a2)]) (q := 68) 2 dX11_termOf_65 rfl kI_m1 (by decide) rfl rfl (fun x4 => ?_)
        refine g_aload_n (q := 69) 3 dX11_termOf_68 rfl rfl rfl ?_
        refine g_getA (q := 72) fX11_pile dX11_termOf_69 ww1092 rfl ?_
        refine g_iload_n (q := 73) 0 dX11_termOf_72 rfl rfl rfl ?_
        refine g_iconst (q := 74) dX11_termOf_73 kI_1 rfl ?_
        refine g_isub (q := 75) dX11_termOf_74 rfl ?_
        refine g_iald (q := 76) (aX11_pile) dX11_termOf_75 rfl ?_
        refine g_leti (fun x5 => ?_)
        refine g_istore (lr := [(3, .int x4), (5, .int x3), (4, .int z2.1), (0, .ref (b + 0)), (2, .int a2)]) (q := 78) dX11_termOf_76 (by decide) rfl rfl ?_
        refine g_aload_n (q := 79) 4 dX11_termOf_78 rfl rfl rfl ?_
        refine g_getA (q := 82) fX11_pile dX11_termOf_79 ww1092 rfl ?_
        refine g_iload_n (q := 83) 1 dX11_termOf_82 rfl rfl rfl ?_
        refine g_iald (q := 84) (aX11_pile) dX11_termOf_83 rfl ?_
        refine g_leti (fun x6 => ?_)
        refine g_istore (lr := [(6, .int x5), (3, .int x4), (5, .int x3), (4, .int z2.1), (0, .ref (b + 0)), (2, .int a2)]) (q := 86) dX11_termOf_84 (by decide) rfl rfl ?_
        refine g_aload_n (q := 87) 5 dX11_termOf_86 rfl rfl rfl ?_
        refine g_getA (q := 90) fX11_pile dX11_termOf_87 ww1092 rfl ?_
        refine g_iload_n (q := 91) 2 dX11_termOf_90 rfl rfl rfl ?_
        refine g_iconst (q := 92) dX11_termOf_91 kI_1 rfl ?_
        refine g_isub (q := 93) dX11_termOf_92 rfl ?_
        refine g_iload (q := 95) 3 dX11_termOf_93 rfl rfl ?_
        refine g_iconst (q := 96) dX11_termOf_95 kI_2 rfl ?_
        refine g_icmp_ne (t := 107) (q := 99) dX11_termOf_96 (by decide) rfl ?_ ?_
        · refine g_iload (q := 101) 1 dX11_termOf_99 rfl rfl ?_
          refine g_iload (q := 103) 0 dX11_termOf_101 rfl rfl ?_
          refine g_iadd (q := 104) dX11_termOf_103 rfl ?_
          refine g_goto (t := 126) dX11_termOf_104 (by decide) ?_
          refine g_iast (q := 127) (aX11_pile) dX11_termOf_126 rfl (fun s7 => ?_)
          refine g_iinc (lr := [(7, .int x6), (6, .int x5), (3, .int x4), (5, .int x3), (0, .ref (b + 0)), (2, .int a2)]) (q := 130) 4 dX11_termOf_127 rfl kI_1 (by decide) rfl rfl (fun x8 => ?_)
          refine g_goto (t := 5) dX11_termOf_130 (by decide) ?_
          refine g_sub (lr := [(4, .int x8), (3, .int x4), (0, .ref (b + 0)), (2, .int a2)]) [0, 3, 5, 6] rfl ?_
          exact (g_again ((x8, x4, s7) : (Int32 × Int32 × gS)))
        · refine g_iload (q := 109) 3 dX11_termOf_107 rfl rfl ?_
          refine g_iconst (q := 110) dX11_termOf_109 kI_3 rfl ?_
          refine g_icmp_ne (t := 121) (q := 113) dX11_termOf_110 (by decide) rfl ?_ ?_
          · refine g_iload (q := 115) 1 dX11_termOf_113 rfl rfl ?_
            refine g_iload (q := 117) 0 dX11_termOf_115 rfl rfl ?_
            refine g_isub (q := 118) dX11_termOf_117 rfl ?_
            refine g_goto (t := 126) dX11_termOf_118 (by decide) ?_
            refine g_iast (q := 127) (aX11_pile) dX11_termOf_126 rfl (fun s9 => ?_)
            refine g_iinc (lr := [(7, .int x6), (6, .int x5), (3, .int x4), (5, .int x3), (0, .ref (b + 0)), (2, .int a2)]) (q := 130) 4 dX11_termOf_127 rfl kI_1 (by decide) rfl rfl (fun x10 => ?_)
            refine g_goto (t := 5) dX11_termOf_130 (by decide) ?_
            refine g_sub (lr := [(4, .int x10), (3, .int x4), (0, .ref (b + 0)), (2, .int a2)]) [0, 3, 5, 6] rfl ?_
            exact (g_again ((x10, x4, s9) : (Int32 × Int32 × gS)))
          · refine g_iload (q := 123) 1 dX11_termOf_121 rfl rfl ?_
            refine g_iload (q := 125) 0 dX11_termOf_123 rfl rfl ?_
            refine g_imul (q := 126) dX11_termOf_125 rfl ?_
            refine g_iast (q := 127) (aX11_pile) dX11_termOf_126 rfl (fun s11 => ?_)
            refine g_iinc (lr := [(7, .int x6), (6, .int x5), (3, .int x4), (5, .int x3), (0, .ref (b + 0)), (2, .int a2)]) (q := 130) 4 dX11_termOf_127 rfl kI_1 (by decide) rfl rfl (fun x12 => ?_)
            refine g_goto (t := 5) dX11_termOf_130 (by decide) ?_
            refine g_sub (lr := [(4, .int x12), (3, .int x4), (0, .ref (b + 0)), (2, .int a2)]) [0, 3, 5, 6] rfl ?_
            exact (g_again ((x12, x4, s11) : (Int32 × Int32 × gS)))
      · refine g_aload_n (q := 27) 3 dX11_termOf_26 rfl rfl rfl ?_
        refine g_getA (q := 30) fX11_pile dX11_termOf_27 ww1092 rfl ?_
        refine g_iload_n (q := 31) 2 dX11_termOf_30 rfl rfl rfl ?_
        refine g_iload (q := 33) 0 dX11_termOf_31 rfl rfl ?_
        refine g_bind (S := Int32) (hd := 58) (lvf := fun z13 => [(4, .int z2.1), (3, .int z2.2.1), (0, .ref (b + 0)), (2, .int a2)]) (stf := fun z13 => [.int z13, .int z2.2.1, .ref (b + 34)]) (σf := fun z13 => z2.2.2) ?_ (fun z13 => ?_)
        · refine g_if_ne (t := 46) (q := 36) dX11_termOf_33 (by decide) rfl ?_ ?_
          · refine g_aload_n (q := 37) 3 dX11_termOf_36 rfl rfl rfl ?_
            refine g_getA (q := 40) fX11_codeInt dX11_termOf_37 ww1088 rfl ?_
            refine g_iload (q := 42) 1 dX11_termOf_40 rfl rfl ?_
            refine g_iald (q := 43) (aX11_codeInt) dX11_termOf_42 rfl ?_
            refine g_goto (t := 58) dX11_termOf_43 (by decide) ?_
            refine g_sub (lr := [(4, .int z2.1), (3, .int z2.2.1), (0, .ref (b + 0)), (2, .int a2)]) [1, 2, 3, 4] rfl ?_
            exact (g_there (z2.2.2.1 31 z2.1.toNatClampNeg : Int32))
          · refine g_aload_n (q := 47) 3 dX11_termOf_46 rfl rfl rfl ?_
            refine g_getA (q := 50) fX11_variables dX11_termOf_47 ww1091 rfl ?_
            refine g_aload_n (q := 51) 3 dX11_termOf_50 rfl rfl rfl ?_
            refine g_getA (q := 54) fX11_codeInt dX11_termOf_51 ww1088 rfl ?_
            refine g_iload (q := 56) 1 dX11_termOf_54 rfl rfl ?_
            refine g_iald (q := 57) (aX11_codeInt) dX11_termOf_56 rfl ?_
            refine g_iald (q := 58) (aX11_variables) dX11_termOf_57 rfl ?_
            refine g_sub (lr := [(4, .int z2.1), (3, .int z2.2.1), (0, .ref (b + 0)), (2, .int a2)]) [1, 2, 3, 4] rfl ?_
            exact (g_there (z2.2.2.1 33 (z2.2.2.1 31 z2.1.toNatClampNeg).toNatClampNeg : Int32))
        · refine g_iast (q := 59) (aX11_pile) dX11_termOf_58 rfl (fun s14 => ?_)
          refine g_iinc (lr := [(4, .int z2.1), (0, .ref (b + 0)), (2, .int a2)]) (q := 62) 1 dX11_termOf_59 rfl kI_1 (by decide) rfl rfl (fun x15 => ?_)
          refine g_goto (t := 127) dX11_termOf_62 (by decide) ?_
          refine g_iinc (lr := [(3, .int x15), (0, .ref (b + 0)), (2, .int a2)]) (q := 130) 1 dX11_termOf_127 rfl kI_1 (by decide) rfl rfl (fun x16 => ?_)
          refine g_goto (t := 5) dX11_termOf_130 (by decide) ?_
          exact (g_again ((x16, x15, s14) : (Int32 × Int32 × gS)))
  · refine g_aload_n (q := 134) 0 dX11_termOf_133 rfl rfl rfl ?_
    refine g_getA (q := 137) fX11_pile dX11_termOf_134 ww1092 rfl ?_
    refine g_iconst (q := 138) dX11_termOf_137 kI_0 rfl ?_
    refine g_iald (q := 139) (aX11_pile) dX11_termOf_138 rfl ?_
    exact (g_iret dX11_termOf_139)
noncomputable def pX11_isTrue (a1 : Int32) (σ : gS) : Option (Int32 × gS) := gx a1 300 (gx a1 300 (bn2 (pX11_termOf (σ.1 27 a1.toNatClampNeg) (σ.1 28 a1.toNatClampNeg) σ) (fun v1 s2 => gx a1 300 (gx a1 300 (bn2 (pX11_termOf (s2.1 28 a1.toNatClampNeg) (s2.1 29 a1.toNatClampNeg) s2) (fun v3 s4 => gx a1 300 (bn1 (if (s4.1 24 a1.toNatClampNeg) = 0 then if v1 = v3 then some (1 : Int32) else some (0 : Int32) else gx a1 300 (if (s4.1 24 a1.toNatClampNeg) = (1 : Int32) then if v1 = v3 then some (0 : Int32) else some (1 : Int32) else gx a1 300 (if (s4.1 24 a1.toNatClampNeg) = (2 : Int32) then if v3 ≤ v1 then some (0 : Int32) else some (1 : Int32) else if v3 < v1 then some (0 : Int32) else some (1 : Int32)))) (fun (z5 : Int32) => gx a1 300 (if z5 = (s4.1 25 a1.toNatClampNeg) then some ((0 : Int32), s4) else some ((1 : Int32), s4))))))))))
set_option maxRecDepth 100000 in
theorem cn_X11_isTrue {G : gG} {b : Nat} {a1 : Int32} {σ : gS} : CN vR G b 2 yX11_isTrue cX11_isTrue 5 (some .boolean) kI [.ref (b + 0), .int a1] σ (pX11_isTrue a1 σ) := by
  refine cn_of (own := RX11) rfl rfl (Nat.le_of_ble_eq_true rfl) ?_
  show GF vR G b (2, 0, 0) RX11 cX11_isTrue 5 (some .boolean) kI 0 [(0, .ref (b + 0)), (1, .int a1)] [] σ (pX11_isTrue a1 σ)
  unfold pX11_isTrue
  refine g_aload_n (q := 1) 0 dX11_isTrue_0 rfl rfl rfl ?_
  refine g_aload_n (q := 2) 0 dX11_isTrue_1 rfl rfl rfl ?_
  refine g_getA (q := 5) fX11_litLeft dX11_isTrue_2 ww1083 rfl ?_
  refine g_iload_n (q := 6) 1 dX11_isTrue_5 rfl rfl rfl ?_
  refine g_iald (q := 7) (aX11_litLeft) dX11_isTrue_6 rfl ?_
  refine g_aload_n (q := 8) 0 dX11_isTrue_7 rfl rfl rfl ?_
  refine g_getA (q := 11) fX11_litRight dX11_isTrue_8 ww1084 rfl ?_
  refine g_iload_n (q := 12) 1 dX11_isTrue_11 rfl rfl rfl ?_
  refine g_iald (q := 13) (aX11_litRight) dX11_isTrue_12 rfl ?_
  refine g_callO (As := [.int (σ.1 27 a1.toNatClampNeg), .int (σ.1 28 a1.toNatClampNeg)]) (st := []) (cn_X11_termOf) shX11 rfl cwX11_303 rfl dX11_isTrue_13 rfl (Nat.le_of_ble_eq_true rfl) (by decide) (kk_I (fun v1 s2 => ?_))
  refine g_istore_n (lr := [(0, .ref (b + 0)), (1, .int a1)]) (q := 17) dX11_isTrue_16 rfl (by decide) rfl rfl ?_
  refine g_aload_n (q := 18) 1 dX11_isTrue_17 rfl rfl rfl ?_
  refine g_aload_n (q := 19) 1 dX11_isTrue_18 rfl rfl rfl ?_
  refine g_getA (q := 22) fX11_litRight dX11_isTrue_19 ww1084 rfl ?_
  refine g_iload_n (q := 23) 2 dX11_isTrue_22 rfl rfl rfl ?_
  refine g_iald (q := 24) (aX11_litRight) dX11_isTrue_23 rfl ?_
  refine g_aload_n (q := 25) 1 dX11_isTrue_24 rfl rfl rfl ?_
  refine g_getA (q := 28) fX11_litEnd dX11_isTrue_25 ww1085 rfl ?_
  refine g_iload_n (q := 29) 2 dX11_isTrue_28 rfl rfl rfl ?_
  refine g_iald (q := 30) (aX11_litEnd) dX11_isTrue_29 rfl ?_
  refine g_callO (As := [.int (s2.1 28 a1.toNatClampNeg), .int (s2.1 29 a1.toNatClampNeg)]) (st := []) (cn_X11_termOf) shX11 rfl cwX11_303 rfl dX11_isTrue_30 rfl (Nat.le_of_ble_eq_true rfl) (by decide) (kk_I (fun v3 s4 => ?_))
  refine g_istore_n (lr := [(2, .int v1), (0, .ref (b + 0)), (1, .int a1)]) (q := 34) dX11_isTrue_33 rfl (by decide) rfl rfl ?_
  refine g_aload_n (q := 35) 2 dX11_isTrue_34 rfl rfl rfl ?_
  refine g_getA (q := 38) fX11_litSort dX11_isTrue_35 ww1080 rfl ?_
  refine g_iload_n (q := 39) 3 dX11_isTrue_38 rfl rfl rfl ?_
  refine g_iald (q := 40) (aX11_litSort) dX11_isTrue_39 rfl ?_
  refine g_bind (S := Int32) (hd := 112) (lvf := fun z5 => [(0, .ref (b + 0)), (1, .int a1)]) (stf := fun z5 => [.int z5]) (σf := fun z5 => s4) ?_ (fun z5 => ?_)
  · refine g_if_ne (t := 56) (q := 43) dX11_isTrue_40 (by decide) rfl ?_ ?_
    · refine g_iload_n (q := 44) 1 dX11_isTrue_43 rfl rfl rfl ?_
      refine g_iload_n (q := 45) 0 dX11_isTrue_44 rfl rfl rfl ?_
      refine g_icmp_ne (t := 52) (q := 48) dX11_isTrue_45 (by decide) rfl ?_ ?_
      · refine g_iconst (q := 49) dX11_isTrue_48 kI_1 rfl ?_
        refine g_goto (t := 112) dX11_isTrue_49 (by decide) ?_
        refine g_sub (lr := [(0, .ref (b + 0)), (1, .int a1)]) [2, 3] rfl ?_
        exact (g_there ((1 : Int32) : Int32))
      · refine g_iconst (q := 53) dX11_isTrue_52 kI_0 rfl ?_
        refine g_goto (t := 112) dX11_isTrue_53 (by decide) ?_
        refine g_sub (lr := [(0, .ref (b + 0)), (1, .int a1)]) [2, 3] rfl ?_
        exact (g_there ((0 : Int32) : Int32))
    · refine g_aload_n (q := 57) 2 dX11_isTrue_56 rfl rfl rfl ?_
      refine g_getA (q := 60) fX11_litSort dX11_isTrue_57 ww1080 rfl ?_
      refine g_iload_n (q := 61) 3 dX11_isTrue_60 rfl rfl rfl ?_
      refine g_iald (q := 62) (aX11_litSort) dX11_isTrue_61 rfl ?_
      refine g_iconst (q := 63) dX11_isTrue_62 kI_1 rfl ?_
      refine g_icmp_ne (t := 79) (q := 66) dX11_isTrue_63 (by decide) rfl ?_ ?_
      · refine g_iload_n (q := 67) 1 dX11_isTrue_66 rfl rfl rfl ?_
        refine g_iload_n (q := 68) 0 dX11_isTrue_67 rfl rfl rfl ?_
        refine g_icmp_eq (t := 75) (q := 71) dX11_isTrue_68 (by decide) rfl ?_ ?_
        · refine g_iconst (q := 76) dX11_isTrue_75 kI_0 rfl ?_
          refine g_goto (t := 112) dX11_isTrue_76 (by decide) ?_
          refine g_sub (lr := [(0, .ref (b + 0)), (1, .int a1)]) [2, 3] rfl ?_
          exact (g_there ((0 : Int32) : Int32))
        · refine g_iconst (q := 72) dX11_isTrue_71 kI_1 rfl ?_
          refine g_goto (t := 112) dX11_isTrue_72 (by decide) ?_
          refine g_sub (lr := [(0, .ref (b + 0)), (1, .int a1)]) [2, 3] rfl ?_
          exact (g_there ((1 : Int32) : Int32))
      · refine g_aload_n (q := 80) 2 dX11_isTrue_79 rfl rfl rfl ?_
        refine g_getA (q := 83) fX11_litSort dX11_isTrue_80 ww1080 rfl ?_
        refine g_iload_n (q := 84) 3 dX11_isTrue_83 rfl rfl rfl ?_
        refine g_iald (q := 85) (aX11_litSort) dX11_isTrue_84 rfl ?_
        refine g_iconst (q := 86) dX11_isTrue_85 kI_2 rfl ?_
        refine g_icmp_ne (t := 102) (q := 89) dX11_isTrue_86 (by decide) rfl ?_ ?_
        · refine g_iload_n (q := 90) 1 dX11_isTrue_89 rfl rfl rfl ?_
          refine g_iload_n (q := 91) 0 dX11_isTrue_90 rfl rfl rfl ?_
          refine g_icmp_ge (t := 98) (q := 94) dX11_isTrue_91 (by decide) rfl ?_ ?_
          · refine g_iconst (q := 99) dX11_isTrue_98 kI_0 rfl ?_
            refine g_goto (t := 112) dX11_isTrue_99 (by decide) ?_
            refine g_sub (lr := [(0, .ref (b + 0)), (1, .int a1)]) [2, 3] rfl ?_
            exact (g_there ((0 : Int32) : Int32))
          · refine g_iconst (q := 95) dX11_isTrue_94 kI_1 rfl ?_
            refine g_goto (t := 112) dX11_isTrue_95 (by decide) ?_
            refine g_sub (lr := [(0, .ref (b + 0)), (1, .int a1)]) [2, 3] rfl ?_
            exact (g_there ((1 : Int32) : Int32))
        · refine g_iload_n (q := 103) 1 dX11_isTrue_102 rfl rfl rfl ?_
          refine g_iload_n (q := 104) 0 dX11_isTrue_103 rfl rfl rfl ?_
          refine g_icmp_gt (t := 111) (q := 107) dX11_isTrue_104 (by decide) rfl ?_ ?_
          · refine g_iconst (q := 112) dX11_isTrue_111 kI_0 rfl ?_
            refine g_sub (lr := [(0, .ref (b + 0)), (1, .int a1)]) [2, 3] rfl ?_
            exact (g_there ((0 : Int32) : Int32))
          · refine g_iconst (q := 108) dX11_isTrue_107 kI_1 rfl ?_
            refine g_goto (t := 112) dX11_isTrue_108 (by decide) ?_
            refine g_sub (lr := [(0, .ref (b + 0)), (1, .int a1)]) [2, 3] rfl ?_
            exact (g_there ((1 : Int32) : Int32))
  · refine g_istore (lr := [(0, .ref (b + 0)), (1, .int a1)]) (q := 114) dX11_isTrue_112 (by decide) rfl rfl ?_
    refine g_iload (q := 116) 0 dX11_isTrue_114 rfl rfl ?_
    refine g_aload_n (q := 117) 1 dX11_isTrue_116 rfl rfl rfl ?_
    refine g_getA (q := 120) fX11_litNot dX11_isTrue_117 ww1081 rfl ?_
    refine g_iload_n (q := 121) 2 dX11_isTrue_120 rfl rfl rfl ?_
    refine g_zald (q := 122) (aX11_litNot) dX11_isTrue_121 rfl ?_
    refine g_icmp_eq (t := 129) (q := 125) dX11_isTrue_122 (by decide) rfl ?_ ?_
    · refine g_iconst (q := 130) dX11_isTrue_129 kI_0 rfl ?_
      exact (g_bret0 dX11_isTrue_130)
    · refine g_iconst (q := 126) dX11_isTrue_125 kI_1 rfl ?_
      refine g_goto (t := 130) dX11_isTrue_126 (by decide) ?_
      exact (g_bret1 dX11_isTrue_130)
noncomputable def pX11_holdsRule (a1 : Int32) (σ : gS) : Option (Int32 × gS) := gx a1 52 (lt' (σ.1 20 a1.toNatClampNeg) (fun x1 => bnS (lpP (fun (z3 : (Int32 × Int32 × gS)) => gx a1 52 (if (z3.2.2.1 21 a1.toNatClampNeg) ≤ z3.1 then some (.inr (.inl (z3.2.1, z3.2.2))) else gx z3.1 300 (bnS (if (z3.2.2.1 26 z3.1.toNatClampNeg) = 0 then some (.inl ()) else if z3.2.1 = 0 then some (.inl ()) else some (.inr (.inr (.inr ((1 : Int32), z3.2.2))))) (fun (z4 : Unit) => gx z3.1 300 (bn1 (if (z3.2.2.1 26 z3.1.toNatClampNeg) = 0 then some z3.2.1 else some (1 : Int32)) (fun (z5 : Int32) => if z5 = 0 then lt' (z3.1 + (1 : Int32)) (fun x6 => some (.inl (x6, (0 : Int32), z3.2.2))) else bn2 (pX11_isTrue z3.1 z3.2.2) (fun v7 s8 => if v7 = 0 then lt' (z3.1 + (1 : Int32)) (fun x9 => some (.inl (x9, (0 : Int32), s8))) else lt' (z3.1 + (1 : Int32)) (fun x10 => some (.inl (x10, (1 : Int32), s8)))))))))) (x1, (0 : Int32), σ)) (fun (z2 : (Int32 × gS)) => some (z2.1 &&& 1, z2.2))))
set_option maxRecDepth 100000 in
theorem cn_X11_holdsRule {G : gG} {b : Nat} {a1 : Int32} {σ : gS} : CN vR G b 3 yX11_holdsRule cX11_holdsRule 4 (some .boolean) kI [.ref (b + 0), .int a1] σ (pX11_holdsRule a1 σ) := by
  refine cn_of (own := RX11) rfl rfl (Nat.le_of_ble_eq_true rfl) ?_
  show GF vR G b (3, 0, 0) RX11 cX11_holdsRule 4 (some .boolean) kI 0 [(0, .ref (b + 0)), (1, .int a1)] [] σ (pX11_holdsRule a1 σ)
  unfold pX11_holdsRule
  refine g_iconst (q := 1) dX11_holdsRule_0 kI_0 rfl ?_
  refine g_istore_n (lr := [(0, .ref (b + 0)), (1, .int a1)]) (q := 2) dX11_holdsRule_1 rfl (by decide) rfl rfl ?_
  refine g_aload_n (q := 3) 1 dX11_holdsRule_2 rfl rfl rfl ?_
  refine g_getA (q := 6) fX11_litFirst dX11_holdsRule_3 ww1075 rfl ?_
  refine g_iload_n (q := 7) 2 dX11_holdsRule_6 rfl rfl rfl ?_
  refine g_iald (q := 8) (aX11_litFirst) dX11_holdsRule_7 rfl ?_
  refine g_leti (fun x1 => ?_)
  refine g_istore_n (lr := [(2, .int (0 : Int32)), (0, .ref (b + 0)), (1, .int a1)]) (q := 9) dX11_holdsRule_8 rfl (by decide) rfl rfl ?_
  refine g_bindS (S := (Int32 × gS)) (hd := 69) (lvf := fun z2 => [(2, .int z2.1)]) (stf := fun z2 => []) (σf := fun z2 => z2.2) ?_ (fun z2 => ?_)
  · refine g_loop (S := (Int32 × Int32 × gS)) (lvf := fun z3 => [(3, .int z3.1), (2, .int z3.2.1), (0, .ref (b + 0)), (1, .int a1)]) (σf := fun z3 => z3.2.2) (fun z3 => ?_) (x1, (0 : Int32), σ)
    refine g_iload_n (q := 10) 0 dX11_holdsRule_9 rfl rfl rfl ?_
    refine g_aload_n (q := 11) 2 dX11_holdsRule_10 rfl rfl rfl ?_
    refine g_getA (q := 14) fX11_litLast dX11_holdsRule_11 ww1076 rfl ?_
    refine g_iload_n (q := 15) 3 dX11_holdsRule_14 rfl rfl rfl ?_
    refine g_iald (q := 16) (aX11_litLast) dX11_holdsRule_15 rfl ?_
    refine g_icmp_ge (t := 69) (q := 19) dX11_holdsRule_16 (by decide) rfl ?_ ?_
    · refine g_sub (lr := [(2, .int z3.2.1)]) [1] rfl ?_
      exact (g_leave (g_thereS ((z3.2.1, z3.2.2) : (Int32 × gS))))
    · refine g_aload_n (q := 20) 2 dX11_holdsRule_19 rfl rfl rfl ?_
      refine g_getA (q := 23) fX11_litOr dX11_holdsRule_20 ww1082 rfl ?_
      refine g_iload_n (q := 24) 0 dX11_holdsRule_23 rfl rfl rfl ?_
      refine g_zald (q := 25) (aX11_litOr) dX11_holdsRule_24 rfl ?_
      refine g_bindS (S := Unit) (hd := 34) (lvf := fun z4 => [(3, .int z3.1), (2, .int z3.2.1), (0, .ref (b + 0)), (1, .int a1)]) (stf := fun z4 => []) (σf := fun z4 => z3.2.2) ?_ (fun z4 => ?_)
      · refine g_if_eq (t := 34) (q := 28) dX11_holdsRule_25 (by decide) rfl ?_ ?_
        · exact (g_thereS (() : Unit))
        · refine g_iload_n (q := 29) 1 dX11_holdsRule_28 rfl rfl rfl ?_
          refine g_if_eq (t := 34) (q := 32) dX11_holdsRule_29 (by decide) rfl ?_ ?_
          · exact (g_thereS (() : Unit))
          · refine g_iconst (q := 33) dX11_holdsRule_32 kI_1 rfl ?_
            exact (g_right (g_leave (g_right (g_bret1 dX11_holdsRule_33))))
      · refine g_aload_n (q := 35) 2 dX11_holdsRule_34 rfl rfl rfl ?_
        refine g_getA (q := 38) fX11_litOr dX11_holdsRule_35 ww1082 rfl ?_
        refine g_iload_n (q := 39) 0 dX11_holdsRule_38 rfl rfl rfl ?_
        refine g_zald (q := 40) (aX11_litOr) dX11_holdsRule_39 rfl ?_
        refine g_bind (S := Int32) (hd := 45) (lvf := fun z5 => [(2, .int z5), (3, .int z3.1), (0, .ref (b + 0)), (1, .int a1)]) (stf := fun z5 => []) (σf := fun z5 => z3.2.2) ?_ (fun z5 => ?_)
        · refine g_if_eq (t := 45) (q := 43) dX11_holdsRule_40 (by decide) rfl ?_ ?_
          · refine g_sub (lr := [(2, .int z3.2.1), (3, .int z3.1), (0, .ref (b + 0)), (1, .int a1)]) [1, 0, 2, 3] rfl ?_
            exact (g_there (z3.2.1 : Int32))
          · refine g_iconst (q := 44) dX11_holdsRule_43 kI_1 rfl ?_
            refine g_istore_n (lr := [(3, .int z3.1), (0, .ref (b + 0)), (1, .int a1)]) (q := 45) dX11_holdsRule_44 rfl (by decide) rfl rfl ?_
            exact (g_there ((1 : Int32) : Int32))
        · refine g_iload_n (q := 46) 0 dX11_holdsRule_45 rfl rfl rfl ?_
          refine g_if_eq (t := 61) (q := 49) dX11_holdsRule_46 (by decide) rfl ?_ ?_
          · refine g_iconst (q := 62) dX11_holdsRule_61 kI_0 rfl ?_
            refine g_istore_n (lr := [(3, .int z3.1), (0, .ref (b + 0)), (1, .int a1)]) (q := 63) dX11_holdsRule_62 rfl (by decide) rfl rfl ?_
            refine g_iinc (lr := [(2, .int (0 : Int32)), (0, .ref (b + 0)), (1, .int a1)]) (q := 66) 1 dX11_holdsRule_63 rfl kI_1 (by decide) rfl rfl (fun x6 => ?_)
            refine g_goto (t := 9) dX11_holdsRule_66 (by decide) ?_
            exact (g_again ((x6, (0 : Int32), z3.2.2) : (Int32 × Int32 × gS)))
          · refine g_aload_n (q := 50) 2 dX11_holdsRule_49 rfl rfl rfl ?_
            refine g_iload_n (q := 51) 1 dX11_holdsRule_50 rfl rfl rfl ?_
            refine g_callO (As := [.int z3.1]) (st := []) (cn_X11_isTrue) shX11 rfl cwX11_307 rfl dX11_holdsRule_51 rfl (Nat.le_of_ble_eq_true rfl) (by decide) (kk_I (fun v7 s8 => ?_))
            refine g_if_eq (t := 61) (q := 57) dX11_holdsRule_54 (by decide) rfl ?_ ?_
            · refine g_iconst (q := 62) dX11_holdsRule_61 kI_0 rfl ?_
              refine g_istore_n (lr := [(3, .int z3.1), (0, .ref (b + 0)), (1, .int a1)]) (q := 63) dX11_holdsRule_62 rfl (by decide) rfl rfl ?_
              refine g_iinc (lr := [(2, .int (0 : Int32)), (0, .ref (b + 0)), (1, .int a1)]) (q := 66) 1 dX11_holdsRule_63 rfl kI_1 (by decide) rfl rfl (fun x9 => ?_)
              refine g_goto (t := 9) dX11_holdsRule_66 (by decide) ?_
              exact (g_again ((x9, (0 : Int32), s8) : (Int32 × Int32 × gS)))
            · refine g_iconst (q := 58) dX11_holdsRule_57 kI_1 rfl ?_
              refine g_goto (t := 62) dX11_holdsRule_58 (by decide) ?_
              refine g_istore_n (lr := [(3, .int z3.1), (0, .ref (b + 0)), (1, .int a1)]) (q := 63) dX11_holdsRule_62 rfl (by decide) rfl rfl ?_
              refine g_iinc (lr := [(2, .int (1 : Int32)), (0, .ref (b + 0)), (1, .int a1)]) (q := 66) 1 dX11_holdsRule_63 rfl kI_1 (by decide) rfl rfl (fun x10 => ?_)
              refine g_goto (t := 9) dX11_holdsRule_66 (by decide) ?_
              exact (g_again ((x10, (1 : Int32), s8) : (Int32 × Int32 × gS)))
  · refine g_iload_n (q := 70) 0 dX11_holdsRule_69 rfl rfl rfl ?_
    exact (g_bret dX11_holdsRule_70)
noncomputable def pX11_in (a1 : Int32) (a2 : Int32) (a3 : Int32) : Option (Int32) := if a1 < a2 then some (0 : Int32) else if a3 < a1 then some (0 : Int32) else some (1 : Int32)
set_option maxRecDepth 100000 in
theorem cn_X11_in {G : gG} {b : Nat} {V : gV} {a1 : Int32} {a2 : Int32} {a3 : Int32} {σ : gS} : CN V G b 1 yX11_in cX11_in 3 (some .boolean) (kPI σ) [.int a1, .int a2, .int a3] σ (pX11_in a1 a2 a3) := by
  refine cn_of (own := RX11) rfl rfl (Nat.le_of_ble_eq_true rfl) ?_
  show GF V G b (1, 0, 0) RX11 cX11_in 3 (some .boolean) (kPI σ) 0 [(0, .int a1), (1, .int a2), (2, .int a3)] [] σ (pX11_in a1 a2 a3)
  unfold pX11_in
  refine g_iload_n (q := 1) 0 dX11_in_0 rfl rfl rfl ?_
  refine g_iload_n (q := 2) 1 dX11_in_1 rfl rfl rfl ?_
  refine g_icmp_lt (t := 14) (q := 5) dX11_in_2 (by decide) rfl ?_ ?_
  · refine g_iconst (q := 15) dX11_in_14 kI_0 rfl ?_
    exact (g_bretP0 dX11_in_15)
  · refine g_iload_n (q := 6) 0 dX11_in_5 rfl rfl rfl ?_
    refine g_iload_n (q := 7) 2 dX11_in_6 rfl rfl rfl ?_
    refine g_icmp_gt (t := 14) (q := 10) dX11_in_7 (by decide) rfl ?_ ?_
    · refine g_iconst (q := 15) dX11_in_14 kI_0 rfl ?_
      exact (g_bretP0 dX11_in_15)
    · refine g_iconst (q := 11) dX11_in_10 kI_1 rfl ?_
      refine g_goto (t := 15) dX11_in_11 (by decide) ?_
      exact (g_bretP1 dX11_in_15)
noncomputable def pX11_isPerson (a1 : Int32) (σ : gS) : Option (Int32) := bn1 (pX11_in a1 (0 : Int32) ((σ.1 0 51) - (1 : Int32))) (fun v1 => some (v1 &&& 1))
set_option maxRecDepth 100000 in
theorem cn_X11_isPerson {G : gG} {b : Nat} {a1 : Int32} {σ : gS} : CN vR G b 2 yX11_isPerson cX11_isPerson 2 (some .boolean) (kPI σ) [.ref (b + 0), .int a1] σ (pX11_isPerson a1 σ) := by
  refine cn_of (own := RX11) rfl rfl (Nat.le_of_ble_eq_true rfl) ?_
  show GF vR G b (2, 0, 0) RX11 cX11_isPerson 2 (some .boolean) (kPI σ) 0 [(0, .ref (b + 0)), (1, .int a1)] [] σ (pX11_isPerson a1 σ)
  unfold pX11_isPerson
  refine g_iload_n (q := 1) 1 dX11_isPerson_0 rfl rfl rfl ?_
  refine g_iconst (q := 2) dX11_isPerson_1 kI_0 rfl ?_
  refine g_aload_n (q := 3) 0 dX11_isPerson_2 rfl rfl rfl ?_
  refine g_getI (q := 6) fX11_people dX11_isPerson_3 ww1093 rfl ?_
  refine g_iconst (q := 7) dX11_isPerson_6 kI_1 rfl ?_
  refine g_isub (q := 8) dX11_isPerson_7 rfl ?_
  refine g_callT (As := [.int a1, .int (0 : Int32), .int ((σ.1 0 51) - (1 : Int32))]) (st := []) (cn_X11_in) cwX11_313 rfl dX11_isPerson_8 rfl (Nat.le_of_ble_eq_true rfl) (by decide) (kk_PI (fun v1 => ?_))
  exact (g_bretP dX11_isPerson_11)
noncomputable def pX11_isSign (a1 : Int32) (σ : gS) : Option (Int32) := gx (σ.1 0 18) 2 (bn1 (pX11_in a1 (0 : Int32) ((σ.1 11 (σ.1 0 18).toNatClampNeg) - (1 : Int32))) (fun v1 => some (v1 &&& 1)))
set_option maxRecDepth 100000 in
theorem cn_X11_isSign {G : gG} {b : Nat} {a1 : Int32} {σ : gS} : CN vR G b 2 yX11_isSign cX11_isSign 2 (some .boolean) (kPI σ) [.ref (b + 0), .int a1] σ (pX11_isSign a1 σ) := by
  refine cn_of (own := RX11) rfl rfl (Nat.le_of_ble_eq_true rfl) ?_
  show GF vR G b (2, 0, 0) RX11 cX11_isSign 2 (some .boolean) (kPI σ) 0 [(0, .ref (b + 0)), (1, .int a1)] [] σ (pX11_isSign a1 σ)
  unfold pX11_isSign
  refine g_iload_n (q := 1) 1 dX11_isSign_0 rfl rfl rfl ?_
  refine g_iconst (q := 2) dX11_isSign_1 kI_0 rfl ?_
  refine g_aload_n (q := 3) 0 dX11_isSign_2 rfl rfl rfl ?_
  refine g_getA (q := 6) fX11_signs dX11_isSign_3 ww1066 rfl ?_
  refine g_aload_n (q := 7) 0 dX11_isSign_6 rfl rfl rfl ?_
  refine g_getI (q := 10) fX11_live dX11_isSign_7 ww1060 rfl ?_
  refine g_iald (q := 11) (aX11_signs) dX11_isSign_10 rfl ?_
  refine g_iconst (q := 12) dX11_isSign_11 kI_1 rfl ?_
  refine g_isub (q := 13) dX11_isSign_12 rfl ?_
  refine g_callT (As := [.int a1, .int (0 : Int32), .int ((σ.1 11 (σ.1 0 18).toNatClampNeg) - (1 : Int32))]) (st := []) (cn_X11_in) cwX11_313 rfl dX11_isSign_13 rfl (Nat.le_of_ble_eq_true rfl) (by decide) (kk_PI (fun v1 => ?_))
  exact (g_bretP dX11_isSign_16)
noncomputable def pX11_isSay (a1 : Int32) (σ : gS) : Option (Int32) := gx (σ.1 0 18) 2 (bn1 (pX11_in a1 (0 : Int32) ((σ.1 12 (σ.1 0 18).toNatClampNeg) - (1 : Int32))) (fun v1 => some (v1 &&& 1)))
set_option maxRecDepth 100000 in
theorem cn_X11_isSay {G : gG} {b : Nat} {a1 : Int32} {σ : gS} : CN vR G b 2 yX11_isSay cX11_isSay 2 (some .boolean) (kPI σ) [.ref (b + 0), .int a1] σ (pX11_isSay a1 σ) := by
  refine cn_of (own := RX11) rfl rfl (Nat.le_of_ble_eq_true rfl) ?_
  show GF vR G b (2, 0, 0) RX11 cX11_isSay 2 (some .boolean) (kPI σ) 0 [(0, .ref (b + 0)), (1, .int a1)] [] σ (pX11_isSay a1 σ)
  unfold pX11_isSay
  refine g_iload_n (q := 1) 1 dX11_isSay_0 rfl rfl rfl ?_
  refine g_iconst (q := 2) dX11_isSay_1 kI_0 rfl ?_
  refine g_aload_n (q := 3) 0 dX11_isSay_2 rfl rfl rfl ?_
  refine g_getA (q := 6) fX11_says dX11_isSay_3 ww1067 rfl ?_
  refine g_aload_n (q := 7) 0 dX11_isSay_6 rfl rfl rfl ?_
  refine g_getI (q := 10) fX11_live dX11_isSay_7 ww1060 rfl ?_
  refine g_iald (q := 11) (aX11_says) dX11_isSay_10 rfl ?_
  refine g_iconst (q := 12) dX11_isSay_11 kI_1 rfl ?_
  refine g_isub (q := 13) dX11_isSay_12 rfl ?_
  refine g_callT (As := [.int a1, .int (0 : Int32), .int ((σ.1 12 (σ.1 0 18).toNatClampNeg) - (1 : Int32))]) (st := []) (cn_X11_in) cwX11_313 rfl dX11_isSay_13 rfl (Nat.le_of_ble_eq_true rfl) (by decide) (kk_PI (fun v1 => ?_))
  exact (g_bretP dX11_isSay_16)
noncomputable def pX11_isBook (a1 : Int32) (σ : gS) : Option (Int32) := gx (σ.1 0 18) 2 (bn1 (pX11_in a1 (0 : Int32) ((σ.1 13 (σ.1 0 18).toNatClampNeg) - (1 : Int32))) (fun v1 => some (v1 &&& 1)))
set_option maxRecDepth 100000 in
theorem cn_X11_isBook {G : gG} {b : Nat} {a1 : Int32} {σ : gS} : CN vR G b 2 yX11_isBook cX11_isBook 2 (some .boolean) (kPI σ) [.ref (b + 0), .int a1] σ (pX11_isBook a1 σ) := by
  refine cn_of (own := RX11) rfl rfl (Nat.le_of_ble_eq_true rfl) ?_
  show GF vR G b (2, 0, 0) RX11 cX11_isBook 2 (some .boolean) (kPI σ) 0 [(0, .ref (b + 0)), (1, .int a1)] [] σ (pX11_isBook a1 σ)
  unfold pX11_isBook
  refine g_iload_n (q := 1) 1 dX11_isBook_0 rfl rfl rfl ?_
  refine g_iconst (q := 2) dX11_isBook_1 kI_0 rfl ?_
  refine g_aload_n (q := 3) 0 dX11_isBook_2 rfl rfl rfl ?_
  refine g_getA (q := 6) fX11_books dX11_isBook_3 ww1068 rfl ?_
  refine g_aload_n (q := 7) 0 dX11_isBook_6 rfl rfl rfl ?_
  refine g_getI (q := 10) fX11_live dX11_isBook_7 ww1060 rfl ?_
  refine g_iald (q := 11) (aX11_books) dX11_isBook_10 rfl ?_
  refine g_iconst (q := 12) dX11_isBook_11 kI_1 rfl ?_
  refine g_isub (q := 13) dX11_isBook_12 rfl ?_
  refine g_callT (As := [.int a1, .int (0 : Int32), .int ((σ.1 13 (σ.1 0 18).toNatClampNeg) - (1 : Int32))]) (st := []) (cn_X11_in) cwX11_313 rfl dX11_isBook_13 rfl (Nat.le_of_ble_eq_true rfl) (by decide) (kk_PI (fun v1 => ?_))
  exact (g_bretP dX11_isBook_16)
noncomputable def pX11_isLaw (a1 : Int32) (σ : gS) : Option (Int32) := gx (σ.1 0 18) 2 (bn1 (pX11_in a1 (0 : Int32) ((σ.1 14 (σ.1 0 18).toNatClampNeg) - (1 : Int32))) (fun v1 => some (v1 &&& 1)))
set_option maxRecDepth 100000 in
theorem cn_X11_isLaw {G : gG} {b : Nat} {a1 : Int32} {σ : gS} : CN vR G b 2 yX11_isLaw cX11_isLaw 2 (some .boolean) (kPI σ) [.ref (b + 0), .int a1] σ (pX11_isLaw a1 σ) := by
  refine cn_of (own := RX11) rfl rfl (Nat.le_of_ble_eq_true rfl) ?_
  show GF vR G b (2, 0, 0) RX11 cX11_isLaw 2 (some .boolean) (kPI σ) 0 [(0, .ref (b + 0)), (1, .int a1)] [] σ (pX11_isLaw a1 σ)
  unfold pX11_isLaw
  refine g_iload_n (q := 1) 1 dX11_isLaw_0 rfl rfl rfl ?_
  refine g_iconst (q := 2) dX11_isLaw_1 kI_0 rfl ?_
  refine g_aload_n (q := 3) 0 dX11_isLaw_2 rfl rfl rfl ?_
  refine g_getA (q := 6) fX11_laws dX11_isLaw_3 ww1069 rfl ?_
  refine g_aload_n (q := 7) 0 dX11_isLaw_6 rfl rfl rfl ?_
  refine g_getI (q := 10) fX11_live dX11_isLaw_7 ww1060 rfl ?_
  refine g_iald (q := 11) (aX11_laws) dX11_isLaw_10 rfl ?_
  refine g_iconst (q := 12) dX11_isLaw_11 kI_1 rfl ?_
  refine g_isub (q := 13) dX11_isLaw_12 rfl ?_
  refine g_callT (As := [.int a1, .int (0 : Int32), .int ((σ.1 14 (σ.1 0 18).toNatClampNeg) - (1 : Int32))]) (st := []) (cn_X11_in) cwX11_313 rfl dX11_isLaw_13 rfl (Nat.le_of_ble_eq_true rfl) (by decide) (kk_PI (fun v1 => ?_))
  exact (g_bretP dX11_isLaw_16)
