noncomputable def pX11_back (a1 : Int32) (σ : gS) : Option (Int32 × gS) := if a1 < 0 then some ((-1 : Int32), σ) else if a1 ≤ (σ.1 0 2) then lt' (wI σ 0 2 ((σ.1 0 2) - a1)) (fun s1 => some (s1.1 0 2, s1)) else some ((-1 : Int32), σ)
set_option maxRecDepth 100000 in
theorem cn_X11_back {G : gG} {b : Nat} {a1 : Int32} {σ : gS} : CN vR G b 1 yX11_back cX11_back 2 (some .int) kI [.ref (b + 0), .int a1] σ (pX11_back a1 σ) := by
  refine cn_of (own := RX11) rfl rfl (Nat.le_of_ble_eq_true rfl) ?_
  show GF vR G b (1, 0, 0) RX11 cX11_back 2 (some .int) kI 0 [(0, .ref (b + 0)), (1, .int a1)] [] σ (pX11_back a1 σ)
  unfold pX11_back
  refine g_iload_n (q := 1) 1 dX11_back_0 rfl rfl rfl ?_
  refine g_if_lt (t := 12) (q := 4) dX11_back_1 (by decide) rfl ?_ ?_
  · refine g_iconst (q := 13) dX11_back_12 kI_m1 rfl ?_
    exact (g_iret dX11_back_13)
  · refine g_iload_n (q := 5) 1 dX11_back_4 rfl rfl rfl ?_
    refine g_aload_n (q := 6) 0 dX11_back_5 rfl rfl rfl ?_
    refine g_getI (q := 9) fX11_taped dX11_back_6 ww1044 rfl ?_
    refine g_icmp_le (t := 14) (q := 12) dX11_back_9 (by decide) rfl ?_ ?_
    · refine g_aload_n (q := 15) 0 dX11_back_14 rfl rfl rfl ?_
      refine g_dup (q := 16) dX11_back_15 rfl rfl ?_
      refine g_getI (q := 19) fX11_taped dX11_back_16 ww1044 rfl ?_
      refine g_iload_n (q := 20) 1 dX11_back_19 rfl rfl rfl ?_
      refine g_isub (q := 21) dX11_back_20 rfl ?_
      refine g_putI (q := 24) fX11_taped pwX11_taped okTX11 dX11_back_21 ww1044 rfl (fun s1 => ?_)
      refine g_aload_n (q := 25) 0 dX11_back_24 rfl rfl rfl ?_
      refine g_getI (q := 28) fX11_taped dX11_back_25 ww1044 rfl ?_
      exact (g_iret dX11_back_28)
    · refine g_iconst (q := 13) dX11_back_12 kI_m1 rfl ?_
      exact (g_iret dX11_back_13)
noncomputable def pX11_byteAt (a1 : Int32) (σ : gS) : Option (Int32) := if (σ.1 0 4) ≤ a1 then some ((0 : Int32)) else gx a1 2000 (some ((σ.1 2 a1.toNatClampNeg) &&& (255 : Int32)))
set_option maxRecDepth 100000 in
theorem cn_X11_byteAt {G : gG} {b : Nat} {a1 : Int32} {σ : gS} : CN vR G b 1 yX11_byteAt cX11_byteAt 2 (some .int) (kPI σ) [.ref (b + 0), .int a1] σ (pX11_byteAt a1 σ) := by
  refine cn_of (own := RX11) rfl rfl (Nat.le_of_ble_eq_true rfl) ?_
  show GF vR G b (1, 0, 0) RX11 cX11_byteAt 2 (some .int) (kPI σ) 0 [(0, .ref (b + 0)), (1, .int a1)] [] σ (pX11_byteAt a1 σ)
  unfold pX11_byteAt
  refine g_iload_n (q := 1) 1 dX11_byteAt_0 rfl rfl rfl ?_
  refine g_aload_n (q := 2) 0 dX11_byteAt_1 rfl rfl rfl ?_
  refine g_getI (q := 5) fX11_size dX11_byteAt_2 ww1046 rfl ?_
  refine g_icmp_ge (t := 21) (q := 8) dX11_byteAt_5 (by decide) rfl ?_ ?_
  · refine g_iconst (q := 22) dX11_byteAt_21 kI_0 rfl ?_
    exact (g_iretP dX11_byteAt_22)
  · refine g_aload_n (q := 9) 0 dX11_byteAt_8 rfl rfl rfl ?_
    refine g_getA (q := 12) fX11_text dX11_byteAt_9 ww1045 rfl ?_
    refine g_iload_n (q := 13) 1 dX11_byteAt_12 rfl rfl rfl ?_
    refine g_bald (q := 14) (aX11_text) dX11_byteAt_13 rfl ?_
    refine g_sipush (q := 17) dX11_byteAt_14 kS_255 rfl ?_
    refine g_iand (q := 18) dX11_byteAt_17 rfl ?_
    refine g_goto (t := 22) dX11_byteAt_18 (by decide) ?_
    exact (g_iretP dX11_byteAt_22)
noncomputable def pX11_isDigit (a1 : Int32) : Option (Int32) := if a1 < (48 : Int32) then some (0 : Int32) else if (57 : Int32) < a1 then some (0 : Int32) else some (1 : Int32)
set_option maxRecDepth 100000 in
theorem cn_X11_isDigit {G : gG} {b : Nat} {V : gV} {a1 : Int32} {σ : gS} : CN V G b 1 yX11_isDigit cX11_isDigit 1 (some .boolean) (kPI σ) [.int a1] σ (pX11_isDigit a1) := by
  refine cn_of (own := RX11) rfl rfl (Nat.le_of_ble_eq_true rfl) ?_
  show GF V G b (1, 0, 0) RX11 cX11_isDigit 1 (some .boolean) (kPI σ) 0 [(0, .int a1)] [] σ (pX11_isDigit a1)
  unfold pX11_isDigit
  refine g_iload_n (q := 1) 0 dX11_isDigit_0 rfl rfl rfl ?_
  refine g_bipush (q := 3) dX11_isDigit_1 kB_48 rfl ?_
  refine g_icmp_lt (t := 16) (q := 6) dX11_isDigit_3 (by decide) rfl ?_ ?_
  · refine g_iconst (q := 17) dX11_isDigit_16 kI_0 rfl ?_
    exact (g_bretP0 dX11_isDigit_17)
  · refine g_iload_n (q := 7) 0 dX11_isDigit_6 rfl rfl rfl ?_
    refine g_bipush (q := 9) dX11_isDigit_7 kB_57 rfl ?_
    refine g_icmp_gt (t := 16) (q := 12) dX11_isDigit_9 (by decide) rfl ?_ ?_
    · refine g_iconst (q := 17) dX11_isDigit_16 kI_0 rfl ?_
      exact (g_bretP0 dX11_isDigit_17)
    · refine g_iconst (q := 13) dX11_isDigit_12 kI_1 rfl ?_
      refine g_goto (t := 17) dX11_isDigit_13 (by decide) ?_
      exact (g_bretP1 dX11_isDigit_17)
noncomputable def pX11_isLetter (a1 : Int32) : Option (Int32) := if a1 < (97 : Int32) then some (0 : Int32) else if (122 : Int32) < a1 then some (0 : Int32) else some (1 : Int32)
set_option maxRecDepth 100000 in
theorem cn_X11_isLetter {G : gG} {b : Nat} {V : gV} {a1 : Int32} {σ : gS} : CN V G b 1 yX11_isLetter cX11_isLetter 1 (some .boolean) (kPI σ) [.int a1] σ (pX11_isLetter a1) := by
  refine cn_of (own := RX11) rfl rfl (Nat.le_of_ble_eq_true rfl) ?_
  show GF V G b (1, 0, 0) RX11 cX11_isLetter 1 (some .boolean) (kPI σ) 0 [(0, .int a1)] [] σ (pX11_isLetter a1)
  unfold pX11_isLetter
  refine g_iload_n (q := 1) 0 dX11_isLetter_0 rfl rfl rfl ?_
  refine g_bipush (q := 3) dX11_isLetter_1 kB_97 rfl ?_
  refine g_icmp_lt (t := 16) (q := 6) dX11_isLetter_3 (by decide) rfl ?_ ?_
  · refine g_iconst (q := 17) dX11_isLetter_16 kI_0 rfl ?_
    exact (g_bretP0 dX11_isLetter_17)
  · refine g_iload_n (q := 7) 0 dX11_isLetter_6 rfl rfl rfl ?_
    refine g_bipush (q := 9) dX11_isLetter_7 kB_122 rfl ?_
    refine g_icmp_gt (t := 16) (q := 12) dX11_isLetter_9 (by decide) rfl ?_ ?_
    · refine g_iconst (q := 17) dX11_isLetter_16 kI_0 rfl ?_
      exact (g_bretP0 dX11_isLetter_17)
    · refine g_iconst (q := 13) dX11_isLetter_12 kI_1 rfl ?_
      refine g_goto (t := 17) dX11_isLetter_13 (by decide) ?_
      exact (g_bretP1 dX11_isLetter_17)
noncomputable def pX11_appends (a1 : Int64) (a2 : Int32) : Option (Int64) := if a2 = 0 then some (a1) else some (((27 : Int64) * a1) + (((a2 - (97 : Int32)) + (1 : Int32)).toInt64))
set_option maxRecDepth 100000 in
theorem cn_X11_appends {G : gG} {b : Nat} {V : gV} {a1 : Int64} {a2 : Int32} {σ : gS} : CN V G b 1 yX11_appends cX11_appends 3 (some .long) (kPL σ) [.long a1, .int a2] σ (pX11_appends a1 a2) := by
  refine cn_of (own := RX11) rfl rfl (Nat.le_of_ble_eq_true rfl) ?_
  show GF V G b (1, 0, 0) RX11 cX11_appends 3 (some .long) (kPL σ) 0 [(0, .long a1), (2, .int a2)] [] σ (pX11_appends a1 a2)
  unfold pX11_appends
  refine g_iload_n (q := 1) 1 dX11_appends_0 rfl rfl rfl ?_
  refine g_if_ne (t := 8) (q := 4) dX11_appends_1 (by decide) rfl ?_ ?_
  · refine g_lload_n (q := 5) 0 dX11_appends_4 rfl rfl rfl ?_
    refine g_goto (t := 21) dX11_appends_5 (by decide) ?_
    exact (g_lretP dX11_appends_21)
  · refine g_ldc2 (q := 11) dX11_appends_8 ww1042 rfl ?_
    refine g_lload_n (q := 12) 0 dX11_appends_11 rfl rfl rfl ?_
    refine g_lmul (q := 13) dX11_appends_12 rfl ?_
    refine g_iload_n (q := 14) 1 dX11_appends_13 rfl rfl rfl ?_
    refine g_bipush (q := 16) dX11_appends_14 kB_97 rfl ?_
    refine g_isub (q := 17) dX11_appends_16 rfl ?_
    refine g_iconst (q := 18) dX11_appends_17 kI_1 rfl ?_
    refine g_iadd (q := 19) dX11_appends_18 rfl ?_
    refine g_i2l (q := 20) dX11_appends_19 rfl ?_
    refine g_ladd (q := 21) dX11_appends_20 rfl ?_
    exact (g_lretP dX11_appends_21)
noncomputable def pX11_word (a1 : Int32) (a2 : Int32) (a3 : Int32) (a4 : Int32) (a5 : Int32) (a6 : Int32) (a7 : Int32) : Option (Int64) := bn1 (pX11_appends (0 : Int64) a1) (fun v1 => bn1 (pX11_appends v1 a2) (fun v3 => bn1 (pX11_appends v3 a3) (fun v5 => bn1 (pX11_appends v5 a4) (fun v7 => bn1 (pX11_appends v7 a5) (fun v9 => bn1 (pX11_appends v9 a6) (fun v11 => bn1 (pX11_appends v11 a7) (fun v13 => some (v13))))))))
set_option maxRecDepth 100000 in
theorem cn_X11_word {G : gG} {b : Nat} {V : gV} {a1 : Int32} {a2 : Int32} {a3 : Int32} {a4 : Int32} {a5 : Int32} {a6 : Int32} {a7 : Int32} {σ : gS} : CN V G b 2 yX11_word cX11_word 7 (some .long) (kPL σ) [.int a1, .int a2, .int a3, .int a4, .int a5, .int a6, .int a7] σ (pX11_word a1 a2 a3 a4 a5 a6 a7) := by
  refine cn_of (own := RX11) rfl rfl (Nat.le_of_ble_eq_true rfl) ?_
  show GF V G b (2, 0, 0) RX11 cX11_word 7 (some .long) (kPL σ) 0 [(0, .int a1), (1, .int a2), (2, .int a3), (3, .int a4), (4, .int a5), (5, .int a6), (6, .int a7)] [] σ (pX11_word a1 a2 a3 a4 a5 a6 a7)
  unfold pX11_word
  refine g_lconst (q := 1) (v := (0 : Int64)) dX11_word_0 rfl rfl ?_
  refine g_iload_n (q := 2) 0 dX11_word_1 rfl rfl rfl ?_
  refine g_callT (As := [.long (0 : Int64), .int a1]) (st := []) (cn_X11_appends) cwX11_174 rfl dX11_word_2 rfl (Nat.le_of_ble_eq_true rfl) (by decide) (kk_PL (fun v1 => ?_))
  refine g_iload_n (q := 6) 1 dX11_word_5 rfl rfl rfl ?_
  refine g_callT (As := [.long v1, .int a2]) (st := []) (cn_X11_appends) cwX11_174 rfl dX11_word_6 rfl (Nat.le_of_ble_eq_true rfl) (by decide) (kk_PL (fun v3 => ?_))
  refine g_iload_n (q := 10) 2 dX11_word_9 rfl rfl rfl ?_
  refine g_callT (As := [.long v3, .int a3]) (st := []) (cn_X11_appends) cwX11_174 rfl dX11_word_10 rfl (Nat.le_of_ble_eq_true rfl) (by decide) (kk_PL (fun v5 => ?_))
  refine g_iload_n (q := 14) 3 dX11_word_13 rfl rfl rfl ?_
  refine g_callT (As := [.long v5, .int a4]) (st := []) (cn_X11_appends) cwX11_174 rfl dX11_word_14 rfl (Nat.le_of_ble_eq_true rfl) (by decide) (kk_PL (fun v7 => ?_))
  refine g_iload (q := 19) 4 dX11_word_17 rfl rfl ?_
  refine g_callT (As := [.long v7, .int a5]) (st := []) (cn_X11_appends) cwX11_174 rfl dX11_word_19 rfl (Nat.le_of_ble_eq_true rfl) (by decide) (kk_PL (fun v9 => ?_))
  refine g_iload (q := 24) 5 dX11_word_22 rfl rfl ?_
  refine g_callT (As := [.long v9, .int a6]) (st := []) (cn_X11_appends) cwX11_174 rfl dX11_word_24 rfl (Nat.le_of_ble_eq_true rfl) (by decide) (kk_PL (fun v11 => ?_))
  refine g_iload (q := 29) 6 dX11_word_27 rfl rfl ?_
  refine g_callT (As := [.long v11, .int a7]) (st := []) (cn_X11_appends) cwX11_174 rfl dX11_word_29 rfl (Nat.le_of_ble_eq_true rfl) (by decide) (kk_PL (fun v13 => ?_))
  exact (g_lretP dX11_word_32)
noncomputable def pX11_token (a1 : Int32) (a2 : Int32) (a3 : Int32) (a4 : Int64) (σ : gS) : Option (gS) := gx (σ.1 0 10) 403 (lt' (wI σ 3 (σ.1 0 10).toNatClampNeg a1) (fun s1 => gx (s1.1 0 10) 403 (lt' (wI s1 4 (s1.1 0 10).toNatClampNeg a2) (fun s2 => gx (s2.1 0 10) 403 (lt' (wI s2 5 (s2.1 0 10).toNatClampNeg a3) (fun s3 => gx (s3.1 0 10) 403 (lt' (wL s3 6 (s3.1 0 10).toNatClampNeg a4) (fun s4 => lt' (wI s4 0 10 ((s4.1 0 10) + (1 : Int32))) (fun s5 => some s5)))))))))
set_option maxRecDepth 100000 in
theorem cn_X11_token {G : gG} {b : Nat} {a1 : Int32} {a2 : Int32} {a3 : Int32} {a4 : Int64} {σ : gS} : CN vR G b 1 yX11_token cX11_token 6 none kV [.ref (b + 0), .int a1, .int a2, .int a3, .long a4] σ (pX11_token a1 a2 a3 a4 σ) := by
  refine cn_of (own := RX11) rfl rfl (Nat.le_of_ble_eq_true rfl) ?_
  show GF vR G b (1, 0, 0) RX11 cX11_token 6 none kV 0 [(0, .ref (b + 0)), (1, .int a1), (2, .int a2), (3, .int a3), (4, .long a4)] [] σ (pX11_token a1 a2 a3 a4 σ)
  unfold pX11_token
  refine g_aload_n (q := 1) 0 dX11_token_0 rfl rfl rfl ?_
  refine g_getA (q := 4) fX11_tKind dX11_token_1 ww1047 rfl ?_
  refine g_aload_n (q := 5) 0 dX11_token_4 rfl rfl rfl ?_
  refine g_getI (q := 8) fX11_tokens dX11_token_5 ww1052 rfl ?_
  refine g_iload_n (q := 9) 1 dX11_token_8 rfl rfl rfl ?_
  refine g_iast (q := 10) (aX11_tKind) dX11_token_9 rfl (fun s1 => ?_)
  refine g_aload_n (q := 11) 0 dX11_token_10 rfl rfl rfl ?_
  refine g_getA (q := 14) fX11_tPlace dX11_token_11 ww1048 rfl ?_
  refine g_aload_n (q := 15) 0 dX11_token_14 rfl rfl rfl ?_
  refine g_getI (q := 18) fX11_tokens dX11_token_15 ww1052 rfl ?_
  refine g_iload_n (q := 19) 2 dX11_token_18 rfl rfl rfl ?_
  refine g_iast (q := 20) (aX11_tPlace) dX11_token_19 rfl (fun s2 => ?_)
  refine g_aload_n (q := 21) 0 dX11_token_20 rfl rfl rfl ?_
  refine g_getA (q := 24) fX11_tValue dX11_token_21 ww1049 rfl ?_
  refine g_aload_n (q := 25) 0 dX11_token_24 rfl rfl rfl ?_
  refine g_getI (q := 28) fX11_tokens dX11_token_25 ww1052 rfl ?_
  refine g_iload_n (q := 29) 3 dX11_token_28 rfl rfl rfl ?_
  refine g_iast (q := 30) (aX11_tValue) dX11_token_29 rfl (fun s3 => ?_)
  refine g_aload_n (q := 31) 0 dX11_token_30 rfl rfl rfl ?_
  refine g_getA (q := 34) fX11_tName dX11_token_31 ww1050 rfl ?_
  refine g_aload_n (q := 35) 0 dX11_token_34 rfl rfl rfl ?_
  refine g_getI (q := 38) fX11_tokens dX11_token_35 ww1052 rfl ?_
  refine g_lload (q := 40) 4 dX11_token_38 rfl rfl ?_
  refine g_last (q := 41) (aX11_tName) dX11_token_40 rfl (fun s4 => ?_)
  refine g_aload_n (q := 42) 0 dX11_token_41 rfl rfl rfl ?_
  refine g_dup (q := 43) dX11_token_42 rfl rfl ?_
  refine g_getI (q := 46) fX11_tokens dX11_token_43 ww1052 rfl ?_
  refine g_iconst (q := 47) dX11_token_46 kI_1 rfl ?_
  refine g_iadd (q := 48) dX11_token_47 rfl ?_
  refine g_putI (q := 51) fX11_tokens pwX11_tokens okTX11 dX11_token_48 ww1052 rfl (fun s5 => ?_)
  exact (g_vret dX11_token_51)
noncomputable def pX11_sign (a1 : Int32) (a2 : Int32) (a3 : Int32) (σ : gS) : Option (Int32 × gS) := bn1 (if a3 = (61 : Int32) then if a2 = (61 : Int32) then some (11 : Int32) else if a2 = (33 : Int32) then some (12 : Int32) else if a2 = (60 : Int32) then some (14 : Int32) else some (0 : Int32) else some (0 : Int32)) (fun (z1 : Int32) => bn1 (if z1 ≤ 0 then if a2 = (59 : Int32) then some (4 : Int32) else if a2 = (40 : Int32) then some (6 : Int32) else if a2 = (41 : Int32) then some (7 : Int32) else if a2 = (43 : Int32) then some (8 : Int32) else if a2 = (45 : Int32) then some (9 : Int32) else if a2 = (42 : Int32) then some (10 : Int32) else if a2 = (60 : Int32) then some (13 : Int32) else if a2 = (61 : Int32) then some (15 : Int32) else some (3 : Int32) else some z1) (fun (z2 : Int32) => bn1 (pX11_token z2 a1 (0 : Int32) (0 : Int64) σ) (fun s4 => if z1 ≤ 0 then some ((1 : Int32), s4) else some ((2 : Int32), s4))))
set_option maxRecDepth 100000 in
theorem cn_X11_sign {G : gG} {b : Nat} {a1 : Int32} {a2 : Int32} {a3 : Int32} {σ : gS} : CN vR G b 2 yX11_sign cX11_sign 6 (some .int) kI [.ref (b + 0), .int a1, .int a2, .int a3] σ (pX11_sign a1 a2 a3 σ) := by
  refine cn_of (own := RX11) rfl rfl (Nat.le_of_ble_eq_true rfl) ?_
  show GF vR G b (2, 0, 0) RX11 cX11_sign 6 (some .int) kI 0 [(0, .ref (b + 0)), (1, .int a1), (2, .int a2), (3, .int a3)] [] σ (pX11_sign a1 a2 a3 σ)
  unfold pX11_sign
  refine g_iload_n (q := 1) 3 dX11_sign_0 rfl rfl rfl ?_
  refine g_bipush (q := 3) dX11_sign_1 kB_61 rfl ?_
  refine g_bind (S := Int32) (hd := 44) (lvf := fun z1 => [(0, .ref (b + 0)), (1, .int a1), (2, .int a2)]) (stf := fun z1 => [.int z1]) (σf := fun z1 => σ) ?_ (fun z1 => ?_)
  · refine g_icmp_eq (t := 10) (q := 6) dX11_sign_3 (by decide) rfl ?_ ?_
    · refine g_iload_n (q := 11) 2 dX11_sign_10 rfl rfl rfl ?_
      refine g_bipush (q := 13) dX11_sign_11 kB_61 rfl ?_
      refine g_icmp_ne (t := 21) (q := 16) dX11_sign_13 (by decide) rfl ?_ ?_
      · refine g_bipush (q := 18) dX11_sign_16 kB_11 rfl ?_
        refine g_goto (t := 44) dX11_sign_18 (by decide) ?_
        refine g_sub (lr := [(0, .ref (b + 0)), (1, .int a1), (2, .int a2)]) [0, 1, 2] rfl ?_
        exact (g_there ((11 : Int32) : Int32))
      · refine g_iload_n (q := 22) 2 dX11_sign_21 rfl rfl rfl ?_
        refine g_bipush (q := 24) dX11_sign_22 kB_33 rfl ?_
        refine g_icmp_ne (t := 32) (q := 27) dX11_sign_24 (by decide) rfl ?_ ?_
        · refine g_bipush (q := 29) dX11_sign_27 kB_12 rfl ?_
          refine g_goto (t := 44) dX11_sign_29 (by decide) ?_
          refine g_sub (lr := [(0, .ref (b + 0)), (1, .int a1), (2, .int a2)]) [0, 1, 2] rfl ?_
          exact (g_there ((12 : Int32) : Int32))
        · refine g_iload_n (q := 33) 2 dX11_sign_32 rfl rfl rfl ?_
          refine g_bipush (q := 35) dX11_sign_33 kB_60 rfl ?_
          refine g_icmp_ne (t := 43) (q := 38) dX11_sign_35 (by decide) rfl ?_ ?_
          · refine g_bipush (q := 40) dX11_sign_38 kB_14 rfl ?_
            refine g_goto (t := 44) dX11_sign_40 (by decide) ?_
            refine g_sub (lr := [(0, .ref (b + 0)), (1, .int a1), (2, .int a2)]) [0, 1, 2] rfl ?_
            exact (g_there ((14 : Int32) : Int32))
          · refine g_iconst (q := 44) dX11_sign_43 kI_0 rfl ?_
            refine g_sub (lr := [(0, .ref (b + 0)), (1, .int a1), (2, .int a2)]) [0, 1, 2] rfl ?_
            exact (g_there ((0 : Int32) : Int32))
    · refine g_iconst (q := 7) dX11_sign_6 kI_0 rfl ?_
      refine g_goto (t := 44) dX11_sign_7 (by decide) ?_
      refine g_sub (lr := [(0, .ref (b + 0)), (1, .int a1), (2, .int a2)]) [0, 1, 2] rfl ?_
      exact (g_there ((0 : Int32) : Int32))
  · refine g_istore (lr := [(0, .ref (b + 0)), (1, .int a1), (2, .int a2)]) (q := 46) dX11_sign_44 (by decide) rfl rfl ?_
    refine g_iconst (q := 47) dX11_sign_46 kI_3 rfl ?_
    refine g_istore (lr := [(4, .int z1), (0, .ref (b + 0)), (1, .int a1), (2, .int a2)]) (q := 49) dX11_sign_47 (by decide) rfl rfl ?_
    refine g_iload (q := 51) 1 dX11_sign_49 rfl rfl ?_
    refine g_bind (S := Int32) (hd := 161) (lvf := fun z2 => [(5, .int z2), (4, .int z1), (0, .ref (b + 0)), (1, .int a1)]) (stf := fun z2 => []) (σf := fun z2 => σ) ?_ (fun z2 => ?_)
    · refine g_if_le (t := 61) (q := 54) dX11_sign_51 (by decide) rfl ?_ ?_
      · refine g_iload_n (q := 62) 4 dX11_sign_61 rfl rfl rfl ?_
        refine g_bipush (q := 64) dX11_sign_62 kB_59 rfl ?_
        refine g_icmp_ne (t := 73) (q := 67) dX11_sign_64 (by decide) rfl ?_ ?_
        · refine g_iconst (q := 68) dX11_sign_67 kI_4 rfl ?_
          refine g_istore (lr := [(4, .int z1), (0, .ref (b + 0)), (1, .int a1), (2, .int a2)]) (q := 70) dX11_sign_68 (by decide) rfl rfl ?_
          refine g_goto (t := 161) dX11_sign_70 (by decide) ?_
          refine g_sub (lr := [(5, .int (4 : Int32)), (4, .int z1), (0, .ref (b + 0)), (1, .int a1)]) [0, 1, 2, 3] rfl ?_
          exact (g_there ((4 : Int32) : Int32))
        · refine g_iload_n (q := 74) 4 dX11_sign_73 rfl rfl rfl ?_
          refine g_bipush (q := 76) dX11_sign_74 kB_40 rfl ?_
          refine g_icmp_ne (t := 86) (q := 79) dX11_sign_76 (by decide) rfl ?_ ?_
          · refine g_bipush (q := 81) dX11_sign_79 kB_6 rfl ?_
            refine g_istore (lr := [(4, .int z1), (0, .ref (b + 0)), (1, .int a1), (2, .int a2)]) (q := 83) dX11_sign_81 (by decide) rfl rfl ?_
            refine g_goto (t := 161) dX11_sign_83 (by decide) ?_
            refine g_sub (lr := [(5, .int (6 : Int32)), (4, .int z1), (0, .ref (b + 0)), (1, .int a1)]) [0, 1, 2, 3] rfl ?_
            exact (g_there ((6 : Int32) : Int32))
          · refine g_iload_n (q := 87) 4 dX11_sign_86 rfl rfl rfl ?_
            refine g_bipush (q := 89) dX11_sign_87 kB_41 rfl ?_
            refine g_icmp_ne (t := 99) (q := 92) dX11_sign_89 (by decide) rfl ?_ ?_
            · refine g_bipush (q := 94) dX11_sign_92 kB_7 rfl ?_
              refine g_istore (lr := [(4, .int z1), (0, .ref (b + 0)), (1, .int a1), (2, .int a2)]) (q := 96) dX11_sign_94 (by decide) rfl rfl ?_
              refine g_goto (t := 161) dX11_sign_96 (by decide) ?_
              refine g_sub (lr := [(5, .int (7 : Int32)), (4, .int z1), (0, .ref (b + 0)), (1, .int a1)]) [0, 1, 2, 3] rfl ?_
              exact (g_there ((7 : Int32) : Int32))
            · refine g_iload_n (q := 100) 4 dX11_sign_99 rfl rfl rfl ?_
              refine g_bipush (q := 102) dX11_sign_100 kB_43 rfl ?_
              refine g_icmp_ne (t := 112) (q := 105) dX11_sign_102 (by decide) rfl ?_ ?_
              · refine g_bipush (q := 107) dX11_sign_105 kB_8 rfl ?_
                refine g_istore (lr := [(4, .int z1), (0, .ref (b + 0)), (1, .int a1), (2, .int a2)]) (q := 109) dX11_sign_107 (by decide) rfl rfl ?_
                refine g_goto (t := 161) dX11_sign_109 (by decide) ?_
                refine g_sub (lr := [(5, .int (8 : Int32)), (4, .int z1), (0, .ref (b + 0)), (1, .int a1)]) [0, 1, 2, 3] rfl ?_
                exact (g_there ((8 : Int32) : Int32))
              · refine g_iload_n (q := 113) 4 dX11_sign_112 rfl rfl rfl ?_
                refine g_bipush (q := 115) dX11_sign_113 kB_45 rfl ?_
                refine g_icmp_ne (t := 125) (q := 118) dX11_sign_115 (by decide) rfl ?_ ?_
                · refine g_bipush (q := 120) dX11_sign_118 kB_9 rfl ?_
                  refine g_istore (lr := [(4, .int z1), (0, .ref (b + 0)), (1, .int a1), (2, .int a2)]) (q := 122) dX11_sign_120 (by decide) rfl rfl ?_
                  refine g_goto (t := 161) dX11_sign_122 (by decide) ?_
                  refine g_sub (lr := [(5, .int (9 : Int32)), (4, .int z1), (0, .ref (b + 0)), (1, .int a1)]) [0, 1, 2, 3] rfl ?_
                  exact (g_there ((9 : Int32) : Int32))
                · refine g_iload_n (q := 126) 4 dX11_sign_125 rfl rfl rfl ?_
                  refine g_bipush (q := 128) dX11_sign_126 kB_42 rfl ?_
                  refine g_icmp_ne (t := 138) (q := 131) dX11_sign_128 (by decide) rfl ?_ ?_
                  · refine g_bipush (q := 133) dX11_sign_131 kB_10 rfl ?_
                    refine g_istore (lr := [(4, .int z1), (0, .ref (b + 0)), (1, .int a1), (2, .int a2)]) (q := 135) dX11_sign_133 (by decide) rfl rfl ?_
                    refine g_goto (t := 161) dX11_sign_135 (by decide) ?_
                    refine g_sub (lr := [(5, .int (10 : Int32)), (4, .int z1), (0, .ref (b + 0)), (1, .int a1)]) [0, 1, 2, 3] rfl ?_
                    exact (g_there ((10 : Int32) : Int32))
                  · refine g_iload_n (q := 139) 4 dX11_sign_138 rfl rfl rfl ?_
                    refine g_bipush (q := 141) dX11_sign_139 kB_60 rfl ?_
                    refine g_icmp_ne (t := 151) (q := 144) dX11_sign_141 (by decide) rfl ?_ ?_
                    · refine g_bipush (q := 146) dX11_sign_144 kB_13 rfl ?_
                      refine g_istore (lr := [(4, .int z1), (0, .ref (b + 0)), (1, .int a1), (2, .int a2)]) (q := 148) dX11_sign_146 (by decide) rfl rfl ?_
                      refine g_goto (t := 161) dX11_sign_148 (by decide) ?_
                      refine g_sub (lr := [(5, .int (13 : Int32)), (4, .int z1), (0, .ref (b + 0)), (1, .int a1)]) [0, 1, 2, 3] rfl ?_
                      exact (g_there ((13 : Int32) : Int32))
                    · refine g_iload_n (q := 152) 4 dX11_sign_151 rfl rfl rfl ?_
                      refine g_bipush (q := 154) dX11_sign_152 kB_61 rfl ?_
                      refine g_icmp_ne (t := 161) (q := 157) dX11_sign_154 (by decide) rfl ?_ ?_
                      · refine g_bipush (q := 159) dX11_sign_157 kB_15 rfl ?_
                        refine g_istore (lr := [(4, .int z1), (0, .ref (b + 0)), (1, .int a1), (2, .int a2)]) (q := 161) dX11_sign_159 (by decide) rfl rfl ?_
                        refine g_sub (lr := [(5, .int (15 : Int32)), (4, .int z1), (0, .ref (b + 0)), (1, .int a1)]) [0, 1, 2, 3] rfl ?_
                        exact (g_there ((15 : Int32) : Int32))
                      · refine g_sub (lr := [(5, .int (3 : Int32)), (4, .int z1), (0, .ref (b + 0)), (1, .int a1)]) [0, 1, 2, 3] rfl ?_
                        exact (g_there ((3 : Int32) : Int32))
      · refine g_iload (q := 56) 1 dX11_sign_54 rfl rfl ?_
        refine g_istore (lr := [(4, .int z1), (0, .ref (b + 0)), (1, .int a1), (2, .int a2)]) (q := 58) dX11_sign_56 (by decide) rfl rfl ?_
        refine g_goto (t := 161) dX11_sign_58 (by decide) ?_
        refine g_sub (lr := [(5, .int z1), (4, .int z1), (0, .ref (b + 0)), (1, .int a1)]) [0, 1, 2, 3] rfl ?_
        exact (g_there (z1 : Int32))
    · refine g_aload_n (q := 162) 2 dX11_sign_161 rfl rfl rfl ?_
      refine g_iload (q := 164) 0 dX11_sign_162 rfl rfl ?_
      refine g_iload_n (q := 165) 3 dX11_sign_164 rfl rfl rfl ?_
      refine g_iconst (q := 166) dX11_sign_165 kI_0 rfl ?_
      refine g_lconst (q := 167) (v := (0 : Int64)) dX11_sign_166 rfl rfl ?_
      refine g_callO (As := [.int z2, .int a1, .int (0 : Int32), .long (0 : Int64)]) (st := []) (cn_X11_token) shX11 rfl cwX11_185 rfl dX11_sign_167 rfl (Nat.le_of_ble_eq_true rfl) (by decide) (kk_V (fun s4 => ?_))
      refine g_iload (q := 172) 1 dX11_sign_170 rfl rfl ?_
      refine g_if_le (t := 179) (q := 175) dX11_sign_172 (by decide) rfl ?_ ?_
      · refine g_iconst (q := 180) dX11_sign_179 kI_1 rfl ?_
        exact (g_iret dX11_sign_180)
      · refine g_iconst (q := 176) dX11_sign_175 kI_2 rfl ?_
        refine g_goto (t := 180) dX11_sign_176 (by decide) ?_
        exact (g_iret dX11_sign_180)
noncomputable def pX11_cut (σ : gS) : Option (gS) := lt' (wI σ 0 10 (0 : Int32)) (fun s1 => bnS (lpP (fun (z3 : (Int32 × gS)) => if (400 : Int32) < (z3.2.1 0 10) then some (.inr (.inl z3.2)) else bn1 (pX11_byteAt z3.1 z3.2) (fun v4 => if z3.1 < (z3.2.1 0 4) then if v4 = (9 : Int32) then lt' (z3.1 + (1 : Int32)) (fun x6 => some (.inl (x6, z3.2))) else if v4 = (10 : Int32) then lt' (z3.1 + (1 : Int32)) (fun x7 => some (.inl (x7, z3.2))) else if v4 = (13 : Int32) then lt' (z3.1 + (1 : Int32)) (fun x8 => some (.inl (x8, z3.2))) else if v4 = (32 : Int32) then lt' (z3.1 + (1 : Int32)) (fun x9 => some (.inl (x9, z3.2))) else bn1 (pX11_isLetter v4) (fun v10 => if v10 = 0 then bn1 (pX11_isDigit v4) (fun v12 => if v12 = 0 then bn1 (pX11_byteAt (z3.1 + (1 : Int32)) z3.2) (fun v14 => bn2 (pX11_sign z3.1 v4 v14 z3.2) (fun v16 s17 => lt' (z3.1 + v16) (fun x18 => some (.inl (x18, s17))))) else bn1 (lpP (fun (z20 : (Int32 × Int32)) => bn1 (pX11_byteAt (z3.1 + z20.2) z3.2) (fun v21 => bn1 (pX11_isDigit v21) (fun v23 => if v23 = 0 then some (.inr (z20.2, z20.1)) else if (4 : Int32) ≤ z20.2 then lt' (z20.2 + (1 : Int32)) (fun x25 => some (.inl (z20.1, x25))) else bn1 (pX11_byteAt (z3.1 + z20.2) z3.2) (fun v26 => lt' ((((10 : Int32) * z20.1) + v26) - (48 : Int32)) (fun x28 => lt' (z20.2 + (1 : Int32)) (fun x29 => some (.inl (x28, x29)))))))) ((0 : Int32), (0 : Int32))) (fun (z19 : (Int32 × Int32)) => bn1 (if z19.1 ≤ (4 : Int32) then some (2 : Int32) else some (3 : Int32)) (fun (z30 : Int32) => bn1 (pX11_token z30 z3.1 z19.2 (0 : Int64) z3.2) (fun s32 => lt' (z3.1 + z19.1) (fun x33 => some (.inl (x33, s32))))))) else bn1 (lpP (fun (z35 : (Int64 × Int32)) => bn1 (pX11_byteAt (z3.1 + z35.2) z3.2) (fun v36 => bn1 (pX11_isLetter v36) (fun v38 => if v38 = 0 then some (.inr (z35.2, z35.1)) else if (8 : Int32) ≤ z35.2 then lt' (z35.2 + (1 : Int32)) (fun x40 => some (.inl (z35.1, x40))) else bn1 (pX11_byteAt (z3.1 + z35.2) z3.2) (fun v41 => bn1 (pX11_appends z35.1 v41) (fun v43 => lt' (z35.2 + (1 : Int32)) (fun x45 => some (.inl (v43, x45)))))))) ((0 : Int64), (0 : Int32))) (fun (z34 : (Int32 × Int64)) => bn1 (if z34.1 ≤ (8 : Int32) then some (1 : Int32) else some (3 : Int32)) (fun (z46 : Int32) => bn1 (if (7 : Int32) < z34.1 then some z46 else lpP (fun (z48 : (Int32 × Int32)) => if (23 : Int32) ≤ z48.1 then some (.inr z48.2) else gx z48.1 23 (if (lg_cmp (z3.2.2.1 7 z48.1.toNatClampNeg) z34.2) = 0 then lt' ((20 : Int32) + z48.1) (fun x49 => lt' (z48.1 + (1 : Int32)) (fun x50 => some (.inl (x50, x49)))) else lt' (z48.1 + (1 : Int32)) (fun x51 => some (.inl (x51, z48.2))))) ((0 : Int32), z46)) (fun (z47 : Int32) => bn1 (pX11_token z47 z3.1 (0 : Int32) z34.2 z3.2) (fun s53 => lt' (z3.1 + z34.1) (fun x54 => some (.inl (x54, s53)))))))) else bn1 (pX11_token (0 : Int32) (z3.2.1 0 4) (0 : Int32) (0 : Int64) z3.2) (fun s56 => some (.inr (.inr s56))))) ((0 : Int32), s1)) (fun (z2 : gS) => some z2))
set_option maxRecDepth 100000 in
theorem cn_X11_cut {G : gG} {b : Nat}  {σ : gS} : CN vR G b 3 yX11_cut cX11_cut 8 none kV [.ref (b + 0)] σ (pX11_cut σ) := by
  refine cn_of (own := RX11) rfl rfl (Nat.le_of_ble_eq_true rfl) ?_
  show GF vR G b (3, 0, 0) RX11 cX11_cut 8 none kV 0 [(0, .ref (b + 0))] [] σ (pX11_cut σ)
  unfold pX11_cut
  refine g_aload_n (q := 1) 0 dX11_cut_0 rfl rfl rfl ?_
  refine g_iconst (q := 2) dX11_cut_1 kI_0 rfl ?_
  refine g_putI (q := 5) fX11_tokens pwX11_tokens okTX11 dX11_cut_2 ww1052 rfl (fun s1 => ?_)
  refine g_iconst (q := 6) dX11_cut_5 kI_0 rfl ?_
  refine g_istore_n (lr := [(0, .ref (b + 0))]) (q := 7) dX11_cut_6 rfl (by decide) rfl rfl ?_
  refine g_bindS (S := gS) (hd := 294) (lvf := fun z2 => []) (stf := fun z2 => []) (σf := fun z2 => z2) ?_ (fun z2 => ?_)
  · refine g_loop (S := (Int32 × gS)) (lvf := fun z3 => [(1, .int z3.1), (0, .ref (b + 0))]) (σf := fun z3 => z3.2) (fun z3 => ?_) ((0 : Int32), s1)
    refine g_aload_n (q := 8) 1 dX11_cut_7 rfl rfl rfl ?_
    refine g_getI (q := 11) fX11_tokens dX11_cut_8 ww1052 rfl ?_
    refine g_sipush (q := 14) dX11_cut_11 kS_400 rfl ?_
    refine g_icmp_gt (t := 294) (q := 17) dX11_cut_14 (by decide) rfl ?_ ?_
    · refine g_sub (lr := []) [] rfl ?_
      exact (g_leave (g_thereS (z3.2 : gS)))
    · refine g_aload_n (q := 18) 1 dX11_cut_17 rfl rfl rfl ?_
      refine g_iload_n (q := 19) 0 dX11_cut_18 rfl rfl rfl ?_
      refine g_callO (As := [.int z3.1]) (st := []) (cn_X11_byteAt) shX11 rfl cwX11_181 rfl dX11_cut_19 rfl (Nat.le_of_ble_eq_true rfl) (by decide) (kk_PI (fun v4 => ?_))
      refine g_istore_n (lr := [(1, .int z3.1), (0, .ref (b + 0))]) (q := 23) dX11_cut_22 rfl (by decide) rfl rfl ?_
      refine g_iload_n (q := 24) 1 dX11_cut_23 rfl rfl rfl ?_
      refine g_aload_n (q := 25) 2 dX11_cut_24 rfl rfl rfl ?_
      refine g_getI (q := 28) fX11_size dX11_cut_25 ww1046 rfl ?_
      refine g_icmp_lt (t := 43) (q := 31) dX11_cut_28 (by decide) rfl ?_ ?_
      · refine g_iload_n (q := 44) 0 dX11_cut_43 rfl rfl rfl ?_
        refine g_bipush (q := 46) dX11_cut_44 kB_9 rfl ?_
        refine g_icmp_eq (t := 67) (q := 49) dX11_cut_46 (by decide) rfl ?_ ?_
        · refine g_iinc (lr := [(2, .int v4), (0, .ref (b + 0))]) (q := 70) 1 dX11_cut_67 rfl kI_1 (by decide) rfl rfl (fun x6 => ?_)
          refine g_goto (t := 291) dX11_cut_70 (by decide) ?_
          refine g_goto (t := 7) dX11_cut_291 (by decide) ?_
          refine g_sub (lr := [(1, .int x6), (0, .ref (b + 0))]) [0, 2] rfl ?_
          exact (g_again ((x6, z3.2) : (Int32 × gS)))
        · refine g_iload_n (q := 50) 0 dX11_cut_49 rfl rfl rfl ?_
          refine g_bipush (q := 52) dX11_cut_50 kB_10 rfl ?_
          refine g_icmp_eq (t := 67) (q := 55) dX11_cut_52 (by decide) rfl ?_ ?_
          · refine g_iinc (lr := [(2, .int v4), (0, .ref (b + 0))]) (q := 70) 1 dX11_cut_67 rfl kI_1 (by decide) rfl rfl (fun x7 => ?_)
            refine g_goto (t := 291) dX11_cut_70 (by decide) ?_
            refine g_goto (t := 7) dX11_cut_291 (by decide) ?_
            refine g_sub (lr := [(1, .int x7), (0, .ref (b + 0))]) [0, 2] rfl ?_
            exact (g_again ((x7, z3.2) : (Int32 × gS)))
          · refine g_iload_n (q := 56) 0 dX11_cut_55 rfl rfl rfl ?_
            refine g_bipush (q := 58) dX11_cut_56 kB_13 rfl ?_
            refine g_icmp_eq (t := 67) (q := 61) dX11_cut_58 (by decide) rfl ?_ ?_
            · refine g_iinc (lr := [(2, .int v4), (0, .ref (b + 0))]) (q := 70) 1 dX11_cut_67 rfl kI_1 (by decide) rfl rfl (fun x8 => ?_)
              refine g_goto (t := 291) dX11_cut_70 (by decide) ?_
              refine g_goto (t := 7) dX11_cut_291 (by decide) ?_
              refine g_sub (lr := [(1, .int x8), (0, .ref (b + 0))]) [0, 2] rfl ?_
              exact (g_again ((x8, z3.2) : (Int32 × gS)))
            · refine g_iload_n (q := 62) 0 dX11_cut_61 rfl rfl rfl ?_
              refine g_bipush (q := 64) dX11_cut_62 kB_32 rfl ?_
              refine g_icmp_ne (t := 73) (q := 67) dX11_cut_64 (by decide) rfl ?_ ?_
              · refine g_iinc (lr := [(2, .int v4), (0, .ref (b + 0))]) (q := 70) 1 dX11_cut_67 rfl kI_1 (by decide) rfl rfl (fun x9 => ?_)
                refine g_goto (t := 291) dX11_cut_70 (by decide) ?_
                refine g_goto (t := 7) dX11_cut_291 (by decide) ?_
                refine g_sub (lr := [(1, .int x9), (0, .ref (b + 0))]) [0, 2] rfl ?_
                exact (g_again ((x9, z3.2) : (Int32 × gS)))
              · refine g_iload_n (q := 74) 0 dX11_cut_73 rfl rfl rfl ?_
                refine g_callT (As := [.int v4]) (st := []) (cn_X11_isLetter) cwX11_189 rfl dX11_cut_74 rfl (Nat.le_of_ble_eq_true rfl) (by decide) (kk_PI (fun v10 => ?_))
                refine g_if_eq (t := 196) (q := 80) dX11_cut_77 (by decide) rfl ?_ ?_
                · refine g_iload_n (q := 197) 0 dX11_cut_196 rfl rfl rfl ?_
                  refine g_callT (As := [.int v4]) (st := []) (cn_X11_isDigit) cwX11_193 rfl dX11_cut_197 rfl (Nat.le_of_ble_eq_true rfl) (by decide) (kk_PI (fun v12 => ?_))
                  refine g_if_eq (t := 275) (q := 203) dX11_cut_200 (by decide) rfl ?_ ?_
                  · refine g_iload_n (q := 276) 1 dX11_cut_275 rfl rfl rfl ?_
                    refine g_aload_n (q := 277) 2 dX11_cut_276 rfl rfl rfl ?_
                    refine g_iload_n (q := 278) 1 dX11_cut_277 rfl rfl rfl ?_
                    refine g_iload_n (q := 279) 0 dX11_cut_278 rfl rfl rfl ?_
                    refine g_aload_n (q := 280) 2 dX11_cut_279 rfl rfl rfl ?_
                    refine g_iload_n (q := 281) 1 dX11_cut_280 rfl rfl rfl ?_
                    refine g_iconst (q := 282) dX11_cut_281 kI_1 rfl ?_
                    refine g_iadd (q := 283) dX11_cut_282 rfl ?_
                    refine g_callO (As := [.int (z3.1 + (1 : Int32))]) (st := [.int v4, .int z3.1, .ref (b + 0), .int z3.1]) (cn_X11_byteAt) shX11 rfl cwX11_181 rfl dX11_cut_283 rfl (Nat.le_of_ble_eq_true rfl) (by decide) (kk_PI (fun v14 => ?_))
                    refine g_callO (As := [.int z3.1, .int v4, .int v14]) (st := [.int z3.1]) (cn_X11_sign) shX11 rfl cwX11_196 rfl dX11_cut_286 rfl (Nat.le_of_ble_eq_true rfl) (by decide) (kk_I (fun v16 s17 => ?_))
                    refine g_iadd (q := 290) dX11_cut_289 rfl ?_
                    refine g_leti (fun x18 => ?_)
                    refine g_istore_n (lr := [(2, .int v4), (0, .ref (b + 0))]) (q := 291) dX11_cut_290 rfl (by decide) rfl rfl ?_
                    refine g_goto (t := 7) dX11_cut_291 (by decide) ?_
                    refine g_sub (lr := [(1, .int x18), (0, .ref (b + 0))]) [0, 2] rfl ?_
                    exact (g_again ((x18, s17) : (Int32 × gS)))
                  · refine g_iconst (q := 204) dX11_cut_203 kI_0 rfl ?_
                    refine g_istore_n (lr := [(2, .int v4), (1, .int z3.1), (0, .ref (b + 0))]) (q := 205) dX11_cut_204 rfl (by decide) rfl rfl ?_
                    refine g_iconst (q := 206) dX11_cut_205 kI_0 rfl ?_
                    refine g_istore (lr := [(3, .int (0 : Int32)), (2, .int v4), (1, .int z3.1), (0, .ref (b + 0))]) (q := 208) dX11_cut_206 (by decide) rfl rfl ?_
                    refine g_bind (S := (Int32 × Int32)) (hd := 250) (lvf := fun z19 => [(3, .int z19.1), (4, .int z19.2), (1, .int z3.1), (0, .ref (b + 0))]) (stf := fun z19 => []) (σf := fun z19 => z3.2) ?_ (fun z19 => ?_)
                    · refine g_sub (lr := [(4, .int (0 : Int32)), (3, .int (0 : Int32)), (1, .int z3.1), (0, .ref (b + 0))]) [0, 1, 3, 4] rfl ?_
                      refine g_loop (S := (Int32 × Int32)) (lvf := fun z20 => [(4, .int z20.1), (3, .int z20.2), (1, .int z3.1), (0, .ref (b + 0))]) (σf := fun z20 => z3.2) (fun z20 => ?_) ((0 : Int32), (0 : Int32))
                      refine g_aload_n (q := 209) 3 dX11_cut_208 rfl rfl rfl ?_
                      refine g_iload_n (q := 210) 2 dX11_cut_209 rfl rfl rfl ?_
                      refine g_iload_n (q := 211) 1 dX11_cut_210 rfl rfl rfl ?_
                      refine g_iadd (q := 212) dX11_cut_211 rfl ?_
                      refine g_callO (As := [.int (z3.1 + z20.2)]) (st := []) (cn_X11_byteAt) shX11 rfl cwX11_181 rfl dX11_cut_212 rfl (Nat.le_of_ble_eq_true rfl) (by decide) (kk_PI (fun v21 => ?_))
                      refine g_callT (As := [.int v21]) (st := []) (cn_X11_isDigit) cwX11_193 rfl dX11_cut_215 rfl (Nat.le_of_ble_eq_true rfl) (by decide) (kk_PI (fun v23 => ?_))
                      refine g_if_eq (t := 250) (q := 221) dX11_cut_218 (by decide) rfl ?_ ?_
                      · refine g_sub (lr := [(3, .int z20.2), (4, .int z20.1), (1, .int z3.1), (0, .ref (b + 0))]) [1, 0, 2, 3] rfl ?_
                        exact (g_leave (g_there ((z20.2, z20.1) : (Int32 × Int32))))
                      · refine g_iload_n (q := 222) 1 dX11_cut_221 rfl rfl rfl ?_
                        refine g_iconst (q := 223) dX11_cut_222 kI_4 rfl ?_
                        refine g_icmp_ge (t := 244) (q := 226) dX11_cut_223 (by decide) rfl ?_ ?_
                        · refine g_iinc (lr := [(4, .int z20.1), (1, .int z3.1), (0, .ref (b + 0))]) (q := 247) 1 dX11_cut_244 rfl kI_1 (by decide) rfl rfl (fun x25 => ?_)
                          refine g_goto (t := 208) dX11_cut_247 (by decide) ?_
                          refine g_sub (lr := [(4, .int z20.1), (3, .int x25), (1, .int z3.1), (0, .ref (b + 0))]) [1, 0, 2, 3] rfl ?_
                          exact (g_again ((z20.1, x25) : (Int32 × Int32)))
                        · refine g_bipush (q := 228) dX11_cut_226 kB_10 rfl ?_
                          refine g_iload (q := 230) 0 dX11_cut_228 rfl rfl ?_
                          refine g_imul (q := 231) dX11_cut_230 rfl ?_
                          refine g_aload_n (q := 232) 3 dX11_cut_231 rfl rfl rfl ?_
                          refine g_iload_n (q := 233) 2 dX11_cut_232 rfl rfl rfl ?_
                          refine g_iload_n (q := 234) 1 dX11_cut_233 rfl rfl rfl ?_
                          refine g_iadd (q := 235) dX11_cut_234 rfl ?_
                          refine g_callO (As := [.int (z3.1 + z20.2)]) (st := [.int ((10 : Int32) * z20.1)]) (cn_X11_byteAt) shX11 rfl cwX11_181 rfl dX11_cut_235 rfl (Nat.le_of_ble_eq_true rfl) (by decide) (kk_PI (fun v26 => ?_))
                          refine g_iadd (q := 239) dX11_cut_238 rfl ?_
                          refine g_bipush (q := 241) dX11_cut_239 kB_48 rfl ?_
                          refine g_isub (q := 242) dX11_cut_241 rfl ?_
                          refine g_leti (fun x28 => ?_)
                          refine g_istore (lr := [(3, .int z20.2), (1, .int z3.1), (0, .ref (b + 0))]) (q := 244) dX11_cut_242 (by decide) rfl rfl ?_
                          refine g_iinc (lr := [(4, .int x28), (1, .int z3.1), (0, .ref (b + 0))]) (q := 247) 1 dX11_cut_244 rfl kI_1 (by decide) rfl rfl (fun x29 => ?_)
                          refine g_goto (t := 208) dX11_cut_247 (by decide) ?_
                          refine g_sub (lr := [(4, .int x28), (3, .int x29), (1, .int z3.1), (0, .ref (b + 0))]) [1, 0, 2, 3] rfl ?_
                          exact (g_again ((x28, x29) : (Int32 × Int32)))
                    · refine g_aload_n (q := 251) 3 dX11_cut_250 rfl rfl rfl ?_
                      refine g_iload_n (q := 252) 0 dX11_cut_251 rfl rfl rfl ?_
                      refine g_iconst (q := 253) dX11_cut_252 kI_4 rfl ?_
                      refine g_bind (S := Int32) (hd := 261) (lvf := fun z30 => [(3, .int z19.1), (4, .int z19.2), (1, .int z3.1), (0, .ref (b + 0))]) (stf := fun z30 => [.int z30, .ref (b + 0)]) (σf := fun z30 => z3.2) ?_ (fun z30 => ?_)
                      · refine g_icmp_le (t := 260) (q := 256) dX11_cut_253 (by decide) rfl ?_ ?_
                        · refine g_iconst (q := 261) dX11_cut_260 kI_2 rfl ?_
                          exact (g_there ((2 : Int32) : Int32))
                        · refine g_iconst (q := 257) dX11_cut_256 kI_3 rfl ?_
                          refine g_goto (t := 261) dX11_cut_257 (by decide) ?_
                          exact (g_there ((3 : Int32) : Int32))
                      · refine g_iload_n (q := 262) 2 dX11_cut_261 rfl rfl rfl ?_
                        refine g_iload (q := 264) 1 dX11_cut_262 rfl rfl ?_
                        refine g_lconst (q := 265) (v := (0 : Int64)) dX11_cut_264 rfl rfl ?_
                        refine g_callO (As := [.int z30, .int z3.1, .int z19.2, .long (0 : Int64)]) (st := []) (cn_X11_token) shX11 rfl cwX11_185 rfl dX11_cut_265 rfl (Nat.le_of_ble_eq_true rfl) (by decide) (kk_V (fun s32 => ?_))
                        refine g_iload_n (q := 269) 2 dX11_cut_268 rfl rfl rfl ?_
                        refine g_iload_n (q := 270) 0 dX11_cut_269 rfl rfl rfl ?_
                        refine g_iadd (q := 271) dX11_cut_270 rfl ?_
                        refine g_leti (fun x33 => ?_)
                        refine g_istore_n (lr := [(3, .int z19.1), (4, .int z19.2), (0, .ref (b + 0))]) (q := 272) dX11_cut_271 rfl (by decide) rfl rfl ?_
                        refine g_goto (t := 291) dX11_cut_272 (by decide) ?_
                        refine g_goto (t := 7) dX11_cut_291 (by decide) ?_
                        refine g_sub (lr := [(1, .int x33), (0, .ref (b + 0))]) [0, 3] rfl ?_
                        exact (g_again ((x33, s32) : (Int32 × gS)))
                · refine g_iconst (q := 81) dX11_cut_80 kI_0 rfl ?_
                  refine g_istore_n (lr := [(2, .int v4), (1, .int z3.1), (0, .ref (b + 0))]) (q := 82) dX11_cut_81 rfl (by decide) rfl rfl ?_
                  refine g_lconst (q := 83) (v := (0 : Int64)) dX11_cut_82 rfl rfl ?_
                  refine g_lstore (lr := [(3, .int (0 : Int32)), (2, .int v4), (1, .int z3.1), (0, .ref (b + 0))]) (q := 85) dX11_cut_83 (by decide) rfl rfl ?_
                  refine g_bind (S := (Int32 × Int64)) (hd := 124) (lvf := fun z34 => [(3, .int z34.1), (4, .long z34.2), (1, .int z3.1), (0, .ref (b + 0))]) (stf := fun z34 => []) (σf := fun z34 => z3.2) ?_ (fun z34 => ?_)
                  · refine g_sub (lr := [(4, .long (0 : Int64)), (3, .int (0 : Int32)), (1, .int z3.1), (0, .ref (b + 0))]) [0, 1, 3, 4] rfl ?_
                    refine g_loop (S := (Int64 × Int32)) (lvf := fun z35 => [(4, .long z35.1), (3, .int z35.2), (1, .int z3.1), (0, .ref (b + 0))]) (σf := fun z35 => z3.2) (fun z35 => ?_) ((0 : Int64), (0 : Int32))
                    refine g_aload_n (q := 86) 3 dX11_cut_85 rfl rfl rfl ?_
                    refine g_iload_n (q := 87) 2 dX11_cut_86 rfl rfl rfl ?_
                    refine g_iload_n (q := 88) 1 dX11_cut_87 rfl rfl rfl ?_
                    refine g_iadd (q := 89) dX11_cut_88 rfl ?_
                    refine g_callO (As := [.int (z3.1 + z35.2)]) (st := []) (cn_X11_byteAt) shX11 rfl cwX11_181 rfl dX11_cut_89 rfl (Nat.le_of_ble_eq_true rfl) (by decide) (kk_PI (fun v36 => ?_))
                    refine g_callT (As := [.int v36]) (st := []) (cn_X11_isLetter) cwX11_189 rfl dX11_cut_92 rfl (Nat.le_of_ble_eq_true rfl) (by decide) (kk_PI (fun v38 => ?_))
                    refine g_if_eq (t := 124) (q := 98) dX11_cut_95 (by decide) rfl ?_ ?_
                    · refine g_sub (lr := [(3, .int z35.2), (4, .long z35.1), (1, .int z3.1), (0, .ref (b + 0))]) [1, 0, 2, 3] rfl ?_
                      exact (g_leave (g_there ((z35.2, z35.1) : (Int32 × Int64))))
                    · refine g_iload_n (q := 99) 1 dX11_cut_98 rfl rfl rfl ?_
                      refine g_bipush (q := 101) dX11_cut_99 kB_8 rfl ?_
                      refine g_icmp_ge (t := 118) (q := 104) dX11_cut_101 (by decide) rfl ?_ ?_
                      · refine g_iinc (lr := [(4, .long z35.1), (1, .int z3.1), (0, .ref (b + 0))]) (q := 121) 1 dX11_cut_118 rfl kI_1 (by decide) rfl rfl (fun x40 => ?_)
                        refine g_goto (t := 85) dX11_cut_121 (by decide) ?_
                        refine g_sub (lr := [(4, .long z35.1), (3, .int x40), (1, .int z3.1), (0, .ref (b + 0))]) [1, 0, 2, 3] rfl ?_
                        exact (g_again ((z35.1, x40) : (Int64 × Int32)))
                      · refine g_lload (q := 106) 0 dX11_cut_104 rfl rfl ?_
                        refine g_aload_n (q := 107) 3 dX11_cut_106 rfl rfl rfl ?_
                        refine g_iload_n (q := 108) 2 dX11_cut_107 rfl rfl rfl ?_
                        refine g_iload_n (q := 109) 1 dX11_cut_108 rfl rfl rfl ?_
                        refine g_iadd (q := 110) dX11_cut_109 rfl ?_
                        refine g_callO (As := [.int (z3.1 + z35.2)]) (st := [.long z35.1]) (cn_X11_byteAt) shX11 rfl cwX11_181 rfl dX11_cut_110 rfl (Nat.le_of_ble_eq_true rfl) (by decide) (kk_PI (fun v41 => ?_))
                        refine g_callT (As := [.long z35.1, .int v41]) (st := []) (cn_X11_appends) cwX11_174 rfl dX11_cut_113 rfl (Nat.le_of_ble_eq_true rfl) (by decide) (kk_PL (fun v43 => ?_))
                        refine g_lstore (lr := [(3, .int z35.2), (1, .int z3.1), (0, .ref (b + 0))]) (q := 118) dX11_cut_116 (by decide) rfl rfl ?_
                        refine g_iinc (lr := [(4, .long v43), (1, .int z3.1), (0, .ref (b + 0))]) (q := 121) 1 dX11_cut_118 rfl kI_1 (by decide) rfl rfl (fun x45 => ?_)
                        refine g_goto (t := 85) dX11_cut_121 (by decide) ?_
                        refine g_sub (lr := [(4, .long v43), (3, .int x45), (1, .int z3.1), (0, .ref (b + 0))]) [1, 0, 2, 3] rfl ?_
                        exact (g_again ((v43, x45) : (Int64 × Int32)))
                  · refine g_iload_n (q := 125) 0 dX11_cut_124 rfl rfl rfl ?_
                    refine g_bipush (q := 127) dX11_cut_125 kB_8 rfl ?_
                    refine g_bind (S := Int32) (hd := 135) (lvf := fun z46 => [(3, .int z34.1), (4, .long z34.2), (1, .int z3.1), (0, .ref (b + 0))]) (stf := fun z46 => [.int z46]) (σf := fun z46 => z3.2) ?_ (fun z46 => ?_)
                    · refine g_icmp_le (t := 134) (q := 130) dX11_cut_127 (by decide) rfl ?_ ?_
                      · refine g_iconst (q := 135) dX11_cut_134 kI_1 rfl ?_
                        exact (g_there ((1 : Int32) : Int32))
                      · refine g_iconst (q := 131) dX11_cut_130 kI_3 rfl ?_
                        refine g_goto (t := 135) dX11_cut_131 (by decide) ?_
                        exact (g_there ((3 : Int32) : Int32))
                    · refine g_istore (lr := [(3, .int z34.1), (4, .long z34.2), (1, .int z3.1), (0, .ref (b + 0))]) (q := 137) dX11_cut_135 (by decide) rfl rfl ?_
                      refine g_iload_n (q := 138) 1 dX11_cut_137 rfl rfl rfl ?_
                      refine g_bipush (q := 140) dX11_cut_138 kB_7 rfl ?_
                      refine g_bind (S := Int32) (hd := 179) (lvf := fun z47 => [(6, .int z47), (3, .int z34.1), (4, .long z34.2), (1, .int z3.1), (0, .ref (b + 0))]) (stf := fun z47 => []) (σf := fun z47 => z3.2) ?_ (fun z47 => ?_)
                      · refine g_icmp_gt (t := 179) (q := 143) dX11_cut_140 (by decide) rfl ?_ ?_
                        · exact (g_there (z46 : Int32))
                        · refine g_iconst (q := 144) dX11_cut_143 kI_0 rfl ?_
                          refine g_istore (lr := [(6, .int z46), (3, .int z34.1), (4, .long z34.2), (1, .int z3.1), (0, .ref (b + 0))]) (q := 146) dX11_cut_144 (by decide) rfl rfl ?_
                          refine g_loop (S := (Int32 × Int32)) (lvf := fun z48 => [(7, .int z48.1), (6, .int z48.2), (3, .int z34.1), (4, .long z34.2), (1, .int z3.1), (0, .ref (b + 0))]) (σf := fun z48 => z3.2) (fun z48 => ?_) ((0 : Int32), z46)
                          refine g_iload (q := 148) 0 dX11_cut_146 rfl rfl ?_
                          refine g_bipush (q := 150) dX11_cut_148 kB_23 rfl ?_
                          refine g_icmp_ge (t := 179) (q := 153) dX11_cut_150 (by decide) rfl ?_ ?_
                          · refine g_sub (lr := [(6, .int z48.2), (3, .int z34.1), (4, .long z34.2), (1, .int z3.1), (0, .ref (b + 0))]) [1, 2, 3, 4, 5] rfl ?_
                            exact (g_leave (g_there (z48.2 : Int32)))
                          · refine g_aload_n (q := 154) 5 dX11_cut_153 rfl rfl rfl ?_
                            refine g_getA (q := 157) fX11_keys dX11_cut_154 ww1051 rfl ?_
                            refine g_iload (q := 159) 0 dX11_cut_157 rfl rfl ?_
                            refine g_lald (q := 160) (aX11_keys) dX11_cut_159 rfl ?_
                            refine g_lload (q := 162) 3 dX11_cut_160 rfl rfl ?_
                            refine g_lcmp (q := 163) dX11_cut_162 rfl ?_
                            refine g_if_ne (t := 173) (q := 166) dX11_cut_163 (by decide) rfl ?_ ?_
                            · refine g_bipush (q := 168) dX11_cut_166 kB_20 rfl ?_
                              refine g_iload (q := 170) 0 dX11_cut_168 rfl rfl ?_
                              refine g_iadd (q := 171) dX11_cut_170 rfl ?_
                              refine g_leti (fun x49 => ?_)
                              refine g_istore (lr := [(7, .int z48.1), (3, .int z34.1), (4, .long z34.2), (1, .int z3.1), (0, .ref (b + 0))]) (q := 173) dX11_cut_171 (by decide) rfl rfl ?_
                              refine g_iinc (lr := [(6, .int x49), (3, .int z34.1), (4, .long z34.2), (1, .int z3.1), (0, .ref (b + 0))]) (q := 176) 1 dX11_cut_173 rfl kI_1 (by decide) rfl rfl (fun x50 => ?_)
                              refine g_goto (t := 146) dX11_cut_176 (by decide) ?_
                              exact (g_again ((x50, x49) : (Int32 × Int32)))
                            · refine g_iinc (lr := [(6, .int z48.2), (3, .int z34.1), (4, .long z34.2), (1, .int z3.1), (0, .ref (b + 0))]) (q := 176) 0 dX11_cut_173 rfl kI_1 (by decide) rfl rfl (fun x51 => ?_)
                              refine g_goto (t := 146) dX11_cut_176 (by decide) ?_
                              exact (g_again ((x51, z48.2) : (Int32 × Int32)))
                      · refine g_aload_n (q := 180) 4 dX11_cut_179 rfl rfl rfl ?_
                        refine g_iload (q := 182) 0 dX11_cut_180 rfl rfl ?_
                        refine g_iload_n (q := 183) 3 dX11_cut_182 rfl rfl rfl ?_
                        refine g_iconst (q := 184) dX11_cut_183 kI_0 rfl ?_
                        refine g_lload (q := 186) 2 dX11_cut_184 rfl rfl ?_
                        refine g_callO (As := [.int z47, .int z3.1, .int (0 : Int32), .long z34.2]) (st := []) (cn_X11_token) shX11 rfl cwX11_185 rfl dX11_cut_186 rfl (Nat.le_of_ble_eq_true rfl) (by decide) (kk_V (fun s53 => ?_))
                        refine g_iload_n (q := 190) 3 dX11_cut_189 rfl rfl rfl ?_
                        refine g_iload_n (q := 191) 1 dX11_cut_190 rfl rfl rfl ?_
                        refine g_iadd (q := 192) dX11_cut_191 rfl ?_
                        refine g_leti (fun x54 => ?_)
                        refine g_istore_n (lr := [(6, .int z47), (3, .int z34.1), (4, .long z34.2), (0, .ref (b + 0))]) (q := 193) dX11_cut_192 rfl (by decide) rfl rfl ?_
                        refine g_goto (t := 291) dX11_cut_193 (by decide) ?_
                        refine g_goto (t := 7) dX11_cut_291 (by decide) ?_
                        refine g_sub (lr := [(1, .int x54), (0, .ref (b + 0))]) [0, 4] rfl ?_
                        exact (g_again ((x54, s53) : (Int32 × gS)))
      · refine g_aload_n (q := 32) 2 dX11_cut_31 rfl rfl rfl ?_
        refine g_iconst (q := 33) dX11_cut_32 kI_0 rfl ?_
        refine g_aload_n (q := 34) 2 dX11_cut_33 rfl rfl rfl ?_
        refine g_getI (q := 37) fX11_size dX11_cut_34 ww1046 rfl ?_
        refine g_iconst (q := 38) dX11_cut_37 kI_0 rfl ?_
        refine g_lconst (q := 39) (v := (0 : Int64)) dX11_cut_38 rfl rfl ?_
        refine g_callO (As := [.int (0 : Int32), .int (z3.2.1 0 4), .int (0 : Int32), .long (0 : Int64)]) (st := []) (cn_X11_token) shX11 rfl cwX11_185 rfl dX11_cut_39 rfl (Nat.le_of_ble_eq_true rfl) (by decide) (kk_V (fun s56 => ?_))
        exact (g_leave (g_right (g_vret dX11_cut_42)))
  · exact (g_vret dX11_cut_294)
noncomputable def pX11_is (a1 : Int32) (σ : gS) : Option (Int32) := if (σ.1 0 13) = 0 then gx (σ.1 0 11) 403 (if (σ.1 3 (σ.1 0 11).toNatClampNeg) = a1 then some (1 : Int32) else some (0 : Int32)) else some (0 : Int32)
set_option maxRecDepth 100000 in
theorem cn_X11_is {G : gG} {b : Nat} {a1 : Int32} {σ : gS} : CN vR G b 1 yX11_is cX11_is 2 (some .boolean) (kPI σ) [.ref (b + 0), .int a1] σ (pX11_is a1 σ) := by
  refine cn_of (own := RX11) rfl rfl (Nat.le_of_ble_eq_true rfl) ?_
  show GF vR G b (1, 0, 0) RX11 cX11_is 2 (some .boolean) (kPI σ) 0 [(0, .ref (b + 0)), (1, .int a1)] [] σ (pX11_is a1 σ)
  unfold pX11_is
  refine g_aload_n (q := 1) 0 dX11_is_0 rfl rfl rfl ?_
  refine g_getI (q := 4) fX11_fault dX11_is_1 ww1055 rfl ?_
  refine g_if_ne (t := 24) (q := 7) dX11_is_4 (by decide) rfl ?_ ?_
  · refine g_aload_n (q := 8) 0 dX11_is_7 rfl rfl rfl ?_
    refine g_getA (q := 11) fX11_tKind dX11_is_8 ww1047 rfl ?_
    refine g_aload_n (q := 12) 0 dX11_is_11 rfl rfl rfl ?_
    refine g_getI (q := 15) fX11_t dX11_is_12 ww1053 rfl ?_
    refine g_iald (q := 16) (aX11_tKind) dX11_is_15 rfl ?_
    refine g_iload_n (q := 17) 1 dX11_is_16 rfl rfl rfl ?_
    refine g_icmp_ne (t := 24) (q := 20) dX11_is_17 (by decide) rfl ?_ ?_
    · refine g_iconst (q := 21) dX11_is_20 kI_1 rfl ?_
      refine g_goto (t := 25) dX11_is_21 (by decide) ?_
      exact (g_bretP1 dX11_is_25)
    · refine g_iconst (q := 25) dX11_is_24 kI_0 rfl ?_
      exact (g_bretP0 dX11_is_25)
  · refine g_iconst (q := 25) dX11_is_24 kI_0 rfl ?_
    exact (g_bretP0 dX11_is_25)
noncomputable def pX11_fail (a1 : Int32) (σ : gS) : Option (gS) := if (σ.1 0 13) ≤ 0 then lt' (wI σ 0 13 a1) (fun s1 => gx (s1.1 0 11) 403 (lt' (wI s1 0 14 (s1.1 4 (s1.1 0 11).toNatClampNeg)) (fun s2 => some s2))) else some σ
set_option maxRecDepth 100000 in
theorem cn_X11_fail {G : gG} {b : Nat} {a1 : Int32} {σ : gS} : CN vR G b 1 yX11_fail cX11_fail 2 none kV [.ref (b + 0), .int a1] σ (pX11_fail a1 σ) := by
  refine cn_of (own := RX11) rfl rfl (Nat.le_of_ble_eq_true rfl) ?_
  show GF vR G b (1, 0, 0) RX11 cX11_fail 2 none kV 0 [(0, .ref (b + 0)), (1, .int a1)] [] σ (pX11_fail a1 σ)
  unfold pX11_fail
  refine g_aload_n (q := 1) 0 dX11_fail_0 rfl rfl rfl ?_
  refine g_getI (q := 4) fX11_fault dX11_fail_1 ww1055 rfl ?_
  refine g_if_le (t := 8) (q := 7) dX11_fail_4 (by decide) rfl ?_ ?_
  · refine g_aload_n (q := 9) 0 dX11_fail_8 rfl rfl rfl ?_
    refine g_iload_n (q := 10) 1 dX11_fail_9 rfl rfl rfl ?_
    refine g_putI (q := 13) fX11_fault pwX11_fault okTX11 dX11_fail_10 ww1055 rfl (fun s1 => ?_)
    refine g_aload_n (q := 14) 0 dX11_fail_13 rfl rfl rfl ?_
    refine g_aload_n (q := 15) 0 dX11_fail_14 rfl rfl rfl ?_
    refine g_getA (q := 18) fX11_tPlace dX11_fail_15 ww1048 rfl ?_
    refine g_aload_n (q := 19) 0 dX11_fail_18 rfl rfl rfl ?_
    refine g_getI (q := 22) fX11_t dX11_fail_19 ww1053 rfl ?_
    refine g_iald (q := 23) (aX11_tPlace) dX11_fail_22 rfl ?_
    refine g_putI (q := 26) fX11_faultPlace pwX11_faultPlace okTX11 dX11_fail_23 ww1056 rfl (fun s2 => ?_)
    exact (g_vret dX11_fail_26)
  · exact (g_vret dX11_fail_7)
noncomputable def pX11_wrong (a1 : Int32) (a2 : Int32) (σ : gS) : Option (gS) := gx a2 403 (lt' (σ.1 4 a2.toNatClampNeg) (fun x1 => if 0 < (σ.1 0 13) then some σ else bnS (if (σ.1 0 15) = 0 then some (.inl ()) else if (σ.1 0 16) < x1 then some (.inr σ) else if x1 = (σ.1 0 16) then if a1 < (σ.1 0 15) then some (.inl ()) else some (.inr σ) else some (.inl ())) (fun (z2 : Unit) => lt' (wI σ 0 15 a1) (fun s3 => lt' (wI s3 0 16 x1) (fun s4 => some s4)))))
set_option maxRecDepth 100000 in
theorem cn_X11_wrong {G : gG} {b : Nat} {a1 : Int32} {a2 : Int32} {σ : gS} : CN vR G b 1 yX11_wrong cX11_wrong 4 none kV [.ref (b + 0), .int a1, .int a2] σ (pX11_wrong a1 a2 σ) := by
  refine cn_of (own := RX11) rfl rfl (Nat.le_of_ble_eq_true rfl) ?_
  show GF vR G b (1, 0, 0) RX11 cX11_wrong 4 none kV 0 [(0, .ref (b + 0)), (1, .int a1), (2, .int a2)] [] σ (pX11_wrong a1 a2 σ)
  unfold pX11_wrong
  refine g_aload_n (q := 1) 0 dX11_wrong_0 rfl rfl rfl ?_
  refine g_getA (q := 4) fX11_tPlace dX11_wrong_1 ww1048 rfl ?_
  refine g_iload_n (q := 5) 2 dX11_wrong_4 rfl rfl rfl ?_
  refine g_iald (q := 6) (aX11_tPlace) dX11_wrong_5 rfl ?_
  refine g_leti (fun x1 => ?_)
  refine g_istore_n (lr := [(0, .ref (b + 0)), (1, .int a1), (2, .int a2)]) (q := 7) dX11_wrong_6 rfl (by decide) rfl rfl ?_
  refine g_aload_n (q := 8) 1 dX11_wrong_7 rfl rfl rfl ?_
  refine g_getI (q := 11) fX11_fault dX11_wrong_8 ww1055 rfl ?_
  refine g_if_gt (t := 45) (q := 14) dX11_wrong_11 (by decide) rfl ?_ ?_
  · exact (g_vret dX11_wrong_45)
  · refine g_aload_n (q := 15) 1 dX11_wrong_14 rfl rfl rfl ?_
    refine g_getI (q := 18) fX11_worst dX11_wrong_15 ww1057 rfl ?_
    refine g_bindS (S := Unit) (hd := 46) (lvf := fun z2 => [(3, .int x1), (0, .ref (b + 0)), (1, .int a1)]) (stf := fun z2 => []) (σf := fun z2 => σ) ?_ (fun z2 => ?_)
    · refine g_if_eq (t := 46) (q := 21) dX11_wrong_18 (by decide) rfl ?_ ?_
      · refine g_sub (lr := [(3, .int x1), (0, .ref (b + 0)), (1, .int a1)]) [0, 1, 2] rfl ?_
        exact (g_thereS (() : Unit))
      · refine g_iload_n (q := 22) 0 dX11_wrong_21 rfl rfl rfl ?_
        refine g_aload_n (q := 23) 1 dX11_wrong_22 rfl rfl rfl ?_
        refine g_getI (q := 26) fX11_worstPlace dX11_wrong_23 ww1058 rfl ?_
        refine g_icmp_gt (t := 45) (q := 29) dX11_wrong_26 (by decide) rfl ?_ ?_
        · exact (g_right (g_vret dX11_wrong_45))
        · refine g_iload_n (q := 30) 0 dX11_wrong_29 rfl rfl rfl ?_
          refine g_aload_n (q := 31) 1 dX11_wrong_30 rfl rfl rfl ?_
          refine g_getI (q := 34) fX11_worstPlace dX11_wrong_31 ww1058 rfl ?_
          refine g_icmp_ne (t := 46) (q := 37) dX11_wrong_34 (by decide) rfl ?_ ?_
          · refine g_iload_n (q := 38) 2 dX11_wrong_37 rfl rfl rfl ?_
            refine g_aload_n (q := 39) 1 dX11_wrong_38 rfl rfl rfl ?_
            refine g_getI (q := 42) fX11_worst dX11_wrong_39 ww1057 rfl ?_
            refine g_icmp_lt (t := 46) (q := 45) dX11_wrong_42 (by decide) rfl ?_ ?_
            · refine g_sub (lr := [(3, .int x1), (0, .ref (b + 0)), (1, .int a1)]) [0, 1, 2] rfl ?_
              exact (g_thereS (() : Unit))
            · exact (g_right (g_vret dX11_wrong_45))
          · refine g_sub (lr := [(3, .int x1), (0, .ref (b + 0)), (1, .int a1)]) [0, 1, 2] rfl ?_
            exact (g_thereS (() : Unit))
    · refine g_aload_n (q := 47) 1 dX11_wrong_46 rfl rfl rfl ?_
      refine g_iload_n (q := 48) 2 dX11_wrong_47 rfl rfl rfl ?_
      refine g_putI (q := 51) fX11_worst pwX11_worst okTX11 dX11_wrong_48 ww1057 rfl (fun s3 => ?_)
      refine g_aload_n (q := 52) 1 dX11_wrong_51 rfl rfl rfl ?_
      refine g_iload_n (q := 53) 0 dX11_wrong_52 rfl rfl rfl ?_
      refine g_putI (q := 56) fX11_worstPlace pwX11_worstPlace okTX11 dX11_wrong_53 ww1058 rfl (fun s4 => ?_)
      exact (g_vret dX11_wrong_56)
noncomputable def pX11_goesOn (σ : gS) : Option (gS) := if (σ.1 0 11) = (400 : Int32) then bn1 (pX11_fail (2 : Int32) σ) (fun s2 => some s2) else lt' (wI σ 0 11 ((σ.1 0 11) + (1 : Int32))) (fun s3 => some s3)
set_option maxRecDepth 100000 in
theorem cn_X11_goesOn {G : gG} {b : Nat}  {σ : gS} : CN vR G b 2 yX11_goesOn cX11_goesOn 1 none kV [.ref (b + 0)] σ (pX11_goesOn σ) := by
  refine cn_of (own := RX11) rfl rfl (Nat.le_of_ble_eq_true rfl) ?_
  show GF vR G b (2, 0, 0) RX11 cX11_goesOn 1 none kV 0 [(0, .ref (b + 0))] [] σ (pX11_goesOn σ)
  unfold pX11_goesOn
  refine g_aload_n (q := 1) 0 dX11_goesOn_0 rfl rfl rfl ?_
  refine g_getI (q := 4) fX11_t dX11_goesOn_1 ww1053 rfl ?_
  refine g_sipush (q := 7) dX11_goesOn_4 kS_400 rfl ?_
  refine g_icmp_ne (t := 18) (q := 10) dX11_goesOn_7 (by decide) rfl ?_ ?_
  · refine g_aload_n (q := 11) 0 dX11_goesOn_10 rfl rfl rfl ?_
    refine g_iconst (q := 12) dX11_goesOn_11 kI_2 rfl ?_
    refine g_callO (As := [.int (2 : Int32)]) (st := []) (cn_X11_fail) shX11 rfl cwX11_215 rfl dX11_goesOn_12 rfl (Nat.le_of_ble_eq_true rfl) (by decide) (kk_V (fun s2 => ?_))
    refine g_goto (t := 28) dX11_goesOn_15 (by decide) ?_
    exact (g_vret dX11_goesOn_28)
  · refine g_aload_n (q := 19) 0 dX11_goesOn_18 rfl rfl rfl ?_
    refine g_dup (q := 20) dX11_goesOn_19 rfl rfl ?_
    refine g_getI (q := 23) fX11_t dX11_goesOn_20 ww1053 rfl ?_
    refine g_iconst (q := 24) dX11_goesOn_23 kI_1 rfl ?_
    refine g_iadd (q := 25) dX11_goesOn_24 rfl ?_
    refine g_putI (q := 28) fX11_t pwX11_t okTX11 dX11_goesOn_25 ww1053 rfl (fun s3 => ?_)
    exact (g_vret dX11_goesOn_28)
noncomputable def pX11_must (a1 : Int32) (σ : gS) : Option (gS) := bn1 (pX11_is a1 σ) (fun v1 => if v1 = 0 then bn1 (pX11_fail (1 : Int32) σ) (fun s4 => some s4) else bn1 (pX11_goesOn σ) (fun s6 => some s6))
set_option maxRecDepth 100000 in
theorem cn_X11_must {G : gG} {b : Nat} {a1 : Int32} {σ : gS} : CN vR G b 3 yX11_must cX11_must 2 none kV [.ref (b + 0), .int a1] σ (pX11_must a1 σ) := by
  refine cn_of (own := RX11) rfl rfl (Nat.le_of_ble_eq_true rfl) ?_
  show GF vR G b (3, 0, 0) RX11 cX11_must 2 none kV 0 [(0, .ref (b + 0)), (1, .int a1)] [] σ (pX11_must a1 σ)
  unfold pX11_must
  refine g_aload_n (q := 1) 0 dX11_must_0 rfl rfl rfl ?_
  refine g_iload_n (q := 2) 1 dX11_must_1 rfl rfl rfl ?_
  refine g_callO (As := [.int a1]) (st := []) (cn_X11_is) shX11 rfl cwX11_218 rfl dX11_must_2 rfl (Nat.le_of_ble_eq_true rfl) (by decide) (kk_PI (fun v1 => ?_))
  refine g_if_eq (t := 15) (q := 8) dX11_must_5 (by decide) rfl ?_ ?_
  · refine g_aload_n (q := 16) 0 dX11_must_15 rfl rfl rfl ?_
    refine g_iconst (q := 17) dX11_must_16 kI_1 rfl ?_
    refine g_callO (As := [.int (1 : Int32)]) (st := []) (cn_X11_fail) shX11 rfl cwX11_215 rfl dX11_must_17 rfl (Nat.le_of_ble_eq_true rfl) (by decide) (kk_V (fun s4 => ?_))
    exact (g_vret dX11_must_20)
  · refine g_aload_n (q := 9) 0 dX11_must_8 rfl rfl rfl ?_
    refine g_callO (As := []) (st := []) (cn_X11_goesOn) shX11 rfl cwX11_221 rfl dX11_must_9 rfl (Nat.le_of_ble_eq_true rfl) (by decide) (kk_V (fun s6 => ?_))
    refine g_goto (t := 20) dX11_must_12 (by decide) ?_
    exact (g_vret dX11_must_20)
noncomputable def pX11_knows (a1 : Int32) (a2 : Int32) (a3 : Int32) (σ : gS) : Option (gS) := gx a1 403 (gx (σ.1 0 20) 40 (lt' (wL σ 8 (σ.1 0 20).toNatClampNeg (σ.2.1 6 a1.toNatClampNeg)) (fun s1 => gx (s1.1 0 20) 40 (lt' (wI s1 9 (s1.1 0 20).toNatClampNeg a2) (fun s2 => gx (s2.1 0 20) 40 (lt' (wI s2 10 (s2.1 0 20).toNatClampNeg a3) (fun s3 => lt' (wI s3 0 20 ((s3.1 0 20) + (1 : Int32))) (fun s4 => some s4))))))))
set_option maxRecDepth 100000 in
theorem cn_X11_knows {G : gG} {b : Nat} {a1 : Int32} {a2 : Int32} {a3 : Int32} {σ : gS} : CN vR G b 1 yX11_knows cX11_knows 4 none kV [.ref (b + 0), .int a1, .int a2, .int a3] σ (pX11_knows a1 a2 a3 σ) := by
  refine cn_of (own := RX11) rfl rfl (Nat.le_of_ble_eq_true rfl) ?_
  show GF vR G b (1, 0, 0) RX11 cX11_knows 4 none kV 0 [(0, .ref (b + 0)), (1, .int a1), (2, .int a2), (3, .int a3)] [] σ (pX11_knows a1 a2 a3 σ)
  unfold pX11_knows
  refine g_aload_n (q := 1) 0 dX11_knows_0 rfl rfl rfl ?_
  refine g_getA (q := 4) fX11_nameOf dX11_knows_1 ww1063 rfl ?_
  refine g_aload_n (q := 5) 0 dX11_knows_4 rfl rfl rfl ?_
  refine g_getI (q := 8) fX11_names dX11_knows_5 ww1062 rfl ?_
  refine g_aload_n (q := 9) 0 dX11_knows_8 rfl rfl rfl ?_
  refine g_getA (q := 12) fX11_tName dX11_knows_9 ww1050 rfl ?_
  refine g_iload_n (q := 13) 1 dX11_knows_12 rfl rfl rfl ?_
  refine g_lald (q := 14) (aX11_tName) dX11_knows_13 rfl ?_
  refine g_last (q := 15) (aX11_nameOf) dX11_knows_14 rfl (fun s1 => ?_)
  refine g_aload_n (q := 16) 0 dX11_knows_15 rfl rfl rfl ?_
  refine g_getA (q := 19) fX11_nameSort dX11_knows_16 ww1064 rfl ?_
  refine g_aload_n (q := 20) 0 dX11_knows_19 rfl rfl rfl ?_
  refine g_getI (q := 23) fX11_names dX11_knows_20 ww1062 rfl ?_
  refine g_iload_n (q := 24) 2 dX11_knows_23 rfl rfl rfl ?_
  refine g_iast (q := 25) (aX11_nameSort) dX11_knows_24 rfl (fun s2 => ?_)
  refine g_aload_n (q := 26) 0 dX11_knows_25 rfl rfl rfl ?_
  refine g_getA (q := 29) fX11_nameAt dX11_knows_26 ww1065 rfl ?_
  refine g_aload_n (q := 30) 0 dX11_knows_29 rfl rfl rfl ?_
  refine g_getI (q := 33) fX11_names dX11_knows_30 ww1062 rfl ?_
  refine g_iload_n (q := 34) 3 dX11_knows_33 rfl rfl rfl ?_
  refine g_iast (q := 35) (aX11_nameAt) dX11_knows_34 rfl (fun s3 => ?_)
  refine g_aload_n (q := 36) 0 dX11_knows_35 rfl rfl rfl ?_
  refine g_dup (q := 37) dX11_knows_36 rfl rfl ?_
  refine g_getI (q := 40) fX11_names dX11_knows_37 ww1062 rfl ?_
  refine g_iconst (q := 41) dX11_knows_40 kI_1 rfl ?_
  refine g_iadd (q := 42) dX11_knows_41 rfl ?_
  refine g_putI (q := 45) fX11_names pwX11_names okTX11 dX11_knows_42 ww1062 rfl (fun s4 => ?_)
  exact (g_vret dX11_knows_45)
noncomputable def pX11_named (σ : gS) : Option (Int32 × gS) := lt' (σ.1 0 11) (fun x1 => bn1 (pX11_must (1 : Int32) σ) (fun s3 => bn1 (lpP (fun (z5 : (Int32 × gS)) => if (z5.2.1 0 20) ≤ z5.1 then some (.inr z5.2) else if (z5.2.1 0 13) = 0 then gx z5.1 40 (gx x1 403 (if (lg_cmp (z5.2.2.1 8 z5.1.toNatClampNeg) (z5.2.2.1 6 x1.toNatClampNeg)) = 0 then bn1 (pX11_wrong (3 : Int32) x1 z5.2) (fun s7 => lt' (z5.1 + (1 : Int32)) (fun x8 => some (.inl (x8, s7)))) else lt' (z5.1 + (1 : Int32)) (fun x9 => some (.inl (x9, z5.2))))) else some (.inr z5.2)) ((0 : Int32), s3)) (fun (z4 : gS) => some (x1, z4))))
set_option maxRecDepth 100000 in
theorem cn_X11_named {G : gG} {b : Nat}  {σ : gS} : CN vR G b 4 yX11_named cX11_named 3 (some .int) kI [.ref (b + 0)] σ (pX11_named σ) := by
  refine cn_of (own := RX11) rfl rfl (Nat.le_of_ble_eq_true rfl) ?_
  show GF vR G b (4, 0, 0) RX11 cX11_named 3 (some .int) kI 0 [(0, .ref (b + 0))] [] σ (pX11_named σ)
  unfold pX11_named
  refine g_aload_n (q := 1) 0 dX11_named_0 rfl rfl rfl ?_
  refine g_getI (q := 4) fX11_t dX11_named_1 ww1053 rfl ?_
  refine g_leti (fun x1 => ?_)
  refine g_istore_n (lr := [(0, .ref (b + 0))]) (q := 5) dX11_named_4 rfl (by decide) rfl rfl ?_
  refine g_aload_n (q := 6) 1 dX11_named_5 rfl rfl rfl ?_
  refine g_iconst (q := 7) dX11_named_6 kI_1 rfl ?_
  refine g_callO (As := [.int (1 : Int32)]) (st := []) (cn_X11_must) shX11 rfl cwX11_263 rfl dX11_named_7 rfl (Nat.le_of_ble_eq_true rfl) (by decide) (kk_V (fun s3 => ?_))
  refine g_iconst (q := 11) dX11_named_10 kI_0 rfl ?_
  refine g_istore_n (lr := [(1, .int x1), (0, .ref (b + 0))]) (q := 12) dX11_named_11 rfl (by decide) rfl rfl ?_
  refine g_bind (S := gS) (hd := 55) (lvf := fun z4 => [(1, .int x1)]) (stf := fun z4 => []) (σf := fun z4 => z4) ?_ (fun z4 => ?_)
  · refine g_loop (S := (Int32 × gS)) (lvf := fun z5 => [(2, .int z5.1), (1, .int x1), (0, .ref (b + 0))]) (σf := fun z5 => z5.2) (fun z5 => ?_) ((0 : Int32), s3)
    refine g_iload_n (q := 13) 0 dX11_named_12 rfl rfl rfl ?_
    refine g_aload_n (q := 14) 2 dX11_named_13 rfl rfl rfl ?_
    refine g_getI (q := 17) fX11_names dX11_named_14 ww1062 rfl ?_
    refine g_icmp_ge (t := 55) (q := 20) dX11_named_17 (by decide) rfl ?_ ?_
    · refine g_sub (lr := [(1, .int x1)]) [1] rfl ?_
      exact (g_leave (g_there (z5.2 : gS)))
    · refine g_aload_n (q := 21) 2 dX11_named_20 rfl rfl rfl ?_
      refine g_getI (q := 24) fX11_fault dX11_named_21 ww1055 rfl ?_
      refine g_if_ne (t := 55) (q := 27) dX11_named_24 (by decide) rfl ?_ ?_
      · refine g_aload_n (q := 28) 2 dX11_named_27 rfl rfl rfl ?_
        refine g_getA (q := 31) fX11_nameOf dX11_named_28 ww1063 rfl ?_
        refine g_iload_n (q := 32) 0 dX11_named_31 rfl rfl rfl ?_
        refine g_lald (q := 33) (aX11_nameOf) dX11_named_32 rfl ?_
        refine g_aload_n (q := 34) 2 dX11_named_33 rfl rfl rfl ?_
        refine g_getA (q := 37) fX11_tName dX11_named_34 ww1050 rfl ?_
        refine g_iload_n (q := 38) 1 dX11_named_37 rfl rfl rfl ?_
        refine g_lald (q := 39) (aX11_tName) dX11_named_38 rfl ?_
        refine g_lcmp (q := 40) dX11_named_39 rfl ?_
        refine g_if_ne (t := 49) (q := 43) dX11_named_40 (by decide) rfl ?_ ?_
        · refine g_aload_n (q := 44) 2 dX11_named_43 rfl rfl rfl ?_
          refine g_iconst (q := 45) dX11_named_44 kI_3 rfl ?_
          refine g_iload_n (q := 46) 1 dX11_named_45 rfl rfl rfl ?_
          refine g_callO (As := [.int (3 : Int32), .int x1]) (st := []) (cn_X11_wrong) shX11 rfl cwX11_266 rfl dX11_named_46 rfl (Nat.le_of_ble_eq_true rfl) (by decide) (kk_V (fun s7 => ?_))
          refine g_iinc (lr := [(1, .int x1), (0, .ref (b + 0))]) (q := 52) 0 dX11_named_49 rfl kI_1 (by decide) rfl rfl (fun x8 => ?_)
          refine g_goto (t := 12) dX11_named_52 (by decide) ?_
          exact (g_again ((x8, s7) : (Int32 × gS)))
        · refine g_iinc (lr := [(1, .int x1), (0, .ref (b + 0))]) (q := 52) 0 dX11_named_49 rfl kI_1 (by decide) rfl rfl (fun x9 => ?_)
          refine g_goto (t := 12) dX11_named_52 (by decide) ?_
          exact (g_again ((x9, z5.2) : (Int32 × gS)))
      · refine g_sub (lr := [(1, .int x1)]) [1] rfl ?_
        exact (g_leave (g_there (z5.2 : gS)))
  · refine g_iload_n (q := 56) 0 dX11_named_55 rfl rfl rfl ?_
    exact (g_iret dX11_named_56)
noncomputable def pX11_tellBook (σ : gS) : Option (gS) := bn1 (pX11_goesOn σ) (fun s2 => bn2 (pX11_named s2) (fun v3 s4 => bn1 (pX11_must (4 : Int32) s4) (fun s6 => if (s6.1 0 13) ≤ 0 then gx (s6.1 0 19) 2 (bn1 (pX11_knows v3 (2 : Int32) (s6.1 13 (s6.1 0 19).toNatClampNeg) s6) (fun s8 => gx (s8.1 0 19) 2 (gx (s8.1 0 19) 2 (lt' (wI s8 13 (s8.1 0 19).toNatClampNeg ((s8.1 13 (s8.1 0 19).toNatClampNeg) + (1 : Int32))) (fun s9 => some s9))))) else some s6)))
set_option maxRecDepth 100000 in
theorem cn_X11_tellBook {G : gG} {b : Nat}  {σ : gS} : CN vR G b 5 yX11_tellBook cX11_tellBook 2 none kV [.ref (b + 0)] σ (pX11_tellBook σ) := by
  refine cn_of (own := RX11) rfl rfl (Nat.le_of_ble_eq_true rfl) ?_
  show GF vR G b (5, 0, 0) RX11 cX11_tellBook 2 none kV 0 [(0, .ref (b + 0))] [] σ (pX11_tellBook σ)
  unfold pX11_tellBook
  refine g_aload_n (q := 1) 0 dX11_tellBook_0 rfl rfl rfl ?_
  refine g_callO (As := []) (st := []) (cn_X11_goesOn) shX11 rfl cwX11_221 rfl dX11_tellBook_1 rfl (Nat.le_of_ble_eq_true rfl) (by decide) (kk_V (fun s2 => ?_))
  refine g_aload_n (q := 5) 0 dX11_tellBook_4 rfl rfl rfl ?_
  refine g_callO (As := []) (st := []) (cn_X11_named) shX11 rfl cwX11_274 rfl dX11_tellBook_5 rfl (Nat.le_of_ble_eq_true rfl) (by decide) (kk_I (fun v3 s4 => ?_))
  refine g_istore_n (lr := [(0, .ref (b + 0))]) (q := 9) dX11_tellBook_8 rfl (by decide) rfl rfl ?_
  refine g_aload_n (q := 10) 1 dX11_tellBook_9 rfl rfl rfl ?_
  refine g_iconst (q := 11) dX11_tellBook_10 kI_4 rfl ?_
  refine g_callO (As := [.int (4 : Int32)]) (st := []) (cn_X11_must) shX11 rfl cwX11_263 rfl dX11_tellBook_11 rfl (Nat.le_of_ble_eq_true rfl) (by decide) (kk_V (fun s6 => ?_))
  refine g_aload_n (q := 15) 1 dX11_tellBook_14 rfl rfl rfl ?_
  refine g_getI (q := 18) fX11_fault dX11_tellBook_15 ww1055 rfl ?_
  refine g_if_le (t := 22) (q := 21) dX11_tellBook_18 (by decide) rfl ?_ ?_
  · refine g_aload_n (q := 23) 1 dX11_tellBook_22 rfl rfl rfl ?_
    refine g_iload_n (q := 24) 0 dX11_tellBook_23 rfl rfl rfl ?_
    refine g_iconst (q := 25) dX11_tellBook_24 kI_2 rfl ?_
    refine g_aload_n (q := 26) 1 dX11_tellBook_25 rfl rfl rfl ?_
    refine g_getA (q := 29) fX11_books dX11_tellBook_26 ww1068 rfl ?_
    refine g_aload_n (q := 30) 1 dX11_tellBook_29 rfl rfl rfl ?_
    refine g_getI (q := 33) fX11_side dX11_tellBook_30 ww1061 rfl ?_
    refine g_iald (q := 34) (aX11_books) dX11_tellBook_33 rfl ?_
    refine g_callO (As := [.int v3, .int (2 : Int32), .int (s6.1 13 (s6.1 0 19).toNatClampNeg)]) (st := []) (cn_X11_knows) shX11 rfl cwX11_281 rfl dX11_tellBook_34 rfl (Nat.le_of_ble_eq_true rfl) (by decide) (kk_V (fun s8 => ?_))
    refine g_aload_n (q := 38) 1 dX11_tellBook_37 rfl rfl rfl ?_
    refine g_getA (q := 41) fX11_books dX11_tellBook_38 ww1068 rfl ?_
    refine g_aload_n (q := 42) 1 dX11_tellBook_41 rfl rfl rfl ?_
    refine g_getI (q := 45) fX11_side dX11_tellBook_42 ww1061 rfl ?_
    refine g_dup2 (q := 46) dX11_tellBook_45 rfl rfl rfl ?_
    refine g_iald (q := 47) (aX11_books) dX11_tellBook_46 rfl ?_
    refine g_iconst (q := 48) dX11_tellBook_47 kI_1 rfl ?_
    refine g_iadd (q := 49) dX11_tellBook_48 rfl ?_
    refine g_iast (q := 50) (aX11_books) dX11_tellBook_49 rfl (fun s9 => ?_)
    exact (g_vret dX11_tellBook_50)
  · exact (g_vret dX11_tellBook_21)
noncomputable def pX11_emit (a1 : Int32) (a2 : Int32) (σ : gS) : Option (gS) := gx (σ.1 0 44) 840 (lt' (wI σ 30 (σ.1 0 44).toNatClampNeg a1) (fun s1 => gx (s1.1 0 44) 840 (lt' (wI s1 31 (s1.1 0 44).toNatClampNeg a2) (fun s2 => lt' (wI s2 0 44 ((s2.1 0 44) + (1 : Int32))) (fun s3 => some s3)))))
set_option maxRecDepth 100000 in
theorem cn_X11_emit {G : gG} {b : Nat} {a1 : Int32} {a2 : Int32} {σ : gS} : CN vR G b 1 yX11_emit cX11_emit 3 none kV [.ref (b + 0), .int a1, .int a2] σ (pX11_emit a1 a2 σ) := by
  refine cn_of (own := RX11) rfl rfl (Nat.le_of_ble_eq_true rfl) ?_
  show GF vR G b (1, 0, 0) RX11 cX11_emit 3 none kV 0 [(0, .ref (b + 0)), (1, .int a1), (2, .int a2)] [] σ (pX11_emit a1 a2 σ)
  unfold pX11_emit
  refine g_aload_n (q := 1) 0 dX11_emit_0 rfl rfl rfl ?_
  refine g_getA (q := 4) fX11_code dX11_emit_1 ww1087 rfl ?_
  refine g_aload_n (q := 5) 0 dX11_emit_4 rfl rfl rfl ?_
  refine g_getI (q := 8) fX11_codes dX11_emit_5 ww1086 rfl ?_
  refine g_iload_n (q := 9) 1 dX11_emit_8 rfl rfl rfl ?_
  refine g_iast (q := 10) (aX11_code) dX11_emit_9 rfl (fun s1 => ?_)
  refine g_aload_n (q := 11) 0 dX11_emit_10 rfl rfl rfl ?_
  refine g_getA (q := 14) fX11_codeInt dX11_emit_11 ww1088 rfl ?_
  refine g_aload_n (q := 15) 0 dX11_emit_14 rfl rfl rfl ?_
  refine g_getI (q := 18) fX11_codes dX11_emit_15 ww1086 rfl ?_
  refine g_iload_n (q := 19) 2 dX11_emit_18 rfl rfl rfl ?_
  refine g_iast (q := 20) (aX11_codeInt) dX11_emit_19 rfl (fun s2 => ?_)
  refine g_aload_n (q := 21) 0 dX11_emit_20 rfl rfl rfl ?_
  refine g_dup (q := 22) dX11_emit_21 rfl rfl ?_
  refine g_getI (q := 25) fX11_codes dX11_emit_22 ww1086 rfl ?_
  refine g_iconst (q := 26) dX11_emit_25 kI_1 rfl ?_
  refine g_iadd (q := 27) dX11_emit_26 rfl ?_
  refine g_putI (q := 30) fX11_codes pwX11_codes okTX11 dX11_emit_27 ww1086 rfl (fun s3 => ?_)
  exact (g_vret dX11_emit_30)
noncomputable def pX11_comesOut (a1 : Int32) (σ : gS) : Option (gS) := bnS (lpP (fun (z2 : gS) => if (z2.1 0 48) ≤ 0 then some (.inr (.inl z2)) else gx ((z2.1 0 48) - (1 : Int32)) 64 (lt' (z2.1 32 ((z2.1 0 48) - (1 : Int32)).toNatClampNeg) (fun x3 => if x3 = (6 : Int32) then some (.inr (.inr z2)) else bnS (if a1 = 0 then some (.inl ()) else if x3 = (8 : Int32) then some (.inr (.inr (.inr z2))) else if x3 = (9 : Int32) then some (.inr (.inr (.inr z2))) else some (.inl ())) (fun (z4 : Unit) => lt' (wI z2 0 48 ((z2.1 0 48) - (1 : Int32))) (fun s5 => if x3 = (8 : Int32) then bn1 (pX11_emit (2 : Int32) (0 : Int32) s5) (fun s7 => some (.inl s7)) else if x3 = (9 : Int32) then bn1 (pX11_emit (3 : Int32) (0 : Int32) s5) (fun s9 => some (.inl s9)) else bn1 (pX11_emit (4 : Int32) (0 : Int32) s5) (fun s11 => some (.inl s11))))))) σ) (fun (z1 : gS) => some z1)
set_option maxRecDepth 100000 in
theorem cn_X11_comesOut {G : gG} {b : Nat} {a1 : Int32} {σ : gS} : CN vR G b 2 yX11_comesOut cX11_comesOut 3 none kV [.ref (b + 0), .int a1] σ (pX11_comesOut a1 σ) := by
  refine cn_of (own := RX11) rfl rfl (Nat.le_of_ble_eq_true rfl) ?_
  show GF vR G b (2, 0, 0) RX11 cX11_comesOut 3 none kV 0 [(0, .ref (b + 0)), (1, .int a1)] [] σ (pX11_comesOut a1 σ)
  unfold pX11_comesOut
  refine g_bindS (S := gS) (hd := 81) (lvf := fun z1 => []) (stf := fun z1 => []) (σf := fun z1 => z1) ?_ (fun z1 => ?_)
  · refine g_loop (S := gS) (lvf := fun z2 => [(0, .ref (b + 0)), (1, .int a1)]) (σf := fun z2 => z2) (fun z2 => ?_) σ
    refine g_aload_n (q := 1) 0 dX11_comesOut_0 rfl rfl rfl ?_
    refine g_getI (q := 4) fX11_waiting dX11_comesOut_1 ww1090 rfl ?_
    refine g_if_le (t := 81) (q := 7) dX11_comesOut_4 (by decide) rfl ?_ ?_
    · refine g_sub (lr := []) [] rfl ?_
      exact (g_leave (g_thereS (z2 : gS)))
    · refine g_aload_n (q := 8) 0 dX11_comesOut_7 rfl rfl rfl ?_
      refine g_getA (q := 11) fX11_waits dX11_comesOut_8 ww1089 rfl ?_
      refine g_aload_n (q := 12) 0 dX11_comesOut_11 rfl rfl rfl ?_
      refine g_getI (q := 15) fX11_waiting dX11_comesOut_12 ww1090 rfl ?_
      refine g_iconst (q := 16) dX11_comesOut_15 kI_1 rfl ?_
      refine g_isub (q := 17) dX11_comesOut_16 rfl ?_
      refine g_iald (q := 18) (aX11_waits) dX11_comesOut_17 rfl ?_
      refine g_leti (fun x3 => ?_)
      refine g_istore_n (lr := [(0, .ref (b + 0)), (1, .int a1)]) (q := 19) dX11_comesOut_18 rfl (by decide) rfl rfl ?_
      refine g_iload_n (q := 20) 0 dX11_comesOut_19 rfl rfl rfl ?_
      refine g_bipush (q := 22) dX11_comesOut_20 kB_6 rfl ?_
      refine g_icmp_eq (t := 41) (q := 25) dX11_comesOut_22 (by decide) rfl ?_ ?_
      · exact (g_leave (g_right (g_vret dX11_comesOut_41)))
      · refine g_iload_n (q := 26) 2 dX11_comesOut_25 rfl rfl rfl ?_
        refine g_bindS (S := Unit) (hd := 42) (lvf := fun z4 => [(2, .int x3), (0, .ref (b + 0)), (1, .int a1)]) (stf := fun z4 => []) (σf := fun z4 => z2) ?_ (fun z4 => ?_)
        · refine g_if_eq (t := 42) (q := 29) dX11_comesOut_26 (by decide) rfl ?_ ?_
          · exact (g_thereS (() : Unit))
          · refine g_iload_n (q := 30) 0 dX11_comesOut_29 rfl rfl rfl ?_
            refine g_bipush (q := 32) dX11_comesOut_30 kB_8 rfl ?_
            refine g_icmp_eq (t := 41) (q := 35) dX11_comesOut_32 (by decide) rfl ?_ ?_
            · exact (g_right (g_leave (g_right (g_vret dX11_comesOut_41))))
            · refine g_iload_n (q := 36) 0 dX11_comesOut_35 rfl rfl rfl ?_
              refine g_bipush (q := 38) dX11_comesOut_36 kB_9 rfl ?_
              refine g_icmp_ne (t := 42) (q := 41) dX11_comesOut_38 (by decide) rfl ?_ ?_
              · exact (g_right (g_leave (g_right (g_vret dX11_comesOut_41))))
              · exact (g_thereS (() : Unit))
        · refine g_aload_n (q := 43) 1 dX11_comesOut_42 rfl rfl rfl ?_
          refine g_dup (q := 44) dX11_comesOut_43 rfl rfl ?_
          refine g_getI (q := 47) fX11_waiting dX11_comesOut_44 ww1090 rfl ?_
          refine g_iconst (q := 48) dX11_comesOut_47 kI_1 rfl ?_
          refine g_isub (q := 49) dX11_comesOut_48 rfl ?_
          refine g_putI (q := 52) fX11_waiting pwX11_waiting okTX11 dX11_comesOut_49 ww1090 rfl (fun s5 => ?_)
          refine g_aload_n (q := 53) 1 dX11_comesOut_52 rfl rfl rfl ?_
          refine g_iload_n (q := 54) 0 dX11_comesOut_53 rfl rfl rfl ?_
          refine g_bipush (q := 56) dX11_comesOut_54 kB_8 rfl ?_
          refine g_icmp_ne (t := 63) (q := 59) dX11_comesOut_56 (by decide) rfl ?_ ?_
          · refine g_iconst (q := 60) dX11_comesOut_59 kI_2 rfl ?_
            refine g_goto (t := 74) dX11_comesOut_60 (by decide) ?_
            refine g_iconst (q := 75) dX11_comesOut_74 kI_0 rfl ?_
            refine g_callO (As := [.int (2 : Int32), .int (0 : Int32)]) (st := []) (cn_X11_emit) shX11 rfl cwX11_294 rfl dX11_comesOut_75 rfl (Nat.le_of_ble_eq_true rfl) (by decide) (kk_V (fun s7 => ?_))
            refine g_goto (t := 0) dX11_comesOut_78 (by decide) ?_
            refine g_sub (lr := [(0, .ref (b + 0)), (1, .int a1)]) [1, 2] rfl ?_
            exact (g_again (s7 : gS))
          · refine g_iload_n (q := 64) 0 dX11_comesOut_63 rfl rfl rfl ?_
            refine g_bipush (q := 66) dX11_comesOut_64 kB_9 rfl ?_
            refine g_icmp_ne (t := 73) (q := 69) dX11_comesOut_66 (by decide) rfl ?_ ?_
            · refine g_iconst (q := 70) dX11_comesOut_69 kI_3 rfl ?_
              refine g_goto (t := 74) dX11_comesOut_70 (by decide) ?_
              refine g_iconst (q := 75) dX11_comesOut_74 kI_0 rfl ?_
              refine g_callO (As := [.int (3 : Int32), .int (0 : Int32)]) (st := []) (cn_X11_emit) shX11 rfl cwX11_294 rfl dX11_comesOut_75 rfl (Nat.le_of_ble_eq_true rfl) (by decide) (kk_V (fun s9 => ?_))
              refine g_goto (t := 0) dX11_comesOut_78 (by decide) ?_
              refine g_sub (lr := [(0, .ref (b + 0)), (1, .int a1)]) [1, 2] rfl ?_
              exact (g_again (s9 : gS))
            · refine g_iconst (q := 74) dX11_comesOut_73 kI_4 rfl ?_
              refine g_iconst (q := 75) dX11_comesOut_74 kI_0 rfl ?_
              refine g_callO (As := [.int (4 : Int32), .int (0 : Int32)]) (st := []) (cn_X11_emit) shX11 rfl cwX11_294 rfl dX11_comesOut_75 rfl (Nat.le_of_ble_eq_true rfl) (by decide) (kk_V (fun s11 => ?_))
              refine g_goto (t := 0) dX11_comesOut_78 (by decide) ?_
              refine g_sub (lr := [(0, .ref (b + 0)), (1, .int a1)]) [1, 2] rfl ?_
              exact (g_again (s11 : gS))
  · exact (g_vret dX11_comesOut_81)
