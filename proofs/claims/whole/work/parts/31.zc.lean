theorem kB_101 : (Int8.ofInt (101)).toInt32 = (101 : Int32) := by decide
theorem kB_102 : (Int8.ofInt (102)).toInt32 = (102 : Int32) := by decide
theorem kB_103 : (Int8.ofInt (103)).toInt32 = (103 : Int32) := by decide
theorem kB_104 : (Int8.ofInt (104)).toInt32 = (104 : Int32) := by decide
theorem kB_105 : (Int8.ofInt (105)).toInt32 = (105 : Int32) := by decide
theorem kB_107 : (Int8.ofInt (107)).toInt32 = (107 : Int32) := by decide
theorem kB_108 : (Int8.ofInt (108)).toInt32 = (108 : Int32) := by decide
theorem kB_109 : (Int8.ofInt (109)).toInt32 = (109 : Int32) := by decide
theorem kB_110 : (Int8.ofInt (110)).toInt32 = (110 : Int32) := by decide
theorem kB_111 : (Int8.ofInt (111)).toInt32 = (111 : Int32) := by decide
theorem kB_112 : (Int8.ofInt (112)).toInt32 = (112 : Int32) := by decide
theorem kB_114 : (Int8.ofInt (114)).toInt32 = (114 : Int32) := by decide
theorem kB_115 : (Int8.ofInt (115)).toInt32 = (115 : Int32) := by decide
theorem kB_116 : (Int8.ofInt (116)).toInt32 = (116 : Int32) := by decide
theorem kB_117 : (Int8.ofInt (117)).toInt32 = (117 : Int32) := by decide
theorem kB_119 : (Int8.ofInt (119)).toInt32 = (119 : Int32) := by decide
theorem kB_121 : (Int8.ofInt (121)).toInt32 = (121 : Int32) := by decide
theorem kB_18 : (Int8.ofInt (18)).toInt32 = (18 : Int32) := by decide
theorem kB_98 : (Int8.ofInt (98)).toInt32 = (98 : Int32) := by decide
theorem kB_99 : (Int8.ofInt (99)).toInt32 = (99 : Int32) := by decide
theorem ww57 : (Cond.methodLink "SkyTrial$Tokens" (31 : Nat) ({ cls := "java/lang/String", name := "length", desc := "()I" } : Jvm.MethodName)) ∈ gTBL := tIn1 57 (by decide +kernel) rfl
theorem ww58 : (Cond.instanceMethod ({ cls := "java/lang/String", name := "length", desc := "()I" } : Jvm.MethodName)) ∈ gTBL := tIn1 58 (by decide +kernel) rfl
theorem ww59 : (Cond.selects "java/lang/String" ({ cls := "java/lang/String", name := "length", desc := "()I" } : Jvm.MethodName) ({ cls := "java/lang/String", name := "length", desc := "()I" } : Jvm.MethodName)) ∈ gTBL := tIn1 59 (by decide +kernel) rfl
theorem ww60 : (Cond.code ({ cls := "java/lang/String", name := "length", desc := "()I" } : Jvm.MethodName) prog_17_method_54_code (1 : Nat) (Option.some Jvm.ClassFile.FieldType.int)) ∈ gTBL := tIn1 60 (by decide +kernel) rfl
theorem ww67 : (Cond.methodLink "SkyTrial$Tokens" (37 : Nat) ({ cls := "java/lang/String", name := "charAt", desc := "(I)C" } : Jvm.MethodName)) ∈ gTBL := tIn1 67 (by decide +kernel) rfl
theorem ww68 : (Cond.instanceMethod ({ cls := "java/lang/String", name := "charAt", desc := "(I)C" } : Jvm.MethodName)) ∈ gTBL := tIn1 68 (by decide +kernel) rfl
theorem ww69 : (Cond.selects "java/lang/String" ({ cls := "java/lang/String", name := "charAt", desc := "(I)C" } : Jvm.MethodName) ({ cls := "java/lang/String", name := "charAt", desc := "(I)C" } : Jvm.MethodName)) ∈ gTBL := tIn1 69 (by decide +kernel) rfl
theorem ww70 : (Cond.code ({ cls := "java/lang/String", name := "charAt", desc := "(I)C" } : Jvm.MethodName) prog_17_method_56_code (2 : Nat) (Option.some Jvm.ClassFile.FieldType.char)) ∈ gTBL := tIn1 70 (by decide +kernel) rfl
theorem ww1036 : (Cond.methodLink "SkyTrialModel" (158 : Nat) ({ cls := "SkyTrialModel", name := "word", desc := "(IIIIIII)J" } : Jvm.MethodName)) ∈ gTBL := tIn5 76 (by decide +kernel) rfl
theorem ww1037 : (Cond.static ({ cls := "SkyTrialModel", name := "word", desc := "(IIIIIII)J" } : Jvm.MethodName)) ∈ gTBL := tIn5 77 (by decide +kernel) rfl
theorem ww1038 : (Cond.code ({ cls := "SkyTrialModel", name := "word", desc := "(IIIIIII)J" } : Jvm.MethodName) prog_13_method_10_code (7 : Nat) (Option.some Jvm.ClassFile.FieldType.long)) ∈ gTBL := tIn5 78 (by decide +kernel) rfl
theorem cwX11_158 : cwT RX11 158 yX11_word cX11_word 7 (some .long) 7 := ⟨⟨ww1036, ww1037, ww16, ww1038⟩, by decide, by decide, rfl⟩
theorem cwX8_31 : cwO RX8 31 yJ0_length_8abf5 cJ0_length_8abf5 1 (some .int) 0 := ⟨⟨ww57, ww58, ww59, ww5, ww60⟩, by decide, by decide, rfl⟩
theorem cwX8_37 : cwO RX8 37 yJ0_charAt_5068e cJ0_charAt_5068e 2 (some .char) 1 := ⟨⟨ww67, ww68, ww69, ww5, ww70⟩, by decide, by decide, rfl⟩
def zF_X6 (G : gG) (b : Nat) : List va_E := .inr (6, [.ref (b + 1), .int (0 : Int32)]) :: ([.inl (G.2.1 0, 2000, .inl (fun _ => 0))])
set_option maxHeartbeats 40000000 in
set_option maxRecDepth 100000 in
theorem cz_X6 {G : gG} {b : Nat} : CZ G b 1 1 2000 yX6_init cX6_init 1 6 [.ref (b + 0)] [.null, .int 0] (zF_X6 G b) := by
  refine cz_of (own := RX6) rfl rfl rfl (Nat.le_of_ble_eq_true rfl) ?_
  show Zo G b 1 1 2000 RX6 cX6_init 1 6 (zF_X6 G b) 0 [(0, .ref (b + 0))] [] [.null, .int 0] [] 0 0
  refine z_aload_n (q := 1) 0 dX6_init_0 rfl rfl rfl ?_
  refine z_obj (q := 4) dX6_init_1 zw34 zw27 zw28 (by decide) (Nat.le_of_ble_eq_true rfl) rfl ?_
  refine z_aload_n (q := 5) 0 dX6_init_4 rfl rfl rfl ?_
  refine z_sipush (q := 8) dX6_init_5 (by decide : (Int16.ofInt (2000)).toInt32 = (2000 : Int32)) rfl ?_
  refine z_newa (q := 10) (t := 0) (N := 2000) (x := 1) (a0 := (2000, .inl (fun _ => 0))) dX6_init_8 rfl rfl zw43 (fun _ _ hh => hh) (fun _ => rfl) (by decide) (by decide) (by decide) (by decide) (by decide) rfl rfl rfl ?_
  refine z_putF (q := 13) (k := 0) (ty := .array .int) (fs' := [.ref (b + 1), .int 0]) (Nat.le_of_ble_eq_true rfl) (C := RX6) (T := TX6) (N := 2) hclX6 uwX6 tyX6_ok nmX6 dX6_init_10 zfX6_0 rfl rfl (Nat.le_of_ble_eq_true rfl) rfl rfl ?_
  refine z_aload_n (q := 14) 0 dX6_init_13 rfl rfl rfl ?_
  refine z_iconst (q := 15) dX6_init_14 (by decide : Int32.ofInt (0) = (0 : Int32)) rfl ?_
  refine z_put (q := 18) (k := 1) (ty := .int) (fs' := [.ref (b + 1), .int (0 : Int32)]) (Nat.le_of_ble_eq_true rfl) (C := RX6) (T := TX6) (N := 2) hclX6 uwX6 tyX6_ok nmX6 dX6_init_15 zfX6_1 rfl rfl (Nat.le_of_ble_eq_true rfl) rfl rfl ?_
  exact z_ret dX6_init_18 rfl rfl rfl
def zF_X2 (G : gG) (b : Nat) : List va_E := .inr (2, [.ref (b + 1), .int (0 : Int32)]) :: ([.inl (G.2.1 0, 240, .inl (fun _ => 0))])
set_option maxHeartbeats 40000000 in
set_option maxRecDepth 100000 in
theorem cz_X2 {G : gG} {b : Nat} : CZ G b 1 1 240 yX2_init cX2_init 1 2 [.ref (b + 0)] [.null, .int 0] (zF_X2 G b) := by
  refine cz_of (own := RX2) rfl rfl rfl (Nat.le_of_ble_eq_true rfl) ?_
  show Zo G b 1 1 240 RX2 cX2_init 1 2 (zF_X2 G b) 0 [(0, .ref (b + 0))] [] [.null, .int 0] [] 0 0
  refine z_aload_n (q := 1) 0 dX2_init_0 rfl rfl rfl ?_
  refine z_obj (q := 4) dX2_init_1 zw247 zw27 zw28 (by decide) (Nat.le_of_ble_eq_true rfl) rfl ?_
  refine z_aload_n (q := 5) 0 dX2_init_4 rfl rfl rfl ?_
  refine z_sipush (q := 8) dX2_init_5 (by decide : (Int16.ofInt (240)).toInt32 = (240 : Int32)) rfl ?_
  refine z_newa (q := 10) (t := 0) (N := 240) (x := 1) (a0 := (240, .inl (fun _ => 0))) dX2_init_8 rfl rfl zw43 (fun _ _ hh => hh) (fun _ => rfl) (by decide) (by decide) (by decide) (by decide) (by decide) rfl rfl rfl ?_
  refine z_putF (q := 13) (k := 0) (ty := .array .int) (fs' := [.ref (b + 1), .int 0]) (Nat.le_of_ble_eq_true rfl) (C := RX2) (T := TX2) (N := 2) hclX2 uwX2 tyX2_ok nmX2 dX2_init_10 zfX2_0 rfl rfl (Nat.le_of_ble_eq_true rfl) rfl rfl ?_
  refine z_aload_n (q := 14) 0 dX2_init_13 rfl rfl rfl ?_
  refine z_iconst (q := 15) dX2_init_14 (by decide : Int32.ofInt (0) = (0 : Int32)) rfl ?_
  refine z_put (q := 18) (k := 1) (ty := .int) (fs' := [.ref (b + 1), .int (0 : Int32)]) (Nat.le_of_ble_eq_true rfl) (C := RX2) (T := TX2) (N := 2) hclX2 uwX2 tyX2_ok nmX2 dX2_init_15 zfX2_1 rfl rfl (Nat.le_of_ble_eq_true rfl) rfl rfl ?_
  exact z_ret dX2_init_18 rfl rfl rfl
def zF_X3 (G : gG) (b : Nat) : List va_E := .inr (3, [.ref (b + 1), .ref (b + 2), .int (0 : Int32)]) :: ([.inl (G.2.1 0, 21, .inl (fun _ => 0)), .inl (G.2.1 0, 40, .inl (fun _ => 0))])
set_option maxHeartbeats 40000000 in
set_option maxRecDepth 100000 in
theorem cz_X3 {G : gG} {b : Nat} : CZ G b 1 2 61 yX3_init cX3_init 1 3 [.ref (b + 0)] [.null, .null, .int 0] (zF_X3 G b) := by
  refine cz_of (own := RX3) rfl rfl rfl (Nat.le_of_ble_eq_true rfl) ?_
  show Zo G b 1 2 61 RX3 cX3_init 1 3 (zF_X3 G b) 0 [(0, .ref (b + 0))] [] [.null, .null, .int 0] [] 0 0
  refine z_aload_n (q := 1) 0 dX3_init_0 rfl rfl rfl ?_
  refine z_obj (q := 4) dX3_init_1 zw270 zw27 zw28 (by decide) (Nat.le_of_ble_eq_true rfl) rfl ?_
  refine z_aload_n (q := 5) 0 dX3_init_4 rfl rfl rfl ?_
  refine z_bipush (q := 7) dX3_init_5 (by decide : (Int8.ofInt (21)).toInt32 = (21 : Int32)) rfl ?_
  refine z_newa (q := 9) (t := 0) (N := 21) (x := 1) (a0 := (21, .inl (fun _ => 0))) dX3_init_7 rfl rfl zw43 (fun _ _ hh => hh) (fun _ => rfl) (by decide) (by decide) (by decide) (by decide) (by decide) rfl rfl rfl ?_
  refine z_putF (q := 12) (k := 0) (ty := .array .int) (fs' := [.ref (b + 1), .null, .int 0]) (Nat.le_of_ble_eq_true rfl) (C := RX3) (T := TX3) (N := 3) hclX3 uwX3 tyX3_ok nmX3 dX3_init_9 zfX3_0 rfl rfl (Nat.le_of_ble_eq_true rfl) rfl rfl ?_
  refine z_aload_n (q := 13) 0 dX3_init_12 rfl rfl rfl ?_
  refine z_bipush (q := 15) dX3_init_13 (by decide : (Int8.ofInt (40)).toInt32 = (40 : Int32)) rfl ?_
  refine z_newa (q := 17) (t := 0) (N := 40) (x := 2) (a0 := (40, .inl (fun _ => 0))) dX3_init_15 rfl rfl zw43 (fun _ _ hh => hh) (fun _ => rfl) (by decide) (by decide) (by decide) (by decide) (by decide) rfl rfl rfl ?_
  refine z_putF (q := 20) (k := 1) (ty := .array .int) (fs' := [.ref (b + 1), .ref (b + 2), .int 0]) (Nat.le_of_ble_eq_true rfl) (C := RX3) (T := TX3) (N := 3) hclX3 uwX3 tyX3_ok nmX3 dX3_init_17 zfX3_1 rfl rfl (Nat.le_of_ble_eq_true rfl) rfl rfl ?_
  refine z_aload_n (q := 21) 0 dX3_init_20 rfl rfl rfl ?_
  refine z_iconst (q := 22) dX3_init_21 (by decide : Int32.ofInt (0) = (0 : Int32)) rfl ?_
  refine z_put (q := 25) (k := 2) (ty := .int) (fs' := [.ref (b + 1), .ref (b + 2), .int (0 : Int32)]) (Nat.le_of_ble_eq_true rfl) (C := RX3) (T := TX3) (N := 3) hclX3 uwX3 tyX3_ok nmX3 dX3_init_22 zfX3_2 rfl rfl (Nat.le_of_ble_eq_true rfl) rfl rfl ?_
  exact z_ret dX3_init_25 rfl rfl rfl
def zF_X1 (G : gG) (b : Nat) : List va_E := .inr (1, [.ref (b + 1), .ref (b + 2), .ref (b + 3), .ref (b + 4), .int (0 : Int32)]) :: ([.inl (G.2.1 0, 60, .inl (fun _ => 0)), .inl (G.2.1 0, 60, .inl (fun _ => 0)), .inl (G.2.1 0, 60, .inl (fun _ => 0)), .inl (G.2.1 3, 60, .inl (fun _ => 0))])
set_option maxHeartbeats 40000000 in
set_option maxRecDepth 100000 in
theorem cz_X1 {G : gG} {b : Nat} : CZ G b 1 4 240 yX1_init cX1_init 1 1 [.ref (b + 0)] [.null, .null, .null, .null, .int 0] (zF_X1 G b) := by
  refine cz_of (own := RX1) rfl rfl rfl (Nat.le_of_ble_eq_true rfl) ?_
  show Zo G b 1 4 240 RX1 cX1_init 1 1 (zF_X1 G b) 0 [(0, .ref (b + 0))] [] [.null, .null, .null, .null, .int 0] [] 0 0
  refine z_aload_n (q := 1) 0 dX1_init_0 rfl rfl rfl ?_
  refine z_obj (q := 4) dX1_init_1 zw309 zw27 zw28 (by decide) (Nat.le_of_ble_eq_true rfl) rfl ?_
  refine z_aload_n (q := 5) 0 dX1_init_4 rfl rfl rfl ?_
  refine z_bipush (q := 7) dX1_init_5 (by decide : (Int8.ofInt (60)).toInt32 = (60 : Int32)) rfl ?_
  refine z_newa (q := 9) (t := 0) (N := 60) (x := 1) (a0 := (60, .inl (fun _ => 0))) dX1_init_7 rfl rfl zw43 (fun _ _ hh => hh) (fun _ => rfl) (by decide) (by decide) (by decide) (by decide) (by decide) rfl rfl rfl ?_
  refine z_putF (q := 12) (k := 0) (ty := .array .int) (fs' := [.ref (b + 1), .null, .null, .null, .int 0]) (Nat.le_of_ble_eq_true rfl) (C := RX1) (T := TX1) (N := 5) hclX1 uwX1 tyX1_ok nmX1 dX1_init_9 zfX1_0 rfl rfl (Nat.le_of_ble_eq_true rfl) rfl rfl ?_
  refine z_aload_n (q := 13) 0 dX1_init_12 rfl rfl rfl ?_
  refine z_bipush (q := 15) dX1_init_13 (by decide : (Int8.ofInt (60)).toInt32 = (60 : Int32)) rfl ?_
  refine z_newa (q := 17) (t := 0) (N := 60) (x := 2) (a0 := (60, .inl (fun _ => 0))) dX1_init_15 rfl rfl zw43 (fun _ _ hh => hh) (fun _ => rfl) (by decide) (by decide) (by decide) (by decide) (by decide) rfl rfl rfl ?_
  refine z_putF (q := 20) (k := 1) (ty := .array .int) (fs' := [.ref (b + 1), .ref (b + 2), .null, .null, .int 0]) (Nat.le_of_ble_eq_true rfl) (C := RX1) (T := TX1) (N := 5) hclX1 uwX1 tyX1_ok nmX1 dX1_init_17 zfX1_1 rfl rfl (Nat.le_of_ble_eq_true rfl) rfl rfl ?_
  refine z_aload_n (q := 21) 0 dX1_init_20 rfl rfl rfl ?_
  refine z_bipush (q := 23) dX1_init_21 (by decide : (Int8.ofInt (60)).toInt32 = (60 : Int32)) rfl ?_
  refine z_newa (q := 25) (t := 0) (N := 60) (x := 3) (a0 := (60, .inl (fun _ => 0))) dX1_init_23 rfl rfl zw43 (fun _ _ hh => hh) (fun _ => rfl) (by decide) (by decide) (by decide) (by decide) (by decide) rfl rfl rfl ?_
  refine z_putF (q := 28) (k := 2) (ty := .array .int) (fs' := [.ref (b + 1), .ref (b + 2), .ref (b + 3), .null, .int 0]) (Nat.le_of_ble_eq_true rfl) (C := RX1) (T := TX1) (N := 5) hclX1 uwX1 tyX1_ok nmX1 dX1_init_25 zfX1_2 rfl rfl (Nat.le_of_ble_eq_true rfl) rfl rfl ?_
  refine z_aload_n (q := 29) 0 dX1_init_28 rfl rfl rfl ?_
  refine z_bipush (q := 31) dX1_init_29 (by decide : (Int8.ofInt (60)).toInt32 = (60 : Int32)) rfl ?_
  refine z_newa (q := 33) (t := 3) (N := 60) (x := 4) (a0 := (60, .inl (fun _ => 0))) dX1_init_31 rfl rfl zw328 (fun _ _ hh => hh) (fun _ => rfl) (by decide) (by decide) (by decide) (by decide) (by decide) rfl rfl rfl ?_
  refine z_putF (q := 36) (k := 3) (ty := .array .boolean) (fs' := [.ref (b + 1), .ref (b + 2), .ref (b + 3), .ref (b + 4), .int 0]) (Nat.le_of_ble_eq_true rfl) (C := RX1) (T := TX1) (N := 5) hclX1 uwX1 tyX1_ok nmX1 dX1_init_33 zfX1_3 rfl rfl (Nat.le_of_ble_eq_true rfl) rfl rfl ?_
  refine z_aload_n (q := 37) 0 dX1_init_36 rfl rfl rfl ?_
  refine z_iconst (q := 38) dX1_init_37 (by decide : Int32.ofInt (0) = (0 : Int32)) rfl ?_
  refine z_put (q := 41) (k := 4) (ty := .int) (fs' := [.ref (b + 1), .ref (b + 2), .ref (b + 3), .ref (b + 4), .int (0 : Int32)]) (Nat.le_of_ble_eq_true rfl) (C := RX1) (T := TX1) (N := 5) hclX1 uwX1 tyX1_ok nmX1 dX1_init_38 zfX1_4 rfl rfl (Nat.le_of_ble_eq_true rfl) rfl rfl ?_
  exact z_ret dX1_init_41 rfl rfl rfl
def zF_X5 (G : gG) (b : Nat) : List va_E := .inr (5, [.int (0 : Int32), .int (0 : Int32), .int (0 : Int32), .int (0 : Int32)]) :: ([])
set_option maxHeartbeats 40000000 in
set_option maxRecDepth 100000 in
theorem cz_X5 {G : gG} {b : Nat} : CZ G b 1 0 0 yX5_init cX5_init 1 5 [.ref (b + 0)] [.int 0, .int 0, .int 0, .int 0] (zF_X5 G b) := by
  refine cz_of (own := RX5) rfl rfl rfl (Nat.le_of_ble_eq_true rfl) ?_
  show Zo G b 1 0 0 RX5 cX5_init 1 5 (zF_X5 G b) 0 [(0, .ref (b + 0))] [] [.int 0, .int 0, .int 0, .int 0] [] 0 0
  refine z_aload_n (q := 1) 0 dX5_init_0 rfl rfl rfl ?_
  refine z_obj (q := 4) dX5_init_1 zw356 zw27 zw28 (by decide) (Nat.le_of_ble_eq_true rfl) rfl ?_
  refine z_aload_n (q := 5) 0 dX5_init_4 rfl rfl rfl ?_
  refine z_iconst (q := 6) dX5_init_5 (by decide : Int32.ofInt (0) = (0 : Int32)) rfl ?_
  refine z_put (q := 9) (k := 0) (ty := .int) (fs' := [.int (0 : Int32), .int 0, .int 0, .int 0]) (Nat.le_of_ble_eq_true rfl) (C := RX5) (T := TX5) (N := 4) hclX5 uwX5 tyX5_ok nmX5 dX5_init_6 zfX5_0 rfl rfl (Nat.le_of_ble_eq_true rfl) rfl rfl ?_
  refine z_aload_n (q := 10) 0 dX5_init_9 rfl rfl rfl ?_
  refine z_iconst (q := 11) dX5_init_10 (by decide : Int32.ofInt (0) = (0 : Int32)) rfl ?_
  refine z_put (q := 14) (k := 1) (ty := .int) (fs' := [.int (0 : Int32), .int (0 : Int32), .int 0, .int 0]) (Nat.le_of_ble_eq_true rfl) (C := RX5) (T := TX5) (N := 4) hclX5 uwX5 tyX5_ok nmX5 dX5_init_11 zfX5_1 rfl rfl (Nat.le_of_ble_eq_true rfl) rfl rfl ?_
  refine z_aload_n (q := 15) 0 dX5_init_14 rfl rfl rfl ?_
  refine z_iconst (q := 16) dX5_init_15 (by decide : Int32.ofInt (0) = (0 : Int32)) rfl ?_
  refine z_put (q := 19) (k := 2) (ty := .int) (fs' := [.int (0 : Int32), .int (0 : Int32), .int (0 : Int32), .int 0]) (Nat.le_of_ble_eq_true rfl) (C := RX5) (T := TX5) (N := 4) hclX5 uwX5 tyX5_ok nmX5 dX5_init_16 zfX5_2 rfl rfl (Nat.le_of_ble_eq_true rfl) rfl rfl ?_
  refine z_aload_n (q := 20) 0 dX5_init_19 rfl rfl rfl ?_
  refine z_iconst (q := 21) dX5_init_20 (by decide : Int32.ofInt (0) = (0 : Int32)) rfl ?_
  refine z_put (q := 24) (k := 3) (ty := .int) (fs' := [.int (0 : Int32), .int (0 : Int32), .int (0 : Int32), .int (0 : Int32)]) (Nat.le_of_ble_eq_true rfl) (C := RX5) (T := TX5) (N := 4) hclX5 uwX5 tyX5_ok nmX5 dX5_init_21 zfX5_3 rfl rfl (Nat.le_of_ble_eq_true rfl) rfl rfl ?_
  exact z_ret dX5_init_24 rfl rfl rfl
def zF_X9 (G : gG) (b : Nat) : List va_E := .inr (9, [.int (0 : Int32), .int (0 : Int32), .int (0 : Int32), .int (0 : Int32), .int (0 : Int32), .ref (b + 1), .ref (b + 2), .ref (b + 3), .ref (b + 4), .ref (b + 5), .ref (b + 6), .ref (b + 7), .ref (b + 8), .int (0 : Int32)]) :: ([.inl (G.2.1 0, 16, .inl (fun _ => 0)), .inl (G.2.1 0, 40, .inl (fun _ => 0)), .inl (G.2.1 0, 40, .inl (fun _ => 0)), .inl (G.2.1 0, 40, .inl (fun _ => 0)), .inl (G.2.1 0, 26, .inl (fun _ => 0)), .inl (G.2.1 0, 26, .inl (fun _ => 0)), .inl (G.2.1 0, 400, .inl (fun _ => 0)), .inl (G.2.1 0, 400, .inl (fun _ => 0))])
set_option maxHeartbeats 40000000 in
set_option maxRecDepth 100000 in
theorem cz_X9 {G : gG} {b : Nat} : CZ G b 1 8 988 yX9_init cX9_init 1 9 [.ref (b + 0)] [.int 0, .int 0, .int 0, .int 0, .int 0, .null, .null, .null, .null, .null, .null, .null, .null, .int 0] (zF_X9 G b) := by
  refine cz_of (own := RX9) rfl rfl rfl (Nat.le_of_ble_eq_true rfl) ?_
  show Zo G b 1 8 988 RX9 cX9_init 1 9 (zF_X9 G b) 0 [(0, .ref (b + 0))] [] [.int 0, .int 0, .int 0, .int 0, .int 0, .null, .null, .null, .null, .null, .null, .null, .null, .int 0] [] 0 0
  refine z_aload_n (q := 1) 0 dX9_init_0 rfl rfl rfl ?_
  refine z_obj (q := 4) dX9_init_1 zw135 zw27 zw28 (by decide) (Nat.le_of_ble_eq_true rfl) rfl ?_
  refine z_aload_n (q := 5) 0 dX9_init_4 rfl rfl rfl ?_
  refine z_iconst (q := 6) dX9_init_5 (by decide : Int32.ofInt (0) = (0 : Int32)) rfl ?_
  refine z_put (q := 9) (k := 0) (ty := .int) (fs' := [.int (0 : Int32), .int 0, .int 0, .int 0, .int 0, .null, .null, .null, .null, .null, .null, .null, .null, .int 0]) (Nat.le_of_ble_eq_true rfl) (C := RX9) (T := TX9) (N := 14) hclX9 uwX9 tyX9_ok nmX9 dX9_init_6 zfX9_0 rfl rfl (Nat.le_of_ble_eq_true rfl) rfl rfl ?_
  refine z_aload_n (q := 10) 0 dX9_init_9 rfl rfl rfl ?_
  refine z_iconst (q := 11) dX9_init_10 (by decide : Int32.ofInt (0) = (0 : Int32)) rfl ?_
  refine z_put (q := 14) (k := 1) (ty := .int) (fs' := [.int (0 : Int32), .int (0 : Int32), .int 0, .int 0, .int 0, .null, .null, .null, .null, .null, .null, .null, .null, .int 0]) (Nat.le_of_ble_eq_true rfl) (C := RX9) (T := TX9) (N := 14) hclX9 uwX9 tyX9_ok nmX9 dX9_init_11 zfX9_1 rfl rfl (Nat.le_of_ble_eq_true rfl) rfl rfl ?_
  refine z_aload_n (q := 15) 0 dX9_init_14 rfl rfl rfl ?_
  refine z_iconst (q := 16) dX9_init_15 (by decide : Int32.ofInt (0) = (0 : Int32)) rfl ?_
  refine z_put (q := 19) (k := 2) (ty := .int) (fs' := [.int (0 : Int32), .int (0 : Int32), .int (0 : Int32), .int 0, .int 0, .null, .null, .null, .null, .null, .null, .null, .null, .int 0]) (Nat.le_of_ble_eq_true rfl) (C := RX9) (T := TX9) (N := 14) hclX9 uwX9 tyX9_ok nmX9 dX9_init_16 zfX9_2 rfl rfl (Nat.le_of_ble_eq_true rfl) rfl rfl ?_
  refine z_aload_n (q := 20) 0 dX9_init_19 rfl rfl rfl ?_
  refine z_iconst (q := 21) dX9_init_20 (by decide : Int32.ofInt (0) = (0 : Int32)) rfl ?_
  refine z_put (q := 24) (k := 3) (ty := .int) (fs' := [.int (0 : Int32), .int (0 : Int32), .int (0 : Int32), .int (0 : Int32), .int 0, .null, .null, .null, .null, .null, .null, .null, .null, .int 0]) (Nat.le_of_ble_eq_true rfl) (C := RX9) (T := TX9) (N := 14) hclX9 uwX9 tyX9_ok nmX9 dX9_init_21 zfX9_3 rfl rfl (Nat.le_of_ble_eq_true rfl) rfl rfl ?_
  refine z_aload_n (q := 25) 0 dX9_init_24 rfl rfl rfl ?_
  refine z_iconst (q := 26) dX9_init_25 (by decide : Int32.ofInt (0) = (0 : Int32)) rfl ?_
  refine z_put (q := 29) (k := 4) (ty := .int) (fs' := [.int (0 : Int32), .int (0 : Int32), .int (0 : Int32), .int (0 : Int32), .int (0 : Int32), .null, .null, .null, .null, .null, .null, .null, .null, .int 0]) (Nat.le_of_ble_eq_true rfl) (C := RX9) (T := TX9) (N := 14) hclX9 uwX9 tyX9_ok nmX9 dX9_init_26 zfX9_4 rfl rfl (Nat.le_of_ble_eq_true rfl) rfl rfl ?_
  refine z_aload_n (q := 30) 0 dX9_init_29 rfl rfl rfl ?_
  refine z_bipush (q := 32) dX9_init_30 (by decide : (Int8.ofInt (16)).toInt32 = (16 : Int32)) rfl ?_
  refine z_newa (q := 34) (t := 0) (N := 16) (x := 1) (a0 := (16, .inl (fun _ => 0))) dX9_init_32 rfl rfl zw43 (fun _ _ hh => hh) (fun _ => rfl) (by decide) (by decide) (by decide) (by decide) (by decide) rfl rfl rfl ?_
  refine z_putF (q := 37) (k := 5) (ty := .array .int) (fs' := [.int (0 : Int32), .int (0 : Int32), .int (0 : Int32), .int (0 : Int32), .int (0 : Int32), .ref (b + 1), .null, .null, .null, .null, .null, .null, .null, .int 0]) (Nat.le_of_ble_eq_true rfl) (C := RX9) (T := TX9) (N := 14) hclX9 uwX9 tyX9_ok nmX9 dX9_init_34 zfX9_5 rfl rfl (Nat.le_of_ble_eq_true rfl) rfl rfl ?_
  refine z_aload_n (q := 38) 0 dX9_init_37 rfl rfl rfl ?_
  refine z_bipush (q := 40) dX9_init_38 (by decide : (Int8.ofInt (40)).toInt32 = (40 : Int32)) rfl ?_
  refine z_newa (q := 42) (t := 0) (N := 40) (x := 2) (a0 := (40, .inl (fun _ => 0))) dX9_init_40 rfl rfl zw43 (fun _ _ hh => hh) (fun _ => rfl) (by decide) (by decide) (by decide) (by decide) (by decide) rfl rfl rfl ?_
  refine z_putF (q := 45) (k := 6) (ty := .array .int) (fs' := [.int (0 : Int32), .int (0 : Int32), .int (0 : Int32), .int (0 : Int32), .int (0 : Int32), .ref (b + 1), .ref (b + 2), .null, .null, .null, .null, .null, .null, .int 0]) (Nat.le_of_ble_eq_true rfl) (C := RX9) (T := TX9) (N := 14) hclX9 uwX9 tyX9_ok nmX9 dX9_init_42 zfX9_6 rfl rfl (Nat.le_of_ble_eq_true rfl) rfl rfl ?_
  refine z_aload_n (q := 46) 0 dX9_init_45 rfl rfl rfl ?_
  refine z_bipush (q := 48) dX9_init_46 (by decide : (Int8.ofInt (40)).toInt32 = (40 : Int32)) rfl ?_
  refine z_newa (q := 50) (t := 0) (N := 40) (x := 3) (a0 := (40, .inl (fun _ => 0))) dX9_init_48 rfl rfl zw43 (fun _ _ hh => hh) (fun _ => rfl) (by decide) (by decide) (by decide) (by decide) (by decide) rfl rfl rfl ?_
  refine z_putF (q := 53) (k := 7) (ty := .array .int) (fs' := [.int (0 : Int32), .int (0 : Int32), .int (0 : Int32), .int (0 : Int32), .int (0 : Int32), .ref (b + 1), .ref (b + 2), .ref (b + 3), .null, .null, .null, .null, .null, .int 0]) (Nat.le_of_ble_eq_true rfl) (C := RX9) (T := TX9) (N := 14) hclX9 uwX9 tyX9_ok nmX9 dX9_init_50 zfX9_7 rfl rfl (Nat.le_of_ble_eq_true rfl) rfl rfl ?_
  refine z_aload_n (q := 54) 0 dX9_init_53 rfl rfl rfl ?_
  refine z_bipush (q := 56) dX9_init_54 (by decide : (Int8.ofInt (40)).toInt32 = (40 : Int32)) rfl ?_
  refine z_newa (q := 58) (t := 0) (N := 40) (x := 4) (a0 := (40, .inl (fun _ => 0))) dX9_init_56 rfl rfl zw43 (fun _ _ hh => hh) (fun _ => rfl) (by decide) (by decide) (by decide) (by decide) (by decide) rfl rfl rfl ?_
  refine z_putF (q := 61) (k := 8) (ty := .array .int) (fs' := [.int (0 : Int32), .int (0 : Int32), .int (0 : Int32), .int (0 : Int32), .int (0 : Int32), .ref (b + 1), .ref (b + 2), .ref (b + 3), .ref (b + 4), .null, .null, .null, .null, .int 0]) (Nat.le_of_ble_eq_true rfl) (C := RX9) (T := TX9) (N := 14) hclX9 uwX9 tyX9_ok nmX9 dX9_init_58 zfX9_8 rfl rfl (Nat.le_of_ble_eq_true rfl) rfl rfl ?_
  refine z_aload_n (q := 62) 0 dX9_init_61 rfl rfl rfl ?_
  refine z_bipush (q := 64) dX9_init_62 (by decide : (Int8.ofInt (26)).toInt32 = (26 : Int32)) rfl ?_
  refine z_newa (q := 66) (t := 0) (N := 26) (x := 5) (a0 := (26, .inl (fun _ => 0))) dX9_init_64 rfl rfl zw43 (fun _ _ hh => hh) (fun _ => rfl) (by decide) (by decide) (by decide) (by decide) (by decide) rfl rfl rfl ?_
  refine z_putF (q := 69) (k := 9) (ty := .array .int) (fs' := [.int (0 : Int32), .int (0 : Int32), .int (0 : Int32), .int (0 : Int32), .int (0 : Int32), .ref (b + 1), .ref (b + 2), .ref (b + 3), .ref (b + 4), .ref (b + 5), .null, .null, .null, .int 0]) (Nat.le_of_ble_eq_true rfl) (C := RX9) (T := TX9) (N := 14) hclX9 uwX9 tyX9_ok nmX9 dX9_init_66 zfX9_9 rfl rfl (Nat.le_of_ble_eq_true rfl) rfl rfl ?_
  refine z_aload_n (q := 70) 0 dX9_init_69 rfl rfl rfl ?_
  refine z_bipush (q := 72) dX9_init_70 (by decide : (Int8.ofInt (26)).toInt32 = (26 : Int32)) rfl ?_
  refine z_newa (q := 74) (t := 0) (N := 26) (x := 6) (a0 := (26, .inl (fun _ => 0))) dX9_init_72 rfl rfl zw43 (fun _ _ hh => hh) (fun _ => rfl) (by decide) (by decide) (by decide) (by decide) (by decide) rfl rfl rfl ?_
  refine z_putF (q := 77) (k := 10) (ty := .array .int) (fs' := [.int (0 : Int32), .int (0 : Int32), .int (0 : Int32), .int (0 : Int32), .int (0 : Int32), .ref (b + 1), .ref (b + 2), .ref (b + 3), .ref (b + 4), .ref (b + 5), .ref (b + 6), .null, .null, .int 0]) (Nat.le_of_ble_eq_true rfl) (C := RX9) (T := TX9) (N := 14) hclX9 uwX9 tyX9_ok nmX9 dX9_init_74 zfX9_10 rfl rfl (Nat.le_of_ble_eq_true rfl) rfl rfl ?_
  refine z_aload_n (q := 78) 0 dX9_init_77 rfl rfl rfl ?_
  refine z_sipush (q := 81) dX9_init_78 (by decide : (Int16.ofInt (400)).toInt32 = (400 : Int32)) rfl ?_
  refine z_newa (q := 83) (t := 0) (N := 400) (x := 7) (a0 := (400, .inl (fun _ => 0))) dX9_init_81 rfl rfl zw43 (fun _ _ hh => hh) (fun _ => rfl) (by decide) (by decide) (by decide) (by decide) (by decide) rfl rfl rfl ?_
  refine z_putF (q := 86) (k := 11) (ty := .array .int) (fs' := [.int (0 : Int32), .int (0 : Int32), .int (0 : Int32), .int (0 : Int32), .int (0 : Int32), .ref (b + 1), .ref (b + 2), .ref (b + 3), .ref (b + 4), .ref (b + 5), .ref (b + 6), .ref (b + 7), .null, .int 0]) (Nat.le_of_ble_eq_true rfl) (C := RX9) (T := TX9) (N := 14) hclX9 uwX9 tyX9_ok nmX9 dX9_init_83 zfX9_11 rfl rfl (Nat.le_of_ble_eq_true rfl) rfl rfl ?_
  refine z_aload_n (q := 87) 0 dX9_init_86 rfl rfl rfl ?_
  refine z_sipush (q := 90) dX9_init_87 (by decide : (Int16.ofInt (400)).toInt32 = (400 : Int32)) rfl ?_
  refine z_newa (q := 92) (t := 0) (N := 400) (x := 8) (a0 := (400, .inl (fun _ => 0))) dX9_init_90 rfl rfl zw43 (fun _ _ hh => hh) (fun _ => rfl) (by decide) (by decide) (by decide) (by decide) (by decide) rfl rfl rfl ?_
  refine z_putF (q := 95) (k := 12) (ty := .array .int) (fs' := [.int (0 : Int32), .int (0 : Int32), .int (0 : Int32), .int (0 : Int32), .int (0 : Int32), .ref (b + 1), .ref (b + 2), .ref (b + 3), .ref (b + 4), .ref (b + 5), .ref (b + 6), .ref (b + 7), .ref (b + 8), .int 0]) (Nat.le_of_ble_eq_true rfl) (C := RX9) (T := TX9) (N := 14) hclX9 uwX9 tyX9_ok nmX9 dX9_init_92 zfX9_12 rfl rfl (Nat.le_of_ble_eq_true rfl) rfl rfl ?_
  refine z_aload_n (q := 96) 0 dX9_init_95 rfl rfl rfl ?_
  refine z_iconst (q := 97) dX9_init_96 (by decide : Int32.ofInt (0) = (0 : Int32)) rfl ?_
  refine z_put (q := 100) (k := 13) (ty := .int) (fs' := [.int (0 : Int32), .int (0 : Int32), .int (0 : Int32), .int (0 : Int32), .int (0 : Int32), .ref (b + 1), .ref (b + 2), .ref (b + 3), .ref (b + 4), .ref (b + 5), .ref (b + 6), .ref (b + 7), .ref (b + 8), .int (0 : Int32)]) (Nat.le_of_ble_eq_true rfl) (C := RX9) (T := TX9) (N := 14) hclX9 uwX9 tyX9_ok nmX9 dX9_init_97 zfX9_13 rfl rfl (Nat.le_of_ble_eq_true rfl) rfl rfl ?_
  exact z_ret dX9_init_100 rfl rfl rfl
theorem czX4_11 : cwZN RX4 11 yX9_init "SkyTrial" cX9_init 1 0 := ⟨⟨nest_in 264 (by decide +kernel) rfl, zw133, zw9, zw134⟩, rfl, by decide, by decide, rfl⟩
theorem czX4_20 : cwZN RX4 20 yX3_init "SkyTrial" cX3_init 1 0 := ⟨⟨nest_in 267 (by decide +kernel) rfl, zw268, zw12, zw269⟩, rfl, by decide, by decide, rfl⟩
def zF_X4 (G : gG) (b : Nat) (pp : Nat) : List va_E := .inr (4, [.ref (b + 1), .ref pp, .ref (b + 10), .ref (b + 13), .ref (b + 14), .ref (b + 15)]) :: (zF_X9 G (b + 1) ++ zF_X3 G (b + 10) ++ [.inl (G.2.1 0, 20, .inl (fun _ => 0)), .inl (G.2.1 0, 20, .inl (fun _ => 0)), .inl (G.2.1 0, 20, .inl (fun _ => 0))])
set_option maxHeartbeats 40000000 in
set_option maxRecDepth 100000 in
theorem cz_X4 {G : gG} {b : Nat} {pp : Nat} : CZ G b 2 15 1126 yX4_init cX4_init 2 4 [.ref (b + 0), .ref pp] [.null, .null, .null, .null, .null, .null] (zF_X4 G b pp) := by
  refine cz_of (own := RX4) rfl rfl rfl (Nat.le_of_ble_eq_true rfl) ?_
  show Zo G b 2 15 1126 RX4 cX4_init 2 4 (zF_X4 G b pp) 0 [(0, .ref (b + 0)), (1, .ref pp)] [] [.null, .null, .null, .null, .null, .null] [] 0 0
  refine z_aload_n (q := 1) 0 dX4_init_0 rfl rfl rfl ?_
  refine z_obj (q := 4) dX4_init_1 zw262 zw27 zw28 (by decide) (Nat.le_of_ble_eq_true rfl) rfl ?_
  refine z_aload_n (q := 5) 0 dX4_init_4 rfl rfl rfl ?_
  refine z_new (q := 8) (x := 1) (cj := 9) (fs1 := [.int 0, .int 0, .int 0, .int 0, .int 0, .null, .null, .null, .null, .null, .null, .null, .null, .int 0]) tyX9 rfl uwX9 tyX9_ok dX4_init_5 zw263 zw131 zw9 (by decide +kernel) (by decide) (by decide) rfl rfl rfl ?_
  refine z_dup (q := 9) dX4_init_8 rfl rfl ?_
  refine z_callN (q := 12) (As := []) (st := [.ref (b + 1), .ref (b + 0)]) (h' := 1) (mc' := 8) (ms' := 988) cz_X9 czX4_11 rfl dX4_init_9 rfl rfl rfl rfl (Nat.le_of_ble_eq_true rfl) (by decide) (by decide) rfl ?_
  refine z_put (q := 15) (k := 0) (ty := .object "SkyTrial$Told") (fs' := [.ref (b + 1), .null, .null, .null, .null, .null]) (Nat.le_of_ble_eq_true rfl) (C := RX4) (T := TX4) (N := 6) hclX4 uwX4 tyX4_ok nmX4 dX4_init_12 zfX4_0 rfl rfl (Nat.le_of_ble_eq_true rfl) rfl rfl ?_
  refine z_aload_n (q := 16) 0 dX4_init_15 rfl rfl rfl ?_
  refine z_new (q := 19) (x := 10) (cj := 3) (fs1 := [.null, .null, .int 0]) tyX3 rfl uwX3 tyX3_ok dX4_init_16 zw265 zw266 zw12 (by decide +kernel) (by decide) (by decide) rfl rfl rfl ?_
  refine z_dup (q := 20) dX4_init_19 rfl rfl ?_
  refine z_callN (q := 23) (As := []) (st := [.ref (b + 10), .ref (b + 0)]) (h' := 1) (mc' := 2) (ms' := 61) cz_X3 czX4_20 rfl dX4_init_20 rfl rfl rfl rfl (Nat.le_of_ble_eq_true rfl) (by decide) (by decide) rfl ?_
  refine z_putF (q := 26) (k := 2) (ty := .object "SkyTrial$Reckoner") (fs' := [.ref (b + 1), .null, .ref (b + 10), .null, .null, .null]) (Nat.le_of_ble_eq_true rfl) (C := RX4) (T := TX4) (N := 6) hclX4 uwX4 tyX4_ok nmX4 dX4_init_23 zfX4_2 rfl rfl (Nat.le_of_ble_eq_true rfl) rfl rfl ?_
  refine z_aload_n (q := 27) 0 dX4_init_26 rfl rfl rfl ?_
  refine z_bipush (q := 29) dX4_init_27 (by decide : (Int8.ofInt (20)).toInt32 = (20 : Int32)) rfl ?_
  refine z_newa (q := 31) (t := 0) (N := 20) (x := 13) (a0 := (20, .inl (fun _ => 0))) dX4_init_29 rfl rfl zw43 (fun _ _ hh => hh) (fun _ => rfl) (by decide) (by decide) (by decide) (by decide) (by decide) rfl rfl rfl ?_
  refine z_putF (q := 34) (k := 3) (ty := .array .int) (fs' := [.ref (b + 1), .null, .ref (b + 10), .ref (b + 13), .null, .null]) (Nat.le_of_ble_eq_true rfl) (C := RX4) (T := TX4) (N := 6) hclX4 uwX4 tyX4_ok nmX4 dX4_init_31 zfX4_3 rfl rfl (Nat.le_of_ble_eq_true rfl) rfl rfl ?_
  refine z_aload_n (q := 35) 0 dX4_init_34 rfl rfl rfl ?_
  refine z_bipush (q := 37) dX4_init_35 (by decide : (Int8.ofInt (20)).toInt32 = (20 : Int32)) rfl ?_
  refine z_newa (q := 39) (t := 0) (N := 20) (x := 14) (a0 := (20, .inl (fun _ => 0))) dX4_init_37 rfl rfl zw43 (fun _ _ hh => hh) (fun _ => rfl) (by decide) (by decide) (by decide) (by decide) (by decide) rfl rfl rfl ?_
  refine z_putF (q := 42) (k := 4) (ty := .array .int) (fs' := [.ref (b + 1), .null, .ref (b + 10), .ref (b + 13), .ref (b + 14), .null]) (Nat.le_of_ble_eq_true rfl) (C := RX4) (T := TX4) (N := 6) hclX4 uwX4 tyX4_ok nmX4 dX4_init_39 zfX4_4 rfl rfl (Nat.le_of_ble_eq_true rfl) rfl rfl ?_
  refine z_aload_n (q := 43) 0 dX4_init_42 rfl rfl rfl ?_
  refine z_bipush (q := 45) dX4_init_43 (by decide : (Int8.ofInt (20)).toInt32 = (20 : Int32)) rfl ?_
  refine z_newa (q := 47) (t := 0) (N := 20) (x := 15) (a0 := (20, .inl (fun _ => 0))) dX4_init_45 rfl rfl zw43 (fun _ _ hh => hh) (fun _ => rfl) (by decide) (by decide) (by decide) (by decide) (by decide) rfl rfl rfl ?_
  refine z_putF (q := 50) (k := 5) (ty := .array .int) (fs' := [.ref (b + 1), .null, .ref (b + 10), .ref (b + 13), .ref (b + 14), .ref (b + 15)]) (Nat.le_of_ble_eq_true rfl) (C := RX4) (T := TX4) (N := 6) hclX4 uwX4 tyX4_ok nmX4 dX4_init_47 zfX4_5 rfl rfl (Nat.le_of_ble_eq_true rfl) rfl rfl ?_
  refine z_aload_n (q := 51) 0 dX4_init_50 rfl rfl rfl ?_
  refine z_aload_n (q := 52) 1 dX4_init_51 rfl rfl rfl ?_
  refine z_putF (q := 55) (k := 1) (ty := .object "SkyTrial$People") (fs' := [.ref (b + 1), .ref pp, .ref (b + 10), .ref (b + 13), .ref (b + 14), .ref (b + 15)]) (Nat.le_of_ble_eq_true rfl) (C := RX4) (T := TX4) (N := 6) hclX4 uwX4 tyX4_ok nmX4 dX4_init_52 zfX4_1 rfl rfl (Nat.le_of_ble_eq_true rfl) rfl rfl ?_
  exact z_ret dX4_init_55 rfl rfl rfl
def fsH0 : Nat → (Nat → Int32) → (Nat → Int64) → (Nat → Nat) → List Value := fun b _ _ _ => [.ref (b + 1), .ref (b + 2), .ref (b + 3), .ref (b + 4), .ref (b + 5)]
def eH0 (c : Nat → ClassId) (b k : Nat) (f : Nat → Int32) (g : Nat → Int64) (h : Nat → Nat) : va_E := match k with
  | 0 => .inr (0, fsH0 b f g h)
  | 1 => .inl (c 1, 441, .inr (.inl g))
  | 2 => .inl (c 1, 31, .inr (.inl g))
  | 3 => .inl (c 1, 31, .inr (.inl g))
  | 4 => .inl (c 1, 21, .inr (.inl g))
  | _ => .inl (c 1, 21, .inr (.inl g))
def vH0 : gV := (6, eH0)
theorem shH0 : shO vH0 0 0 RX0 TX0 5 fsH0 := ⟨by decide, rfl, uwX0, fun _ _ _ _ _ => rfl⟩
theorem fH0_takings : fA vH0 0 0 0 RX0 TX0 5 fsH0 1 := ⟨shH0, by decide, fun _ _ _ _ => rfl⟩
theorem aH0_takings : shL vH0 1 441 := ⟨by decide, fun _ _ _ _ _ => rfl⟩
theorem fH0_thirds : fA vH0 0 1 0 RX0 TX0 5 fsH0 2 := ⟨shH0, by decide, fun _ _ _ _ => rfl⟩
theorem aH0_thirds : shL vH0 2 31 := ⟨by decide, fun _ _ _ _ _ => rfl⟩
theorem fH0_halves : fA vH0 0 2 0 RX0 TX0 5 fsH0 3 := ⟨shH0, by decide, fun _ _ _ _ => rfl⟩
theorem aH0_halves : shL vH0 3 31 := ⟨by decide, fun _ _ _ _ _ => rfl⟩
theorem fH0_spread : fA vH0 0 3 0 RX0 TX0 5 fsH0 4 := ⟨shH0, by decide, fun _ _ _ _ => rfl⟩
theorem aH0_spread : shL vH0 4 21 := ⟨by decide, fun _ _ _ _ _ => rfl⟩
theorem fH0_wider : fA vH0 0 4 0 RX0 TX0 5 fsH0 5 := ⟨shH0, by decide, fun _ _ _ _ => rfl⟩
theorem aH0_wider : shL vH0 5 21 := ⟨by decide, fun _ _ _ _ _ => rfl⟩
def fsH8 : Nat → (Nat → Int32) → (Nat → Int64) → (Nat → Nat) → List Value := fun b f _ _ => [.ref (b + 1), .ref (b + 2), .ref (b + 3), .int (f 3), .ref (b + 4)]
def eH8 (c : Nat → ClassId) (b k : Nat) (f : Nat → Int32) (g : Nat → Int64) (h : Nat → Nat) : va_E := match k with
  | 0 => .inr (8, fsH8 b f g h)
  | 1 => .inl (c 0, 401, .inl f)
  | 2 => .inl (c 0, 401, .inl f)
  | 3 => .inl (c 1, 401, .inr (.inl g))
  | _ => .inl (c 1, 23, .inr (.inl g))
def vH8 : gV := (5, eH8)
theorem shH8 : shO vH8 0 8 RX8 TX8 5 fsH8 := ⟨by decide, rfl, uwX8, fun _ _ _ _ _ => rfl⟩
theorem fH8_kinds : fA vH8 0 0 8 RX8 TX8 5 fsH8 1 := ⟨shH8, by decide, fun _ _ _ _ => rfl⟩
theorem aH8_kinds : shI vH8 1 0 401 := ⟨by decide, fun _ _ _ _ _ => rfl⟩
theorem fH8_starts : fA vH8 0 1 8 RX8 TX8 5 fsH8 2 := ⟨shH8, by decide, fun _ _ _ _ => rfl⟩
theorem aH8_starts : shI vH8 2 0 401 := ⟨by decide, fun _ _ _ _ _ => rfl⟩
theorem fH8_values : fA vH8 0 2 8 RX8 TX8 5 fsH8 3 := ⟨shH8, by decide, fun _ _ _ _ => rfl⟩
theorem aH8_values : shL vH8 3 401 := ⟨by decide, fun _ _ _ _ _ => rfl⟩
theorem fH8_words : fA vH8 0 4 8 RX8 TX8 5 fsH8 4 := ⟨shH8, by decide, fun _ _ _ _ => rfl⟩
theorem aH8_words : shL vH8 4 23 := ⟨by decide, fun _ _ _ _ _ => rfl⟩
noncomputable def tX0 (σ : gS) : Option gS := bn1 (lpP (fun (z2 : (Int32 × gS)) => if (21 : Int32) ≤ z2.1 then some (.inr z2.2) else gx (z2.1 * (21 : Int32)) 441 (lt' (wL z2.2 1 (z2.1 * (21 : Int32)).toNatClampNeg (1 : Int64)) (fun s3 => bn1 (lpP (fun (z5 : (Int32 × gS)) => if z2.1 < z5.1 then some (.inr z5.2) else gx ((((z2.1 - (1 : Int32)) * (21 : Int32)) + z5.1) - (1 : Int32)) 441 (gx (((z2.1 - (1 : Int32)) * (21 : Int32)) + z5.1) 441 (gx ((z2.1 * (21 : Int32)) + z5.1) 441 (lt' (wL z5.2 1 ((z2.1 * (21 : Int32)) + z5.1).toNatClampNeg ((z5.2.2.1 1 ((((z2.1 - (1 : Int32)) * (21 : Int32)) + z5.1) - (1 : Int32)).toNatClampNeg) + (z5.2.2.1 1 (((z2.1 - (1 : Int32)) * (21 : Int32)) + z5.1).toNatClampNeg))) (fun s6 => lt' (z5.1 + (1 : Int32)) (fun x7 => some (.inl (x7, s6)))))))) ((1 : Int32), s3)) (fun (z4 : gS) => lt' (z2.1 + (1 : Int32)) (fun x8 => some (.inl (x8, z4))))))) ((0 : Int32), σ)) (fun (z1 : gS) => some z1)
set_option maxHeartbeats 40000000 in
set_option maxRecDepth 100000 in
theorem gt_X0 {G : gG} {b mc ms : Nat} {σ : gS} : GF vH0 G b (7, mc, ms) RX0 cX0_init 3 none kV 45 [(0, .ref (b + 0))] [] σ (tX0 σ) := by
  unfold tX0
  refine g_iconst (q := 46) dX0_init_45 kI_0 rfl ?_
  refine g_istore_n (lr := [(0, .ref (b + 0))]) (q := 47) dX0_init_46 rfl (by decide) rfl rfl ?_
  refine g_bind (S := gS) (hd := 122) (lvf := fun z1 => []) (stf := fun z1 => []) (σf := fun z1 => z1) ?_ (fun z1 => ?_)
  · refine g_loop (S := (Int32 × gS)) (lvf := fun z2 => [(1, .int z2.1), (0, .ref (b + 0))]) (σf := fun z2 => z2.2) (fun z2 => ?_) ((0 : Int32), σ)
    refine g_iload_n (q := 48) 0 dX0_init_47 rfl rfl rfl ?_
    refine g_bipush (q := 50) dX0_init_48 kB_21 rfl ?_
    refine g_icmp_ge (t := 122) (q := 53) dX0_init_50 (by decide) rfl ?_ ?_
    · refine g_sub (lr := []) [] rfl ?_
      exact (g_leave (g_there (z2.2 : gS)))
    · refine g_aload_n (q := 54) 1 dX0_init_53 rfl rfl rfl ?_
      refine g_getA (q := 57) fH0_takings dX0_init_54 ww335 rfl ?_
      refine g_iload_n (q := 58) 0 dX0_init_57 rfl rfl rfl ?_
      refine g_bipush (q := 60) dX0_init_58 kB_21 rfl ?_
      refine g_imul (q := 61) dX0_init_60 rfl ?_
      refine g_lconst (q := 62) (v := (1 : Int64)) dX0_init_61 rfl rfl ?_
      refine g_last (q := 63) (aH0_takings) dX0_init_62 rfl (fun s3 => ?_)
      refine g_iconst (q := 64) dX0_init_63 kI_1 rfl ?_
      refine g_istore_n (lr := [(1, .int z2.1), (0, .ref (b + 0))]) (q := 65) dX0_init_64 rfl (by decide) rfl rfl ?_
      refine g_bind (S := gS) (hd := 116) (lvf := fun z4 => [(1, .int z2.1), (0, .ref (b + 0))]) (stf := fun z4 => []) (σf := fun z4 => z4) ?_ (fun z4 => ?_)
      · refine g_loop (S := (Int32 × gS)) (lvf := fun z5 => [(2, .int z5.1), (1, .int z2.1), (0, .ref (b + 0))]) (σf := fun z5 => z5.2) (fun z5 => ?_) ((1 : Int32), s3)
        refine g_iload_n (q := 66) 0 dX0_init_65 rfl rfl rfl ?_
        refine g_iload_n (q := 67) 1 dX0_init_66 rfl rfl rfl ?_
        refine g_icmp_gt (t := 116) (q := 70) dX0_init_67 (by decide) rfl ?_ ?_
        · refine g_sub (lr := [(1, .int z2.1), (0, .ref (b + 0))]) [1, 2] rfl ?_
          exact (g_leave (g_there (z5.2 : gS)))
        · refine g_aload_n (q := 71) 2 dX0_init_70 rfl rfl rfl ?_
          refine g_getA (q := 74) fH0_takings dX0_init_71 ww335 rfl ?_
          refine g_iload_n (q := 75) 1 dX0_init_74 rfl rfl rfl ?_
          refine g_bipush (q := 77) dX0_init_75 kB_21 rfl ?_
          refine g_imul (q := 78) dX0_init_77 rfl ?_
          refine g_iload_n (q := 79) 0 dX0_init_78 rfl rfl rfl ?_
          refine g_iadd (q := 80) dX0_init_79 rfl ?_
          refine g_aload_n (q := 81) 2 dX0_init_80 rfl rfl rfl ?_
          refine g_getA (q := 84) fH0_takings dX0_init_81 ww335 rfl ?_
          refine g_iload_n (q := 85) 1 dX0_init_84 rfl rfl rfl ?_
          refine g_iconst (q := 86) dX0_init_85 kI_1 rfl ?_
          refine g_isub (q := 87) dX0_init_86 rfl ?_
          refine g_bipush (q := 89) dX0_init_87 kB_21 rfl ?_
          refine g_imul (q := 90) dX0_init_89 rfl ?_
          refine g_iload_n (q := 91) 0 dX0_init_90 rfl rfl rfl ?_
          refine g_iadd (q := 92) dX0_init_91 rfl ?_
          refine g_iconst (q := 93) dX0_init_92 kI_1 rfl ?_
          refine g_isub (q := 94) dX0_init_93 rfl ?_
          refine g_lald (q := 95) (aH0_takings) dX0_init_94 rfl ?_
          refine g_aload_n (q := 96) 2 dX0_init_95 rfl rfl rfl ?_
          refine g_getA (q := 99) fH0_takings dX0_init_96 ww335 rfl ?_
          refine g_iload_n (q := 100) 1 dX0_init_99 rfl rfl rfl ?_
          refine g_iconst (q := 101) dX0_init_100 kI_1 rfl ?_
          refine g_isub (q := 102) dX0_init_101 rfl ?_
          refine g_bipush (q := 104) dX0_init_102 kB_21 rfl ?_
          refine g_imul (q := 105) dX0_init_104 rfl ?_
          refine g_iload_n (q := 106) 0 dX0_init_105 rfl rfl rfl ?_
          refine g_iadd (q := 107) dX0_init_106 rfl ?_
          refine g_lald (q := 108) (aH0_takings) dX0_init_107 rfl ?_
          refine g_ladd (q := 109) dX0_init_108 rfl ?_
          refine g_last (q := 110) (aH0_takings) dX0_init_109 rfl (fun s6 => ?_)
          refine g_iinc (lr := [(1, .int z2.1), (0, .ref (b + 0))]) (q := 113) 0 dX0_init_110 rfl kI_1 (by decide) rfl rfl (fun x7 => ?_)
          refine g_goto (t := 65) dX0_init_113 (by decide) ?_
          exact (g_again ((x7, s6) : (Int32 × gS)))
      · refine g_iinc (lr := [(0, .ref (b + 0))]) (q := 119) 0 dX0_init_116 rfl kI_1 (by decide) rfl rfl (fun x8 => ?_)
        refine g_goto (t := 47) dX0_init_119 (by decide) ?_
        exact (g_again ((x8, z4) : (Int32 × gS)))
  · exact (g_vret dX0_init_122)
noncomputable def tX8 (σ : gS) : Option gS := bn1 (lpP (fun (z2 : (Int32 × Int64 × Int32 × gS)) => bn1 (pJ0_length_8abf5) (fun v3 => if v3 ≤ z2.1 then some (.inr z2.2.2.2) else bn1 (pJ0_charAt_5068e z2.1) (fun v5 => if v5 = (32 : Int32) then if (23 : Int32) ≤ z2.2.2.1 then lt' (z2.1 + (1 : Int32)) (fun x7 => some (.inl (x7, z2.2.1, z2.2.2.1, z2.2.2.2))) else gx z2.2.2.1 23 (lt' (wL z2.2.2.2 4 z2.2.2.1.toNatClampNeg z2.2.1) (fun s8 => lt' (z2.2.2.1 + (1 : Int32)) (fun x9 => lt' (z2.1 + (1 : Int32)) (fun x10 => some (.inl (x10, (0 : Int64), x9, s8)))))) else bn1 (pX8_withLetter z2.2.1 v5) (fun v11 => lt' (z2.1 + (1 : Int32)) (fun x13 => some (.inl (x13, v11, z2.2.2.1, z2.2.2.2))))))) ((0 : Int32), (0 : Int64), (0 : Int32), σ)) (fun (z1 : gS) => some z1)
set_option maxHeartbeats 40000000 in
set_option maxRecDepth 100000 in
theorem gt_X8 {G : gG} {b mc ms : Nat} {σ : gS} : GF vH8 G b (7, mc, ms) RX8 cX8_init 6 none kV 44 [(0, .ref (b + 0))] [] σ (tX8 σ) := by
  unfold tX8
  refine g_iconst (q := 45) dX8_init_44 kI_0 rfl ?_
  refine g_istore_n (lr := [(0, .ref (b + 0))]) (q := 46) dX8_init_45 rfl (by decide) rfl rfl ?_
  refine g_lconst (q := 47) (v := (0 : Int64)) dX8_init_46 rfl rfl ?_
  refine g_lstore_n (lr := [(1, .int (0 : Int32)), (0, .ref (b + 0))]) (q := 48) dX8_init_47 rfl (by decide) rfl rfl ?_
  refine g_iconst (q := 49) dX8_init_48 kI_0 rfl ?_
  refine g_istore (lr := [(2, .long (0 : Int64)), (1, .int (0 : Int32)), (0, .ref (b + 0))]) (q := 51) dX8_init_49 (by decide) rfl rfl ?_
  refine g_bind (S := gS) (hd := 114) (lvf := fun z1 => []) (stf := fun z1 => []) (σf := fun z1 => z1) ?_ (fun z1 => ?_)
  · refine g_loop (S := (Int32 × Int64 × Int32 × gS)) (lvf := fun z2 => [(4, .int z2.1), (2, .long z2.2.1), (1, .int z2.2.2.1), (0, .ref (b + 0))]) (σf := fun z2 => z2.2.2.2) (fun z2 => ?_) ((0 : Int32), (0 : Int64), (0 : Int32), σ)
    refine g_iload (q := 53) 0 dX8_init_51 rfl rfl ?_
    refine g_ldcS (q := 55) rfl dX8_init_53 rfl ?_
    refine g_callS (As := []) (st := [.int z2.1]) (cn_J0_length_8abf5) rfl cwX8_31 rfl dX8_init_55 rfl (Nat.le_of_ble_eq_true rfl) ⟨Nat.le_of_ble_eq_true rfl, Nat.le_of_ble_eq_true rfl⟩ (kk_PI (fun v3 => ?_))
    refine g_icmp_ge (t := 114) (q := 61) dX8_init_58 (by decide) rfl ?_ ?_
    · refine g_sub (lr := []) [] rfl ?_
      exact (g_leave (g_there (z2.2.2.2 : gS)))
    · refine g_ldcS (q := 63) rfl dX8_init_61 rfl ?_
      refine g_iload (q := 65) 0 dX8_init_63 rfl rfl ?_
      refine g_callS (As := [.int z2.1]) (st := []) (cn_J0_charAt_5068e) rfl cwX8_37 rfl dX8_init_65 rfl (Nat.le_of_ble_eq_true rfl) ⟨Nat.le_of_ble_eq_true rfl, Nat.le_of_ble_eq_true rfl⟩ (kk_PI (fun v5 => ?_))
      refine g_istore (lr := [(4, .int z2.1), (2, .long z2.2.1), (1, .int z2.2.2.1), (0, .ref (b + 0))]) (q := 70) dX8_init_68 (by decide) rfl rfl ?_
      refine g_iload (q := 72) 0 dX8_init_70 rfl rfl ?_
      refine g_bipush (q := 74) dX8_init_72 kB_32 rfl ?_
      refine g_icmp_eq (t := 87) (q := 77) dX8_init_74 (by decide) rfl ?_ ?_
      · refine g_iload_n (q := 88) 3 dX8_init_87 rfl rfl rfl ?_
        refine g_aload_n (q := 89) 4 dX8_init_88 rfl rfl rfl ?_
        refine g_getA (q := 92) fH8_words dX8_init_89 ww116 rfl ?_
        refine g_alenL (v := (23 : Int32)) (q := 93) (aH8_words) rfl dX8_init_92 rfl ?_
        refine g_icmp_ge (t := 108) (q := 96) dX8_init_93 (by decide) rfl ?_ ?_
        · refine g_iinc (lr := [(5, .int v5), (2, .long z2.2.1), (1, .int z2.2.2.1), (0, .ref (b + 0))]) (q := 111) 1 dX8_init_108 rfl kI_1 (by decide) rfl rfl (fun x7 => ?_)
          refine g_goto (t := 51) dX8_init_111 (by decide) ?_
          refine g_sub (lr := [(4, .int x7), (2, .long z2.2.1), (1, .int z2.2.2.1), (0, .ref (b + 0))]) [0, 2, 3, 4] rfl ?_
          exact (g_again ((x7, z2.2.1, z2.2.2.1, z2.2.2.2) : (Int32 × Int64 × Int32 × gS)))
        · refine g_aload_n (q := 97) 4 dX8_init_96 rfl rfl rfl ?_
          refine g_getA (q := 100) fH8_words dX8_init_97 ww116 rfl ?_
          refine g_iload_n (q := 101) 3 dX8_init_100 rfl rfl rfl ?_
          refine g_lload_n (q := 102) 2 dX8_init_101 rfl rfl rfl ?_
          refine g_last (q := 103) (aH8_words) dX8_init_102 rfl (fun s8 => ?_)
          refine g_iinc (lr := [(5, .int v5), (4, .int z2.1), (2, .long z2.2.1), (0, .ref (b + 0))]) (q := 106) 3 dX8_init_103 rfl kI_1 (by decide) rfl rfl (fun x9 => ?_)
          refine g_lconst (q := 107) (v := (0 : Int64)) dX8_init_106 rfl rfl ?_
          refine g_lstore_n (lr := [(1, .int x9), (5, .int v5), (4, .int z2.1), (0, .ref (b + 0))]) (q := 108) dX8_init_107 rfl (by decide) rfl rfl ?_
          refine g_iinc (lr := [(2, .long (0 : Int64)), (1, .int x9), (5, .int v5), (0, .ref (b + 0))]) (q := 111) 3 dX8_init_108 rfl kI_1 (by decide) rfl rfl (fun x10 => ?_)
          refine g_goto (t := 51) dX8_init_111 (by decide) ?_
          refine g_sub (lr := [(4, .int x10), (2, .long (0 : Int64)), (1, .int x9), (0, .ref (b + 0))]) [0, 1, 2, 4] rfl ?_
          exact (g_again ((x10, (0 : Int64), x9, s8) : (Int32 × Int64 × Int32 × gS)))
      · refine g_lload_n (q := 78) 2 dX8_init_77 rfl rfl rfl ?_
        refine g_iload (q := 80) 0 dX8_init_78 rfl rfl ?_
        refine g_callT (As := [.long z2.2.1, .int v5]) (st := []) (cn_X8_withLetter) cwX8_41 rfl dX8_init_80 rfl (Nat.le_of_ble_eq_true rfl) ⟨Nat.le_of_ble_eq_true rfl, Nat.le_of_ble_eq_true rfl⟩ (kk_PL (fun v11 => ?_))
        refine g_lstore_n (lr := [(5, .int v5), (4, .int z2.1), (1, .int z2.2.2.1), (0, .ref (b + 0))]) (q := 84) dX8_init_83 rfl (by decide) rfl rfl ?_
        refine g_goto (t := 108) dX8_init_84 (by decide) ?_
        refine g_iinc (lr := [(2, .long v11), (5, .int v5), (1, .int z2.2.2.1), (0, .ref (b + 0))]) (q := 111) 2 dX8_init_108 rfl kI_1 (by decide) rfl rfl (fun x13 => ?_)
        refine g_goto (t := 51) dX8_init_111 (by decide) ?_
        refine g_sub (lr := [(4, .int x13), (2, .long v11), (1, .int z2.2.2.1), (0, .ref (b + 0))]) [0, 1, 3, 4] rfl ?_
        exact (g_again ((x13, v11, z2.2.2.1, z2.2.2.2) : (Int32 × Int64 × Int32 × gS)))
  · exact (g_vret dX8_init_114)
noncomputable def tX11 (σ : gS) : Option gS := bn1 (pX11_word (115 : Int32) (105 : Int32) (103 : Int32) (110 : Int32) (0 : Int32) (0 : Int32) (0 : Int32)) (fun v1 => gx (0 : Int32) 23 (lt' (wL σ 7 (0 : Int32).toNatClampNeg v1) (fun s3 => bn1 (pX11_word (105 : Int32) (102 : Int32) (0 : Int32) (0 : Int32) (0 : Int32) (0 : Int32) (0 : Int32)) (fun v4 => gx (1 : Int32) 23 (lt' (wL s3 7 (1 : Int32).toNatClampNeg v4) (fun s6 => bn1 (pX11_word (115 : Int32) (97 : Int32) (121 : Int32) (0 : Int32) (0 : Int32) (0 : Int32) (0 : Int32)) (fun v7 => gx (2 : Int32) 23 (lt' (wL s6 7 (2 : Int32).toNatClampNeg v7) (fun s9 => bn1 (pX11_word (98 : Int32) (111 : Int32) (111 : Int32) (107 : Int32) (0 : Int32) (0 : Int32) (0 : Int32)) (fun v10 => gx (3 : Int32) 23 (lt' (wL s9 7 (3 : Int32).toNatClampNeg v10) (fun s12 => bn1 (pX11_word (119 : Int32) (104 : Int32) (101 : Int32) (110 : Int32) (0 : Int32) (0 : Int32) (0 : Int32)) (fun v13 => gx (4 : Int32) 23 (lt' (wL s12 7 (4 : Int32).toNatClampNeg v13) (fun s15 => bn1 (pX11_word (108 : Int32) (97 : Int32) (119 : Int32) (0 : Int32) (0 : Int32) (0 : Int32) (0 : Int32)) (fun v16 => gx (5 : Int32) 23 (lt' (wL s15 7 (5 : Int32).toNatClampNeg v16) (fun s18 => bn1 (pX11_word (97 : Int32) (108 : Int32) (108 : Int32) (0 : Int32) (0 : Int32) (0 : Int32) (0 : Int32)) (fun v19 => gx (6 : Int32) 23 (lt' (wL s18 7 (6 : Int32).toNatClampNeg v19) (fun s21 => bn1 (pX11_word (107 : Int32) (105 : Int32) (110 : Int32) (100 : Int32) (0 : Int32) (0 : Int32) (0 : Int32)) (fun v22 => gx (7 : Int32) 23 (lt' (wL s21 7 (7 : Int32).toNatClampNeg v22) (fun s24 => bn1 (pX11_word (116 : Int32) (119 : Int32) (111 : Int32) (0 : Int32) (0 : Int32) (0 : Int32) (0 : Int32)) (fun v25 => gx (8 : Int32) 23 (lt' (wL s24 7 (8 : Int32).toNatClampNeg v25) (fun s27 => bn1 (pX11_word (115 : Int32) (104 : Int32) (97 : Int32) (114 : Int32) (112 : Int32) (0 : Int32) (0 : Int32)) (fun v28 => gx (9 : Int32) 23 (lt' (wL s27 7 (9 : Int32).toNatClampNeg v28) (fun s30 => bn1 (pX11_word (107 : Int32) (110 : Int32) (111 : Int32) (119 : Int32) (110 : Int32) (0 : Int32) (0 : Int32)) (fun v31 => gx (10 : Int32) 23 (lt' (wL s30 7 (10 : Int32).toNatClampNeg v31) (fun s33 => bn1 (pX11_word (97 : Int32) (103 : Int32) (101 : Int32) (0 : Int32) (0 : Int32) (0 : Int32) (0 : Int32)) (fun v34 => gx (11 : Int32) 23 (lt' (wL s33 7 (11 : Int32).toNatClampNeg v34) (fun s36 => bn1 (pX11_word (119 : Int32) (114 : Int32) (111 : Int32) (110 : Int32) (103 : Int32) (0 : Int32) (0 : Int32)) (fun v37 => gx (12 : Int32) 23 (lt' (wL s36 7 (12 : Int32).toNatClampNeg v37) (fun s39 => bn1 (pX11_word (111 : Int32) (114 : Int32) (0 : Int32) (0 : Int32) (0 : Int32) (0 : Int32) (0 : Int32)) (fun v40 => gx (13 : Int32) 23 (lt' (wL s39 7 (13 : Int32).toNatClampNeg v40) (fun s42 => bn1 (pX11_word (97 : Int32) (110 : Int32) (100 : Int32) (0 : Int32) (0 : Int32) (0 : Int32) (0 : Int32)) (fun v43 => gx (14 : Int32) 23 (lt' (wL s42 7 (14 : Int32).toNatClampNeg v43) (fun s45 => bn1 (pX11_word (110 : Int32) (111 : Int32) (116 : Int32) (0 : Int32) (0 : Int32) (0 : Int32) (0 : Int32)) (fun v46 => gx (15 : Int32) 23 (lt' (wL s45 7 (15 : Int32).toNatClampNeg v46) (fun s48 => bn1 (pX11_word (119 : Int32) (97 : Int32) (121 : Int32) (0 : Int32) (0 : Int32) (0 : Int32) (0 : Int32)) (fun v49 => gx (16 : Int32) 23 (lt' (wL s48 7 (16 : Int32).toNatClampNeg v49) (fun s51 => bn1 (pX11_word (109 : Int32) (105 : Int32) (110 : Int32) (117 : Int32) (116 : Int32) (101 : Int32) (0 : Int32)) (fun v52 => gx (17 : Int32) 23 (lt' (wL s51 7 (17 : Int32).toNatClampNeg v52) (fun s54 => bn1 (pX11_word (109 : Int32) (111 : Int32) (110 : Int32) (116 : Int32) (104 : Int32) (0 : Int32) (0 : Int32)) (fun v55 => gx (18 : Int32) 23 (lt' (wL s54 7 (18 : Int32).toNatClampNeg v55) (fun s57 => bn1 (pX11_word (121 : Int32) (101 : Int32) (97 : Int32) (114 : Int32) (115 : Int32) (0 : Int32) (0 : Int32)) (fun v58 => gx (19 : Int32) 23 (lt' (wL s57 7 (19 : Int32).toNatClampNeg v58) (fun s60 => bn1 (pX11_word (99 : Int32) (111 : Int32) (97 : Int32) (116 : Int32) (0 : Int32) (0 : Int32) (0 : Int32)) (fun v61 => gx (20 : Int32) 23 (lt' (wL s60 7 (20 : Int32).toNatClampNeg v61) (fun s63 => bn1 (pX11_word (116 : Int32) (114 : Int32) (117 : Int32) (101 : Int32) (0 : Int32) (0 : Int32) (0 : Int32)) (fun v64 => gx (21 : Int32) 23 (lt' (wL s63 7 (21 : Int32).toNatClampNeg v64) (fun s66 => bn1 (pX11_word (102 : Int32) (97 : Int32) (108 : Int32) (115 : Int32) (101 : Int32) (0 : Int32) (0 : Int32)) (fun v67 => gx (22 : Int32) 23 (lt' (wL s66 7 (22 : Int32).toNatClampNeg v67) (fun s69 => some s69)))))))))))))))))))))))))))))))))))))))))))))))))))))))))))))))))))))
set_option maxHeartbeats 40000000 in
set_option maxRecDepth 100000 in
theorem gt_X11 {G : gG} {b mc ms : Nat} {σ : gS} : GF vR G b (7, mc, ms) RX11 cX11_init 1 none kV 388 [(0, .ref (b + 0))] [] σ (tX11 σ) := by
  unfold tX11
  refine g_aload_n (q := 389) 0 dX11_init_388 rfl rfl rfl ?_
  refine g_getA (q := 392) fX11_keys dX11_init_389 ww1051 rfl ?_
  refine g_iconst (q := 393) dX11_init_392 kI_0 rfl ?_
  refine g_bipush (q := 395) dX11_init_393 kB_115 rfl ?_
  refine g_bipush (q := 397) dX11_init_395 kB_105 rfl ?_
  refine g_bipush (q := 399) dX11_init_397 kB_103 rfl ?_
  refine g_bipush (q := 401) dX11_init_399 kB_110 rfl ?_
  refine g_iconst (q := 402) dX11_init_401 kI_0 rfl ?_
  refine g_iconst (q := 403) dX11_init_402 kI_0 rfl ?_
  refine g_iconst (q := 404) dX11_init_403 kI_0 rfl ?_
  refine g_callT (As := [.int (115 : Int32), .int (105 : Int32), .int (103 : Int32), .int (110 : Int32), .int (0 : Int32), .int (0 : Int32), .int (0 : Int32)]) (st := [.int (0 : Int32), .ref (b + 7)]) (cn_X11_word) cwX11_158 rfl dX11_init_404 rfl (Nat.le_of_ble_eq_true rfl) ⟨Nat.le_of_ble_eq_true rfl, Nat.le_of_ble_eq_true rfl⟩ (kk_PL (fun v1 => ?_))
  refine g_last (q := 408) (aX11_keys) dX11_init_407 rfl (fun s3 => ?_)
  refine g_aload_n (q := 409) 0 dX11_init_408 rfl rfl rfl ?_
  refine g_getA (q := 412) fX11_keys dX11_init_409 ww1051 rfl ?_
  refine g_iconst (q := 413) dX11_init_412 kI_1 rfl ?_
  refine g_bipush (q := 415) dX11_init_413 kB_105 rfl ?_
  refine g_bipush (q := 417) dX11_init_415 kB_102 rfl ?_
  refine g_iconst (q := 418) dX11_init_417 kI_0 rfl ?_
  refine g_iconst (q := 419) dX11_init_418 kI_0 rfl ?_
  refine g_iconst (q := 420) dX11_init_419 kI_0 rfl ?_
  refine g_iconst (q := 421) dX11_init_420 kI_0 rfl ?_
  refine g_iconst (q := 422) dX11_init_421 kI_0 rfl ?_
  refine g_callT (As := [.int (105 : Int32), .int (102 : Int32), .int (0 : Int32), .int (0 : Int32), .int (0 : Int32), .int (0 : Int32), .int (0 : Int32)]) (st := [.int (1 : Int32), .ref (b + 7)]) (cn_X11_word) cwX11_158 rfl dX11_init_422 rfl (Nat.le_of_ble_eq_true rfl) ⟨Nat.le_of_ble_eq_true rfl, Nat.le_of_ble_eq_true rfl⟩ (kk_PL (fun v4 => ?_))
  refine g_last (q := 426) (aX11_keys) dX11_init_425 rfl (fun s6 => ?_)
  refine g_aload_n (q := 427) 0 dX11_init_426 rfl rfl rfl ?_
  refine g_getA (q := 430) fX11_keys dX11_init_427 ww1051 rfl ?_
  refine g_iconst (q := 431) dX11_init_430 kI_2 rfl ?_
  refine g_bipush (q := 433) dX11_init_431 kB_115 rfl ?_
  refine g_bipush (q := 435) dX11_init_433 kB_97 rfl ?_
  refine g_bipush (q := 437) dX11_init_435 kB_121 rfl ?_
  refine g_iconst (q := 438) dX11_init_437 kI_0 rfl ?_
  refine g_iconst (q := 439) dX11_init_438 kI_0 rfl ?_
  refine g_iconst (q := 440) dX11_init_439 kI_0 rfl ?_
  refine g_iconst (q := 441) dX11_init_440 kI_0 rfl ?_
  refine g_callT (As := [.int (115 : Int32), .int (97 : Int32), .int (121 : Int32), .int (0 : Int32), .int (0 : Int32), .int (0 : Int32), .int (0 : Int32)]) (st := [.int (2 : Int32), .ref (b + 7)]) (cn_X11_word) cwX11_158 rfl dX11_init_441 rfl (Nat.le_of_ble_eq_true rfl) ⟨Nat.le_of_ble_eq_true rfl, Nat.le_of_ble_eq_true rfl⟩ (kk_PL (fun v7 => ?_))
  refine g_last (q := 445) (aX11_keys) dX11_init_444 rfl (fun s9 => ?_)
  refine g_aload_n (q := 446) 0 dX11_init_445 rfl rfl rfl ?_
  refine g_getA (q := 449) fX11_keys dX11_init_446 ww1051 rfl ?_
  refine g_iconst (q := 450) dX11_init_449 kI_3 rfl ?_
  refine g_bipush (q := 452) dX11_init_450 kB_98 rfl ?_
  refine g_bipush (q := 454) dX11_init_452 kB_111 rfl ?_
  refine g_bipush (q := 456) dX11_init_454 kB_111 rfl ?_
  refine g_bipush (q := 458) dX11_init_456 kB_107 rfl ?_
  refine g_iconst (q := 459) dX11_init_458 kI_0 rfl ?_
  refine g_iconst (q := 460) dX11_init_459 kI_0 rfl ?_
  refine g_iconst (q := 461) dX11_init_460 kI_0 rfl ?_
  refine g_callT (As := [.int (98 : Int32), .int (111 : Int32), .int (111 : Int32), .int (107 : Int32), .int (0 : Int32), .int (0 : Int32), .int (0 : Int32)]) (st := [.int (3 : Int32), .ref (b + 7)]) (cn_X11_word) cwX11_158 rfl dX11_init_461 rfl (Nat.le_of_ble_eq_true rfl) ⟨Nat.le_of_ble_eq_true rfl, Nat.le_of_ble_eq_true rfl⟩ (kk_PL (fun v10 => ?_))
  refine g_last (q := 465) (aX11_keys) dX11_init_464 rfl (fun s12 => ?_)
  refine g_aload_n (q := 466) 0 dX11_init_465 rfl rfl rfl ?_
  refine g_getA (q := 469) fX11_keys dX11_init_466 ww1051 rfl ?_
  refine g_iconst (q := 470) dX11_init_469 kI_4 rfl ?_
  refine g_bipush (q := 472) dX11_init_470 kB_119 rfl ?_
  refine g_bipush (q := 474) dX11_init_472 kB_104 rfl ?_
  refine g_bipush (q := 476) dX11_init_474 kB_101 rfl ?_
  refine g_bipush (q := 478) dX11_init_476 kB_110 rfl ?_
  refine g_iconst (q := 479) dX11_init_478 kI_0 rfl ?_
  refine g_iconst (q := 480) dX11_init_479 kI_0 rfl ?_
  refine g_iconst (q := 481) dX11_init_480 kI_0 rfl ?_
  refine g_callT (As := [.int (119 : Int32), .int (104 : Int32), .int (101 : Int32), .int (110 : Int32), .int (0 : Int32), .int (0 : Int32), .int (0 : Int32)]) (st := [.int (4 : Int32), .ref (b + 7)]) (cn_X11_word) cwX11_158 rfl dX11_init_481 rfl (Nat.le_of_ble_eq_true rfl) ⟨Nat.le_of_ble_eq_true rfl, Nat.le_of_ble_eq_true rfl⟩ (kk_PL (fun v13 => ?_))
  refine g_last (q := 485) (aX11_keys) dX11_init_484 rfl (fun s15 => ?_)
  refine g_aload_n (q := 486) 0 dX11_init_485 rfl rfl rfl ?_
  refine g_getA (q := 489) fX11_keys dX11_init_486 ww1051 rfl ?_
  refine g_iconst (q := 490) dX11_init_489 kI_5 rfl ?_
  refine g_bipush (q := 492) dX11_init_490 kB_108 rfl ?_
  refine g_bipush (q := 494) dX11_init_492 kB_97 rfl ?_
  refine g_bipush (q := 496) dX11_init_494 kB_119 rfl ?_
  refine g_iconst (q := 497) dX11_init_496 kI_0 rfl ?_
  refine g_iconst (q := 498) dX11_init_497 kI_0 rfl ?_
  refine g_iconst (q := 499) dX11_init_498 kI_0 rfl ?_
  refine g_iconst (q := 500) dX11_init_499 kI_0 rfl ?_
  refine g_callT (As := [.int (108 : Int32), .int (97 : Int32), .int (119 : Int32), .int (0 : Int32), .int (0 : Int32), .int (0 : Int32), .int (0 : Int32)]) (st := [.int (5 : Int32), .ref (b + 7)]) (cn_X11_word) cwX11_158 rfl dX11_init_500 rfl (Nat.le_of_ble_eq_true rfl) ⟨Nat.le_of_ble_eq_true rfl, Nat.le_of_ble_eq_true rfl⟩ (kk_PL (fun v16 => ?_))
  refine g_last (q := 504) (aX11_keys) dX11_init_503 rfl (fun s18 => ?_)
  refine g_aload_n (q := 505) 0 dX11_init_504 rfl rfl rfl ?_
  refine g_getA (q := 508) fX11_keys dX11_init_505 ww1051 rfl ?_
  refine g_bipush (q := 510) dX11_init_508 kB_6 rfl ?_
  refine g_bipush (q := 512) dX11_init_510 kB_97 rfl ?_
  refine g_bipush (q := 514) dX11_init_512 kB_108 rfl ?_
  refine g_bipush (q := 516) dX11_init_514 kB_108 rfl ?_
  refine g_iconst (q := 517) dX11_init_516 kI_0 rfl ?_
  refine g_iconst (q := 518) dX11_init_517 kI_0 rfl ?_
  refine g_iconst (q := 519) dX11_init_518 kI_0 rfl ?_
  refine g_iconst (q := 520) dX11_init_519 kI_0 rfl ?_
  refine g_callT (As := [.int (97 : Int32), .int (108 : Int32), .int (108 : Int32), .int (0 : Int32), .int (0 : Int32), .int (0 : Int32), .int (0 : Int32)]) (st := [.int (6 : Int32), .ref (b + 7)]) (cn_X11_word) cwX11_158 rfl dX11_init_520 rfl (Nat.le_of_ble_eq_true rfl) ⟨Nat.le_of_ble_eq_true rfl, Nat.le_of_ble_eq_true rfl⟩ (kk_PL (fun v19 => ?_))
  refine g_last (q := 524) (aX11_keys) dX11_init_523 rfl (fun s21 => ?_)
  refine g_aload_n (q := 525) 0 dX11_init_524 rfl rfl rfl ?_
  refine g_getA (q := 528) fX11_keys dX11_init_525 ww1051 rfl ?_
  refine g_bipush (q := 530) dX11_init_528 kB_7 rfl ?_
  refine g_bipush (q := 532) dX11_init_530 kB_107 rfl ?_
  refine g_bipush (q := 534) dX11_init_532 kB_105 rfl ?_
  refine g_bipush (q := 536) dX11_init_534 kB_110 rfl ?_
  refine g_bipush (q := 538) dX11_init_536 kB_100 rfl ?_
  refine g_iconst (q := 539) dX11_init_538 kI_0 rfl ?_
  refine g_iconst (q := 540) dX11_init_539 kI_0 rfl ?_
  refine g_iconst (q := 541) dX11_init_540 kI_0 rfl ?_
  refine g_callT (As := [.int (107 : Int32), .int (105 : Int32), .int (110 : Int32), .int (100 : Int32), .int (0 : Int32), .int (0 : Int32), .int (0 : Int32)]) (st := [.int (7 : Int32), .ref (b + 7)]) (cn_X11_word) cwX11_158 rfl dX11_init_541 rfl (Nat.le_of_ble_eq_true rfl) ⟨Nat.le_of_ble_eq_true rfl, Nat.le_of_ble_eq_true rfl⟩ (kk_PL (fun v22 => ?_))
  refine g_last (q := 545) (aX11_keys) dX11_init_544 rfl (fun s24 => ?_)
  refine g_aload_n (q := 546) 0 dX11_init_545 rfl rfl rfl ?_
  refine g_getA (q := 549) fX11_keys dX11_init_546 ww1051 rfl ?_
  refine g_bipush (q := 551) dX11_init_549 kB_8 rfl ?_
  refine g_bipush (q := 553) dX11_init_551 kB_116 rfl ?_
  refine g_bipush (q := 555) dX11_init_553 kB_119 rfl ?_
  refine g_bipush (q := 557) dX11_init_555 kB_111 rfl ?_
  refine g_iconst (q := 558) dX11_init_557 kI_0 rfl ?_
  refine g_iconst (q := 559) dX11_init_558 kI_0 rfl ?_
  refine g_iconst (q := 560) dX11_init_559 kI_0 rfl ?_
  refine g_iconst (q := 561) dX11_init_560 kI_0 rfl ?_
  refine g_callT (As := [.int (116 : Int32), .int (119 : Int32), .int (111 : Int32), .int (0 : Int32), .int (0 : Int32), .int (0 : Int32), .int (0 : Int32)]) (st := [.int (8 : Int32), .ref (b + 7)]) (cn_X11_word) cwX11_158 rfl dX11_init_561 rfl (Nat.le_of_ble_eq_true rfl) ⟨Nat.le_of_ble_eq_true rfl, Nat.le_of_ble_eq_true rfl⟩ (kk_PL (fun v25 => ?_))
  refine g_last (q := 565) (aX11_keys) dX11_init_564 rfl (fun s27 => ?_)
  refine g_aload_n (q := 566) 0 dX11_init_565 rfl rfl rfl ?_
  refine g_getA (q := 569) fX11_keys dX11_init_566 ww1051 rfl ?_
  refine g_bipush (q := 571) dX11_init_569 kB_9 rfl ?_
  refine g_bipush (q := 573) dX11_init_571 kB_115 rfl ?_
  refine g_bipush (q := 575) dX11_init_573 kB_104 rfl ?_
  refine g_bipush (q := 577) dX11_init_575 kB_97 rfl ?_
  refine g_bipush (q := 579) dX11_init_577 kB_114 rfl ?_
  refine g_bipush (q := 581) dX11_init_579 kB_112 rfl ?_
  refine g_iconst (q := 582) dX11_init_581 kI_0 rfl ?_
  refine g_iconst (q := 583) dX11_init_582 kI_0 rfl ?_
  refine g_callT (As := [.int (115 : Int32), .int (104 : Int32), .int (97 : Int32), .int (114 : Int32), .int (112 : Int32), .int (0 : Int32), .int (0 : Int32)]) (st := [.int (9 : Int32), .ref (b + 7)]) (cn_X11_word) cwX11_158 rfl dX11_init_583 rfl (Nat.le_of_ble_eq_true rfl) ⟨Nat.le_of_ble_eq_true rfl, Nat.le_of_ble_eq_true rfl⟩ (kk_PL (fun v28 => ?_))
  refine g_last (q := 587) (aX11_keys) dX11_init_586 rfl (fun s30 => ?_)
  refine g_aload_n (q := 588) 0 dX11_init_587 rfl rfl rfl ?_
  refine g_getA (q := 591) fX11_keys dX11_init_588 ww1051 rfl ?_
  refine g_bipush (q := 593) dX11_init_591 kB_10 rfl ?_
  refine g_bipush (q := 595) dX11_init_593 kB_107 rfl ?_
  refine g_bipush (q := 597) dX11_init_595 kB_110 rfl ?_
  refine g_bipush (q := 599) dX11_init_597 kB_111 rfl ?_
  refine g_bipush (q := 601) dX11_init_599 kB_119 rfl ?_
  refine g_bipush (q := 603) dX11_init_601 kB_110 rfl ?_
  refine g_iconst (q := 604) dX11_init_603 kI_0 rfl ?_
  refine g_iconst (q := 605) dX11_init_604 kI_0 rfl ?_
  refine g_callT (As := [.int (107 : Int32), .int (110 : Int32), .int (111 : Int32), .int (119 : Int32), .int (110 : Int32), .int (0 : Int32), .int (0 : Int32)]) (st := [.int (10 : Int32), .ref (b + 7)]) (cn_X11_word) cwX11_158 rfl dX11_init_605 rfl (Nat.le_of_ble_eq_true rfl) ⟨Nat.le_of_ble_eq_true rfl, Nat.le_of_ble_eq_true rfl⟩ (kk_PL (fun v31 => ?_))
  refine g_last (q := 609) (aX11_keys) dX11_init_608 rfl (fun s33 => ?_)
  refine g_aload_n (q := 610) 0 dX11_init_609 rfl rfl rfl ?_
  refine g_getA (q := 613) fX11_keys dX11_init_610 ww1051 rfl ?_
  refine g_bipush (q := 615) dX11_init_613 kB_11 rfl ?_
  refine g_bipush (q := 617) dX11_init_615 kB_97 rfl ?_
  refine g_bipush (q := 619) dX11_init_617 kB_103 rfl ?_
  refine g_bipush (q := 621) dX11_init_619 kB_101 rfl ?_
  refine g_iconst (q := 622) dX11_init_621 kI_0 rfl ?_
  refine g_iconst (q := 623) dX11_init_622 kI_0 rfl ?_
  refine g_iconst (q := 624) dX11_init_623 kI_0 rfl ?_
  refine g_iconst (q := 625) dX11_init_624 kI_0 rfl ?_
  refine g_callT (As := [.int (97 : Int32), .int (103 : Int32), .int (101 : Int32), .int (0 : Int32), .int (0 : Int32), .int (0 : Int32), .int (0 : Int32)]) (st := [.int (11 : Int32), .ref (b + 7)]) (cn_X11_word) cwX11_158 rfl dX11_init_625 rfl (Nat.le_of_ble_eq_true rfl) ⟨Nat.le_of_ble_eq_true rfl, Nat.le_of_ble_eq_true rfl⟩ (kk_PL (fun v34 => ?_))
  refine g_last (q := 629) (aX11_keys) dX11_init_628 rfl (fun s36 => ?_)
  refine g_aload_n (q := 630) 0 dX11_init_629 rfl rfl rfl ?_
  refine g_getA (q := 633) fX11_keys dX11_init_630 ww1051 rfl ?_
  refine g_bipush (q := 635) dX11_init_633 kB_12 rfl ?_
  refine g_bipush (q := 637) dX11_init_635 kB_119 rfl ?_
  refine g_bipush (q := 639) dX11_init_637 kB_114 rfl ?_
  refine g_bipush (q := 641) dX11_init_639 kB_111 rfl ?_
  refine g_bipush (q := 643) dX11_init_641 kB_110 rfl ?_
  refine g_bipush (q := 645) dX11_init_643 kB_103 rfl ?_
  refine g_iconst (q := 646) dX11_init_645 kI_0 rfl ?_
  refine g_iconst (q := 647) dX11_init_646 kI_0 rfl ?_
  refine g_callT (As := [.int (119 : Int32), .int (114 : Int32), .int (111 : Int32), .int (110 : Int32), .int (103 : Int32), .int (0 : Int32), .int (0 : Int32)]) (st := [.int (12 : Int32), .ref (b + 7)]) (cn_X11_word) cwX11_158 rfl dX11_init_647 rfl (Nat.le_of_ble_eq_true rfl) ⟨Nat.le_of_ble_eq_true rfl, Nat.le_of_ble_eq_true rfl⟩ (kk_PL (fun v37 => ?_))
  refine g_last (q := 651) (aX11_keys) dX11_init_650 rfl (fun s39 => ?_)
  refine g_aload_n (q := 652) 0 dX11_init_651 rfl rfl rfl ?_
  refine g_getA (q := 655) fX11_keys dX11_init_652 ww1051 rfl ?_
  refine g_bipush (q := 657) dX11_init_655 kB_13 rfl ?_
  refine g_bipush (q := 659) dX11_init_657 kB_111 rfl ?_
  refine g_bipush (q := 661) dX11_init_659 kB_114 rfl ?_
  refine g_iconst (q := 662) dX11_init_661 kI_0 rfl ?_
  refine g_iconst (q := 663) dX11_init_662 kI_0 rfl ?_
  refine g_iconst (q := 664) dX11_init_663 kI_0 rfl ?_
  refine g_iconst (q := 665) dX11_init_664 kI_0 rfl ?_
  refine g_iconst (q := 666) dX11_init_665 kI_0 rfl ?_
  refine g_callT (As := [.int (111 : Int32), .int (114 : Int32), .int (0 : Int32), .int (0 : Int32), .int (0 : Int32), .int (0 : Int32), .int (0 : Int32)]) (st := [.int (13 : Int32), .ref (b + 7)]) (cn_X11_word) cwX11_158 rfl dX11_init_666 rfl (Nat.le_of_ble_eq_true rfl) ⟨Nat.le_of_ble_eq_true rfl, Nat.le_of_ble_eq_true rfl⟩ (kk_PL (fun v40 => ?_))
  refine g_last (q := 670) (aX11_keys) dX11_init_669 rfl (fun s42 => ?_)
  refine g_aload_n (q := 671) 0 dX11_init_670 rfl rfl rfl ?_
  refine g_getA (q := 674) fX11_keys dX11_init_671 ww1051 rfl ?_
  refine g_bipush (q := 676) dX11_init_674 kB_14 rfl ?_
  refine g_bipush (q := 678) dX11_init_676 kB_97 rfl ?_
  refine g_bipush (q := 680) dX11_init_678 kB_110 rfl ?_
  refine g_bipush (q := 682) dX11_init_680 kB_100 rfl ?_
  refine g_iconst (q := 683) dX11_init_682 kI_0 rfl ?_
  refine g_iconst (q := 684) dX11_init_683 kI_0 rfl ?_
  refine g_iconst (q := 685) dX11_init_684 kI_0 rfl ?_
  refine g_iconst (q := 686) dX11_init_685 kI_0 rfl ?_
  refine g_callT (As := [.int (97 : Int32), .int (110 : Int32), .int (100 : Int32), .int (0 : Int32), .int (0 : Int32), .int (0 : Int32), .int (0 : Int32)]) (st := [.int (14 : Int32), .ref (b + 7)]) (cn_X11_word) cwX11_158 rfl dX11_init_686 rfl (Nat.le_of_ble_eq_true rfl) ⟨Nat.le_of_ble_eq_true rfl, Nat.le_of_ble_eq_true rfl⟩ (kk_PL (fun v43 => ?_))
  refine g_last (q := 690) (aX11_keys) dX11_init_689 rfl (fun s45 => ?_)
  refine g_aload_n (q := 691) 0 dX11_init_690 rfl rfl rfl ?_
  refine g_getA (q := 694) fX11_keys dX11_init_691 ww1051 rfl ?_
  refine g_bipush (q := 696) dX11_init_694 kB_15 rfl ?_
  refine g_bipush (q := 698) dX11_init_696 kB_110 rfl ?_
  refine g_bipush (q := 700) dX11_init_698 kB_111 rfl ?_
  refine g_bipush (q := 702) dX11_init_700 kB_116 rfl ?_
  refine g_iconst (q := 703) dX11_init_702 kI_0 rfl ?_
  refine g_iconst (q := 704) dX11_init_703 kI_0 rfl ?_
  refine g_iconst (q := 705) dX11_init_704 kI_0 rfl ?_
  refine g_iconst (q := 706) dX11_init_705 kI_0 rfl ?_
  refine g_callT (As := [.int (110 : Int32), .int (111 : Int32), .int (116 : Int32), .int (0 : Int32), .int (0 : Int32), .int (0 : Int32), .int (0 : Int32)]) (st := [.int (15 : Int32), .ref (b + 7)]) (cn_X11_word) cwX11_158 rfl dX11_init_706 rfl (Nat.le_of_ble_eq_true rfl) ⟨Nat.le_of_ble_eq_true rfl, Nat.le_of_ble_eq_true rfl⟩ (kk_PL (fun v46 => ?_))
  refine g_last (q := 710) (aX11_keys) dX11_init_709 rfl (fun s48 => ?_)
  refine g_aload_n (q := 711) 0 dX11_init_710 rfl rfl rfl ?_
  refine g_getA (q := 714) fX11_keys dX11_init_711 ww1051 rfl ?_
  refine g_bipush (q := 716) dX11_init_714 kB_16 rfl ?_
  refine g_bipush (q := 718) dX11_init_716 kB_119 rfl ?_
  refine g_bipush (q := 720) dX11_init_718 kB_97 rfl ?_
  refine g_bipush (q := 722) dX11_init_720 kB_121 rfl ?_
  refine g_iconst (q := 723) dX11_init_722 kI_0 rfl ?_
  refine g_iconst (q := 724) dX11_init_723 kI_0 rfl ?_
  refine g_iconst (q := 725) dX11_init_724 kI_0 rfl ?_
  refine g_iconst (q := 726) dX11_init_725 kI_0 rfl ?_
  refine g_callT (As := [.int (119 : Int32), .int (97 : Int32), .int (121 : Int32), .int (0 : Int32), .int (0 : Int32), .int (0 : Int32), .int (0 : Int32)]) (st := [.int (16 : Int32), .ref (b + 7)]) (cn_X11_word) cwX11_158 rfl dX11_init_726 rfl (Nat.le_of_ble_eq_true rfl) ⟨Nat.le_of_ble_eq_true rfl, Nat.le_of_ble_eq_true rfl⟩ (kk_PL (fun v49 => ?_))
  refine g_last (q := 730) (aX11_keys) dX11_init_729 rfl (fun s51 => ?_)
  refine g_aload_n (q := 731) 0 dX11_init_730 rfl rfl rfl ?_
  refine g_getA (q := 734) fX11_keys dX11_init_731 ww1051 rfl ?_
  refine g_bipush (q := 736) dX11_init_734 kB_17 rfl ?_
  refine g_bipush (q := 738) dX11_init_736 kB_109 rfl ?_
  refine g_bipush (q := 740) dX11_init_738 kB_105 rfl ?_
  refine g_bipush (q := 742) dX11_init_740 kB_110 rfl ?_
  refine g_bipush (q := 744) dX11_init_742 kB_117 rfl ?_
  refine g_bipush (q := 746) dX11_init_744 kB_116 rfl ?_
  refine g_bipush (q := 748) dX11_init_746 kB_101 rfl ?_
  refine g_iconst (q := 749) dX11_init_748 kI_0 rfl ?_
  refine g_callT (As := [.int (109 : Int32), .int (105 : Int32), .int (110 : Int32), .int (117 : Int32), .int (116 : Int32), .int (101 : Int32), .int (0 : Int32)]) (st := [.int (17 : Int32), .ref (b + 7)]) (cn_X11_word) cwX11_158 rfl dX11_init_749 rfl (Nat.le_of_ble_eq_true rfl) ⟨Nat.le_of_ble_eq_true rfl, Nat.le_of_ble_eq_true rfl⟩ (kk_PL (fun v52 => ?_))
  refine g_last (q := 753) (aX11_keys) dX11_init_752 rfl (fun s54 => ?_)
  refine g_aload_n (q := 754) 0 dX11_init_753 rfl rfl rfl ?_
  refine g_getA (q := 757) fX11_keys dX11_init_754 ww1051 rfl ?_
  refine g_bipush (q := 759) dX11_init_757 kB_18 rfl ?_
  refine g_bipush (q := 761) dX11_init_759 kB_109 rfl ?_
  refine g_bipush (q := 763) dX11_init_761 kB_111 rfl ?_
  refine g_bipush (q := 765) dX11_init_763 kB_110 rfl ?_
  refine g_bipush (q := 767) dX11_init_765 kB_116 rfl ?_
  refine g_bipush (q := 769) dX11_init_767 kB_104 rfl ?_
  refine g_iconst (q := 770) dX11_init_769 kI_0 rfl ?_
  refine g_iconst (q := 771) dX11_init_770 kI_0 rfl ?_
  refine g_callT (As := [.int (109 : Int32), .int (111 : Int32), .int (110 : Int32), .int (116 : Int32), .int (104 : Int32), .int (0 : Int32), .int (0 : Int32)]) (st := [.int (18 : Int32), .ref (b + 7)]) (cn_X11_word) cwX11_158 rfl dX11_init_771 rfl (Nat.le_of_ble_eq_true rfl) ⟨Nat.le_of_ble_eq_true rfl, Nat.le_of_ble_eq_true rfl⟩ (kk_PL (fun v55 => ?_))
  refine g_last (q := 775) (aX11_keys) dX11_init_774 rfl (fun s57 => ?_)
  refine g_aload_n (q := 776) 0 dX11_init_775 rfl rfl rfl ?_
  refine g_getA (q := 779) fX11_keys dX11_init_776 ww1051 rfl ?_
  refine g_bipush (q := 781) dX11_init_779 kB_19 rfl ?_
  refine g_bipush (q := 783) dX11_init_781 kB_121 rfl ?_
  refine g_bipush (q := 785) dX11_init_783 kB_101 rfl ?_
  refine g_bipush (q := 787) dX11_init_785 kB_97 rfl ?_
  refine g_bipush (q := 789) dX11_init_787 kB_114 rfl ?_
  refine g_bipush (q := 791) dX11_init_789 kB_115 rfl ?_
  refine g_iconst (q := 792) dX11_init_791 kI_0 rfl ?_
  refine g_iconst (q := 793) dX11_init_792 kI_0 rfl ?_
  refine g_callT (As := [.int (121 : Int32), .int (101 : Int32), .int (97 : Int32), .int (114 : Int32), .int (115 : Int32), .int (0 : Int32), .int (0 : Int32)]) (st := [.int (19 : Int32), .ref (b + 7)]) (cn_X11_word) cwX11_158 rfl dX11_init_793 rfl (Nat.le_of_ble_eq_true rfl) ⟨Nat.le_of_ble_eq_true rfl, Nat.le_of_ble_eq_true rfl⟩ (kk_PL (fun v58 => ?_))
  refine g_last (q := 797) (aX11_keys) dX11_init_796 rfl (fun s60 => ?_)
  refine g_aload_n (q := 798) 0 dX11_init_797 rfl rfl rfl ?_
  refine g_getA (q := 801) fX11_keys dX11_init_798 ww1051 rfl ?_
  refine g_bipush (q := 803) dX11_init_801 kB_20 rfl ?_
  refine g_bipush (q := 805) dX11_init_803 kB_99 rfl ?_
  refine g_bipush (q := 807) dX11_init_805 kB_111 rfl ?_
  refine g_bipush (q := 809) dX11_init_807 kB_97 rfl ?_
  refine g_bipush (q := 811) dX11_init_809 kB_116 rfl ?_
  refine g_iconst (q := 812) dX11_init_811 kI_0 rfl ?_
  refine g_iconst (q := 813) dX11_init_812 kI_0 rfl ?_
  refine g_iconst (q := 814) dX11_init_813 kI_0 rfl ?_
  refine g_callT (As := [.int (99 : Int32), .int (111 : Int32), .int (97 : Int32), .int (116 : Int32), .int (0 : Int32), .int (0 : Int32), .int (0 : Int32)]) (st := [.int (20 : Int32), .ref (b + 7)]) (cn_X11_word) cwX11_158 rfl dX11_init_814 rfl (Nat.le_of_ble_eq_true rfl) ⟨Nat.le_of_ble_eq_true rfl, Nat.le_of_ble_eq_true rfl⟩ (kk_PL (fun v61 => ?_))
  refine g_last (q := 818) (aX11_keys) dX11_init_817 rfl (fun s63 => ?_)
  refine g_aload_n (q := 819) 0 dX11_init_818 rfl rfl rfl ?_
  refine g_getA (q := 822) fX11_keys dX11_init_819 ww1051 rfl ?_
  refine g_bipush (q := 824) dX11_init_822 kB_21 rfl ?_
  refine g_bipush (q := 826) dX11_init_824 kB_116 rfl ?_
  refine g_bipush (q := 828) dX11_init_826 kB_114 rfl ?_
  refine g_bipush (q := 830) dX11_init_828 kB_117 rfl ?_
  refine g_bipush (q := 832) dX11_init_830 kB_101 rfl ?_
  refine g_iconst (q := 833) dX11_init_832 kI_0 rfl ?_
  refine g_iconst (q := 834) dX11_init_833 kI_0 rfl ?_
  refine g_iconst (q := 835) dX11_init_834 kI_0 rfl ?_
  refine g_callT (As := [.int (116 : Int32), .int (114 : Int32), .int (117 : Int32), .int (101 : Int32), .int (0 : Int32), .int (0 : Int32), .int (0 : Int32)]) (st := [.int (21 : Int32), .ref (b + 7)]) (cn_X11_word) cwX11_158 rfl dX11_init_835 rfl (Nat.le_of_ble_eq_true rfl) ⟨Nat.le_of_ble_eq_true rfl, Nat.le_of_ble_eq_true rfl⟩ (kk_PL (fun v64 => ?_))
  refine g_last (q := 839) (aX11_keys) dX11_init_838 rfl (fun s66 => ?_)
  refine g_aload_n (q := 840) 0 dX11_init_839 rfl rfl rfl ?_
  refine g_getA (q := 843) fX11_keys dX11_init_840 ww1051 rfl ?_
  refine g_bipush (q := 845) dX11_init_843 kB_22 rfl ?_
  refine g_bipush (q := 847) dX11_init_845 kB_102 rfl ?_
  refine g_bipush (q := 849) dX11_init_847 kB_97 rfl ?_
  refine g_bipush (q := 851) dX11_init_849 kB_108 rfl ?_
  refine g_bipush (q := 853) dX11_init_851 kB_115 rfl ?_
  refine g_bipush (q := 855) dX11_init_853 kB_101 rfl ?_
  refine g_iconst (q := 856) dX11_init_855 kI_0 rfl ?_
  refine g_iconst (q := 857) dX11_init_856 kI_0 rfl ?_
  refine g_callT (As := [.int (102 : Int32), .int (97 : Int32), .int (108 : Int32), .int (115 : Int32), .int (101 : Int32), .int (0 : Int32), .int (0 : Int32)]) (st := [.int (22 : Int32), .ref (b + 7)]) (cn_X11_word) cwX11_158 rfl dX11_init_857 rfl (Nat.le_of_ble_eq_true rfl) ⟨Nat.le_of_ble_eq_true rfl, Nat.le_of_ble_eq_true rfl⟩ (kk_PL (fun v67 => ?_))
  refine g_last (q := 861) (aX11_keys) dX11_init_860 rfl (fun s69 => ?_)
  exact (g_vret dX11_init_861)
