/-! THE MAKERS -/
def gwl (V : gV) (G : gG) (b : Nat) (τ : gS) : List va_E := (List.range V.1).map (fun k => V.2 G.2.1 b k (τ.1 k) (τ.2.1 k) (τ.2.2 k))
theorem gws_gwl {V : gV} {G : gG} {b : Nat} {τ : gS} : gws V G b τ = zws b (gwl V G b τ) := by
  apply List.ext_getElem?
  intro i
  rw [zws_get]
  by_cases h : i < V.1
  · rw [gws_at h]; simp [gwl, h]
  · simp [gws, gwl, h]
noncomputable def zF_X0 (G : gG) (b : Nat) : List va_E := gwl vH0 G b zTX0
set_option maxHeartbeats 40000000 in
set_option maxRecDepth 100000 in
theorem cz_X0 {G : gG} {b : Nat} : CZ G b 7 5 545 yX0_init cX0_init 3 0 [.ref (b + 0)] [.null, .null, .null, .null, .null] (zF_X0 G b) := by
  refine cz_of (own := RX0) rfl rfl rfl (Nat.le_of_ble_eq_true rfl) ?_
  show Zo G b 7 5 545 RX0 cX0_init 3 0 (zF_X0 G b) 0 [(0, .ref (b + 0))] [] [.null, .null, .null, .null, .null] [] 0 0
  refine z_aload_n (q := 1) 0 dX0_init_0 rfl rfl rfl ?_
  refine z_obj (q := 4) dX0_init_1 zw334 zw27 zw28 (by decide) (Nat.le_of_ble_eq_true rfl) rfl ?_
  refine z_aload_n (q := 5) 0 dX0_init_4 rfl rfl rfl ?_
  refine z_sipush (q := 8) dX0_init_5 (by decide : (Int16.ofInt (441)).toInt32 = (441 : Int32)) rfl ?_
  refine z_newa (q := 10) (t := 1) (N := 441) (x := 1) (a0 := (441, .inr (.inl (fun _ => 0)))) dX0_init_8 rfl rfl zw128 (fun _ _ hh => hh) (fun _ => rfl) (by decide) (by decide) (by decide) (by decide) (by decide) rfl rfl rfl ?_
  refine z_putF (q := 13) (k := 0) (ty := .array .long) (fs' := [.ref (b + 1), .null, .null, .null, .null]) (Nat.le_of_ble_eq_true rfl) (C := RX0) (T := TX0) (N := 5) hclX0 uwX0 tyX0_ok nmX0 dX0_init_10 zfX0_0 rfl rfl (Nat.le_of_ble_eq_true rfl) rfl rfl ?_
  refine z_aload_n (q := 14) 0 dX0_init_13 rfl rfl rfl ?_
  refine z_bipush (q := 16) dX0_init_14 (by decide : (Int8.ofInt (31)).toInt32 = (31 : Int32)) rfl ?_
  refine z_newa (q := 18) (t := 1) (N := 31) (x := 2) (a0 := (31, .inr (.inl (fun _ => 0)))) dX0_init_16 rfl rfl zw128 (fun _ _ hh => hh) (fun _ => rfl) (by decide) (by decide) (by decide) (by decide) (by decide) rfl rfl rfl ?_
  refine z_putF (q := 21) (k := 1) (ty := .array .long) (fs' := [.ref (b + 1), .ref (b + 2), .null, .null, .null]) (Nat.le_of_ble_eq_true rfl) (C := RX0) (T := TX0) (N := 5) hclX0 uwX0 tyX0_ok nmX0 dX0_init_18 zfX0_1 rfl rfl (Nat.le_of_ble_eq_true rfl) rfl rfl ?_
  refine z_aload_n (q := 22) 0 dX0_init_21 rfl rfl rfl ?_
  refine z_bipush (q := 24) dX0_init_22 (by decide : (Int8.ofInt (31)).toInt32 = (31 : Int32)) rfl ?_
  refine z_newa (q := 26) (t := 1) (N := 31) (x := 3) (a0 := (31, .inr (.inl (fun _ => 0)))) dX0_init_24 rfl rfl zw128 (fun _ _ hh => hh) (fun _ => rfl) (by decide) (by decide) (by decide) (by decide) (by decide) rfl rfl rfl ?_
  refine z_putF (q := 29) (k := 2) (ty := .array .long) (fs' := [.ref (b + 1), .ref (b + 2), .ref (b + 3), .null, .null]) (Nat.le_of_ble_eq_true rfl) (C := RX0) (T := TX0) (N := 5) hclX0 uwX0 tyX0_ok nmX0 dX0_init_26 zfX0_2 rfl rfl (Nat.le_of_ble_eq_true rfl) rfl rfl ?_
  refine z_aload_n (q := 30) 0 dX0_init_29 rfl rfl rfl ?_
  refine z_bipush (q := 32) dX0_init_30 (by decide : (Int8.ofInt (21)).toInt32 = (21 : Int32)) rfl ?_
  refine z_newa (q := 34) (t := 1) (N := 21) (x := 4) (a0 := (21, .inr (.inl (fun _ => 0)))) dX0_init_32 rfl rfl zw128 (fun _ _ hh => hh) (fun _ => rfl) (by decide) (by decide) (by decide) (by decide) (by decide) rfl rfl rfl ?_
  refine z_putF (q := 37) (k := 3) (ty := .array .long) (fs' := [.ref (b + 1), .ref (b + 2), .ref (b + 3), .ref (b + 4), .null]) (Nat.le_of_ble_eq_true rfl) (C := RX0) (T := TX0) (N := 5) hclX0 uwX0 tyX0_ok nmX0 dX0_init_34 zfX0_3 rfl rfl (Nat.le_of_ble_eq_true rfl) rfl rfl ?_
  refine z_aload_n (q := 38) 0 dX0_init_37 rfl rfl rfl ?_
  refine z_bipush (q := 40) dX0_init_38 (by decide : (Int8.ofInt (21)).toInt32 = (21 : Int32)) rfl ?_
  refine z_newa (q := 42) (t := 1) (N := 21) (x := 5) (a0 := (21, .inr (.inl (fun _ => 0)))) dX0_init_40 rfl rfl zw128 (fun _ _ hh => hh) (fun _ => rfl) (by decide) (by decide) (by decide) (by decide) (by decide) rfl rfl rfl ?_
  refine z_putF (q := 45) (k := 4) (ty := .array .long) (fs' := [.ref (b + 1), .ref (b + 2), .ref (b + 3), .ref (b + 4), .ref (b + 5)]) (Nat.le_of_ble_eq_true rfl) (C := RX0) (T := TX0) (N := 5) hclX0 uwX0 tyX0_ok nmX0 dX0_init_42 zfX0_4 rfl rfl (Nat.le_of_ble_eq_true rfl) rfl rfl ?_
  exact z_tail (V := vH0) (σ := zS0) (τ := zTX0) rfl (gws_gwl.trans rfl) gt_X0 zTX0_hx gws_gwl rfl rfl
noncomputable def zF_X8 (G : gG) (b : Nat) : List va_E := gwl vH8 G b zTX8
set_option maxHeartbeats 40000000 in
set_option maxRecDepth 100000 in
theorem cz_X8 {G : gG} {b : Nat} : CZ G b 7 4 1226 yX8_init cX8_init 6 8 [.ref (b + 0)] [.null, .null, .null, .int 0, .null] (zF_X8 G b) := by
  refine cz_of (own := RX8) rfl rfl rfl (Nat.le_of_ble_eq_true rfl) ?_
  show Zo G b 7 4 1226 RX8 cX8_init 6 8 (zF_X8 G b) 0 [(0, .ref (b + 0))] [] [.null, .null, .null, .int 0, .null] [] 0 0
  refine z_aload_n (q := 1) 0 dX8_init_0 rfl rfl rfl ?_
  refine z_obj (q := 4) dX8_init_1 zw55 zw27 zw28 (by decide) (Nat.le_of_ble_eq_true rfl) rfl ?_
  refine z_aload_n (q := 5) 0 dX8_init_4 rfl rfl rfl ?_
  refine z_sipush (q := 8) dX8_init_5 (by decide : (Int16.ofInt (401)).toInt32 = (401 : Int32)) rfl ?_
  refine z_newa (q := 10) (t := 0) (N := 401) (x := 1) (a0 := (401, .inl (fun _ => 0))) dX8_init_8 rfl rfl zw43 (fun _ _ hh => hh) (fun _ => rfl) (by decide) (by decide) (by decide) (by decide) (by decide) rfl rfl rfl ?_
  refine z_putF (q := 13) (k := 0) (ty := .array .int) (fs' := [.ref (b + 1), .null, .null, .int 0, .null]) (Nat.le_of_ble_eq_true rfl) (C := RX8) (T := TX8) (N := 5) hclX8 uwX8 tyX8_ok nmX8 dX8_init_10 zfX8_0 rfl rfl (Nat.le_of_ble_eq_true rfl) rfl rfl ?_
  refine z_aload_n (q := 14) 0 dX8_init_13 rfl rfl rfl ?_
  refine z_sipush (q := 17) dX8_init_14 (by decide : (Int16.ofInt (401)).toInt32 = (401 : Int32)) rfl ?_
  refine z_newa (q := 19) (t := 0) (N := 401) (x := 2) (a0 := (401, .inl (fun _ => 0))) dX8_init_17 rfl rfl zw43 (fun _ _ hh => hh) (fun _ => rfl) (by decide) (by decide) (by decide) (by decide) (by decide) rfl rfl rfl ?_
  refine z_putF (q := 22) (k := 1) (ty := .array .int) (fs' := [.ref (b + 1), .ref (b + 2), .null, .int 0, .null]) (Nat.le_of_ble_eq_true rfl) (C := RX8) (T := TX8) (N := 5) hclX8 uwX8 tyX8_ok nmX8 dX8_init_19 zfX8_1 rfl rfl (Nat.le_of_ble_eq_true rfl) rfl rfl ?_
  refine z_aload_n (q := 23) 0 dX8_init_22 rfl rfl rfl ?_
  refine z_sipush (q := 26) dX8_init_23 (by decide : (Int16.ofInt (401)).toInt32 = (401 : Int32)) rfl ?_
  refine z_newa (q := 28) (t := 1) (N := 401) (x := 3) (a0 := (401, .inr (.inl (fun _ => 0)))) dX8_init_26 rfl rfl zw128 (fun _ _ hh => hh) (fun _ => rfl) (by decide) (by decide) (by decide) (by decide) (by decide) rfl rfl rfl ?_
  refine z_putF (q := 31) (k := 2) (ty := .array .long) (fs' := [.ref (b + 1), .ref (b + 2), .ref (b + 3), .int 0, .null]) (Nat.le_of_ble_eq_true rfl) (C := RX8) (T := TX8) (N := 5) hclX8 uwX8 tyX8_ok nmX8 dX8_init_28 zfX8_2 rfl rfl (Nat.le_of_ble_eq_true rfl) rfl rfl ?_
  refine z_aload_n (q := 32) 0 dX8_init_31 rfl rfl rfl ?_
  refine z_iconst (q := 33) dX8_init_32 (by decide : Int32.ofInt (0) = (0 : Int32)) rfl ?_
  refine z_put (q := 36) (k := 3) (ty := .int) (fs' := [.ref (b + 1), .ref (b + 2), .ref (b + 3), .int (0 : Int32), .null]) (Nat.le_of_ble_eq_true rfl) (C := RX8) (T := TX8) (N := 5) hclX8 uwX8 tyX8_ok nmX8 dX8_init_33 zfX8_3 rfl rfl (Nat.le_of_ble_eq_true rfl) rfl rfl ?_
  refine z_aload_n (q := 37) 0 dX8_init_36 rfl rfl rfl ?_
  refine z_bipush (q := 39) dX8_init_37 (by decide : (Int8.ofInt (23)).toInt32 = (23 : Int32)) rfl ?_
  refine z_newa (q := 41) (t := 1) (N := 23) (x := 4) (a0 := (23, .inr (.inl (fun _ => 0)))) dX8_init_39 rfl rfl zw128 (fun _ _ hh => hh) (fun _ => rfl) (by decide) (by decide) (by decide) (by decide) (by decide) rfl rfl rfl ?_
  refine z_putF (q := 44) (k := 4) (ty := .array .long) (fs' := [.ref (b + 1), .ref (b + 2), .ref (b + 3), .int (0 : Int32), .ref (b + 4)]) (Nat.le_of_ble_eq_true rfl) (C := RX8) (T := TX8) (N := 5) hclX8 uwX8 tyX8_ok nmX8 dX8_init_41 zfX8_4 rfl rfl (Nat.le_of_ble_eq_true rfl) rfl rfl ?_
  exact z_tail (V := vH8) (σ := zS0) (τ := zTX8) rfl (gws_gwl.trans rfl) gt_X8 zTX8_hx gws_gwl rfl rfl
theorem czX7_11 : cwZ RX7 11 yX8_init  cX8_init 6 0 := ⟨⟨zw52, zw53, zw4, zw54⟩, rfl, by decide, by decide, rfl⟩
theorem czX7_20 : cwZN RX7 20 yX9_init "SkyTrial" cX9_init 1 0 := ⟨⟨nest_in 132 (by decide +kernel) rfl, zw133, zw9, zw134⟩, rfl, by decide, by decide, rfl⟩
noncomputable def zF_X7 (G : gG) (b : Nat) : List va_E := .inr (7, [.ref (b + 1), .ref (b + 6), .int (0 : Int32), .int (36 : Int32), .long (0 : Int64), .int (0 : Int32), .int (0 : Int32), .int (-1 : Int32), .int (0 : Int32), .int (-1 : Int32), .ref (b + 15), .ref (b + 16), .ref (b + 17), .int (0 : Int32)]) :: (zF_X8 G (b + 1) ++ zF_X9 G (b + 6) ++ [.inl (G.2.1 1, 30, .inr (.inl (fun _ => 0))), .inl (G.2.1 0, 30, .inl (fun _ => 0)), .inl (G.2.1 0, 30, .inl (fun _ => 0))])
set_option maxHeartbeats 40000000 in
set_option maxRecDepth 100000 in
theorem cz_X7 {G : gG} {b : Nat} : CZ G b 8 17 2323 yX7_init cX7_init 1 7 [.ref (b + 0)] [.null, .null, .int 0, .int 0, .long 0, .int 0, .int 0, .int 0, .int 0, .int 0, .null, .null, .null, .int 0] (zF_X7 G b) := by
  refine cz_of (own := RX7) rfl rfl rfl (Nat.le_of_ble_eq_true rfl) ?_
  show Zo G b 8 17 2323 RX7 cX7_init 1 7 (zF_X7 G b) 0 [(0, .ref (b + 0))] [] [.null, .null, .int 0, .int 0, .long 0, .int 0, .int 0, .int 0, .int 0, .int 0, .null, .null, .null, .int 0] [] 0 0
  refine z_aload_n (q := 1) 0 dX7_init_0 rfl rfl rfl ?_
  refine z_obj (q := 4) dX7_init_1 zw49 zw27 zw28 (by decide) (Nat.le_of_ble_eq_true rfl) rfl ?_
  refine z_aload_n (q := 5) 0 dX7_init_4 rfl rfl rfl ?_
  refine z_new (q := 8) (x := 1) (cj := 8) (fs1 := [.null, .null, .null, .int 0, .null]) tyX8 rfl uwX8 tyX8_ok dX7_init_5 zw50 zw51 zw4 (by decide +kernel) (by decide) (by decide) rfl rfl rfl ?_
  refine z_dup (q := 9) dX7_init_8 rfl rfl ?_
  refine z_call (q := 12) (As := []) (st := [.ref (b + 1), .ref (b + 0)]) (h' := 7) (mc' := 4) (ms' := 1226) cz_X8 czX7_11 rfl dX7_init_9 rfl rfl rfl rfl (Nat.le_of_ble_eq_true rfl) (by decide) (by decide) rfl ?_
  refine z_putF (q := 15) (k := 0) (ty := .object "SkyTrial$Tokens") (fs' := [.ref (b + 1), .null, .int 0, .int 0, .long 0, .int 0, .int 0, .int 0, .int 0, .int 0, .null, .null, .null, .int 0]) (Nat.le_of_ble_eq_true rfl) (C := RX7) (T := TX7) (N := 14) hclX7 uwX7 tyX7_ok nmX7 dX7_init_12 zfX7_0 rfl rfl (Nat.le_of_ble_eq_true rfl) rfl rfl ?_
  refine z_aload_n (q := 16) 0 dX7_init_15 rfl rfl rfl ?_
  refine z_new (q := 19) (x := 6) (cj := 9) (fs1 := [.int 0, .int 0, .int 0, .int 0, .int 0, .null, .null, .null, .null, .null, .null, .null, .null, .int 0]) tyX9 rfl uwX9 tyX9_ok dX7_init_16 zw130 zw131 zw9 (by decide +kernel) (by decide) (by decide) rfl rfl rfl ?_
  refine z_dup (q := 20) dX7_init_19 rfl rfl ?_
  refine z_callN (q := 23) (As := []) (st := [.ref (b + 6), .ref (b + 0)]) (h' := 1) (mc' := 8) (ms' := 988) cz_X9 czX7_20 rfl dX7_init_20 rfl rfl rfl rfl (Nat.le_of_ble_eq_true rfl) (by decide) (by decide) rfl ?_
  refine z_put (q := 26) (k := 1) (ty := .object "SkyTrial$Told") (fs' := [.ref (b + 1), .ref (b + 6), .int 0, .int 0, .long 0, .int 0, .int 0, .int 0, .int 0, .int 0, .null, .null, .null, .int 0]) (Nat.le_of_ble_eq_true rfl) (C := RX7) (T := TX7) (N := 14) hclX7 uwX7 tyX7_ok nmX7 dX7_init_23 zfX7_1 rfl rfl (Nat.le_of_ble_eq_true rfl) rfl rfl ?_
  refine z_aload_n (q := 27) 0 dX7_init_26 rfl rfl rfl ?_
  refine z_iconst (q := 28) dX7_init_27 (by decide : Int32.ofInt (0) = (0 : Int32)) rfl ?_
  refine z_put (q := 31) (k := 2) (ty := .int) (fs' := [.ref (b + 1), .ref (b + 6), .int (0 : Int32), .int 0, .long 0, .int 0, .int 0, .int 0, .int 0, .int 0, .null, .null, .null, .int 0]) (Nat.le_of_ble_eq_true rfl) (C := RX7) (T := TX7) (N := 14) hclX7 uwX7 tyX7_ok nmX7 dX7_init_28 zfX7_2 rfl rfl (Nat.le_of_ble_eq_true rfl) rfl rfl ?_
  refine z_aload_n (q := 32) 0 dX7_init_31 rfl rfl rfl ?_
  refine z_bipush (q := 34) dX7_init_32 (by decide : (Int8.ofInt (36)).toInt32 = (36 : Int32)) rfl ?_
  refine z_put (q := 37) (k := 3) (ty := .int) (fs' := [.ref (b + 1), .ref (b + 6), .int (0 : Int32), .int (36 : Int32), .long 0, .int 0, .int 0, .int 0, .int 0, .int 0, .null, .null, .null, .int 0]) (Nat.le_of_ble_eq_true rfl) (C := RX7) (T := TX7) (N := 14) hclX7 uwX7 tyX7_ok nmX7 dX7_init_34 zfX7_3 rfl rfl (Nat.le_of_ble_eq_true rfl) rfl rfl ?_
  refine z_aload_n (q := 38) 0 dX7_init_37 rfl rfl rfl ?_
  refine z_lconst (q := 39) (v := (0 : Int64)) dX7_init_38 rfl rfl ?_
  refine z_put (q := 42) (k := 4) (ty := .long) (fs' := [.ref (b + 1), .ref (b + 6), .int (0 : Int32), .int (36 : Int32), .long (0 : Int64), .int 0, .int 0, .int 0, .int 0, .int 0, .null, .null, .null, .int 0]) (Nat.le_of_ble_eq_true rfl) (C := RX7) (T := TX7) (N := 14) hclX7 uwX7 tyX7_ok nmX7 dX7_init_39 zfX7_4 rfl rfl (Nat.le_of_ble_eq_true rfl) rfl rfl ?_
  refine z_aload_n (q := 43) 0 dX7_init_42 rfl rfl rfl ?_
  refine z_iconst (q := 44) dX7_init_43 (by decide : Int32.ofInt (0) = (0 : Int32)) rfl ?_
  refine z_put (q := 47) (k := 5) (ty := .int) (fs' := [.ref (b + 1), .ref (b + 6), .int (0 : Int32), .int (36 : Int32), .long (0 : Int64), .int (0 : Int32), .int 0, .int 0, .int 0, .int 0, .null, .null, .null, .int 0]) (Nat.le_of_ble_eq_true rfl) (C := RX7) (T := TX7) (N := 14) hclX7 uwX7 tyX7_ok nmX7 dX7_init_44 zfX7_5 rfl rfl (Nat.le_of_ble_eq_true rfl) rfl rfl ?_
  refine z_aload_n (q := 48) 0 dX7_init_47 rfl rfl rfl ?_
  refine z_iconst (q := 49) dX7_init_48 (by decide : Int32.ofInt (0) = (0 : Int32)) rfl ?_
  refine z_put (q := 52) (k := 6) (ty := .int) (fs' := [.ref (b + 1), .ref (b + 6), .int (0 : Int32), .int (36 : Int32), .long (0 : Int64), .int (0 : Int32), .int (0 : Int32), .int 0, .int 0, .int 0, .null, .null, .null, .int 0]) (Nat.le_of_ble_eq_true rfl) (C := RX7) (T := TX7) (N := 14) hclX7 uwX7 tyX7_ok nmX7 dX7_init_49 zfX7_6 rfl rfl (Nat.le_of_ble_eq_true rfl) rfl rfl ?_
  refine z_aload_n (q := 53) 0 dX7_init_52 rfl rfl rfl ?_
  refine z_iconst (q := 54) dX7_init_53 (by decide : Int32.ofInt (-1) = (-1 : Int32)) rfl ?_
  refine z_put (q := 57) (k := 7) (ty := .int) (fs' := [.ref (b + 1), .ref (b + 6), .int (0 : Int32), .int (36 : Int32), .long (0 : Int64), .int (0 : Int32), .int (0 : Int32), .int (-1 : Int32), .int 0, .int 0, .null, .null, .null, .int 0]) (Nat.le_of_ble_eq_true rfl) (C := RX7) (T := TX7) (N := 14) hclX7 uwX7 tyX7_ok nmX7 dX7_init_54 zfX7_7 rfl rfl (Nat.le_of_ble_eq_true rfl) rfl rfl ?_
  refine z_aload_n (q := 58) 0 dX7_init_57 rfl rfl rfl ?_
  refine z_iconst (q := 59) dX7_init_58 (by decide : Int32.ofInt (0) = (0 : Int32)) rfl ?_
  refine z_put (q := 62) (k := 8) (ty := .int) (fs' := [.ref (b + 1), .ref (b + 6), .int (0 : Int32), .int (36 : Int32), .long (0 : Int64), .int (0 : Int32), .int (0 : Int32), .int (-1 : Int32), .int (0 : Int32), .int 0, .null, .null, .null, .int 0]) (Nat.le_of_ble_eq_true rfl) (C := RX7) (T := TX7) (N := 14) hclX7 uwX7 tyX7_ok nmX7 dX7_init_59 zfX7_8 rfl rfl (Nat.le_of_ble_eq_true rfl) rfl rfl ?_
  refine z_aload_n (q := 63) 0 dX7_init_62 rfl rfl rfl ?_
  refine z_iconst (q := 64) dX7_init_63 (by decide : Int32.ofInt (-1) = (-1 : Int32)) rfl ?_
  refine z_put (q := 67) (k := 9) (ty := .int) (fs' := [.ref (b + 1), .ref (b + 6), .int (0 : Int32), .int (36 : Int32), .long (0 : Int64), .int (0 : Int32), .int (0 : Int32), .int (-1 : Int32), .int (0 : Int32), .int (-1 : Int32), .null, .null, .null, .int 0]) (Nat.le_of_ble_eq_true rfl) (C := RX7) (T := TX7) (N := 14) hclX7 uwX7 tyX7_ok nmX7 dX7_init_64 zfX7_9 rfl rfl (Nat.le_of_ble_eq_true rfl) rfl rfl ?_
  refine z_aload_n (q := 68) 0 dX7_init_67 rfl rfl rfl ?_
  refine z_bipush (q := 70) dX7_init_68 (by decide : (Int8.ofInt (30)).toInt32 = (30 : Int32)) rfl ?_
  refine z_newa (q := 72) (t := 1) (N := 30) (x := 15) (a0 := (30, .inr (.inl (fun _ => 0)))) dX7_init_70 rfl rfl zw128 (fun _ _ hh => hh) (fun _ => rfl) (by decide) (by decide) (by decide) (by decide) (by decide) rfl rfl rfl ?_
  refine z_putF (q := 75) (k := 10) (ty := .array .long) (fs' := [.ref (b + 1), .ref (b + 6), .int (0 : Int32), .int (36 : Int32), .long (0 : Int64), .int (0 : Int32), .int (0 : Int32), .int (-1 : Int32), .int (0 : Int32), .int (-1 : Int32), .ref (b + 15), .null, .null, .int 0]) (Nat.le_of_ble_eq_true rfl) (C := RX7) (T := TX7) (N := 14) hclX7 uwX7 tyX7_ok nmX7 dX7_init_72 zfX7_10 rfl rfl (Nat.le_of_ble_eq_true rfl) rfl rfl ?_
  refine z_aload_n (q := 76) 0 dX7_init_75 rfl rfl rfl ?_
  refine z_bipush (q := 78) dX7_init_76 (by decide : (Int8.ofInt (30)).toInt32 = (30 : Int32)) rfl ?_
  refine z_newa (q := 80) (t := 0) (N := 30) (x := 16) (a0 := (30, .inl (fun _ => 0))) dX7_init_78 rfl rfl zw43 (fun _ _ hh => hh) (fun _ => rfl) (by decide) (by decide) (by decide) (by decide) (by decide) rfl rfl rfl ?_
  refine z_putF (q := 83) (k := 11) (ty := .array .int) (fs' := [.ref (b + 1), .ref (b + 6), .int (0 : Int32), .int (36 : Int32), .long (0 : Int64), .int (0 : Int32), .int (0 : Int32), .int (-1 : Int32), .int (0 : Int32), .int (-1 : Int32), .ref (b + 15), .ref (b + 16), .null, .int 0]) (Nat.le_of_ble_eq_true rfl) (C := RX7) (T := TX7) (N := 14) hclX7 uwX7 tyX7_ok nmX7 dX7_init_80 zfX7_11 rfl rfl (Nat.le_of_ble_eq_true rfl) rfl rfl ?_
  refine z_aload_n (q := 84) 0 dX7_init_83 rfl rfl rfl ?_
  refine z_bipush (q := 86) dX7_init_84 (by decide : (Int8.ofInt (30)).toInt32 = (30 : Int32)) rfl ?_
  refine z_newa (q := 88) (t := 0) (N := 30) (x := 17) (a0 := (30, .inl (fun _ => 0))) dX7_init_86 rfl rfl zw43 (fun _ _ hh => hh) (fun _ => rfl) (by decide) (by decide) (by decide) (by decide) (by decide) rfl rfl rfl ?_
  refine z_putF (q := 91) (k := 12) (ty := .array .int) (fs' := [.ref (b + 1), .ref (b + 6), .int (0 : Int32), .int (36 : Int32), .long (0 : Int64), .int (0 : Int32), .int (0 : Int32), .int (-1 : Int32), .int (0 : Int32), .int (-1 : Int32), .ref (b + 15), .ref (b + 16), .ref (b + 17), .int 0]) (Nat.le_of_ble_eq_true rfl) (C := RX7) (T := TX7) (N := 14) hclX7 uwX7 tyX7_ok nmX7 dX7_init_88 zfX7_12 rfl rfl (Nat.le_of_ble_eq_true rfl) rfl rfl ?_
  refine z_aload_n (q := 92) 0 dX7_init_91 rfl rfl rfl ?_
  refine z_iconst (q := 93) dX7_init_92 (by decide : Int32.ofInt (0) = (0 : Int32)) rfl ?_
  refine z_put (q := 96) (k := 13) (ty := .int) (fs' := [.ref (b + 1), .ref (b + 6), .int (0 : Int32), .int (36 : Int32), .long (0 : Int64), .int (0 : Int32), .int (0 : Int32), .int (-1 : Int32), .int (0 : Int32), .int (-1 : Int32), .ref (b + 15), .ref (b + 16), .ref (b + 17), .int (0 : Int32)]) (Nat.le_of_ble_eq_true rfl) (C := RX7) (T := TX7) (N := 14) hclX7 uwX7 tyX7_ok nmX7 dX7_init_93 zfX7_13 rfl rfl (Nat.le_of_ble_eq_true rfl) rfl rfl ?_
  exact z_ret dX7_init_96 rfl rfl rfl
theorem czX10_9 : cwZN RX10 9 yX6_init "SkyTrial" cX6_init 1 0 := ⟨⟨nest_in 31 (by decide +kernel) rfl, zw32, zw2, zw33⟩, rfl, by decide, by decide, rfl⟩
theorem czX10_18 : cwZN RX10 18 yX7_init "SkyTrial" cX7_init 1 0 := ⟨⟨nest_in 46 (by decide +kernel) rfl, zw47, zw3, zw48⟩, rfl, by decide, by decide, rfl⟩
theorem czX10_25 : cwZN RX10 25 yX2_init "SkyTrial" cX2_init 1 0 := ⟨⟨nest_in 244 (by decide +kernel) rfl, zw245, zw10, zw246⟩, rfl, by decide, by decide, rfl⟩
theorem czX10_32 : cwZ RX10 32 yX4_init  cX4_init 2 1 := ⟨⟨zw259, zw260, zw11, zw261⟩, rfl, by decide, by decide, rfl⟩
theorem czX10_41 : cwZN RX10 41 yX1_init "SkyTrial" cX1_init 1 0 := ⟨⟨nest_in 306 (by decide +kernel) rfl, zw307, zw13, zw308⟩, rfl, by decide, by decide, rfl⟩
theorem czX10_48 : cwZ RX10 48 yX0_init  cX0_init 3 0 := ⟨⟨zw331, zw332, zw14, zw333⟩, rfl, by decide, by decide, rfl⟩
theorem czX10_55 : cwZN RX10 55 yX5_init "SkyTrial" cX5_init 1 0 := ⟨⟨nest_in 353 (by decide +kernel) rfl, zw354, zw15, zw355⟩, rfl, by decide, by decide, rfl⟩
noncomputable def zF_X10 (G : gG) (b : Nat) : List va_E := .inr (10, [.ref (b + 1), .ref (b + 3), .ref (b + 21), .ref (b + 23), .ref (b + 39), .ref (b + 44), .ref (b + 50)]) :: (zF_X6 G (b + 1) ++ zF_X7 G (b + 3) ++ zF_X2 G (b + 21) ++ zF_X4 G (b + 23) (b + 21) ++ zF_X1 G (b + 39) ++ zF_X0 G (b + 44) ++ zF_X5 G (b + 50))
set_option maxHeartbeats 40000000 in
set_option maxRecDepth 100000 in
theorem cz_X10 {G : gG} {b : Nat} : CZ G b 9 50 6512 yX10_init cX10_init 1 10 [.ref (b + 0)] [.null, .null, .null, .null, .null, .null, .null] (zF_X10 G b) := by
  refine cz_of (own := RX10) rfl rfl rfl (Nat.le_of_ble_eq_true rfl) ?_
  show Zo G b 9 50 6512 RX10 cX10_init 1 10 (zF_X10 G b) 0 [(0, .ref (b + 0))] [] [.null, .null, .null, .null, .null, .null, .null] [] 0 0
  refine z_aload_n (q := 1) 0 dX10_init_0 rfl rfl rfl ?_
  refine z_obj (q := 4) dX10_init_1 zw26 zw27 zw28 (by decide) (Nat.le_of_ble_eq_true rfl) rfl ?_
  refine z_aload_n (q := 5) 0 dX10_init_4 rfl rfl rfl ?_
  refine z_new (q := 8) (x := 1) (cj := 6) (fs1 := [.null, .int 0]) tyX6 rfl uwX6 tyX6_ok dX10_init_5 zw29 zw30 zw2 (by decide +kernel) (by decide) (by decide) rfl rfl rfl ?_
  refine z_dup (q := 9) dX10_init_8 rfl rfl ?_
  refine z_callN (q := 12) (As := []) (st := [.ref (b + 1), .ref (b + 0)]) (h' := 1) (mc' := 1) (ms' := 2000) cz_X6 czX10_9 rfl dX10_init_9 rfl rfl rfl rfl (Nat.le_of_ble_eq_true rfl) (by decide) (by decide) rfl ?_
  refine z_putF (q := 15) (k := 0) (ty := .object "SkyTrial$Tape") (fs' := [.ref (b + 1), .null, .null, .null, .null, .null, .null]) (Nat.le_of_ble_eq_true rfl) (C := RX10) (T := TX10) (N := 7) hclX10 uwX10 tyX10_ok nmX10 dX10_init_12 zfX10_0 rfl rfl (Nat.le_of_ble_eq_true rfl) rfl rfl ?_
  refine z_aload_n (q := 16) 0 dX10_init_15 rfl rfl rfl ?_
  refine z_new (q := 19) (x := 3) (cj := 7) (fs1 := [.null, .null, .int 0, .int 0, .long 0, .int 0, .int 0, .int 0, .int 0, .int 0, .null, .null, .null, .int 0]) tyX7 rfl uwX7 tyX7_ok dX10_init_16 zw44 zw45 zw3 (by decide +kernel) (by decide) (by decide) rfl rfl rfl ?_
  refine z_dup (q := 20) dX10_init_19 rfl rfl ?_
  refine z_callN (q := 23) (As := []) (st := [.ref (b + 3), .ref (b + 0)]) (h' := 8) (mc' := 17) (ms' := 2323) cz_X7 czX10_18 rfl dX10_init_20 rfl rfl rfl rfl (Nat.le_of_ble_eq_true rfl) (by decide) (by decide) rfl ?_
  refine z_putF (q := 26) (k := 1) (ty := .object "SkyTrial$TextReader") (fs' := [.ref (b + 1), .ref (b + 3), .null, .null, .null, .null, .null]) (Nat.le_of_ble_eq_true rfl) (C := RX10) (T := TX10) (N := 7) hclX10 uwX10 tyX10_ok nmX10 dX10_init_23 zfX10_1 rfl rfl (Nat.le_of_ble_eq_true rfl) rfl rfl ?_
  refine z_aload_n (q := 27) 0 dX10_init_26 rfl rfl rfl ?_
  refine z_new (q := 30) (x := 21) (cj := 2) (fs1 := [.null, .int 0]) tyX2 rfl uwX2 tyX2_ok dX10_init_27 zw242 zw243 zw10 (by decide +kernel) (by decide) (by decide) rfl rfl rfl ?_
  refine z_dup (q := 31) dX10_init_30 rfl rfl ?_
  refine z_callN (q := 34) (As := []) (st := [.ref (b + 21), .ref (b + 0)]) (h' := 1) (mc' := 1) (ms' := 240) cz_X2 czX10_25 rfl dX10_init_31 rfl rfl rfl rfl (Nat.le_of_ble_eq_true rfl) (by decide) (by decide) rfl ?_
  refine z_putF (q := 37) (k := 2) (ty := .object "SkyTrial$People") (fs' := [.ref (b + 1), .ref (b + 3), .ref (b + 21), .null, .null, .null, .null]) (Nat.le_of_ble_eq_true rfl) (C := RX10) (T := TX10) (N := 7) hclX10 uwX10 tyX10_ok nmX10 dX10_init_34 zfX10_2 rfl rfl (Nat.le_of_ble_eq_true rfl) rfl rfl ?_
  refine z_aload_n (q := 38) 0 dX10_init_37 rfl rfl rfl ?_
  refine z_new (q := 41) (x := 23) (cj := 4) (fs1 := [.null, .null, .null, .null, .null, .null]) tyX4 rfl uwX4 tyX4_ok dX10_init_38 zw257 zw258 zw11 (by decide +kernel) (by decide) (by decide) rfl rfl rfl ?_
  refine z_dup (q := 42) dX10_init_41 rfl rfl ?_
  refine z_aload_n (q := 43) 0 dX10_init_42 rfl rfl rfl ?_
  refine z_get (q := 46) (k := 2) (v := .ref (b + 21)) (C := RX10) (T := TX10) (N := 7) rfl uwX10 dX10_init_43 (by decide) zw379 rfl rfl ?_
  refine z_call (q := 49) (As := [.ref (b + 21)]) (st := [.ref (b + 23), .ref (b + 0)]) (h' := 2) (mc' := 15) (ms' := 1126) cz_X4 czX10_32 rfl dX10_init_46 rfl rfl rfl rfl (Nat.le_of_ble_eq_true rfl) (by decide) (by decide) rfl ?_
  refine z_putF (q := 52) (k := 3) (ty := .object "SkyTrial$Sky") (fs' := [.ref (b + 1), .ref (b + 3), .ref (b + 21), .ref (b + 23), .null, .null, .null]) (Nat.le_of_ble_eq_true rfl) (C := RX10) (T := TX10) (N := 7) hclX10 uwX10 tyX10_ok nmX10 dX10_init_49 zfX10_3 rfl rfl (Nat.le_of_ble_eq_true rfl) rfl rfl ?_
  refine z_aload_n (q := 53) 0 dX10_init_52 rfl rfl rfl ?_
  refine z_new (q := 56) (x := 39) (cj := 1) (fs1 := [.null, .null, .null, .null, .int 0]) tyX1 rfl uwX1 tyX1_ok dX10_init_53 zw304 zw305 zw13 (by decide +kernel) (by decide) (by decide) rfl rfl rfl ?_
  refine z_dup (q := 57) dX10_init_56 rfl rfl ?_
  refine z_callN (q := 60) (As := []) (st := [.ref (b + 39), .ref (b + 0)]) (h' := 1) (mc' := 4) (ms' := 240) cz_X1 czX10_41 rfl dX10_init_57 rfl rfl rfl rfl (Nat.le_of_ble_eq_true rfl) (by decide) (by decide) rfl ?_
  refine z_putF (q := 63) (k := 4) (ty := .object "SkyTrial$Facts") (fs' := [.ref (b + 1), .ref (b + 3), .ref (b + 21), .ref (b + 23), .ref (b + 39), .null, .null]) (Nat.le_of_ble_eq_true rfl) (C := RX10) (T := TX10) (N := 7) hclX10 uwX10 tyX10_ok nmX10 dX10_init_60 zfX10_4 rfl rfl (Nat.le_of_ble_eq_true rfl) rfl rfl ?_
  refine z_aload_n (q := 64) 0 dX10_init_63 rfl rfl rfl ?_
  refine z_new (q := 67) (x := 44) (cj := 0) (fs1 := [.null, .null, .null, .null, .null]) tyX0 rfl uwX0 tyX0_ok dX10_init_64 zw329 zw330 zw14 (by decide +kernel) (by decide) (by decide) rfl rfl rfl ?_
  refine z_dup (q := 68) dX10_init_67 rfl rfl ?_
  refine z_call (q := 71) (As := []) (st := [.ref (b + 44), .ref (b + 0)]) (h' := 7) (mc' := 5) (ms' := 545) cz_X0 czX10_48 rfl dX10_init_68 rfl rfl rfl rfl (Nat.le_of_ble_eq_true rfl) (by decide) (by decide) rfl ?_
  refine z_putF (q := 74) (k := 5) (ty := .object "SkyTrial$Chance") (fs' := [.ref (b + 1), .ref (b + 3), .ref (b + 21), .ref (b + 23), .ref (b + 39), .ref (b + 44), .null]) (Nat.le_of_ble_eq_true rfl) (C := RX10) (T := TX10) (N := 7) hclX10 uwX10 tyX10_ok nmX10 dX10_init_71 zfX10_5 rfl rfl (Nat.le_of_ble_eq_true rfl) rfl rfl ?_
  refine z_aload_n (q := 75) 0 dX10_init_74 rfl rfl rfl ?_
  refine z_new (q := 78) (x := 50) (cj := 5) (fs1 := [.int 0, .int 0, .int 0, .int 0]) tyX5 rfl uwX5 tyX5_ok dX10_init_75 zw351 zw352 zw15 (by decide +kernel) (by decide) (by decide) rfl rfl rfl ?_
  refine z_dup (q := 79) dX10_init_78 rfl rfl ?_
  refine z_callN (q := 82) (As := []) (st := [.ref (b + 50), .ref (b + 0)]) (h' := 1) (mc' := 0) (ms' := 0) cz_X5 czX10_55 rfl dX10_init_79 rfl rfl rfl rfl (Nat.le_of_ble_eq_true rfl) (by decide) (by decide) rfl ?_
  refine z_putF (q := 85) (k := 6) (ty := .object "SkyTrial$Table") (fs' := [.ref (b + 1), .ref (b + 3), .ref (b + 21), .ref (b + 23), .ref (b + 39), .ref (b + 44), .ref (b + 50)]) (Nat.le_of_ble_eq_true rfl) (C := RX10) (T := TX10) (N := 7) hclX10 uwX10 tyX10_ok nmX10 dX10_init_82 zfX10_6 rfl rfl (Nat.le_of_ble_eq_true rfl) rfl rfl ?_
  exact z_ret dX10_init_85 rfl rfl rfl
/-- the class, as it is made -/
noncomputable def cS0 : gS := (fun o k => match o with
  | 3 => (match k with
    | 3 => 36
    | 7 => -1
    | 9 => -1
    | _ => 0)
  | _ => 0, fun o => match o with
  | 7 => zTX8.2.1 3
  | 8 => zTX8.2.1 4
  | 45 => zTX0.2.1 1
  | 46 => zTX0.2.1 2
  | 47 => zTX0.2.1 3
  | 48 => zTX0.2.1 4
  | 49 => zTX0.2.1 5
  | _ => fun _ => 0, fun o k => match o with
  | 3 => (match k with
    | 1 => 9
    | _ => 0)
  | 23 => (match k with
    | 0 => 24
    | _ => 0)
  | _ => 0)
set_option maxRecDepth 100000 in
theorem zF_X10_is {G : gG} {b : Nat} : gws vC G b cS0 = zws b (zF_X10 G b) := gws_gwl.trans rfl
