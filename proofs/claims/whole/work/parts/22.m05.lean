noncomputable def pX4_sixthsOfAllTwos (a1 : Int32) (σ : gS) : Option (Int32) := bn1 (lpP (fun (z2 : (Int32 × Int32)) => if (σ.1 21 1) ≤ z2.1 then some (.inr z2.2) else lt' (z2.1 + (1 : Int32)) (fun x3 => bn1 (lpP (fun (z5 : (Int32 × Int32)) => if (σ.1 21 1) ≤ z5.1 then some (.inr z5.2) else if z2.1 = a1 then lt' (z5.1 + (1 : Int32)) (fun x6 => some (.inl (x6, z5.2))) else if z5.1 = a1 then lt' (z5.1 + (1 : Int32)) (fun x7 => some (.inl (x7, z5.2))) else bn1 (pX4_sixths a1 z2.1 z5.1 σ) (fun v8 => lt' (z5.2 + v8) (fun x10 => lt' (z5.1 + (1 : Int32)) (fun x11 => some (.inl (x11, x10)))))) (x3, z2.2)) (fun (z4 : Int32) => lt' (z2.1 + (1 : Int32)) (fun x12 => some (.inl (x12, z4)))))) ((0 : Int32), (0 : Int32))) (fun (z1 : Int32) => some (z1))
set_option maxRecDepth 100000 in
theorem cn_X4_sixthsOfAllTwos {G : gG} {b : Nat} {a1 : Int32} {σ : gS} : CN vC G b 2 yX4_sixthsOfAllTwos cX4_sixthsOfAllTwos 5 (some .int) (kPI σ) [.ref (b + 23), .int a1] σ (pX4_sixthsOfAllTwos a1 σ) := by
  refine cn_of (own := RX4) rfl rfl (Nat.le_of_ble_eq_true rfl) ?_
  show GF vC G b (2, 0, 0) RX4 cX4_sixthsOfAllTwos 5 (some .int) (kPI σ) 0 [(0, .ref (b + 23)), (1, .int a1)] [] σ (pX4_sixthsOfAllTwos a1 σ)
  unfold pX4_sixthsOfAllTwos
  refine g_iconst (q := 1) dX4_sixthsOfAllTwos_0 kI_0 rfl ?_
  refine g_istore_n (lr := [(0, .ref (b + 23)), (1, .int a1)]) (q := 2) dX4_sixthsOfAllTwos_1 rfl (by decide) rfl rfl ?_
  refine g_iconst (q := 3) dX4_sixthsOfAllTwos_2 kI_0 rfl ?_
  refine g_istore_n (lr := [(2, .int (0 : Int32)), (0, .ref (b + 23)), (1, .int a1)]) (q := 4) dX4_sixthsOfAllTwos_3 rfl (by decide) rfl rfl ?_
  refine g_bind (S := Int32) (hd := 66) (lvf := fun z1 => [(2, .int z1)]) (stf := fun z1 => []) (σf := fun z1 => σ) ?_ (fun z1 => ?_)
  · refine g_loop (S := (Int32 × Int32)) (lvf := fun z2 => [(3, .int z2.1), (2, .int z2.2), (0, .ref (b + 23)), (1, .int a1)]) (σf := fun z2 => σ) (fun z2 => ?_) ((0 : Int32), (0 : Int32))
    refine g_iload_n (q := 5) 0 dX4_sixthsOfAllTwos_4 rfl rfl rfl ?_
    refine g_aload_n (q := 6) 2 dX4_sixthsOfAllTwos_5 rfl rfl rfl ?_
    refine g_getA (q := 9) fX4_people dX4_sixthsOfAllTwos_6 ww284 rfl ?_
    refine g_getI (q := 12) fX2_size dX4_sixthsOfAllTwos_9 ww250 rfl ?_
    refine g_icmp_ge (t := 66) (q := 15) dX4_sixthsOfAllTwos_12 (by decide) rfl ?_ ?_
    · refine g_sub (lr := [(2, .int z2.2)]) [1] rfl ?_
      exact (g_leave (g_there (z2.2 : Int32)))
    · refine g_iload_n (q := 16) 0 dX4_sixthsOfAllTwos_15 rfl rfl rfl ?_
      refine g_iconst (q := 17) dX4_sixthsOfAllTwos_16 kI_1 rfl ?_
      refine g_iadd (q := 18) dX4_sixthsOfAllTwos_17 rfl ?_
      refine g_leti (fun x3 => ?_)
      refine g_istore (lr := [(3, .int z2.1), (2, .int z2.2), (0, .ref (b + 23)), (1, .int a1)]) (q := 20) dX4_sixthsOfAllTwos_18 (by decide) rfl rfl ?_
      refine g_bind (S := Int32) (hd := 60) (lvf := fun z4 => [(2, .int z4), (3, .int z2.1), (0, .ref (b + 23)), (1, .int a1)]) (stf := fun z4 => []) (σf := fun z4 => σ) ?_ (fun z4 => ?_)
      · refine g_sub (lr := [(4, .int x3), (2, .int z2.2), (3, .int z2.1), (0, .ref (b + 23)), (1, .int a1)]) [0, 2, 1, 3, 4] rfl ?_
        refine g_loop (S := (Int32 × Int32)) (lvf := fun z5 => [(4, .int z5.1), (2, .int z5.2), (3, .int z2.1), (0, .ref (b + 23)), (1, .int a1)]) (σf := fun z5 => σ) (fun z5 => ?_) (x3, z2.2)
        refine g_iload (q := 22) 0 dX4_sixthsOfAllTwos_20 rfl rfl ?_
        refine g_aload_n (q := 23) 3 dX4_sixthsOfAllTwos_22 rfl rfl rfl ?_
        refine g_getA (q := 26) fX4_people dX4_sixthsOfAllTwos_23 ww284 rfl ?_
        refine g_getI (q := 29) fX2_size dX4_sixthsOfAllTwos_26 ww250 rfl ?_
        refine g_icmp_ge (t := 60) (q := 32) dX4_sixthsOfAllTwos_29 (by decide) rfl ?_ ?_
        · refine g_sub (lr := [(2, .int z5.2), (3, .int z2.1), (0, .ref (b + 23)), (1, .int a1)]) [1, 2, 3, 4] rfl ?_
          exact (g_leave (g_there (z5.2 : Int32)))
        · refine g_iload_n (q := 33) 2 dX4_sixthsOfAllTwos_32 rfl rfl rfl ?_
          refine g_iload_n (q := 34) 4 dX4_sixthsOfAllTwos_33 rfl rfl rfl ?_
          refine g_icmp_eq (t := 54) (q := 37) dX4_sixthsOfAllTwos_34 (by decide) rfl ?_ ?_
          · refine g_iinc (lr := [(2, .int z5.2), (3, .int z2.1), (0, .ref (b + 23)), (1, .int a1)]) (q := 57) 0 dX4_sixthsOfAllTwos_54 rfl kI_1 (by decide) rfl rfl (fun x6 => ?_)
            refine g_goto (t := 20) dX4_sixthsOfAllTwos_57 (by decide) ?_
            exact (g_again ((x6, z5.2) : (Int32 × Int32)))
          · refine g_iload (q := 39) 0 dX4_sixthsOfAllTwos_37 rfl rfl ?_
            refine g_iload_n (q := 40) 4 dX4_sixthsOfAllTwos_39 rfl rfl rfl ?_
            refine g_icmp_eq (t := 54) (q := 43) dX4_sixthsOfAllTwos_40 (by decide) rfl ?_ ?_
            · refine g_iinc (lr := [(2, .int z5.2), (3, .int z2.1), (0, .ref (b + 23)), (1, .int a1)]) (q := 57) 0 dX4_sixthsOfAllTwos_54 rfl kI_1 (by decide) rfl rfl (fun x7 => ?_)
              refine g_goto (t := 20) dX4_sixthsOfAllTwos_57 (by decide) ?_
              exact (g_again ((x7, z5.2) : (Int32 × Int32)))
            · refine g_iload_n (q := 44) 1 dX4_sixthsOfAllTwos_43 rfl rfl rfl ?_
              refine g_aload_n (q := 45) 3 dX4_sixthsOfAllTwos_44 rfl rfl rfl ?_
              refine g_iload_n (q := 46) 4 dX4_sixthsOfAllTwos_45 rfl rfl rfl ?_
              refine g_iload_n (q := 47) 2 dX4_sixthsOfAllTwos_46 rfl rfl rfl ?_
              refine g_iload (q := 49) 0 dX4_sixthsOfAllTwos_47 rfl rfl ?_
              refine g_callO (As := [.int a1, .int z2.1, .int z5.1]) (st := [.int z5.2]) (cn_X4_sixths) shX4 rfl cwX4_96 rfl dX4_sixthsOfAllTwos_49 rfl (Nat.le_of_ble_eq_true rfl) (by decide) (kk_PI (fun v8 => ?_))
              refine g_iadd (q := 53) dX4_sixthsOfAllTwos_52 rfl ?_
              refine g_leti (fun x10 => ?_)
              refine g_istore_n (lr := [(4, .int z5.1), (3, .int z2.1), (0, .ref (b + 23)), (1, .int a1)]) (q := 54) dX4_sixthsOfAllTwos_53 rfl (by decide) rfl rfl ?_
              refine g_iinc (lr := [(2, .int x10), (3, .int z2.1), (0, .ref (b + 23)), (1, .int a1)]) (q := 57) 1 dX4_sixthsOfAllTwos_54 rfl kI_1 (by decide) rfl rfl (fun x11 => ?_)
              refine g_goto (t := 20) dX4_sixthsOfAllTwos_57 (by decide) ?_
              exact (g_again ((x11, x10) : (Int32 × Int32)))
      · refine g_iinc (lr := [(2, .int z4), (0, .ref (b + 23)), (1, .int a1)]) (q := 63) 1 dX4_sixthsOfAllTwos_60 rfl kI_1 (by decide) rfl rfl (fun x12 => ?_)
        refine g_goto (t := 4) dX4_sixthsOfAllTwos_63 (by decide) ?_
        exact (g_again ((x12, z4) : (Int32 × Int32)))
  · refine g_iload_n (q := 67) 0 dX4_sixthsOfAllTwos_66 rfl rfl rfl ?_
    exact (g_iretP dX4_sixthsOfAllTwos_67)
noncomputable def pX4_weighAll (a1 : Int32) (a2 : Int32) (a3 : Int32) (σ : gS) : Option (gS) := bn1 (lpP (fun (z2 : (Int32 × gS)) => if (z2.2.1 21 1) ≤ z2.1 then some (.inr z2.2) else bn2 (pX4_weigh a1 a2 a3 z2.1 z2.2) (fun v3 s4 => lt' (z2.1 + (1 : Int32)) (fun x5 => some (.inl (x5, s4))))) ((0 : Int32), σ)) (fun (z1 : gS) => some z1)
set_option maxRecDepth 100000 in
theorem cn_X4_weighAll {G : gG} {b : Nat} {a1 : Int32} {a2 : Int32} {a3 : Int32} {σ : gS} : CN vC G b 6 yX4_weighAll cX4_weighAll 5 none kV [.ref (b + 23), .int a1, .int a2, .int a3] σ (pX4_weighAll a1 a2 a3 σ) := by
  refine cn_of (own := RX4) rfl rfl (Nat.le_of_ble_eq_true rfl) ?_
  show GF vC G b (6, 0, 0) RX4 cX4_weighAll 5 none kV 0 [(0, .ref (b + 23)), (1, .int a1), (2, .int a2), (3, .int a3)] [] σ (pX4_weighAll a1 a2 a3 σ)
  unfold pX4_weighAll
  refine g_iconst (q := 1) dX4_weighAll_0 kI_0 rfl ?_
  refine g_istore (lr := [(0, .ref (b + 23)), (1, .int a1), (2, .int a2), (3, .int a3)]) (q := 3) dX4_weighAll_1 (by decide) rfl rfl ?_
  refine g_bind (S := gS) (hd := 31) (lvf := fun z1 => []) (stf := fun z1 => []) (σf := fun z1 => z1) ?_ (fun z1 => ?_)
  · refine g_loop (S := (Int32 × gS)) (lvf := fun z2 => [(4, .int z2.1), (0, .ref (b + 23)), (1, .int a1), (2, .int a2), (3, .int a3)]) (σf := fun z2 => z2.2) (fun z2 => ?_) ((0 : Int32), σ)
    refine g_iload (q := 5) 0 dX4_weighAll_3 rfl rfl ?_
    refine g_aload_n (q := 6) 1 dX4_weighAll_5 rfl rfl rfl ?_
    refine g_getA (q := 9) fX4_people dX4_weighAll_6 ww284 rfl ?_
    refine g_getI (q := 12) fX2_size dX4_weighAll_9 ww250 rfl ?_
    refine g_icmp_ge (t := 31) (q := 15) dX4_weighAll_12 (by decide) rfl ?_ ?_
    · refine g_sub (lr := []) [] rfl ?_
      exact (g_leave (g_there (z2.2 : gS)))
    · refine g_aload_n (q := 16) 1 dX4_weighAll_15 rfl rfl rfl ?_
      refine g_iload_n (q := 17) 2 dX4_weighAll_16 rfl rfl rfl ?_
      refine g_iload_n (q := 18) 3 dX4_weighAll_17 rfl rfl rfl ?_
      refine g_iload_n (q := 19) 4 dX4_weighAll_18 rfl rfl rfl ?_
      refine g_iload (q := 21) 0 dX4_weighAll_19 rfl rfl ?_
      refine g_callO (As := [.int a1, .int a2, .int a3, .int z2.1]) (st := []) (cn_X4_weigh) shX4 rfl cwX4_92 rfl dX4_weighAll_21 rfl (Nat.le_of_ble_eq_true rfl) (by decide) (kk_I (fun v3 s4 => ?_))
      refine g_pop (q := 25) dX4_weighAll_24 rfl rfl ?_
      refine g_iinc (lr := [(0, .ref (b + 23)), (1, .int a1), (2, .int a2), (3, .int a3)]) (q := 28) 0 dX4_weighAll_25 rfl kI_1 (by decide) rfl rfl (fun x5 => ?_)
      refine g_goto (t := 3) dX4_weighAll_28 (by decide) ?_
      exact (g_again ((x5, s4) : (Int32 × gS)))
  · exact (g_vret dX4_weighAll_31)
noncomputable def pX10_whole (a1 : Int32) (a2 : Int32) (σ : gS) : Option (Int32 × gS) := bn1 (pX10_isLaw a1 σ) (fun v1 => if v1 = 0 then some ((-1 : Int32), σ) else bn1 (pX10_isBook a2 σ) (fun v3 => if v3 = 0 then some ((-1 : Int32), σ) else bn1 (pX4_survey σ) (fun s6 => bn1 (lpP (fun (z8 : (Int32 × Int32 × gS)) => if (z8.2.2.1 21 1) ≤ z8.1 then some (.inr (z8.2.1, z8.2.2)) else bn1 (pX4_weighAll a1 a2 z8.1 z8.2.2) (fun s10 => bn1 (pX4_sixthsOfAllTwos z8.1 s10) (fun v11 => lt' (z8.2.1 + v11) (fun x13 => lt' (z8.1 + (1 : Int32)) (fun x14 => some (.inl (x14, x13, s10))))))) ((0 : Int32), (0 : Int32), s6)) (fun (z7 : (Int32 × gS)) => some (z7.1, z7.2)))))
set_option maxRecDepth 100000 in
theorem cn_X10_whole {G : gG} {b : Nat} {a1 : Int32} {a2 : Int32} {σ : gS} : CN vC G b 7 yX10_whole cX10_whole 5 (some .int) kI [.ref (b + 0), .int a1, .int a2] σ (pX10_whole a1 a2 σ) := by
  refine cn_of (own := RX10) rfl rfl (Nat.le_of_ble_eq_true rfl) ?_
  show GF vC G b (7, 0, 0) RX10 cX10_whole 5 (some .int) kI 0 [(0, .ref (b + 0)), (1, .int a1), (2, .int a2)] [] σ (pX10_whole a1 a2 σ)
  unfold pX10_whole
  refine g_aload_n (q := 1) 0 dX10_whole_0 rfl rfl rfl ?_
  refine g_iload_n (q := 2) 1 dX10_whole_1 rfl rfl rfl ?_
  refine g_callO (As := [.int a1]) (st := []) (cn_X10_isLaw) shX10 rfl cwX10_168 rfl dX10_whole_2 rfl (Nat.le_of_ble_eq_true rfl) (by decide) (kk_PI (fun v1 => ?_))
  refine g_if_eq (t := 16) (q := 8) dX10_whole_5 (by decide) rfl ?_ ?_
  · refine g_iconst (q := 17) dX10_whole_16 kI_m1 rfl ?_
    exact (g_iret dX10_whole_17)
  · refine g_aload_n (q := 9) 0 dX10_whole_8 rfl rfl rfl ?_
    refine g_iload_n (q := 10) 2 dX10_whole_9 rfl rfl rfl ?_
    refine g_callO (As := [.int a2]) (st := []) (cn_X10_isBook) shX10 rfl cwX10_144 rfl dX10_whole_10 rfl (Nat.le_of_ble_eq_true rfl) (by decide) (kk_PI (fun v3 => ?_))
    refine g_if_ne (t := 18) (q := 16) dX10_whole_13 (by decide) rfl ?_ ?_
    · refine g_iconst (q := 17) dX10_whole_16 kI_m1 rfl ?_
      exact (g_iret dX10_whole_17)
    · refine g_aload_n (q := 19) 0 dX10_whole_18 rfl rfl rfl ?_
      refine g_getA (q := 22) fX10_sky dX10_whole_19 ww380 rfl ?_
      refine g_callO (As := []) (st := []) (cn_X4_survey) shX4 rfl cwX10_153 rfl dX10_whole_22 rfl (Nat.le_of_ble_eq_true rfl) (by decide) (kk_V (fun s6 => ?_))
      refine g_iconst (q := 26) dX10_whole_25 kI_0 rfl ?_
      refine g_istore_n (lr := [(0, .ref (b + 0)), (1, .int a1), (2, .int a2)]) (q := 27) dX10_whole_26 rfl (by decide) rfl rfl ?_
      refine g_iconst (q := 28) dX10_whole_27 kI_0 rfl ?_
      refine g_istore (lr := [(3, .int (0 : Int32)), (0, .ref (b + 0)), (1, .int a1), (2, .int a2)]) (q := 30) dX10_whole_28 (by decide) rfl rfl ?_
      refine g_bind (S := (Int32 × gS)) (hd := 71) (lvf := fun z7 => [(3, .int z7.1)]) (stf := fun z7 => []) (σf := fun z7 => z7.2) ?_ (fun z7 => ?_)
      · refine g_loop (S := (Int32 × Int32 × gS)) (lvf := fun z8 => [(4, .int z8.1), (3, .int z8.2.1), (0, .ref (b + 0)), (1, .int a1), (2, .int a2)]) (σf := fun z8 => z8.2.2) (fun z8 => ?_) ((0 : Int32), (0 : Int32), s6)
        refine g_iload (q := 32) 0 dX10_whole_30 rfl rfl ?_
        refine g_aload_n (q := 33) 2 dX10_whole_32 rfl rfl rfl ?_
        refine g_getA (q := 36) fX10_people dX10_whole_33 ww379 rfl ?_
        refine g_getI (q := 39) fX2_size dX10_whole_36 ww251 rfl ?_
        refine g_icmp_ge (t := 71) (q := 42) dX10_whole_39 (by decide) rfl ?_ ?_
        · refine g_sub (lr := [(3, .int z8.2.1)]) [1] rfl ?_
          exact (g_leave (g_there ((z8.2.1, z8.2.2) : (Int32 × gS))))
        · refine g_aload_n (q := 43) 2 dX10_whole_42 rfl rfl rfl ?_
          refine g_getA (q := 46) fX10_sky dX10_whole_43 ww380 rfl ?_
          refine g_iload_n (q := 47) 3 dX10_whole_46 rfl rfl rfl ?_
          refine g_iload_n (q := 48) 4 dX10_whole_47 rfl rfl rfl ?_
          refine g_iload (q := 50) 0 dX10_whole_48 rfl rfl ?_
          refine g_callO (As := [.int a1, .int a2, .int z8.1]) (st := []) (cn_X4_weighAll) shX4 rfl cwX10_189 rfl dX10_whole_50 rfl (Nat.le_of_ble_eq_true rfl) (by decide) (kk_V (fun s10 => ?_))
          refine g_iload_n (q := 54) 1 dX10_whole_53 rfl rfl rfl ?_
          refine g_aload_n (q := 55) 2 dX10_whole_54 rfl rfl rfl ?_
          refine g_getA (q := 58) fX10_sky dX10_whole_55 ww380 rfl ?_
          refine g_iload (q := 60) 0 dX10_whole_58 rfl rfl ?_
          refine g_callO (As := [.int z8.1]) (st := [.int z8.2.1]) (cn_X4_sixthsOfAllTwos) shX4 rfl cwX10_192 rfl dX10_whole_60 rfl (Nat.le_of_ble_eq_true rfl) (by decide) (kk_PI (fun v11 => ?_))
          refine g_iadd (q := 64) dX10_whole_63 rfl ?_
          refine g_leti (fun x13 => ?_)
          refine g_istore_n (lr := [(4, .int z8.1), (0, .ref (b + 0)), (1, .int a1), (2, .int a2)]) (q := 65) dX10_whole_64 rfl (by decide) rfl rfl ?_
          refine g_iinc (lr := [(3, .int x13), (0, .ref (b + 0)), (1, .int a1), (2, .int a2)]) (q := 68) 1 dX10_whole_65 rfl kI_1 (by decide) rfl rfl (fun x14 => ?_)
          refine g_goto (t := 30) dX10_whole_68 (by decide) ?_
          exact (g_again ((x14, x13, s10) : (Int32 × Int32 × gS)))
      · refine g_iload_n (q := 72) 0 dX10_whole_71 rfl rfl rfl ?_
        exact (g_iret dX10_whole_72)
noncomputable def pX10_pleased (a1 : Int32) (a2 : Int32) (a3 : Int32) (a4 : Int32) (σ : gS) : Option (Int32 × gS) := bn1 (pX10_isLaw a1 σ) (fun v1 => if v1 = 0 then some ((-1 : Int32), σ) else bn1 (pX10_isBook a2 σ) (fun v3 => if v3 = 0 then some ((-1 : Int32), σ) else bn1 (pX4_survey σ) (fun s6 => bn1 (lpP (fun (z8 : (Int32 × Int32 × gS)) => if (z8.2.2.1 21 1) ≤ z8.1 then some (.inr (z8.2.1, z8.2.2)) else bn1 (lpP (fun (z10 : (Int32 × Int32 × gS)) => if (z10.2.2.1 21 1) ≤ z10.1 then some (.inr (z10.2.1, z10.2.2)) else bn1 (if z10.1 = z8.1 then some (0 : Int32) else some (1 : Int32)) (fun (z11 : Int32) => if z11 = a4 then bn2 (pX4_weigh a1 a2 z8.1 z10.1 z10.2.2) (fun v12 s13 => if v12 < a3 then lt' (z10.1 + (1 : Int32)) (fun x14 => some (.inl (x14, z10.2.1, s13))) else lt' (z10.2.1 + (1 : Int32)) (fun x15 => lt' (z10.1 + (1 : Int32)) (fun x16 => some (.inl (x16, x15, s13))))) else lt' (z10.1 + (1 : Int32)) (fun x17 => some (.inl (x17, z10.2.1, z10.2.2))))) ((0 : Int32), z8.2.1, z8.2.2)) (fun (z9 : (Int32 × gS)) => lt' (z8.1 + (1 : Int32)) (fun x18 => some (.inl (x18, z9.1, z9.2))))) ((0 : Int32), (0 : Int32), s6)) (fun (z7 : (Int32 × gS)) => some (z7.1, z7.2)))))
set_option maxRecDepth 100000 in
theorem cn_X10_pleased {G : gG} {b : Nat} {a1 : Int32} {a2 : Int32} {a3 : Int32} {a4 : Int32} {σ : gS} : CN vC G b 6 yX10_pleased cX10_pleased 8 (some .int) kI [.ref (b + 0), .int a1, .int a2, .int a3, .int a4] σ (pX10_pleased a1 a2 a3 a4 σ) := by
  refine cn_of (own := RX10) rfl rfl (Nat.le_of_ble_eq_true rfl) ?_
  show GF vC G b (6, 0, 0) RX10 cX10_pleased 8 (some .int) kI 0 [(0, .ref (b + 0)), (1, .int a1), (2, .int a2), (3, .int a3), (4, .int a4)] [] σ (pX10_pleased a1 a2 a3 a4 σ)
  unfold pX10_pleased
  refine g_aload_n (q := 1) 0 dX10_pleased_0 rfl rfl rfl ?_
  refine g_iload_n (q := 2) 1 dX10_pleased_1 rfl rfl rfl ?_
  refine g_callO (As := [.int a1]) (st := []) (cn_X10_isLaw) shX10 rfl cwX10_168 rfl dX10_pleased_2 rfl (Nat.le_of_ble_eq_true rfl) (by decide) (kk_PI (fun v1 => ?_))
  refine g_if_eq (t := 16) (q := 8) dX10_pleased_5 (by decide) rfl ?_ ?_
  · refine g_iconst (q := 17) dX10_pleased_16 kI_m1 rfl ?_
    exact (g_iret dX10_pleased_17)
  · refine g_aload_n (q := 9) 0 dX10_pleased_8 rfl rfl rfl ?_
    refine g_iload_n (q := 10) 2 dX10_pleased_9 rfl rfl rfl ?_
    refine g_callO (As := [.int a2]) (st := []) (cn_X10_isBook) shX10 rfl cwX10_144 rfl dX10_pleased_10 rfl (Nat.le_of_ble_eq_true rfl) (by decide) (kk_PI (fun v3 => ?_))
    refine g_if_ne (t := 18) (q := 16) dX10_pleased_13 (by decide) rfl ?_ ?_
    · refine g_iconst (q := 17) dX10_pleased_16 kI_m1 rfl ?_
      exact (g_iret dX10_pleased_17)
    · refine g_aload_n (q := 19) 0 dX10_pleased_18 rfl rfl rfl ?_
      refine g_getA (q := 22) fX10_sky dX10_pleased_19 ww380 rfl ?_
      refine g_callO (As := []) (st := []) (cn_X4_survey) shX4 rfl cwX10_153 rfl dX10_pleased_22 rfl (Nat.le_of_ble_eq_true rfl) (by decide) (kk_V (fun s6 => ?_))
      refine g_iconst (q := 26) dX10_pleased_25 kI_0 rfl ?_
      refine g_istore (lr := [(0, .ref (b + 0)), (1, .int a1), (2, .int a2), (3, .int a3), (4, .int a4)]) (q := 28) dX10_pleased_26 (by decide) rfl rfl ?_
      refine g_iconst (q := 29) dX10_pleased_28 kI_0 rfl ?_
      refine g_istore (lr := [(5, .int (0 : Int32)), (0, .ref (b + 0)), (1, .int a1), (2, .int a2), (3, .int a3), (4, .int a4)]) (q := 31) dX10_pleased_29 (by decide) rfl rfl ?_
      refine g_bind (S := (Int32 × gS)) (hd := 107) (lvf := fun z7 => [(5, .int z7.1)]) (stf := fun z7 => []) (σf := fun z7 => z7.2) ?_ (fun z7 => ?_)
      · refine g_loop (S := (Int32 × Int32 × gS)) (lvf := fun z8 => [(6, .int z8.1), (5, .int z8.2.1), (0, .ref (b + 0)), (1, .int a1), (2, .int a2), (3, .int a3), (4, .int a4)]) (σf := fun z8 => z8.2.2) (fun z8 => ?_) ((0 : Int32), (0 : Int32), s6)
        refine g_iload (q := 33) 0 dX10_pleased_31 rfl rfl ?_
        refine g_aload_n (q := 34) 2 dX10_pleased_33 rfl rfl rfl ?_
        refine g_getA (q := 37) fX10_people dX10_pleased_34 ww379 rfl ?_
        refine g_getI (q := 40) fX2_size dX10_pleased_37 ww251 rfl ?_
        refine g_icmp_ge (t := 107) (q := 43) dX10_pleased_40 (by decide) rfl ?_ ?_
        · refine g_sub (lr := [(5, .int z8.2.1)]) [1] rfl ?_
          exact (g_leave (g_there ((z8.2.1, z8.2.2) : (Int32 × gS))))
        · refine g_iconst (q := 44) dX10_pleased_43 kI_0 rfl ?_
          refine g_istore (lr := [(6, .int z8.1), (5, .int z8.2.1), (0, .ref (b + 0)), (1, .int a1), (2, .int a2), (3, .int a3), (4, .int a4)]) (q := 46) dX10_pleased_44 (by decide) rfl rfl ?_
          refine g_bind (S := (Int32 × gS)) (hd := 101) (lvf := fun z9 => [(5, .int z9.1), (6, .int z8.1), (0, .ref (b + 0)), (1, .int a1), (2, .int a2), (3, .int a3), (4, .int a4)]) (stf := fun z9 => []) (σf := fun z9 => z9.2) ?_ (fun z9 => ?_)
          · refine g_sub (lr := [(7, .int (0 : Int32)), (5, .int z8.2.1), (6, .int z8.1), (0, .ref (b + 0)), (1, .int a1), (2, .int a2), (3, .int a3), (4, .int a4)]) [0, 2, 1, 3, 4, 5, 6, 7] rfl ?_
            refine g_loop (S := (Int32 × Int32 × gS)) (lvf := fun z10 => [(7, .int z10.1), (5, .int z10.2.1), (6, .int z8.1), (0, .ref (b + 0)), (1, .int a1), (2, .int a2), (3, .int a3), (4, .int a4)]) (σf := fun z10 => z10.2.2) (fun z10 => ?_) ((0 : Int32), z8.2.1, z8.2.2)
            refine g_iload (q := 48) 0 dX10_pleased_46 rfl rfl ?_
            refine g_aload_n (q := 49) 3 dX10_pleased_48 rfl rfl rfl ?_
            refine g_getA (q := 52) fX10_people dX10_pleased_49 ww379 rfl ?_
            refine g_getI (q := 55) fX2_size dX10_pleased_52 ww251 rfl ?_
            refine g_icmp_ge (t := 101) (q := 58) dX10_pleased_55 (by decide) rfl ?_ ?_
            · refine g_sub (lr := [(5, .int z10.2.1), (6, .int z8.1), (0, .ref (b + 0)), (1, .int a1), (2, .int a2), (3, .int a3), (4, .int a4)]) [1, 2, 3, 4, 5, 6, 7] rfl ?_
              exact (g_leave (g_there ((z10.2.1, z10.2.2) : (Int32 × gS))))
            · refine g_iload (q := 60) 0 dX10_pleased_58 rfl rfl ?_
              refine g_iload (q := 62) 2 dX10_pleased_60 rfl rfl ?_
              refine g_bind (S := Int32) (hd := 70) (lvf := fun z11 => [(7, .int z10.1), (5, .int z10.2.1), (6, .int z8.1), (0, .ref (b + 0)), (1, .int a1), (2, .int a2), (3, .int a3), (4, .int a4)]) (stf := fun z11 => [.int z11]) (σf := fun z11 => z10.2.2) ?_ (fun z11 => ?_)
              · refine g_icmp_eq (t := 69) (q := 65) dX10_pleased_62 (by decide) rfl ?_ ?_
                · refine g_iconst (q := 70) dX10_pleased_69 kI_0 rfl ?_
                  exact (g_there ((0 : Int32) : Int32))
                · refine g_iconst (q := 66) dX10_pleased_65 kI_1 rfl ?_
                  refine g_goto (t := 70) dX10_pleased_66 (by decide) ?_
                  exact (g_there ((1 : Int32) : Int32))
              · refine g_iload (q := 72) 7 dX10_pleased_70 rfl rfl ?_
                refine g_icmp_ne (t := 95) (q := 75) dX10_pleased_72 (by decide) rfl ?_ ?_
                · refine g_aload_n (q := 76) 3 dX10_pleased_75 rfl rfl rfl ?_
                  refine g_getA (q := 79) fX10_sky dX10_pleased_76 ww380 rfl ?_
                  refine g_iload_n (q := 80) 4 dX10_pleased_79 rfl rfl rfl ?_
                  refine g_iload_n (q := 81) 5 dX10_pleased_80 rfl rfl rfl ?_
                  refine g_iload (q := 83) 2 dX10_pleased_81 rfl rfl ?_
                  refine g_iload (q := 85) 0 dX10_pleased_83 rfl rfl ?_
                  refine g_callO (As := [.int a1, .int a2, .int z8.1, .int z10.1]) (st := []) (cn_X4_weigh) shX4 rfl cwX10_195 rfl dX10_pleased_85 rfl (Nat.le_of_ble_eq_true rfl) (by decide) (kk_I (fun v12 s13 => ?_))
                  refine g_iload_n (q := 89) 6 dX10_pleased_88 rfl rfl rfl ?_
                  refine g_icmp_lt (t := 95) (q := 92) dX10_pleased_89 (by decide) rfl ?_ ?_
                  · refine g_iinc (lr := [(5, .int z10.2.1), (6, .int z8.1), (0, .ref (b + 0)), (1, .int a1), (2, .int a2), (3, .int a3), (4, .int a4)]) (q := 98) 0 dX10_pleased_95 rfl kI_1 (by decide) rfl rfl (fun x14 => ?_)
                    refine g_goto (t := 46) dX10_pleased_98 (by decide) ?_
                    exact (g_again ((x14, z10.2.1, s13) : (Int32 × Int32 × gS)))
                  · refine g_iinc (lr := [(7, .int z10.1), (6, .int z8.1), (0, .ref (b + 0)), (1, .int a1), (2, .int a2), (3, .int a3), (4, .int a4)]) (q := 95) 1 dX10_pleased_92 rfl kI_1 (by decide) rfl rfl (fun x15 => ?_)
                    refine g_iinc (lr := [(5, .int x15), (6, .int z8.1), (0, .ref (b + 0)), (1, .int a1), (2, .int a2), (3, .int a3), (4, .int a4)]) (q := 98) 1 dX10_pleased_95 rfl kI_1 (by decide) rfl rfl (fun x16 => ?_)
                    refine g_goto (t := 46) dX10_pleased_98 (by decide) ?_
                    exact (g_again ((x16, x15, s13) : (Int32 × Int32 × gS)))
                · refine g_iinc (lr := [(5, .int z10.2.1), (6, .int z8.1), (0, .ref (b + 0)), (1, .int a1), (2, .int a2), (3, .int a3), (4, .int a4)]) (q := 98) 0 dX10_pleased_95 rfl kI_1 (by decide) rfl rfl (fun x17 => ?_)
                  refine g_goto (t := 46) dX10_pleased_98 (by decide) ?_
                  exact (g_again ((x17, z10.2.1, z10.2.2) : (Int32 × Int32 × gS)))
          · refine g_iinc (lr := [(5, .int z9.1), (0, .ref (b + 0)), (1, .int a1), (2, .int a2), (3, .int a3), (4, .int a4)]) (q := 104) 1 dX10_pleased_101 rfl kI_1 (by decide) rfl rfl (fun x18 => ?_)
            refine g_goto (t := 31) dX10_pleased_104 (by decide) ?_
            exact (g_again ((x18, z9.1, z9.2) : (Int32 × Int32 × gS)))
      · refine g_iload (q := 109) 0 dX10_pleased_107 rfl rfl ?_
        exact (g_iret dX10_pleased_109)
noncomputable def pX0_addTry (o1 n1 : Nat) (a2 : Int32) (a3 : Int32) (a4 : Int32) (σ : gS) : Option (gS) := bn1 (pJ9_min_7cf53 a2 ((Int32.ofNat n1) - (1 : Int32))) (fun v1 => bn1 (lpP (fun (z4 : (Int32 × gS)) => if z4.1 ≤ 0 then some (.inr z4.2) else gx z4.1 n1 (gx (z4.1 - (1 : Int32)) n1 (gx z4.1 n1 (lt' (wL z4.2 o1 z4.1.toNatClampNeg (((z4.2.2.1 o1 z4.1.toNatClampNeg) * (a4.toInt64)) + ((z4.2.2.1 o1 (z4.1 - (1 : Int32)).toNatClampNeg) * (a3.toInt64)))) (fun s5 => lt' (z4.1 + (-1 : Int32)) (fun x6 => some (.inl (x6, s5)))))))) (v1, σ)) (fun (z3 : gS) => gx (0 : Int32) n1 (gx (0 : Int32) n1 (lt' (wL z3 o1 (0 : Int32).toNatClampNeg ((z3.2.1 o1 (0 : Int32).toNatClampNeg) * (a4.toInt64))) (fun s7 => some s7)))))
set_option maxRecDepth 100000 in
theorem cn_X0_addTry {G : gG} {b : Nat} {o1 n1 : Nat} (ho1 : shL vC o1 n1) {a2 : Int32} {a3 : Int32} {a4 : Int32} {σ : gS} : CN vC G b 2 yX0_addTry cX0_addTry 5 none kV [.ref (b + o1), .int a2, .int a3, .int a4] σ (pX0_addTry o1 n1 a2 a3 a4 σ) := by
  refine cn_of (own := RX0) rfl rfl (Nat.le_of_ble_eq_true rfl) ?_
  show GF vC G b (2, 0, 0) RX0 cX0_addTry 5 none kV 0 [(0, .ref (b + o1)), (1, .int a2), (2, .int a3), (3, .int a4)] [] σ (pX0_addTry o1 n1 a2 a3 a4 σ)
  unfold pX0_addTry
  refine g_iload_n (q := 1) 1 dX0_addTry_0 rfl rfl rfl ?_
  refine g_aload_n (q := 2) 0 dX0_addTry_1 rfl rfl rfl ?_
  refine g_alenL (v := Int32.ofNat n1) (q := 3) (ho1) rfl dX0_addTry_2 rfl ?_
  refine g_iconst (q := 4) dX0_addTry_3 kI_1 rfl ?_
  refine g_isub (q := 5) dX0_addTry_4 rfl ?_
  refine g_callT (As := [.int a2, .int ((Int32.ofNat n1) - (1 : Int32))]) (st := []) (cn_J9_min_7cf53) cwX0_76 rfl dX0_addTry_5 rfl (Nat.le_of_ble_eq_true rfl) (by decide) (kk_PI (fun v1 => ?_))
  refine g_istore (lr := [(0, .ref (b + o1)), (1, .int a2), (2, .int a3), (3, .int a4)]) (q := 10) dX0_addTry_8 (by decide) rfl rfl ?_
  refine g_bind (S := gS) (hd := 42) (lvf := fun z3 => [(0, .ref (b + o1)), (3, .int a4)]) (stf := fun z3 => []) (σf := fun z3 => z3) ?_ (fun z3 => ?_)
  · refine g_sub (lr := [(4, .int v1), (0, .ref (b + o1)), (2, .int a3), (3, .int a4)]) [0, 1, 3, 4] rfl ?_
    refine g_loop (S := (Int32 × gS)) (lvf := fun z4 => [(4, .int z4.1), (0, .ref (b + o1)), (2, .int a3), (3, .int a4)]) (σf := fun z4 => z4.2) (fun z4 => ?_) (v1, σ)
    refine g_iload (q := 12) 0 dX0_addTry_10 rfl rfl ?_
    refine g_if_le (t := 42) (q := 15) dX0_addTry_12 (by decide) rfl ?_ ?_
    · refine g_sub (lr := [(0, .ref (b + o1)), (3, .int a4)]) [1, 3] rfl ?_
      exact (g_leave (g_there (z4.2 : gS)))
    · refine g_aload_n (q := 16) 1 dX0_addTry_15 rfl rfl rfl ?_
      refine g_iload (q := 18) 0 dX0_addTry_16 rfl rfl ?_
      refine g_aload_n (q := 19) 1 dX0_addTry_18 rfl rfl rfl ?_
      refine g_iload (q := 21) 0 dX0_addTry_19 rfl rfl ?_
      refine g_lald (q := 22) (ho1) dX0_addTry_21 rfl ?_
      refine g_iload_n (q := 23) 3 dX0_addTry_22 rfl rfl rfl ?_
      refine g_i2l (q := 24) dX0_addTry_23 rfl ?_
      refine g_lmul (q := 25) dX0_addTry_24 rfl ?_
      refine g_aload_n (q := 26) 1 dX0_addTry_25 rfl rfl rfl ?_
      refine g_iload (q := 28) 0 dX0_addTry_26 rfl rfl ?_
      refine g_iconst (q := 29) dX0_addTry_28 kI_1 rfl ?_
      refine g_isub (q := 30) dX0_addTry_29 rfl ?_
      refine g_lald (q := 31) (ho1) dX0_addTry_30 rfl ?_
      refine g_iload_n (q := 32) 2 dX0_addTry_31 rfl rfl rfl ?_
      refine g_i2l (q := 33) dX0_addTry_32 rfl ?_
      refine g_lmul (q := 34) dX0_addTry_33 rfl ?_
      refine g_ladd (q := 35) dX0_addTry_34 rfl ?_
      refine g_last (q := 36) (ho1) dX0_addTry_35 rfl (fun s5 => ?_)
      refine g_iinc (lr := [(0, .ref (b + o1)), (2, .int a3), (3, .int a4)]) (q := 39) 0 dX0_addTry_36 rfl kI_m1 (by decide) rfl rfl (fun x6 => ?_)
      refine g_goto (t := 10) dX0_addTry_39 (by decide) ?_
      exact (g_again ((x6, s5) : (Int32 × gS)))
  · refine g_aload_n (q := 43) 0 dX0_addTry_42 rfl rfl rfl ?_
    refine g_iconst (q := 44) dX0_addTry_43 kI_0 rfl ?_
    refine g_dup2 (q := 45) dX0_addTry_44 rfl rfl rfl ?_
    refine g_lald (q := 46) (ho1) dX0_addTry_45 rfl ?_
    refine g_iload_n (q := 47) 1 dX0_addTry_46 rfl rfl rfl ?_
    refine g_i2l (q := 48) dX0_addTry_47 rfl ?_
    refine g_lmul (q := 49) dX0_addTry_48 rfl ?_
    refine g_last (q := 50) (ho1) dX0_addTry_49 rfl (fun s7 => ?_)
    exact (g_vret dX0_addTry_50)
noncomputable def pX0_startRow (o1 n1 : Nat) (σ : gS) : Option (gS) := bn1 (lpP (fun (z2 : (Int32 × gS)) => if (Int32.ofNat n1) ≤ z2.1 then some (.inr z2.2) else if z2.1 = 0 then gx z2.1 n1 (lt' (wL z2.2 o1 z2.1.toNatClampNeg (1 : Int64)) (fun s3 => lt' (z2.1 + (1 : Int32)) (fun x4 => some (.inl (x4, s3))))) else gx z2.1 n1 (lt' (wL z2.2 o1 z2.1.toNatClampNeg (0 : Int64)) (fun s5 => lt' (z2.1 + (1 : Int32)) (fun x6 => some (.inl (x6, s5)))))) ((0 : Int32), σ)) (fun (z1 : gS) => some z1)
set_option maxRecDepth 100000 in
theorem cn_X0_startRow {G : gG} {b : Nat} {o1 n1 : Nat} (ho1 : shL vC o1 n1) {σ : gS} : CN vC G b 1 yX0_startRow cX0_startRow 2 none kV [.ref (b + o1)] σ (pX0_startRow o1 n1 σ) := by
  refine cn_of (own := RX0) rfl rfl (Nat.le_of_ble_eq_true rfl) ?_
  show GF vC G b (1, 0, 0) RX0 cX0_startRow 2 none kV 0 [(0, .ref (b + o1))] [] σ (pX0_startRow o1 n1 σ)
  unfold pX0_startRow
  refine g_iconst (q := 1) dX0_startRow_0 kI_0 rfl ?_
  refine g_istore_n (lr := [(0, .ref (b + o1))]) (q := 2) dX0_startRow_1 rfl (by decide) rfl rfl ?_
  refine g_bind (S := gS) (hd := 26) (lvf := fun z1 => []) (stf := fun z1 => []) (σf := fun z1 => z1) ?_ (fun z1 => ?_)
  · refine g_loop (S := (Int32 × gS)) (lvf := fun z2 => [(1, .int z2.1), (0, .ref (b + o1))]) (σf := fun z2 => z2.2) (fun z2 => ?_) ((0 : Int32), σ)
    refine g_iload_n (q := 3) 0 dX0_startRow_2 rfl rfl rfl ?_
    refine g_aload_n (q := 4) 1 dX0_startRow_3 rfl rfl rfl ?_
    refine g_alenL (v := Int32.ofNat n1) (q := 5) (ho1) rfl dX0_startRow_4 rfl ?_
    refine g_icmp_ge (t := 26) (q := 8) dX0_startRow_5 (by decide) rfl ?_ ?_
    · refine g_sub (lr := []) [] rfl ?_
      exact (g_leave (g_there (z2.2 : gS)))
    · refine g_aload_n (q := 9) 1 dX0_startRow_8 rfl rfl rfl ?_
      refine g_iload_n (q := 10) 0 dX0_startRow_9 rfl rfl rfl ?_
      refine g_iload_n (q := 11) 0 dX0_startRow_10 rfl rfl rfl ?_
      refine g_if_ne (t := 18) (q := 14) dX0_startRow_11 (by decide) rfl ?_ ?_
      · refine g_lconst (q := 15) (v := (1 : Int64)) dX0_startRow_14 rfl rfl ?_
        refine g_goto (t := 19) dX0_startRow_15 (by decide) ?_
        refine g_last (q := 20) (ho1) dX0_startRow_19 rfl (fun s3 => ?_)
        refine g_iinc (lr := [(0, .ref (b + o1))]) (q := 23) 0 dX0_startRow_20 rfl kI_1 (by decide) rfl rfl (fun x4 => ?_)
        refine g_goto (t := 2) dX0_startRow_23 (by decide) ?_
        exact (g_again ((x4, s3) : (Int32 × gS)))
      · refine g_lconst (q := 19) (v := (0 : Int64)) dX0_startRow_18 rfl rfl ?_
        refine g_last (q := 20) (ho1) dX0_startRow_19 rfl (fun s5 => ?_)
        refine g_iinc (lr := [(0, .ref (b + o1))]) (q := 23) 0 dX0_startRow_20 rfl kI_1 (by decide) rfl rfl (fun x6 => ?_)
        refine g_goto (t := 2) dX0_startRow_23 (by decide) ?_
        exact (g_again ((x6, s5) : (Int32 × gS)))
  · exact (g_vret dX0_startRow_26)
noncomputable def pX0_sumOf (o1 n1 : Nat) (a2 : Int32) (a3 : Int32) (σ : gS) : Option (Int64) := bn1 (pJ9_max_7cf53 a2 (0 : Int32)) (fun v1 => bn1 (lpP (fun (z4 : (Int32 × Int64)) => if a3 < z4.1 then some (.inr z4.2) else if (Int32.ofNat n1) ≤ z4.1 then some (.inr z4.2) else gx z4.1 n1 (lt' (z4.2 + (σ.2.1 o1 z4.1.toNatClampNeg)) (fun x5 => lt' (z4.1 + (1 : Int32)) (fun x6 => some (.inl (x6, x5)))))) (v1, (0 : Int64))) (fun (z3 : Int64) => some (z3)))
set_option maxRecDepth 100000 in
theorem cn_X0_sumOf {G : gG} {b : Nat} {o1 n1 : Nat} (ho1 : shL vC o1 n1) {a2 : Int32} {a3 : Int32} {σ : gS} : CN vC G b 2 yX0_sumOf cX0_sumOf 6 (some .long) (kPL σ) [.ref (b + o1), .int a2, .int a3] σ (pX0_sumOf o1 n1 a2 a3 σ) := by
  refine cn_of (own := RX0) rfl rfl (Nat.le_of_ble_eq_true rfl) ?_
  show GF vC G b (2, 0, 0) RX0 cX0_sumOf 6 (some .long) (kPL σ) 0 [(0, .ref (b + o1)), (1, .int a2), (2, .int a3)] [] σ (pX0_sumOf o1 n1 a2 a3 σ)
  unfold pX0_sumOf
  refine g_lconst (q := 1) (v := (0 : Int64)) dX0_sumOf_0 rfl rfl ?_
  refine g_lstore_n (lr := [(0, .ref (b + o1)), (1, .int a2), (2, .int a3)]) (q := 2) dX0_sumOf_1 rfl (by decide) rfl rfl ?_
  refine g_iload_n (q := 3) 2 dX0_sumOf_2 rfl rfl rfl ?_
  refine g_iconst (q := 4) dX0_sumOf_3 kI_0 rfl ?_
  refine g_callT (As := [.int a2, .int (0 : Int32)]) (st := []) (cn_J9_max_7cf53) cwX0_82 rfl dX0_sumOf_4 rfl (Nat.le_of_ble_eq_true rfl) (by decide) (kk_PI (fun v1 => ?_))
  refine g_istore (lr := [(3, .long (0 : Int64)), (0, .ref (b + o1)), (1, .int a2), (2, .int a3)]) (q := 9) dX0_sumOf_7 (by decide) rfl rfl ?_
  refine g_bind (S := Int64) (hd := 35) (lvf := fun z3 => [(3, .long z3)]) (stf := fun z3 => []) (σf := fun z3 => σ) ?_ (fun z3 => ?_)
  · refine g_sub (lr := [(5, .int v1), (3, .long (0 : Int64)), (0, .ref (b + o1)), (2, .int a3)]) [0, 1, 2, 4] rfl ?_
    refine g_loop (S := (Int32 × Int64)) (lvf := fun z4 => [(5, .int z4.1), (3, .long z4.2), (0, .ref (b + o1)), (2, .int a3)]) (σf := fun z4 => σ) (fun z4 => ?_) (v1, (0 : Int64))
    refine g_iload (q := 11) 0 dX0_sumOf_9 rfl rfl ?_
    refine g_iload_n (q := 12) 3 dX0_sumOf_11 rfl rfl rfl ?_
    refine g_icmp_gt (t := 35) (q := 15) dX0_sumOf_12 (by decide) rfl ?_ ?_
    · refine g_sub (lr := [(3, .long z4.2)]) [1] rfl ?_
      exact (g_leave (g_there (z4.2 : Int64)))
    · refine g_iload (q := 17) 0 dX0_sumOf_15 rfl rfl ?_
      refine g_aload_n (q := 18) 2 dX0_sumOf_17 rfl rfl rfl ?_
      refine g_alenL (v := Int32.ofNat n1) (q := 19) (ho1) rfl dX0_sumOf_18 rfl ?_
      refine g_icmp_ge (t := 35) (q := 22) dX0_sumOf_19 (by decide) rfl ?_ ?_
      · refine g_sub (lr := [(3, .long z4.2)]) [1] rfl ?_
        exact (g_leave (g_there (z4.2 : Int64)))
      · refine g_lload_n (q := 23) 1 dX0_sumOf_22 rfl rfl rfl ?_
        refine g_aload_n (q := 24) 2 dX0_sumOf_23 rfl rfl rfl ?_
        refine g_iload (q := 26) 0 dX0_sumOf_24 rfl rfl ?_
        refine g_lald (q := 27) (ho1) dX0_sumOf_26 rfl ?_
        refine g_ladd (q := 28) dX0_sumOf_27 rfl ?_
        refine g_letl (fun x5 => ?_)
        refine g_lstore_n (lr := [(5, .int z4.1), (0, .ref (b + o1)), (2, .int a3)]) (q := 29) dX0_sumOf_28 rfl (by decide) rfl rfl ?_
        refine g_iinc (lr := [(3, .long x5), (0, .ref (b + o1)), (2, .int a3)]) (q := 32) 1 dX0_sumOf_29 rfl kI_1 (by decide) rfl rfl (fun x6 => ?_)
        refine g_goto (t := 9) dX0_sumOf_32 (by decide) ?_
        exact (g_again ((x6, x5) : (Int32 × Int64)))
  · refine g_lload_n (q := 36) 0 dX0_sumOf_35 rfl rfl rfl ?_
    exact (g_lretP dX0_sumOf_36)
noncomputable def pX0_tailOf (a1 : Int32) (a2 : Int32) (a3 : Int32) (a4 : Int32) (σ : gS) : Option (Int64 × gS) := bn1 (pX0_startRow 47 31 σ) (fun s2 => bn1 (lpP (fun (z4 : (Int32 × gS)) => if a1 < z4.1 then some (.inr z4.2) else bn1 (pX0_addTry 47 31 z4.1 a3 (a4 - a3) z4.2) (fun s6 => lt' (z4.1 + (1 : Int32)) (fun x7 => some (.inl (x7, s6))))) ((1 : Int32), s2)) (fun (z3 : gS) => bn1 (pX0_sumOf 47 31 a2 a1 z3) (fun v8 => some (v8, z3))))
set_option maxRecDepth 100000 in
theorem cn_X0_tailOf {G : gG} {b : Nat} {a1 : Int32} {a2 : Int32} {a3 : Int32} {a4 : Int32} {σ : gS} : CN vC G b 3 yX0_tailOf cX0_tailOf 6 (some .long) kL [.ref (b + 44), .int a1, .int a2, .int a3, .int a4] σ (pX0_tailOf a1 a2 a3 a4 σ) := by
  refine cn_of (own := RX0) rfl rfl (Nat.le_of_ble_eq_true rfl) ?_
  show GF vC G b (3, 0, 0) RX0 cX0_tailOf 6 (some .long) kL 0 [(0, .ref (b + 44)), (1, .int a1), (2, .int a2), (3, .int a3), (4, .int a4)] [] σ (pX0_tailOf a1 a2 a3 a4 σ)
  unfold pX0_tailOf
  refine g_aload_n (q := 1) 0 dX0_tailOf_0 rfl rfl rfl ?_
  refine g_getA (q := 4) fX0_halves dX0_tailOf_1 ww337 rfl ?_
  refine g_callT (As := [.ref (b + 47)]) (st := []) (cn_X0_startRow (aX0_halves)) cwX0_27 rfl dX0_tailOf_4 rfl (Nat.le_of_ble_eq_true rfl) (by decide) (kk_V (fun s2 => ?_))
  refine g_iconst (q := 8) dX0_tailOf_7 kI_1 rfl ?_
  refine g_istore (lr := [(0, .ref (b + 44)), (1, .int a1), (2, .int a2), (3, .int a3), (4, .int a4)]) (q := 10) dX0_tailOf_8 (by decide) rfl rfl ?_
  refine g_bind (S := gS) (hd := 36) (lvf := fun z3 => [(0, .ref (b + 44)), (1, .int a1), (2, .int a2)]) (stf := fun z3 => []) (σf := fun z3 => z3) ?_ (fun z3 => ?_)
  · refine g_loop (S := (Int32 × gS)) (lvf := fun z4 => [(5, .int z4.1), (0, .ref (b + 44)), (1, .int a1), (2, .int a2), (3, .int a3), (4, .int a4)]) (σf := fun z4 => z4.2) (fun z4 => ?_) ((1 : Int32), s2)
    refine g_iload (q := 12) 0 dX0_tailOf_10 rfl rfl ?_
    refine g_iload_n (q := 13) 2 dX0_tailOf_12 rfl rfl rfl ?_
    refine g_icmp_gt (t := 36) (q := 16) dX0_tailOf_13 (by decide) rfl ?_ ?_
    · refine g_sub (lr := [(0, .ref (b + 44)), (1, .int a1), (2, .int a2)]) [1, 2, 3] rfl ?_
      exact (g_leave (g_there (z4.2 : gS)))
    · refine g_aload_n (q := 17) 1 dX0_tailOf_16 rfl rfl rfl ?_
      refine g_getA (q := 20) fX0_halves dX0_tailOf_17 ww337 rfl ?_
      refine g_iload (q := 22) 0 dX0_tailOf_20 rfl rfl ?_
      refine g_iload_n (q := 23) 4 dX0_tailOf_22 rfl rfl rfl ?_
      refine g_iload (q := 25) 5 dX0_tailOf_23 rfl rfl ?_
      refine g_iload_n (q := 26) 4 dX0_tailOf_25 rfl rfl rfl ?_
      refine g_isub (q := 27) dX0_tailOf_26 rfl ?_
      refine g_callT (As := [.ref (b + 47), .int z4.1, .int a3, .int (a4 - a3)]) (st := []) (cn_X0_addTry (aX0_halves)) cwX0_31 rfl dX0_tailOf_27 rfl (Nat.le_of_ble_eq_true rfl) (by decide) (kk_V (fun s6 => ?_))
      refine g_iinc (lr := [(0, .ref (b + 44)), (1, .int a1), (2, .int a2), (3, .int a3), (4, .int a4)]) (q := 33) 0 dX0_tailOf_30 rfl kI_1 (by decide) rfl rfl (fun x7 => ?_)
      refine g_goto (t := 10) dX0_tailOf_33 (by decide) ?_
      exact (g_again ((x7, s6) : (Int32 × gS)))
  · refine g_aload_n (q := 37) 0 dX0_tailOf_36 rfl rfl rfl ?_
    refine g_getA (q := 40) fX0_halves dX0_tailOf_37 ww337 rfl ?_
    refine g_iload_n (q := 41) 2 dX0_tailOf_40 rfl rfl rfl ?_
    refine g_iload_n (q := 42) 1 dX0_tailOf_41 rfl rfl rfl ?_
    refine g_callT (As := [.ref (b + 47), .int a2, .int a1]) (st := []) (cn_X0_sumOf (aX0_halves)) cwX0_35 rfl dX0_tailOf_42 rfl (Nat.le_of_ble_eq_true rfl) (by decide) (kk_PL (fun v8 => ?_))
    exact (g_lret dX0_tailOf_45)
noncomputable def pX10_tail (a1 : Int32) (a2 : Int32) (a3 : Int32) (a4 : Int32) (σ : gS) : Option (Int64 × gS) := bn1 (pX10_inRange a1 (0 : Int32) (30 : Int32)) (fun v1 => if v1 = 0 then some ((-1 : Int64), σ) else bn1 (pX10_inRange a2 (0 : Int32) (31 : Int32)) (fun v3 => if v3 = 0 then some ((-1 : Int64), σ) else bn1 (pX10_inRange a4 (1 : Int32) (4 : Int32)) (fun v5 => if v5 = 0 then some ((-1 : Int64), σ) else bn1 (pX10_inRange a3 (0 : Int32) a4) (fun v7 => if v7 = 0 then some ((-1 : Int64), σ) else bn2 (pX0_tailOf a1 a2 a3 a4 σ) (fun v9 s10 => some (v9, s10))))))
set_option maxRecDepth 100000 in
theorem cn_X10_tail {G : gG} {b : Nat} {a1 : Int32} {a2 : Int32} {a3 : Int32} {a4 : Int32} {σ : gS} : CN vC G b 4 yX10_tail cX10_tail 5 (some .long) kL [.ref (b + 0), .int a1, .int a2, .int a3, .int a4] σ (pX10_tail a1 a2 a3 a4 σ) := by
  refine cn_of (own := RX10) rfl rfl (Nat.le_of_ble_eq_true rfl) ?_
  show GF vC G b (4, 0, 0) RX10 cX10_tail 5 (some .long) kL 0 [(0, .ref (b + 0)), (1, .int a1), (2, .int a2), (3, .int a3), (4, .int a4)] [] σ (pX10_tail a1 a2 a3 a4 σ)
  unfold pX10_tail
  refine g_iload_n (q := 1) 1 dX10_tail_0 rfl rfl rfl ?_
  refine g_iconst (q := 2) dX10_tail_1 kI_0 rfl ?_
  refine g_bipush (q := 4) dX10_tail_2 kB_30 rfl ?_
  refine g_callT (As := [.int a1, .int (0 : Int32), .int (30 : Int32)]) (st := []) (cn_X10_inRange) cwX10_88 rfl dX10_tail_4 rfl (Nat.le_of_ble_eq_true rfl) (by decide) (kk_PI (fun v1 => ?_))
  refine g_if_eq (t := 40) (q := 10) dX10_tail_7 (by decide) rfl ?_ ?_
  · refine g_ldc2 (q := 43) dX10_tail_40 ww821 rfl ?_
    exact (g_lret dX10_tail_43)
  · refine g_iload_n (q := 11) 2 dX10_tail_10 rfl rfl rfl ?_
    refine g_iconst (q := 12) dX10_tail_11 kI_0 rfl ?_
    refine g_bipush (q := 14) dX10_tail_12 kB_31 rfl ?_
    refine g_callT (As := [.int a2, .int (0 : Int32), .int (31 : Int32)]) (st := []) (cn_X10_inRange) cwX10_88 rfl dX10_tail_14 rfl (Nat.le_of_ble_eq_true rfl) (by decide) (kk_PI (fun v3 => ?_))
    refine g_if_eq (t := 40) (q := 20) dX10_tail_17 (by decide) rfl ?_ ?_
    · refine g_ldc2 (q := 43) dX10_tail_40 ww821 rfl ?_
      exact (g_lret dX10_tail_43)
    · refine g_iload (q := 22) 4 dX10_tail_20 rfl rfl ?_
      refine g_iconst (q := 23) dX10_tail_22 kI_1 rfl ?_
      refine g_iconst (q := 24) dX10_tail_23 kI_4 rfl ?_
      refine g_callT (As := [.int a4, .int (1 : Int32), .int (4 : Int32)]) (st := []) (cn_X10_inRange) cwX10_88 rfl dX10_tail_24 rfl (Nat.le_of_ble_eq_true rfl) (by decide) (kk_PI (fun v5 => ?_))
      refine g_if_eq (t := 40) (q := 30) dX10_tail_27 (by decide) rfl ?_ ?_
      · refine g_ldc2 (q := 43) dX10_tail_40 ww821 rfl ?_
        exact (g_lret dX10_tail_43)
      · refine g_iload_n (q := 31) 3 dX10_tail_30 rfl rfl rfl ?_
        refine g_iconst (q := 32) dX10_tail_31 kI_0 rfl ?_
        refine g_iload (q := 34) 4 dX10_tail_32 rfl rfl ?_
        refine g_callT (As := [.int a3, .int (0 : Int32), .int a4]) (st := []) (cn_X10_inRange) cwX10_88 rfl dX10_tail_34 rfl (Nat.le_of_ble_eq_true rfl) (by decide) (kk_PI (fun v7 => ?_))
        refine g_if_ne (t := 44) (q := 40) dX10_tail_37 (by decide) rfl ?_ ?_
        · refine g_ldc2 (q := 43) dX10_tail_40 ww821 rfl ?_
          exact (g_lret dX10_tail_43)
        · refine g_aload_n (q := 45) 0 dX10_tail_44 rfl rfl rfl ?_
          refine g_getA (q := 48) fX10_chance dX10_tail_45 ww382 rfl ?_
          refine g_iload_n (q := 49) 1 dX10_tail_48 rfl rfl rfl ?_
          refine g_iload_n (q := 50) 2 dX10_tail_49 rfl rfl rfl ?_
          refine g_iload_n (q := 51) 3 dX10_tail_50 rfl rfl rfl ?_
          refine g_iload (q := 53) 4 dX10_tail_51 rfl rfl ?_
          refine g_callO (As := [.int a1, .int a2, .int a3, .int a4]) (st := []) (cn_X0_tailOf) shX0 rfl cwX10_201 rfl dX10_tail_53 rfl (Nat.le_of_ble_eq_true rfl) (by decide) (kk_L (fun v9 s10 => ?_))
          exact (g_lret dX10_tail_56)
noncomputable def pX0_agreed (a1 : Int32) (a2 : Int32) (a3 : Int32) (σ : gS) : Option (Int32 × gS) := bn1 (pX0_startRow 46 31 σ) (fun s2 => bn1 (pX0_startRow 47 31 s2) (fun s4 => bnS (lpP (fun (z6 : (Int32 × Int64 × Int64 × gS)) => if (30 : Int32) < z6.1 then some (.inr (.inl z6.2.2.2)) else bn1 (pX0_addTry 46 31 z6.1 (1 : Int32) (2 : Int32) z6.2.2.2) (fun s8 => bn1 (pX0_addTry 47 31 z6.1 (1 : Int32) (1 : Int32) s8) (fun s10 => lt' (z6.2.2.1 * (3 : Int64)) (fun x11 => lt' (z6.2.1 * (2 : Int64)) (fun x12 => bnS (lpP (fun (z14 : Int32) => if z6.1 < z14 then some (.inr (.inl ())) else bn1 (pX0_sumOf 46 31 z14 z6.1 s10) (fun v15 => if 0 < (lg_cmp ((a1.toInt64) * v15) x11) then lt' (z14 + (1 : Int32)) (fun x17 => some (.inl x17)) else bn1 (pX0_sumOf 47 31 (0 : Int32) (z14 - (1 : Int32)) s10) (fun v18 => if 0 < (lg_cmp ((a2.toInt64) * v18) x12) then lt' (z14 + (1 : Int32)) (fun x20 => some (.inl x20)) else if a3 = 0 then some (.inr (.inr (.inr (.inr (z6.1, s10))))) else some (.inr (.inr (.inr (.inr (z14, s10)))))))) (0 : Int32)) (fun (z13 : Unit) => lt' (z6.1 + (1 : Int32)) (fun x21 => some (.inl (x21, x12, x11, s10))))))))) ((1 : Int32), (1 : Int64), (1 : Int64), s4)) (fun (z5 : gS) => some ((-2 : Int32), z5))))
set_option maxRecDepth 100000 in
theorem cn_X0_agreed {G : gG} {b : Nat} {a1 : Int32} {a2 : Int32} {a3 : Int32} {σ : gS} : CN vC G b 3 yX0_agreed cX0_agreed 10 (some .int) kI [.ref (b + 44), .int a1, .int a2, .int a3] σ (pX0_agreed a1 a2 a3 σ) := by
  refine cn_of (own := RX0) rfl rfl (Nat.le_of_ble_eq_true rfl) ?_
  show GF vC G b (3, 0, 0) RX0 cX0_agreed 10 (some .int) kI 0 [(0, .ref (b + 44)), (1, .int a1), (2, .int a2), (3, .int a3)] [] σ (pX0_agreed a1 a2 a3 σ)
  unfold pX0_agreed
  refine g_aload_n (q := 1) 0 dX0_agreed_0 rfl rfl rfl ?_
  refine g_getA (q := 4) fX0_thirds dX0_agreed_1 ww336 rfl ?_
  refine g_callT (As := [.ref (b + 46)]) (st := []) (cn_X0_startRow (aX0_thirds)) cwX0_27 rfl dX0_agreed_4 rfl (Nat.le_of_ble_eq_true rfl) (by decide) (kk_V (fun s2 => ?_))
  refine g_aload_n (q := 8) 0 dX0_agreed_7 rfl rfl rfl ?_
  refine g_getA (q := 11) fX0_halves dX0_agreed_8 ww337 rfl ?_
  refine g_callT (As := [.ref (b + 47)]) (st := []) (cn_X0_startRow (aX0_halves)) cwX0_27 rfl dX0_agreed_11 rfl (Nat.le_of_ble_eq_true rfl) (by decide) (kk_V (fun s4 => ?_))
  refine g_lconst (q := 15) (v := (1 : Int64)) dX0_agreed_14 rfl rfl ?_
  refine g_lstore (lr := [(0, .ref (b + 44)), (1, .int a1), (2, .int a2), (3, .int a3)]) (q := 17) dX0_agreed_15 (by decide) rfl rfl ?_
  refine g_lconst (q := 18) (v := (1 : Int64)) dX0_agreed_17 rfl rfl ?_
  refine g_lstore (lr := [(4, .long (1 : Int64)), (0, .ref (b + 44)), (1, .int a1), (2, .int a2), (3, .int a3)]) (q := 20) dX0_agreed_18 (by decide) rfl rfl ?_
  refine g_iconst (q := 21) dX0_agreed_20 kI_1 rfl ?_
  refine g_istore (lr := [(6, .long (1 : Int64)), (4, .long (1 : Int64)), (0, .ref (b + 44)), (1, .int a1), (2, .int a2), (3, .int a3)]) (q := 23) dX0_agreed_21 (by decide) rfl rfl ?_
  refine g_bindS (S := gS) (hd := 143) (lvf := fun z5 => []) (stf := fun z5 => []) (σf := fun z5 => z5) ?_ (fun z5 => ?_)
  · refine g_loop (S := (Int32 × Int64 × Int64 × gS)) (lvf := fun z6 => [(8, .int z6.1), (6, .long z6.2.1), (4, .long z6.2.2.1), (0, .ref (b + 44)), (1, .int a1), (2, .int a2), (3, .int a3)]) (σf := fun z6 => z6.2.2.2) (fun z6 => ?_) ((1 : Int32), (1 : Int64), (1 : Int64), s4)
    refine g_iload (q := 25) 0 dX0_agreed_23 rfl rfl ?_
    refine g_bipush (q := 27) dX0_agreed_25 kB_30 rfl ?_
    refine g_icmp_gt (t := 143) (q := 30) dX0_agreed_27 (by decide) rfl ?_ ?_
    · refine g_sub (lr := []) [] rfl ?_
      exact (g_leave (g_thereS (z6.2.2.2 : gS)))
    · refine g_aload_n (q := 31) 3 dX0_agreed_30 rfl rfl rfl ?_
      refine g_getA (q := 34) fX0_thirds dX0_agreed_31 ww336 rfl ?_
      refine g_iload (q := 36) 0 dX0_agreed_34 rfl rfl ?_
      refine g_iconst (q := 37) dX0_agreed_36 kI_1 rfl ?_
      refine g_iconst (q := 38) dX0_agreed_37 kI_2 rfl ?_
      refine g_callT (As := [.ref (b + 46), .int z6.1, .int (1 : Int32), .int (2 : Int32)]) (st := []) (cn_X0_addTry (aX0_thirds)) cwX0_31 rfl dX0_agreed_38 rfl (Nat.le_of_ble_eq_true rfl) (by decide) (kk_V (fun s8 => ?_))
      refine g_aload_n (q := 42) 3 dX0_agreed_41 rfl rfl rfl ?_
      refine g_getA (q := 45) fX0_halves dX0_agreed_42 ww337 rfl ?_
      refine g_iload (q := 47) 0 dX0_agreed_45 rfl rfl ?_
      refine g_iconst (q := 48) dX0_agreed_47 kI_1 rfl ?_
      refine g_iconst (q := 49) dX0_agreed_48 kI_1 rfl ?_
      refine g_callT (As := [.ref (b + 47), .int z6.1, .int (1 : Int32), .int (1 : Int32)]) (st := []) (cn_X0_addTry (aX0_halves)) cwX0_31 rfl dX0_agreed_49 rfl (Nat.le_of_ble_eq_true rfl) (by decide) (kk_V (fun s10 => ?_))
      refine g_lload (q := 54) 2 dX0_agreed_52 rfl rfl ?_
      refine g_ldc2 (q := 57) dX0_agreed_54 ww845 rfl ?_
      refine g_lmul (q := 58) dX0_agreed_57 rfl ?_
      refine g_letl (fun x11 => ?_)
      refine g_lstore (lr := [(8, .int z6.1), (6, .long z6.2.1), (0, .ref (b + 44)), (1, .int a1), (2, .int a2), (3, .int a3)]) (q := 60) dX0_agreed_58 (by decide) rfl rfl ?_
      refine g_lload (q := 62) 2 dX0_agreed_60 rfl rfl ?_
      refine g_ldc2 (q := 65) dX0_agreed_62 ww846 rfl ?_
      refine g_lmul (q := 66) dX0_agreed_65 rfl ?_
      refine g_letl (fun x12 => ?_)
      refine g_lstore (lr := [(4, .long x11), (8, .int z6.1), (0, .ref (b + 44)), (1, .int a1), (2, .int a2), (3, .int a3)]) (q := 68) dX0_agreed_66 (by decide) rfl rfl ?_
      refine g_iconst (q := 69) dX0_agreed_68 kI_0 rfl ?_
      refine g_istore (lr := [(6, .long x12), (4, .long x11), (8, .int z6.1), (0, .ref (b + 44)), (1, .int a1), (2, .int a2), (3, .int a3)]) (q := 71) dX0_agreed_69 (by decide) rfl rfl ?_
      refine g_bindS (S := Unit) (hd := 137) (lvf := fun z13 => [(6, .long x12), (4, .long x11), (8, .int z6.1), (0, .ref (b + 44)), (1, .int a1), (2, .int a2), (3, .int a3)]) (stf := fun z13 => []) (σf := fun z13 => s10) ?_ (fun z13 => ?_)
      · refine g_loop (S := Int32) (lvf := fun z14 => [(9, .int z14), (6, .long x12), (4, .long x11), (8, .int z6.1), (0, .ref (b + 44)), (1, .int a1), (2, .int a2), (3, .int a3)]) (σf := fun z14 => s10) (fun z14 => ?_) (0 : Int32)
        refine g_iload (q := 73) 0 dX0_agreed_71 rfl rfl ?_
        refine g_iload (q := 75) 3 dX0_agreed_73 rfl rfl ?_
        refine g_icmp_gt (t := 137) (q := 78) dX0_agreed_75 (by decide) rfl ?_ ?_
        · refine g_sub (lr := [(6, .long x12), (4, .long x11), (8, .int z6.1), (0, .ref (b + 44)), (1, .int a1), (2, .int a2), (3, .int a3)]) [1, 2, 3, 4, 5, 6, 7] rfl ?_
          exact (g_leave (g_thereS (() : Unit)))
        · refine g_iload_n (q := 79) 5 dX0_agreed_78 rfl rfl rfl ?_
          refine g_i2l (q := 80) dX0_agreed_79 rfl ?_
          refine g_aload_n (q := 81) 4 dX0_agreed_80 rfl rfl rfl ?_
          refine g_getA (q := 84) fX0_thirds dX0_agreed_81 ww336 rfl ?_
          refine g_iload (q := 86) 0 dX0_agreed_84 rfl rfl ?_
          refine g_iload (q := 88) 3 dX0_agreed_86 rfl rfl ?_
          refine g_callT (As := [.ref (b + 46), .int z14, .int z6.1]) (st := [.long (a1.toInt64)]) (cn_X0_sumOf (aX0_thirds)) cwX0_35 rfl dX0_agreed_88 rfl (Nat.le_of_ble_eq_true rfl) (by decide) (kk_PL (fun v15 => ?_))
          refine g_lmul (q := 92) dX0_agreed_91 rfl ?_
          refine g_lload (q := 94) 2 dX0_agreed_92 rfl rfl ?_
          refine g_lcmp (q := 95) dX0_agreed_94 rfl ?_
          refine g_if_gt (t := 131) (q := 98) dX0_agreed_95 (by decide) rfl ?_ ?_
          · refine g_iinc (lr := [(6, .long x12), (4, .long x11), (8, .int z6.1), (0, .ref (b + 44)), (1, .int a1), (2, .int a2), (3, .int a3)]) (q := 134) 0 dX0_agreed_131 rfl kI_1 (by decide) rfl rfl (fun x17 => ?_)
            refine g_goto (t := 71) dX0_agreed_134 (by decide) ?_
            exact (g_again (x17 : Int32))
          · refine g_iload_n (q := 99) 6 dX0_agreed_98 rfl rfl rfl ?_
            refine g_i2l (q := 100) dX0_agreed_99 rfl ?_
            refine g_aload_n (q := 101) 4 dX0_agreed_100 rfl rfl rfl ?_
            refine g_getA (q := 104) fX0_halves dX0_agreed_101 ww337 rfl ?_
            refine g_iconst (q := 105) dX0_agreed_104 kI_0 rfl ?_
            refine g_iload (q := 107) 0 dX0_agreed_105 rfl rfl ?_
            refine g_iconst (q := 108) dX0_agreed_107 kI_1 rfl ?_
            refine g_isub (q := 109) dX0_agreed_108 rfl ?_
            refine g_callT (As := [.ref (b + 47), .int (0 : Int32), .int (z14 - (1 : Int32))]) (st := [.long (a2.toInt64)]) (cn_X0_sumOf (aX0_halves)) cwX0_35 rfl dX0_agreed_109 rfl (Nat.le_of_ble_eq_true rfl) (by decide) (kk_PL (fun v18 => ?_))
            refine g_lmul (q := 113) dX0_agreed_112 rfl ?_
            refine g_lload (q := 115) 1 dX0_agreed_113 rfl rfl ?_
            refine g_lcmp (q := 116) dX0_agreed_115 rfl ?_
            refine g_if_gt (t := 131) (q := 119) dX0_agreed_116 (by decide) rfl ?_ ?_
            · refine g_iinc (lr := [(6, .long x12), (4, .long x11), (8, .int z6.1), (0, .ref (b + 44)), (1, .int a1), (2, .int a2), (3, .int a3)]) (q := 134) 0 dX0_agreed_131 rfl kI_1 (by decide) rfl rfl (fun x20 => ?_)
              refine g_goto (t := 71) dX0_agreed_134 (by decide) ?_
              exact (g_again (x20 : Int32))
            · refine g_iload_n (q := 120) 7 dX0_agreed_119 rfl rfl rfl ?_
              refine g_if_ne (t := 128) (q := 123) dX0_agreed_120 (by decide) rfl ?_ ?_
              · refine g_iload (q := 125) 3 dX0_agreed_123 rfl rfl ?_
                refine g_goto (t := 130) dX0_agreed_125 (by decide) ?_
                exact (g_leave (g_right (g_leave (g_right (g_iret dX0_agreed_130)))))
              · refine g_iload (q := 130) 0 dX0_agreed_128 rfl rfl ?_
                exact (g_leave (g_right (g_leave (g_right (g_iret dX0_agreed_130)))))
      · refine g_iinc (lr := [(6, .long x12), (4, .long x11), (0, .ref (b + 44)), (1, .int a1), (2, .int a2), (3, .int a3)]) (q := 140) 2 dX0_agreed_137 rfl kI_1 (by decide) rfl rfl (fun x21 => ?_)
        refine g_goto (t := 23) dX0_agreed_140 (by decide) ?_
        exact (g_again ((x21, x12, x11, s10) : (Int32 × Int64 × Int64 × gS)))
  · refine g_bipush (q := 145) dX0_agreed_143 kB_m2 rfl ?_
    exact (g_iret dX0_agreed_145)
noncomputable def pX10_agree (a1 : Int32) (a2 : Int32) (a3 : Int32) (σ : gS) : Option (Int32 × gS) := bn1 (pX10_inRange a1 (2 : Int32) (1000 : Int32)) (fun v1 => if v1 = 0 then some ((-1 : Int32), σ) else bn1 (pX10_inRange a2 (2 : Int32) (1000 : Int32)) (fun v3 => if v3 = 0 then some ((-1 : Int32), σ) else bn1 (pX10_inRange a3 (0 : Int32) (1 : Int32)) (fun v5 => if v5 = 0 then some ((-1 : Int32), σ) else bn2 (pX0_agreed a1 a2 a3 σ) (fun v7 s8 => some (v7, s8)))))
set_option maxRecDepth 100000 in
theorem cn_X10_agree {G : gG} {b : Nat} {a1 : Int32} {a2 : Int32} {a3 : Int32} {σ : gS} : CN vC G b 4 yX10_agree cX10_agree 4 (some .int) kI [.ref (b + 0), .int a1, .int a2, .int a3] σ (pX10_agree a1 a2 a3 σ) := by
  refine cn_of (own := RX10) rfl rfl (Nat.le_of_ble_eq_true rfl) ?_
  show GF vC G b (4, 0, 0) RX10 cX10_agree 4 (some .int) kI 0 [(0, .ref (b + 0)), (1, .int a1), (2, .int a2), (3, .int a3)] [] σ (pX10_agree a1 a2 a3 σ)
  unfold pX10_agree
  refine g_iload_n (q := 1) 1 dX10_agree_0 rfl rfl rfl ?_
  refine g_iconst (q := 2) dX10_agree_1 kI_2 rfl ?_
  refine g_sipush (q := 5) dX10_agree_2 kS_1000 rfl ?_
  refine g_callT (As := [.int a1, .int (2 : Int32), .int (1000 : Int32)]) (st := []) (cn_X10_inRange) cwX10_88 rfl dX10_agree_5 rfl (Nat.le_of_ble_eq_true rfl) (by decide) (kk_PI (fun v1 => ?_))
  refine g_if_eq (t := 31) (q := 11) dX10_agree_8 (by decide) rfl ?_ ?_
  · refine g_iconst (q := 32) dX10_agree_31 kI_m1 rfl ?_
    exact (g_iret dX10_agree_32)
  · refine g_iload_n (q := 12) 2 dX10_agree_11 rfl rfl rfl ?_
    refine g_iconst (q := 13) dX10_agree_12 kI_2 rfl ?_
    refine g_sipush (q := 16) dX10_agree_13 kS_1000 rfl ?_
    refine g_callT (As := [.int a2, .int (2 : Int32), .int (1000 : Int32)]) (st := []) (cn_X10_inRange) cwX10_88 rfl dX10_agree_16 rfl (Nat.le_of_ble_eq_true rfl) (by decide) (kk_PI (fun v3 => ?_))
    refine g_if_eq (t := 31) (q := 22) dX10_agree_19 (by decide) rfl ?_ ?_
    · refine g_iconst (q := 32) dX10_agree_31 kI_m1 rfl ?_
      exact (g_iret dX10_agree_32)
    · refine g_iload_n (q := 23) 3 dX10_agree_22 rfl rfl rfl ?_
      refine g_iconst (q := 24) dX10_agree_23 kI_0 rfl ?_
      refine g_iconst (q := 25) dX10_agree_24 kI_1 rfl ?_
      refine g_callT (As := [.int a3, .int (0 : Int32), .int (1 : Int32)]) (st := []) (cn_X10_inRange) cwX10_88 rfl dX10_agree_25 rfl (Nat.le_of_ble_eq_true rfl) (by decide) (kk_PI (fun v5 => ?_))
      refine g_if_ne (t := 33) (q := 31) dX10_agree_28 (by decide) rfl ?_ ?_
      · refine g_iconst (q := 32) dX10_agree_31 kI_m1 rfl ?_
        exact (g_iret dX10_agree_32)
      · refine g_aload_n (q := 34) 0 dX10_agree_33 rfl rfl rfl ?_
        refine g_getA (q := 37) fX10_chance dX10_agree_34 ww382 rfl ?_
        refine g_iload_n (q := 38) 1 dX10_agree_37 rfl rfl rfl ?_
        refine g_iload_n (q := 39) 2 dX10_agree_38 rfl rfl rfl ?_
        refine g_iload_n (q := 40) 3 dX10_agree_39 rfl rfl rfl ?_
        refine g_callO (As := [.int a1, .int a2, .int a3]) (st := []) (cn_X0_agreed) shX0 rfl cwX10_205 rfl dX10_agree_40 rfl (Nat.le_of_ble_eq_true rfl) (by decide) (kk_I (fun v7 s8 => ?_))
        exact (g_iret dX10_agree_43)
noncomputable def pX10_isSign (a1 : Int32) (σ : gS) : Option (Int32) := gT (σ.2.2 23 0) tR (fun rr1 => bn1 (pX10_inRange a1 (0 : Int32) ((σ.1 rr1 0) - (1 : Int32))) (fun v2 => some (v2 &&& 1)))
set_option maxRecDepth 100000 in
theorem cn_X10_isSign {G : gG} {b : Nat} {a1 : Int32} {σ : gS} : CN vC G b 2 yX10_isSign cX10_isSign 2 (some .boolean) (kPI σ) [.ref (b + 0), .int a1] σ (pX10_isSign a1 σ) := by
  refine cn_of (own := RX10) rfl rfl (Nat.le_of_ble_eq_true rfl) ?_
  show GF vC G b (2, 0, 0) RX10 cX10_isSign 2 (some .boolean) (kPI σ) 0 [(0, .ref (b + 0)), (1, .int a1)] [] σ (pX10_isSign a1 σ)
  unfold pX10_isSign
  refine g_iload_n (q := 1) 1 dX10_isSign_0 rfl rfl rfl ?_
  refine g_iconst (q := 2) dX10_isSign_1 kI_0 rfl ?_
  refine g_aload_n (q := 3) 0 dX10_isSign_2 rfl rfl rfl ?_
  refine g_getA (q := 6) fX10_sky dX10_isSign_3 ww380 rfl ?_
  refine g_getR (cT := tR) (q := 9) fX4_told dX10_isSign_6 ww283 rfl (fun rr1 hrr1 => ?_)
  refine g_getI (q := 12) (fX9_signs hrr1) dX10_isSign_9 ww139 rfl ?_
  refine g_iconst (q := 13) dX10_isSign_12 kI_1 rfl ?_
  refine g_isub (q := 14) dX10_isSign_13 rfl ?_
  refine g_callT (As := [.int a1, .int (0 : Int32), .int ((σ.1 rr1 0) - (1 : Int32))]) (st := []) (cn_X10_inRange) cwX10_88 rfl dX10_isSign_14 rfl (Nat.le_of_ble_eq_true rfl) (by decide) (kk_PI (fun v2 => ?_))
  exact (g_bretP dX10_isSign_17)
noncomputable def pX5_addOne (a1 : Int32) (a2 : Int32) (σ : gS) : Option (gS) := lt' (wI σ 50 0 ((σ.1 50 0) + (1 : Int32))) (fun s1 => lt' (wI s1 50 1 ((s1.1 50 1) + a1)) (fun s2 => lt' (wI s2 50 2 ((s2.1 50 2) + a2)) (fun s3 => lt' (wI s3 50 3 ((s3.1 50 3) + (a1 &&& a2))) (fun s4 => some s4))))
set_option maxRecDepth 100000 in
theorem cn_X5_addOne {G : gG} {b : Nat} {a1 : Int32} {a2 : Int32} {σ : gS} : CN vC G b 1 yX5_addOne cX5_addOne 3 none kV [.ref (b + 50), .int a1, .int a2] σ (pX5_addOne a1 a2 σ) := by
  refine cn_of (own := RX5) rfl rfl (Nat.le_of_ble_eq_true rfl) ?_
  show GF vC G b (1, 0, 0) RX5 cX5_addOne 3 none kV 0 [(0, .ref (b + 50)), (1, .int a1), (2, .int a2)] [] σ (pX5_addOne a1 a2 σ)
  unfold pX5_addOne
  refine g_aload_n (q := 1) 0 dX5_addOne_0 rfl rfl rfl ?_
  refine g_dup (q := 2) dX5_addOne_1 rfl rfl ?_
  refine g_getI (q := 5) fX5_all dX5_addOne_2 ww357 rfl ?_
  refine g_iconst (q := 6) dX5_addOne_5 kI_1 rfl ?_
  refine g_iadd (q := 7) dX5_addOne_6 rfl ?_
  refine g_putI (q := 10) fX5_all pwX5_all okTX5 dX5_addOne_7 ww357 rfl (fun s1 => ?_)
  refine g_aload_n (q := 11) 0 dX5_addOne_10 rfl rfl rfl ?_
  refine g_dup (q := 12) dX5_addOne_11 rfl rfl ?_
  refine g_getI (q := 15) fX5_up dX5_addOne_12 ww359 rfl ?_
  refine g_iload_n (q := 16) 1 dX5_addOne_15 rfl rfl rfl ?_
  refine g_iadd (q := 17) dX5_addOne_16 rfl ?_
  refine g_putI (q := 20) fX5_up pwX5_up okTX5 dX5_addOne_17 ww359 rfl (fun s2 => ?_)
  refine g_aload_n (q := 21) 0 dX5_addOne_20 rfl rfl rfl ?_
  refine g_dup (q := 22) dX5_addOne_21 rfl rfl ?_
  refine g_getI (q := 25) fX5_trueOnes dX5_addOne_22 ww362 rfl ?_
  refine g_iload_n (q := 26) 2 dX5_addOne_25 rfl rfl rfl ?_
  refine g_iadd (q := 27) dX5_addOne_26 rfl ?_
  refine g_putI (q := 30) fX5_trueOnes pwX5_trueOnes okTX5 dX5_addOne_27 ww362 rfl (fun s3 => ?_)
  refine g_aload_n (q := 31) 0 dX5_addOne_30 rfl rfl rfl ?_
  refine g_dup (q := 32) dX5_addOne_31 rfl rfl ?_
  refine g_getI (q := 35) fX5_both dX5_addOne_32 ww365 rfl ?_
  refine g_iload_n (q := 36) 1 dX5_addOne_35 rfl rfl rfl ?_
  refine g_iload_n (q := 37) 2 dX5_addOne_36 rfl rfl rfl ?_
  refine g_iand (q := 38) dX5_addOne_37 rfl ?_
  refine g_iadd (q := 39) dX5_addOne_38 rfl ?_
  refine g_putI (q := 42) fX5_both pwX5_both okTX5 dX5_addOne_39 ww365 rfl (fun s4 => ?_)
  exact (g_vret dX5_addOne_42)
noncomputable def pX5_clear (σ : gS) : Option (gS) := lt' (wI σ 50 0 (0 : Int32)) (fun s1 => lt' (wI s1 50 1 (0 : Int32)) (fun s2 => lt' (wI s2 50 2 (0 : Int32)) (fun s3 => lt' (wI s3 50 3 (0 : Int32)) (fun s4 => some s4))))
set_option maxRecDepth 100000 in
theorem cn_X5_clear {G : gG} {b : Nat}  {σ : gS} : CN vC G b 1 yX5_clear cX5_clear 1 none kV [.ref (b + 50)] σ (pX5_clear σ) := by
  refine cn_of (own := RX5) rfl rfl (Nat.le_of_ble_eq_true rfl) ?_
  show GF vC G b (1, 0, 0) RX5 cX5_clear 1 none kV 0 [(0, .ref (b + 50))] [] σ (pX5_clear σ)
  unfold pX5_clear
  refine g_aload_n (q := 1) 0 dX5_clear_0 rfl rfl rfl ?_
  refine g_iconst (q := 2) dX5_clear_1 kI_0 rfl ?_
  refine g_putI (q := 5) fX5_all pwX5_all okTX5 dX5_clear_2 ww357 rfl (fun s1 => ?_)
  refine g_aload_n (q := 6) 0 dX5_clear_5 rfl rfl rfl ?_
  refine g_iconst (q := 7) dX5_clear_6 kI_0 rfl ?_
  refine g_putI (q := 10) fX5_up pwX5_up okTX5 dX5_clear_7 ww359 rfl (fun s2 => ?_)
  refine g_aload_n (q := 11) 0 dX5_clear_10 rfl rfl rfl ?_
  refine g_iconst (q := 12) dX5_clear_11 kI_0 rfl ?_
  refine g_putI (q := 15) fX5_trueOnes pwX5_trueOnes okTX5 dX5_clear_12 ww362 rfl (fun s3 => ?_)
  refine g_aload_n (q := 16) 0 dX5_clear_15 rfl rfl rfl ?_
  refine g_iconst (q := 17) dX5_clear_16 kI_0 rfl ?_
  refine g_putI (q := 20) fX5_both pwX5_both okTX5 dX5_clear_17 ww365 rfl (fun s4 => ?_)
  exact (g_vret dX5_clear_20)
noncomputable def pX4_fillTable (a2 : Int32) (a3 : Int32) (σ : gS) : Option (gS) := bn1 (pX5_clear σ) (fun s2 => bn1 (lpP (fun (z4 : (Int32 × gS)) => if (z4.2.1 21 1) ≤ z4.1 then some (.inr z4.2) else gx z4.1 20 (bn1 (pX10_bitOf (z4.2.1 36 z4.1.toNatClampNeg) a2) (fun v5 => gx z4.1 20 (bn1 (pX10_bitOf (z4.2.1 37 z4.1.toNatClampNeg) a3) (fun v7 => bn1 (pX5_addOne v5 v7 z4.2) (fun s10 => lt' (z4.1 + (1 : Int32)) (fun x11 => some (.inl (x11, s10))))))))) ((0 : Int32), s2)) (fun (z3 : gS) => some z3))
set_option maxRecDepth 100000 in
theorem cn_X4_fillTable {G : gG} {b : Nat} {a2 : Int32} {a3 : Int32} {σ : gS} : CN vC G b 2 yX4_fillTable cX4_fillTable 5 none kV [.ref (b + 23), .ref (b + 50), .int a2, .int a3] σ (pX4_fillTable a2 a3 σ) := by
  refine cn_of (own := RX4) rfl rfl (Nat.le_of_ble_eq_true rfl) ?_
  show GF vC G b (2, 0, 0) RX4 cX4_fillTable 5 none kV 0 [(0, .ref (b + 23)), (1, .ref (b + 50)), (2, .int a2), (3, .int a3)] [] σ (pX4_fillTable a2 a3 σ)
  unfold pX4_fillTable
  refine g_aload_n (q := 1) 1 dX4_fillTable_0 rfl rfl rfl ?_
  refine g_callO (As := []) (st := []) (cn_X5_clear) shX5 rfl cwX4_99 rfl dX4_fillTable_1 rfl (Nat.le_of_ble_eq_true rfl) (by decide) (kk_V (fun s2 => ?_))
  refine g_iconst (q := 5) dX4_fillTable_4 kI_0 rfl ?_
  refine g_istore (lr := [(0, .ref (b + 23)), (1, .ref (b + 50)), (2, .int a2), (3, .int a3)]) (q := 7) dX4_fillTable_5 (by decide) rfl rfl ?_
  refine g_bind (S := gS) (hd := 51) (lvf := fun z3 => []) (stf := fun z3 => []) (σf := fun z3 => z3) ?_ (fun z3 => ?_)
  · refine g_loop (S := (Int32 × gS)) (lvf := fun z4 => [(4, .int z4.1), (0, .ref (b + 23)), (1, .ref (b + 50)), (2, .int a2), (3, .int a3)]) (σf := fun z4 => z4.2) (fun z4 => ?_) ((0 : Int32), s2)
    refine g_iload (q := 9) 0 dX4_fillTable_7 rfl rfl ?_
    refine g_aload_n (q := 10) 1 dX4_fillTable_9 rfl rfl rfl ?_
    refine g_getA (q := 13) fX4_people dX4_fillTable_10 ww284 rfl ?_
    refine g_getI (q := 16) fX2_size dX4_fillTable_13 ww250 rfl ?_
    refine g_icmp_ge (t := 51) (q := 19) dX4_fillTable_16 (by decide) rfl ?_ ?_
    · refine g_sub (lr := []) [] rfl ?_
      exact (g_leave (g_there (z4.2 : gS)))
    · refine g_aload_n (q := 20) 2 dX4_fillTable_19 rfl rfl rfl ?_
      refine g_aload_n (q := 21) 1 dX4_fillTable_20 rfl rfl rfl ?_
      refine g_getA (q := 24) fX4_ups dX4_fillTable_21 ww286 rfl ?_
      refine g_iload (q := 26) 0 dX4_fillTable_24 rfl rfl ?_
      refine g_iald (q := 27) (aX4_ups) dX4_fillTable_26 rfl ?_
      refine g_iload_n (q := 28) 3 dX4_fillTable_27 rfl rfl rfl ?_
      refine g_callN (As := [.int (z4.2.1 36 z4.1.toNatClampNeg), .int a2]) (st := [.ref (b + 50)]) (cn_X10_bitOf) cwX4_80 rfl dX4_fillTable_28 rfl (Nat.le_of_ble_eq_true rfl) (by decide) (kk_PI (fun v5 => ?_))
      refine g_aload_n (q := 32) 1 dX4_fillTable_31 rfl rfl rfl ?_
      refine g_getA (q := 35) fX4_truths dX4_fillTable_32 ww288 rfl ?_
      refine g_iload (q := 37) 0 dX4_fillTable_35 rfl rfl ?_
      refine g_iald (q := 38) (aX4_truths) dX4_fillTable_37 rfl ?_
      refine g_iload_n (q := 39) 4 dX4_fillTable_38 rfl rfl rfl ?_
      refine g_callN (As := [.int (z4.2.1 37 z4.1.toNatClampNeg), .int a3]) (st := [.int v5, .ref (b + 50)]) (cn_X10_bitOf) cwX4_80 rfl dX4_fillTable_39 rfl (Nat.le_of_ble_eq_true rfl) (by decide) (kk_PI (fun v7 => ?_))
      refine g_callO (As := [.int v5, .int v7]) (st := []) (cn_X5_addOne) shX5 rfl cwX4_104 rfl dX4_fillTable_42 rfl (Nat.le_of_ble_eq_true rfl) (by decide) (kk_V (fun s10 => ?_))
      refine g_iinc (lr := [(0, .ref (b + 23)), (1, .ref (b + 50)), (2, .int a2), (3, .int a3)]) (q := 48) 0 dX4_fillTable_45 rfl kI_1 (by decide) rfl rfl (fun x11 => ?_)
      refine g_goto (t := 7) dX4_fillTable_48 (by decide) ?_
      exact (g_again ((x11, s10) : (Int32 × gS)))
  · exact (g_vret dX4_fillTable_51)
noncomputable def pX5_part (a1 : Int32) (σ : gS) : Option (Int32) := if a1 = (0 : Int32) then some (σ.1 50 0) else if a1 = (1 : Int32) then some (σ.1 50 1) else if a1 = (2 : Int32) then some (σ.1 50 2) else some (σ.1 50 3)
set_option maxRecDepth 100000 in
theorem cn_X5_part {G : gG} {b : Nat} {a1 : Int32} {σ : gS} : CN vC G b 1 yX5_part cX5_part 2 (some .int) (kPI σ) [.ref (b + 50), .int a1] σ (pX5_part a1 σ) := by
  refine cn_of (own := RX5) rfl rfl (Nat.le_of_ble_eq_true rfl) ?_
  show GF vC G b (1, 0, 0) RX5 cX5_part 2 (some .int) (kPI σ) 0 [(0, .ref (b + 50)), (1, .int a1)] [] σ (pX5_part a1 σ)
  unfold pX5_part
  refine g_iload_n (q := 1) 1 dX5_part_0 rfl rfl rfl ?_
  refine g_case (t := 28) (off := 27) (0 : Int32) dX5_part_1 (by decide +kernel) (by decide) ?_ (fun h1 => ?_)
  · refine g_aload_n (q := 29) 0 dX5_part_28 rfl rfl rfl ?_
    refine g_getI (q := 32) fX5_all dX5_part_29 ww357 rfl ?_
    exact (g_iretP dX5_part_32)
  refine g_case (t := 33) (off := 32) (1 : Int32) dX5_part_1 (by decide +kernel) (by decide) ?_ (fun h2 => ?_)
  · refine g_aload_n (q := 34) 0 dX5_part_33 rfl rfl rfl ?_
    refine g_getI (q := 37) fX5_up dX5_part_34 ww359 rfl ?_
    exact (g_iretP dX5_part_37)
  refine g_case (t := 38) (off := 37) (2 : Int32) dX5_part_1 (by decide +kernel) (by decide) ?_ (fun h3 => ?_)
  · refine g_aload_n (q := 39) 0 dX5_part_38 rfl rfl rfl ?_
    refine g_getI (q := 42) fX5_trueOnes dX5_part_39 ww362 rfl ?_
    exact (g_iretP dX5_part_42)
  refine g_dflt (t := 43) [(0 : Int32), (1 : Int32), (2 : Int32)] dX5_part_1 (by decide +kernel) (fun v hv => by simp only [List.mem_cons, List.not_mem_nil, or_false] at hv; rcases hv with rfl | rfl | rfl <;> assumption) (by decide) ?_
  refine g_aload_n (q := 44) 0 dX5_part_43 rfl rfl rfl ?_
  refine g_getI (q := 47) fX5_both dX5_part_44 ww365 rfl ?_
  exact (g_iretP dX5_part_47)
noncomputable def pX10_table (a1 : Int32) (a2 : Int32) (a3 : Int32) (σ : gS) : Option (Int32 × gS) := bn1 (pX10_isSign a1 σ) (fun v1 => if v1 = 0 then some ((-1 : Int32), σ) else bn1 (pX10_isSentence a2 σ) (fun v3 => if v3 = 0 then some ((-1 : Int32), σ) else bn1 (pX10_inRange a3 (0 : Int32) (3 : Int32)) (fun v5 => if v5 = 0 then some ((-1 : Int32), σ) else bn1 (pX4_survey σ) (fun s8 => bn1 (pX4_fillTable a1 a2 s8) (fun s10 => bn1 (pX5_part a3 s10) (fun v11 => some (v11, s10)))))))
set_option maxRecDepth 100000 in
theorem cn_X10_table {G : gG} {b : Nat} {a1 : Int32} {a2 : Int32} {a3 : Int32} {σ : gS} : CN vC G b 6 yX10_table cX10_table 4 (some .int) kI [.ref (b + 0), .int a1, .int a2, .int a3] σ (pX10_table a1 a2 a3 σ) := by
  refine cn_of (own := RX10) rfl rfl (Nat.le_of_ble_eq_true rfl) ?_
  show GF vC G b (6, 0, 0) RX10 cX10_table 4 (some .int) kI 0 [(0, .ref (b + 0)), (1, .int a1), (2, .int a2), (3, .int a3)] [] σ (pX10_table a1 a2 a3 σ)
  unfold pX10_table
  refine g_aload_n (q := 1) 0 dX10_table_0 rfl rfl rfl ?_
  refine g_iload_n (q := 2) 1 dX10_table_1 rfl rfl rfl ?_
  refine g_callO (As := [.int a1]) (st := []) (cn_X10_isSign) shX10 rfl cwX10_208 rfl dX10_table_2 rfl (Nat.le_of_ble_eq_true rfl) (by decide) (kk_PI (fun v1 => ?_))
  refine g_if_eq (t := 25) (q := 8) dX10_table_5 (by decide) rfl ?_ ?_
  · refine g_iconst (q := 26) dX10_table_25 kI_m1 rfl ?_
    exact (g_iret dX10_table_26)
  · refine g_aload_n (q := 9) 0 dX10_table_8 rfl rfl rfl ?_
    refine g_iload_n (q := 10) 2 dX10_table_9 rfl rfl rfl ?_
    refine g_callO (As := [.int a2]) (st := []) (cn_X10_isSentence) shX10 rfl cwX10_128 rfl dX10_table_10 rfl (Nat.le_of_ble_eq_true rfl) (by decide) (kk_PI (fun v3 => ?_))
    refine g_if_eq (t := 25) (q := 16) dX10_table_13 (by decide) rfl ?_ ?_
    · refine g_iconst (q := 26) dX10_table_25 kI_m1 rfl ?_
      exact (g_iret dX10_table_26)
    · refine g_iload_n (q := 17) 3 dX10_table_16 rfl rfl rfl ?_
      refine g_iconst (q := 18) dX10_table_17 kI_0 rfl ?_
      refine g_iconst (q := 19) dX10_table_18 kI_3 rfl ?_
      refine g_callT (As := [.int a3, .int (0 : Int32), .int (3 : Int32)]) (st := []) (cn_X10_inRange) cwX10_88 rfl dX10_table_19 rfl (Nat.le_of_ble_eq_true rfl) (by decide) (kk_PI (fun v5 => ?_))
      refine g_if_ne (t := 27) (q := 25) dX10_table_22 (by decide) rfl ?_ ?_
      · refine g_iconst (q := 26) dX10_table_25 kI_m1 rfl ?_
        exact (g_iret dX10_table_26)
      · refine g_aload_n (q := 28) 0 dX10_table_27 rfl rfl rfl ?_
        refine g_getA (q := 31) fX10_sky dX10_table_28 ww380 rfl ?_
        refine g_callO (As := []) (st := []) (cn_X4_survey) shX4 rfl cwX10_153 rfl dX10_table_31 rfl (Nat.le_of_ble_eq_true rfl) (by decide) (kk_V (fun s8 => ?_))
        refine g_aload_n (q := 35) 0 dX10_table_34 rfl rfl rfl ?_
        refine g_getA (q := 38) fX10_sky dX10_table_35 ww380 rfl ?_
        refine g_aload_n (q := 39) 0 dX10_table_38 rfl rfl rfl ?_
        refine g_getA (q := 42) fX10_tally dX10_table_39 ww383 rfl ?_
        refine g_iload_n (q := 43) 1 dX10_table_42 rfl rfl rfl ?_
        refine g_iload_n (q := 44) 2 dX10_table_43 rfl rfl rfl ?_
        refine g_callO (As := [.ref (b + 50), .int a1, .int a2]) (st := []) (cn_X4_fillTable) shX4 rfl cwX10_211 rfl dX10_table_44 rfl (Nat.le_of_ble_eq_true rfl) (by decide) (kk_V (fun s10 => ?_))
        refine g_aload_n (q := 48) 0 dX10_table_47 rfl rfl rfl ?_
        refine g_getA (q := 51) fX10_tally dX10_table_48 ww383 rfl ?_
        refine g_iload_n (q := 52) 3 dX10_table_51 rfl rfl rfl ?_
        refine g_callO (As := [.int a3]) (st := []) (cn_X5_part) shX5 rfl cwX10_215 rfl dX10_table_52 rfl (Nat.le_of_ble_eq_true rfl) (by decide) (kk_PI (fun v11 => ?_))
        exact (g_iret dX10_table_55)
noncomputable def pX0_taking (a1 : Int32) (a2 : Int32) (σ : gS) : Option (Int64) := bn1 (pX10_inRange a1 (0 : Int32) (20 : Int32)) (fun v1 => if v1 = 0 then some ((0 : Int64)) else bn1 (pX10_inRange a2 (0 : Int32) a1) (fun v3 => if v3 = 0 then some ((0 : Int64)) else gx ((a1 * (21 : Int32)) + a2) 441 (some (σ.2.1 45 ((a1 * (21 : Int32)) + a2).toNatClampNeg))))
set_option maxRecDepth 100000 in
theorem cn_X0_taking {G : gG} {b : Nat} {a1 : Int32} {a2 : Int32} {σ : gS} : CN vC G b 2 yX0_taking cX0_taking 3 (some .long) (kPL σ) [.ref (b + 44), .int a1, .int a2] σ (pX0_taking a1 a2 σ) := by
  refine cn_of (own := RX0) rfl rfl (Nat.le_of_ble_eq_true rfl) ?_
  show GF vC G b (2, 0, 0) RX0 cX0_taking 3 (some .long) (kPL σ) 0 [(0, .ref (b + 44)), (1, .int a1), (2, .int a2)] [] σ (pX0_taking a1 a2 σ)
  unfold pX0_taking
  refine g_iload_n (q := 1) 1 dX0_taking_0 rfl rfl rfl ?_
  refine g_iconst (q := 2) dX0_taking_1 kI_0 rfl ?_
  refine g_bipush (q := 4) dX0_taking_2 kB_20 rfl ?_
  refine g_callN (As := [.int a1, .int (0 : Int32), .int (20 : Int32)]) (st := []) (cn_X10_inRange) cwX0_72 rfl dX0_taking_4 rfl (Nat.le_of_ble_eq_true rfl) (by decide) (kk_PI (fun v1 => ?_))
  refine g_if_eq (t := 33) (q := 10) dX0_taking_7 (by decide) rfl ?_ ?_
  · refine g_lconst (q := 34) (v := (0 : Int64)) dX0_taking_33 rfl rfl ?_
    exact (g_lretP dX0_taking_34)
  · refine g_iload_n (q := 11) 2 dX0_taking_10 rfl rfl rfl ?_
    refine g_iconst (q := 12) dX0_taking_11 kI_0 rfl ?_
    refine g_iload_n (q := 13) 1 dX0_taking_12 rfl rfl rfl ?_
    refine g_callN (As := [.int a2, .int (0 : Int32), .int a1]) (st := []) (cn_X10_inRange) cwX0_72 rfl dX0_taking_13 rfl (Nat.le_of_ble_eq_true rfl) (by decide) (kk_PI (fun v3 => ?_))
    refine g_if_eq (t := 33) (q := 19) dX0_taking_16 (by decide) rfl ?_ ?_
    · refine g_lconst (q := 34) (v := (0 : Int64)) dX0_taking_33 rfl rfl ?_
      exact (g_lretP dX0_taking_34)
    · refine g_aload_n (q := 20) 0 dX0_taking_19 rfl rfl rfl ?_
      refine g_getA (q := 23) fX0_takings dX0_taking_20 ww335 rfl ?_
      refine g_iload_n (q := 24) 1 dX0_taking_23 rfl rfl rfl ?_
      refine g_bipush (q := 26) dX0_taking_24 kB_21 rfl ?_
      refine g_imul (q := 27) dX0_taking_26 rfl ?_
      refine g_iload_n (q := 28) 2 dX0_taking_27 rfl rfl rfl ?_
      refine g_iadd (q := 29) dX0_taking_28 rfl ?_
      refine g_lald (q := 30) (aX0_takings) dX0_taking_29 rfl ?_
      refine g_goto (t := 34) dX0_taking_30 (by decide) ?_
      exact (g_lretP dX0_taking_34)
noncomputable def pX0_allOf (σ : gS) : Option (Int64) := bn1 (pX0_taking (σ.1 50 0) (σ.1 50 1) σ) (fun v1 => some (v1))
set_option maxRecDepth 100000 in
theorem cn_X0_allOf {G : gG} {b : Nat}  {σ : gS} : CN vC G b 3 yX0_allOf cX0_allOf 2 (some .long) (kPL σ) [.ref (b + 44), .ref (b + 50)] σ (pX0_allOf σ) := by
  refine cn_of (own := RX0) rfl rfl (Nat.le_of_ble_eq_true rfl) ?_
  show GF vC G b (3, 0, 0) RX0 cX0_allOf 2 (some .long) (kPL σ) 0 [(0, .ref (b + 44)), (1, .ref (b + 50))] [] σ (pX0_allOf σ)
  unfold pX0_allOf
  refine g_aload_n (q := 1) 0 dX0_allOf_0 rfl rfl rfl ?_
  refine g_aload_n (q := 2) 1 dX0_allOf_1 rfl rfl rfl ?_
  refine g_getI (q := 5) fX5_all dX0_allOf_2 ww358 rfl ?_
  refine g_aload_n (q := 6) 1 dX0_allOf_5 rfl rfl rfl ?_
  refine g_getI (q := 9) fX5_up dX0_allOf_6 ww360 rfl ?_
  refine g_callO (As := [.int (σ.1 50 0), .int (σ.1 50 1)]) (st := []) (cn_X0_taking) shX0 rfl cwX0_52 rfl dX0_allOf_9 rfl (Nat.le_of_ble_eq_true rfl) (by decide) (kk_PL (fun v1 => ?_))
  exact (g_lretP dX0_allOf_12)
noncomputable def pX0_takingJust (a2 : Int32) (σ : gS) : Option (Int64) := bn1 (pX0_taking (σ.1 50 2) a2 σ) (fun v1 => bn1 (pX0_taking ((σ.1 50 0) - (σ.1 50 2)) ((σ.1 50 1) - a2) σ) (fun v3 => some (v1 * v3)))
set_option maxRecDepth 100000 in
theorem cn_X0_takingJust {G : gG} {b : Nat} {a2 : Int32} {σ : gS} : CN vC G b 3 yX0_takingJust cX0_takingJust 3 (some .long) (kPL σ) [.ref (b + 44), .ref (b + 50), .int a2] σ (pX0_takingJust a2 σ) := by
  refine cn_of (own := RX0) rfl rfl (Nat.le_of_ble_eq_true rfl) ?_
  show GF vC G b (3, 0, 0) RX0 cX0_takingJust 3 (some .long) (kPL σ) 0 [(0, .ref (b + 44)), (1, .ref (b + 50)), (2, .int a2)] [] σ (pX0_takingJust a2 σ)
  unfold pX0_takingJust
  refine g_aload_n (q := 1) 0 dX0_takingJust_0 rfl rfl rfl ?_
  refine g_aload_n (q := 2) 1 dX0_takingJust_1 rfl rfl rfl ?_
  refine g_getI (q := 5) fX5_trueOnes dX0_takingJust_2 ww363 rfl ?_
  refine g_iload_n (q := 6) 2 dX0_takingJust_5 rfl rfl rfl ?_
  refine g_callO (As := [.int (σ.1 50 2), .int a2]) (st := []) (cn_X0_taking) shX0 rfl cwX0_52 rfl dX0_takingJust_6 rfl (Nat.le_of_ble_eq_true rfl) (by decide) (kk_PL (fun v1 => ?_))
  refine g_aload_n (q := 10) 0 dX0_takingJust_9 rfl rfl rfl ?_
  refine g_aload_n (q := 11) 1 dX0_takingJust_10 rfl rfl rfl ?_
  refine g_getI (q := 14) fX5_all dX0_takingJust_11 ww358 rfl ?_
  refine g_aload_n (q := 15) 1 dX0_takingJust_14 rfl rfl rfl ?_
  refine g_getI (q := 18) fX5_trueOnes dX0_takingJust_15 ww363 rfl ?_
  refine g_isub (q := 19) dX0_takingJust_18 rfl ?_
  refine g_aload_n (q := 20) 1 dX0_takingJust_19 rfl rfl rfl ?_
  refine g_getI (q := 23) fX5_up dX0_takingJust_20 ww360 rfl ?_
  refine g_iload_n (q := 24) 2 dX0_takingJust_23 rfl rfl rfl ?_
  refine g_isub (q := 25) dX0_takingJust_24 rfl ?_
  refine g_callO (As := [.int ((σ.1 50 0) - (σ.1 50 2)), .int ((σ.1 50 1) - a2)]) (st := [.long v1]) (cn_X0_taking) shX0 rfl cwX0_52 rfl dX0_takingJust_25 rfl (Nat.le_of_ble_eq_true rfl) (by decide) (kk_PL (fun v3 => ?_))
  refine g_lmul (q := 29) dX0_takingJust_28 rfl ?_
  exact (g_lretP dX0_takingJust_29)
noncomputable def pX0_moreOf (σ : gS) : Option (Int64) := lt' (σ.1 50 3) (fun x1 => bn1 (lpP (fun (z3 : (Int32 × Int64)) => if (σ.1 50 1) < z3.1 then some (.inr z3.2) else bn1 (pX0_takingJust z3.1 σ) (fun v4 => lt' (z3.2 + v4) (fun x6 => lt' (z3.1 + (1 : Int32)) (fun x7 => some (.inl (x7, x6)))))) (x1, (0 : Int64))) (fun (z2 : Int64) => some (z2)))
set_option maxRecDepth 100000 in
theorem cn_X0_moreOf {G : gG} {b : Nat}  {σ : gS} : CN vC G b 4 yX0_moreOf cX0_moreOf 5 (some .long) (kPL σ) [.ref (b + 44), .ref (b + 50)] σ (pX0_moreOf σ) := by
  refine cn_of (own := RX0) rfl rfl (Nat.le_of_ble_eq_true rfl) ?_
  show GF vC G b (4, 0, 0) RX0 cX0_moreOf 5 (some .long) (kPL σ) 0 [(0, .ref (b + 44)), (1, .ref (b + 50))] [] σ (pX0_moreOf σ)
  unfold pX0_moreOf
  refine g_lconst (q := 1) (v := (0 : Int64)) dX0_moreOf_0 rfl rfl ?_
  refine g_lstore_n (lr := [(0, .ref (b + 44)), (1, .ref (b + 50))]) (q := 2) dX0_moreOf_1 rfl (by decide) rfl rfl ?_
  refine g_aload_n (q := 3) 2 dX0_moreOf_2 rfl rfl rfl ?_
  refine g_getI (q := 6) fX5_both dX0_moreOf_3 ww366 rfl ?_
  refine g_leti (fun x1 => ?_)
  refine g_istore (lr := [(2, .long (0 : Int64)), (0, .ref (b + 44)), (1, .ref (b + 50))]) (q := 8) dX0_moreOf_6 (by decide) rfl rfl ?_
  refine g_bind (S := Int64) (hd := 33) (lvf := fun z2 => [(2, .long z2)]) (stf := fun z2 => []) (σf := fun z2 => σ) ?_ (fun z2 => ?_)
  · refine g_loop (S := (Int32 × Int64)) (lvf := fun z3 => [(4, .int z3.1), (2, .long z3.2), (0, .ref (b + 44)), (1, .ref (b + 50))]) (σf := fun z3 => σ) (fun z3 => ?_) (x1, (0 : Int64))
    refine g_iload (q := 10) 0 dX0_moreOf_8 rfl rfl ?_
    refine g_aload_n (q := 11) 3 dX0_moreOf_10 rfl rfl rfl ?_
    refine g_getI (q := 14) fX5_up dX0_moreOf_11 ww360 rfl ?_
    refine g_icmp_gt (t := 33) (q := 17) dX0_moreOf_14 (by decide) rfl ?_ ?_
    · refine g_sub (lr := [(2, .long z3.2)]) [1] rfl ?_
      exact (g_leave (g_there (z3.2 : Int64)))
    · refine g_lload_n (q := 18) 1 dX0_moreOf_17 rfl rfl rfl ?_
      refine g_aload_n (q := 19) 2 dX0_moreOf_18 rfl rfl rfl ?_
      refine g_aload_n (q := 20) 3 dX0_moreOf_19 rfl rfl rfl ?_
      refine g_iload (q := 22) 0 dX0_moreOf_20 rfl rfl ?_
      refine g_callO (As := [.ref (b + 50), .int z3.1]) (st := [.long z3.2]) (cn_X0_takingJust) shX0 rfl cwX0_59 rfl dX0_moreOf_22 rfl (Nat.le_of_ble_eq_true rfl) (by decide) (kk_PL (fun v4 => ?_))
      refine g_ladd (q := 26) dX0_moreOf_25 rfl ?_
      refine g_letl (fun x6 => ?_)
      refine g_lstore_n (lr := [(4, .int z3.1), (0, .ref (b + 44)), (1, .ref (b + 50))]) (q := 27) dX0_moreOf_26 rfl (by decide) rfl rfl ?_
      refine g_iinc (lr := [(2, .long x6), (0, .ref (b + 44)), (1, .ref (b + 50))]) (q := 30) 1 dX0_moreOf_27 rfl kI_1 (by decide) rfl rfl (fun x7 => ?_)
      refine g_goto (t := 8) dX0_moreOf_30 (by decide) ?_
      exact (g_again ((x7, x6) : (Int32 × Int64)))
  · refine g_lload_n (q := 34) 0 dX0_moreOf_33 rfl rfl rfl ?_
    exact (g_lretP dX0_moreOf_34)
