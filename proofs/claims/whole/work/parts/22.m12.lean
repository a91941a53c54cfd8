noncomputable def pX11_paper (a1 : Int32) (a2 : Int32) (σ : gS) : Option (Int32 × gS) := bn1 (pX11_isBook a1 σ) (fun v1 => if v1 = 0 then some ((-1 : Int32), σ) else bn1 (pX11_isPerson a2 σ) (fun v3 => if v3 = 0 then some ((-1 : Int32), σ) else bn2 (pX11_paperOf a1 a2 σ) (fun v5 s6 => some (v5, s6))))
set_option maxRecDepth 100000 in
theorem cn_X11_paper {G : gG} {b : Nat} {a1 : Int32} {a2 : Int32} {σ : gS} : CN vR G b 7 yX11_paper cX11_paper 3 (some .int) kI [.ref (b + 0), .int a1, .int a2] σ (pX11_paper a1 a2 σ) := by
  refine cn_of (own := RX11) rfl rfl (Nat.le_of_ble_eq_true rfl) ?_
  show GF vR G b (7, 0, 0) RX11 cX11_paper 3 (some .int) kI 0 [(0, .ref (b + 0)), (1, .int a1), (2, .int a2)] [] σ (pX11_paper a1 a2 σ)
  unfold pX11_paper
  refine g_aload_n (q := 1) 0 dX11_paper_0 rfl rfl rfl ?_
  refine g_iload_n (q := 2) 1 dX11_paper_1 rfl rfl rfl ?_
  refine g_callO (As := [.int a1]) (st := []) (cn_X11_isBook) shX11 rfl cwX11_353 rfl dX11_paper_2 rfl (Nat.le_of_ble_eq_true rfl) (by decide) (kk_PI (fun v1 => ?_))
  refine g_if_eq (t := 25) (q := 8) dX11_paper_5 (by decide) rfl ?_ ?_
  · refine g_iconst (q := 26) dX11_paper_25 kI_m1 rfl ?_
    exact (g_iret dX11_paper_26)
  · refine g_aload_n (q := 9) 0 dX11_paper_8 rfl rfl rfl ?_
    refine g_iload_n (q := 10) 2 dX11_paper_9 rfl rfl rfl ?_
    refine g_callO (As := [.int a2]) (st := []) (cn_X11_isPerson) shX11 rfl cwX11_328 rfl dX11_paper_10 rfl (Nat.le_of_ble_eq_true rfl) (by decide) (kk_PI (fun v3 => ?_))
    refine g_if_eq (t := 25) (q := 16) dX11_paper_13 (by decide) rfl ?_ ?_
    · refine g_iconst (q := 26) dX11_paper_25 kI_m1 rfl ?_
      exact (g_iret dX11_paper_26)
    · refine g_aload_n (q := 17) 0 dX11_paper_16 rfl rfl rfl ?_
      refine g_iload_n (q := 18) 1 dX11_paper_17 rfl rfl rfl ?_
      refine g_iload_n (q := 19) 2 dX11_paper_18 rfl rfl rfl ?_
      refine g_callO (As := [.int a1, .int a2]) (st := []) (cn_X11_paperOf) shX11 rfl cwX11_356 rfl dX11_paper_19 rfl (Nat.le_of_ble_eq_true rfl) (by decide) (kk_I (fun v5 s6 => ?_))
      refine g_goto (t := 26) dX11_paper_22 (by decide) ?_
      exact (g_iret dX11_paper_26)
noncomputable def pX11_altered (a1 : Int32) (a2 : Int32) (σ : gS) : Option (Int32 × gS) := bn1 (pX11_isBook a1 σ) (fun v1 => if v1 = 0 then some ((-1 : Int32), σ) else bn1 (pX11_in a2 (2 : Int32) (30 : Int32)) (fun v3 => if v3 = 0 then some ((-1 : Int32), σ) else bn1 (lpP (fun (z6 : (Int32 × Int32 × gS)) => if (z6.2.2.1 0 51) ≤ z6.1 then some (.inr (z6.2.1, z6.2.2)) else bn2 (pX11_paperOf a1 z6.1 z6.2.2) (fun v7 s8 => gx z6.1 20 (bn1 (pX11_round (s8.1 35 z6.1.toNatClampNeg) a2) (fun v9 => bn2 (pX11_signsOf z6.1 v9 s8) (fun v11 s12 => bn1 (pX11_paperBy a1 v11 s12) (fun v13 => if v7 = v13 then lt' (z6.1 + (1 : Int32)) (fun x15 => some (.inl (x15, z6.2.1, s12))) else lt' (z6.2.1 + (1 : Int32)) (fun x16 => lt' (z6.1 + (1 : Int32)) (fun x17 => some (.inl (x17, x16, s12)))))))))) ((0 : Int32), (0 : Int32), σ)) (fun (z5 : (Int32 × gS)) => some (z5.1, z5.2))))
set_option maxRecDepth 100000 in
theorem cn_X11_altered {G : gG} {b : Nat} {a1 : Int32} {a2 : Int32} {σ : gS} : CN vR G b 7 yX11_altered cX11_altered 5 (some .int) kI [.ref (b + 0), .int a1, .int a2] σ (pX11_altered a1 a2 σ) := by
  refine cn_of (own := RX11) rfl rfl (Nat.le_of_ble_eq_true rfl) ?_
  show GF vR G b (7, 0, 0) RX11 cX11_altered 5 (some .int) kI 0 [(0, .ref (b + 0)), (1, .int a1), (2, .int a2)] [] σ (pX11_altered a1 a2 σ)
  unfold pX11_altered
  refine g_aload_n (q := 1) 0 dX11_altered_0 rfl rfl rfl ?_
  refine g_iload_n (q := 2) 1 dX11_altered_1 rfl rfl rfl ?_
  refine g_callO (As := [.int a1]) (st := []) (cn_X11_isBook) shX11 rfl cwX11_353 rfl dX11_altered_2 rfl (Nat.le_of_ble_eq_true rfl) (by decide) (kk_PI (fun v1 => ?_))
  refine g_if_eq (t := 18) (q := 8) dX11_altered_5 (by decide) rfl ?_ ?_
  · refine g_iconst (q := 19) dX11_altered_18 kI_m1 rfl ?_
    exact (g_iret dX11_altered_19)
  · refine g_iload_n (q := 9) 2 dX11_altered_8 rfl rfl rfl ?_
    refine g_iconst (q := 10) dX11_altered_9 kI_2 rfl ?_
    refine g_bipush (q := 12) dX11_altered_10 kB_30 rfl ?_
    refine g_callT (As := [.int a2, .int (2 : Int32), .int (30 : Int32)]) (st := []) (cn_X11_in) cwX11_313 rfl dX11_altered_12 rfl (Nat.le_of_ble_eq_true rfl) (by decide) (kk_PI (fun v3 => ?_))
    refine g_if_ne (t := 20) (q := 18) dX11_altered_15 (by decide) rfl ?_ ?_
    · refine g_iconst (q := 19) dX11_altered_18 kI_m1 rfl ?_
      exact (g_iret dX11_altered_19)
    · refine g_iconst (q := 21) dX11_altered_20 kI_0 rfl ?_
      refine g_istore_n (lr := [(0, .ref (b + 0)), (1, .int a1), (2, .int a2)]) (q := 22) dX11_altered_21 rfl (by decide) rfl rfl ?_
      refine g_iconst (q := 23) dX11_altered_22 kI_0 rfl ?_
      refine g_istore (lr := [(3, .int (0 : Int32)), (0, .ref (b + 0)), (1, .int a1), (2, .int a2)]) (q := 25) dX11_altered_23 (by decide) rfl rfl ?_
      refine g_bind (S := (Int32 × gS)) (hd := 75) (lvf := fun z5 => [(3, .int z5.1)]) (stf := fun z5 => []) (σf := fun z5 => z5.2) ?_ (fun z5 => ?_)
      · refine g_loop (S := (Int32 × Int32 × gS)) (lvf := fun z6 => [(4, .int z6.1), (3, .int z6.2.1), (0, .ref (b + 0)), (1, .int a1), (2, .int a2)]) (σf := fun z6 => z6.2.2) (fun z6 => ?_) ((0 : Int32), (0 : Int32), σ)
        refine g_iload (q := 27) 0 dX11_altered_25 rfl rfl ?_
        refine g_aload_n (q := 28) 2 dX11_altered_27 rfl rfl rfl ?_
        refine g_getI (q := 31) fX11_people dX11_altered_28 ww1093 rfl ?_
        refine g_icmp_ge (t := 75) (q := 34) dX11_altered_31 (by decide) rfl ?_ ?_
        · refine g_sub (lr := [(3, .int z6.2.1)]) [1] rfl ?_
          exact (g_leave (g_there ((z6.2.1, z6.2.2) : (Int32 × gS))))
        · refine g_aload_n (q := 35) 2 dX11_altered_34 rfl rfl rfl ?_
          refine g_iload_n (q := 36) 3 dX11_altered_35 rfl rfl rfl ?_
          refine g_iload (q := 38) 0 dX11_altered_36 rfl rfl ?_
          refine g_callO (As := [.int a1, .int z6.1]) (st := []) (cn_X11_paperOf) shX11 rfl cwX11_356 rfl dX11_altered_38 rfl (Nat.le_of_ble_eq_true rfl) (by decide) (kk_I (fun v7 s8 => ?_))
          refine g_aload_n (q := 42) 2 dX11_altered_41 rfl rfl rfl ?_
          refine g_iload_n (q := 43) 3 dX11_altered_42 rfl rfl rfl ?_
          refine g_aload_n (q := 44) 2 dX11_altered_43 rfl rfl rfl ?_
          refine g_iload (q := 46) 0 dX11_altered_44 rfl rfl ?_
          refine g_aload_n (q := 47) 2 dX11_altered_46 rfl rfl rfl ?_
          refine g_getA (q := 50) fX11_minutes dX11_altered_47 ww1094 rfl ?_
          refine g_iload (q := 52) 0 dX11_altered_50 rfl rfl ?_
          refine g_iald (q := 53) (aX11_minutes) dX11_altered_52 rfl ?_
          refine g_iload_n (q := 54) 4 dX11_altered_53 rfl rfl rfl ?_
          refine g_callT (As := [.int (s8.1 35 z6.1.toNatClampNeg), .int a2]) (st := [.int z6.1, .ref (b + 0), .int a1, .ref (b + 0), .int v7]) (cn_X11_round) cwX11_340 rfl dX11_altered_54 rfl (Nat.le_of_ble_eq_true rfl) (by decide) (kk_PI (fun v9 => ?_))
          refine g_callO (As := [.int z6.1, .int v9]) (st := [.int a1, .ref (b + 0), .int v7]) (cn_X11_signsOf) shX11 rfl cwX11_337 rfl dX11_altered_57 rfl (Nat.le_of_ble_eq_true rfl) (by decide) (kk_I (fun v11 s12 => ?_))
          refine g_callO (As := [.int a1, .int v11]) (st := [.int v7]) (cn_X11_paperBy) shX11 rfl cwX11_350 rfl dX11_altered_60 rfl (Nat.le_of_ble_eq_true rfl) (by decide) (kk_PI (fun v13 => ?_))
          refine g_icmp_eq (t := 69) (q := 66) dX11_altered_63 (by decide) rfl ?_ ?_
          · refine g_iinc (lr := [(3, .int z6.2.1), (0, .ref (b + 0)), (1, .int a1), (2, .int a2)]) (q := 72) 0 dX11_altered_69 rfl kI_1 (by decide) rfl rfl (fun x15 => ?_)
            refine g_goto (t := 25) dX11_altered_72 (by decide) ?_
            exact (g_again ((x15, z6.2.1, s12) : (Int32 × Int32 × gS)))
          · refine g_iinc (lr := [(4, .int z6.1), (0, .ref (b + 0)), (1, .int a1), (2, .int a2)]) (q := 69) 1 dX11_altered_66 rfl kI_1 (by decide) rfl rfl (fun x16 => ?_)
            refine g_iinc (lr := [(3, .int x16), (0, .ref (b + 0)), (1, .int a1), (2, .int a2)]) (q := 72) 1 dX11_altered_69 rfl kI_1 (by decide) rfl rfl (fun x17 => ?_)
            refine g_goto (t := 25) dX11_altered_72 (by decide) ?_
            exact (g_again ((x17, x16, s12) : (Int32 × Int32 × gS)))
      · refine g_iload_n (q := 76) 0 dX11_altered_75 rfl rfl rfl ?_
        exact (g_iret dX11_altered_76)
noncomputable def pX11_trueOf (a1 : Int32) (σ : gS) : Option (Int32 × gS) := bn1 (lpP (fun (z2 : (Int32 × Int32 × gS)) => if (z2.2.2.1 0 51) ≤ z2.1 then some (.inr (z2.2.1, z2.2.2)) else bn2 (pX11_isTrueOf a1 z2.1 z2.2.2) (fun v3 s4 => if v3 = 0 then lt' (z2.1 + (1 : Int32)) (fun x5 => some (.inl (x5, z2.2.1, s4))) else lt' (z2.2.1 + (1 : Int32)) (fun x6 => lt' (z2.1 + (1 : Int32)) (fun x7 => some (.inl (x7, x6, s4)))))) ((0 : Int32), (0 : Int32), σ)) (fun (z1 : (Int32 × gS)) => some (z1.1, z1.2))
set_option maxRecDepth 100000 in
theorem cn_X11_trueOf {G : gG} {b : Nat} {a1 : Int32} {σ : gS} : CN vR G b 5 yX11_trueOf cX11_trueOf 4 (some .int) kI [.ref (b + 0), .int a1] σ (pX11_trueOf a1 σ) := by
  refine cn_of (own := RX11) rfl rfl (Nat.le_of_ble_eq_true rfl) ?_
  show GF vR G b (5, 0, 0) RX11 cX11_trueOf 4 (some .int) kI 0 [(0, .ref (b + 0)), (1, .int a1)] [] σ (pX11_trueOf a1 σ)
  unfold pX11_trueOf
  refine g_iconst (q := 1) dX11_trueOf_0 kI_0 rfl ?_
  refine g_istore_n (lr := [(0, .ref (b + 0)), (1, .int a1)]) (q := 2) dX11_trueOf_1 rfl (by decide) rfl rfl ?_
  refine g_iconst (q := 3) dX11_trueOf_2 kI_0 rfl ?_
  refine g_istore_n (lr := [(2, .int (0 : Int32)), (0, .ref (b + 0)), (1, .int a1)]) (q := 4) dX11_trueOf_3 rfl (by decide) rfl rfl ?_
  refine g_bind (S := (Int32 × gS)) (hd := 30) (lvf := fun z1 => [(2, .int z1.1)]) (stf := fun z1 => []) (σf := fun z1 => z1.2) ?_ (fun z1 => ?_)
  · refine g_loop (S := (Int32 × Int32 × gS)) (lvf := fun z2 => [(3, .int z2.1), (2, .int z2.2.1), (0, .ref (b + 0)), (1, .int a1)]) (σf := fun z2 => z2.2.2) (fun z2 => ?_) ((0 : Int32), (0 : Int32), σ)
    refine g_iload_n (q := 5) 0 dX11_trueOf_4 rfl rfl rfl ?_
    refine g_aload_n (q := 6) 2 dX11_trueOf_5 rfl rfl rfl ?_
    refine g_getI (q := 9) fX11_people dX11_trueOf_6 ww1093 rfl ?_
    refine g_icmp_ge (t := 30) (q := 12) dX11_trueOf_9 (by decide) rfl ?_ ?_
    · refine g_sub (lr := [(2, .int z2.2.1)]) [1] rfl ?_
      exact (g_leave (g_there ((z2.2.1, z2.2.2) : (Int32 × gS))))
    · refine g_aload_n (q := 13) 2 dX11_trueOf_12 rfl rfl rfl ?_
      refine g_iload_n (q := 14) 3 dX11_trueOf_13 rfl rfl rfl ?_
      refine g_iload_n (q := 15) 0 dX11_trueOf_14 rfl rfl rfl ?_
      refine g_callO (As := [.int a1, .int z2.1]) (st := []) (cn_X11_isTrueOf) shX11 rfl cwX11_346 rfl dX11_trueOf_15 rfl (Nat.le_of_ble_eq_true rfl) (by decide) (kk_I (fun v3 s4 => ?_))
      refine g_if_eq (t := 24) (q := 21) dX11_trueOf_18 (by decide) rfl ?_ ?_
      · refine g_iinc (lr := [(2, .int z2.2.1), (0, .ref (b + 0)), (1, .int a1)]) (q := 27) 0 dX11_trueOf_24 rfl kI_1 (by decide) rfl rfl (fun x5 => ?_)
        refine g_goto (t := 4) dX11_trueOf_27 (by decide) ?_
        exact (g_again ((x5, z2.2.1, s4) : (Int32 × Int32 × gS)))
      · refine g_iinc (lr := [(3, .int z2.1), (0, .ref (b + 0)), (1, .int a1)]) (q := 24) 1 dX11_trueOf_21 rfl kI_1 (by decide) rfl rfl (fun x6 => ?_)
        refine g_iinc (lr := [(2, .int x6), (0, .ref (b + 0)), (1, .int a1)]) (q := 27) 1 dX11_trueOf_24 rfl kI_1 (by decide) rfl rfl (fun x7 => ?_)
        refine g_goto (t := 4) dX11_trueOf_27 (by decide) ?_
        exact (g_again ((x7, x6, s4) : (Int32 × Int32 × gS)))
  · refine g_iload_n (q := 31) 0 dX11_trueOf_30 rfl rfl rfl ?_
    exact (g_iret dX11_trueOf_31)
noncomputable def pX11_truly (a1 : Int32) (a2 : Int32) (a3 : Int32) (σ : gS) : Option (Int32 × gS) := bn1 (pX11_isSay a1 σ) (fun v1 => if v1 = 0 then some ((-1 : Int32), σ) else bn1 (pX11_isBook a2 σ) (fun v3 => if v3 = 0 then some ((-1 : Int32), σ) else bn1 (pX11_in a3 (0 : Int32) (3 : Int32)) (fun v5 => if v5 = 0 then some ((-1 : Int32), σ) else if a3 = 0 then bn2 (pX11_trueOf a1 σ) (fun v7 s8 => some (v7, s8)) else bn1 (lpP (fun (z10 : (Int32 × Int32 × gS)) => if (z10.2.2.1 0 51) ≤ z10.1 then some (.inr (z10.2.1, z10.2.2)) else bn2 (pX11_paperOf a2 z10.1 z10.2.2) (fun v11 s12 => bn1 (if ((v11 >>> (a1 &&& (31 : Int32))) &&& (1 : Int32)) = (1 : Int32) then some (1 : Int32) else some (0 : Int32)) (fun (z13 : Int32) => if a3 = (3 : Int32) then if z13 = 0 then lt' (z10.1 + (1 : Int32)) (fun x14 => some (.inl (x14, z10.2.1, s12))) else lt' (z10.2.1 + (1 : Int32)) (fun x15 => lt' (z10.1 + (1 : Int32)) (fun x16 => some (.inl (x16, x15, s12)))) else bn1 (if a3 = (1 : Int32) then some (1 : Int32) else some (0 : Int32)) (fun (z17 : Int32) => if z13 = z17 then bn2 (pX11_isTrueOf a1 z10.1 s12) (fun v18 s19 => if v18 = 0 then lt' (z10.1 + (1 : Int32)) (fun x20 => some (.inl (x20, z10.2.1, s19))) else lt' (z10.2.1 + (1 : Int32)) (fun x21 => lt' (z10.1 + (1 : Int32)) (fun x22 => some (.inl (x22, x21, s19))))) else lt' (z10.1 + (1 : Int32)) (fun x23 => some (.inl (x23, z10.2.1, s12))))))) ((0 : Int32), (0 : Int32), σ)) (fun (z9 : (Int32 × gS)) => some (z9.1, z9.2)))))
set_option maxRecDepth 100000 in
theorem cn_X11_truly {G : gG} {b : Nat} {a1 : Int32} {a2 : Int32} {a3 : Int32} {σ : gS} : CN vR G b 7 yX11_truly cX11_truly 7 (some .int) kI [.ref (b + 0), .int a1, .int a2, .int a3] σ (pX11_truly a1 a2 a3 σ) := by
  refine cn_of (own := RX11) rfl rfl (Nat.le_of_ble_eq_true rfl) ?_
  show GF vR G b (7, 0, 0) RX11 cX11_truly 7 (some .int) kI 0 [(0, .ref (b + 0)), (1, .int a1), (2, .int a2), (3, .int a3)] [] σ (pX11_truly a1 a2 a3 σ)
  unfold pX11_truly
  refine g_aload_n (q := 1) 0 dX11_truly_0 rfl rfl rfl ?_
  refine g_iload_n (q := 2) 1 dX11_truly_1 rfl rfl rfl ?_
  refine g_callO (As := [.int a1]) (st := []) (cn_X11_isSay) shX11 rfl cwX11_343 rfl dX11_truly_2 rfl (Nat.le_of_ble_eq_true rfl) (by decide) (kk_PI (fun v1 => ?_))
  refine g_if_eq (t := 25) (q := 8) dX11_truly_5 (by decide) rfl ?_ ?_
  · refine g_iconst (q := 26) dX11_truly_25 kI_m1 rfl ?_
    exact (g_iret dX11_truly_26)
  · refine g_aload_n (q := 9) 0 dX11_truly_8 rfl rfl rfl ?_
    refine g_iload_n (q := 10) 2 dX11_truly_9 rfl rfl rfl ?_
    refine g_callO (As := [.int a2]) (st := []) (cn_X11_isBook) shX11 rfl cwX11_353 rfl dX11_truly_10 rfl (Nat.le_of_ble_eq_true rfl) (by decide) (kk_PI (fun v3 => ?_))
    refine g_if_eq (t := 25) (q := 16) dX11_truly_13 (by decide) rfl ?_ ?_
    · refine g_iconst (q := 26) dX11_truly_25 kI_m1 rfl ?_
      exact (g_iret dX11_truly_26)
    · refine g_iload_n (q := 17) 3 dX11_truly_16 rfl rfl rfl ?_
      refine g_iconst (q := 18) dX11_truly_17 kI_0 rfl ?_
      refine g_iconst (q := 19) dX11_truly_18 kI_3 rfl ?_
      refine g_callT (As := [.int a3, .int (0 : Int32), .int (3 : Int32)]) (st := []) (cn_X11_in) cwX11_313 rfl dX11_truly_19 rfl (Nat.le_of_ble_eq_true rfl) (by decide) (kk_PI (fun v5 => ?_))
      refine g_if_ne (t := 27) (q := 25) dX11_truly_22 (by decide) rfl ?_ ?_
      · refine g_iconst (q := 26) dX11_truly_25 kI_m1 rfl ?_
        exact (g_iret dX11_truly_26)
      · refine g_iload_n (q := 28) 3 dX11_truly_27 rfl rfl rfl ?_
        refine g_if_ne (t := 37) (q := 31) dX11_truly_28 (by decide) rfl ?_ ?_
        · refine g_aload_n (q := 32) 0 dX11_truly_31 rfl rfl rfl ?_
          refine g_iload_n (q := 33) 1 dX11_truly_32 rfl rfl rfl ?_
          refine g_callO (As := [.int a1]) (st := []) (cn_X11_trueOf) shX11 rfl cwX11_359 rfl dX11_truly_33 rfl (Nat.le_of_ble_eq_true rfl) (by decide) (kk_I (fun v7 s8 => ?_))
          exact (g_iret dX11_truly_36)
        · refine g_iconst (q := 38) dX11_truly_37 kI_0 rfl ?_
          refine g_istore (lr := [(0, .ref (b + 0)), (1, .int a1), (2, .int a2), (3, .int a3)]) (q := 40) dX11_truly_38 (by decide) rfl rfl ?_
          refine g_iconst (q := 41) dX11_truly_40 kI_0 rfl ?_
          refine g_istore (lr := [(4, .int (0 : Int32)), (0, .ref (b + 0)), (1, .int a1), (2, .int a2), (3, .int a3)]) (q := 43) dX11_truly_41 (by decide) rfl rfl ?_
          refine g_bind (S := (Int32 × gS)) (hd := 121) (lvf := fun z9 => [(4, .int z9.1)]) (stf := fun z9 => []) (σf := fun z9 => z9.2) ?_ (fun z9 => ?_)
          · refine g_loop (S := (Int32 × Int32 × gS)) (lvf := fun z10 => [(5, .int z10.1), (4, .int z10.2.1), (0, .ref (b + 0)), (1, .int a1), (2, .int a2), (3, .int a3)]) (σf := fun z10 => z10.2.2) (fun z10 => ?_) ((0 : Int32), (0 : Int32), σ)
            refine g_iload (q := 45) 0 dX11_truly_43 rfl rfl ?_
            refine g_aload_n (q := 46) 2 dX11_truly_45 rfl rfl rfl ?_
            refine g_getI (q := 49) fX11_people dX11_truly_46 ww1093 rfl ?_
            refine g_icmp_ge (t := 121) (q := 52) dX11_truly_49 (by decide) rfl ?_ ?_
            · refine g_sub (lr := [(4, .int z10.2.1)]) [1] rfl ?_
              exact (g_leave (g_there ((z10.2.1, z10.2.2) : (Int32 × gS))))
            · refine g_aload_n (q := 53) 2 dX11_truly_52 rfl rfl rfl ?_
              refine g_iload_n (q := 54) 4 dX11_truly_53 rfl rfl rfl ?_
              refine g_iload (q := 56) 0 dX11_truly_54 rfl rfl ?_
              refine g_callO (As := [.int a2, .int z10.1]) (st := []) (cn_X11_paperOf) shX11 rfl cwX11_356 rfl dX11_truly_56 rfl (Nat.le_of_ble_eq_true rfl) (by decide) (kk_I (fun v11 s12 => ?_))
              refine g_iload_n (q := 60) 3 dX11_truly_59 rfl rfl rfl ?_
              refine g_ishr (q := 61) dX11_truly_60 rfl ?_
              refine g_iconst (q := 62) dX11_truly_61 kI_1 rfl ?_
              refine g_iand (q := 63) dX11_truly_62 rfl ?_
              refine g_iconst (q := 64) dX11_truly_63 kI_1 rfl ?_
              refine g_bind (S := Int32) (hd := 72) (lvf := fun z13 => [(5, .int z10.1), (4, .int z10.2.1), (0, .ref (b + 0)), (1, .int a1), (2, .int a2), (3, .int a3)]) (stf := fun z13 => [.int z13]) (σf := fun z13 => s12) ?_ (fun z13 => ?_)
              · refine g_icmp_ne (t := 71) (q := 67) dX11_truly_64 (by decide) rfl ?_ ?_
                · refine g_iconst (q := 68) dX11_truly_67 kI_1 rfl ?_
                  refine g_goto (t := 72) dX11_truly_68 (by decide) ?_
                  exact (g_there ((1 : Int32) : Int32))
                · refine g_iconst (q := 72) dX11_truly_71 kI_0 rfl ?_
                  exact (g_there ((0 : Int32) : Int32))
              · refine g_istore (lr := [(5, .int z10.1), (4, .int z10.2.1), (0, .ref (b + 0)), (1, .int a1), (2, .int a2), (3, .int a3)]) (q := 74) dX11_truly_72 (by decide) rfl rfl ?_
                refine g_iload_n (q := 75) 6 dX11_truly_74 rfl rfl rfl ?_
                refine g_iconst (q := 76) dX11_truly_75 kI_3 rfl ?_
                refine g_icmp_ne (t := 87) (q := 79) dX11_truly_76 (by decide) rfl ?_ ?_
                · refine g_iload (q := 81) 0 dX11_truly_79 rfl rfl ?_
                  refine g_if_eq (t := 115) (q := 84) dX11_truly_81 (by decide) rfl ?_ ?_
                  · refine g_iinc (lr := [(6, .int z13), (4, .int z10.2.1), (0, .ref (b + 0)), (1, .int a1), (2, .int a2), (3, .int a3)]) (q := 118) 1 dX11_truly_115 rfl kI_1 (by decide) rfl rfl (fun x14 => ?_)
                    refine g_goto (t := 43) dX11_truly_118 (by decide) ?_
                    refine g_sub (lr := [(5, .int x14), (4, .int z10.2.1), (0, .ref (b + 0)), (1, .int a1), (2, .int a2), (3, .int a3)]) [0, 2, 3, 4, 5, 6] rfl ?_
                    exact (g_again ((x14, z10.2.1, s12) : (Int32 × Int32 × gS)))
                  · refine g_goto (t := 112) dX11_truly_84 (by decide) ?_
                    refine g_iinc (lr := [(6, .int z13), (5, .int z10.1), (0, .ref (b + 0)), (1, .int a1), (2, .int a2), (3, .int a3)]) (q := 115) 2 dX11_truly_112 rfl kI_1 (by decide) rfl rfl (fun x15 => ?_)
                    refine g_iinc (lr := [(4, .int x15), (6, .int z13), (0, .ref (b + 0)), (1, .int a1), (2, .int a2), (3, .int a3)]) (q := 118) 2 dX11_truly_115 rfl kI_1 (by decide) rfl rfl (fun x16 => ?_)
                    refine g_goto (t := 43) dX11_truly_118 (by decide) ?_
                    refine g_sub (lr := [(5, .int x16), (4, .int x15), (0, .ref (b + 0)), (1, .int a1), (2, .int a2), (3, .int a3)]) [0, 1, 3, 4, 5, 6] rfl ?_
                    exact (g_again ((x16, x15, s12) : (Int32 × Int32 × gS)))
                · refine g_iload (q := 89) 0 dX11_truly_87 rfl rfl ?_
                  refine g_iload_n (q := 90) 6 dX11_truly_89 rfl rfl rfl ?_
                  refine g_iconst (q := 91) dX11_truly_90 kI_1 rfl ?_
                  refine g_bind (S := Int32) (hd := 99) (lvf := fun z17 => [(5, .int z10.1), (4, .int z10.2.1), (0, .ref (b + 0)), (1, .int a1), (2, .int a2), (3, .int a3)]) (stf := fun z17 => [.int z17, .int z13]) (σf := fun z17 => s12) ?_ (fun z17 => ?_)
                  · refine g_icmp_ne (t := 98) (q := 94) dX11_truly_91 (by decide) rfl ?_ ?_
                    · refine g_iconst (q := 95) dX11_truly_94 kI_1 rfl ?_
                      refine g_goto (t := 99) dX11_truly_95 (by decide) ?_
                      refine g_sub (lr := [(5, .int z10.1), (4, .int z10.2.1), (0, .ref (b + 0)), (1, .int a1), (2, .int a2), (3, .int a3)]) [1, 2, 3, 4, 5, 6] rfl ?_
                      exact (g_there ((1 : Int32) : Int32))
                    · refine g_iconst (q := 99) dX11_truly_98 kI_0 rfl ?_
                      refine g_sub (lr := [(5, .int z10.1), (4, .int z10.2.1), (0, .ref (b + 0)), (1, .int a1), (2, .int a2), (3, .int a3)]) [1, 2, 3, 4, 5, 6] rfl ?_
                      exact (g_there ((0 : Int32) : Int32))
                  · refine g_icmp_ne (t := 115) (q := 102) dX11_truly_99 (by decide) rfl ?_ ?_
                    · refine g_aload_n (q := 103) 2 dX11_truly_102 rfl rfl rfl ?_
                      refine g_iload_n (q := 104) 3 dX11_truly_103 rfl rfl rfl ?_
                      refine g_iload (q := 106) 0 dX11_truly_104 rfl rfl ?_
                      refine g_callO (As := [.int a1, .int z10.1]) (st := []) (cn_X11_isTrueOf) shX11 rfl cwX11_346 rfl dX11_truly_106 rfl (Nat.le_of_ble_eq_true rfl) (by decide) (kk_I (fun v18 s19 => ?_))
                      refine g_if_eq (t := 115) (q := 112) dX11_truly_109 (by decide) rfl ?_ ?_
                      · refine g_iinc (lr := [(4, .int z10.2.1), (0, .ref (b + 0)), (1, .int a1), (2, .int a2), (3, .int a3)]) (q := 118) 0 dX11_truly_115 rfl kI_1 (by decide) rfl rfl (fun x20 => ?_)
                        refine g_goto (t := 43) dX11_truly_118 (by decide) ?_
                        exact (g_again ((x20, z10.2.1, s19) : (Int32 × Int32 × gS)))
                      · refine g_iinc (lr := [(5, .int z10.1), (0, .ref (b + 0)), (1, .int a1), (2, .int a2), (3, .int a3)]) (q := 115) 1 dX11_truly_112 rfl kI_1 (by decide) rfl rfl (fun x21 => ?_)
                        refine g_iinc (lr := [(4, .int x21), (0, .ref (b + 0)), (1, .int a1), (2, .int a2), (3, .int a3)]) (q := 118) 1 dX11_truly_115 rfl kI_1 (by decide) rfl rfl (fun x22 => ?_)
                        refine g_goto (t := 43) dX11_truly_118 (by decide) ?_
                        exact (g_again ((x22, x21, s19) : (Int32 × Int32 × gS)))
                    · refine g_iinc (lr := [(4, .int z10.2.1), (0, .ref (b + 0)), (1, .int a1), (2, .int a2), (3, .int a3)]) (q := 118) 0 dX11_truly_115 rfl kI_1 (by decide) rfl rfl (fun x23 => ?_)
                      refine g_goto (t := 43) dX11_truly_118 (by decide) ?_
                      exact (g_again ((x23, z10.2.1, s12) : (Int32 × Int32 × gS)))
          · refine g_iload (q := 123) 0 dX11_truly_121 rfl rfl ?_
            exact (g_iret dX11_truly_123)
noncomputable def pX11_left (a1 : Int32) (a2 : Int32) (a3 : Int32) (σ : gS) : Option (Int32 × gS) := bn1 (pX11_isBook a1 σ) (fun v1 => if v1 = 0 then some ((-1 : Int32), σ) else bn1 (pX11_isPerson a2 σ) (fun v3 => if v3 = 0 then some ((-1 : Int32), σ) else bn1 (pX11_in a3 (0 : Int32) (20 : Int32)) (fun v5 => if v5 = 0 then some ((-1 : Int32), σ) else bn2 (pX11_paperOf a1 a2 σ) (fun v7 s8 => bn1 (lpP (fun (z10 : (Int32 × Int32 × gS)) => gx (z10.2.2.1 0 18) 2 (if (z10.2.2.1 12 (z10.2.2.1 0 18).toNatClampNeg) ≤ z10.1 then some (.inr (z10.2.1, z10.2.2)) else if ((v7 >>> (z10.1 &&& (31 : Int32))) &&& (1 : Int32)) = (1 : Int32) then bn2 (pX11_isTrueOf z10.1 a2 z10.2.2) (fun v11 s12 => if v11 = 0 then lt' (z10.1 + (1 : Int32)) (fun x13 => some (.inl (x13, z10.2.1, s12))) else bn2 (pX11_trueOf z10.1 s12) (fun v14 s15 => if a3 < v14 then lt' (z10.1 + (1 : Int32)) (fun x16 => some (.inl (x16, z10.2.1, s15))) else lt' (z10.2.1 + (1 : Int32)) (fun x17 => lt' (z10.1 + (1 : Int32)) (fun x18 => some (.inl (x18, x17, s15)))))) else lt' (z10.1 + (1 : Int32)) (fun x19 => some (.inl (x19, z10.2.1, z10.2.2))))) ((0 : Int32), (0 : Int32), s8)) (fun (z9 : (Int32 × gS)) => some (z9.1, z9.2))))))
set_option maxRecDepth 100000 in
theorem cn_X11_left {G : gG} {b : Nat} {a1 : Int32} {a2 : Int32} {a3 : Int32} {σ : gS} : CN vR G b 7 yX11_left cX11_left 7 (some .int) kI [.ref (b + 0), .int a1, .int a2, .int a3] σ (pX11_left a1 a2 a3 σ) := by
  refine cn_of (own := RX11) rfl rfl (Nat.le_of_ble_eq_true rfl) ?_
  show GF vR G b (7, 0, 0) RX11 cX11_left 7 (some .int) kI 0 [(0, .ref (b + 0)), (1, .int a1), (2, .int a2), (3, .int a3)] [] σ (pX11_left a1 a2 a3 σ)
  unfold pX11_left
  refine g_aload_n (q := 1) 0 dX11_left_0 rfl rfl rfl ?_
  refine g_iload_n (q := 2) 1 dX11_left_1 rfl rfl rfl ?_
  refine g_callO (As := [.int a1]) (st := []) (cn_X11_isBook) shX11 rfl cwX11_353 rfl dX11_left_2 rfl (Nat.le_of_ble_eq_true rfl) (by decide) (kk_PI (fun v1 => ?_))
  refine g_if_eq (t := 26) (q := 8) dX11_left_5 (by decide) rfl ?_ ?_
  · refine g_iconst (q := 27) dX11_left_26 kI_m1 rfl ?_
    exact (g_iret dX11_left_27)
  · refine g_aload_n (q := 9) 0 dX11_left_8 rfl rfl rfl ?_
    refine g_iload_n (q := 10) 2 dX11_left_9 rfl rfl rfl ?_
    refine g_callO (As := [.int a2]) (st := []) (cn_X11_isPerson) shX11 rfl cwX11_328 rfl dX11_left_10 rfl (Nat.le_of_ble_eq_true rfl) (by decide) (kk_PI (fun v3 => ?_))
    refine g_if_eq (t := 26) (q := 16) dX11_left_13 (by decide) rfl ?_ ?_
    · refine g_iconst (q := 27) dX11_left_26 kI_m1 rfl ?_
      exact (g_iret dX11_left_27)
    · refine g_iload_n (q := 17) 3 dX11_left_16 rfl rfl rfl ?_
      refine g_iconst (q := 18) dX11_left_17 kI_0 rfl ?_
      refine g_bipush (q := 20) dX11_left_18 kB_20 rfl ?_
      refine g_callT (As := [.int a3, .int (0 : Int32), .int (20 : Int32)]) (st := []) (cn_X11_in) cwX11_313 rfl dX11_left_20 rfl (Nat.le_of_ble_eq_true rfl) (by decide) (kk_PI (fun v5 => ?_))
      refine g_if_ne (t := 28) (q := 26) dX11_left_23 (by decide) rfl ?_ ?_
      · refine g_iconst (q := 27) dX11_left_26 kI_m1 rfl ?_
        exact (g_iret dX11_left_27)
      · refine g_aload_n (q := 29) 0 dX11_left_28 rfl rfl rfl ?_
        refine g_iload_n (q := 30) 1 dX11_left_29 rfl rfl rfl ?_
        refine g_iload_n (q := 31) 2 dX11_left_30 rfl rfl rfl ?_
        refine g_callO (As := [.int a1, .int a2]) (st := []) (cn_X11_paperOf) shX11 rfl cwX11_356 rfl dX11_left_31 rfl (Nat.le_of_ble_eq_true rfl) (by decide) (kk_I (fun v7 s8 => ?_))
        refine g_istore (lr := [(0, .ref (b + 0)), (1, .int a1), (2, .int a2), (3, .int a3)]) (q := 36) dX11_left_34 (by decide) rfl rfl ?_
        refine g_iconst (q := 37) dX11_left_36 kI_0 rfl ?_
        refine g_istore (lr := [(4, .int v7), (0, .ref (b + 0)), (1, .int a1), (2, .int a2), (3, .int a3)]) (q := 39) dX11_left_37 (by decide) rfl rfl ?_
        refine g_iconst (q := 40) dX11_left_39 kI_0 rfl ?_
        refine g_istore (lr := [(5, .int (0 : Int32)), (4, .int v7), (0, .ref (b + 0)), (1, .int a1), (2, .int a2), (3, .int a3)]) (q := 42) dX11_left_40 (by decide) rfl rfl ?_
        refine g_bind (S := (Int32 × gS)) (hd := 96) (lvf := fun z9 => [(5, .int z9.1)]) (stf := fun z9 => []) (σf := fun z9 => z9.2) ?_ (fun z9 => ?_)
        · refine g_sub (lr := [(6, .int (0 : Int32)), (5, .int (0 : Int32)), (4, .int v7), (0, .ref (b + 0)), (2, .int a2), (3, .int a3)]) [0, 1, 2, 3, 5, 6] rfl ?_
          refine g_loop (S := (Int32 × Int32 × gS)) (lvf := fun z10 => [(6, .int z10.1), (5, .int z10.2.1), (4, .int v7), (0, .ref (b + 0)), (2, .int a2), (3, .int a3)]) (σf := fun z10 => z10.2.2) (fun z10 => ?_) ((0 : Int32), (0 : Int32), s8)
          refine g_iload (q := 44) 0 dX11_left_42 rfl rfl ?_
          refine g_aload_n (q := 45) 3 dX11_left_44 rfl rfl rfl ?_
          refine g_getA (q := 48) fX11_says dX11_left_45 ww1067 rfl ?_
          refine g_aload_n (q := 49) 3 dX11_left_48 rfl rfl rfl ?_
          refine g_getI (q := 52) fX11_live dX11_left_49 ww1060 rfl ?_
          refine g_iald (q := 53) (aX11_says) dX11_left_52 rfl ?_
          refine g_icmp_ge (t := 96) (q := 56) dX11_left_53 (by decide) rfl ?_ ?_
          · refine g_sub (lr := [(5, .int z10.2.1)]) [1] rfl ?_
            exact (g_leave (g_there ((z10.2.1, z10.2.2) : (Int32 × gS))))
          · refine g_iload (q := 58) 2 dX11_left_56 rfl rfl ?_
            refine g_iload (q := 60) 0 dX11_left_58 rfl rfl ?_
            refine g_ishr (q := 61) dX11_left_60 rfl ?_
            refine g_iconst (q := 62) dX11_left_61 kI_1 rfl ?_
            refine g_iand (q := 63) dX11_left_62 rfl ?_
            refine g_iconst (q := 64) dX11_left_63 kI_1 rfl ?_
            refine g_icmp_ne (t := 90) (q := 67) dX11_left_64 (by decide) rfl ?_ ?_
            · refine g_aload_n (q := 68) 3 dX11_left_67 rfl rfl rfl ?_
              refine g_iload (q := 70) 0 dX11_left_68 rfl rfl ?_
              refine g_iload_n (q := 71) 4 dX11_left_70 rfl rfl rfl ?_
              refine g_callO (As := [.int z10.1, .int a2]) (st := []) (cn_X11_isTrueOf) shX11 rfl cwX11_346 rfl dX11_left_71 rfl (Nat.le_of_ble_eq_true rfl) (by decide) (kk_I (fun v11 s12 => ?_))
              refine g_if_eq (t := 90) (q := 77) dX11_left_74 (by decide) rfl ?_ ?_
              · refine g_iinc (lr := [(5, .int z10.2.1), (4, .int v7), (0, .ref (b + 0)), (2, .int a2), (3, .int a3)]) (q := 93) 0 dX11_left_90 rfl kI_1 (by decide) rfl rfl (fun x13 => ?_)
                refine g_goto (t := 42) dX11_left_93 (by decide) ?_
                exact (g_again ((x13, z10.2.1, s12) : (Int32 × Int32 × gS)))
              · refine g_aload_n (q := 78) 3 dX11_left_77 rfl rfl rfl ?_
                refine g_iload (q := 80) 0 dX11_left_78 rfl rfl ?_
                refine g_callO (As := [.int z10.1]) (st := []) (cn_X11_trueOf) shX11 rfl cwX11_359 rfl dX11_left_80 rfl (Nat.le_of_ble_eq_true rfl) (by decide) (kk_I (fun v14 s15 => ?_))
                refine g_iload_n (q := 84) 5 dX11_left_83 rfl rfl rfl ?_
                refine g_icmp_gt (t := 90) (q := 87) dX11_left_84 (by decide) rfl ?_ ?_
                · refine g_iinc (lr := [(5, .int z10.2.1), (4, .int v7), (0, .ref (b + 0)), (2, .int a2), (3, .int a3)]) (q := 93) 0 dX11_left_90 rfl kI_1 (by decide) rfl rfl (fun x16 => ?_)
                  refine g_goto (t := 42) dX11_left_93 (by decide) ?_
                  exact (g_again ((x16, z10.2.1, s15) : (Int32 × Int32 × gS)))
                · refine g_iinc (lr := [(6, .int z10.1), (4, .int v7), (0, .ref (b + 0)), (2, .int a2), (3, .int a3)]) (q := 90) 1 dX11_left_87 rfl kI_1 (by decide) rfl rfl (fun x17 => ?_)
                  refine g_iinc (lr := [(5, .int x17), (4, .int v7), (0, .ref (b + 0)), (2, .int a2), (3, .int a3)]) (q := 93) 1 dX11_left_90 rfl kI_1 (by decide) rfl rfl (fun x18 => ?_)
                  refine g_goto (t := 42) dX11_left_93 (by decide) ?_
                  exact (g_again ((x18, x17, s15) : (Int32 × Int32 × gS)))
            · refine g_iinc (lr := [(5, .int z10.2.1), (4, .int v7), (0, .ref (b + 0)), (2, .int a2), (3, .int a3)]) (q := 93) 0 dX11_left_90 rfl kI_1 (by decide) rfl rfl (fun x19 => ?_)
              refine g_goto (t := 42) dX11_left_93 (by decide) ?_
              exact (g_again ((x19, z10.2.1, z10.2.2) : (Int32 × Int32 × gS)))
        · refine g_iload (q := 98) 0 dX11_left_96 rfl rfl ?_
          exact (g_iret dX11_left_98)
noncomputable def pX11_fitOf (a1 : Int32) (a2 : Int32) (a3 : Int32) (a4 : Int32) (σ : gS) : Option (Int32 × gS) := bn1 (lpP (fun (z2 : (Int32 × gS)) => gx (z2.2.1 0 18) 2 (if (z2.2.1 12 (z2.2.1 0 18).toNatClampNeg) ≤ z2.1 then some (.inr z2.2) else if ((a3 >>> (z2.1 &&& (31 : Int32))) &&& (1 : Int32)) = (1 : Int32) then bn2 (pX11_isTrueOf z2.1 a2 z2.2) (fun v3 s4 => if v3 = 0 then gx z2.1 16 (lt' (wI s4 40 z2.1.toNatClampNeg ((0 : Int32) &&& 1)) (fun s5 => lt' (z2.1 + (1 : Int32)) (fun x6 => some (.inl (x6, s5))))) else gx z2.1 16 (lt' (wI s4 40 z2.1.toNatClampNeg ((1 : Int32) &&& 1)) (fun s7 => lt' (z2.1 + (1 : Int32)) (fun x8 => some (.inl (x8, s7)))))) else gx z2.1 16 (lt' (wI z2.2 40 z2.1.toNatClampNeg ((0 : Int32) &&& 1)) (fun s9 => lt' (z2.1 + (1 : Int32)) (fun x10 => some (.inl (x10, s9))))))) ((0 : Int32), σ)) (fun (z1 : gS) => gx a2 20 (bn1 (pX11_looksAt a2 (z1.1 35 a2.toNatClampNeg) z1) (fun s12 => bn1 (lpP (fun (z14 : (Int32 × gS)) => gx (z14.2.1 0 18) 2 (if (z14.2.1 12 (z14.2.1 0 18).toNatClampNeg) ≤ z14.1 then some (.inr z14.2) else gx (((16 : Int32) * (z14.2.1 0 18)) + z14.1) 32 (lt' (z14.2.1 15 (((16 : Int32) * (z14.2.1 0 18)) + z14.1).toNatClampNeg) (fun x15 => if ((a3 >>> (z14.1 &&& (31 : Int32))) &&& (1 : Int32)) = 0 then lt' (z14.1 + (1 : Int32)) (fun x16 => some (.inl (x16, z14.2))) else if ((a4 >>> (x15 &&& (31 : Int32))) &&& (1 : Int32)) = (1 : Int32) then lt' (z14.1 + (1 : Int32)) (fun x17 => some (.inl (x17, z14.2))) else gx z14.1 16 (if (z14.2.1 40 z14.1.toNatClampNeg) = 0 then gx (13 : Int32) 21 (gx (13 : Int32) 21 (lt' (wI z14.2 33 (13 : Int32).toNatClampNeg ((z14.2.1 33 (13 : Int32).toNatClampNeg) + (1 : Int32))) (fun s18 => lt' (z14.1 + (1 : Int32)) (fun x19 => some (.inl (x19, s18)))))) else gx (12 : Int32) 21 (gx (12 : Int32) 21 (lt' (wI z14.2 33 (12 : Int32).toNatClampNeg ((z14.2.1 33 (12 : Int32).toNatClampNeg) + (1 : Int32))) (fun s20 => gx ((14 : Int32) + x15) 21 (gx ((14 : Int32) + x15) 21 (lt' (wI s20 33 ((14 : Int32) + x15).toNatClampNeg ((s20.1 33 ((14 : Int32) + x15).toNatClampNeg) + (1 : Int32))) (fun s21 => lt' (z14.1 + (1 : Int32)) (fun x22 => some (.inl (x22, s21)))))))))))))) ((0 : Int32), s12)) (fun (z13 : gS) => lt' ((((26 : Int32) * (z13.1 0 18)) + (22 : Int32)) + a1) (fun x23 => gx x23 52 (gx x23 52 (bn2 (pX11_termOf (z13.1 22 x23.toNatClampNeg) (z13.1 23 x23.toNatClampNeg) z13) (fun v24 s25 => some (v24, s25)))))))))
set_option maxRecDepth 100000 in
theorem cn_X11_fitOf {G : gG} {b : Nat} {a1 : Int32} {a2 : Int32} {a3 : Int32} {a4 : Int32} {σ : gS} : CN vR G b 5 yX11_fitOf cX11_fitOf 7 (some .int) kI [.ref (b + 0), .int a1, .int a2, .int a3, .int a4] σ (pX11_fitOf a1 a2 a3 a4 σ) := by
  refine cn_of (own := RX11) rfl rfl (Nat.le_of_ble_eq_true rfl) ?_
  show GF vR G b (5, 0, 0) RX11 cX11_fitOf 7 (some .int) kI 0 [(0, .ref (b + 0)), (1, .int a1), (2, .int a2), (3, .int a3), (4, .int a4)] [] σ (pX11_fitOf a1 a2 a3 a4 σ)
  unfold pX11_fitOf
  refine g_iconst (q := 1) dX11_fitOf_0 kI_0 rfl ?_
  refine g_istore (lr := [(0, .ref (b + 0)), (1, .int a1), (2, .int a2), (3, .int a3), (4, .int a4)]) (q := 3) dX11_fitOf_1 (by decide) rfl rfl ?_
  refine g_bind (S := gS) (hd := 55) (lvf := fun z1 => [(0, .ref (b + 0)), (1, .int a1), (2, .int a2), (3, .int a3), (4, .int a4)]) (stf := fun z1 => []) (σf := fun z1 => z1) ?_ (fun z1 => ?_)
  · refine g_loop (S := (Int32 × gS)) (lvf := fun z2 => [(5, .int z2.1), (0, .ref (b + 0)), (1, .int a1), (2, .int a2), (3, .int a3), (4, .int a4)]) (σf := fun z2 => z2.2) (fun z2 => ?_) ((0 : Int32), σ)
    refine g_iload (q := 5) 0 dX11_fitOf_3 rfl rfl ?_
    refine g_aload_n (q := 6) 1 dX11_fitOf_5 rfl rfl rfl ?_
    refine g_getA (q := 9) fX11_says dX11_fitOf_6 ww1067 rfl ?_
    refine g_aload_n (q := 10) 1 dX11_fitOf_9 rfl rfl rfl ?_
    refine g_getI (q := 13) fX11_live dX11_fitOf_10 ww1060 rfl ?_
    refine g_iald (q := 14) (aX11_says) dX11_fitOf_13 rfl ?_
    refine g_icmp_ge (t := 55) (q := 17) dX11_fitOf_14 (by decide) rfl ?_ ?_
    · refine g_sub (lr := [(0, .ref (b + 0)), (1, .int a1), (2, .int a2), (3, .int a3), (4, .int a4)]) [1, 2, 3, 4, 5] rfl ?_
      exact (g_leave (g_there (z2.2 : gS)))
    · refine g_aload_n (q := 18) 1 dX11_fitOf_17 rfl rfl rfl ?_
      refine g_getA (q := 21) fX11_isTrueNow dX11_fitOf_18 ww1099 rfl ?_
      refine g_iload (q := 23) 0 dX11_fitOf_21 rfl rfl ?_
      refine g_iload_n (q := 24) 4 dX11_fitOf_23 rfl rfl rfl ?_
      refine g_iload (q := 26) 0 dX11_fitOf_24 rfl rfl ?_
      refine g_ishr (q := 27) dX11_fitOf_26 rfl ?_
      refine g_iconst (q := 28) dX11_fitOf_27 kI_1 rfl ?_
      refine g_iand (q := 29) dX11_fitOf_28 rfl ?_
      refine g_iconst (q := 30) dX11_fitOf_29 kI_1 rfl ?_
      refine g_icmp_ne (t := 47) (q := 33) dX11_fitOf_30 (by decide) rfl ?_ ?_
      · refine g_aload_n (q := 34) 1 dX11_fitOf_33 rfl rfl rfl ?_
        refine g_iload (q := 36) 0 dX11_fitOf_34 rfl rfl ?_
        refine g_iload_n (q := 37) 3 dX11_fitOf_36 rfl rfl rfl ?_
        refine g_callO (As := [.int z2.1, .int a2]) (st := [.int z2.1, .ref (b + 40)]) (cn_X11_isTrueOf) shX11 rfl cwX11_346 rfl dX11_fitOf_37 rfl (Nat.le_of_ble_eq_true rfl) (by decide) (kk_I (fun v3 s4 => ?_))
        refine g_if_eq (t := 47) (q := 43) dX11_fitOf_40 (by decide) rfl ?_ ?_
        · refine g_iconst (q := 48) dX11_fitOf_47 kI_0 rfl ?_
          refine g_zast (q := 49) (aX11_isTrueNow) dX11_fitOf_48 rfl (fun s5 => ?_)
          refine g_iinc (lr := [(0, .ref (b + 0)), (1, .int a1), (2, .int a2), (3, .int a3), (4, .int a4)]) (q := 52) 0 dX11_fitOf_49 rfl kI_1 (by decide) rfl rfl (fun x6 => ?_)
          refine g_goto (t := 3) dX11_fitOf_52 (by decide) ?_
          exact (g_again ((x6, s5) : (Int32 × gS)))
        · refine g_iconst (q := 44) dX11_fitOf_43 kI_1 rfl ?_
          refine g_goto (t := 48) dX11_fitOf_44 (by decide) ?_
          refine g_zast (q := 49) (aX11_isTrueNow) dX11_fitOf_48 rfl (fun s7 => ?_)
          refine g_iinc (lr := [(0, .ref (b + 0)), (1, .int a1), (2, .int a2), (3, .int a3), (4, .int a4)]) (q := 52) 0 dX11_fitOf_49 rfl kI_1 (by decide) rfl rfl (fun x8 => ?_)
          refine g_goto (t := 3) dX11_fitOf_52 (by decide) ?_
          exact (g_again ((x8, s7) : (Int32 × gS)))
      · refine g_iconst (q := 48) dX11_fitOf_47 kI_0 rfl ?_
        refine g_zast (q := 49) (aX11_isTrueNow) dX11_fitOf_48 rfl (fun s9 => ?_)
        refine g_iinc (lr := [(0, .ref (b + 0)), (1, .int a1), (2, .int a2), (3, .int a3), (4, .int a4)]) (q := 52) 0 dX11_fitOf_49 rfl kI_1 (by decide) rfl rfl (fun x10 => ?_)
        refine g_goto (t := 3) dX11_fitOf_52 (by decide) ?_
        exact (g_again ((x10, s9) : (Int32 × gS)))
  · refine g_aload_n (q := 56) 0 dX11_fitOf_55 rfl rfl rfl ?_
    refine g_iload_n (q := 57) 2 dX11_fitOf_56 rfl rfl rfl ?_
    refine g_aload_n (q := 58) 0 dX11_fitOf_57 rfl rfl rfl ?_
    refine g_getA (q := 61) fX11_minutes dX11_fitOf_58 ww1094 rfl ?_
    refine g_iload_n (q := 62) 2 dX11_fitOf_61 rfl rfl rfl ?_
    refine g_iald (q := 63) (aX11_minutes) dX11_fitOf_62 rfl ?_
    refine g_callO (As := [.int a2, .int (z1.1 35 a2.toNatClampNeg)]) (st := []) (cn_X11_looksAt) shX11 rfl cwX11_331 rfl dX11_fitOf_63 rfl (Nat.le_of_ble_eq_true rfl) (by decide) (kk_V (fun s12 => ?_))
    refine g_iconst (q := 67) dX11_fitOf_66 kI_0 rfl ?_
    refine g_istore (lr := [(0, .ref (b + 0)), (1, .int a1), (2, .int a2), (3, .int a3), (4, .int a4)]) (q := 69) dX11_fitOf_67 (by decide) rfl rfl ?_
    refine g_bind (S := gS) (hd := 178) (lvf := fun z13 => [(0, .ref (b + 0)), (1, .int a1)]) (stf := fun z13 => []) (σf := fun z13 => z13) ?_ (fun z13 => ?_)
    · refine g_sub (lr := [(5, .int (0 : Int32)), (0, .ref (b + 0)), (1, .int a1), (3, .int a3), (4, .int a4)]) [0, 1, 2, 4, 5] rfl ?_
      refine g_loop (S := (Int32 × gS)) (lvf := fun z14 => [(5, .int z14.1), (0, .ref (b + 0)), (1, .int a1), (3, .int a3), (4, .int a4)]) (σf := fun z14 => z14.2) (fun z14 => ?_) ((0 : Int32), s12)
      refine g_iload (q := 71) 0 dX11_fitOf_69 rfl rfl ?_
      refine g_aload_n (q := 72) 1 dX11_fitOf_71 rfl rfl rfl ?_
      refine g_getA (q := 75) fX11_says dX11_fitOf_72 ww1067 rfl ?_
      refine g_aload_n (q := 76) 1 dX11_fitOf_75 rfl rfl rfl ?_
      refine g_getI (q := 79) fX11_live dX11_fitOf_76 ww1060 rfl ?_
      refine g_iald (q := 80) (aX11_says) dX11_fitOf_79 rfl ?_
      refine g_icmp_ge (t := 178) (q := 83) dX11_fitOf_80 (by decide) rfl ?_ ?_
      · refine g_sub (lr := [(0, .ref (b + 0)), (1, .int a1)]) [1, 2] rfl ?_
        exact (g_leave (g_there (z14.2 : gS)))
      · refine g_aload_n (q := 84) 1 dX11_fitOf_83 rfl rfl rfl ?_
        refine g_getA (q := 87) fX11_sortOf dX11_fitOf_84 ww1070 rfl ?_
        refine g_bipush (q := 89) dX11_fitOf_87 kB_16 rfl ?_
        refine g_aload_n (q := 90) 1 dX11_fitOf_89 rfl rfl rfl ?_
        refine g_getI (q := 93) fX11_live dX11_fitOf_90 ww1060 rfl ?_
        refine g_imul (q := 94) dX11_fitOf_93 rfl ?_
        refine g_iload (q := 96) 0 dX11_fitOf_94 rfl rfl ?_
        refine g_iadd (q := 97) dX11_fitOf_96 rfl ?_
        refine g_iald (q := 98) (aX11_sortOf) dX11_fitOf_97 rfl ?_
        refine g_leti (fun x15 => ?_)
        refine g_istore (lr := [(5, .int z14.1), (0, .ref (b + 0)), (1, .int a1), (3, .int a3), (4, .int a4)]) (q := 100) dX11_fitOf_98 (by decide) rfl rfl ?_
        refine g_iload_n (q := 101) 4 dX11_fitOf_100 rfl rfl rfl ?_
        refine g_iload (q := 103) 1 dX11_fitOf_101 rfl rfl ?_
        refine g_ishr (q := 104) dX11_fitOf_103 rfl ?_
        refine g_iconst (q := 105) dX11_fitOf_104 kI_1 rfl ?_
        refine g_iand (q := 106) dX11_fitOf_105 rfl ?_
        refine g_if_eq (t := 172) (q := 109) dX11_fitOf_106 (by decide) rfl ?_ ?_
        · refine g_iinc (lr := [(6, .int x15), (0, .ref (b + 0)), (1, .int a1), (3, .int a3), (4, .int a4)]) (q := 175) 1 dX11_fitOf_172 rfl kI_1 (by decide) rfl rfl (fun x16 => ?_)
          refine g_goto (t := 69) dX11_fitOf_175 (by decide) ?_
          refine g_sub (lr := [(5, .int x16), (0, .ref (b + 0)), (1, .int a1), (3, .int a3), (4, .int a4)]) [0, 2, 3, 4, 5] rfl ?_
          exact (g_again ((x16, z14.2) : (Int32 × gS)))
        · refine g_iload (q := 111) 5 dX11_fitOf_109 rfl rfl ?_
          refine g_iload (q := 113) 0 dX11_fitOf_111 rfl rfl ?_
          refine g_ishr (q := 114) dX11_fitOf_113 rfl ?_
          refine g_iconst (q := 115) dX11_fitOf_114 kI_1 rfl ?_
          refine g_iand (q := 116) dX11_fitOf_115 rfl ?_
          refine g_iconst (q := 117) dX11_fitOf_116 kI_1 rfl ?_
          refine g_icmp_ne (t := 123) (q := 120) dX11_fitOf_117 (by decide) rfl ?_ ?_
          · refine g_goto (t := 172) dX11_fitOf_120 (by decide) ?_
            refine g_iinc (lr := [(6, .int x15), (0, .ref (b + 0)), (1, .int a1), (3, .int a3), (4, .int a4)]) (q := 175) 1 dX11_fitOf_172 rfl kI_1 (by decide) rfl rfl (fun x17 => ?_)
            refine g_goto (t := 69) dX11_fitOf_175 (by decide) ?_
            refine g_sub (lr := [(5, .int x17), (0, .ref (b + 0)), (1, .int a1), (3, .int a3), (4, .int a4)]) [0, 2, 3, 4, 5] rfl ?_
            exact (g_again ((x17, z14.2) : (Int32 × gS)))
          · refine g_aload_n (q := 124) 2 dX11_fitOf_123 rfl rfl rfl ?_
            refine g_getA (q := 127) fX11_isTrueNow dX11_fitOf_124 ww1099 rfl ?_
            refine g_iload (q := 129) 1 dX11_fitOf_127 rfl rfl ?_
            refine g_zald (q := 130) (aX11_isTrueNow) dX11_fitOf_129 rfl ?_
            refine g_if_eq (t := 161) (q := 133) dX11_fitOf_130 (by decide) rfl ?_ ?_
            · refine g_aload_n (q := 162) 2 dX11_fitOf_161 rfl rfl rfl ?_
              refine g_getA (q := 165) fX11_variables dX11_fitOf_162 ww1091 rfl ?_
              refine g_bipush (q := 167) dX11_fitOf_165 kB_13 rfl ?_
              refine g_dup2 (q := 168) dX11_fitOf_167 rfl rfl rfl ?_
              refine g_iald (q := 169) (aX11_variables) dX11_fitOf_168 rfl ?_
              refine g_iconst (q := 170) dX11_fitOf_169 kI_1 rfl ?_
              refine g_iadd (q := 171) dX11_fitOf_170 rfl ?_
              refine g_iast (q := 172) (aX11_variables) dX11_fitOf_171 rfl (fun s18 => ?_)
              refine g_iinc (lr := [(6, .int x15), (0, .ref (b + 0)), (1, .int a1), (3, .int a3), (4, .int a4)]) (q := 175) 1 dX11_fitOf_172 rfl kI_1 (by decide) rfl rfl (fun x19 => ?_)
              refine g_goto (t := 69) dX11_fitOf_175 (by decide) ?_
              refine g_sub (lr := [(5, .int x19), (0, .ref (b + 0)), (1, .int a1), (3, .int a3), (4, .int a4)]) [0, 2, 3, 4, 5] rfl ?_
              exact (g_again ((x19, s18) : (Int32 × gS)))
            · refine g_aload_n (q := 134) 2 dX11_fitOf_133 rfl rfl rfl ?_
              refine g_getA (q := 137) fX11_variables dX11_fitOf_134 ww1091 rfl ?_
              refine g_bipush (q := 139) dX11_fitOf_137 kB_12 rfl ?_
              refine g_dup2 (q := 140) dX11_fitOf_139 rfl rfl rfl ?_
              refine g_iald (q := 141) (aX11_variables) dX11_fitOf_140 rfl ?_
              refine g_iconst (q := 142) dX11_fitOf_141 kI_1 rfl ?_
              refine g_iadd (q := 143) dX11_fitOf_142 rfl ?_
              refine g_iast (q := 144) (aX11_variables) dX11_fitOf_143 rfl (fun s20 => ?_)
              refine g_aload_n (q := 145) 2 dX11_fitOf_144 rfl rfl rfl ?_
              refine g_getA (q := 148) fX11_variables dX11_fitOf_145 ww1091 rfl ?_
              refine g_bipush (q := 150) dX11_fitOf_148 kB_14 rfl ?_
              refine g_iload (q := 152) 0 dX11_fitOf_150 rfl rfl ?_
              refine g_iadd (q := 153) dX11_fitOf_152 rfl ?_
              refine g_dup2 (q := 154) dX11_fitOf_153 rfl rfl rfl ?_
              refine g_iald (q := 155) (aX11_variables) dX11_fitOf_154 rfl ?_
              refine g_iconst (q := 156) dX11_fitOf_155 kI_1 rfl ?_
              refine g_iadd (q := 157) dX11_fitOf_156 rfl ?_
              refine g_iast (q := 158) (aX11_variables) dX11_fitOf_157 rfl (fun s21 => ?_)
              refine g_goto (t := 172) dX11_fitOf_158 (by decide) ?_
              refine g_iinc (lr := [(6, .int x15), (0, .ref (b + 0)), (1, .int a1), (3, .int a3), (4, .int a4)]) (q := 175) 1 dX11_fitOf_172 rfl kI_1 (by decide) rfl rfl (fun x22 => ?_)
              refine g_goto (t := 69) dX11_fitOf_175 (by decide) ?_
              refine g_sub (lr := [(5, .int x22), (0, .ref (b + 0)), (1, .int a1), (3, .int a3), (4, .int a4)]) [0, 2, 3, 4, 5] rfl ?_
              exact (g_again ((x22, s21) : (Int32 × gS)))
    · refine g_bipush (q := 180) dX11_fitOf_178 kB_26 rfl ?_
      refine g_aload_n (q := 181) 0 dX11_fitOf_180 rfl rfl rfl ?_
      refine g_getI (q := 184) fX11_live dX11_fitOf_181 ww1060 rfl ?_
      refine g_imul (q := 185) dX11_fitOf_184 rfl ?_
      refine g_bipush (q := 187) dX11_fitOf_185 kB_22 rfl ?_
      refine g_iadd (q := 188) dX11_fitOf_187 rfl ?_
      refine g_iload_n (q := 189) 1 dX11_fitOf_188 rfl rfl rfl ?_
      refine g_iadd (q := 190) dX11_fitOf_189 rfl ?_
      refine g_leti (fun x23 => ?_)
      refine g_istore (lr := [(0, .ref (b + 0)), (1, .int a1)]) (q := 192) dX11_fitOf_190 (by decide) rfl rfl ?_
      refine g_aload_n (q := 193) 1 dX11_fitOf_192 rfl rfl rfl ?_
      refine g_aload_n (q := 194) 1 dX11_fitOf_193 rfl rfl rfl ?_
      refine g_getA (q := 197) fX11_lawFrom dX11_fitOf_194 ww1077 rfl ?_
      refine g_iload (q := 199) 0 dX11_fitOf_197 rfl rfl ?_
      refine g_iald (q := 200) (aX11_lawFrom) dX11_fitOf_199 rfl ?_
      refine g_aload_n (q := 201) 1 dX11_fitOf_200 rfl rfl rfl ?_
      refine g_getA (q := 204) fX11_lawTo dX11_fitOf_201 ww1078 rfl ?_
      refine g_iload (q := 206) 0 dX11_fitOf_204 rfl rfl ?_
      refine g_iald (q := 207) (aX11_lawTo) dX11_fitOf_206 rfl ?_
      refine g_callO (As := [.int (z13.1 22 x23.toNatClampNeg), .int (z13.1 23 x23.toNatClampNeg)]) (st := []) (cn_X11_termOf) shX11 rfl cwX11_303 rfl dX11_fitOf_207 rfl (Nat.le_of_ble_eq_true rfl) (by decide) (kk_I (fun v24 s25 => ?_))
      exact (g_iret dX11_fitOf_210)
noncomputable def pX11_fit (a1 : Int32) (a2 : Int32) (a3 : Int32) (a4 : Int32) (a5 : Int32) (σ : gS) : Option (Int32 × gS) := bn1 (pX11_isLaw a1 σ) (fun v1 => if v1 = 0 then some ((-2147483648 : Int32), σ) else bn1 (pX11_isBook a2 σ) (fun v3 => if v3 = 0 then some ((-2147483648 : Int32), σ) else bn1 (pX11_isPerson a3 σ) (fun v5 => if v5 = 0 then some ((-2147483648 : Int32), σ) else bn1 (pX11_isPerson a4 σ) (fun v7 => if v7 = 0 then some ((-2147483648 : Int32), σ) else bn1 (pX11_in a5 (0 : Int32) (127 : Int32)) (fun v9 => if v9 = 0 then some ((-2147483648 : Int32), σ) else bn2 (pX11_paperOf a2 a4 σ) (fun v11 s12 => bn2 (pX11_fitOf a1 a3 v11 a5 s12) (fun v13 s14 => some (v13, s14))))))))
set_option maxRecDepth 100000 in
theorem cn_X11_fit {G : gG} {b : Nat} {a1 : Int32} {a2 : Int32} {a3 : Int32} {a4 : Int32} {a5 : Int32} {σ : gS} : CN vR G b 7 yX11_fit cX11_fit 6 (some .int) kI [.ref (b + 0), .int a1, .int a2, .int a3, .int a4, .int a5] σ (pX11_fit a1 a2 a3 a4 a5 σ) := by
  refine cn_of (own := RX11) rfl rfl (Nat.le_of_ble_eq_true rfl) ?_
  show GF vR G b (7, 0, 0) RX11 cX11_fit 6 (some .int) kI 0 [(0, .ref (b + 0)), (1, .int a1), (2, .int a2), (3, .int a3), (4, .int a4), (5, .int a5)] [] σ (pX11_fit a1 a2 a3 a4 a5 σ)
  unfold pX11_fit
  refine g_aload_n (q := 1) 0 dX11_fit_0 rfl rfl rfl ?_
  refine g_iload_n (q := 2) 1 dX11_fit_1 rfl rfl rfl ?_
  refine g_callO (As := [.int a1]) (st := []) (cn_X11_isLaw) shX11 rfl cwX11_362 rfl dX11_fit_2 rfl (Nat.le_of_ble_eq_true rfl) (by decide) (kk_PI (fun v1 => ?_))
  refine g_if_eq (t := 44) (q := 8) dX11_fit_5 (by decide) rfl ?_ ?_
  · refine g_ldcw (q := 47) dX11_fit_44 ww1482 rfl ?_
    exact (g_iret dX11_fit_47)
  · refine g_aload_n (q := 9) 0 dX11_fit_8 rfl rfl rfl ?_
    refine g_iload_n (q := 10) 2 dX11_fit_9 rfl rfl rfl ?_
    refine g_callO (As := [.int a2]) (st := []) (cn_X11_isBook) shX11 rfl cwX11_353 rfl dX11_fit_10 rfl (Nat.le_of_ble_eq_true rfl) (by decide) (kk_PI (fun v3 => ?_))
    refine g_if_eq (t := 44) (q := 16) dX11_fit_13 (by decide) rfl ?_ ?_
    · refine g_ldcw (q := 47) dX11_fit_44 ww1482 rfl ?_
      exact (g_iret dX11_fit_47)
    · refine g_aload_n (q := 17) 0 dX11_fit_16 rfl rfl rfl ?_
      refine g_iload_n (q := 18) 3 dX11_fit_17 rfl rfl rfl ?_
      refine g_callO (As := [.int a3]) (st := []) (cn_X11_isPerson) shX11 rfl cwX11_328 rfl dX11_fit_18 rfl (Nat.le_of_ble_eq_true rfl) (by decide) (kk_PI (fun v5 => ?_))
      refine g_if_eq (t := 44) (q := 24) dX11_fit_21 (by decide) rfl ?_ ?_
      · refine g_ldcw (q := 47) dX11_fit_44 ww1482 rfl ?_
        exact (g_iret dX11_fit_47)
      · refine g_aload_n (q := 25) 0 dX11_fit_24 rfl rfl rfl ?_
        refine g_iload (q := 27) 4 dX11_fit_25 rfl rfl ?_
        refine g_callO (As := [.int a4]) (st := []) (cn_X11_isPerson) shX11 rfl cwX11_328 rfl dX11_fit_27 rfl (Nat.le_of_ble_eq_true rfl) (by decide) (kk_PI (fun v7 => ?_))
        refine g_if_eq (t := 44) (q := 33) dX11_fit_30 (by decide) rfl ?_ ?_
        · refine g_ldcw (q := 47) dX11_fit_44 ww1482 rfl ?_
          exact (g_iret dX11_fit_47)
        · refine g_iload (q := 35) 5 dX11_fit_33 rfl rfl ?_
          refine g_iconst (q := 36) dX11_fit_35 kI_0 rfl ?_
          refine g_bipush (q := 38) dX11_fit_36 kB_127 rfl ?_
          refine g_callT (As := [.int a5, .int (0 : Int32), .int (127 : Int32)]) (st := []) (cn_X11_in) cwX11_313 rfl dX11_fit_38 rfl (Nat.le_of_ble_eq_true rfl) (by decide) (kk_PI (fun v9 => ?_))
          refine g_if_ne (t := 48) (q := 44) dX11_fit_41 (by decide) rfl ?_ ?_
          · refine g_ldcw (q := 47) dX11_fit_44 ww1482 rfl ?_
            exact (g_iret dX11_fit_47)
          · refine g_aload_n (q := 49) 0 dX11_fit_48 rfl rfl rfl ?_
            refine g_iload_n (q := 50) 1 dX11_fit_49 rfl rfl rfl ?_
            refine g_iload_n (q := 51) 3 dX11_fit_50 rfl rfl rfl ?_
            refine g_aload_n (q := 52) 0 dX11_fit_51 rfl rfl rfl ?_
            refine g_iload_n (q := 53) 2 dX11_fit_52 rfl rfl rfl ?_
            refine g_iload (q := 55) 4 dX11_fit_53 rfl rfl ?_
            refine g_callO (As := [.int a2, .int a4]) (st := [.int a3, .int a1, .ref (b + 0)]) (cn_X11_paperOf) shX11 rfl cwX11_356 rfl dX11_fit_55 rfl (Nat.le_of_ble_eq_true rfl) (by decide) (kk_I (fun v11 s12 => ?_))
            refine g_iload (q := 60) 5 dX11_fit_58 rfl rfl ?_
            refine g_callO (As := [.int a1, .int a3, .int v11, .int a5]) (st := []) (cn_X11_fitOf) shX11 rfl cwX11_366 rfl dX11_fit_60 rfl (Nat.le_of_ble_eq_true rfl) (by decide) (kk_I (fun v13 s14 => ?_))
            exact (g_iret dX11_fit_63)
noncomputable def pX11_sixths (a1 : Int32) (a2 : Int32) (a3 : Int32) (a4 : Int32) (a5 : Int32) (σ : gS) : Option (Int32 × gS) := bn2 (pX11_paperOf a2 a3 σ) (fun v1 s2 => bn2 (pX11_fitOf a1 a3 v1 (0 : Int32) s2) (fun v3 s4 => bn2 (pX11_paperOf a2 a4 s4) (fun v5 s6 => bn2 (pX11_fitOf a1 a3 v5 (0 : Int32) s6) (fun v7 s8 => bn2 (pX11_paperOf a2 a5 s8) (fun v9 s10 => bn2 (pX11_fitOf a1 a3 v9 (0 : Int32) s10) (fun v11 s12 => if v3 < v7 then some ((0 : Int32), s12) else if v11 ≤ v3 then if v7 = v3 then if v11 = v3 then some ((2 : Int32), s12) else some ((3 : Int32), s12) else if v11 = v3 then some ((3 : Int32), s12) else some ((6 : Int32), s12) else some ((0 : Int32), s12)))))))
set_option maxRecDepth 100000 in
theorem cn_X11_sixths {G : gG} {b : Nat} {a1 : Int32} {a2 : Int32} {a3 : Int32} {a4 : Int32} {a5 : Int32} {σ : gS} : CN vR G b 7 yX11_sixths cX11_sixths 9 (some .int) kI [.ref (b + 0), .int a1, .int a2, .int a3, .int a4, .int a5] σ (pX11_sixths a1 a2 a3 a4 a5 σ) := by
  refine cn_of (own := RX11) rfl rfl (Nat.le_of_ble_eq_true rfl) ?_
  show GF vR G b (7, 0, 0) RX11 cX11_sixths 9 (some .int) kI 0 [(0, .ref (b + 0)), (1, .int a1), (2, .int a2), (3, .int a3), (4, .int a4), (5, .int a5)] [] σ (pX11_sixths a1 a2 a3 a4 a5 σ)
  unfold pX11_sixths
  refine g_aload_n (q := 1) 0 dX11_sixths_0 rfl rfl rfl ?_
  refine g_iload_n (q := 2) 1 dX11_sixths_1 rfl rfl rfl ?_
  refine g_iload_n (q := 3) 3 dX11_sixths_2 rfl rfl rfl ?_
  refine g_aload_n (q := 4) 0 dX11_sixths_3 rfl rfl rfl ?_
  refine g_iload_n (q := 5) 2 dX11_sixths_4 rfl rfl rfl ?_
  refine g_iload_n (q := 6) 3 dX11_sixths_5 rfl rfl rfl ?_
  refine g_callO (As := [.int a2, .int a3]) (st := [.int a3, .int a1, .ref (b + 0)]) (cn_X11_paperOf) shX11 rfl cwX11_356 rfl dX11_sixths_6 rfl (Nat.le_of_ble_eq_true rfl) (by decide) (kk_I (fun v1 s2 => ?_))
  refine g_iconst (q := 10) dX11_sixths_9 kI_0 rfl ?_
  refine g_callO (As := [.int a1, .int a3, .int v1, .int (0 : Int32)]) (st := []) (cn_X11_fitOf) shX11 rfl cwX11_366 rfl dX11_sixths_10 rfl (Nat.le_of_ble_eq_true rfl) (by decide) (kk_I (fun v3 s4 => ?_))
  refine g_istore (lr := [(0, .ref (b + 0)), (1, .int a1), (2, .int a2), (3, .int a3), (4, .int a4), (5, .int a5)]) (q := 15) dX11_sixths_13 (by decide) rfl rfl ?_
  refine g_aload_n (q := 16) 1 dX11_sixths_15 rfl rfl rfl ?_
  refine g_iload_n (q := 17) 2 dX11_sixths_16 rfl rfl rfl ?_
  refine g_iload_n (q := 18) 4 dX11_sixths_17 rfl rfl rfl ?_
  refine g_aload_n (q := 19) 1 dX11_sixths_18 rfl rfl rfl ?_
  refine g_iload_n (q := 20) 3 dX11_sixths_19 rfl rfl rfl ?_
  refine g_iload (q := 22) 5 dX11_sixths_20 rfl rfl ?_
  refine g_callO (As := [.int a2, .int a4]) (st := [.int a3, .int a1, .ref (b + 0)]) (cn_X11_paperOf) shX11 rfl cwX11_356 rfl dX11_sixths_22 rfl (Nat.le_of_ble_eq_true rfl) (by decide) (kk_I (fun v5 s6 => ?_))
  refine g_iconst (q := 26) dX11_sixths_25 kI_0 rfl ?_
  refine g_callO (As := [.int a1, .int a3, .int v5, .int (0 : Int32)]) (st := []) (cn_X11_fitOf) shX11 rfl cwX11_366 rfl dX11_sixths_26 rfl (Nat.le_of_ble_eq_true rfl) (by decide) (kk_I (fun v7 s8 => ?_))
  refine g_istore (lr := [(6, .int v3), (0, .ref (b + 0)), (1, .int a1), (2, .int a2), (3, .int a3), (4, .int a4), (5, .int a5)]) (q := 31) dX11_sixths_29 (by decide) rfl rfl ?_
  refine g_aload_n (q := 32) 2 dX11_sixths_31 rfl rfl rfl ?_
  refine g_iload_n (q := 33) 3 dX11_sixths_32 rfl rfl rfl ?_
  refine g_iload_n (q := 34) 5 dX11_sixths_33 rfl rfl rfl ?_
  refine g_aload_n (q := 35) 2 dX11_sixths_34 rfl rfl rfl ?_
  refine g_iload_n (q := 36) 4 dX11_sixths_35 rfl rfl rfl ?_
  refine g_iload (q := 38) 7 dX11_sixths_36 rfl rfl ?_
  refine g_callO (As := [.int a2, .int a5]) (st := [.int a3, .int a1, .ref (b + 0)]) (cn_X11_paperOf) shX11 rfl cwX11_356 rfl dX11_sixths_38 rfl (Nat.le_of_ble_eq_true rfl) (by decide) (kk_I (fun v9 s10 => ?_))
  refine g_iconst (q := 42) dX11_sixths_41 kI_0 rfl ?_
  refine g_callO (As := [.int a1, .int a3, .int v9, .int (0 : Int32)]) (st := []) (cn_X11_fitOf) shX11 rfl cwX11_366 rfl dX11_sixths_42 rfl (Nat.le_of_ble_eq_true rfl) (by decide) (kk_I (fun v11 s12 => ?_))
  refine g_istore (lr := [(7, .int v7), (6, .int v3), (0, .ref (b + 0)), (1, .int a1), (2, .int a2), (3, .int a3), (4, .int a4), (5, .int a5)]) (q := 47) dX11_sixths_45 (by decide) rfl rfl ?_
  refine g_iload (q := 49) 1 dX11_sixths_47 rfl rfl ?_
  refine g_iload (q := 51) 2 dX11_sixths_49 rfl rfl ?_
  refine g_icmp_gt (t := 61) (q := 54) dX11_sixths_51 (by decide) rfl ?_ ?_
  · refine g_iconst (q := 62) dX11_sixths_61 kI_0 rfl ?_
    exact (g_iret dX11_sixths_62)
  · refine g_iload (q := 56) 0 dX11_sixths_54 rfl rfl ?_
    refine g_iload (q := 58) 2 dX11_sixths_56 rfl rfl ?_
    refine g_icmp_le (t := 63) (q := 61) dX11_sixths_58 (by decide) rfl ?_ ?_
    · refine g_iload (q := 65) 1 dX11_sixths_63 rfl rfl ?_
      refine g_iload (q := 67) 2 dX11_sixths_65 rfl rfl ?_
      refine g_icmp_ne (t := 85) (q := 70) dX11_sixths_67 (by decide) rfl ?_ ?_
      · refine g_iload (q := 72) 0 dX11_sixths_70 rfl rfl ?_
        refine g_iload (q := 74) 2 dX11_sixths_72 rfl rfl ?_
        refine g_icmp_ne (t := 81) (q := 77) dX11_sixths_74 (by decide) rfl ?_ ?_
        · refine g_iconst (q := 78) dX11_sixths_77 kI_2 rfl ?_
          refine g_goto (t := 98) dX11_sixths_78 (by decide) ?_
          exact (g_iret dX11_sixths_98)
        · refine g_iconst (q := 82) dX11_sixths_81 kI_3 rfl ?_
          refine g_goto (t := 98) dX11_sixths_82 (by decide) ?_
          exact (g_iret dX11_sixths_98)
      · refine g_iload (q := 87) 0 dX11_sixths_85 rfl rfl ?_
        refine g_iload (q := 89) 2 dX11_sixths_87 rfl rfl ?_
        refine g_icmp_ne (t := 96) (q := 92) dX11_sixths_89 (by decide) rfl ?_ ?_
        · refine g_iconst (q := 93) dX11_sixths_92 kI_3 rfl ?_
          refine g_goto (t := 98) dX11_sixths_93 (by decide) ?_
          exact (g_iret dX11_sixths_98)
        · refine g_bipush (q := 98) dX11_sixths_96 kB_6 rfl ?_
          exact (g_iret dX11_sixths_98)
    · refine g_iconst (q := 62) dX11_sixths_61 kI_0 rfl ?_
      exact (g_iret dX11_sixths_62)
noncomputable def pX11_choose (a1 : Int32) (a2 : Int32) (a3 : Int32) (a4 : Int32) (a5 : Int32) (σ : gS) : Option (Int32 × gS) := bn1 (pX11_isLaw a1 σ) (fun v1 => if v1 = 0 then some ((-1 : Int32), σ) else bn1 (pX11_isBook a2 σ) (fun v3 => if v3 = 0 then some ((-1 : Int32), σ) else bn1 (pX11_isPerson a3 σ) (fun v5 => if v5 = 0 then some ((-1 : Int32), σ) else bn1 (pX11_isPerson a4 σ) (fun v7 => if v7 = 0 then some ((-1 : Int32), σ) else bn1 (pX11_isPerson a5 σ) (fun v9 => if v9 = 0 then some ((-1 : Int32), σ) else if a3 = a4 then some ((-1 : Int32), σ) else if a3 = a5 then some ((-1 : Int32), σ) else if a4 = a5 then some ((-1 : Int32), σ) else bn2 (pX11_sixths a1 a2 a3 a4 a5 σ) (fun v11 s12 => some (v11, s12)))))))
set_option maxRecDepth 100000 in
theorem cn_X11_choose {G : gG} {b : Nat} {a1 : Int32} {a2 : Int32} {a3 : Int32} {a4 : Int32} {a5 : Int32} {σ : gS} : CN vR G b 8 yX11_choose cX11_choose 6 (some .int) kI [.ref (b + 0), .int a1, .int a2, .int a3, .int a4, .int a5] σ (pX11_choose a1 a2 a3 a4 a5 σ) := by
  refine cn_of (own := RX11) rfl rfl (Nat.le_of_ble_eq_true rfl) ?_
  show GF vR G b (8, 0, 0) RX11 cX11_choose 6 (some .int) kI 0 [(0, .ref (b + 0)), (1, .int a1), (2, .int a2), (3, .int a3), (4, .int a4), (5, .int a5)] [] σ (pX11_choose a1 a2 a3 a4 a5 σ)
  unfold pX11_choose
  refine g_aload_n (q := 1) 0 dX11_choose_0 rfl rfl rfl ?_
  refine g_iload_n (q := 2) 1 dX11_choose_1 rfl rfl rfl ?_
  refine g_callO (As := [.int a1]) (st := []) (cn_X11_isLaw) shX11 rfl cwX11_362 rfl dX11_choose_2 rfl (Nat.le_of_ble_eq_true rfl) (by decide) (kk_PI (fun v1 => ?_))
  refine g_if_eq (t := 61) (q := 8) dX11_choose_5 (by decide) rfl ?_ ?_
  · refine g_iconst (q := 62) dX11_choose_61 kI_m1 rfl ?_
    refine g_goto (t := 76) dX11_choose_62 (by decide) ?_
    exact (g_iret dX11_choose_76)
  · refine g_aload_n (q := 9) 0 dX11_choose_8 rfl rfl rfl ?_
    refine g_iload_n (q := 10) 2 dX11_choose_9 rfl rfl rfl ?_
    refine g_callO (As := [.int a2]) (st := []) (cn_X11_isBook) shX11 rfl cwX11_353 rfl dX11_choose_10 rfl (Nat.le_of_ble_eq_true rfl) (by decide) (kk_PI (fun v3 => ?_))
    refine g_if_eq (t := 61) (q := 16) dX11_choose_13 (by decide) rfl ?_ ?_
    · refine g_iconst (q := 62) dX11_choose_61 kI_m1 rfl ?_
      refine g_goto (t := 76) dX11_choose_62 (by decide) ?_
      exact (g_iret dX11_choose_76)
    · refine g_aload_n (q := 17) 0 dX11_choose_16 rfl rfl rfl ?_
      refine g_iload_n (q := 18) 3 dX11_choose_17 rfl rfl rfl ?_
      refine g_callO (As := [.int a3]) (st := []) (cn_X11_isPerson) shX11 rfl cwX11_328 rfl dX11_choose_18 rfl (Nat.le_of_ble_eq_true rfl) (by decide) (kk_PI (fun v5 => ?_))
      refine g_if_eq (t := 61) (q := 24) dX11_choose_21 (by decide) rfl ?_ ?_
      · refine g_iconst (q := 62) dX11_choose_61 kI_m1 rfl ?_
        refine g_goto (t := 76) dX11_choose_62 (by decide) ?_
        exact (g_iret dX11_choose_76)
      · refine g_aload_n (q := 25) 0 dX11_choose_24 rfl rfl rfl ?_
        refine g_iload (q := 27) 4 dX11_choose_25 rfl rfl ?_
        refine g_callO (As := [.int a4]) (st := []) (cn_X11_isPerson) shX11 rfl cwX11_328 rfl dX11_choose_27 rfl (Nat.le_of_ble_eq_true rfl) (by decide) (kk_PI (fun v7 => ?_))
        refine g_if_eq (t := 61) (q := 33) dX11_choose_30 (by decide) rfl ?_ ?_
        · refine g_iconst (q := 62) dX11_choose_61 kI_m1 rfl ?_
          refine g_goto (t := 76) dX11_choose_62 (by decide) ?_
          exact (g_iret dX11_choose_76)
        · refine g_aload_n (q := 34) 0 dX11_choose_33 rfl rfl rfl ?_
          refine g_iload (q := 36) 5 dX11_choose_34 rfl rfl ?_
          refine g_callO (As := [.int a5]) (st := []) (cn_X11_isPerson) shX11 rfl cwX11_328 rfl dX11_choose_36 rfl (Nat.le_of_ble_eq_true rfl) (by decide) (kk_PI (fun v9 => ?_))
          refine g_if_eq (t := 61) (q := 42) dX11_choose_39 (by decide) rfl ?_ ?_
          · refine g_iconst (q := 62) dX11_choose_61 kI_m1 rfl ?_
            refine g_goto (t := 76) dX11_choose_62 (by decide) ?_
            exact (g_iret dX11_choose_76)
          · refine g_iload_n (q := 43) 3 dX11_choose_42 rfl rfl rfl ?_
            refine g_iload (q := 45) 4 dX11_choose_43 rfl rfl ?_
            refine g_icmp_eq (t := 61) (q := 48) dX11_choose_45 (by decide) rfl ?_ ?_
            · refine g_iconst (q := 62) dX11_choose_61 kI_m1 rfl ?_
              refine g_goto (t := 76) dX11_choose_62 (by decide) ?_
              exact (g_iret dX11_choose_76)
            · refine g_iload_n (q := 49) 3 dX11_choose_48 rfl rfl rfl ?_
              refine g_iload (q := 51) 5 dX11_choose_49 rfl rfl ?_
              refine g_icmp_eq (t := 61) (q := 54) dX11_choose_51 (by decide) rfl ?_ ?_
              · refine g_iconst (q := 62) dX11_choose_61 kI_m1 rfl ?_
                refine g_goto (t := 76) dX11_choose_62 (by decide) ?_
                exact (g_iret dX11_choose_76)
              · refine g_iload (q := 56) 4 dX11_choose_54 rfl rfl ?_
                refine g_iload (q := 58) 5 dX11_choose_56 rfl rfl ?_
                refine g_icmp_ne (t := 65) (q := 61) dX11_choose_58 (by decide) rfl ?_ ?_
                · refine g_iconst (q := 62) dX11_choose_61 kI_m1 rfl ?_
                  refine g_goto (t := 76) dX11_choose_62 (by decide) ?_
                  exact (g_iret dX11_choose_76)
                · refine g_aload_n (q := 66) 0 dX11_choose_65 rfl rfl rfl ?_
                  refine g_iload_n (q := 67) 1 dX11_choose_66 rfl rfl rfl ?_
                  refine g_iload_n (q := 68) 2 dX11_choose_67 rfl rfl rfl ?_
                  refine g_iload_n (q := 69) 3 dX11_choose_68 rfl rfl rfl ?_
                  refine g_iload (q := 71) 4 dX11_choose_69 rfl rfl ?_
                  refine g_iload (q := 73) 5 dX11_choose_71 rfl rfl ?_
                  refine g_callO (As := [.int a1, .int a2, .int a3, .int a4, .int a5]) (st := []) (cn_X11_sixths) shX11 rfl cwX11_370 rfl dX11_choose_73 rfl (Nat.le_of_ble_eq_true rfl) (by decide) (kk_I (fun v11 s12 => ?_))
                  exact (g_iret dX11_choose_76)
noncomputable def pX11_other (a1 : Int32) (a2 : Int32) (a3 : Int32) (σ : gS) : Option (Int32) := bnS (lpP (fun (z2 : (Int32 × Int32)) => if (σ.1 0 51) ≤ z2.1 then some (.inr (.inl ())) else if z2.1 = a2 then lt' (z2.1 + (1 : Int32)) (fun x3 => some (.inl (x3, z2.2))) else if z2.1 = a3 then lt' (z2.1 + (1 : Int32)) (fun x4 => some (.inl (x4, z2.2))) else if z2.2 = 0 then some (.inr (.inr (z2.1))) else lt' (z2.2 + (-1 : Int32)) (fun x5 => lt' (z2.1 + (1 : Int32)) (fun x6 => some (.inl (x6, x5))))) ((0 : Int32), a1)) (fun (z1 : Unit) => some ((-1 : Int32)))
set_option maxRecDepth 100000 in
theorem cn_X11_other {G : gG} {b : Nat} {a1 : Int32} {a2 : Int32} {a3 : Int32} {σ : gS} : CN vR G b 1 yX11_other cX11_other 6 (some .int) (kPI σ) [.ref (b + 0), .int a1, .int a2, .int a3] σ (pX11_other a1 a2 a3 σ) := by
  refine cn_of (own := RX11) rfl rfl (Nat.le_of_ble_eq_true rfl) ?_
  show GF vR G b (1, 0, 0) RX11 cX11_other 6 (some .int) (kPI σ) 0 [(0, .ref (b + 0)), (1, .int a1), (2, .int a2), (3, .int a3)] [] σ (pX11_other a1 a2 a3 σ)
  unfold pX11_other
  refine g_iload_n (q := 1) 1 dX11_other_0 rfl rfl rfl ?_
  refine g_istore (lr := [(0, .ref (b + 0)), (1, .int a1), (2, .int a2), (3, .int a3)]) (q := 3) dX11_other_1 (by decide) rfl rfl ?_
  refine g_iconst (q := 4) dX11_other_3 kI_0 rfl ?_
  refine g_istore (lr := [(4, .int a1), (0, .ref (b + 0)), (1, .int a1), (2, .int a2), (3, .int a3)]) (q := 6) dX11_other_4 (by decide) rfl rfl ?_
  refine g_bindS (S := Unit) (hd := 47) (lvf := fun z1 => []) (stf := fun z1 => []) (σf := fun z1 => σ) ?_ (fun z1 => ?_)
  · refine g_sub (lr := [(5, .int (0 : Int32)), (4, .int a1), (0, .ref (b + 0)), (2, .int a2), (3, .int a3)]) [0, 1, 2, 4, 5] rfl ?_
    refine g_loop (S := (Int32 × Int32)) (lvf := fun z2 => [(5, .int z2.1), (4, .int z2.2), (0, .ref (b + 0)), (2, .int a2), (3, .int a3)]) (σf := fun z2 => σ) (fun z2 => ?_) ((0 : Int32), a1)
    refine g_iload (q := 8) 0 dX11_other_6 rfl rfl ?_
    refine g_aload_n (q := 9) 2 dX11_other_8 rfl rfl rfl ?_
    refine g_getI (q := 12) fX11_people dX11_other_9 ww1093 rfl ?_
    refine g_icmp_ge (t := 47) (q := 15) dX11_other_12 (by decide) rfl ?_ ?_
    · refine g_sub (lr := []) [] rfl ?_
      exact (g_leave (g_thereS (() : Unit)))
    · refine g_iload (q := 17) 0 dX11_other_15 rfl rfl ?_
      refine g_iload_n (q := 18) 3 dX11_other_17 rfl rfl rfl ?_
      refine g_icmp_eq (t := 41) (q := 21) dX11_other_18 (by decide) rfl ?_ ?_
      · refine g_iinc (lr := [(4, .int z2.2), (0, .ref (b + 0)), (2, .int a2), (3, .int a3)]) (q := 44) 0 dX11_other_41 rfl kI_1 (by decide) rfl rfl (fun x3 => ?_)
        refine g_goto (t := 6) dX11_other_44 (by decide) ?_
        exact (g_again ((x3, z2.2) : (Int32 × Int32)))
      · refine g_iload (q := 23) 0 dX11_other_21 rfl rfl ?_
        refine g_iload_n (q := 24) 4 dX11_other_23 rfl rfl rfl ?_
        refine g_icmp_ne (t := 30) (q := 27) dX11_other_24 (by decide) rfl ?_ ?_
        · refine g_goto (t := 41) dX11_other_27 (by decide) ?_
          refine g_iinc (lr := [(4, .int z2.2), (0, .ref (b + 0)), (2, .int a2), (3, .int a3)]) (q := 44) 0 dX11_other_41 rfl kI_1 (by decide) rfl rfl (fun x4 => ?_)
          refine g_goto (t := 6) dX11_other_44 (by decide) ?_
          exact (g_again ((x4, z2.2) : (Int32 × Int32)))
        · refine g_iload (q := 32) 1 dX11_other_30 rfl rfl ?_
          refine g_if_ne (t := 38) (q := 35) dX11_other_32 (by decide) rfl ?_ ?_
          · refine g_iload (q := 37) 0 dX11_other_35 rfl rfl ?_
            exact (g_leave (g_right (g_iretP dX11_other_37)))
          · refine g_iinc (lr := [(5, .int z2.1), (0, .ref (b + 0)), (2, .int a2), (3, .int a3)]) (q := 41) 1 dX11_other_38 rfl kI_m1 (by decide) rfl rfl (fun x5 => ?_)
            refine g_iinc (lr := [(4, .int x5), (0, .ref (b + 0)), (2, .int a2), (3, .int a3)]) (q := 44) 1 dX11_other_41 rfl kI_1 (by decide) rfl rfl (fun x6 => ?_)
            refine g_goto (t := 6) dX11_other_44 (by decide) ?_
            exact (g_again ((x6, x5) : (Int32 × Int32)))
  · refine g_iconst (q := 48) dX11_other_47 kI_m1 rfl ?_
    exact (g_iretP dX11_other_48)
noncomputable def pX11_firstGiven (a1 : Int32) (a2 : Int32) (σ : gS) : Option (Int32) := bn1 (pX11_lot a2 ((2 : Int32) * a1) ((σ.1 0 51) - (1 : Int32))) (fun v1 => bn1 (pX11_other v1 a1 (-1 : Int32) σ) (fun v3 => some (v3)))
set_option maxRecDepth 100000 in
theorem cn_X11_firstGiven {G : gG} {b : Nat} {a1 : Int32} {a2 : Int32} {σ : gS} : CN vR G b 3 yX11_firstGiven cX11_firstGiven 3 (some .int) (kPI σ) [.ref (b + 0), .int a1, .int a2] σ (pX11_firstGiven a1 a2 σ) := by
  refine cn_of (own := RX11) rfl rfl (Nat.le_of_ble_eq_true rfl) ?_
  show GF vR G b (3, 0, 0) RX11 cX11_firstGiven 3 (some .int) (kPI σ) 0 [(0, .ref (b + 0)), (1, .int a1), (2, .int a2)] [] σ (pX11_firstGiven a1 a2 σ)
  unfold pX11_firstGiven
  refine g_aload_n (q := 1) 0 dX11_firstGiven_0 rfl rfl rfl ?_
  refine g_iload_n (q := 2) 2 dX11_firstGiven_1 rfl rfl rfl ?_
  refine g_iconst (q := 3) dX11_firstGiven_2 kI_2 rfl ?_
  refine g_iload_n (q := 4) 1 dX11_firstGiven_3 rfl rfl rfl ?_
  refine g_imul (q := 5) dX11_firstGiven_4 rfl ?_
  refine g_aload_n (q := 6) 0 dX11_firstGiven_5 rfl rfl rfl ?_
  refine g_getI (q := 9) fX11_people dX11_firstGiven_6 ww1093 rfl ?_
  refine g_iconst (q := 10) dX11_firstGiven_9 kI_1 rfl ?_
  refine g_isub (q := 11) dX11_firstGiven_10 rfl ?_
  refine g_callT (As := [.int a2, .int ((2 : Int32) * a1), .int ((σ.1 0 51) - (1 : Int32))]) (st := [.ref (b + 0)]) (cn_X11_lot) cwX11_322 rfl dX11_firstGiven_11 rfl (Nat.le_of_ble_eq_true rfl) (by decide) (kk_PI (fun v1 => ?_))
  refine g_iload_n (q := 15) 1 dX11_firstGiven_14 rfl rfl rfl ?_
  refine g_iconst (q := 16) dX11_firstGiven_15 kI_m1 rfl ?_
  refine g_callO (As := [.int v1, .int a1, .int (-1 : Int32)]) (st := []) (cn_X11_other) shX11 rfl cwX11_374 rfl dX11_firstGiven_16 rfl (Nat.le_of_ble_eq_true rfl) (by decide) (kk_PI (fun v3 => ?_))
  exact (g_iretP dX11_firstGiven_19)
noncomputable def pX11_secondGiven (a1 : Int32) (a2 : Int32) (σ : gS) : Option (Int32) := bn1 (pX11_lot a2 (((2 : Int32) * a1) + (1 : Int32)) ((σ.1 0 51) - (2 : Int32))) (fun v1 => bn1 (pX11_firstGiven a1 a2 σ) (fun v3 => bn1 (pX11_other v1 a1 v3 σ) (fun v5 => some (v5))))
set_option maxRecDepth 100000 in
theorem cn_X11_secondGiven {G : gG} {b : Nat} {a1 : Int32} {a2 : Int32} {σ : gS} : CN vR G b 4 yX11_secondGiven cX11_secondGiven 3 (some .int) (kPI σ) [.ref (b + 0), .int a1, .int a2] σ (pX11_secondGiven a1 a2 σ) := by
  refine cn_of (own := RX11) rfl rfl (Nat.le_of_ble_eq_true rfl) ?_
  show GF vR G b (4, 0, 0) RX11 cX11_secondGiven 3 (some .int) (kPI σ) 0 [(0, .ref (b + 0)), (1, .int a1), (2, .int a2)] [] σ (pX11_secondGiven a1 a2 σ)
  unfold pX11_secondGiven
  refine g_aload_n (q := 1) 0 dX11_secondGiven_0 rfl rfl rfl ?_
  refine g_iload_n (q := 2) 2 dX11_secondGiven_1 rfl rfl rfl ?_
  refine g_iconst (q := 3) dX11_secondGiven_2 kI_2 rfl ?_
  refine g_iload_n (q := 4) 1 dX11_secondGiven_3 rfl rfl rfl ?_
  refine g_imul (q := 5) dX11_secondGiven_4 rfl ?_
  refine g_iconst (q := 6) dX11_secondGiven_5 kI_1 rfl ?_
  refine g_iadd (q := 7) dX11_secondGiven_6 rfl ?_
  refine g_aload_n (q := 8) 0 dX11_secondGiven_7 rfl rfl rfl ?_
  refine g_getI (q := 11) fX11_people dX11_secondGiven_8 ww1093 rfl ?_
  refine g_iconst (q := 12) dX11_secondGiven_11 kI_2 rfl ?_
  refine g_isub (q := 13) dX11_secondGiven_12 rfl ?_
  refine g_callT (As := [.int a2, .int (((2 : Int32) * a1) + (1 : Int32)), .int ((σ.1 0 51) - (2 : Int32))]) (st := [.ref (b + 0)]) (cn_X11_lot) cwX11_322 rfl dX11_secondGiven_13 rfl (Nat.le_of_ble_eq_true rfl) (by decide) (kk_PI (fun v1 => ?_))
  refine g_iload_n (q := 17) 1 dX11_secondGiven_16 rfl rfl rfl ?_
  refine g_aload_n (q := 18) 0 dX11_secondGiven_17 rfl rfl rfl ?_
  refine g_iload_n (q := 19) 1 dX11_secondGiven_18 rfl rfl rfl ?_
  refine g_iload_n (q := 20) 2 dX11_secondGiven_19 rfl rfl rfl ?_
  refine g_callO (As := [.int a1, .int a2]) (st := [.int a1, .int v1, .ref (b + 0)]) (cn_X11_firstGiven) shX11 rfl cwX11_377 rfl dX11_secondGiven_20 rfl (Nat.le_of_ble_eq_true rfl) (by decide) (kk_PI (fun v3 => ?_))
  refine g_callO (As := [.int v1, .int a1, .int v3]) (st := []) (cn_X11_other) shX11 rfl cwX11_374 rfl dX11_secondGiven_23 rfl (Nat.le_of_ble_eq_true rfl) (by decide) (kk_PI (fun v5 => ?_))
  exact (g_iretP dX11_secondGiven_26)
noncomputable def pX11_trial (a1 : Int32) (a2 : Int32) (a3 : Int32) (σ : gS) : Option (Int32 × gS) := bn1 (pX11_isLaw a1 σ) (fun v1 => if v1 = 0 then some ((-1 : Int32), σ) else bn1 (pX11_isBook a2 σ) (fun v3 => if v3 = 0 then some ((-1 : Int32), σ) else if (3 : Int32) ≤ (σ.1 0 51) then bn1 (lpP (fun (z6 : (Int32 × Int32 × gS)) => if (z6.2.2.1 0 51) ≤ z6.1 then some (.inr (z6.2.1, z6.2.2)) else bn1 (pX11_firstGiven z6.1 a3 z6.2.2) (fun v7 => bn1 (pX11_secondGiven z6.1 a3 z6.2.2) (fun v9 => bn2 (pX11_sixths a1 a2 z6.1 v7 v9 z6.2.2) (fun v11 s12 => lt' (z6.2.1 + v11) (fun x13 => lt' (z6.1 + (1 : Int32)) (fun x14 => some (.inl (x14, x13, s12)))))))) ((0 : Int32), (0 : Int32), σ)) (fun (z5 : (Int32 × gS)) => some (z5.1, z5.2)) else some ((-1 : Int32), σ)))
set_option maxRecDepth 100000 in
theorem cn_X11_trial {G : gG} {b : Nat} {a1 : Int32} {a2 : Int32} {a3 : Int32} {σ : gS} : CN vR G b 8 yX11_trial cX11_trial 6 (some .int) kI [.ref (b + 0), .int a1, .int a2, .int a3] σ (pX11_trial a1 a2 a3 σ) := by
  refine cn_of (own := RX11) rfl rfl (Nat.le_of_ble_eq_true rfl) ?_
  show GF vR G b (8, 0, 0) RX11 cX11_trial 6 (some .int) kI 0 [(0, .ref (b + 0)), (1, .int a1), (2, .int a2), (3, .int a3)] [] σ (pX11_trial a1 a2 a3 σ)
  unfold pX11_trial
  refine g_aload_n (q := 1) 0 dX11_trial_0 rfl rfl rfl ?_
  refine g_iload_n (q := 2) 1 dX11_trial_1 rfl rfl rfl ?_
  refine g_callO (As := [.int a1]) (st := []) (cn_X11_isLaw) shX11 rfl cwX11_362 rfl dX11_trial_2 rfl (Nat.le_of_ble_eq_true rfl) (by decide) (kk_PI (fun v1 => ?_))
  refine g_if_eq (t := 24) (q := 8) dX11_trial_5 (by decide) rfl ?_ ?_
  · refine g_iconst (q := 25) dX11_trial_24 kI_m1 rfl ?_
    exact (g_iret dX11_trial_25)
  · refine g_aload_n (q := 9) 0 dX11_trial_8 rfl rfl rfl ?_
    refine g_iload_n (q := 10) 2 dX11_trial_9 rfl rfl rfl ?_
    refine g_callO (As := [.int a2]) (st := []) (cn_X11_isBook) shX11 rfl cwX11_353 rfl dX11_trial_10 rfl (Nat.le_of_ble_eq_true rfl) (by decide) (kk_PI (fun v3 => ?_))
    refine g_if_eq (t := 24) (q := 16) dX11_trial_13 (by decide) rfl ?_ ?_
    · refine g_iconst (q := 25) dX11_trial_24 kI_m1 rfl ?_
      exact (g_iret dX11_trial_25)
    · refine g_aload_n (q := 17) 0 dX11_trial_16 rfl rfl rfl ?_
      refine g_getI (q := 20) fX11_people dX11_trial_17 ww1093 rfl ?_
      refine g_iconst (q := 21) dX11_trial_20 kI_3 rfl ?_
      refine g_icmp_ge (t := 26) (q := 24) dX11_trial_21 (by decide) rfl ?_ ?_
      · refine g_iconst (q := 27) dX11_trial_26 kI_0 rfl ?_
        refine g_istore (lr := [(0, .ref (b + 0)), (1, .int a1), (2, .int a2), (3, .int a3)]) (q := 29) dX11_trial_27 (by decide) rfl rfl ?_
        refine g_iconst (q := 30) dX11_trial_29 kI_0 rfl ?_
        refine g_istore (lr := [(4, .int (0 : Int32)), (0, .ref (b + 0)), (1, .int a1), (2, .int a2), (3, .int a3)]) (q := 32) dX11_trial_30 (by decide) rfl rfl ?_
        refine g_bind (S := (Int32 × gS)) (hd := 74) (lvf := fun z5 => [(4, .int z5.1)]) (stf := fun z5 => []) (σf := fun z5 => z5.2) ?_ (fun z5 => ?_)
        · refine g_loop (S := (Int32 × Int32 × gS)) (lvf := fun z6 => [(5, .int z6.1), (4, .int z6.2.1), (0, .ref (b + 0)), (1, .int a1), (2, .int a2), (3, .int a3)]) (σf := fun z6 => z6.2.2) (fun z6 => ?_) ((0 : Int32), (0 : Int32), σ)
          refine g_iload (q := 34) 0 dX11_trial_32 rfl rfl ?_
          refine g_aload_n (q := 35) 2 dX11_trial_34 rfl rfl rfl ?_
          refine g_getI (q := 38) fX11_people dX11_trial_35 ww1093 rfl ?_
          refine g_icmp_ge (t := 74) (q := 41) dX11_trial_38 (by decide) rfl ?_ ?_
          · refine g_sub (lr := [(4, .int z6.2.1)]) [1] rfl ?_
            exact (g_leave (g_there ((z6.2.1, z6.2.2) : (Int32 × gS))))
          · refine g_iload (q := 43) 1 dX11_trial_41 rfl rfl ?_
            refine g_aload_n (q := 44) 2 dX11_trial_43 rfl rfl rfl ?_
            refine g_iload_n (q := 45) 3 dX11_trial_44 rfl rfl rfl ?_
            refine g_iload_n (q := 46) 4 dX11_trial_45 rfl rfl rfl ?_
            refine g_iload (q := 48) 0 dX11_trial_46 rfl rfl ?_
            refine g_aload_n (q := 49) 2 dX11_trial_48 rfl rfl rfl ?_
            refine g_iload (q := 51) 0 dX11_trial_49 rfl rfl ?_
            refine g_iload_n (q := 52) 5 dX11_trial_51 rfl rfl rfl ?_
            refine g_callO (As := [.int z6.1, .int a3]) (st := [.int z6.1, .int a2, .int a1, .ref (b + 0), .int z6.2.1]) (cn_X11_firstGiven) shX11 rfl cwX11_377 rfl dX11_trial_52 rfl (Nat.le_of_ble_eq_true rfl) (by decide) (kk_PI (fun v7 => ?_))
            refine g_aload_n (q := 56) 2 dX11_trial_55 rfl rfl rfl ?_
            refine g_iload (q := 58) 0 dX11_trial_56 rfl rfl ?_
            refine g_iload_n (q := 59) 5 dX11_trial_58 rfl rfl rfl ?_
            refine g_callO (As := [.int z6.1, .int a3]) (st := [.int v7, .int z6.1, .int a2, .int a1, .ref (b + 0), .int z6.2.1]) (cn_X11_secondGiven) shX11 rfl cwX11_380 rfl dX11_trial_59 rfl (Nat.le_of_ble_eq_true rfl) (by decide) (kk_PI (fun v9 => ?_))
            refine g_callO (As := [.int a1, .int a2, .int z6.1, .int v7, .int v9]) (st := [.int z6.2.1]) (cn_X11_sixths) shX11 rfl cwX11_370 rfl dX11_trial_62 rfl (Nat.le_of_ble_eq_true rfl) (by decide) (kk_I (fun v11 s12 => ?_))
            refine g_iadd (q := 66) dX11_trial_65 rfl ?_
            refine g_leti (fun x13 => ?_)
            refine g_istore (lr := [(5, .int z6.1), (0, .ref (b + 0)), (1, .int a1), (2, .int a2), (3, .int a3)]) (q := 68) dX11_trial_66 (by decide) rfl rfl ?_
            refine g_iinc (lr := [(4, .int x13), (0, .ref (b + 0)), (1, .int a1), (2, .int a2), (3, .int a3)]) (q := 71) 1 dX11_trial_68 rfl kI_1 (by decide) rfl rfl (fun x14 => ?_)
            refine g_goto (t := 32) dX11_trial_71 (by decide) ?_
            exact (g_again ((x14, x13, s12) : (Int32 × Int32 × gS)))
        · refine g_iload (q := 76) 0 dX11_trial_74 rfl rfl ?_
          exact (g_iret dX11_trial_76)
      · refine g_iconst (q := 25) dX11_trial_24 kI_m1 rfl ?_
        exact (g_iret dX11_trial_25)
