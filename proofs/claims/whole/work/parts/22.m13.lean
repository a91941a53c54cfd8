noncomputable def pX11_given (a1 : Int32) (a2 : Int32) (a3 : Int32) (σ : gS) : Option (Int32) := bn1 (pX11_isPerson a1 σ) (fun v1 => if v1 = 0 then some ((-1 : Int32)) else if (σ.1 0 51) < (3 : Int32) then some ((-1 : Int32)) else bn1 (pX11_in a3 (0 : Int32) (1 : Int32)) (fun v3 => if v3 = 0 then some ((-1 : Int32)) else if a3 = 0 then bn1 (pX11_firstGiven a1 a2 σ) (fun v5 => some (v5)) else bn1 (pX11_secondGiven a1 a2 σ) (fun v7 => some (v7))))
set_option maxRecDepth 100000 in
theorem cn_X11_given {G : gG} {b : Nat} {a1 : Int32} {a2 : Int32} {a3 : Int32} {σ : gS} : CN vR G b 5 yX11_given cX11_given 4 (some .int) (kPI σ) [.ref (b + 0), .int a1, .int a2, .int a3] σ (pX11_given a1 a2 a3 σ) := by
  refine cn_of (own := RX11) rfl rfl (Nat.le_of_ble_eq_true rfl) ?_
  show GF vR G b (5, 0, 0) RX11 cX11_given 4 (some .int) (kPI σ) 0 [(0, .ref (b + 0)), (1, .int a1), (2, .int a2), (3, .int a3)] [] σ (pX11_given a1 a2 a3 σ)
  unfold pX11_given
  refine g_aload_n (q := 1) 0 dX11_given_0 rfl rfl rfl ?_
  refine g_iload_n (q := 2) 1 dX11_given_1 rfl rfl rfl ?_
  refine g_callO (As := [.int a1]) (st := []) (cn_X11_isPerson) shX11 rfl cwX11_328 rfl dX11_given_2 rfl (Nat.le_of_ble_eq_true rfl) (by decide) (kk_PI (fun v1 => ?_))
  refine g_if_eq (t := 25) (q := 8) dX11_given_5 (by decide) rfl ?_ ?_
  · refine g_iconst (q := 26) dX11_given_25 kI_m1 rfl ?_
    exact (g_iretP dX11_given_26)
  · refine g_aload_n (q := 9) 0 dX11_given_8 rfl rfl rfl ?_
    refine g_getI (q := 12) fX11_people dX11_given_9 ww1093 rfl ?_
    refine g_iconst (q := 13) dX11_given_12 kI_3 rfl ?_
    refine g_icmp_lt (t := 25) (q := 16) dX11_given_13 (by decide) rfl ?_ ?_
    · refine g_iconst (q := 26) dX11_given_25 kI_m1 rfl ?_
      exact (g_iretP dX11_given_26)
    · refine g_iload_n (q := 17) 3 dX11_given_16 rfl rfl rfl ?_
      refine g_iconst (q := 18) dX11_given_17 kI_0 rfl ?_
      refine g_iconst (q := 19) dX11_given_18 kI_1 rfl ?_
      refine g_callT (As := [.int a3, .int (0 : Int32), .int (1 : Int32)]) (st := []) (cn_X11_in) cwX11_313 rfl dX11_given_19 rfl (Nat.le_of_ble_eq_true rfl) (by decide) (kk_PI (fun v3 => ?_))
      refine g_if_ne (t := 27) (q := 25) dX11_given_22 (by decide) rfl ?_ ?_
      · refine g_iconst (q := 26) dX11_given_25 kI_m1 rfl ?_
        exact (g_iretP dX11_given_26)
      · refine g_iload_n (q := 28) 3 dX11_given_27 rfl rfl rfl ?_
        refine g_if_ne (t := 40) (q := 31) dX11_given_28 (by decide) rfl ?_ ?_
        · refine g_aload_n (q := 32) 0 dX11_given_31 rfl rfl rfl ?_
          refine g_iload_n (q := 33) 1 dX11_given_32 rfl rfl rfl ?_
          refine g_iload_n (q := 34) 2 dX11_given_33 rfl rfl rfl ?_
          refine g_callO (As := [.int a1, .int a2]) (st := []) (cn_X11_firstGiven) shX11 rfl cwX11_377 rfl dX11_given_34 rfl (Nat.le_of_ble_eq_true rfl) (by decide) (kk_PI (fun v5 => ?_))
          refine g_goto (t := 46) dX11_given_37 (by decide) ?_
          exact (g_iretP dX11_given_46)
        · refine g_aload_n (q := 41) 0 dX11_given_40 rfl rfl rfl ?_
          refine g_iload_n (q := 42) 1 dX11_given_41 rfl rfl rfl ?_
          refine g_iload_n (q := 43) 2 dX11_given_42 rfl rfl rfl ?_
          refine g_callO (As := [.int a1, .int a2]) (st := []) (cn_X11_secondGiven) shX11 rfl cwX11_380 rfl dX11_given_43 rfl (Nat.le_of_ble_eq_true rfl) (by decide) (kk_PI (fun v7 => ?_))
          exact (g_iretP dX11_given_46)
noncomputable def pX11_whole (a1 : Int32) (a2 : Int32) (σ : gS) : Option (Int32 × gS) := bn1 (pX11_isLaw a1 σ) (fun v1 => if v1 = 0 then some ((-1 : Int32), σ) else bn1 (pX11_isBook a2 σ) (fun v3 => if v3 = 0 then some ((-1 : Int32), σ) else bn1 (lpP (fun (z6 : (Int32 × Int32 × gS)) => if (z6.2.2.1 0 51) ≤ z6.1 then some (.inr (z6.2.1, z6.2.2)) else bn1 (lpP (fun (z8 : (Int32 × Int32 × gS)) => if (z8.2.2.1 0 51) ≤ z8.1 then some (.inr (z8.2.1, z8.2.2)) else lt' (z8.1 + (1 : Int32)) (fun x9 => bn1 (lpP (fun (z11 : (Int32 × Int32 × gS)) => if (z11.2.2.1 0 51) ≤ z11.1 then some (.inr (z11.2.1, z11.2.2)) else if z8.1 = z6.1 then lt' (z11.1 + (1 : Int32)) (fun x12 => some (.inl (x12, z11.2.1, z11.2.2))) else if z11.1 = z6.1 then lt' (z11.1 + (1 : Int32)) (fun x13 => some (.inl (x13, z11.2.1, z11.2.2))) else bn2 (pX11_sixths a1 a2 z6.1 z8.1 z11.1 z11.2.2) (fun v14 s15 => lt' (z11.2.1 + v14) (fun x16 => lt' (z11.1 + (1 : Int32)) (fun x17 => some (.inl (x17, x16, s15)))))) (x9, z8.2.1, z8.2.2)) (fun (z10 : (Int32 × gS)) => lt' (z8.1 + (1 : Int32)) (fun x18 => some (.inl (x18, z10.1, z10.2)))))) ((0 : Int32), z6.2.1, z6.2.2)) (fun (z7 : (Int32 × gS)) => lt' (z6.1 + (1 : Int32)) (fun x19 => some (.inl (x19, z7.1, z7.2))))) ((0 : Int32), (0 : Int32), σ)) (fun (z5 : (Int32 × gS)) => some (z5.1, z5.2))))
set_option maxRecDepth 100000 in
theorem cn_X11_whole {G : gG} {b : Nat} {a1 : Int32} {a2 : Int32} {σ : gS} : CN vR G b 8 yX11_whole cX11_whole 7 (some .int) kI [.ref (b + 0), .int a1, .int a2] σ (pX11_whole a1 a2 σ) := by
  refine cn_of (own := RX11) rfl rfl (Nat.le_of_ble_eq_true rfl) ?_
  show GF vR G b (8, 0, 0) RX11 cX11_whole 7 (some .int) kI 0 [(0, .ref (b + 0)), (1, .int a1), (2, .int a2)] [] σ (pX11_whole a1 a2 σ)
  unfold pX11_whole
  refine g_aload_n (q := 1) 0 dX11_whole_0 rfl rfl rfl ?_
  refine g_iload_n (q := 2) 1 dX11_whole_1 rfl rfl rfl ?_
  refine g_callO (As := [.int a1]) (st := []) (cn_X11_isLaw) shX11 rfl cwX11_362 rfl dX11_whole_2 rfl (Nat.le_of_ble_eq_true rfl) (by decide) (kk_PI (fun v1 => ?_))
  refine g_if_eq (t := 16) (q := 8) dX11_whole_5 (by decide) rfl ?_ ?_
  · refine g_iconst (q := 17) dX11_whole_16 kI_m1 rfl ?_
    exact (g_iret dX11_whole_17)
  · refine g_aload_n (q := 9) 0 dX11_whole_8 rfl rfl rfl ?_
    refine g_iload_n (q := 10) 2 dX11_whole_9 rfl rfl rfl ?_
    refine g_callO (As := [.int a2]) (st := []) (cn_X11_isBook) shX11 rfl cwX11_353 rfl dX11_whole_10 rfl (Nat.le_of_ble_eq_true rfl) (by decide) (kk_PI (fun v3 => ?_))
    refine g_if_ne (t := 18) (q := 16) dX11_whole_13 (by decide) rfl ?_ ?_
    · refine g_iconst (q := 17) dX11_whole_16 kI_m1 rfl ?_
      exact (g_iret dX11_whole_17)
    · refine g_iconst (q := 19) dX11_whole_18 kI_0 rfl ?_
      refine g_istore_n (lr := [(0, .ref (b + 0)), (1, .int a1), (2, .int a2)]) (q := 20) dX11_whole_19 rfl (by decide) rfl rfl ?_
      refine g_iconst (q := 21) dX11_whole_20 kI_0 rfl ?_
      refine g_istore (lr := [(3, .int (0 : Int32)), (0, .ref (b + 0)), (1, .int a1), (2, .int a2)]) (q := 23) dX11_whole_21 (by decide) rfl rfl ?_
      refine g_bind (S := (Int32 × gS)) (hd := 106) (lvf := fun z5 => [(3, .int z5.1)]) (stf := fun z5 => []) (σf := fun z5 => z5.2) ?_ (fun z5 => ?_)
      · refine g_loop (S := (Int32 × Int32 × gS)) (lvf := fun z6 => [(4, .int z6.1), (3, .int z6.2.1), (0, .ref (b + 0)), (1, .int a1), (2, .int a2)]) (σf := fun z6 => z6.2.2) (fun z6 => ?_) ((0 : Int32), (0 : Int32), σ)
        refine g_iload (q := 25) 0 dX11_whole_23 rfl rfl ?_
        refine g_aload_n (q := 26) 2 dX11_whole_25 rfl rfl rfl ?_
        refine g_getI (q := 29) fX11_people dX11_whole_26 ww1093 rfl ?_
        refine g_icmp_ge (t := 106) (q := 32) dX11_whole_29 (by decide) rfl ?_ ?_
        · refine g_sub (lr := [(3, .int z6.2.1)]) [1] rfl ?_
          exact (g_leave (g_there ((z6.2.1, z6.2.2) : (Int32 × gS))))
        · refine g_iconst (q := 33) dX11_whole_32 kI_0 rfl ?_
          refine g_istore (lr := [(4, .int z6.1), (3, .int z6.2.1), (0, .ref (b + 0)), (1, .int a1), (2, .int a2)]) (q := 35) dX11_whole_33 (by decide) rfl rfl ?_
          refine g_bind (S := (Int32 × gS)) (hd := 100) (lvf := fun z7 => [(3, .int z7.1), (4, .int z6.1), (0, .ref (b + 0)), (1, .int a1), (2, .int a2)]) (stf := fun z7 => []) (σf := fun z7 => z7.2) ?_ (fun z7 => ?_)
          · refine g_sub (lr := [(5, .int (0 : Int32)), (3, .int z6.2.1), (4, .int z6.1), (0, .ref (b + 0)), (1, .int a1), (2, .int a2)]) [0, 2, 1, 3, 4, 5] rfl ?_
            refine g_loop (S := (Int32 × Int32 × gS)) (lvf := fun z8 => [(5, .int z8.1), (3, .int z8.2.1), (4, .int z6.1), (0, .ref (b + 0)), (1, .int a1), (2, .int a2)]) (σf := fun z8 => z8.2.2) (fun z8 => ?_) ((0 : Int32), z6.2.1, z6.2.2)
            refine g_iload (q := 37) 0 dX11_whole_35 rfl rfl ?_
            refine g_aload_n (q := 38) 3 dX11_whole_37 rfl rfl rfl ?_
            refine g_getI (q := 41) fX11_people dX11_whole_38 ww1093 rfl ?_
            refine g_icmp_ge (t := 100) (q := 44) dX11_whole_41 (by decide) rfl ?_ ?_
            · refine g_sub (lr := [(3, .int z8.2.1), (4, .int z6.1), (0, .ref (b + 0)), (1, .int a1), (2, .int a2)]) [1, 2, 3, 4, 5] rfl ?_
              exact (g_leave (g_there ((z8.2.1, z8.2.2) : (Int32 × gS))))
            · refine g_iload (q := 46) 0 dX11_whole_44 rfl rfl ?_
              refine g_iconst (q := 47) dX11_whole_46 kI_1 rfl ?_
              refine g_iadd (q := 48) dX11_whole_47 rfl ?_
              refine g_leti (fun x9 => ?_)
              refine g_istore (lr := [(5, .int z8.1), (3, .int z8.2.1), (4, .int z6.1), (0, .ref (b + 0)), (1, .int a1), (2, .int a2)]) (q := 50) dX11_whole_48 (by decide) rfl rfl ?_
              refine g_bind (S := (Int32 × gS)) (hd := 94) (lvf := fun z10 => [(3, .int z10.1), (5, .int z8.1), (4, .int z6.1), (0, .ref (b + 0)), (1, .int a1), (2, .int a2)]) (stf := fun z10 => []) (σf := fun z10 => z10.2) ?_ (fun z10 => ?_)
              · refine g_sub (lr := [(6, .int x9), (3, .int z8.2.1), (5, .int z8.1), (4, .int z6.1), (0, .ref (b + 0)), (1, .int a1), (2, .int a2)]) [0, 2, 1, 3, 4, 5, 6] rfl ?_
                refine g_loop (S := (Int32 × Int32 × gS)) (lvf := fun z11 => [(6, .int z11.1), (3, .int z11.2.1), (5, .int z8.1), (4, .int z6.1), (0, .ref (b + 0)), (1, .int a1), (2, .int a2)]) (σf := fun z11 => z11.2.2) (fun z11 => ?_) (x9, z8.2.1, z8.2.2)
                refine g_iload (q := 52) 0 dX11_whole_50 rfl rfl ?_
                refine g_aload_n (q := 53) 4 dX11_whole_52 rfl rfl rfl ?_
                refine g_getI (q := 56) fX11_people dX11_whole_53 ww1093 rfl ?_
                refine g_icmp_ge (t := 94) (q := 59) dX11_whole_56 (by decide) rfl ?_ ?_
                · refine g_sub (lr := [(3, .int z11.2.1), (5, .int z8.1), (4, .int z6.1), (0, .ref (b + 0)), (1, .int a1), (2, .int a2)]) [1, 2, 3, 4, 5, 6] rfl ?_
                  exact (g_leave (g_there ((z11.2.1, z11.2.2) : (Int32 × gS))))
                · refine g_iload (q := 61) 2 dX11_whole_59 rfl rfl ?_
                  refine g_iload (q := 63) 3 dX11_whole_61 rfl rfl ?_
                  refine g_icmp_eq (t := 88) (q := 66) dX11_whole_63 (by decide) rfl ?_ ?_
                  · refine g_iinc (lr := [(3, .int z11.2.1), (5, .int z8.1), (4, .int z6.1), (0, .ref (b + 0)), (1, .int a1), (2, .int a2)]) (q := 91) 0 dX11_whole_88 rfl kI_1 (by decide) rfl rfl (fun x12 => ?_)
                    refine g_goto (t := 50) dX11_whole_91 (by decide) ?_
                    exact (g_again ((x12, z11.2.1, z11.2.2) : (Int32 × Int32 × gS)))
                  · refine g_iload (q := 68) 0 dX11_whole_66 rfl rfl ?_
                    refine g_iload (q := 70) 3 dX11_whole_68 rfl rfl ?_
                    refine g_icmp_eq (t := 88) (q := 73) dX11_whole_70 (by decide) rfl ?_ ?_
                    · refine g_iinc (lr := [(3, .int z11.2.1), (5, .int z8.1), (4, .int z6.1), (0, .ref (b + 0)), (1, .int a1), (2, .int a2)]) (q := 91) 0 dX11_whole_88 rfl kI_1 (by decide) rfl rfl (fun x13 => ?_)
                      refine g_goto (t := 50) dX11_whole_91 (by decide) ?_
                      exact (g_again ((x13, z11.2.1, z11.2.2) : (Int32 × Int32 × gS)))
                    · refine g_iload_n (q := 74) 1 dX11_whole_73 rfl rfl rfl ?_
                      refine g_aload_n (q := 75) 4 dX11_whole_74 rfl rfl rfl ?_
                      refine g_iload_n (q := 76) 5 dX11_whole_75 rfl rfl rfl ?_
                      refine g_iload_n (q := 77) 6 dX11_whole_76 rfl rfl rfl ?_
                      refine g_iload (q := 79) 3 dX11_whole_77 rfl rfl ?_
                      refine g_iload (q := 81) 2 dX11_whole_79 rfl rfl ?_
                      refine g_iload (q := 83) 0 dX11_whole_81 rfl rfl ?_
                      refine g_callO (As := [.int a1, .int a2, .int z6.1, .int z8.1, .int z11.1]) (st := [.int z11.2.1]) (cn_X11_sixths) shX11 rfl cwX11_370 rfl dX11_whole_83 rfl (Nat.le_of_ble_eq_true rfl) (by decide) (kk_I (fun v14 s15 => ?_))
                      refine g_iadd (q := 87) dX11_whole_86 rfl ?_
                      refine g_leti (fun x16 => ?_)
                      refine g_istore_n (lr := [(6, .int z11.1), (5, .int z8.1), (4, .int z6.1), (0, .ref (b + 0)), (1, .int a1), (2, .int a2)]) (q := 88) dX11_whole_87 rfl (by decide) rfl rfl ?_
                      refine g_iinc (lr := [(3, .int x16), (5, .int z8.1), (4, .int z6.1), (0, .ref (b + 0)), (1, .int a1), (2, .int a2)]) (q := 91) 1 dX11_whole_88 rfl kI_1 (by decide) rfl rfl (fun x17 => ?_)
                      refine g_goto (t := 50) dX11_whole_91 (by decide) ?_
                      exact (g_again ((x17, x16, s15) : (Int32 × Int32 × gS)))
              · refine g_iinc (lr := [(3, .int z10.1), (4, .int z6.1), (0, .ref (b + 0)), (1, .int a1), (2, .int a2)]) (q := 97) 1 dX11_whole_94 rfl kI_1 (by decide) rfl rfl (fun x18 => ?_)
                refine g_goto (t := 35) dX11_whole_97 (by decide) ?_
                exact (g_again ((x18, z10.1, z10.2) : (Int32 × Int32 × gS)))
          · refine g_iinc (lr := [(3, .int z7.1), (0, .ref (b + 0)), (1, .int a1), (2, .int a2)]) (q := 103) 1 dX11_whole_100 rfl kI_1 (by decide) rfl rfl (fun x19 => ?_)
            refine g_goto (t := 23) dX11_whole_103 (by decide) ?_
            exact (g_again ((x19, z7.1, z7.2) : (Int32 × Int32 × gS)))
      · refine g_iload_n (q := 107) 0 dX11_whole_106 rfl rfl rfl ?_
        exact (g_iret dX11_whole_107)
noncomputable def pX11_pleased (a1 : Int32) (a2 : Int32) (a3 : Int32) (a4 : Int32) (σ : gS) : Option (Int32 × gS) := bn1 (pX11_isLaw a1 σ) (fun v1 => if v1 = 0 then some ((-1 : Int32), σ) else bn1 (pX11_isBook a2 σ) (fun v3 => if v3 = 0 then some ((-1 : Int32), σ) else bn1 (lpP (fun (z6 : (Int32 × Int32 × gS)) => if (z6.2.2.1 0 51) ≤ z6.1 then some (.inr (z6.2.1, z6.2.2)) else bn1 (lpP (fun (z8 : (Int32 × Int32 × gS)) => if (z8.2.2.1 0 51) ≤ z8.1 then some (.inr (z8.2.1, z8.2.2)) else bn1 (if z6.1 = z8.1 then some (1 : Int32) else some (0 : Int32)) (fun (z9 : Int32) => if z9 = a4 then lt' (z8.1 + (1 : Int32)) (fun x10 => some (.inl (x10, z8.2.1, z8.2.2))) else bn2 (pX11_paperOf a2 z8.1 z8.2.2) (fun v11 s12 => bn2 (pX11_fitOf a1 z6.1 v11 (0 : Int32) s12) (fun v13 s14 => if v13 < a3 then lt' (z8.1 + (1 : Int32)) (fun x15 => some (.inl (x15, z8.2.1, s14))) else lt' (z8.2.1 + (1 : Int32)) (fun x16 => lt' (z8.1 + (1 : Int32)) (fun x17 => some (.inl (x17, x16, s14)))))))) ((0 : Int32), z6.2.1, z6.2.2)) (fun (z7 : (Int32 × gS)) => lt' (z6.1 + (1 : Int32)) (fun x18 => some (.inl (x18, z7.1, z7.2))))) ((0 : Int32), (0 : Int32), σ)) (fun (z5 : (Int32 × gS)) => some (z5.1, z5.2))))
set_option maxRecDepth 100000 in
theorem cn_X11_pleased {G : gG} {b : Nat} {a1 : Int32} {a2 : Int32} {a3 : Int32} {a4 : Int32} {σ : gS} : CN vR G b 7 yX11_pleased cX11_pleased 8 (some .int) kI [.ref (b + 0), .int a1, .int a2, .int a3, .int a4] σ (pX11_pleased a1 a2 a3 a4 σ) := by
  refine cn_of (own := RX11) rfl rfl (Nat.le_of_ble_eq_true rfl) ?_
  show GF vR G b (7, 0, 0) RX11 cX11_pleased 8 (some .int) kI 0 [(0, .ref (b + 0)), (1, .int a1), (2, .int a2), (3, .int a3), (4, .int a4)] [] σ (pX11_pleased a1 a2 a3 a4 σ)
  unfold pX11_pleased
  refine g_aload_n (q := 1) 0 dX11_pleased_0 rfl rfl rfl ?_
  refine g_iload_n (q := 2) 1 dX11_pleased_1 rfl rfl rfl ?_
  refine g_callO (As := [.int a1]) (st := []) (cn_X11_isLaw) shX11 rfl cwX11_362 rfl dX11_pleased_2 rfl (Nat.le_of_ble_eq_true rfl) (by decide) (kk_PI (fun v1 => ?_))
  refine g_if_eq (t := 16) (q := 8) dX11_pleased_5 (by decide) rfl ?_ ?_
  · refine g_iconst (q := 17) dX11_pleased_16 kI_m1 rfl ?_
    exact (g_iret dX11_pleased_17)
  · refine g_aload_n (q := 9) 0 dX11_pleased_8 rfl rfl rfl ?_
    refine g_iload_n (q := 10) 2 dX11_pleased_9 rfl rfl rfl ?_
    refine g_callO (As := [.int a2]) (st := []) (cn_X11_isBook) shX11 rfl cwX11_353 rfl dX11_pleased_10 rfl (Nat.le_of_ble_eq_true rfl) (by decide) (kk_PI (fun v3 => ?_))
    refine g_if_ne (t := 18) (q := 16) dX11_pleased_13 (by decide) rfl ?_ ?_
    · refine g_iconst (q := 17) dX11_pleased_16 kI_m1 rfl ?_
      exact (g_iret dX11_pleased_17)
    · refine g_iconst (q := 19) dX11_pleased_18 kI_0 rfl ?_
      refine g_istore (lr := [(0, .ref (b + 0)), (1, .int a1), (2, .int a2), (3, .int a3), (4, .int a4)]) (q := 21) dX11_pleased_19 (by decide) rfl rfl ?_
      refine g_iconst (q := 22) dX11_pleased_21 kI_0 rfl ?_
      refine g_istore (lr := [(5, .int (0 : Int32)), (0, .ref (b + 0)), (1, .int a1), (2, .int a2), (3, .int a3), (4, .int a4)]) (q := 24) dX11_pleased_22 (by decide) rfl rfl ?_
      refine g_bind (S := (Int32 × gS)) (hd := 96) (lvf := fun z5 => [(5, .int z5.1)]) (stf := fun z5 => []) (σf := fun z5 => z5.2) ?_ (fun z5 => ?_)
      · refine g_loop (S := (Int32 × Int32 × gS)) (lvf := fun z6 => [(6, .int z6.1), (5, .int z6.2.1), (0, .ref (b + 0)), (1, .int a1), (2, .int a2), (3, .int a3), (4, .int a4)]) (σf := fun z6 => z6.2.2) (fun z6 => ?_) ((0 : Int32), (0 : Int32), σ)
        refine g_iload (q := 26) 0 dX11_pleased_24 rfl rfl ?_
        refine g_aload_n (q := 27) 2 dX11_pleased_26 rfl rfl rfl ?_
        refine g_getI (q := 30) fX11_people dX11_pleased_27 ww1093 rfl ?_
        refine g_icmp_ge (t := 96) (q := 33) dX11_pleased_30 (by decide) rfl ?_ ?_
        · refine g_sub (lr := [(5, .int z6.2.1)]) [1] rfl ?_
          exact (g_leave (g_there ((z6.2.1, z6.2.2) : (Int32 × gS))))
        · refine g_iconst (q := 34) dX11_pleased_33 kI_0 rfl ?_
          refine g_istore (lr := [(6, .int z6.1), (5, .int z6.2.1), (0, .ref (b + 0)), (1, .int a1), (2, .int a2), (3, .int a3), (4, .int a4)]) (q := 36) dX11_pleased_34 (by decide) rfl rfl ?_
          refine g_bind (S := (Int32 × gS)) (hd := 90) (lvf := fun z7 => [(5, .int z7.1), (6, .int z6.1), (0, .ref (b + 0)), (1, .int a1), (2, .int a2), (3, .int a3), (4, .int a4)]) (stf := fun z7 => []) (σf := fun z7 => z7.2) ?_ (fun z7 => ?_)
          · refine g_sub (lr := [(7, .int (0 : Int32)), (5, .int z6.2.1), (6, .int z6.1), (0, .ref (b + 0)), (1, .int a1), (2, .int a2), (3, .int a3), (4, .int a4)]) [0, 2, 1, 3, 4, 5, 6, 7] rfl ?_
            refine g_loop (S := (Int32 × Int32 × gS)) (lvf := fun z8 => [(7, .int z8.1), (5, .int z8.2.1), (6, .int z6.1), (0, .ref (b + 0)), (1, .int a1), (2, .int a2), (3, .int a3), (4, .int a4)]) (σf := fun z8 => z8.2.2) (fun z8 => ?_) ((0 : Int32), z6.2.1, z6.2.2)
            refine g_iload (q := 38) 0 dX11_pleased_36 rfl rfl ?_
            refine g_aload_n (q := 39) 3 dX11_pleased_38 rfl rfl rfl ?_
            refine g_getI (q := 42) fX11_people dX11_pleased_39 ww1093 rfl ?_
            refine g_icmp_ge (t := 90) (q := 45) dX11_pleased_42 (by decide) rfl ?_ ?_
            · refine g_sub (lr := [(5, .int z8.2.1), (6, .int z6.1), (0, .ref (b + 0)), (1, .int a1), (2, .int a2), (3, .int a3), (4, .int a4)]) [1, 2, 3, 4, 5, 6, 7] rfl ?_
              exact (g_leave (g_there ((z8.2.1, z8.2.2) : (Int32 × gS))))
            · refine g_iload (q := 47) 2 dX11_pleased_45 rfl rfl ?_
              refine g_iload (q := 49) 0 dX11_pleased_47 rfl rfl ?_
              refine g_bind (S := Int32) (hd := 57) (lvf := fun z9 => [(7, .int z8.1), (5, .int z8.2.1), (6, .int z6.1), (0, .ref (b + 0)), (1, .int a1), (2, .int a2), (3, .int a3), (4, .int a4)]) (stf := fun z9 => [.int z9]) (σf := fun z9 => z8.2.2) ?_ (fun z9 => ?_)
              · refine g_icmp_ne (t := 56) (q := 52) dX11_pleased_49 (by decide) rfl ?_ ?_
                · refine g_iconst (q := 53) dX11_pleased_52 kI_1 rfl ?_
                  refine g_goto (t := 57) dX11_pleased_53 (by decide) ?_
                  exact (g_there ((1 : Int32) : Int32))
                · refine g_iconst (q := 57) dX11_pleased_56 kI_0 rfl ?_
                  exact (g_there ((0 : Int32) : Int32))
              · refine g_iload (q := 59) 7 dX11_pleased_57 rfl rfl ?_
                refine g_icmp_eq (t := 84) (q := 62) dX11_pleased_59 (by decide) rfl ?_ ?_
                · refine g_iinc (lr := [(5, .int z8.2.1), (6, .int z6.1), (0, .ref (b + 0)), (1, .int a1), (2, .int a2), (3, .int a3), (4, .int a4)]) (q := 87) 0 dX11_pleased_84 rfl kI_1 (by decide) rfl rfl (fun x10 => ?_)
                  refine g_goto (t := 36) dX11_pleased_87 (by decide) ?_
                  exact (g_again ((x10, z8.2.1, z8.2.2) : (Int32 × Int32 × gS)))
                · refine g_aload_n (q := 63) 3 dX11_pleased_62 rfl rfl rfl ?_
                  refine g_iload_n (q := 64) 4 dX11_pleased_63 rfl rfl rfl ?_
                  refine g_iload (q := 66) 2 dX11_pleased_64 rfl rfl ?_
                  refine g_aload_n (q := 67) 3 dX11_pleased_66 rfl rfl rfl ?_
                  refine g_iload_n (q := 68) 5 dX11_pleased_67 rfl rfl rfl ?_
                  refine g_iload (q := 70) 0 dX11_pleased_68 rfl rfl ?_
                  refine g_callO (As := [.int a2, .int z8.1]) (st := [.int z6.1, .int a1, .ref (b + 0)]) (cn_X11_paperOf) shX11 rfl cwX11_356 rfl dX11_pleased_70 rfl (Nat.le_of_ble_eq_true rfl) (by decide) (kk_I (fun v11 s12 => ?_))
                  refine g_iconst (q := 74) dX11_pleased_73 kI_0 rfl ?_
                  refine g_callO (As := [.int a1, .int z6.1, .int v11, .int (0 : Int32)]) (st := []) (cn_X11_fitOf) shX11 rfl cwX11_366 rfl dX11_pleased_74 rfl (Nat.le_of_ble_eq_true rfl) (by decide) (kk_I (fun v13 s14 => ?_))
                  refine g_iload_n (q := 78) 6 dX11_pleased_77 rfl rfl rfl ?_
                  refine g_icmp_lt (t := 84) (q := 81) dX11_pleased_78 (by decide) rfl ?_ ?_
                  · refine g_iinc (lr := [(5, .int z8.2.1), (6, .int z6.1), (0, .ref (b + 0)), (1, .int a1), (2, .int a2), (3, .int a3), (4, .int a4)]) (q := 87) 0 dX11_pleased_84 rfl kI_1 (by decide) rfl rfl (fun x15 => ?_)
                    refine g_goto (t := 36) dX11_pleased_87 (by decide) ?_
                    exact (g_again ((x15, z8.2.1, s14) : (Int32 × Int32 × gS)))
                  · refine g_iinc (lr := [(7, .int z8.1), (6, .int z6.1), (0, .ref (b + 0)), (1, .int a1), (2, .int a2), (3, .int a3), (4, .int a4)]) (q := 84) 1 dX11_pleased_81 rfl kI_1 (by decide) rfl rfl (fun x16 => ?_)
                    refine g_iinc (lr := [(5, .int x16), (6, .int z6.1), (0, .ref (b + 0)), (1, .int a1), (2, .int a2), (3, .int a3), (4, .int a4)]) (q := 87) 1 dX11_pleased_84 rfl kI_1 (by decide) rfl rfl (fun x17 => ?_)
                    refine g_goto (t := 36) dX11_pleased_87 (by decide) ?_
                    exact (g_again ((x17, x16, s14) : (Int32 × Int32 × gS)))
          · refine g_iinc (lr := [(5, .int z7.1), (0, .ref (b + 0)), (1, .int a1), (2, .int a2), (3, .int a3), (4, .int a4)]) (q := 93) 1 dX11_pleased_90 rfl kI_1 (by decide) rfl rfl (fun x18 => ?_)
            refine g_goto (t := 24) dX11_pleased_93 (by decide) ?_
            exact (g_again ((x18, z7.1, z7.2) : (Int32 × Int32 × gS)))
      · refine g_iload (q := 98) 0 dX11_pleased_96 rfl rfl ?_
        exact (g_iret dX11_pleased_98)
noncomputable def pX11_picks (a1 : Int32) (a2 : Int32) : Option (Int64) := if a2 < 0 then some ((0 : Int64)) else if a2 ≤ a1 then bn1 (lpP (fun (z2 : (Int32 × Int64)) => if a2 < z2.1 then some (.inr z2.2) else g0L (z2.1.toInt64) (lt' ((z2.2 * (((a1 - a2) + z2.1).toInt64)) / (z2.1.toInt64)) (fun x3 => lt' (z2.1 + (1 : Int32)) (fun x4 => some (.inl (x4, x3)))))) ((1 : Int32), (1 : Int64))) (fun (z1 : Int64) => some (z1)) else some ((0 : Int64))
set_option maxRecDepth 100000 in
theorem cn_X11_picks {G : gG} {b : Nat} {V : gV} {a1 : Int32} {a2 : Int32} {σ : gS} : CN V G b 1 yX11_picks cX11_picks 5 (some .long) (kPL σ) [.int a1, .int a2] σ (pX11_picks a1 a2) := by
  refine cn_of (own := RX11) rfl rfl (Nat.le_of_ble_eq_true rfl) ?_
  show GF V G b (1, 0, 0) RX11 cX11_picks 5 (some .long) (kPL σ) 0 [(0, .int a1), (1, .int a2)] [] σ (pX11_picks a1 a2)
  unfold pX11_picks
  refine g_iload_n (q := 1) 1 dX11_picks_0 rfl rfl rfl ?_
  refine g_if_lt (t := 9) (q := 4) dX11_picks_1 (by decide) rfl ?_ ?_
  · refine g_lconst (q := 10) (v := (0 : Int64)) dX11_picks_9 rfl rfl ?_
    exact (g_lretP dX11_picks_10)
  · refine g_iload_n (q := 5) 1 dX11_picks_4 rfl rfl rfl ?_
    refine g_iload_n (q := 6) 0 dX11_picks_5 rfl rfl rfl ?_
    refine g_icmp_le (t := 11) (q := 9) dX11_picks_6 (by decide) rfl ?_ ?_
    · refine g_lconst (q := 12) (v := (1 : Int64)) dX11_picks_11 rfl rfl ?_
      refine g_lstore_n (lr := [(0, .int a1), (1, .int a2)]) (q := 13) dX11_picks_12 rfl (by decide) rfl rfl ?_
      refine g_iconst (q := 14) dX11_picks_13 kI_1 rfl ?_
      refine g_istore (lr := [(2, .long (1 : Int64)), (0, .int a1), (1, .int a2)]) (q := 16) dX11_picks_14 (by decide) rfl rfl ?_
      refine g_bind (S := Int64) (hd := 42) (lvf := fun z1 => [(2, .long z1)]) (stf := fun z1 => []) (σf := fun z1 => σ) ?_ (fun z1 => ?_)
      · refine g_loop (S := (Int32 × Int64)) (lvf := fun z2 => [(4, .int z2.1), (2, .long z2.2), (0, .int a1), (1, .int a2)]) (σf := fun z2 => σ) (fun z2 => ?_) ((1 : Int32), (1 : Int64))
        refine g_iload (q := 18) 0 dX11_picks_16 rfl rfl ?_
        refine g_iload_n (q := 19) 3 dX11_picks_18 rfl rfl rfl ?_
        refine g_icmp_gt (t := 42) (q := 22) dX11_picks_19 (by decide) rfl ?_ ?_
        · refine g_sub (lr := [(2, .long z2.2)]) [1] rfl ?_
          exact (g_leave (g_there (z2.2 : Int64)))
        · refine g_lload_n (q := 23) 1 dX11_picks_22 rfl rfl rfl ?_
          refine g_iload_n (q := 24) 2 dX11_picks_23 rfl rfl rfl ?_
          refine g_iload_n (q := 25) 3 dX11_picks_24 rfl rfl rfl ?_
          refine g_isub (q := 26) dX11_picks_25 rfl ?_
          refine g_iload (q := 28) 0 dX11_picks_26 rfl rfl ?_
          refine g_iadd (q := 29) dX11_picks_28 rfl ?_
          refine g_i2l (q := 30) dX11_picks_29 rfl ?_
          refine g_lmul (q := 31) dX11_picks_30 rfl ?_
          refine g_iload (q := 33) 0 dX11_picks_31 rfl rfl ?_
          refine g_i2l (q := 34) dX11_picks_33 rfl ?_
          refine g_ldiv (q := 35) dX11_picks_34 rfl ?_
          refine g_letl (fun x3 => ?_)
          refine g_lstore_n (lr := [(4, .int z2.1), (0, .int a1), (1, .int a2)]) (q := 36) dX11_picks_35 rfl (by decide) rfl rfl ?_
          refine g_iinc (lr := [(2, .long x3), (0, .int a1), (1, .int a2)]) (q := 39) 1 dX11_picks_36 rfl kI_1 (by decide) rfl rfl (fun x4 => ?_)
          refine g_goto (t := 16) dX11_picks_39 (by decide) ?_
          exact (g_again ((x4, x3) : (Int32 × Int64)))
      · refine g_lload_n (q := 43) 0 dX11_picks_42 rfl rfl rfl ?_
        exact (g_lretP dX11_picks_43)
    · refine g_lconst (q := 10) (v := (0 : Int64)) dX11_picks_9 rfl rfl ?_
      exact (g_lretP dX11_picks_10)
noncomputable def pX11_power (a1 : Int64) (a2 : Int32) : Option (Int64) := bn1 (lpP (fun (z2 : (Int32 × Int64)) => if a2 ≤ z2.1 then some (.inr z2.2) else lt' (z2.2 * a1) (fun x3 => lt' (z2.1 + (1 : Int32)) (fun x4 => some (.inl (x4, x3))))) ((0 : Int32), (1 : Int64))) (fun (z1 : Int64) => some (z1))
set_option maxRecDepth 100000 in
theorem cn_X11_power {G : gG} {b : Nat} {V : gV} {a1 : Int64} {a2 : Int32} {σ : gS} : CN V G b 1 yX11_power cX11_power 6 (some .long) (kPL σ) [.long a1, .int a2] σ (pX11_power a1 a2) := by
  refine cn_of (own := RX11) rfl rfl (Nat.le_of_ble_eq_true rfl) ?_
  show GF V G b (1, 0, 0) RX11 cX11_power 6 (some .long) (kPL σ) 0 [(0, .long a1), (2, .int a2)] [] σ (pX11_power a1 a2)
  unfold pX11_power
  refine g_lconst (q := 1) (v := (1 : Int64)) dX11_power_0 rfl rfl ?_
  refine g_lstore_n (lr := [(0, .long a1), (2, .int a2)]) (q := 2) dX11_power_1 rfl (by decide) rfl rfl ?_
  refine g_iconst (q := 3) dX11_power_2 kI_0 rfl ?_
  refine g_istore (lr := [(3, .long (1 : Int64)), (0, .long a1), (2, .int a2)]) (q := 5) dX11_power_3 (by decide) rfl rfl ?_
  refine g_bind (S := Int64) (hd := 21) (lvf := fun z1 => [(3, .long z1)]) (stf := fun z1 => []) (σf := fun z1 => σ) ?_ (fun z1 => ?_)
  · refine g_loop (S := (Int32 × Int64)) (lvf := fun z2 => [(5, .int z2.1), (3, .long z2.2), (0, .long a1), (2, .int a2)]) (σf := fun z2 => σ) (fun z2 => ?_) ((0 : Int32), (1 : Int64))
    refine g_iload (q := 7) 0 dX11_power_5 rfl rfl ?_
    refine g_iload_n (q := 8) 3 dX11_power_7 rfl rfl rfl ?_
    refine g_icmp_ge (t := 21) (q := 11) dX11_power_8 (by decide) rfl ?_ ?_
    · refine g_sub (lr := [(3, .long z2.2)]) [1] rfl ?_
      exact (g_leave (g_there (z2.2 : Int64)))
    · refine g_lload_n (q := 12) 1 dX11_power_11 rfl rfl rfl ?_
      refine g_lload_n (q := 13) 2 dX11_power_12 rfl rfl rfl ?_
      refine g_lmul (q := 14) dX11_power_13 rfl ?_
      refine g_letl (fun x3 => ?_)
      refine g_lstore_n (lr := [(5, .int z2.1), (0, .long a1), (2, .int a2)]) (q := 15) dX11_power_14 rfl (by decide) rfl rfl ?_
      refine g_iinc (lr := [(3, .long x3), (0, .long a1), (2, .int a2)]) (q := 18) 1 dX11_power_15 rfl kI_1 (by decide) rfl rfl (fun x4 => ?_)
      refine g_goto (t := 5) dX11_power_18 (by decide) ?_
      exact (g_again ((x4, x3) : (Int32 × Int64)))
  · refine g_lload_n (q := 22) 0 dX11_power_21 rfl rfl rfl ?_
    exact (g_lretP dX11_power_22)
noncomputable def pX11_tailOf (a1 : Int32) (a2 : Int32) (a3 : Int32) (a4 : Int32) : Option (Int64) := bn1 (lpP (fun (z2 : (Int32 × Int64)) => if a1 < z2.1 then some (.inr z2.2) else bn1 (pX11_picks a1 z2.1) (fun v3 => bn1 (pX11_power (a3.toInt64) z2.1) (fun v5 => bn1 (pX11_power ((a4 - a3).toInt64) (a1 - z2.1)) (fun v7 => lt' (z2.2 + ((v3 * v5) * v7)) (fun x9 => lt' (z2.1 + (1 : Int32)) (fun x10 => some (.inl (x10, x9)))))))) (a2, (0 : Int64))) (fun (z1 : Int64) => some (z1))
set_option maxRecDepth 100000 in
theorem cn_X11_tailOf {G : gG} {b : Nat} {V : gV} {a1 : Int32} {a2 : Int32} {a3 : Int32} {a4 : Int32} {σ : gS} : CN V G b 2 yX11_tailOf cX11_tailOf 7 (some .long) (kPL σ) [.int a1, .int a2, .int a3, .int a4] σ (pX11_tailOf a1 a2 a3 a4) := by
  refine cn_of (own := RX11) rfl rfl (Nat.le_of_ble_eq_true rfl) ?_
  show GF V G b (2, 0, 0) RX11 cX11_tailOf 7 (some .long) (kPL σ) 0 [(0, .int a1), (1, .int a2), (2, .int a3), (3, .int a4)] [] σ (pX11_tailOf a1 a2 a3 a4)
  unfold pX11_tailOf
  refine g_lconst (q := 1) (v := (0 : Int64)) dX11_tailOf_0 rfl rfl ?_
  refine g_lstore (lr := [(0, .int a1), (1, .int a2), (2, .int a3), (3, .int a4)]) (q := 3) dX11_tailOf_1 (by decide) rfl rfl ?_
  refine g_iload_n (q := 4) 2 dX11_tailOf_3 rfl rfl rfl ?_
  refine g_istore (lr := [(4, .long (0 : Int64)), (0, .int a1), (1, .int a2), (2, .int a3), (3, .int a4)]) (q := 6) dX11_tailOf_4 (by decide) rfl rfl ?_
  refine g_bind (S := Int64) (hd := 49) (lvf := fun z1 => [(4, .long z1)]) (stf := fun z1 => []) (σf := fun z1 => σ) ?_ (fun z1 => ?_)
  · refine g_sub (lr := [(6, .int a2), (4, .long (0 : Int64)), (0, .int a1), (2, .int a3), (3, .int a4)]) [0, 1, 2, 4, 5] rfl ?_
    refine g_loop (S := (Int32 × Int64)) (lvf := fun z2 => [(6, .int z2.1), (4, .long z2.2), (0, .int a1), (2, .int a3), (3, .int a4)]) (σf := fun z2 => σ) (fun z2 => ?_) (a2, (0 : Int64))
    refine g_iload (q := 8) 0 dX11_tailOf_6 rfl rfl ?_
    refine g_iload_n (q := 9) 2 dX11_tailOf_8 rfl rfl rfl ?_
    refine g_icmp_gt (t := 49) (q := 12) dX11_tailOf_9 (by decide) rfl ?_ ?_
    · refine g_sub (lr := [(4, .long z2.2)]) [1] rfl ?_
      exact (g_leave (g_there (z2.2 : Int64)))
    · refine g_lload (q := 14) 1 dX11_tailOf_12 rfl rfl ?_
      refine g_iload_n (q := 15) 2 dX11_tailOf_14 rfl rfl rfl ?_
      refine g_iload (q := 17) 0 dX11_tailOf_15 rfl rfl ?_
      refine g_callT (As := [.int a1, .int z2.1]) (st := [.long z2.2]) (cn_X11_picks) cwX11_383 rfl dX11_tailOf_17 rfl (Nat.le_of_ble_eq_true rfl) (by decide) (kk_PL (fun v3 => ?_))
      refine g_iload_n (q := 21) 3 dX11_tailOf_20 rfl rfl rfl ?_
      refine g_i2l (q := 22) dX11_tailOf_21 rfl ?_
      refine g_iload (q := 24) 0 dX11_tailOf_22 rfl rfl ?_
      refine g_callT (As := [.long (a3.toInt64), .int z2.1]) (st := [.long v3, .long z2.2]) (cn_X11_power) cwX11_387 rfl dX11_tailOf_24 rfl (Nat.le_of_ble_eq_true rfl) (by decide) (kk_PL (fun v5 => ?_))
      refine g_lmul (q := 28) dX11_tailOf_27 rfl ?_
      refine g_iload_n (q := 29) 4 dX11_tailOf_28 rfl rfl rfl ?_
      refine g_iload_n (q := 30) 3 dX11_tailOf_29 rfl rfl rfl ?_
      refine g_isub (q := 31) dX11_tailOf_30 rfl ?_
      refine g_i2l (q := 32) dX11_tailOf_31 rfl ?_
      refine g_iload_n (q := 33) 2 dX11_tailOf_32 rfl rfl rfl ?_
      refine g_iload (q := 35) 0 dX11_tailOf_33 rfl rfl ?_
      refine g_isub (q := 36) dX11_tailOf_35 rfl ?_
      refine g_callT (As := [.long ((a4 - a3).toInt64), .int (a1 - z2.1)]) (st := [.long (v3 * v5), .long z2.2]) (cn_X11_power) cwX11_387 rfl dX11_tailOf_36 rfl (Nat.le_of_ble_eq_true rfl) (by decide) (kk_PL (fun v7 => ?_))
      refine g_lmul (q := 40) dX11_tailOf_39 rfl ?_
      refine g_ladd (q := 41) dX11_tailOf_40 rfl ?_
      refine g_letl (fun x9 => ?_)
      refine g_lstore (lr := [(6, .int z2.1), (0, .int a1), (2, .int a3), (3, .int a4)]) (q := 43) dX11_tailOf_41 (by decide) rfl rfl ?_
      refine g_iinc (lr := [(4, .long x9), (0, .int a1), (2, .int a3), (3, .int a4)]) (q := 46) 1 dX11_tailOf_43 rfl kI_1 (by decide) rfl rfl (fun x10 => ?_)
      refine g_goto (t := 6) dX11_tailOf_46 (by decide) ?_
      exact (g_again ((x10, x9) : (Int32 × Int64)))
  · refine g_lload (q := 51) 0 dX11_tailOf_49 rfl rfl ?_
    exact (g_lretP dX11_tailOf_51)
noncomputable def pX11_tail (a1 : Int32) (a2 : Int32) (a3 : Int32) (a4 : Int32) (σ : gS) : Option (Int64) := bn1 (pX11_in a1 (0 : Int32) (30 : Int32)) (fun v1 => if v1 = 0 then some ((-1 : Int64)) else bn1 (pX11_in a2 (0 : Int32) (31 : Int32)) (fun v3 => if v3 = 0 then some ((-1 : Int64)) else bn1 (pX11_in a4 (1 : Int32) (4 : Int32)) (fun v5 => if v5 = 0 then some ((-1 : Int64)) else bn1 (pX11_in a3 (0 : Int32) a4) (fun v7 => if v7 = 0 then some ((-1 : Int64)) else bn1 (pX11_tailOf a1 a2 a3 a4) (fun v9 => some (v9))))))
set_option maxRecDepth 100000 in
theorem cn_X11_tail {G : gG} {b : Nat} {a1 : Int32} {a2 : Int32} {a3 : Int32} {a4 : Int32} {σ : gS} : CN vR G b 3 yX11_tail cX11_tail 5 (some .long) (kPL σ) [.ref (b + 0), .int a1, .int a2, .int a3, .int a4] σ (pX11_tail a1 a2 a3 a4 σ) := by
  refine cn_of (own := RX11) rfl rfl (Nat.le_of_ble_eq_true rfl) ?_
  show GF vR G b (3, 0, 0) RX11 cX11_tail 5 (some .long) (kPL σ) 0 [(0, .ref (b + 0)), (1, .int a1), (2, .int a2), (3, .int a3), (4, .int a4)] [] σ (pX11_tail a1 a2 a3 a4 σ)
  unfold pX11_tail
  refine g_iload_n (q := 1) 1 dX11_tail_0 rfl rfl rfl ?_
  refine g_iconst (q := 2) dX11_tail_1 kI_0 rfl ?_
  refine g_bipush (q := 4) dX11_tail_2 kB_30 rfl ?_
  refine g_callT (As := [.int a1, .int (0 : Int32), .int (30 : Int32)]) (st := []) (cn_X11_in) cwX11_313 rfl dX11_tail_4 rfl (Nat.le_of_ble_eq_true rfl) (by decide) (kk_PI (fun v1 => ?_))
  refine g_if_eq (t := 40) (q := 10) dX11_tail_7 (by decide) rfl ?_ ?_
  · refine g_ldc2 (q := 43) dX11_tail_40 ww1527 rfl ?_
    refine g_goto (t := 54) dX11_tail_43 (by decide) ?_
    exact (g_lretP dX11_tail_54)
  · refine g_iload_n (q := 11) 2 dX11_tail_10 rfl rfl rfl ?_
    refine g_iconst (q := 12) dX11_tail_11 kI_0 rfl ?_
    refine g_bipush (q := 14) dX11_tail_12 kB_31 rfl ?_
    refine g_callT (As := [.int a2, .int (0 : Int32), .int (31 : Int32)]) (st := []) (cn_X11_in) cwX11_313 rfl dX11_tail_14 rfl (Nat.le_of_ble_eq_true rfl) (by decide) (kk_PI (fun v3 => ?_))
    refine g_if_eq (t := 40) (q := 20) dX11_tail_17 (by decide) rfl ?_ ?_
    · refine g_ldc2 (q := 43) dX11_tail_40 ww1527 rfl ?_
      refine g_goto (t := 54) dX11_tail_43 (by decide) ?_
      exact (g_lretP dX11_tail_54)
    · refine g_iload (q := 22) 4 dX11_tail_20 rfl rfl ?_
      refine g_iconst (q := 23) dX11_tail_22 kI_1 rfl ?_
      refine g_iconst (q := 24) dX11_tail_23 kI_4 rfl ?_
      refine g_callT (As := [.int a4, .int (1 : Int32), .int (4 : Int32)]) (st := []) (cn_X11_in) cwX11_313 rfl dX11_tail_24 rfl (Nat.le_of_ble_eq_true rfl) (by decide) (kk_PI (fun v5 => ?_))
      refine g_if_eq (t := 40) (q := 30) dX11_tail_27 (by decide) rfl ?_ ?_
      · refine g_ldc2 (q := 43) dX11_tail_40 ww1527 rfl ?_
        refine g_goto (t := 54) dX11_tail_43 (by decide) ?_
        exact (g_lretP dX11_tail_54)
      · refine g_iload_n (q := 31) 3 dX11_tail_30 rfl rfl rfl ?_
        refine g_iconst (q := 32) dX11_tail_31 kI_0 rfl ?_
        refine g_iload (q := 34) 4 dX11_tail_32 rfl rfl ?_
        refine g_callT (As := [.int a3, .int (0 : Int32), .int a4]) (st := []) (cn_X11_in) cwX11_313 rfl dX11_tail_34 rfl (Nat.le_of_ble_eq_true rfl) (by decide) (kk_PI (fun v7 => ?_))
        refine g_if_ne (t := 46) (q := 40) dX11_tail_37 (by decide) rfl ?_ ?_
        · refine g_ldc2 (q := 43) dX11_tail_40 ww1527 rfl ?_
          refine g_goto (t := 54) dX11_tail_43 (by decide) ?_
          exact (g_lretP dX11_tail_54)
        · refine g_iload_n (q := 47) 1 dX11_tail_46 rfl rfl rfl ?_
          refine g_iload_n (q := 48) 2 dX11_tail_47 rfl rfl rfl ?_
          refine g_iload_n (q := 49) 3 dX11_tail_48 rfl rfl rfl ?_
          refine g_iload (q := 51) 4 dX11_tail_49 rfl rfl ?_
          refine g_callT (As := [.int a1, .int a2, .int a3, .int a4]) (st := []) (cn_X11_tailOf) cwX11_392 rfl dX11_tail_51 rfl (Nat.le_of_ble_eq_true rfl) (by decide) (kk_PL (fun v9 => ?_))
          exact (g_lretP dX11_tail_54)
noncomputable def pX11_agree (a1 : Int32) (a2 : Int32) (a3 : Int32) (σ : gS) : Option (Int32) := bn1 (pX11_in a1 (2 : Int32) (1000 : Int32)) (fun v1 => if v1 = 0 then some ((-1 : Int32)) else bn1 (pX11_in a2 (2 : Int32) (1000 : Int32)) (fun v3 => if v3 = 0 then some ((-1 : Int32)) else bn1 (pX11_in a3 (0 : Int32) (1 : Int32)) (fun v5 => if v5 = 0 then some ((-1 : Int32)) else bnS (lpP (fun (z8 : Int32) => if (30 : Int32) < z8 then some (.inr (.inl ())) else bnS (lpP (fun (z10 : Int32) => if z8 < z10 then some (.inr (.inl ())) else bn1 (pX11_tailOf z8 z10 (1 : Int32) (3 : Int32)) (fun v11 => bn1 (pX11_power (3 : Int64) z8) (fun v13 => if 0 < (lg_cmp ((a1.toInt64) * v11) v13) then lt' (z10 + (1 : Int32)) (fun x15 => some (.inl x15)) else bn1 (pX11_power (2 : Int64) z8) (fun v16 => bn1 (pX11_tailOf z8 z10 (1 : Int32) (2 : Int32)) (fun v18 => bn1 (pX11_power (2 : Int64) z8) (fun v20 => if (lg_cmp ((a2.toInt64) * (v16 - v18)) v20) ≤ 0 then if a3 = 0 then some (.inr (.inr (.inr (.inr (z8))))) else some (.inr (.inr (.inr (.inr (z10))))) else lt' (z10 + (1 : Int32)) (fun x22 => some (.inl x22)))))))) (0 : Int32)) (fun (z9 : Unit) => lt' (z8 + (1 : Int32)) (fun x23 => some (.inl x23)))) (1 : Int32)) (fun (z7 : Unit) => some ((-2 : Int32))))))
set_option maxRecDepth 100000 in
theorem cn_X11_agree {G : gG} {b : Nat} {a1 : Int32} {a2 : Int32} {a3 : Int32} {σ : gS} : CN vR G b 3 yX11_agree cX11_agree 6 (some .int) (kPI σ) [.ref (b + 0), .int a1, .int a2, .int a3] σ (pX11_agree a1 a2 a3 σ) := by
  refine cn_of (own := RX11) rfl rfl (Nat.le_of_ble_eq_true rfl) ?_
  show GF vR G b (3, 0, 0) RX11 cX11_agree 6 (some .int) (kPI σ) 0 [(0, .ref (b + 0)), (1, .int a1), (2, .int a2), (3, .int a3)] [] σ (pX11_agree a1 a2 a3 σ)
  unfold pX11_agree
  refine g_iload_n (q := 1) 1 dX11_agree_0 rfl rfl rfl ?_
  refine g_iconst (q := 2) dX11_agree_1 kI_2 rfl ?_
  refine g_sipush (q := 5) dX11_agree_2 kS_1000 rfl ?_
  refine g_callT (As := [.int a1, .int (2 : Int32), .int (1000 : Int32)]) (st := []) (cn_X11_in) cwX11_313 rfl dX11_agree_5 rfl (Nat.le_of_ble_eq_true rfl) (by decide) (kk_PI (fun v1 => ?_))
  refine g_if_eq (t := 31) (q := 11) dX11_agree_8 (by decide) rfl ?_ ?_
  · refine g_iconst (q := 32) dX11_agree_31 kI_m1 rfl ?_
    exact (g_iretP dX11_agree_32)
  · refine g_iload_n (q := 12) 2 dX11_agree_11 rfl rfl rfl ?_
    refine g_iconst (q := 13) dX11_agree_12 kI_2 rfl ?_
    refine g_sipush (q := 16) dX11_agree_13 kS_1000 rfl ?_
    refine g_callT (As := [.int a2, .int (2 : Int32), .int (1000 : Int32)]) (st := []) (cn_X11_in) cwX11_313 rfl dX11_agree_16 rfl (Nat.le_of_ble_eq_true rfl) (by decide) (kk_PI (fun v3 => ?_))
    refine g_if_eq (t := 31) (q := 22) dX11_agree_19 (by decide) rfl ?_ ?_
    · refine g_iconst (q := 32) dX11_agree_31 kI_m1 rfl ?_
      exact (g_iretP dX11_agree_32)
    · refine g_iload_n (q := 23) 3 dX11_agree_22 rfl rfl rfl ?_
      refine g_iconst (q := 24) dX11_agree_23 kI_0 rfl ?_
      refine g_iconst (q := 25) dX11_agree_24 kI_1 rfl ?_
      refine g_callT (As := [.int a3, .int (0 : Int32), .int (1 : Int32)]) (st := []) (cn_X11_in) cwX11_313 rfl dX11_agree_25 rfl (Nat.le_of_ble_eq_true rfl) (by decide) (kk_PI (fun v5 => ?_))
      refine g_if_ne (t := 33) (q := 31) dX11_agree_28 (by decide) rfl ?_ ?_
      · refine g_iconst (q := 32) dX11_agree_31 kI_m1 rfl ?_
        exact (g_iretP dX11_agree_32)
      · refine g_iconst (q := 34) dX11_agree_33 kI_1 rfl ?_
        refine g_istore (lr := [(0, .ref (b + 0)), (1, .int a1), (2, .int a2), (3, .int a3)]) (q := 36) dX11_agree_34 (by decide) rfl rfl ?_
        refine g_bindS (S := Unit) (hd := 137) (lvf := fun z7 => []) (stf := fun z7 => []) (σf := fun z7 => σ) ?_ (fun z7 => ?_)
        · refine g_sub (lr := [(4, .int (1 : Int32)), (1, .int a1), (2, .int a2), (3, .int a3)]) [0, 2, 3, 4] rfl ?_
          refine g_loop (S := Int32) (lvf := fun z8 => [(4, .int z8), (1, .int a1), (2, .int a2), (3, .int a3)]) (σf := fun z8 => σ) (fun z8 => ?_) (1 : Int32)
          refine g_iload (q := 38) 0 dX11_agree_36 rfl rfl ?_
          refine g_bipush (q := 40) dX11_agree_38 kB_30 rfl ?_
          refine g_icmp_gt (t := 137) (q := 43) dX11_agree_40 (by decide) rfl ?_ ?_
          · refine g_sub (lr := []) [] rfl ?_
            exact (g_leave (g_thereS (() : Unit)))
          · refine g_iconst (q := 44) dX11_agree_43 kI_0 rfl ?_
            refine g_istore (lr := [(4, .int z8), (1, .int a1), (2, .int a2), (3, .int a3)]) (q := 46) dX11_agree_44 (by decide) rfl rfl ?_
            refine g_bindS (S := Unit) (hd := 131) (lvf := fun z9 => [(4, .int z8), (1, .int a1), (2, .int a2), (3, .int a3)]) (stf := fun z9 => []) (σf := fun z9 => σ) ?_ (fun z9 => ?_)
            · refine g_loop (S := Int32) (lvf := fun z10 => [(5, .int z10), (4, .int z8), (1, .int a1), (2, .int a2), (3, .int a3)]) (σf := fun z10 => σ) (fun z10 => ?_) (0 : Int32)
              refine g_iload (q := 48) 0 dX11_agree_46 rfl rfl ?_
              refine g_iload (q := 50) 1 dX11_agree_48 rfl rfl ?_
              refine g_icmp_gt (t := 131) (q := 53) dX11_agree_50 (by decide) rfl ?_ ?_
              · refine g_sub (lr := [(4, .int z8), (1, .int a1), (2, .int a2), (3, .int a3)]) [1, 2, 3, 4] rfl ?_
                exact (g_leave (g_thereS (() : Unit)))
              · refine g_iload_n (q := 54) 2 dX11_agree_53 rfl rfl rfl ?_
                refine g_i2l (q := 55) dX11_agree_54 rfl ?_
                refine g_iload (q := 57) 1 dX11_agree_55 rfl rfl ?_
                refine g_iload (q := 59) 0 dX11_agree_57 rfl rfl ?_
                refine g_iconst (q := 60) dX11_agree_59 kI_1 rfl ?_
                refine g_iconst (q := 61) dX11_agree_60 kI_3 rfl ?_
                refine g_callT (As := [.int z8, .int z10, .int (1 : Int32), .int (3 : Int32)]) (st := [.long (a1.toInt64)]) (cn_X11_tailOf) cwX11_392 rfl dX11_agree_61 rfl (Nat.le_of_ble_eq_true rfl) (by decide) (kk_PL (fun v11 => ?_))
                refine g_lmul (q := 65) dX11_agree_64 rfl ?_
                refine g_ldc2 (q := 68) dX11_agree_65 ww1541 rfl ?_
                refine g_iload (q := 70) 1 dX11_agree_68 rfl rfl ?_
                refine g_callT (As := [.long (3 : Int64), .int z8]) (st := [.long ((a1.toInt64) * v11)]) (cn_X11_power) cwX11_387 rfl dX11_agree_70 rfl (Nat.le_of_ble_eq_true rfl) (by decide) (kk_PL (fun v13 => ?_))
                refine g_lcmp (q := 74) dX11_agree_73 rfl ?_
                refine g_if_gt (t := 125) (q := 77) dX11_agree_74 (by decide) rfl ?_ ?_
                · refine g_iinc (lr := [(4, .int z8), (1, .int a1), (2, .int a2), (3, .int a3)]) (q := 128) 0 dX11_agree_125 rfl kI_1 (by decide) rfl rfl (fun x15 => ?_)
                  refine g_goto (t := 46) dX11_agree_128 (by decide) ?_
                  exact (g_again (x15 : Int32))
                · refine g_iload_n (q := 78) 3 dX11_agree_77 rfl rfl rfl ?_
                  refine g_i2l (q := 79) dX11_agree_78 rfl ?_
                  refine g_ldc2 (q := 82) dX11_agree_79 ww1542 rfl ?_
                  refine g_iload (q := 84) 1 dX11_agree_82 rfl rfl ?_
                  refine g_callT (As := [.long (2 : Int64), .int z8]) (st := [.long (a2.toInt64)]) (cn_X11_power) cwX11_387 rfl dX11_agree_84 rfl (Nat.le_of_ble_eq_true rfl) (by decide) (kk_PL (fun v16 => ?_))
                  refine g_iload (q := 89) 1 dX11_agree_87 rfl rfl ?_
                  refine g_iload (q := 91) 0 dX11_agree_89 rfl rfl ?_
                  refine g_iconst (q := 92) dX11_agree_91 kI_1 rfl ?_
                  refine g_iconst (q := 93) dX11_agree_92 kI_2 rfl ?_
                  refine g_callT (As := [.int z8, .int z10, .int (1 : Int32), .int (2 : Int32)]) (st := [.long v16, .long (a2.toInt64)]) (cn_X11_tailOf) cwX11_392 rfl dX11_agree_93 rfl (Nat.le_of_ble_eq_true rfl) (by decide) (kk_PL (fun v18 => ?_))
                  refine g_lsub (q := 97) dX11_agree_96 rfl ?_
                  refine g_lmul (q := 98) dX11_agree_97 rfl ?_
                  refine g_ldc2 (q := 101) dX11_agree_98 ww1542 rfl ?_
                  refine g_iload (q := 103) 1 dX11_agree_101 rfl rfl ?_
                  refine g_callT (As := [.long (2 : Int64), .int z8]) (st := [.long ((a2.toInt64) * (v16 - v18))]) (cn_X11_power) cwX11_387 rfl dX11_agree_103 rfl (Nat.le_of_ble_eq_true rfl) (by decide) (kk_PL (fun v20 => ?_))
                  refine g_lcmp (q := 107) dX11_agree_106 rfl ?_
                  refine g_if_le (t := 113) (q := 110) dX11_agree_107 (by decide) rfl ?_ ?_
                  · refine g_iload_n (q := 114) 4 dX11_agree_113 rfl rfl rfl ?_
                    refine g_if_ne (t := 122) (q := 117) dX11_agree_114 (by decide) rfl ?_ ?_
                    · refine g_iload (q := 119) 1 dX11_agree_117 rfl rfl ?_
                      refine g_goto (t := 124) dX11_agree_119 (by decide) ?_
                      exact (g_leave (g_right (g_leave (g_right (g_iretP dX11_agree_124)))))
                    · refine g_iload (q := 124) 0 dX11_agree_122 rfl rfl ?_
                      exact (g_leave (g_right (g_leave (g_right (g_iretP dX11_agree_124)))))
                  · refine g_goto (t := 125) dX11_agree_110 (by decide) ?_
                    refine g_iinc (lr := [(4, .int z8), (1, .int a1), (2, .int a2), (3, .int a3)]) (q := 128) 0 dX11_agree_125 rfl kI_1 (by decide) rfl rfl (fun x22 => ?_)
                    refine g_goto (t := 46) dX11_agree_128 (by decide) ?_
                    exact (g_again (x22 : Int32))
            · refine g_iinc (lr := [(1, .int a1), (2, .int a2), (3, .int a3)]) (q := 134) 0 dX11_agree_131 rfl kI_1 (by decide) rfl rfl (fun x23 => ?_)
              refine g_goto (t := 36) dX11_agree_134 (by decide) ?_
              exact (g_again (x23 : Int32))
        · refine g_bipush (q := 139) dX11_agree_137 kB_m2 rfl ?_
          exact (g_iretP dX11_agree_139)
noncomputable def pX11_upSet (a1 : Int32) (σ : gS) : Option (Int32 × gS) := bn1 (lpP (fun (z2 : (Int32 × Int32 × gS)) => if (z2.2.2.1 0 51) ≤ z2.1 then some (.inr (z2.2.1, z2.2.2)) else gx z2.1 20 (bn2 (pX11_isUp a1 z2.1 (z2.2.2.1 35 z2.1.toNatClampNeg) z2.2.2) (fun v3 s4 => if v3 = 0 then lt' (z2.1 + (1 : Int32)) (fun x5 => some (.inl (x5, z2.2.1, s4))) else lt' (z2.2.1 ||| ((1 : Int32) <<< (z2.1 &&& (31 : Int32)))) (fun x6 => lt' (z2.1 + (1 : Int32)) (fun x7 => some (.inl (x7, x6, s4))))))) ((0 : Int32), (0 : Int32), σ)) (fun (z1 : (Int32 × gS)) => some (z1.1, z1.2))
set_option maxRecDepth 100000 in
theorem cn_X11_upSet {G : gG} {b : Nat} {a1 : Int32} {σ : gS} : CN vR G b 5 yX11_upSet cX11_upSet 4 (some .int) kI [.ref (b + 0), .int a1] σ (pX11_upSet a1 σ) := by
  refine cn_of (own := RX11) rfl rfl (Nat.le_of_ble_eq_true rfl) ?_
  show GF vR G b (5, 0, 0) RX11 cX11_upSet 4 (some .int) kI 0 [(0, .ref (b + 0)), (1, .int a1)] [] σ (pX11_upSet a1 σ)
  unfold pX11_upSet
  refine g_iconst (q := 1) dX11_upSet_0 kI_0 rfl ?_
  refine g_istore_n (lr := [(0, .ref (b + 0)), (1, .int a1)]) (q := 2) dX11_upSet_1 rfl (by decide) rfl rfl ?_
  refine g_iconst (q := 3) dX11_upSet_2 kI_0 rfl ?_
  refine g_istore_n (lr := [(2, .int (0 : Int32)), (0, .ref (b + 0)), (1, .int a1)]) (q := 4) dX11_upSet_3 rfl (by decide) rfl rfl ?_
  refine g_bind (S := (Int32 × gS)) (hd := 39) (lvf := fun z1 => [(2, .int z1.1)]) (stf := fun z1 => []) (σf := fun z1 => z1.2) ?_ (fun z1 => ?_)
  · refine g_loop (S := (Int32 × Int32 × gS)) (lvf := fun z2 => [(3, .int z2.1), (2, .int z2.2.1), (0, .ref (b + 0)), (1, .int a1)]) (σf := fun z2 => z2.2.2) (fun z2 => ?_) ((0 : Int32), (0 : Int32), σ)
    refine g_iload_n (q := 5) 0 dX11_upSet_4 rfl rfl rfl ?_
    refine g_aload_n (q := 6) 2 dX11_upSet_5 rfl rfl rfl ?_
    refine g_getI (q := 9) fX11_people dX11_upSet_6 ww1093 rfl ?_
    refine g_icmp_ge (t := 39) (q := 12) dX11_upSet_9 (by decide) rfl ?_ ?_
    · refine g_sub (lr := [(2, .int z2.2.1)]) [1] rfl ?_
      exact (g_leave (g_there ((z2.2.1, z2.2.2) : (Int32 × gS))))
    · refine g_aload_n (q := 13) 2 dX11_upSet_12 rfl rfl rfl ?_
      refine g_iload_n (q := 14) 3 dX11_upSet_13 rfl rfl rfl ?_
      refine g_iload_n (q := 15) 0 dX11_upSet_14 rfl rfl rfl ?_
      refine g_aload_n (q := 16) 2 dX11_upSet_15 rfl rfl rfl ?_
      refine g_getA (q := 19) fX11_minutes dX11_upSet_16 ww1094 rfl ?_
      refine g_iload_n (q := 20) 0 dX11_upSet_19 rfl rfl rfl ?_
      refine g_iald (q := 21) (aX11_minutes) dX11_upSet_20 rfl ?_
      refine g_callO (As := [.int a1, .int z2.1, .int (z2.2.2.1 35 z2.1.toNatClampNeg)]) (st := []) (cn_X11_isUp) shX11 rfl cwX11_325 rfl dX11_upSet_21 rfl (Nat.le_of_ble_eq_true rfl) (by decide) (kk_I (fun v3 s4 => ?_))
      refine g_if_eq (t := 33) (q := 27) dX11_upSet_24 (by decide) rfl ?_ ?_
      · refine g_iinc (lr := [(2, .int z2.2.1), (0, .ref (b + 0)), (1, .int a1)]) (q := 36) 0 dX11_upSet_33 rfl kI_1 (by decide) rfl rfl (fun x5 => ?_)
        refine g_goto (t := 4) dX11_upSet_36 (by decide) ?_
        exact (g_again ((x5, z2.2.1, s4) : (Int32 × Int32 × gS)))
      · refine g_iload_n (q := 28) 1 dX11_upSet_27 rfl rfl rfl ?_
        refine g_iconst (q := 29) dX11_upSet_28 kI_1 rfl ?_
        refine g_iload_n (q := 30) 0 dX11_upSet_29 rfl rfl rfl ?_
        refine g_ishl (q := 31) dX11_upSet_30 rfl ?_
        refine g_ior (q := 32) dX11_upSet_31 rfl ?_
        refine g_leti (fun x6 => ?_)
        refine g_istore_n (lr := [(3, .int z2.1), (0, .ref (b + 0)), (1, .int a1)]) (q := 33) dX11_upSet_32 rfl (by decide) rfl rfl ?_
        refine g_iinc (lr := [(2, .int x6), (0, .ref (b + 0)), (1, .int a1)]) (q := 36) 1 dX11_upSet_33 rfl kI_1 (by decide) rfl rfl (fun x7 => ?_)
        refine g_goto (t := 4) dX11_upSet_36 (by decide) ?_
        exact (g_again ((x7, x6, s4) : (Int32 × Int32 × gS)))
  · refine g_iload_n (q := 40) 0 dX11_upSet_39 rfl rfl rfl ?_
    exact (g_iret dX11_upSet_40)
noncomputable def pX11_trueSet (a1 : Int32) (σ : gS) : Option (Int32 × gS) := bn1 (lpP (fun (z2 : (Int32 × Int32 × gS)) => if (z2.2.2.1 0 51) ≤ z2.1 then some (.inr (z2.2.1, z2.2.2)) else bn2 (pX11_isTrueOf a1 z2.1 z2.2.2) (fun v3 s4 => if v3 = 0 then lt' (z2.1 + (1 : Int32)) (fun x5 => some (.inl (x5, z2.2.1, s4))) else lt' (z2.2.1 ||| ((1 : Int32) <<< (z2.1 &&& (31 : Int32)))) (fun x6 => lt' (z2.1 + (1 : Int32)) (fun x7 => some (.inl (x7, x6, s4)))))) ((0 : Int32), (0 : Int32), σ)) (fun (z1 : (Int32 × gS)) => some (z1.1, z1.2))
set_option maxRecDepth 100000 in
theorem cn_X11_trueSet {G : gG} {b : Nat} {a1 : Int32} {σ : gS} : CN vR G b 5 yX11_trueSet cX11_trueSet 4 (some .int) kI [.ref (b + 0), .int a1] σ (pX11_trueSet a1 σ) := by
  refine cn_of (own := RX11) rfl rfl (Nat.le_of_ble_eq_true rfl) ?_
  show GF vR G b (5, 0, 0) RX11 cX11_trueSet 4 (some .int) kI 0 [(0, .ref (b + 0)), (1, .int a1)] [] σ (pX11_trueSet a1 σ)
  unfold pX11_trueSet
  refine g_iconst (q := 1) dX11_trueSet_0 kI_0 rfl ?_
  refine g_istore_n (lr := [(0, .ref (b + 0)), (1, .int a1)]) (q := 2) dX11_trueSet_1 rfl (by decide) rfl rfl ?_
  refine g_iconst (q := 3) dX11_trueSet_2 kI_0 rfl ?_
  refine g_istore_n (lr := [(2, .int (0 : Int32)), (0, .ref (b + 0)), (1, .int a1)]) (q := 4) dX11_trueSet_3 rfl (by decide) rfl rfl ?_
  refine g_bind (S := (Int32 × gS)) (hd := 33) (lvf := fun z1 => [(2, .int z1.1)]) (stf := fun z1 => []) (σf := fun z1 => z1.2) ?_ (fun z1 => ?_)
  · refine g_loop (S := (Int32 × Int32 × gS)) (lvf := fun z2 => [(3, .int z2.1), (2, .int z2.2.1), (0, .ref (b + 0)), (1, .int a1)]) (σf := fun z2 => z2.2.2) (fun z2 => ?_) ((0 : Int32), (0 : Int32), σ)
    refine g_iload_n (q := 5) 0 dX11_trueSet_4 rfl rfl rfl ?_
    refine g_aload_n (q := 6) 2 dX11_trueSet_5 rfl rfl rfl ?_
    refine g_getI (q := 9) fX11_people dX11_trueSet_6 ww1093 rfl ?_
    refine g_icmp_ge (t := 33) (q := 12) dX11_trueSet_9 (by decide) rfl ?_ ?_
    · refine g_sub (lr := [(2, .int z2.2.1)]) [1] rfl ?_
      exact (g_leave (g_there ((z2.2.1, z2.2.2) : (Int32 × gS))))
    · refine g_aload_n (q := 13) 2 dX11_trueSet_12 rfl rfl rfl ?_
      refine g_iload_n (q := 14) 3 dX11_trueSet_13 rfl rfl rfl ?_
      refine g_iload_n (q := 15) 0 dX11_trueSet_14 rfl rfl rfl ?_
      refine g_callO (As := [.int a1, .int z2.1]) (st := []) (cn_X11_isTrueOf) shX11 rfl cwX11_346 rfl dX11_trueSet_15 rfl (Nat.le_of_ble_eq_true rfl) (by decide) (kk_I (fun v3 s4 => ?_))
      refine g_if_eq (t := 27) (q := 21) dX11_trueSet_18 (by decide) rfl ?_ ?_
      · refine g_iinc (lr := [(2, .int z2.2.1), (0, .ref (b + 0)), (1, .int a1)]) (q := 30) 0 dX11_trueSet_27 rfl kI_1 (by decide) rfl rfl (fun x5 => ?_)
        refine g_goto (t := 4) dX11_trueSet_30 (by decide) ?_
        exact (g_again ((x5, z2.2.1, s4) : (Int32 × Int32 × gS)))
      · refine g_iload_n (q := 22) 1 dX11_trueSet_21 rfl rfl rfl ?_
        refine g_iconst (q := 23) dX11_trueSet_22 kI_1 rfl ?_
        refine g_iload_n (q := 24) 0 dX11_trueSet_23 rfl rfl rfl ?_
        refine g_ishl (q := 25) dX11_trueSet_24 rfl ?_
        refine g_ior (q := 26) dX11_trueSet_25 rfl ?_
        refine g_leti (fun x6 => ?_)
        refine g_istore_n (lr := [(3, .int z2.1), (0, .ref (b + 0)), (1, .int a1)]) (q := 27) dX11_trueSet_26 rfl (by decide) rfl rfl ?_
        refine g_iinc (lr := [(2, .int x6), (0, .ref (b + 0)), (1, .int a1)]) (q := 30) 1 dX11_trueSet_27 rfl kI_1 (by decide) rfl rfl (fun x7 => ?_)
        refine g_goto (t := 4) dX11_trueSet_30 (by decide) ?_
        exact (g_again ((x7, x6, s4) : (Int32 × Int32 × gS)))
  · refine g_iload_n (q := 34) 0 dX11_trueSet_33 rfl rfl rfl ?_
    exact (g_iret dX11_trueSet_34)
noncomputable def pX11_bits (a1 : Int32) : Option (Int32) := bn1 (lpP (fun (z2 : (Int32 × Int32)) => if (20 : Int32) ≤ z2.1 then some (.inr z2.2) else lt' (z2.2 + ((a1 >>> (z2.1 &&& (31 : Int32))) &&& (1 : Int32))) (fun x3 => lt' (z2.1 + (1 : Int32)) (fun x4 => some (.inl (x4, x3))))) ((0 : Int32), (0 : Int32))) (fun (z1 : Int32) => some (z1))
set_option maxRecDepth 100000 in
theorem cn_X11_bits {G : gG} {b : Nat} {V : gV} {a1 : Int32} {σ : gS} : CN V G b 1 yX11_bits cX11_bits 3 (some .int) (kPI σ) [.int a1] σ (pX11_bits a1) := by
  refine cn_of (own := RX11) rfl rfl (Nat.le_of_ble_eq_true rfl) ?_
  show GF V G b (1, 0, 0) RX11 cX11_bits 3 (some .int) (kPI σ) 0 [(0, .int a1)] [] σ (pX11_bits a1)
  unfold pX11_bits
  refine g_iconst (q := 1) dX11_bits_0 kI_0 rfl ?_
  refine g_istore_n (lr := [(0, .int a1)]) (q := 2) dX11_bits_1 rfl (by decide) rfl rfl ?_
  refine g_iconst (q := 3) dX11_bits_2 kI_0 rfl ?_
  refine g_istore_n (lr := [(1, .int (0 : Int32)), (0, .int a1)]) (q := 4) dX11_bits_3 rfl (by decide) rfl rfl ?_
  refine g_bind (S := Int32) (hd := 24) (lvf := fun z1 => [(1, .int z1)]) (stf := fun z1 => []) (σf := fun z1 => σ) ?_ (fun z1 => ?_)
  · refine g_loop (S := (Int32 × Int32)) (lvf := fun z2 => [(2, .int z2.1), (1, .int z2.2), (0, .int a1)]) (σf := fun z2 => σ) (fun z2 => ?_) ((0 : Int32), (0 : Int32))
    refine g_iload_n (q := 5) 0 dX11_bits_4 rfl rfl rfl ?_
    refine g_bipush (q := 7) dX11_bits_5 kB_20 rfl ?_
    refine g_icmp_ge (t := 24) (q := 10) dX11_bits_7 (by decide) rfl ?_ ?_
    · refine g_sub (lr := [(1, .int z2.2)]) [1] rfl ?_
      exact (g_leave (g_there (z2.2 : Int32)))
    · refine g_iload_n (q := 11) 1 dX11_bits_10 rfl rfl rfl ?_
      refine g_iload_n (q := 12) 2 dX11_bits_11 rfl rfl rfl ?_
      refine g_iload_n (q := 13) 0 dX11_bits_12 rfl rfl rfl ?_
      refine g_ishr (q := 14) dX11_bits_13 rfl ?_
      refine g_iconst (q := 15) dX11_bits_14 kI_1 rfl ?_
      refine g_iand (q := 16) dX11_bits_15 rfl ?_
      refine g_iadd (q := 17) dX11_bits_16 rfl ?_
      refine g_leti (fun x3 => ?_)
      refine g_istore_n (lr := [(2, .int z2.1), (0, .int a1)]) (q := 18) dX11_bits_17 rfl (by decide) rfl rfl ?_
      refine g_iinc (lr := [(1, .int x3), (0, .int a1)]) (q := 21) 1 dX11_bits_18 rfl kI_1 (by decide) rfl rfl (fun x4 => ?_)
      refine g_goto (t := 4) dX11_bits_21 (by decide) ?_
      exact (g_again ((x4, x3) : (Int32 × Int32)))
  · refine g_iload_n (q := 25) 0 dX11_bits_24 rfl rfl rfl ?_
    exact (g_iretP dX11_bits_25)
noncomputable def pX11_table (a1 : Int32) (a2 : Int32) (a3 : Int32) (σ : gS) : Option (Int32 × gS) := bn1 (pX11_isSign a1 σ) (fun v1 => if v1 = 0 then some ((-1 : Int32), σ) else bn1 (pX11_isSay a2 σ) (fun v3 => if v3 = 0 then some ((-1 : Int32), σ) else bn1 (pX11_in a3 (0 : Int32) (3 : Int32)) (fun v5 => if v5 = 0 then some ((-1 : Int32), σ) else if a3 = 0 then some (σ.1 0 51, σ) else if a3 = (1 : Int32) then bn2 (pX11_upSet a1 σ) (fun v7 s8 => bn1 (pX11_bits v7) (fun v9 => some (v9, s8))) else if a3 = (2 : Int32) then bn2 (pX11_trueSet a2 σ) (fun v11 s12 => bn1 (pX11_bits v11) (fun v13 => some (v13, s12))) else bn2 (pX11_upSet a1 σ) (fun v15 s16 => bn2 (pX11_trueSet a2 s16) (fun v17 s18 => bn1 (pX11_bits (v15 &&& v17)) (fun v19 => some (v19, s18)))))))
set_option maxRecDepth 100000 in
theorem cn_X11_table {G : gG} {b : Nat} {a1 : Int32} {a2 : Int32} {a3 : Int32} {σ : gS} : CN vR G b 6 yX11_table cX11_table 4 (some .int) kI [.ref (b + 0), .int a1, .int a2, .int a3] σ (pX11_table a1 a2 a3 σ) := by
  refine cn_of (own := RX11) rfl rfl (Nat.le_of_ble_eq_true rfl) ?_
  show GF vR G b (6, 0, 0) RX11 cX11_table 4 (some .int) kI 0 [(0, .ref (b + 0)), (1, .int a1), (2, .int a2), (3, .int a3)] [] σ (pX11_table a1 a2 a3 σ)
  unfold pX11_table
  refine g_aload_n (q := 1) 0 dX11_table_0 rfl rfl rfl ?_
  refine g_iload_n (q := 2) 1 dX11_table_1 rfl rfl rfl ?_
  refine g_callO (As := [.int a1]) (st := []) (cn_X11_isSign) shX11 rfl cwX11_400 rfl dX11_table_2 rfl (Nat.le_of_ble_eq_true rfl) (by decide) (kk_PI (fun v1 => ?_))
  refine g_if_eq (t := 25) (q := 8) dX11_table_5 (by decide) rfl ?_ ?_
  · refine g_iconst (q := 26) dX11_table_25 kI_m1 rfl ?_
    exact (g_iret dX11_table_26)
  · refine g_aload_n (q := 9) 0 dX11_table_8 rfl rfl rfl ?_
    refine g_iload_n (q := 10) 2 dX11_table_9 rfl rfl rfl ?_
    refine g_callO (As := [.int a2]) (st := []) (cn_X11_isSay) shX11 rfl cwX11_343 rfl dX11_table_10 rfl (Nat.le_of_ble_eq_true rfl) (by decide) (kk_PI (fun v3 => ?_))
    refine g_if_eq (t := 25) (q := 16) dX11_table_13 (by decide) rfl ?_ ?_
    · refine g_iconst (q := 26) dX11_table_25 kI_m1 rfl ?_
      exact (g_iret dX11_table_26)
    · refine g_iload_n (q := 17) 3 dX11_table_16 rfl rfl rfl ?_
      refine g_iconst (q := 18) dX11_table_17 kI_0 rfl ?_
      refine g_iconst (q := 19) dX11_table_18 kI_3 rfl ?_
      refine g_callT (As := [.int a3, .int (0 : Int32), .int (3 : Int32)]) (st := []) (cn_X11_in) cwX11_313 rfl dX11_table_19 rfl (Nat.le_of_ble_eq_true rfl) (by decide) (kk_PI (fun v5 => ?_))
      refine g_if_ne (t := 27) (q := 25) dX11_table_22 (by decide) rfl ?_ ?_
      · refine g_iconst (q := 26) dX11_table_25 kI_m1 rfl ?_
        exact (g_iret dX11_table_26)
      · refine g_iload_n (q := 28) 3 dX11_table_27 rfl rfl rfl ?_
        refine g_if_ne (t := 38) (q := 31) dX11_table_28 (by decide) rfl ?_ ?_
        · refine g_aload_n (q := 32) 0 dX11_table_31 rfl rfl rfl ?_
          refine g_getI (q := 35) fX11_people dX11_table_32 ww1093 rfl ?_
          refine g_goto (t := 84) dX11_table_35 (by decide) ?_
          exact (g_iret dX11_table_84)
        · refine g_iload_n (q := 39) 3 dX11_table_38 rfl rfl rfl ?_
          refine g_iconst (q := 40) dX11_table_39 kI_1 rfl ?_
          refine g_icmp_ne (t := 54) (q := 43) dX11_table_40 (by decide) rfl ?_ ?_
          · refine g_aload_n (q := 44) 0 dX11_table_43 rfl rfl rfl ?_
            refine g_iload_n (q := 45) 1 dX11_table_44 rfl rfl rfl ?_
            refine g_callO (As := [.int a1]) (st := []) (cn_X11_upSet) shX11 rfl cwX11_403 rfl dX11_table_45 rfl (Nat.le_of_ble_eq_true rfl) (by decide) (kk_I (fun v7 s8 => ?_))
            refine g_callT (As := [.int v7]) (st := []) (cn_X11_bits) cwX11_406 rfl dX11_table_48 rfl (Nat.le_of_ble_eq_true rfl) (by decide) (kk_PI (fun v9 => ?_))
            refine g_goto (t := 84) dX11_table_51 (by decide) ?_
            exact (g_iret dX11_table_84)
          · refine g_iload_n (q := 55) 3 dX11_table_54 rfl rfl rfl ?_
            refine g_iconst (q := 56) dX11_table_55 kI_2 rfl ?_
            refine g_icmp_ne (t := 70) (q := 59) dX11_table_56 (by decide) rfl ?_ ?_
            · refine g_aload_n (q := 60) 0 dX11_table_59 rfl rfl rfl ?_
              refine g_iload_n (q := 61) 2 dX11_table_60 rfl rfl rfl ?_
              refine g_callO (As := [.int a2]) (st := []) (cn_X11_trueSet) shX11 rfl cwX11_409 rfl dX11_table_61 rfl (Nat.le_of_ble_eq_true rfl) (by decide) (kk_I (fun v11 s12 => ?_))
              refine g_callT (As := [.int v11]) (st := []) (cn_X11_bits) cwX11_406 rfl dX11_table_64 rfl (Nat.le_of_ble_eq_true rfl) (by decide) (kk_PI (fun v13 => ?_))
              refine g_goto (t := 84) dX11_table_67 (by decide) ?_
              exact (g_iret dX11_table_84)
            · refine g_aload_n (q := 71) 0 dX11_table_70 rfl rfl rfl ?_
              refine g_iload_n (q := 72) 1 dX11_table_71 rfl rfl rfl ?_
              refine g_callO (As := [.int a1]) (st := []) (cn_X11_upSet) shX11 rfl cwX11_403 rfl dX11_table_72 rfl (Nat.le_of_ble_eq_true rfl) (by decide) (kk_I (fun v15 s16 => ?_))
              refine g_aload_n (q := 76) 0 dX11_table_75 rfl rfl rfl ?_
              refine g_iload_n (q := 77) 2 dX11_table_76 rfl rfl rfl ?_
              refine g_callO (As := [.int a2]) (st := [.int v15]) (cn_X11_trueSet) shX11 rfl cwX11_409 rfl dX11_table_77 rfl (Nat.le_of_ble_eq_true rfl) (by decide) (kk_I (fun v17 s18 => ?_))
              refine g_iand (q := 81) dX11_table_80 rfl ?_
              refine g_callT (As := [.int (v15 &&& v17)]) (st := []) (cn_X11_bits) cwX11_406 rfl dX11_table_81 rfl (Nat.le_of_ble_eq_true rfl) (by decide) (kk_PI (fun v19 => ?_))
              exact (g_iret dX11_table_84)
noncomputable def pX11_moreOf (a1 : Int32) (a2 : Int32) (a3 : Int32) (a4 : Int32) : Option (Int64) := bn1 (lpP (fun (z2 : (Int32 × Int64)) => if a3 < z2.1 then some (.inr z2.2) else bn1 (pX11_picks a3 z2.1) (fun v3 => bn1 (pX11_picks (a1 - a3) (a2 - z2.1)) (fun v5 => lt' (z2.2 + (v3 * v5)) (fun x7 => lt' (z2.1 + (1 : Int32)) (fun x8 => some (.inl (x8, x7))))))) (a4, (0 : Int64))) (fun (z1 : Int64) => some (z1))
set_option maxRecDepth 100000 in
theorem cn_X11_moreOf {G : gG} {b : Nat} {V : gV} {a1 : Int32} {a2 : Int32} {a3 : Int32} {a4 : Int32} {σ : gS} : CN V G b 2 yX11_moreOf cX11_moreOf 7 (some .long) (kPL σ) [.int a1, .int a2, .int a3, .int a4] σ (pX11_moreOf a1 a2 a3 a4) := by
  refine cn_of (own := RX11) rfl rfl (Nat.le_of_ble_eq_true rfl) ?_
  show GF V G b (2, 0, 0) RX11 cX11_moreOf 7 (some .long) (kPL σ) 0 [(0, .int a1), (1, .int a2), (2, .int a3), (3, .int a4)] [] σ (pX11_moreOf a1 a2 a3 a4)
  unfold pX11_moreOf
  refine g_lconst (q := 1) (v := (0 : Int64)) dX11_moreOf_0 rfl rfl ?_
  refine g_lstore (lr := [(0, .int a1), (1, .int a2), (2, .int a3), (3, .int a4)]) (q := 3) dX11_moreOf_1 (by decide) rfl rfl ?_
  refine g_iload_n (q := 4) 4 dX11_moreOf_3 rfl rfl rfl ?_
  refine g_istore (lr := [(4, .long (0 : Int64)), (0, .int a1), (1, .int a2), (2, .int a3), (3, .int a4)]) (q := 6) dX11_moreOf_4 (by decide) rfl rfl ?_
  refine g_bind (S := Int64) (hd := 40) (lvf := fun z1 => [(4, .long z1)]) (stf := fun z1 => []) (σf := fun z1 => σ) ?_ (fun z1 => ?_)
  · refine g_sub (lr := [(6, .int a4), (4, .long (0 : Int64)), (0, .int a1), (1, .int a2), (2, .int a3)]) [0, 1, 2, 3, 4] rfl ?_
    refine g_loop (S := (Int32 × Int64)) (lvf := fun z2 => [(6, .int z2.1), (4, .long z2.2), (0, .int a1), (1, .int a2), (2, .int a3)]) (σf := fun z2 => σ) (fun z2 => ?_) (a4, (0 : Int64))
    refine g_iload (q := 8) 0 dX11_moreOf_6 rfl rfl ?_
    refine g_iload_n (q := 9) 4 dX11_moreOf_8 rfl rfl rfl ?_
    refine g_icmp_gt (t := 40) (q := 12) dX11_moreOf_9 (by decide) rfl ?_ ?_
    · refine g_sub (lr := [(4, .long z2.2)]) [1] rfl ?_
      exact (g_leave (g_there (z2.2 : Int64)))
    · refine g_lload (q := 14) 1 dX11_moreOf_12 rfl rfl ?_
      refine g_iload_n (q := 15) 4 dX11_moreOf_14 rfl rfl rfl ?_
      refine g_iload (q := 17) 0 dX11_moreOf_15 rfl rfl ?_
      refine g_callT (As := [.int a3, .int z2.1]) (st := [.long z2.2]) (cn_X11_picks) cwX11_383 rfl dX11_moreOf_17 rfl (Nat.le_of_ble_eq_true rfl) (by decide) (kk_PL (fun v3 => ?_))
      refine g_iload_n (q := 21) 2 dX11_moreOf_20 rfl rfl rfl ?_
      refine g_iload_n (q := 22) 4 dX11_moreOf_21 rfl rfl rfl ?_
      refine g_isub (q := 23) dX11_moreOf_22 rfl ?_
      refine g_iload_n (q := 24) 3 dX11_moreOf_23 rfl rfl rfl ?_
      refine g_iload (q := 26) 0 dX11_moreOf_24 rfl rfl ?_
      refine g_isub (q := 27) dX11_moreOf_26 rfl ?_
      refine g_callT (As := [.int (a1 - a3), .int (a2 - z2.1)]) (st := [.long v3, .long z2.2]) (cn_X11_picks) cwX11_383 rfl dX11_moreOf_27 rfl (Nat.le_of_ble_eq_true rfl) (by decide) (kk_PL (fun v5 => ?_))
      refine g_lmul (q := 31) dX11_moreOf_30 rfl ?_
      refine g_ladd (q := 32) dX11_moreOf_31 rfl ?_
      refine g_letl (fun x7 => ?_)
      refine g_lstore (lr := [(6, .int z2.1), (0, .int a1), (1, .int a2), (2, .int a3)]) (q := 34) dX11_moreOf_32 (by decide) rfl rfl ?_
      refine g_iinc (lr := [(4, .long x7), (0, .int a1), (1, .int a2), (2, .int a3)]) (q := 37) 1 dX11_moreOf_34 rfl kI_1 (by decide) rfl rfl (fun x8 => ?_)
      refine g_goto (t := 6) dX11_moreOf_37 (by decide) ?_
      exact (g_again ((x8, x7) : (Int32 × Int64)))
  · refine g_lload (q := 42) 0 dX11_moreOf_40 rfl rfl ?_
    exact (g_lretP dX11_moreOf_42)
noncomputable def pX11_moreIn (a1 : Int32) (a2 : Int32) (σ : gS) : Option (Int64) := bn1 (pX11_bits a1) (fun v1 => bn1 (pX11_bits a2) (fun v3 => bn1 (pX11_bits (a1 &&& a2)) (fun v5 => bn1 (pX11_moreOf (σ.1 0 51) v1 v3 v5) (fun v7 => some (v7)))))
set_option maxRecDepth 100000 in
theorem cn_X11_moreIn {G : gG} {b : Nat} {a1 : Int32} {a2 : Int32} {σ : gS} : CN vR G b 3 yX11_moreIn cX11_moreIn 3 (some .long) (kPL σ) [.ref (b + 0), .int a1, .int a2] σ (pX11_moreIn a1 a2 σ) := by
  refine cn_of (own := RX11) rfl rfl (Nat.le_of_ble_eq_true rfl) ?_
  show GF vR G b (3, 0, 0) RX11 cX11_moreIn 3 (some .long) (kPL σ) 0 [(0, .ref (b + 0)), (1, .int a1), (2, .int a2)] [] σ (pX11_moreIn a1 a2 σ)
  unfold pX11_moreIn
  refine g_aload_n (q := 1) 0 dX11_moreIn_0 rfl rfl rfl ?_
  refine g_getI (q := 4) fX11_people dX11_moreIn_1 ww1093 rfl ?_
  refine g_iload_n (q := 5) 1 dX11_moreIn_4 rfl rfl rfl ?_
  refine g_callT (As := [.int a1]) (st := [.int (σ.1 0 51)]) (cn_X11_bits) cwX11_406 rfl dX11_moreIn_5 rfl (Nat.le_of_ble_eq_true rfl) (by decide) (kk_PI (fun v1 => ?_))
  refine g_iload_n (q := 9) 2 dX11_moreIn_8 rfl rfl rfl ?_
  refine g_callT (As := [.int a2]) (st := [.int v1, .int (σ.1 0 51)]) (cn_X11_bits) cwX11_406 rfl dX11_moreIn_9 rfl (Nat.le_of_ble_eq_true rfl) (by decide) (kk_PI (fun v3 => ?_))
  refine g_iload_n (q := 13) 1 dX11_moreIn_12 rfl rfl rfl ?_
  refine g_iload_n (q := 14) 2 dX11_moreIn_13 rfl rfl rfl ?_
  refine g_iand (q := 15) dX11_moreIn_14 rfl ?_
  refine g_callT (As := [.int (a1 &&& a2)]) (st := [.int v3, .int v1, .int (σ.1 0 51)]) (cn_X11_bits) cwX11_406 rfl dX11_moreIn_15 rfl (Nat.le_of_ble_eq_true rfl) (by decide) (kk_PI (fun v5 => ?_))
  refine g_callT (As := [.int (σ.1 0 51), .int v1, .int v3, .int v5]) (st := []) (cn_X11_moreOf) cwX11_412 rfl dX11_moreIn_18 rfl (Nat.le_of_ble_eq_true rfl) (by decide) (kk_PL (fun v7 => ?_))
  exact (g_lretP dX11_moreIn_21)
noncomputable def pX11_allIn (a1 : Int32) (σ : gS) : Option (Int64) := bn1 (pX11_bits a1) (fun v1 => bn1 (pX11_picks (σ.1 0 51) v1) (fun v3 => some (v3)))
set_option maxRecDepth 100000 in
theorem cn_X11_allIn {G : gG} {b : Nat} {a1 : Int32} {σ : gS} : CN vR G b 2 yX11_allIn cX11_allIn 2 (some .long) (kPL σ) [.ref (b + 0), .int a1] σ (pX11_allIn a1 σ) := by
  refine cn_of (own := RX11) rfl rfl (Nat.le_of_ble_eq_true rfl) ?_
  show GF vR G b (2, 0, 0) RX11 cX11_allIn 2 (some .long) (kPL σ) 0 [(0, .ref (b + 0)), (1, .int a1)] [] σ (pX11_allIn a1 σ)
  unfold pX11_allIn
  refine g_aload_n (q := 1) 0 dX11_allIn_0 rfl rfl rfl ?_
  refine g_getI (q := 4) fX11_people dX11_allIn_1 ww1093 rfl ?_
  refine g_iload_n (q := 5) 1 dX11_allIn_4 rfl rfl rfl ?_
  refine g_callT (As := [.int a1]) (st := [.int (σ.1 0 51)]) (cn_X11_bits) cwX11_406 rfl dX11_allIn_5 rfl (Nat.le_of_ble_eq_true rfl) (by decide) (kk_PI (fun v1 => ?_))
  refine g_callT (As := [.int (σ.1 0 51), .int v1]) (st := []) (cn_X11_picks) cwX11_383 rfl dX11_allIn_8 rfl (Nat.le_of_ble_eq_true rfl) (by decide) (kk_PL (fun v3 => ?_))
  exact (g_lretP dX11_allIn_11)
noncomputable def pX11_chances (a1 : Int32) (a2 : Int32) (a3 : Int32) (σ : gS) : Option (Int64 × gS) := bn1 (pX11_isSign a1 σ) (fun v1 => if v1 = 0 then some ((-1 : Int64), σ) else bn1 (pX11_isSay a2 σ) (fun v3 => if v3 = 0 then some ((-1 : Int64), σ) else if a3 = 0 then bn2 (pX11_upSet a1 σ) (fun v5 s6 => bn1 (pX11_allIn v5 s6) (fun v7 => some (v7, s6))) else bn2 (pX11_upSet a1 σ) (fun v9 s10 => bn2 (pX11_trueSet a2 s10) (fun v11 s12 => bn1 (pX11_moreIn v9 v11 s12) (fun v13 => some (v13, s12))))))
set_option maxRecDepth 100000 in
theorem cn_X11_chances {G : gG} {b : Nat} {a1 : Int32} {a2 : Int32} {a3 : Int32} {σ : gS} : CN vR G b 6 yX11_chances cX11_chances 4 (some .long) kL [.ref (b + 0), .int a1, .int a2, .int a3] σ (pX11_chances a1 a2 a3 σ) := by
  refine cn_of (own := RX11) rfl rfl (Nat.le_of_ble_eq_true rfl) ?_
  show GF vR G b (6, 0, 0) RX11 cX11_chances 4 (some .long) kL 0 [(0, .ref (b + 0)), (1, .int a1), (2, .int a2), (3, .int a3)] [] σ (pX11_chances a1 a2 a3 σ)
  unfold pX11_chances
  refine g_aload_n (q := 1) 0 dX11_chances_0 rfl rfl rfl ?_
  refine g_iload_n (q := 2) 1 dX11_chances_1 rfl rfl rfl ?_
  refine g_callO (As := [.int a1]) (st := []) (cn_X11_isSign) shX11 rfl cwX11_400 rfl dX11_chances_2 rfl (Nat.le_of_ble_eq_true rfl) (by decide) (kk_PI (fun v1 => ?_))
  refine g_if_eq (t := 16) (q := 8) dX11_chances_5 (by decide) rfl ?_ ?_
  · refine g_ldc2 (q := 19) dX11_chances_16 ww1527 rfl ?_
    exact (g_lret dX11_chances_19)
  · refine g_aload_n (q := 9) 0 dX11_chances_8 rfl rfl rfl ?_
    refine g_iload_n (q := 10) 2 dX11_chances_9 rfl rfl rfl ?_
    refine g_callO (As := [.int a2]) (st := []) (cn_X11_isSay) shX11 rfl cwX11_343 rfl dX11_chances_10 rfl (Nat.le_of_ble_eq_true rfl) (by decide) (kk_PI (fun v3 => ?_))
    refine g_if_ne (t := 20) (q := 16) dX11_chances_13 (by decide) rfl ?_ ?_
    · refine g_ldc2 (q := 19) dX11_chances_16 ww1527 rfl ?_
      exact (g_lret dX11_chances_19)
    · refine g_iload_n (q := 21) 3 dX11_chances_20 rfl rfl rfl ?_
      refine g_if_eq (t := 41) (q := 24) dX11_chances_21 (by decide) rfl ?_ ?_
      · refine g_aload_n (q := 42) 0 dX11_chances_41 rfl rfl rfl ?_
        refine g_aload_n (q := 43) 0 dX11_chances_42 rfl rfl rfl ?_
        refine g_iload_n (q := 44) 1 dX11_chances_43 rfl rfl rfl ?_
        refine g_callO (As := [.int a1]) (st := [.ref (b + 0)]) (cn_X11_upSet) shX11 rfl cwX11_403 rfl dX11_chances_44 rfl (Nat.le_of_ble_eq_true rfl) (by decide) (kk_I (fun v5 s6 => ?_))
        refine g_callO (As := [.int v5]) (st := []) (cn_X11_allIn) shX11 rfl cwX11_418 rfl dX11_chances_47 rfl (Nat.le_of_ble_eq_true rfl) (by decide) (kk_PL (fun v7 => ?_))
        exact (g_lret dX11_chances_50)
      · refine g_aload_n (q := 25) 0 dX11_chances_24 rfl rfl rfl ?_
        refine g_aload_n (q := 26) 0 dX11_chances_25 rfl rfl rfl ?_
        refine g_iload_n (q := 27) 1 dX11_chances_26 rfl rfl rfl ?_
        refine g_callO (As := [.int a1]) (st := [.ref (b + 0)]) (cn_X11_upSet) shX11 rfl cwX11_403 rfl dX11_chances_27 rfl (Nat.le_of_ble_eq_true rfl) (by decide) (kk_I (fun v9 s10 => ?_))
        refine g_aload_n (q := 31) 0 dX11_chances_30 rfl rfl rfl ?_
        refine g_iload_n (q := 32) 2 dX11_chances_31 rfl rfl rfl ?_
        refine g_callO (As := [.int a2]) (st := [.int v9, .ref (b + 0)]) (cn_X11_trueSet) shX11 rfl cwX11_409 rfl dX11_chances_32 rfl (Nat.le_of_ble_eq_true rfl) (by decide) (kk_I (fun v11 s12 => ?_))
        refine g_callO (As := [.int v9, .int v11]) (st := []) (cn_X11_moreIn) shX11 rfl cwX11_415 rfl dX11_chances_35 rfl (Nat.le_of_ble_eq_true rfl) (by decide) (kk_PL (fun v13 => ?_))
        refine g_goto (t := 50) dX11_chances_38 (by decide) ?_
        exact (g_lret dX11_chances_50)
noncomputable def pX11_classOf (a1 : Int32) (a2 : Int32) (σ : gS) : Option (Int32) := if a2 = 0 then gx a1 20 (g0 (3 : Int32) (some ((σ.1 36 a1.toNatClampNeg) / (3 : Int32)))) else if a2 = (1 : Int32) then gx a1 20 (some (σ.1 37 a1.toNatClampNeg)) else gx a1 20 (some (σ.1 38 a1.toNatClampNeg))
set_option maxRecDepth 100000 in
theorem cn_X11_classOf {G : gG} {b : Nat} {a1 : Int32} {a2 : Int32} {σ : gS} : CN vR G b 1 yX11_classOf cX11_classOf 3 (some .int) (kPI σ) [.ref (b + 0), .int a1, .int a2] σ (pX11_classOf a1 a2 σ) := by
  refine cn_of (own := RX11) rfl rfl (Nat.le_of_ble_eq_true rfl) ?_
  show GF vR G b (1, 0, 0) RX11 cX11_classOf 3 (some .int) (kPI σ) 0 [(0, .ref (b + 0)), (1, .int a1), (2, .int a2)] [] σ (pX11_classOf a1 a2 σ)
  unfold pX11_classOf
  refine g_iload_n (q := 1) 2 dX11_classOf_0 rfl rfl rfl ?_
  refine g_if_ne (t := 15) (q := 4) dX11_classOf_1 (by decide) rfl ?_ ?_
  · refine g_aload_n (q := 5) 0 dX11_classOf_4 rfl rfl rfl ?_
    refine g_getA (q := 8) fX11_months dX11_classOf_5 ww1095 rfl ?_
    refine g_iload_n (q := 9) 1 dX11_classOf_8 rfl rfl rfl ?_
    refine g_iald (q := 10) (aX11_months) dX11_classOf_9 rfl ?_
    refine g_iconst (q := 11) dX11_classOf_10 kI_3 rfl ?_
    refine g_idiv (q := 12) dX11_classOf_11 rfl ?_
    refine g_goto (t := 35) dX11_classOf_12 (by decide) ?_
    exact (g_iretP dX11_classOf_35)
  · refine g_iload_n (q := 16) 2 dX11_classOf_15 rfl rfl rfl ?_
    refine g_iconst (q := 17) dX11_classOf_16 kI_1 rfl ?_
    refine g_icmp_ne (t := 29) (q := 20) dX11_classOf_17 (by decide) rfl ?_ ?_
    · refine g_aload_n (q := 21) 0 dX11_classOf_20 rfl rfl rfl ?_
      refine g_getA (q := 24) fX11_years dX11_classOf_21 ww1096 rfl ?_
      refine g_iload_n (q := 25) 1 dX11_classOf_24 rfl rfl rfl ?_
      refine g_iald (q := 26) (aX11_years) dX11_classOf_25 rfl ?_
      refine g_goto (t := 35) dX11_classOf_26 (by decide) ?_
      exact (g_iretP dX11_classOf_35)
    · refine g_aload_n (q := 30) 0 dX11_classOf_29 rfl rfl rfl ?_
      refine g_getA (q := 33) fX11_coats dX11_classOf_30 ww1097 rfl ?_
      refine g_iload_n (q := 34) 1 dX11_classOf_33 rfl rfl rfl ?_
      refine g_iald (q := 35) (aX11_coats) dX11_classOf_34 rfl ?_
      exact (g_iretP dX11_classOf_35)
