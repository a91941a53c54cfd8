noncomputable def pX11_choices (a1 : Int32) (a2 : Int32) (σ : gS) : Option (Int32) := bn1 (pX11_isKnown a1 σ) (fun v1 => if v1 = 0 then some ((-1 : Int32)) else bn1 (pX11_in a2 (0 : Int32) (3 : Int32)) (fun v3 => if v3 = 0 then some ((-1 : Int32)) else bn1 (lpP (fun (z6 : (Int32 × Int32)) => if a1 ≤ z6.1 then some (.inr z6.2) else bn1 (pX11_isFact z6.1 (0 : Int32) a1 σ) (fun v7 => if v7 = 0 then lt' (z6.1 + (1 : Int32)) (fun x9 => some (.inl (x9, z6.2))) else bn1 (if a2 = 0 then lt' (z6.2 + (1 : Int32)) (fun x11 => some x11) else if a2 = (1 : Int32) then gx z6.1 60 (if (σ.1 46 z6.1.toNatClampNeg) = 0 then some z6.2 else lt' (z6.2 + (1 : Int32)) (fun x12 => some x12)) else some z6.2) (fun (z10 : Int32) => if a2 = (2 : Int32) then gx z6.1 60 (if (σ.1 46 z6.1.toNatClampNeg) = 0 then if a2 = (3 : Int32) then gx z6.1 60 (if (σ.1 46 z6.1.toNatClampNeg) = 0 then gx z6.1 60 (lt' (z10 + (σ.1 45 z6.1.toNatClampNeg)) (fun x13 => lt' (z6.1 + (1 : Int32)) (fun x14 => some (.inl (x14, x13))))) else lt' (z6.1 + (1 : Int32)) (fun x15 => some (.inl (x15, z10)))) else lt' (z6.1 + (1 : Int32)) (fun x16 => some (.inl (x16, z10))) else gx z6.1 60 (lt' (z10 + (σ.1 45 z6.1.toNatClampNeg)) (fun x17 => lt' (z6.1 + (1 : Int32)) (fun x18 => some (.inl (x18, x17)))))) else if a2 = (3 : Int32) then gx z6.1 60 (if (σ.1 46 z6.1.toNatClampNeg) = 0 then gx z6.1 60 (lt' (z10 + (σ.1 45 z6.1.toNatClampNeg)) (fun x19 => lt' (z6.1 + (1 : Int32)) (fun x20 => some (.inl (x20, x19))))) else lt' (z6.1 + (1 : Int32)) (fun x21 => some (.inl (x21, z10)))) else lt' (z6.1 + (1 : Int32)) (fun x22 => some (.inl (x22, z10)))))) ((0 : Int32), (0 : Int32))) (fun (z5 : Int32) => some (z5))))
set_option maxRecDepth 100000 in
theorem cn_X11_choices {G : gG} {b : Nat} {a1 : Int32} {a2 : Int32} {σ : gS} : CN vR G b 3 yX11_choices cX11_choices 5 (some .int) (kPI σ) [.ref (b + 0), .int a1, .int a2] σ (pX11_choices a1 a2 σ) := by
  refine cn_of (own := RX11) rfl rfl (Nat.le_of_ble_eq_true rfl) ?_
  show GF vR G b (3, 0, 0) RX11 cX11_choices 5 (some .int) (kPI σ) 0 [(0, .ref (b + 0)), (1, .int a1), (2, .int a2)] [] σ (pX11_choices a1 a2 σ)
  unfold pX11_choices
  refine g_aload_n (q := 1) 0 dX11_choices_0 rfl rfl rfl ?_
  refine g_iload_n (q := 2) 1 dX11_choices_1 rfl rfl rfl ?_
  refine g_callO (As := [.int a1]) (st := []) (cn_X11_isKnown) shX11 rfl cwX11_432 rfl dX11_choices_2 rfl (Nat.le_of_ble_eq_true rfl) (by decide) (kk_PI (fun v1 => ?_))
  refine g_if_eq (t := 17) (q := 8) dX11_choices_5 (by decide) rfl ?_ ?_
  · refine g_iconst (q := 18) dX11_choices_17 kI_m1 rfl ?_
    exact (g_iretP dX11_choices_18)
  · refine g_iload_n (q := 9) 2 dX11_choices_8 rfl rfl rfl ?_
    refine g_iconst (q := 10) dX11_choices_9 kI_0 rfl ?_
    refine g_iconst (q := 11) dX11_choices_10 kI_3 rfl ?_
    refine g_callT (As := [.int a2, .int (0 : Int32), .int (3 : Int32)]) (st := []) (cn_X11_in) cwX11_313 rfl dX11_choices_11 rfl (Nat.le_of_ble_eq_true rfl) (by decide) (kk_PI (fun v3 => ?_))
    refine g_if_ne (t := 19) (q := 17) dX11_choices_14 (by decide) rfl ?_ ?_
    · refine g_iconst (q := 18) dX11_choices_17 kI_m1 rfl ?_
      exact (g_iretP dX11_choices_18)
    · refine g_iconst (q := 20) dX11_choices_19 kI_0 rfl ?_
      refine g_istore_n (lr := [(0, .ref (b + 0)), (1, .int a1), (2, .int a2)]) (q := 21) dX11_choices_20 rfl (by decide) rfl rfl ?_
      refine g_iconst (q := 22) dX11_choices_21 kI_0 rfl ?_
      refine g_istore (lr := [(3, .int (0 : Int32)), (0, .ref (b + 0)), (1, .int a1), (2, .int a2)]) (q := 24) dX11_choices_22 (by decide) rfl rfl ?_
      refine g_bind (S := Int32) (hd := 112) (lvf := fun z5 => [(3, .int z5)]) (stf := fun z5 => []) (σf := fun z5 => σ) ?_ (fun z5 => ?_)
      · refine g_loop (S := (Int32 × Int32)) (lvf := fun z6 => [(4, .int z6.1), (3, .int z6.2), (0, .ref (b + 0)), (1, .int a1), (2, .int a2)]) (σf := fun z6 => σ) (fun z6 => ?_) ((0 : Int32), (0 : Int32))
        refine g_iload (q := 26) 0 dX11_choices_24 rfl rfl ?_
        refine g_iload_n (q := 27) 3 dX11_choices_26 rfl rfl rfl ?_
        refine g_icmp_ge (t := 112) (q := 30) dX11_choices_27 (by decide) rfl ?_ ?_
        · refine g_sub (lr := [(3, .int z6.2)]) [1] rfl ?_
          exact (g_leave (g_there (z6.2 : Int32)))
        · refine g_aload_n (q := 31) 2 dX11_choices_30 rfl rfl rfl ?_
          refine g_iload (q := 33) 0 dX11_choices_31 rfl rfl ?_
          refine g_iconst (q := 34) dX11_choices_33 kI_0 rfl ?_
          refine g_iload_n (q := 35) 3 dX11_choices_34 rfl rfl rfl ?_
          refine g_callO (As := [.int z6.1, .int (0 : Int32), .int a1]) (st := []) (cn_X11_isFact) shX11 rfl cwX11_435 rfl dX11_choices_35 rfl (Nat.le_of_ble_eq_true rfl) (by decide) (kk_PI (fun v7 => ?_))
          refine g_if_ne (t := 44) (q := 41) dX11_choices_38 (by decide) rfl ?_ ?_
          · refine g_goto (t := 106) dX11_choices_41 (by decide) ?_
            refine g_iinc (lr := [(3, .int z6.2), (0, .ref (b + 0)), (1, .int a1), (2, .int a2)]) (q := 109) 0 dX11_choices_106 rfl kI_1 (by decide) rfl rfl (fun x9 => ?_)
            refine g_goto (t := 24) dX11_choices_109 (by decide) ?_
            exact (g_again ((x9, z6.2) : (Int32 × Int32)))
          · refine g_iload_n (q := 45) 4 dX11_choices_44 rfl rfl rfl ?_
            refine g_bind (S := Int32) (hd := 66) (lvf := fun z10 => [(3, .int z10), (4, .int z6.1), (0, .ref (b + 0)), (1, .int a1), (2, .int a2)]) (stf := fun z10 => []) (σf := fun z10 => σ) ?_ (fun z10 => ?_)
            · refine g_if_eq (t := 63) (q := 48) dX11_choices_45 (by decide) rfl ?_ ?_
              · refine g_iinc (lr := [(4, .int z6.1), (0, .ref (b + 0)), (1, .int a1), (2, .int a2)]) (q := 66) 1 dX11_choices_63 rfl kI_1 (by decide) rfl rfl (fun x11 => ?_)
                exact (g_there (x11 : Int32))
              · refine g_iload_n (q := 49) 4 dX11_choices_48 rfl rfl rfl ?_
                refine g_iconst (q := 50) dX11_choices_49 kI_1 rfl ?_
                refine g_icmp_ne (t := 66) (q := 53) dX11_choices_50 (by decide) rfl ?_ ?_
                · refine g_aload_n (q := 54) 2 dX11_choices_53 rfl rfl rfl ?_
                  refine g_getA (q := 57) fX11_isRight dX11_choices_54 ww1106 rfl ?_
                  refine g_iload (q := 59) 0 dX11_choices_57 rfl rfl ?_
                  refine g_zald (q := 60) (aX11_isRight) dX11_choices_59 rfl ?_
                  refine g_if_eq (t := 66) (q := 63) dX11_choices_60 (by decide) rfl ?_ ?_
                  · refine g_sub (lr := [(3, .int z6.2), (4, .int z6.1), (0, .ref (b + 0)), (1, .int a1), (2, .int a2)]) [1, 0, 2, 3, 4] rfl ?_
                    exact (g_there (z6.2 : Int32))
                  · refine g_iinc (lr := [(4, .int z6.1), (0, .ref (b + 0)), (1, .int a1), (2, .int a2)]) (q := 66) 1 dX11_choices_63 rfl kI_1 (by decide) rfl rfl (fun x12 => ?_)
                    exact (g_there (x12 : Int32))
                · refine g_sub (lr := [(3, .int z6.2), (4, .int z6.1), (0, .ref (b + 0)), (1, .int a1), (2, .int a2)]) [1, 0, 2, 3, 4] rfl ?_
                  exact (g_there (z6.2 : Int32))
            · refine g_iload_n (q := 67) 4 dX11_choices_66 rfl rfl rfl ?_
              refine g_iconst (q := 68) dX11_choices_67 kI_2 rfl ?_
              refine g_icmp_ne (t := 81) (q := 71) dX11_choices_68 (by decide) rfl ?_ ?_
              · refine g_aload_n (q := 72) 2 dX11_choices_71 rfl rfl rfl ?_
                refine g_getA (q := 75) fX11_isRight dX11_choices_72 ww1106 rfl ?_
                refine g_iload (q := 77) 1 dX11_choices_75 rfl rfl ?_
                refine g_zald (q := 78) (aX11_isRight) dX11_choices_77 rfl ?_
                refine g_if_ne (t := 96) (q := 81) dX11_choices_78 (by decide) rfl ?_ ?_
                · refine g_iload_n (q := 82) 4 dX11_choices_81 rfl rfl rfl ?_
                  refine g_iconst (q := 83) dX11_choices_82 kI_3 rfl ?_
                  refine g_icmp_ne (t := 106) (q := 86) dX11_choices_83 (by decide) rfl ?_ ?_
                  · refine g_aload_n (q := 87) 2 dX11_choices_86 rfl rfl rfl ?_
                    refine g_getA (q := 90) fX11_isRight dX11_choices_87 ww1106 rfl ?_
                    refine g_iload (q := 92) 1 dX11_choices_90 rfl rfl ?_
                    refine g_zald (q := 93) (aX11_isRight) dX11_choices_92 rfl ?_
                    refine g_if_ne (t := 106) (q := 96) dX11_choices_93 (by decide) rfl ?_ ?_
                    · refine g_iload_n (q := 97) 0 dX11_choices_96 rfl rfl rfl ?_
                      refine g_aload_n (q := 98) 2 dX11_choices_97 rfl rfl rfl ?_
                      refine g_getA (q := 101) fX11_factB dX11_choices_98 ww1105 rfl ?_
                      refine g_iload (q := 103) 1 dX11_choices_101 rfl rfl ?_
                      refine g_iald (q := 104) (aX11_factB) dX11_choices_103 rfl ?_
                      refine g_iadd (q := 105) dX11_choices_104 rfl ?_
                      refine g_leti (fun x13 => ?_)
                      refine g_istore_n (lr := [(4, .int z6.1), (0, .ref (b + 0)), (1, .int a1), (2, .int a2)]) (q := 106) dX11_choices_105 rfl (by decide) rfl rfl ?_
                      refine g_iinc (lr := [(3, .int x13), (0, .ref (b + 0)), (1, .int a1), (2, .int a2)]) (q := 109) 1 dX11_choices_106 rfl kI_1 (by decide) rfl rfl (fun x14 => ?_)
                      refine g_goto (t := 24) dX11_choices_109 (by decide) ?_
                      exact (g_again ((x14, x13) : (Int32 × Int32)))
                    · refine g_iinc (lr := [(3, .int z10), (0, .ref (b + 0)), (1, .int a1), (2, .int a2)]) (q := 109) 1 dX11_choices_106 rfl kI_1 (by decide) rfl rfl (fun x15 => ?_)
                      refine g_goto (t := 24) dX11_choices_109 (by decide) ?_
                      exact (g_again ((x15, z10) : (Int32 × Int32)))
                  · refine g_iinc (lr := [(3, .int z10), (0, .ref (b + 0)), (1, .int a1), (2, .int a2)]) (q := 109) 1 dX11_choices_106 rfl kI_1 (by decide) rfl rfl (fun x16 => ?_)
                    refine g_goto (t := 24) dX11_choices_109 (by decide) ?_
                    exact (g_again ((x16, z10) : (Int32 × Int32)))
                · refine g_iload_n (q := 97) 0 dX11_choices_96 rfl rfl rfl ?_
                  refine g_aload_n (q := 98) 2 dX11_choices_97 rfl rfl rfl ?_
                  refine g_getA (q := 101) fX11_factB dX11_choices_98 ww1105 rfl ?_
                  refine g_iload (q := 103) 1 dX11_choices_101 rfl rfl ?_
                  refine g_iald (q := 104) (aX11_factB) dX11_choices_103 rfl ?_
                  refine g_iadd (q := 105) dX11_choices_104 rfl ?_
                  refine g_leti (fun x17 => ?_)
                  refine g_istore_n (lr := [(4, .int z6.1), (0, .ref (b + 0)), (1, .int a1), (2, .int a2)]) (q := 106) dX11_choices_105 rfl (by decide) rfl rfl ?_
                  refine g_iinc (lr := [(3, .int x17), (0, .ref (b + 0)), (1, .int a1), (2, .int a2)]) (q := 109) 1 dX11_choices_106 rfl kI_1 (by decide) rfl rfl (fun x18 => ?_)
                  refine g_goto (t := 24) dX11_choices_109 (by decide) ?_
                  exact (g_again ((x18, x17) : (Int32 × Int32)))
              · refine g_iload_n (q := 82) 4 dX11_choices_81 rfl rfl rfl ?_
                refine g_iconst (q := 83) dX11_choices_82 kI_3 rfl ?_
                refine g_icmp_ne (t := 106) (q := 86) dX11_choices_83 (by decide) rfl ?_ ?_
                · refine g_aload_n (q := 87) 2 dX11_choices_86 rfl rfl rfl ?_
                  refine g_getA (q := 90) fX11_isRight dX11_choices_87 ww1106 rfl ?_
                  refine g_iload (q := 92) 1 dX11_choices_90 rfl rfl ?_
                  refine g_zald (q := 93) (aX11_isRight) dX11_choices_92 rfl ?_
                  refine g_if_ne (t := 106) (q := 96) dX11_choices_93 (by decide) rfl ?_ ?_
                  · refine g_iload_n (q := 97) 0 dX11_choices_96 rfl rfl rfl ?_
                    refine g_aload_n (q := 98) 2 dX11_choices_97 rfl rfl rfl ?_
                    refine g_getA (q := 101) fX11_factB dX11_choices_98 ww1105 rfl ?_
                    refine g_iload (q := 103) 1 dX11_choices_101 rfl rfl ?_
                    refine g_iald (q := 104) (aX11_factB) dX11_choices_103 rfl ?_
                    refine g_iadd (q := 105) dX11_choices_104 rfl ?_
                    refine g_leti (fun x19 => ?_)
                    refine g_istore_n (lr := [(4, .int z6.1), (0, .ref (b + 0)), (1, .int a1), (2, .int a2)]) (q := 106) dX11_choices_105 rfl (by decide) rfl rfl ?_
                    refine g_iinc (lr := [(3, .int x19), (0, .ref (b + 0)), (1, .int a1), (2, .int a2)]) (q := 109) 1 dX11_choices_106 rfl kI_1 (by decide) rfl rfl (fun x20 => ?_)
                    refine g_goto (t := 24) dX11_choices_109 (by decide) ?_
                    exact (g_again ((x20, x19) : (Int32 × Int32)))
                  · refine g_iinc (lr := [(3, .int z10), (0, .ref (b + 0)), (1, .int a1), (2, .int a2)]) (q := 109) 1 dX11_choices_106 rfl kI_1 (by decide) rfl rfl (fun x21 => ?_)
                    refine g_goto (t := 24) dX11_choices_109 (by decide) ?_
                    exact (g_again ((x21, z10) : (Int32 × Int32)))
                · refine g_iinc (lr := [(3, .int z10), (0, .ref (b + 0)), (1, .int a1), (2, .int a2)]) (q := 109) 1 dX11_choices_106 rfl kI_1 (by decide) rfl rfl (fun x22 => ?_)
                  refine g_goto (t := 24) dX11_choices_109 (by decide) ?_
                  exact (g_again ((x22, z10) : (Int32 × Int32)))
      · refine g_iload_n (q := 113) 0 dX11_choices_112 rfl rfl rfl ?_
        exact (g_iretP dX11_choices_113)
noncomputable def pX11_sure (a1 : Int32) (a2 : Int32) (a3 : Int32) (σ : gS) : Option (Int32) := bn1 (pX11_isKnown a1 σ) (fun v1 => if v1 = 0 then some ((-1 : Int32)) else bn1 (pX11_in a2 (1 : Int32) (5 : Int32)) (fun v3 => if v3 = 0 then some ((-1 : Int32)) else bn1 (pX11_in a3 (0 : Int32) (1 : Int32)) (fun v5 => if v5 = 0 then some ((-1 : Int32)) else bn1 (lpP (fun (z8 : (Int32 × Int32)) => if a1 ≤ z8.1 then some (.inr z8.2) else bn1 (pX11_isFact z8.1 (0 : Int32) a1 σ) (fun v9 => if v9 = 0 then lt' (z8.1 + (1 : Int32)) (fun x11 => some (.inl (x11, z8.2))) else gx z8.1 60 (if (σ.1 45 z8.1.toNatClampNeg) = a2 then if a3 = 0 then lt' (z8.2 + (1 : Int32)) (fun x12 => lt' (z8.1 + (1 : Int32)) (fun x13 => some (.inl (x13, x12)))) else gx z8.1 60 (if (σ.1 46 z8.1.toNatClampNeg) = 0 then lt' (z8.1 + (1 : Int32)) (fun x14 => some (.inl (x14, z8.2))) else lt' (z8.2 + (1 : Int32)) (fun x15 => lt' (z8.1 + (1 : Int32)) (fun x16 => some (.inl (x16, x15))))) else lt' (z8.1 + (1 : Int32)) (fun x17 => some (.inl (x17, z8.2)))))) ((0 : Int32), (0 : Int32))) (fun (z7 : Int32) => some (z7)))))
set_option maxRecDepth 100000 in
theorem cn_X11_sure {G : gG} {b : Nat} {a1 : Int32} {a2 : Int32} {a3 : Int32} {σ : gS} : CN vR G b 3 yX11_sure cX11_sure 6 (some .int) (kPI σ) [.ref (b + 0), .int a1, .int a2, .int a3] σ (pX11_sure a1 a2 a3 σ) := by
  refine cn_of (own := RX11) rfl rfl (Nat.le_of_ble_eq_true rfl) ?_
  show GF vR G b (3, 0, 0) RX11 cX11_sure 6 (some .int) (kPI σ) 0 [(0, .ref (b + 0)), (1, .int a1), (2, .int a2), (3, .int a3)] [] σ (pX11_sure a1 a2 a3 σ)
  unfold pX11_sure
  refine g_aload_n (q := 1) 0 dX11_sure_0 rfl rfl rfl ?_
  refine g_iload_n (q := 2) 1 dX11_sure_1 rfl rfl rfl ?_
  refine g_callO (As := [.int a1]) (st := []) (cn_X11_isKnown) shX11 rfl cwX11_432 rfl dX11_sure_2 rfl (Nat.le_of_ble_eq_true rfl) (by decide) (kk_PI (fun v1 => ?_))
  refine g_if_eq (t := 26) (q := 8) dX11_sure_5 (by decide) rfl ?_ ?_
  · refine g_iconst (q := 27) dX11_sure_26 kI_m1 rfl ?_
    exact (g_iretP dX11_sure_27)
  · refine g_iload_n (q := 9) 2 dX11_sure_8 rfl rfl rfl ?_
    refine g_iconst (q := 10) dX11_sure_9 kI_1 rfl ?_
    refine g_iconst (q := 11) dX11_sure_10 kI_5 rfl ?_
    refine g_callT (As := [.int a2, .int (1 : Int32), .int (5 : Int32)]) (st := []) (cn_X11_in) cwX11_313 rfl dX11_sure_11 rfl (Nat.le_of_ble_eq_true rfl) (by decide) (kk_PI (fun v3 => ?_))
    refine g_if_eq (t := 26) (q := 17) dX11_sure_14 (by decide) rfl ?_ ?_
    · refine g_iconst (q := 27) dX11_sure_26 kI_m1 rfl ?_
      exact (g_iretP dX11_sure_27)
    · refine g_iload_n (q := 18) 3 dX11_sure_17 rfl rfl rfl ?_
      refine g_iconst (q := 19) dX11_sure_18 kI_0 rfl ?_
      refine g_iconst (q := 20) dX11_sure_19 kI_1 rfl ?_
      refine g_callT (As := [.int a3, .int (0 : Int32), .int (1 : Int32)]) (st := []) (cn_X11_in) cwX11_313 rfl dX11_sure_20 rfl (Nat.le_of_ble_eq_true rfl) (by decide) (kk_PI (fun v5 => ?_))
      refine g_if_ne (t := 28) (q := 26) dX11_sure_23 (by decide) rfl ?_ ?_
      · refine g_iconst (q := 27) dX11_sure_26 kI_m1 rfl ?_
        exact (g_iretP dX11_sure_27)
      · refine g_iconst (q := 29) dX11_sure_28 kI_0 rfl ?_
        refine g_istore (lr := [(0, .ref (b + 0)), (1, .int a1), (2, .int a2), (3, .int a3)]) (q := 31) dX11_sure_29 (by decide) rfl rfl ?_
        refine g_iconst (q := 32) dX11_sure_31 kI_0 rfl ?_
        refine g_istore (lr := [(4, .int (0 : Int32)), (0, .ref (b + 0)), (1, .int a1), (2, .int a2), (3, .int a3)]) (q := 34) dX11_sure_32 (by decide) rfl rfl ?_
        refine g_bind (S := Int32) (hd := 85) (lvf := fun z7 => [(4, .int z7)]) (stf := fun z7 => []) (σf := fun z7 => σ) ?_ (fun z7 => ?_)
        · refine g_loop (S := (Int32 × Int32)) (lvf := fun z8 => [(5, .int z8.1), (4, .int z8.2), (0, .ref (b + 0)), (1, .int a1), (2, .int a2), (3, .int a3)]) (σf := fun z8 => σ) (fun z8 => ?_) ((0 : Int32), (0 : Int32))
          refine g_iload (q := 36) 0 dX11_sure_34 rfl rfl ?_
          refine g_iload_n (q := 37) 3 dX11_sure_36 rfl rfl rfl ?_
          refine g_icmp_ge (t := 85) (q := 40) dX11_sure_37 (by decide) rfl ?_ ?_
          · refine g_sub (lr := [(4, .int z8.2)]) [1] rfl ?_
            exact (g_leave (g_there (z8.2 : Int32)))
          · refine g_aload_n (q := 41) 2 dX11_sure_40 rfl rfl rfl ?_
            refine g_iload (q := 43) 0 dX11_sure_41 rfl rfl ?_
            refine g_iconst (q := 44) dX11_sure_43 kI_0 rfl ?_
            refine g_iload_n (q := 45) 3 dX11_sure_44 rfl rfl rfl ?_
            refine g_callO (As := [.int z8.1, .int (0 : Int32), .int a1]) (st := []) (cn_X11_isFact) shX11 rfl cwX11_435 rfl dX11_sure_45 rfl (Nat.le_of_ble_eq_true rfl) (by decide) (kk_PI (fun v9 => ?_))
            refine g_if_eq (t := 79) (q := 51) dX11_sure_48 (by decide) rfl ?_ ?_
            · refine g_iinc (lr := [(4, .int z8.2), (0, .ref (b + 0)), (1, .int a1), (2, .int a2), (3, .int a3)]) (q := 82) 0 dX11_sure_79 rfl kI_1 (by decide) rfl rfl (fun x11 => ?_)
              refine g_goto (t := 34) dX11_sure_82 (by decide) ?_
              exact (g_again ((x11, z8.2) : (Int32 × Int32)))
            · refine g_aload_n (q := 52) 2 dX11_sure_51 rfl rfl rfl ?_
              refine g_getA (q := 55) fX11_factB dX11_sure_52 ww1105 rfl ?_
              refine g_iload (q := 57) 0 dX11_sure_55 rfl rfl ?_
              refine g_iald (q := 58) (aX11_factB) dX11_sure_57 rfl ?_
              refine g_iload_n (q := 59) 4 dX11_sure_58 rfl rfl rfl ?_
              refine g_icmp_ne (t := 79) (q := 62) dX11_sure_59 (by decide) rfl ?_ ?_
              · refine g_iload_n (q := 63) 5 dX11_sure_62 rfl rfl rfl ?_
                refine g_if_eq (t := 76) (q := 66) dX11_sure_63 (by decide) rfl ?_ ?_
                · refine g_iinc (lr := [(5, .int z8.1), (0, .ref (b + 0)), (1, .int a1), (2, .int a2), (3, .int a3)]) (q := 79) 1 dX11_sure_76 rfl kI_1 (by decide) rfl rfl (fun x12 => ?_)
                  refine g_iinc (lr := [(4, .int x12), (0, .ref (b + 0)), (1, .int a1), (2, .int a2), (3, .int a3)]) (q := 82) 1 dX11_sure_79 rfl kI_1 (by decide) rfl rfl (fun x13 => ?_)
                  refine g_goto (t := 34) dX11_sure_82 (by decide) ?_
                  exact (g_again ((x13, x12) : (Int32 × Int32)))
                · refine g_aload_n (q := 67) 2 dX11_sure_66 rfl rfl rfl ?_
                  refine g_getA (q := 70) fX11_isRight dX11_sure_67 ww1106 rfl ?_
                  refine g_iload (q := 72) 0 dX11_sure_70 rfl rfl ?_
                  refine g_zald (q := 73) (aX11_isRight) dX11_sure_72 rfl ?_
                  refine g_if_eq (t := 79) (q := 76) dX11_sure_73 (by decide) rfl ?_ ?_
                  · refine g_iinc (lr := [(4, .int z8.2), (0, .ref (b + 0)), (1, .int a1), (2, .int a2), (3, .int a3)]) (q := 82) 0 dX11_sure_79 rfl kI_1 (by decide) rfl rfl (fun x14 => ?_)
                    refine g_goto (t := 34) dX11_sure_82 (by decide) ?_
                    exact (g_again ((x14, z8.2) : (Int32 × Int32)))
                  · refine g_iinc (lr := [(5, .int z8.1), (0, .ref (b + 0)), (1, .int a1), (2, .int a2), (3, .int a3)]) (q := 79) 1 dX11_sure_76 rfl kI_1 (by decide) rfl rfl (fun x15 => ?_)
                    refine g_iinc (lr := [(4, .int x15), (0, .ref (b + 0)), (1, .int a1), (2, .int a2), (3, .int a3)]) (q := 82) 1 dX11_sure_79 rfl kI_1 (by decide) rfl rfl (fun x16 => ?_)
                    refine g_goto (t := 34) dX11_sure_82 (by decide) ?_
                    exact (g_again ((x16, x15) : (Int32 × Int32)))
              · refine g_iinc (lr := [(4, .int z8.2), (0, .ref (b + 0)), (1, .int a1), (2, .int a2), (3, .int a3)]) (q := 82) 0 dX11_sure_79 rfl kI_1 (by decide) rfl rfl (fun x17 => ?_)
                refine g_goto (t := 34) dX11_sure_82 (by decide) ?_
                exact (g_again ((x17, z8.2) : (Int32 × Int32)))
        · refine g_iload (q := 87) 0 dX11_sure_85 rfl rfl ?_
          exact (g_iretP dX11_sure_87)
noncomputable def pX11_surer (a1 : Int32) (a2 : Int32) (σ : gS) : Option (Int32) := bn1 (pX11_isKnown a1 σ) (fun v1 => if v1 = 0 then some ((-1 : Int32)) else bn1 (pX11_in a2 (0 : Int32) (2 : Int32)) (fun v3 => if v3 = 0 then some ((-1 : Int32)) else bn1 (lpP (fun (z6 : (Int32 × Int32)) => if a1 ≤ z6.1 then some (.inr z6.2) else bn1 (pX11_isFact z6.1 (0 : Int32) a1 σ) (fun v7 => if v7 = 0 then lt' (z6.1 + (1 : Int32)) (fun x9 => some (.inl (x9, z6.2))) else gx z6.1 60 (if (σ.1 46 z6.1.toNatClampNeg) = 0 then lt' (z6.1 + (1 : Int32)) (fun x10 => some (.inl (x10, z6.2))) else bn1 (lpP (fun (z12 : (Int32 × Int32)) => if a1 ≤ z12.1 then some (.inr z12.2) else bn1 (pX11_isFact z12.1 (0 : Int32) a1 σ) (fun v13 => if v13 = 0 then lt' (z12.1 + (1 : Int32)) (fun x15 => some (.inl (x15, z12.2))) else gx z12.1 60 (if (σ.1 46 z12.1.toNatClampNeg) = 0 then gx z6.1 60 (gx z12.1 60 (bn1 (if (σ.1 45 z6.1.toNatClampNeg) ≤ (σ.1 45 z12.1.toNatClampNeg) then gx z6.1 60 (gx z12.1 60 (if (σ.1 45 z6.1.toNatClampNeg) = (σ.1 45 z12.1.toNatClampNeg) then some (1 : Int32) else some (2 : Int32))) else some (0 : Int32)) (fun (z16 : Int32) => if z16 = a2 then lt' (z12.2 + (1 : Int32)) (fun x17 => lt' (z12.1 + (1 : Int32)) (fun x18 => some (.inl (x18, x17)))) else lt' (z12.1 + (1 : Int32)) (fun x19 => some (.inl (x19, z12.2)))))) else lt' (z12.1 + (1 : Int32)) (fun x20 => some (.inl (x20, z12.2)))))) ((0 : Int32), z6.2)) (fun (z11 : Int32) => lt' (z6.1 + (1 : Int32)) (fun x21 => some (.inl (x21, z11))))))) ((0 : Int32), (0 : Int32))) (fun (z5 : Int32) => some (z5))))
set_option maxRecDepth 100000 in
theorem cn_X11_surer {G : gG} {b : Nat} {a1 : Int32} {a2 : Int32} {σ : gS} : CN vR G b 3 yX11_surer cX11_surer 7 (some .int) (kPI σ) [.ref (b + 0), .int a1, .int a2] σ (pX11_surer a1 a2 σ) := by
  refine cn_of (own := RX11) rfl rfl (Nat.le_of_ble_eq_true rfl) ?_
  show GF vR G b (3, 0, 0) RX11 cX11_surer 7 (some .int) (kPI σ) 0 [(0, .ref (b + 0)), (1, .int a1), (2, .int a2)] [] σ (pX11_surer a1 a2 σ)
  unfold pX11_surer
  refine g_aload_n (q := 1) 0 dX11_surer_0 rfl rfl rfl ?_
  refine g_iload_n (q := 2) 1 dX11_surer_1 rfl rfl rfl ?_
  refine g_callO (As := [.int a1]) (st := []) (cn_X11_isKnown) shX11 rfl cwX11_432 rfl dX11_surer_2 rfl (Nat.le_of_ble_eq_true rfl) (by decide) (kk_PI (fun v1 => ?_))
  refine g_if_eq (t := 17) (q := 8) dX11_surer_5 (by decide) rfl ?_ ?_
  · refine g_iconst (q := 18) dX11_surer_17 kI_m1 rfl ?_
    exact (g_iretP dX11_surer_18)
  · refine g_iload_n (q := 9) 2 dX11_surer_8 rfl rfl rfl ?_
    refine g_iconst (q := 10) dX11_surer_9 kI_0 rfl ?_
    refine g_iconst (q := 11) dX11_surer_10 kI_2 rfl ?_
    refine g_callT (As := [.int a2, .int (0 : Int32), .int (2 : Int32)]) (st := []) (cn_X11_in) cwX11_313 rfl dX11_surer_11 rfl (Nat.le_of_ble_eq_true rfl) (by decide) (kk_PI (fun v3 => ?_))
    refine g_if_ne (t := 19) (q := 17) dX11_surer_14 (by decide) rfl ?_ ?_
    · refine g_iconst (q := 18) dX11_surer_17 kI_m1 rfl ?_
      exact (g_iretP dX11_surer_18)
    · refine g_iconst (q := 20) dX11_surer_19 kI_0 rfl ?_
      refine g_istore_n (lr := [(0, .ref (b + 0)), (1, .int a1), (2, .int a2)]) (q := 21) dX11_surer_20 rfl (by decide) rfl rfl ?_
      refine g_iconst (q := 22) dX11_surer_21 kI_0 rfl ?_
      refine g_istore (lr := [(3, .int (0 : Int32)), (0, .ref (b + 0)), (1, .int a1), (2, .int a2)]) (q := 24) dX11_surer_22 (by decide) rfl rfl ?_
      refine g_bind (S := Int32) (hd := 153) (lvf := fun z5 => [(3, .int z5)]) (stf := fun z5 => []) (σf := fun z5 => σ) ?_ (fun z5 => ?_)
      · refine g_loop (S := (Int32 × Int32)) (lvf := fun z6 => [(4, .int z6.1), (3, .int z6.2), (0, .ref (b + 0)), (1, .int a1), (2, .int a2)]) (σf := fun z6 => σ) (fun z6 => ?_) ((0 : Int32), (0 : Int32))
        refine g_iload (q := 26) 0 dX11_surer_24 rfl rfl ?_
        refine g_iload_n (q := 27) 3 dX11_surer_26 rfl rfl rfl ?_
        refine g_icmp_ge (t := 153) (q := 30) dX11_surer_27 (by decide) rfl ?_ ?_
        · refine g_sub (lr := [(3, .int z6.2)]) [1] rfl ?_
          exact (g_leave (g_there (z6.2 : Int32)))
        · refine g_aload_n (q := 31) 2 dX11_surer_30 rfl rfl rfl ?_
          refine g_iload (q := 33) 0 dX11_surer_31 rfl rfl ?_
          refine g_iconst (q := 34) dX11_surer_33 kI_0 rfl ?_
          refine g_iload_n (q := 35) 3 dX11_surer_34 rfl rfl rfl ?_
          refine g_callO (As := [.int z6.1, .int (0 : Int32), .int a1]) (st := []) (cn_X11_isFact) shX11 rfl cwX11_435 rfl dX11_surer_35 rfl (Nat.le_of_ble_eq_true rfl) (by decide) (kk_PI (fun v7 => ?_))
          refine g_if_eq (t := 147) (q := 41) dX11_surer_38 (by decide) rfl ?_ ?_
          · refine g_iinc (lr := [(3, .int z6.2), (0, .ref (b + 0)), (1, .int a1), (2, .int a2)]) (q := 150) 0 dX11_surer_147 rfl kI_1 (by decide) rfl rfl (fun x9 => ?_)
            refine g_goto (t := 24) dX11_surer_150 (by decide) ?_
            exact (g_again ((x9, z6.2) : (Int32 × Int32)))
          · refine g_aload_n (q := 42) 2 dX11_surer_41 rfl rfl rfl ?_
            refine g_getA (q := 45) fX11_isRight dX11_surer_42 ww1106 rfl ?_
            refine g_iload (q := 47) 0 dX11_surer_45 rfl rfl ?_
            refine g_zald (q := 48) (aX11_isRight) dX11_surer_47 rfl ?_
            refine g_if_ne (t := 54) (q := 51) dX11_surer_48 (by decide) rfl ?_ ?_
            · refine g_goto (t := 147) dX11_surer_51 (by decide) ?_
              refine g_iinc (lr := [(3, .int z6.2), (0, .ref (b + 0)), (1, .int a1), (2, .int a2)]) (q := 150) 0 dX11_surer_147 rfl kI_1 (by decide) rfl rfl (fun x10 => ?_)
              refine g_goto (t := 24) dX11_surer_150 (by decide) ?_
              exact (g_again ((x10, z6.2) : (Int32 × Int32)))
            · refine g_iconst (q := 55) dX11_surer_54 kI_0 rfl ?_
              refine g_istore (lr := [(4, .int z6.1), (3, .int z6.2), (0, .ref (b + 0)), (1, .int a1), (2, .int a2)]) (q := 57) dX11_surer_55 (by decide) rfl rfl ?_
              refine g_bind (S := Int32) (hd := 147) (lvf := fun z11 => [(3, .int z11), (4, .int z6.1), (0, .ref (b + 0)), (1, .int a1), (2, .int a2)]) (stf := fun z11 => []) (σf := fun z11 => σ) ?_ (fun z11 => ?_)
              · refine g_sub (lr := [(5, .int (0 : Int32)), (3, .int z6.2), (4, .int z6.1), (0, .ref (b + 0)), (1, .int a1), (2, .int a2)]) [0, 2, 1, 3, 4, 5] rfl ?_
                refine g_loop (S := (Int32 × Int32)) (lvf := fun z12 => [(5, .int z12.1), (3, .int z12.2), (4, .int z6.1), (0, .ref (b + 0)), (1, .int a1), (2, .int a2)]) (σf := fun z12 => σ) (fun z12 => ?_) ((0 : Int32), z6.2)
                refine g_iload (q := 59) 0 dX11_surer_57 rfl rfl ?_
                refine g_iload_n (q := 60) 4 dX11_surer_59 rfl rfl rfl ?_
                refine g_icmp_ge (t := 147) (q := 63) dX11_surer_60 (by decide) rfl ?_ ?_
                · refine g_sub (lr := [(3, .int z12.2), (4, .int z6.1), (0, .ref (b + 0)), (1, .int a1), (2, .int a2)]) [1, 2, 3, 4, 5] rfl ?_
                  exact (g_leave (g_there (z12.2 : Int32)))
                · refine g_aload_n (q := 64) 3 dX11_surer_63 rfl rfl rfl ?_
                  refine g_iload (q := 66) 0 dX11_surer_64 rfl rfl ?_
                  refine g_iconst (q := 67) dX11_surer_66 kI_0 rfl ?_
                  refine g_iload_n (q := 68) 4 dX11_surer_67 rfl rfl rfl ?_
                  refine g_callO (As := [.int z12.1, .int (0 : Int32), .int a1]) (st := []) (cn_X11_isFact) shX11 rfl cwX11_435 rfl dX11_surer_68 rfl (Nat.le_of_ble_eq_true rfl) (by decide) (kk_PI (fun v13 => ?_))
                  refine g_if_eq (t := 141) (q := 74) dX11_surer_71 (by decide) rfl ?_ ?_
                  · refine g_iinc (lr := [(3, .int z12.2), (4, .int z6.1), (0, .ref (b + 0)), (1, .int a1), (2, .int a2)]) (q := 144) 0 dX11_surer_141 rfl kI_1 (by decide) rfl rfl (fun x15 => ?_)
                    refine g_goto (t := 57) dX11_surer_144 (by decide) ?_
                    exact (g_again ((x15, z12.2) : (Int32 × Int32)))
                  · refine g_aload_n (q := 75) 3 dX11_surer_74 rfl rfl rfl ?_
                    refine g_getA (q := 78) fX11_isRight dX11_surer_75 ww1106 rfl ?_
                    refine g_iload (q := 80) 0 dX11_surer_78 rfl rfl ?_
                    refine g_zald (q := 81) (aX11_isRight) dX11_surer_80 rfl ?_
                    refine g_if_eq (t := 87) (q := 84) dX11_surer_81 (by decide) rfl ?_ ?_
                    · refine g_aload_n (q := 88) 3 dX11_surer_87 rfl rfl rfl ?_
                      refine g_getA (q := 91) fX11_factB dX11_surer_88 ww1105 rfl ?_
                      refine g_iload (q := 93) 2 dX11_surer_91 rfl rfl ?_
                      refine g_iald (q := 94) (aX11_factB) dX11_surer_93 rfl ?_
                      refine g_aload_n (q := 95) 3 dX11_surer_94 rfl rfl rfl ?_
                      refine g_getA (q := 98) fX11_factB dX11_surer_95 ww1105 rfl ?_
                      refine g_iload (q := 100) 0 dX11_surer_98 rfl rfl ?_
                      refine g_iald (q := 101) (aX11_factB) dX11_surer_100 rfl ?_
                      refine g_bind (S := Int32) (hd := 130) (lvf := fun z16 => [(5, .int z12.1), (3, .int z12.2), (4, .int z6.1), (0, .ref (b + 0)), (1, .int a1), (2, .int a2)]) (stf := fun z16 => [.int z16]) (σf := fun z16 => σ) ?_ (fun z16 => ?_)
                      · refine g_icmp_le (t := 108) (q := 104) dX11_surer_101 (by decide) rfl ?_ ?_
                        · refine g_aload_n (q := 109) 3 dX11_surer_108 rfl rfl rfl ?_
                          refine g_getA (q := 112) fX11_factB dX11_surer_109 ww1105 rfl ?_
                          refine g_iload (q := 114) 2 dX11_surer_112 rfl rfl ?_
                          refine g_iald (q := 115) (aX11_factB) dX11_surer_114 rfl ?_
                          refine g_aload_n (q := 116) 3 dX11_surer_115 rfl rfl rfl ?_
                          refine g_getA (q := 119) fX11_factB dX11_surer_116 ww1105 rfl ?_
                          refine g_iload (q := 121) 0 dX11_surer_119 rfl rfl ?_
                          refine g_iald (q := 122) (aX11_factB) dX11_surer_121 rfl ?_
                          refine g_icmp_ne (t := 129) (q := 125) dX11_surer_122 (by decide) rfl ?_ ?_
                          · refine g_iconst (q := 126) dX11_surer_125 kI_1 rfl ?_
                            refine g_goto (t := 130) dX11_surer_126 (by decide) ?_
                            exact (g_there ((1 : Int32) : Int32))
                          · refine g_iconst (q := 130) dX11_surer_129 kI_2 rfl ?_
                            exact (g_there ((2 : Int32) : Int32))
                        · refine g_iconst (q := 105) dX11_surer_104 kI_0 rfl ?_
                          refine g_goto (t := 130) dX11_surer_105 (by decide) ?_
                          exact (g_there ((0 : Int32) : Int32))
                      · refine g_istore (lr := [(5, .int z12.1), (3, .int z12.2), (4, .int z6.1), (0, .ref (b + 0)), (1, .int a1), (2, .int a2)]) (q := 132) dX11_surer_130 (by decide) rfl rfl ?_
                        refine g_iload (q := 134) 0 dX11_surer_132 rfl rfl ?_
                        refine g_iload_n (q := 135) 6 dX11_surer_134 rfl rfl rfl ?_
                        refine g_icmp_ne (t := 141) (q := 138) dX11_surer_135 (by decide) rfl ?_ ?_
                        · refine g_iinc (lr := [(6, .int z16), (5, .int z12.1), (4, .int z6.1), (0, .ref (b + 0)), (1, .int a1), (2, .int a2)]) (q := 141) 2 dX11_surer_138 rfl kI_1 (by decide) rfl rfl (fun x17 => ?_)
                          refine g_iinc (lr := [(3, .int x17), (6, .int z16), (4, .int z6.1), (0, .ref (b + 0)), (1, .int a1), (2, .int a2)]) (q := 144) 2 dX11_surer_141 rfl kI_1 (by decide) rfl rfl (fun x18 => ?_)
                          refine g_goto (t := 57) dX11_surer_144 (by decide) ?_
                          refine g_sub (lr := [(5, .int x18), (3, .int x17), (4, .int z6.1), (0, .ref (b + 0)), (1, .int a1), (2, .int a2)]) [0, 1, 3, 4, 5, 6] rfl ?_
                          exact (g_again ((x18, x17) : (Int32 × Int32)))
                        · refine g_iinc (lr := [(6, .int z16), (3, .int z12.2), (4, .int z6.1), (0, .ref (b + 0)), (1, .int a1), (2, .int a2)]) (q := 144) 1 dX11_surer_141 rfl kI_1 (by decide) rfl rfl (fun x19 => ?_)
                          refine g_goto (t := 57) dX11_surer_144 (by decide) ?_
                          refine g_sub (lr := [(5, .int x19), (3, .int z12.2), (4, .int z6.1), (0, .ref (b + 0)), (1, .int a1), (2, .int a2)]) [0, 2, 3, 4, 5, 6] rfl ?_
                          exact (g_again ((x19, z12.2) : (Int32 × Int32)))
                    · refine g_goto (t := 141) dX11_surer_84 (by decide) ?_
                      refine g_iinc (lr := [(3, .int z12.2), (4, .int z6.1), (0, .ref (b + 0)), (1, .int a1), (2, .int a2)]) (q := 144) 0 dX11_surer_141 rfl kI_1 (by decide) rfl rfl (fun x20 => ?_)
                      refine g_goto (t := 57) dX11_surer_144 (by decide) ?_
                      exact (g_again ((x20, z12.2) : (Int32 × Int32)))
              · refine g_iinc (lr := [(3, .int z11), (0, .ref (b + 0)), (1, .int a1), (2, .int a2)]) (q := 150) 1 dX11_surer_147 rfl kI_1 (by decide) rfl rfl (fun x21 => ?_)
                refine g_goto (t := 24) dX11_surer_150 (by decide) ?_
                exact (g_again ((x21, z11) : (Int32 × Int32)))
      · refine g_iload_n (q := 154) 0 dX11_surer_153 rfl rfl rfl ?_
        exact (g_iretP dX11_surer_154)
noncomputable def pX11_isOn (a1 : Int32) (a2 : Int32) (σ : gS) : Option (Int32) := bn1 (lpP (fun (z2 : (Int32 × Int32)) => if a2 ≤ z2.1 then some (.inr z2.2) else gx z2.1 60 (if (σ.1 44 z2.1.toNatClampNeg) = a1 then bn1 (pX11_isFact z2.1 (1 : Int32) a2 σ) (fun v3 => bn1 (if v3 = 0 then some z2.2 else some (1 : Int32)) (fun (z5 : Int32) => bn1 (pX11_isFact z2.1 (2 : Int32) a2 σ) (fun v6 => if v6 = 0 then lt' (z2.1 + (1 : Int32)) (fun x8 => some (.inl (x8, z5))) else lt' (z2.1 + (1 : Int32)) (fun x9 => some (.inl (x9, (0 : Int32))))))) else lt' (z2.1 + (1 : Int32)) (fun x10 => some (.inl (x10, z2.2))))) ((0 : Int32), (0 : Int32))) (fun (z1 : Int32) => some (z1 &&& 1))
set_option maxRecDepth 100000 in
theorem cn_X11_isOn {G : gG} {b : Nat} {a1 : Int32} {a2 : Int32} {σ : gS} : CN vR G b 2 yX11_isOn cX11_isOn 5 (some .boolean) (kPI σ) [.ref (b + 0), .int a1, .int a2] σ (pX11_isOn a1 a2 σ) := by
  refine cn_of (own := RX11) rfl rfl (Nat.le_of_ble_eq_true rfl) ?_
  show GF vR G b (2, 0, 0) RX11 cX11_isOn 5 (some .boolean) (kPI σ) 0 [(0, .ref (b + 0)), (1, .int a1), (2, .int a2)] [] σ (pX11_isOn a1 a2 σ)
  unfold pX11_isOn
  refine g_iconst (q := 1) dX11_isOn_0 kI_0 rfl ?_
  refine g_istore_n (lr := [(0, .ref (b + 0)), (1, .int a1), (2, .int a2)]) (q := 2) dX11_isOn_1 rfl (by decide) rfl rfl ?_
  refine g_iconst (q := 3) dX11_isOn_2 kI_0 rfl ?_
  refine g_istore (lr := [(3, .int (0 : Int32)), (0, .ref (b + 0)), (1, .int a1), (2, .int a2)]) (q := 5) dX11_isOn_3 (by decide) rfl rfl ?_
  refine g_bind (S := Int32) (hd := 57) (lvf := fun z1 => [(3, .int z1)]) (stf := fun z1 => []) (σf := fun z1 => σ) ?_ (fun z1 => ?_)
  · refine g_loop (S := (Int32 × Int32)) (lvf := fun z2 => [(4, .int z2.1), (3, .int z2.2), (0, .ref (b + 0)), (1, .int a1), (2, .int a2)]) (σf := fun z2 => σ) (fun z2 => ?_) ((0 : Int32), (0 : Int32))
    refine g_iload (q := 7) 0 dX11_isOn_5 rfl rfl ?_
    refine g_iload_n (q := 8) 4 dX11_isOn_7 rfl rfl rfl ?_
    refine g_icmp_ge (t := 57) (q := 11) dX11_isOn_8 (by decide) rfl ?_ ?_
    · refine g_sub (lr := [(3, .int z2.2)]) [1] rfl ?_
      exact (g_leave (g_there (z2.2 : Int32)))
    · refine g_aload_n (q := 12) 2 dX11_isOn_11 rfl rfl rfl ?_
      refine g_getA (q := 15) fX11_factA dX11_isOn_12 ww1104 rfl ?_
      refine g_iload (q := 17) 0 dX11_isOn_15 rfl rfl ?_
      refine g_iald (q := 18) (aX11_factA) dX11_isOn_17 rfl ?_
      refine g_iload_n (q := 19) 3 dX11_isOn_18 rfl rfl rfl ?_
      refine g_icmp_eq (t := 25) (q := 22) dX11_isOn_19 (by decide) rfl ?_ ?_
      · refine g_aload_n (q := 26) 2 dX11_isOn_25 rfl rfl rfl ?_
        refine g_iload (q := 28) 0 dX11_isOn_26 rfl rfl ?_
        refine g_iconst (q := 29) dX11_isOn_28 kI_1 rfl ?_
        refine g_iload_n (q := 30) 4 dX11_isOn_29 rfl rfl rfl ?_
        refine g_callO (As := [.int z2.1, .int (1 : Int32), .int a2]) (st := []) (cn_X11_isFact) shX11 rfl cwX11_435 rfl dX11_isOn_30 rfl (Nat.le_of_ble_eq_true rfl) (by decide) (kk_PI (fun v3 => ?_))
        refine g_bind (S := Int32) (hd := 38) (lvf := fun z5 => [(3, .int z5), (4, .int z2.1), (0, .ref (b + 0)), (1, .int a1), (2, .int a2)]) (stf := fun z5 => []) (σf := fun z5 => σ) ?_ (fun z5 => ?_)
        · refine g_if_eq (t := 38) (q := 36) dX11_isOn_33 (by decide) rfl ?_ ?_
          · refine g_sub (lr := [(3, .int z2.2), (4, .int z2.1), (0, .ref (b + 0)), (1, .int a1), (2, .int a2)]) [1, 0, 2, 3, 4] rfl ?_
            exact (g_there (z2.2 : Int32))
          · refine g_iconst (q := 37) dX11_isOn_36 kI_1 rfl ?_
            refine g_istore_n (lr := [(4, .int z2.1), (0, .ref (b + 0)), (1, .int a1), (2, .int a2)]) (q := 38) dX11_isOn_37 rfl (by decide) rfl rfl ?_
            exact (g_there ((1 : Int32) : Int32))
        · refine g_aload_n (q := 39) 2 dX11_isOn_38 rfl rfl rfl ?_
          refine g_iload (q := 41) 1 dX11_isOn_39 rfl rfl ?_
          refine g_iconst (q := 42) dX11_isOn_41 kI_2 rfl ?_
          refine g_iload_n (q := 43) 4 dX11_isOn_42 rfl rfl rfl ?_
          refine g_callO (As := [.int z2.1, .int (2 : Int32), .int a2]) (st := []) (cn_X11_isFact) shX11 rfl cwX11_435 rfl dX11_isOn_43 rfl (Nat.le_of_ble_eq_true rfl) (by decide) (kk_PI (fun v6 => ?_))
          refine g_if_eq (t := 51) (q := 49) dX11_isOn_46 (by decide) rfl ?_ ?_
          · refine g_iinc (lr := [(3, .int z5), (0, .ref (b + 0)), (1, .int a1), (2, .int a2)]) (q := 54) 1 dX11_isOn_51 rfl kI_1 (by decide) rfl rfl (fun x8 => ?_)
            refine g_goto (t := 5) dX11_isOn_54 (by decide) ?_
            exact (g_again ((x8, z5) : (Int32 × Int32)))
          · refine g_iconst (q := 50) dX11_isOn_49 kI_0 rfl ?_
            refine g_istore_n (lr := [(4, .int z2.1), (0, .ref (b + 0)), (1, .int a1), (2, .int a2)]) (q := 51) dX11_isOn_50 rfl (by decide) rfl rfl ?_
            refine g_iinc (lr := [(3, .int (0 : Int32)), (0, .ref (b + 0)), (1, .int a1), (2, .int a2)]) (q := 54) 1 dX11_isOn_51 rfl kI_1 (by decide) rfl rfl (fun x9 => ?_)
            refine g_goto (t := 5) dX11_isOn_54 (by decide) ?_
            exact (g_again ((x9, (0 : Int32)) : (Int32 × Int32)))
      · refine g_goto (t := 51) dX11_isOn_22 (by decide) ?_
        refine g_iinc (lr := [(3, .int z2.2), (0, .ref (b + 0)), (1, .int a1), (2, .int a2)]) (q := 54) 0 dX11_isOn_51 rfl kI_1 (by decide) rfl rfl (fun x10 => ?_)
        refine g_goto (t := 5) dX11_isOn_54 (by decide) ?_
        exact (g_again ((x10, z2.2) : (Int32 × Int32)))
  · refine g_iload_n (q := 58) 0 dX11_isOn_57 rfl rfl rfl ?_
    exact (g_bretP dX11_isOn_58)
noncomputable def pX11_on (a1 : Int32) (a2 : Int32) (σ : gS) : Option (Int32) := bn1 (pX11_isPerson a1 σ) (fun v1 => if v1 = 0 then some ((-1 : Int32)) else bn1 (pX11_isKnown a2 σ) (fun v3 => if v3 = 0 then some ((-1 : Int32)) else bn1 (pX11_isOn a1 a2 σ) (fun v5 => if v5 = 0 then some ((0 : Int32)) else some ((1 : Int32)))))
set_option maxRecDepth 100000 in
theorem cn_X11_on {G : gG} {b : Nat} {a1 : Int32} {a2 : Int32} {σ : gS} : CN vR G b 3 yX11_on cX11_on 3 (some .int) (kPI σ) [.ref (b + 0), .int a1, .int a2] σ (pX11_on a1 a2 σ) := by
  refine cn_of (own := RX11) rfl rfl (Nat.le_of_ble_eq_true rfl) ?_
  show GF vR G b (3, 0, 0) RX11 cX11_on 3 (some .int) (kPI σ) 0 [(0, .ref (b + 0)), (1, .int a1), (2, .int a2)] [] σ (pX11_on a1 a2 σ)
  unfold pX11_on
  refine g_aload_n (q := 1) 0 dX11_on_0 rfl rfl rfl ?_
  refine g_iload_n (q := 2) 1 dX11_on_1 rfl rfl rfl ?_
  refine g_callO (As := [.int a1]) (st := []) (cn_X11_isPerson) shX11 rfl cwX11_328 rfl dX11_on_2 rfl (Nat.le_of_ble_eq_true rfl) (by decide) (kk_PI (fun v1 => ?_))
  refine g_if_eq (t := 16) (q := 8) dX11_on_5 (by decide) rfl ?_ ?_
  · refine g_iconst (q := 17) dX11_on_16 kI_m1 rfl ?_
    refine g_goto (t := 34) dX11_on_17 (by decide) ?_
    exact (g_iretP dX11_on_34)
  · refine g_aload_n (q := 9) 0 dX11_on_8 rfl rfl rfl ?_
    refine g_iload_n (q := 10) 2 dX11_on_9 rfl rfl rfl ?_
    refine g_callO (As := [.int a2]) (st := []) (cn_X11_isKnown) shX11 rfl cwX11_432 rfl dX11_on_10 rfl (Nat.le_of_ble_eq_true rfl) (by decide) (kk_PI (fun v3 => ?_))
    refine g_if_ne (t := 20) (q := 16) dX11_on_13 (by decide) rfl ?_ ?_
    · refine g_iconst (q := 17) dX11_on_16 kI_m1 rfl ?_
      refine g_goto (t := 34) dX11_on_17 (by decide) ?_
      exact (g_iretP dX11_on_34)
    · refine g_aload_n (q := 21) 0 dX11_on_20 rfl rfl rfl ?_
      refine g_iload_n (q := 22) 1 dX11_on_21 rfl rfl rfl ?_
      refine g_iload_n (q := 23) 2 dX11_on_22 rfl rfl rfl ?_
      refine g_callO (As := [.int a1, .int a2]) (st := []) (cn_X11_isOn) shX11 rfl cwX11_438 rfl dX11_on_23 rfl (Nat.le_of_ble_eq_true rfl) (by decide) (kk_PI (fun v5 => ?_))
      refine g_if_eq (t := 33) (q := 29) dX11_on_26 (by decide) rfl ?_ ?_
      · refine g_iconst (q := 34) dX11_on_33 kI_0 rfl ?_
        exact (g_iretP dX11_on_34)
      · refine g_iconst (q := 30) dX11_on_29 kI_1 rfl ?_
        refine g_goto (t := 34) dX11_on_30 (by decide) ?_
        exact (g_iretP dX11_on_34)
noncomputable def pX11_listSet (a1 : Int32) (σ : gS) : Option (Int32) := bn1 (lpP (fun (z2 : (Int32 × Int32)) => if (σ.1 0 51) ≤ z2.1 then some (.inr z2.2) else bn1 (pX11_isOn z2.1 a1 σ) (fun v3 => if v3 = 0 then lt' (z2.1 + (1 : Int32)) (fun x5 => some (.inl (x5, z2.2))) else lt' (z2.2 ||| ((1 : Int32) <<< (z2.1 &&& (31 : Int32)))) (fun x6 => lt' (z2.1 + (1 : Int32)) (fun x7 => some (.inl (x7, x6)))))) ((0 : Int32), (0 : Int32))) (fun (z1 : Int32) => some (z1))
set_option maxRecDepth 100000 in
theorem cn_X11_listSet {G : gG} {b : Nat} {a1 : Int32} {σ : gS} : CN vR G b 3 yX11_listSet cX11_listSet 4 (some .int) (kPI σ) [.ref (b + 0), .int a1] σ (pX11_listSet a1 σ) := by
  refine cn_of (own := RX11) rfl rfl (Nat.le_of_ble_eq_true rfl) ?_
  show GF vR G b (3, 0, 0) RX11 cX11_listSet 4 (some .int) (kPI σ) 0 [(0, .ref (b + 0)), (1, .int a1)] [] σ (pX11_listSet a1 σ)
  unfold pX11_listSet
  refine g_iconst (q := 1) dX11_listSet_0 kI_0 rfl ?_
  refine g_istore_n (lr := [(0, .ref (b + 0)), (1, .int a1)]) (q := 2) dX11_listSet_1 rfl (by decide) rfl rfl ?_
  refine g_iconst (q := 3) dX11_listSet_2 kI_0 rfl ?_
  refine g_istore_n (lr := [(2, .int (0 : Int32)), (0, .ref (b + 0)), (1, .int a1)]) (q := 4) dX11_listSet_3 rfl (by decide) rfl rfl ?_
  refine g_bind (S := Int32) (hd := 33) (lvf := fun z1 => [(2, .int z1)]) (stf := fun z1 => []) (σf := fun z1 => σ) ?_ (fun z1 => ?_)
  · refine g_loop (S := (Int32 × Int32)) (lvf := fun z2 => [(3, .int z2.1), (2, .int z2.2), (0, .ref (b + 0)), (1, .int a1)]) (σf := fun z2 => σ) (fun z2 => ?_) ((0 : Int32), (0 : Int32))
    refine g_iload_n (q := 5) 0 dX11_listSet_4 rfl rfl rfl ?_
    refine g_aload_n (q := 6) 2 dX11_listSet_5 rfl rfl rfl ?_
    refine g_getI (q := 9) fX11_people dX11_listSet_6 ww1093 rfl ?_
    refine g_icmp_ge (t := 33) (q := 12) dX11_listSet_9 (by decide) rfl ?_ ?_
    · refine g_sub (lr := [(2, .int z2.2)]) [1] rfl ?_
      exact (g_leave (g_there (z2.2 : Int32)))
    · refine g_aload_n (q := 13) 2 dX11_listSet_12 rfl rfl rfl ?_
      refine g_iload_n (q := 14) 0 dX11_listSet_13 rfl rfl rfl ?_
      refine g_iload_n (q := 15) 3 dX11_listSet_14 rfl rfl rfl ?_
      refine g_callO (As := [.int z2.1, .int a1]) (st := []) (cn_X11_isOn) shX11 rfl cwX11_438 rfl dX11_listSet_15 rfl (Nat.le_of_ble_eq_true rfl) (by decide) (kk_PI (fun v3 => ?_))
      refine g_if_eq (t := 27) (q := 21) dX11_listSet_18 (by decide) rfl ?_ ?_
      · refine g_iinc (lr := [(2, .int z2.2), (0, .ref (b + 0)), (1, .int a1)]) (q := 30) 0 dX11_listSet_27 rfl kI_1 (by decide) rfl rfl (fun x5 => ?_)
        refine g_goto (t := 4) dX11_listSet_30 (by decide) ?_
        exact (g_again ((x5, z2.2) : (Int32 × Int32)))
      · refine g_iload_n (q := 22) 1 dX11_listSet_21 rfl rfl rfl ?_
        refine g_iconst (q := 23) dX11_listSet_22 kI_1 rfl ?_
        refine g_iload_n (q := 24) 0 dX11_listSet_23 rfl rfl rfl ?_
        refine g_ishl (q := 25) dX11_listSet_24 rfl ?_
        refine g_ior (q := 26) dX11_listSet_25 rfl ?_
        refine g_leti (fun x6 => ?_)
        refine g_istore_n (lr := [(3, .int z2.1), (0, .ref (b + 0)), (1, .int a1)]) (q := 27) dX11_listSet_26 rfl (by decide) rfl rfl ?_
        refine g_iinc (lr := [(2, .int x6), (0, .ref (b + 0)), (1, .int a1)]) (q := 30) 1 dX11_listSet_27 rfl kI_1 (by decide) rfl rfl (fun x7 => ?_)
        refine g_goto (t := 4) dX11_listSet_30 (by decide) ?_
        exact (g_again ((x7, x6) : (Int32 × Int32)))
  · refine g_iload_n (q := 34) 0 dX11_listSet_33 rfl rfl rfl ?_
    exact (g_iretP dX11_listSet_34)
noncomputable def pX11_tries (a1 : Int32) (σ : gS) : Option (Int32) := bn1 (lpP (fun (z2 : (Int32 × Int32)) => if a1 ≤ z2.1 then some (.inr z2.2) else bn1 (pX11_isFact z2.1 (3 : Int32) a1 σ) (fun v3 => if v3 = 0 then lt' (z2.1 + (1 : Int32)) (fun x5 => some (.inl (x5, z2.2))) else bn1 (lpP (fun (z7 : (Int32 × Int32)) => if z2.1 ≤ z7.1 then some (.inr z7.2) else bn1 (pX11_isFact z7.1 (3 : Int32) a1 σ) (fun v8 => if v8 = 0 then lt' (z7.1 + (1 : Int32)) (fun x10 => some (.inl (x10, z7.2))) else gx z7.1 60 (gx z2.1 60 (if (σ.1 44 z7.1.toNatClampNeg) = (σ.1 44 z2.1.toNatClampNeg) then gx z7.1 60 (gx z2.1 60 (if (σ.1 45 z7.1.toNatClampNeg) = (σ.1 45 z2.1.toNatClampNeg) then lt' (z7.1 + (1 : Int32)) (fun x11 => some (.inl (x11, (0 : Int32)))) else lt' (z7.1 + (1 : Int32)) (fun x12 => some (.inl (x12, z7.2))))) else lt' (z7.1 + (1 : Int32)) (fun x13 => some (.inl (x13, z7.2))))))) ((0 : Int32), (1 : Int32))) (fun (z6 : Int32) => if z6 = 0 then lt' (z2.1 + (1 : Int32)) (fun x14 => some (.inl (x14, z2.2))) else lt' (z2.2 + (1 : Int32)) (fun x15 => lt' (z2.1 + (1 : Int32)) (fun x16 => some (.inl (x16, x15))))))) ((0 : Int32), (0 : Int32))) (fun (z1 : Int32) => some (z1))
set_option maxRecDepth 100000 in
theorem cn_X11_tries {G : gG} {b : Nat} {a1 : Int32} {σ : gS} : CN vR G b 2 yX11_tries cX11_tries 6 (some .int) (kPI σ) [.ref (b + 0), .int a1] σ (pX11_tries a1 σ) := by
  refine cn_of (own := RX11) rfl rfl (Nat.le_of_ble_eq_true rfl) ?_
  show GF vR G b (2, 0, 0) RX11 cX11_tries 6 (some .int) (kPI σ) 0 [(0, .ref (b + 0)), (1, .int a1)] [] σ (pX11_tries a1 σ)
  unfold pX11_tries
  refine g_iconst (q := 1) dX11_tries_0 kI_0 rfl ?_
  refine g_istore_n (lr := [(0, .ref (b + 0)), (1, .int a1)]) (q := 2) dX11_tries_1 rfl (by decide) rfl rfl ?_
  refine g_iconst (q := 3) dX11_tries_2 kI_0 rfl ?_
  refine g_istore_n (lr := [(2, .int (0 : Int32)), (0, .ref (b + 0)), (1, .int a1)]) (q := 4) dX11_tries_3 rfl (by decide) rfl rfl ?_
  refine g_bind (S := Int32) (hd := 100) (lvf := fun z1 => [(2, .int z1)]) (stf := fun z1 => []) (σf := fun z1 => σ) ?_ (fun z1 => ?_)
  · refine g_loop (S := (Int32 × Int32)) (lvf := fun z2 => [(3, .int z2.1), (2, .int z2.2), (0, .ref (b + 0)), (1, .int a1)]) (σf := fun z2 => σ) (fun z2 => ?_) ((0 : Int32), (0 : Int32))
    refine g_iload_n (q := 5) 0 dX11_tries_4 rfl rfl rfl ?_
    refine g_iload_n (q := 6) 3 dX11_tries_5 rfl rfl rfl ?_
    refine g_icmp_ge (t := 100) (q := 9) dX11_tries_6 (by decide) rfl ?_ ?_
    · refine g_sub (lr := [(2, .int z2.2)]) [1] rfl ?_
      exact (g_leave (g_there (z2.2 : Int32)))
    · refine g_aload_n (q := 10) 2 dX11_tries_9 rfl rfl rfl ?_
      refine g_iload_n (q := 11) 0 dX11_tries_10 rfl rfl rfl ?_
      refine g_iconst (q := 12) dX11_tries_11 kI_3 rfl ?_
      refine g_iload_n (q := 13) 3 dX11_tries_12 rfl rfl rfl ?_
      refine g_callO (As := [.int z2.1, .int (3 : Int32), .int a1]) (st := []) (cn_X11_isFact) shX11 rfl cwX11_435 rfl dX11_tries_13 rfl (Nat.le_of_ble_eq_true rfl) (by decide) (kk_PI (fun v3 => ?_))
      refine g_if_ne (t := 22) (q := 19) dX11_tries_16 (by decide) rfl ?_ ?_
      · refine g_goto (t := 94) dX11_tries_19 (by decide) ?_
        refine g_iinc (lr := [(2, .int z2.2), (0, .ref (b + 0)), (1, .int a1)]) (q := 97) 0 dX11_tries_94 rfl kI_1 (by decide) rfl rfl (fun x5 => ?_)
        refine g_goto (t := 4) dX11_tries_97 (by decide) ?_
        exact (g_again ((x5, z2.2) : (Int32 × Int32)))
      · refine g_iconst (q := 23) dX11_tries_22 kI_1 rfl ?_
        refine g_istore (lr := [(3, .int z2.1), (2, .int z2.2), (0, .ref (b + 0)), (1, .int a1)]) (q := 25) dX11_tries_23 (by decide) rfl rfl ?_
        refine g_iconst (q := 26) dX11_tries_25 kI_0 rfl ?_
        refine g_istore (lr := [(4, .int (1 : Int32)), (3, .int z2.1), (2, .int z2.2), (0, .ref (b + 0)), (1, .int a1)]) (q := 28) dX11_tries_26 (by decide) rfl rfl ?_
        refine g_bind (S := Int32) (hd := 86) (lvf := fun z6 => [(4, .int z6), (3, .int z2.1), (2, .int z2.2), (0, .ref (b + 0)), (1, .int a1)]) (stf := fun z6 => []) (σf := fun z6 => σ) ?_ (fun z6 => ?_)
        · refine g_loop (S := (Int32 × Int32)) (lvf := fun z7 => [(5, .int z7.1), (4, .int z7.2), (3, .int z2.1), (2, .int z2.2), (0, .ref (b + 0)), (1, .int a1)]) (σf := fun z7 => σ) (fun z7 => ?_) ((0 : Int32), (1 : Int32))
          refine g_iload (q := 30) 0 dX11_tries_28 rfl rfl ?_
          refine g_iload_n (q := 31) 2 dX11_tries_30 rfl rfl rfl ?_
          refine g_icmp_ge (t := 86) (q := 34) dX11_tries_31 (by decide) rfl ?_ ?_
          · refine g_sub (lr := [(4, .int z7.2), (3, .int z2.1), (2, .int z2.2), (0, .ref (b + 0)), (1, .int a1)]) [1, 2, 3, 4, 5] rfl ?_
            exact (g_leave (g_there (z7.2 : Int32)))
          · refine g_aload_n (q := 35) 4 dX11_tries_34 rfl rfl rfl ?_
            refine g_iload (q := 37) 0 dX11_tries_35 rfl rfl ?_
            refine g_iconst (q := 38) dX11_tries_37 kI_3 rfl ?_
            refine g_iload_n (q := 39) 5 dX11_tries_38 rfl rfl rfl ?_
            refine g_callO (As := [.int z7.1, .int (3 : Int32), .int a1]) (st := []) (cn_X11_isFact) shX11 rfl cwX11_435 rfl dX11_tries_39 rfl (Nat.le_of_ble_eq_true rfl) (by decide) (kk_PI (fun v8 => ?_))
            refine g_if_eq (t := 80) (q := 45) dX11_tries_42 (by decide) rfl ?_ ?_
            · refine g_iinc (lr := [(4, .int z7.2), (3, .int z2.1), (2, .int z2.2), (0, .ref (b + 0)), (1, .int a1)]) (q := 83) 0 dX11_tries_80 rfl kI_1 (by decide) rfl rfl (fun x10 => ?_)
              refine g_goto (t := 28) dX11_tries_83 (by decide) ?_
              exact (g_again ((x10, z7.2) : (Int32 × Int32)))
            · refine g_aload_n (q := 46) 4 dX11_tries_45 rfl rfl rfl ?_
              refine g_getA (q := 49) fX11_factA dX11_tries_46 ww1104 rfl ?_
              refine g_iload (q := 51) 0 dX11_tries_49 rfl rfl ?_
              refine g_iald (q := 52) (aX11_factA) dX11_tries_51 rfl ?_
              refine g_aload_n (q := 53) 4 dX11_tries_52 rfl rfl rfl ?_
              refine g_getA (q := 56) fX11_factA dX11_tries_53 ww1104 rfl ?_
              refine g_iload_n (q := 57) 2 dX11_tries_56 rfl rfl rfl ?_
              refine g_iald (q := 58) (aX11_factA) dX11_tries_57 rfl ?_
              refine g_icmp_ne (t := 80) (q := 61) dX11_tries_58 (by decide) rfl ?_ ?_
              · refine g_aload_n (q := 62) 4 dX11_tries_61 rfl rfl rfl ?_
                refine g_getA (q := 65) fX11_factB dX11_tries_62 ww1105 rfl ?_
                refine g_iload (q := 67) 0 dX11_tries_65 rfl rfl ?_
                refine g_iald (q := 68) (aX11_factB) dX11_tries_67 rfl ?_
                refine g_aload_n (q := 69) 4 dX11_tries_68 rfl rfl rfl ?_
                refine g_getA (q := 72) fX11_factB dX11_tries_69 ww1105 rfl ?_
                refine g_iload_n (q := 73) 2 dX11_tries_72 rfl rfl rfl ?_
                refine g_iald (q := 74) (aX11_factB) dX11_tries_73 rfl ?_
                refine g_icmp_ne (t := 80) (q := 77) dX11_tries_74 (by decide) rfl ?_ ?_
                · refine g_iconst (q := 78) dX11_tries_77 kI_0 rfl ?_
                  refine g_istore (lr := [(5, .int z7.1), (3, .int z2.1), (2, .int z2.2), (0, .ref (b + 0)), (1, .int a1)]) (q := 80) dX11_tries_78 (by decide) rfl rfl ?_
                  refine g_iinc (lr := [(4, .int (0 : Int32)), (3, .int z2.1), (2, .int z2.2), (0, .ref (b + 0)), (1, .int a1)]) (q := 83) 1 dX11_tries_80 rfl kI_1 (by decide) rfl rfl (fun x11 => ?_)
                  refine g_goto (t := 28) dX11_tries_83 (by decide) ?_
                  exact (g_again ((x11, (0 : Int32)) : (Int32 × Int32)))
                · refine g_iinc (lr := [(4, .int z7.2), (3, .int z2.1), (2, .int z2.2), (0, .ref (b + 0)), (1, .int a1)]) (q := 83) 0 dX11_tries_80 rfl kI_1 (by decide) rfl rfl (fun x12 => ?_)
                  refine g_goto (t := 28) dX11_tries_83 (by decide) ?_
                  exact (g_again ((x12, z7.2) : (Int32 × Int32)))
              · refine g_iinc (lr := [(4, .int z7.2), (3, .int z2.1), (2, .int z2.2), (0, .ref (b + 0)), (1, .int a1)]) (q := 83) 0 dX11_tries_80 rfl kI_1 (by decide) rfl rfl (fun x13 => ?_)
                refine g_goto (t := 28) dX11_tries_83 (by decide) ?_
                exact (g_again ((x13, z7.2) : (Int32 × Int32)))
        · refine g_iload (q := 88) 0 dX11_tries_86 rfl rfl ?_
          refine g_if_eq (t := 94) (q := 91) dX11_tries_88 (by decide) rfl ?_ ?_
          · refine g_iinc (lr := [(4, .int z6), (2, .int z2.2), (0, .ref (b + 0)), (1, .int a1)]) (q := 97) 1 dX11_tries_94 rfl kI_1 (by decide) rfl rfl (fun x14 => ?_)
            refine g_goto (t := 4) dX11_tries_97 (by decide) ?_
            refine g_sub (lr := [(3, .int x14), (2, .int z2.2), (0, .ref (b + 0)), (1, .int a1)]) [0, 2, 3, 4] rfl ?_
            exact (g_again ((x14, z2.2) : (Int32 × Int32)))
          · refine g_iinc (lr := [(4, .int z6), (3, .int z2.1), (0, .ref (b + 0)), (1, .int a1)]) (q := 94) 2 dX11_tries_91 rfl kI_1 (by decide) rfl rfl (fun x15 => ?_)
            refine g_iinc (lr := [(2, .int x15), (4, .int z6), (0, .ref (b + 0)), (1, .int a1)]) (q := 97) 2 dX11_tries_94 rfl kI_1 (by decide) rfl rfl (fun x16 => ?_)
            refine g_goto (t := 4) dX11_tries_97 (by decide) ?_
            refine g_sub (lr := [(3, .int x16), (2, .int x15), (0, .ref (b + 0)), (1, .int a1)]) [0, 1, 3, 4] rfl ?_
            exact (g_again ((x16, x15) : (Int32 × Int32)))
  · refine g_iload_n (q := 101) 0 dX11_tries_100 rfl rfl rfl ?_
    exact (g_iretP dX11_tries_101)
noncomputable def pX11_stands (a1 : Int32) (a2 : Int32) (σ : gS) : Option (Int32 × gS) := bn2 (pX11_upSet a1 σ) (fun v1 s2 => bn1 (pX11_tries a2 s2) (fun v3 => bn1 (pX11_listSet a2 s2) (fun v5 => bn1 (pX11_moreIn v1 v5 s2) (fun v7 => bn1 (if (1 : Int32) ≤ v3 then some v3 else some (1 : Int32)) (fun (z9 : Int32) => bn1 (pX11_allIn v1 s2) (fun v10 => if 0 < (lg_cmp ((v7 * (z9.toInt64)) * (20 : Int64)) v10) then some ((0 : Int32), s2) else some ((1 : Int32), s2)))))))
set_option maxRecDepth 100000 in
theorem cn_X11_stands {G : gG} {b : Nat} {a1 : Int32} {a2 : Int32} {σ : gS} : CN vR G b 6 yX11_stands cX11_stands 5 (some .boolean) kI [.ref (b + 0), .int a1, .int a2] σ (pX11_stands a1 a2 σ) := by
  refine cn_of (own := RX11) rfl rfl (Nat.le_of_ble_eq_true rfl) ?_
  show GF vR G b (6, 0, 0) RX11 cX11_stands 5 (some .boolean) kI 0 [(0, .ref (b + 0)), (1, .int a1), (2, .int a2)] [] σ (pX11_stands a1 a2 σ)
  unfold pX11_stands
  refine g_aload_n (q := 1) 0 dX11_stands_0 rfl rfl rfl ?_
  refine g_iload_n (q := 2) 1 dX11_stands_1 rfl rfl rfl ?_
  refine g_callO (As := [.int a1]) (st := []) (cn_X11_upSet) shX11 rfl cwX11_403 rfl dX11_stands_2 rfl (Nat.le_of_ble_eq_true rfl) (by decide) (kk_I (fun v1 s2 => ?_))
  refine g_istore_n (lr := [(0, .ref (b + 0)), (1, .int a1), (2, .int a2)]) (q := 6) dX11_stands_5 rfl (by decide) rfl rfl ?_
  refine g_aload_n (q := 7) 1 dX11_stands_6 rfl rfl rfl ?_
  refine g_iload_n (q := 8) 3 dX11_stands_7 rfl rfl rfl ?_
  refine g_callO (As := [.int a2]) (st := []) (cn_X11_tries) shX11 rfl cwX11_441 rfl dX11_stands_8 rfl (Nat.le_of_ble_eq_true rfl) (by decide) (kk_PI (fun v3 => ?_))
  refine g_istore (lr := [(3, .int v1), (0, .ref (b + 0)), (1, .int a1), (2, .int a2)]) (q := 13) dX11_stands_11 (by decide) rfl rfl ?_
  refine g_aload_n (q := 14) 2 dX11_stands_13 rfl rfl rfl ?_
  refine g_iload_n (q := 15) 1 dX11_stands_14 rfl rfl rfl ?_
  refine g_aload_n (q := 16) 2 dX11_stands_15 rfl rfl rfl ?_
  refine g_iload_n (q := 17) 4 dX11_stands_16 rfl rfl rfl ?_
  refine g_callO (As := [.int a2]) (st := [.int v1, .ref (b + 0)]) (cn_X11_listSet) shX11 rfl cwX11_444 rfl dX11_stands_17 rfl (Nat.le_of_ble_eq_true rfl) (by decide) (kk_PI (fun v5 => ?_))
  refine g_callO (As := [.int v1, .int v5]) (st := []) (cn_X11_moreIn) shX11 rfl cwX11_415 rfl dX11_stands_20 rfl (Nat.le_of_ble_eq_true rfl) (by decide) (kk_PL (fun v7 => ?_))
  refine g_iload (q := 25) 0 dX11_stands_23 rfl rfl ?_
  refine g_iconst (q := 26) dX11_stands_25 kI_1 rfl ?_
  refine g_bind (S := Int32) (hd := 35) (lvf := fun z9 => [(3, .int v1), (0, .ref (b + 0))]) (stf := fun z9 => [.int z9, .long v7]) (σf := fun z9 => s2) ?_ (fun z9 => ?_)
  · refine g_icmp_ge (t := 33) (q := 29) dX11_stands_26 (by decide) rfl ?_ ?_
    · refine g_iload (q := 35) 0 dX11_stands_33 rfl rfl ?_
      refine g_sub (lr := [(3, .int v1), (0, .ref (b + 0))]) [1, 2] rfl ?_
      exact (g_there (v3 : Int32))
    · refine g_iconst (q := 30) dX11_stands_29 kI_1 rfl ?_
      refine g_goto (t := 35) dX11_stands_30 (by decide) ?_
      refine g_sub (lr := [(3, .int v1), (0, .ref (b + 0))]) [1, 2] rfl ?_
      exact (g_there ((1 : Int32) : Int32))
  · refine g_i2l (q := 36) dX11_stands_35 rfl ?_
    refine g_lmul (q := 37) dX11_stands_36 rfl ?_
    refine g_ldc2 (q := 40) dX11_stands_37 ww1657 rfl ?_
    refine g_lmul (q := 41) dX11_stands_40 rfl ?_
    refine g_aload_n (q := 42) 1 dX11_stands_41 rfl rfl rfl ?_
    refine g_iload_n (q := 43) 0 dX11_stands_42 rfl rfl rfl ?_
    refine g_callO (As := [.int v1]) (st := [.long ((v7 * (z9.toInt64)) * (20 : Int64))]) (cn_X11_allIn) shX11 rfl cwX11_418 rfl dX11_stands_43 rfl (Nat.le_of_ble_eq_true rfl) (by decide) (kk_PL (fun v10 => ?_))
    refine g_lcmp (q := 47) dX11_stands_46 rfl ?_
    refine g_if_gt (t := 54) (q := 50) dX11_stands_47 (by decide) rfl ?_ ?_
    · refine g_iconst (q := 55) dX11_stands_54 kI_0 rfl ?_
      exact (g_bret0 dX11_stands_55)
    · refine g_iconst (q := 51) dX11_stands_50 kI_1 rfl ?_
      refine g_goto (t := 55) dX11_stands_51 (by decide) ?_
      exact (g_bret1 dX11_stands_55)
noncomputable def pX11_red (a1 : Int32) (a2 : Int32) (a3 : Int32) (σ : gS) : Option (Int32 × gS) := bn1 (pX11_isSign a1 σ) (fun v1 => if v1 = 0 then some ((-1 : Int32), σ) else bn1 (pX11_isKnown a2 σ) (fun v3 => if v3 = 0 then some ((-1 : Int32), σ) else if a3 = (0 : Int32) then bn1 (pX11_listSet a2 σ) (fun v5 => bn1 (pX11_bits v5) (fun v7 => some (v7, σ))) else if a3 = (1 : Int32) then bn1 (pX11_listSet a2 σ) (fun v10 => bn2 (pX11_upSet a1 σ) (fun v12 s13 => bn1 (pX11_bits (v10 &&& v12)) (fun v14 => some (v14, s13)))) else if a3 = (2 : Int32) then bn2 (pX11_upSet a1 σ) (fun v17 s18 => bn1 (pX11_bits v17) (fun v19 => some (v19, s18))) else if a3 = (3 : Int32) then bn1 (pX11_tries a2 σ) (fun v22 => some (v22, σ)) else if a3 = (4 : Int32) then bn2 (pX11_stands a1 a2 σ) (fun v25 s26 => if v25 = 0 then some ((0 : Int32), s26) else some ((1 : Int32), s26)) else some ((-1 : Int32), σ)))
set_option maxRecDepth 100000 in
theorem cn_X11_red {G : gG} {b : Nat} {a1 : Int32} {a2 : Int32} {a3 : Int32} {σ : gS} : CN vR G b 7 yX11_red cX11_red 4 (some .int) kI [.ref (b + 0), .int a1, .int a2, .int a3] σ (pX11_red a1 a2 a3 σ) := by
  refine cn_of (own := RX11) rfl rfl (Nat.le_of_ble_eq_true rfl) ?_
  show GF vR G b (7, 0, 0) RX11 cX11_red 4 (some .int) kI 0 [(0, .ref (b + 0)), (1, .int a1), (2, .int a2), (3, .int a3)] [] σ (pX11_red a1 a2 a3 σ)
  unfold pX11_red
  refine g_aload_n (q := 1) 0 dX11_red_0 rfl rfl rfl ?_
  refine g_iload_n (q := 2) 1 dX11_red_1 rfl rfl rfl ?_
  refine g_callO (As := [.int a1]) (st := []) (cn_X11_isSign) shX11 rfl cwX11_400 rfl dX11_red_2 rfl (Nat.le_of_ble_eq_true rfl) (by decide) (kk_PI (fun v1 => ?_))
  refine g_if_eq (t := 16) (q := 8) dX11_red_5 (by decide) rfl ?_ ?_
  · refine g_iconst (q := 17) dX11_red_16 kI_m1 rfl ?_
    exact (g_iret dX11_red_17)
  · refine g_aload_n (q := 9) 0 dX11_red_8 rfl rfl rfl ?_
    refine g_iload_n (q := 10) 2 dX11_red_9 rfl rfl rfl ?_
    refine g_callO (As := [.int a2]) (st := []) (cn_X11_isKnown) shX11 rfl cwX11_432 rfl dX11_red_10 rfl (Nat.le_of_ble_eq_true rfl) (by decide) (kk_PI (fun v3 => ?_))
    refine g_if_ne (t := 18) (q := 16) dX11_red_13 (by decide) rfl ?_ ?_
    · refine g_iconst (q := 17) dX11_red_16 kI_m1 rfl ?_
      exact (g_iret dX11_red_17)
    · refine g_iload_n (q := 19) 3 dX11_red_18 rfl rfl rfl ?_
      refine g_case (t := 52) (off := 33) (0 : Int32) dX11_red_19 (by decide +kernel) (by decide) ?_ (fun h9 => ?_)
      · refine g_aload_n (q := 53) 0 dX11_red_52 rfl rfl rfl ?_
        refine g_iload_n (q := 54) 2 dX11_red_53 rfl rfl rfl ?_
        refine g_callO (As := [.int a2]) (st := []) (cn_X11_listSet) shX11 rfl cwX11_444 rfl dX11_red_54 rfl (Nat.le_of_ble_eq_true rfl) (by decide) (kk_PI (fun v5 => ?_))
        refine g_callT (As := [.int v5]) (st := []) (cn_X11_bits) cwX11_406 rfl dX11_red_57 rfl (Nat.le_of_ble_eq_true rfl) (by decide) (kk_PI (fun v7 => ?_))
        exact (g_iret dX11_red_60)
      refine g_case (t := 61) (off := 42) (1 : Int32) dX11_red_19 (by decide +kernel) (by decide) ?_ (fun h16 => ?_)
      · refine g_aload_n (q := 62) 0 dX11_red_61 rfl rfl rfl ?_
        refine g_iload_n (q := 63) 2 dX11_red_62 rfl rfl rfl ?_
        refine g_callO (As := [.int a2]) (st := []) (cn_X11_listSet) shX11 rfl cwX11_444 rfl dX11_red_63 rfl (Nat.le_of_ble_eq_true rfl) (by decide) (kk_PI (fun v10 => ?_))
        refine g_aload_n (q := 67) 0 dX11_red_66 rfl rfl rfl ?_
        refine g_iload_n (q := 68) 1 dX11_red_67 rfl rfl rfl ?_
        refine g_callO (As := [.int a1]) (st := [.int v10]) (cn_X11_upSet) shX11 rfl cwX11_403 rfl dX11_red_68 rfl (Nat.le_of_ble_eq_true rfl) (by decide) (kk_I (fun v12 s13 => ?_))
        refine g_iand (q := 72) dX11_red_71 rfl ?_
        refine g_callT (As := [.int (v10 &&& v12)]) (st := []) (cn_X11_bits) cwX11_406 rfl dX11_red_72 rfl (Nat.le_of_ble_eq_true rfl) (by decide) (kk_PI (fun v14 => ?_))
        exact (g_iret dX11_red_75)
      refine g_case (t := 76) (off := 57) (2 : Int32) dX11_red_19 (by decide +kernel) (by decide) ?_ (fun h21 => ?_)
      · refine g_aload_n (q := 77) 0 dX11_red_76 rfl rfl rfl ?_
        refine g_iload_n (q := 78) 1 dX11_red_77 rfl rfl rfl ?_
        refine g_callO (As := [.int a1]) (st := []) (cn_X11_upSet) shX11 rfl cwX11_403 rfl dX11_red_78 rfl (Nat.le_of_ble_eq_true rfl) (by decide) (kk_I (fun v17 s18 => ?_))
        refine g_callT (As := [.int v17]) (st := []) (cn_X11_bits) cwX11_406 rfl dX11_red_81 rfl (Nat.le_of_ble_eq_true rfl) (by decide) (kk_PI (fun v19 => ?_))
        exact (g_iret dX11_red_84)
      refine g_case (t := 85) (off := 66) (3 : Int32) dX11_red_19 (by decide +kernel) (by decide) ?_ (fun h24 => ?_)
      · refine g_aload_n (q := 86) 0 dX11_red_85 rfl rfl rfl ?_
        refine g_iload_n (q := 87) 2 dX11_red_86 rfl rfl rfl ?_
        refine g_callO (As := [.int a2]) (st := []) (cn_X11_tries) shX11 rfl cwX11_441 rfl dX11_red_87 rfl (Nat.le_of_ble_eq_true rfl) (by decide) (kk_PI (fun v22 => ?_))
        exact (g_iret dX11_red_90)
      refine g_case (t := 91) (off := 72) (4 : Int32) dX11_red_19 (by decide +kernel) (by decide) ?_ (fun h27 => ?_)
      · refine g_aload_n (q := 92) 0 dX11_red_91 rfl rfl rfl ?_
        refine g_iload_n (q := 93) 1 dX11_red_92 rfl rfl rfl ?_
        refine g_iload_n (q := 94) 2 dX11_red_93 rfl rfl rfl ?_
        refine g_callO (As := [.int a1, .int a2]) (st := []) (cn_X11_stands) shX11 rfl cwX11_449 rfl dX11_red_94 rfl (Nat.le_of_ble_eq_true rfl) (by decide) (kk_I (fun v25 s26 => ?_))
        refine g_if_eq (t := 104) (q := 100) dX11_red_97 (by decide) rfl ?_ ?_
        · refine g_iconst (q := 105) dX11_red_104 kI_0 rfl ?_
          exact (g_iret dX11_red_105)
        · refine g_iconst (q := 101) dX11_red_100 kI_1 rfl ?_
          refine g_goto (t := 105) dX11_red_101 (by decide) ?_
          exact (g_iret dX11_red_105)
      refine g_dflt (t := 106) [(0 : Int32), (1 : Int32), (2 : Int32), (3 : Int32), (4 : Int32)] dX11_red_19 (by decide +kernel) (fun v hv => by simp only [List.mem_cons, List.not_mem_nil, or_false] at hv; rcases hv with rfl | rfl | rfl | rfl | rfl <;> assumption) (by decide) ?_
      refine g_iconst (q := 107) dX11_red_106 kI_m1 rfl ?_
      exact (g_iret dX11_red_107)
noncomputable def pX11_odds (a1 : Int32) (a2 : Int32) (a3 : Int32) (σ : gS) : Option (Int64 × gS) := bn1 (pX11_isSign a1 σ) (fun v1 => if v1 = 0 then some ((-1 : Int64), σ) else bn1 (pX11_isKnown a2 σ) (fun v3 => if v3 = 0 then some ((-1 : Int64), σ) else if a3 = 0 then bn2 (pX11_upSet a1 σ) (fun v5 s6 => bn1 (pX11_allIn v5 s6) (fun v7 => some (v7, s6))) else bn2 (pX11_upSet a1 σ) (fun v9 s10 => bn1 (pX11_listSet a2 s10) (fun v11 => bn1 (pX11_moreIn v9 v11 s10) (fun v13 => some (v13, s10))))))
set_option maxRecDepth 100000 in
theorem cn_X11_odds {G : gG} {b : Nat} {a1 : Int32} {a2 : Int32} {a3 : Int32} {σ : gS} : CN vR G b 6 yX11_odds cX11_odds 4 (some .long) kL [.ref (b + 0), .int a1, .int a2, .int a3] σ (pX11_odds a1 a2 a3 σ) := by
  refine cn_of (own := RX11) rfl rfl (Nat.le_of_ble_eq_true rfl) ?_
  show GF vR G b (6, 0, 0) RX11 cX11_odds 4 (some .long) kL 0 [(0, .ref (b + 0)), (1, .int a1), (2, .int a2), (3, .int a3)] [] σ (pX11_odds a1 a2 a3 σ)
  unfold pX11_odds
  refine g_aload_n (q := 1) 0 dX11_odds_0 rfl rfl rfl ?_
  refine g_iload_n (q := 2) 1 dX11_odds_1 rfl rfl rfl ?_
  refine g_callO (As := [.int a1]) (st := []) (cn_X11_isSign) shX11 rfl cwX11_400 rfl dX11_odds_2 rfl (Nat.le_of_ble_eq_true rfl) (by decide) (kk_PI (fun v1 => ?_))
  refine g_if_eq (t := 16) (q := 8) dX11_odds_5 (by decide) rfl ?_ ?_
  · refine g_ldc2 (q := 19) dX11_odds_16 ww1527 rfl ?_
    exact (g_lret dX11_odds_19)
  · refine g_aload_n (q := 9) 0 dX11_odds_8 rfl rfl rfl ?_
    refine g_iload_n (q := 10) 2 dX11_odds_9 rfl rfl rfl ?_
    refine g_callO (As := [.int a2]) (st := []) (cn_X11_isKnown) shX11 rfl cwX11_432 rfl dX11_odds_10 rfl (Nat.le_of_ble_eq_true rfl) (by decide) (kk_PI (fun v3 => ?_))
    refine g_if_ne (t := 20) (q := 16) dX11_odds_13 (by decide) rfl ?_ ?_
    · refine g_ldc2 (q := 19) dX11_odds_16 ww1527 rfl ?_
      exact (g_lret dX11_odds_19)
    · refine g_iload_n (q := 21) 3 dX11_odds_20 rfl rfl rfl ?_
      refine g_if_eq (t := 41) (q := 24) dX11_odds_21 (by decide) rfl ?_ ?_
      · refine g_aload_n (q := 42) 0 dX11_odds_41 rfl rfl rfl ?_
        refine g_aload_n (q := 43) 0 dX11_odds_42 rfl rfl rfl ?_
        refine g_iload_n (q := 44) 1 dX11_odds_43 rfl rfl rfl ?_
        refine g_callO (As := [.int a1]) (st := [.ref (b + 0)]) (cn_X11_upSet) shX11 rfl cwX11_403 rfl dX11_odds_44 rfl (Nat.le_of_ble_eq_true rfl) (by decide) (kk_I (fun v5 s6 => ?_))
        refine g_callO (As := [.int v5]) (st := []) (cn_X11_allIn) shX11 rfl cwX11_418 rfl dX11_odds_47 rfl (Nat.le_of_ble_eq_true rfl) (by decide) (kk_PL (fun v7 => ?_))
        exact (g_lret dX11_odds_50)
      · refine g_aload_n (q := 25) 0 dX11_odds_24 rfl rfl rfl ?_
        refine g_aload_n (q := 26) 0 dX11_odds_25 rfl rfl rfl ?_
        refine g_iload_n (q := 27) 1 dX11_odds_26 rfl rfl rfl ?_
        refine g_callO (As := [.int a1]) (st := [.ref (b + 0)]) (cn_X11_upSet) shX11 rfl cwX11_403 rfl dX11_odds_27 rfl (Nat.le_of_ble_eq_true rfl) (by decide) (kk_I (fun v9 s10 => ?_))
        refine g_aload_n (q := 31) 0 dX11_odds_30 rfl rfl rfl ?_
        refine g_iload_n (q := 32) 2 dX11_odds_31 rfl rfl rfl ?_
        refine g_callO (As := [.int a2]) (st := [.int v9, .ref (b + 0)]) (cn_X11_listSet) shX11 rfl cwX11_444 rfl dX11_odds_32 rfl (Nat.le_of_ble_eq_true rfl) (by decide) (kk_PI (fun v11 => ?_))
        refine g_callO (As := [.int v9, .int v11]) (st := []) (cn_X11_moreIn) shX11 rfl cwX11_415 rfl dX11_odds_35 rfl (Nat.le_of_ble_eq_true rfl) (by decide) (kk_PL (fun v13 => ?_))
        refine g_goto (t := 50) dX11_odds_38 (by decide) ?_
        exact (g_lret dX11_odds_50)
noncomputable def pX11_turned (a1 : Int32) (a2 : Int32) (σ : gS) : Option (Int32 × gS) := bn1 (pX11_isSign a1 σ) (fun v1 => if v1 = 0 then some ((-1 : Int32), σ) else bn1 (pX11_in a2 (0 : Int32) ((σ.1 0 60) - (1 : Int32))) (fun v3 => if v3 = 0 then some ((-1 : Int32), σ) else bnS (lpP (fun (z6 : (Int32 × gS)) => if (z6.2.1 0 60) ≤ z6.1 then some (.inr (.inl z6.2)) else bn2 (pX11_stands a1 z6.1 z6.2) (fun v7 s8 => bn2 (pX11_stands a1 (z6.1 + (1 : Int32)) s8) (fun v9 s10 => if v7 = v9 then lt' (z6.1 + (1 : Int32)) (fun x11 => some (.inl (x11, s10))) else some (.inr (.inr (z6.1, s10)))))) (a2, σ)) (fun (z5 : gS) => some ((-1 : Int32), z5))))
set_option maxRecDepth 100000 in
theorem cn_X11_turned {G : gG} {b : Nat} {a1 : Int32} {a2 : Int32} {σ : gS} : CN vR G b 7 yX11_turned cX11_turned 4 (some .int) kI [.ref (b + 0), .int a1, .int a2] σ (pX11_turned a1 a2 σ) := by
  refine cn_of (own := RX11) rfl rfl (Nat.le_of_ble_eq_true rfl) ?_
  show GF vR G b (7, 0, 0) RX11 cX11_turned 4 (some .int) kI 0 [(0, .ref (b + 0)), (1, .int a1), (2, .int a2)] [] σ (pX11_turned a1 a2 σ)
  unfold pX11_turned
  refine g_aload_n (q := 1) 0 dX11_turned_0 rfl rfl rfl ?_
  refine g_iload_n (q := 2) 1 dX11_turned_1 rfl rfl rfl ?_
  refine g_callO (As := [.int a1]) (st := []) (cn_X11_isSign) shX11 rfl cwX11_400 rfl dX11_turned_2 rfl (Nat.le_of_ble_eq_true rfl) (by decide) (kk_PI (fun v1 => ?_))
  refine g_if_eq (t := 22) (q := 8) dX11_turned_5 (by decide) rfl ?_ ?_
  · refine g_iconst (q := 23) dX11_turned_22 kI_m1 rfl ?_
    exact (g_iret dX11_turned_23)
  · refine g_iload_n (q := 9) 2 dX11_turned_8 rfl rfl rfl ?_
    refine g_iconst (q := 10) dX11_turned_9 kI_0 rfl ?_
    refine g_aload_n (q := 11) 0 dX11_turned_10 rfl rfl rfl ?_
    refine g_getI (q := 14) fX11_facts dX11_turned_11 ww1102 rfl ?_
    refine g_iconst (q := 15) dX11_turned_14 kI_1 rfl ?_
    refine g_isub (q := 16) dX11_turned_15 rfl ?_
    refine g_callT (As := [.int a2, .int (0 : Int32), .int ((σ.1 0 60) - (1 : Int32))]) (st := []) (cn_X11_in) cwX11_313 rfl dX11_turned_16 rfl (Nat.le_of_ble_eq_true rfl) (by decide) (kk_PI (fun v3 => ?_))
    refine g_if_ne (t := 24) (q := 22) dX11_turned_19 (by decide) rfl ?_ ?_
    · refine g_iconst (q := 23) dX11_turned_22 kI_m1 rfl ?_
      exact (g_iret dX11_turned_23)
    · refine g_iload_n (q := 25) 2 dX11_turned_24 rfl rfl rfl ?_
      refine g_istore_n (lr := [(0, .ref (b + 0)), (1, .int a1), (2, .int a2)]) (q := 26) dX11_turned_25 rfl (by decide) rfl rfl ?_
      refine g_bindS (S := gS) (hd := 59) (lvf := fun z5 => []) (stf := fun z5 => []) (σf := fun z5 => z5) ?_ (fun z5 => ?_)
      · refine g_sub (lr := [(3, .int a2), (0, .ref (b + 0)), (1, .int a1)]) [0, 1, 2] rfl ?_
        refine g_loop (S := (Int32 × gS)) (lvf := fun z6 => [(3, .int z6.1), (0, .ref (b + 0)), (1, .int a1)]) (σf := fun z6 => z6.2) (fun z6 => ?_) (a2, σ)
        refine g_iload_n (q := 27) 0 dX11_turned_26 rfl rfl rfl ?_
        refine g_aload_n (q := 28) 1 dX11_turned_27 rfl rfl rfl ?_
        refine g_getI (q := 31) fX11_facts dX11_turned_28 ww1102 rfl ?_
        refine g_icmp_ge (t := 59) (q := 34) dX11_turned_31 (by decide) rfl ?_ ?_
        · refine g_sub (lr := []) [] rfl ?_
          exact (g_leave (g_thereS (z6.2 : gS)))
        · refine g_aload_n (q := 35) 1 dX11_turned_34 rfl rfl rfl ?_
          refine g_iload_n (q := 36) 2 dX11_turned_35 rfl rfl rfl ?_
          refine g_iload_n (q := 37) 0 dX11_turned_36 rfl rfl rfl ?_
          refine g_callO (As := [.int a1, .int z6.1]) (st := []) (cn_X11_stands) shX11 rfl cwX11_449 rfl dX11_turned_37 rfl (Nat.le_of_ble_eq_true rfl) (by decide) (kk_I (fun v7 s8 => ?_))
          refine g_aload_n (q := 41) 1 dX11_turned_40 rfl rfl rfl ?_
          refine g_iload_n (q := 42) 2 dX11_turned_41 rfl rfl rfl ?_
          refine g_iload_n (q := 43) 0 dX11_turned_42 rfl rfl rfl ?_
          refine g_iconst (q := 44) dX11_turned_43 kI_1 rfl ?_
          refine g_iadd (q := 45) dX11_turned_44 rfl ?_
          refine g_callO (As := [.int a1, .int (z6.1 + (1 : Int32))]) (st := [.int v7]) (cn_X11_stands) shX11 rfl cwX11_449 rfl dX11_turned_45 rfl (Nat.le_of_ble_eq_true rfl) (by decide) (kk_I (fun v9 s10 => ?_))
          refine g_icmp_eq (t := 53) (q := 51) dX11_turned_48 (by decide) rfl ?_ ?_
          · refine g_iinc (lr := [(0, .ref (b + 0)), (1, .int a1)]) (q := 56) 0 dX11_turned_53 rfl kI_1 (by decide) rfl rfl (fun x11 => ?_)
            refine g_goto (t := 26) dX11_turned_56 (by decide) ?_
            exact (g_again ((x11, s10) : (Int32 × gS)))
          · refine g_iload_n (q := 52) 0 dX11_turned_51 rfl rfl rfl ?_
            exact (g_leave (g_right (g_iret dX11_turned_52)))
      · refine g_iconst (q := 60) dX11_turned_59 kI_m1 rfl ?_
        exact (g_iret dX11_turned_60)
noncomputable def pX11_count (a1 : Int32) (σ : gS) : Option (Int32) := if a1 = (0 : Int32) then some (σ.1 0 51) else if a1 = (1 : Int32) then gx (σ.1 0 18) 2 (some (σ.1 11 (σ.1 0 18).toNatClampNeg)) else if a1 = (2 : Int32) then gx (σ.1 0 18) 2 (some (σ.1 12 (σ.1 0 18).toNatClampNeg)) else if a1 = (3 : Int32) then gx (σ.1 0 18) 2 (some (σ.1 13 (σ.1 0 18).toNatClampNeg)) else if a1 = (4 : Int32) then gx (σ.1 0 18) 2 (some (σ.1 14 (σ.1 0 18).toNatClampNeg)) else if a1 = (5 : Int32) then gx (σ.1 0 18) 2 (some (σ.1 16 (σ.1 0 18).toNatClampNeg)) else if a1 = (6 : Int32) then some (σ.1 0 60) else if a1 = (7 : Int32) then some (σ.1 0 2) else some ((-1 : Int32))
set_option maxRecDepth 100000 in
theorem cn_X11_count {G : gG} {b : Nat} {a1 : Int32} {σ : gS} : CN vR G b 1 yX11_count cX11_count 2 (some .int) (kPI σ) [.ref (b + 0), .int a1] σ (pX11_count a1 σ) := by
  refine cn_of (own := RX11) rfl rfl (Nat.le_of_ble_eq_true rfl) ?_
  show GF vR G b (1, 0, 0) RX11 cX11_count 2 (some .int) (kPI σ) 0 [(0, .ref (b + 0)), (1, .int a1)] [] σ (pX11_count a1 σ)
  unfold pX11_count
  refine g_iload_n (q := 1) 1 dX11_count_0 rfl rfl rfl ?_
  refine g_case (t := 48) (off := 47) (0 : Int32) dX11_count_1 (by decide +kernel) (by decide) ?_ (fun h1 => ?_)
  · refine g_aload_n (q := 49) 0 dX11_count_48 rfl rfl rfl ?_
    refine g_getI (q := 52) fX11_people dX11_count_49 ww1093 rfl ?_
    exact (g_iretP dX11_count_52)
  refine g_case (t := 53) (off := 52) (1 : Int32) dX11_count_1 (by decide +kernel) (by decide) ?_ (fun h2 => ?_)
  · refine g_aload_n (q := 54) 0 dX11_count_53 rfl rfl rfl ?_
    refine g_getA (q := 57) fX11_signs dX11_count_54 ww1066 rfl ?_
    refine g_aload_n (q := 58) 0 dX11_count_57 rfl rfl rfl ?_
    refine g_getI (q := 61) fX11_live dX11_count_58 ww1060 rfl ?_
    refine g_iald (q := 62) (aX11_signs) dX11_count_61 rfl ?_
    exact (g_iretP dX11_count_62)
  refine g_case (t := 63) (off := 62) (2 : Int32) dX11_count_1 (by decide +kernel) (by decide) ?_ (fun h3 => ?_)
  · refine g_aload_n (q := 64) 0 dX11_count_63 rfl rfl rfl ?_
    refine g_getA (q := 67) fX11_says dX11_count_64 ww1067 rfl ?_
    refine g_aload_n (q := 68) 0 dX11_count_67 rfl rfl rfl ?_
    refine g_getI (q := 71) fX11_live dX11_count_68 ww1060 rfl ?_
    refine g_iald (q := 72) (aX11_says) dX11_count_71 rfl ?_
    exact (g_iretP dX11_count_72)
  refine g_case (t := 73) (off := 72) (3 : Int32) dX11_count_1 (by decide +kernel) (by decide) ?_ (fun h4 => ?_)
  · refine g_aload_n (q := 74) 0 dX11_count_73 rfl rfl rfl ?_
    refine g_getA (q := 77) fX11_books dX11_count_74 ww1068 rfl ?_
    refine g_aload_n (q := 78) 0 dX11_count_77 rfl rfl rfl ?_
    refine g_getI (q := 81) fX11_live dX11_count_78 ww1060 rfl ?_
    refine g_iald (q := 82) (aX11_books) dX11_count_81 rfl ?_
    exact (g_iretP dX11_count_82)
  refine g_case (t := 83) (off := 82) (4 : Int32) dX11_count_1 (by decide +kernel) (by decide) ?_ (fun h5 => ?_)
  · refine g_aload_n (q := 84) 0 dX11_count_83 rfl rfl rfl ?_
    refine g_getA (q := 87) fX11_laws dX11_count_84 ww1069 rfl ?_
    refine g_aload_n (q := 88) 0 dX11_count_87 rfl rfl rfl ?_
    refine g_getI (q := 91) fX11_live dX11_count_88 ww1060 rfl ?_
    refine g_iald (q := 92) (aX11_laws) dX11_count_91 rfl ?_
    exact (g_iretP dX11_count_92)
  refine g_case (t := 93) (off := 92) (5 : Int32) dX11_count_1 (by decide +kernel) (by decide) ?_ (fun h6 => ?_)
  · refine g_aload_n (q := 94) 0 dX11_count_93 rfl rfl rfl ?_
    refine g_getA (q := 97) fX11_whens dX11_count_94 ww1071 rfl ?_
    refine g_aload_n (q := 98) 0 dX11_count_97 rfl rfl rfl ?_
    refine g_getI (q := 101) fX11_live dX11_count_98 ww1060 rfl ?_
    refine g_iald (q := 102) (aX11_whens) dX11_count_101 rfl ?_
    exact (g_iretP dX11_count_102)
  refine g_case (t := 103) (off := 102) (6 : Int32) dX11_count_1 (by decide +kernel) (by decide) ?_ (fun h7 => ?_)
  · refine g_aload_n (q := 104) 0 dX11_count_103 rfl rfl rfl ?_
    refine g_getI (q := 107) fX11_facts dX11_count_104 ww1102 rfl ?_
    exact (g_iretP dX11_count_107)
  refine g_case (t := 108) (off := 107) (7 : Int32) dX11_count_1 (by decide +kernel) (by decide) ?_ (fun h8 => ?_)
  · refine g_aload_n (q := 109) 0 dX11_count_108 rfl rfl rfl ?_
    refine g_getI (q := 112) fX11_taped dX11_count_109 ww1044 rfl ?_
    exact (g_iretP dX11_count_112)
  refine g_dflt (t := 113) [(0 : Int32), (1 : Int32), (2 : Int32), (3 : Int32), (4 : Int32), (5 : Int32), (6 : Int32), (7 : Int32)] dX11_count_1 (by decide +kernel) (fun v hv => by simp only [List.mem_cons, List.not_mem_nil, or_false] at hv; rcases hv with rfl | rfl | rfl | rfl | rfl | rfl | rfl | rfl <;> assumption) (by decide) ?_
  refine g_iconst (q := 114) dX11_count_113 kI_m1 rfl ?_
  exact (g_iretP dX11_count_114)
noncomputable def pJ0_coder_7d493  : Option (Int32) := if (1 : Int32) = 0 then nrw .byte (1 : Int32) else nrw .byte (0 : Int32)
set_option maxRecDepth 100000 in
theorem cn_J0_coder_7d493 {G : gG} {b : Nat} {V : gV} {σ : gS} : CN V G b 1 yJ0_coder_7d493 cJ0_coder_7d493 1 (some .byte) (kPI σ) [.ref G.2.2.2.1] σ (pJ0_coder_7d493) := by
  refine cn_ofF (own := RJ0) (by decide +kernel) rfl (Nat.le_of_ble_eq_true rfl) ?_
  show GF V G b (1, 0, 0) RJ0 cJ0_coder_7d493 1 (some .byte) (kPI σ) 0 [(0, .ref G.2.2.2.1)] [] σ (pJ0_coder_7d493)
  unfold pJ0_coder_7d493
  refine g_strZ (q := 3) dJ0_coder_7d493_0 ww65 rfl ?_
  refine g_if_eq (t := 13) (q := 6) dJ0_coder_7d493_3 (by decide) rfl ?_ ?_
  · refine g_iconst (q := 14) dJ0_coder_7d493_13 kI_1 rfl ?_
    exact g_nret dJ0_coder_7d493_14
  · refine g_aload_n (q := 7) 0 dJ0_coder_7d493_6 rfl rfl rfl ?_
    refine g_strC (q := 10) dJ0_coder_7d493_7 ww1671 rfl ?_
    refine g_goto (t := 14) dJ0_coder_7d493_10 (by decide) ?_
    exact g_nret dJ0_coder_7d493_14
