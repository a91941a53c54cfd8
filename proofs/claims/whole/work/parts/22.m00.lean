def pJ3_checkIndex_8e157 (a1 a2 : Int32) : Option Int32 := if a1 < 0 then none else if a1 < a2 then some a1 else none
theorem cn_J3_checkIndex_8e157 {V : gV} {G : gG} {b : Nat} {a1 a2 : Int32} {v : Value} {σ : gS} (hv : v = .null ∨ ∃ a : Nat, v = .ref a) : CN V G b 1 yJ3_checkIndex_8e157 cJ3_checkIndex_8e157 3 (some .int) (kPI σ) [.int a1, .int a2, v] σ (pJ3_checkIndex_8e157 a1 a2) := by
  rcases hv with rfl | ⟨a, rfl⟩
  all_goals
    refine cn_ofF (own := RJ3) (by decide +kernel) rfl (Nat.le_of_ble_eq_true rfl) ?_
    unfold pJ3_checkIndex_8e157
    refine g_iload_n (q := 1) 0 dJ3_checkIndex_8e157_0 rfl rfl rfl ?_
    refine g_if_lt (t := 9) (q := 4) dJ3_checkIndex_8e157_1 (by decide) rfl ?_ ?_
    · exact g_none
    · refine g_iload_n (q := 5) 0 dJ3_checkIndex_8e157_4 rfl rfl rfl ?_
      refine g_iload_n (q := 6) 1 dJ3_checkIndex_8e157_5 rfl rfl rfl ?_
      refine g_icmp_lt (t := 16) (q := 9) dJ3_checkIndex_8e157_6 (by decide) rfl ?_ ?_
      · refine g_iload_n (q := 17) 0 dJ3_checkIndex_8e157_16 rfl rfl rfl ?_
        exact g_iretP dJ3_checkIndex_8e157_17
      · exact g_none
def pJ0_checkIndex_df160 (a1 a2 : Int32) : Option Unit := bn1 (pJ3_checkIndex_8e157 a1 a2) (fun _ => some ())
theorem cn_J0_checkIndex_df160 {V : gV} {G : gG} {b : Nat} {a1 a2 : Int32} {σ : gS} : CN V G b 2 yJ0_checkIndex_df160 cJ0_checkIndex_df160 2 none (kPV σ) [.int a1, .int a2] σ (pJ0_checkIndex_df160 a1 a2) := by
  refine cn_ofF (own := RJ0) (by decide +kernel) rfl (Nat.le_of_ble_eq_true rfl) ?_
  unfold pJ0_checkIndex_df160
  refine g_iload_n (q := 1) 0 dJ0_checkIndex_df160_0 rfl rfl rfl ?_
  refine g_iload_n (q := 2) 1 dJ0_checkIndex_df160_1 rfl rfl rfl ?_
  refine g_fmt (q := 5) dJ0_checkIndex_df160_2 ww81 rfl (fun hv => ?_)
  refine g_callT (As := [.int a1, .int a2, G.2.2.2.2.2]) (st := []) (cn_J3_checkIndex_8e157 hv) cwJ0_1059 rfl dJ0_checkIndex_df160_5 rfl (Nat.le_of_ble_eq_true rfl) (by decide) (kk_PI (fun v => ?_))
  refine g_pop (q := 9) dJ0_checkIndex_df160_8 rfl rfl ?_
  exact g_vretP dJ0_checkIndex_df160_9
noncomputable def pX6_addFour (a1 : Int32) (σ : gS) : Option (gS) := bn1 (lpP (fun (z2 : (Int32 × gS)) => if z2.1 < 0 then some (.inr z2.2) else if (2000 : Int32) ≤ (z2.2.1 1 1) then lt' (z2.1 + (-8 : Int32)) (fun x3 => some (.inl (x3, z2.2))) else gx (z2.2.1 1 1) 2000 (lt' (wI z2.2 2 (z2.2.1 1 1).toNatClampNeg ((ushrI a1 z2.1) &&& (255 : Int32))) (fun s4 => lt' (wI s4 1 1 ((s4.1 1 1) + (1 : Int32))) (fun s5 => lt' (z2.1 + (-8 : Int32)) (fun x6 => some (.inl (x6, s5))))))) ((24 : Int32), σ)) (fun (z1 : gS) => some z1)
set_option maxRecDepth 100000 in
theorem cn_X6_addFour {G : gG} {b : Nat} {a1 : Int32} {σ : gS} : CN vC G b 1 yX6_addFour cX6_addFour 3 none kV [.ref (b + 1), .int a1] σ (pX6_addFour a1 σ) := by
  refine cn_of (own := RX6) rfl rfl (Nat.le_of_ble_eq_true rfl) ?_
  show GF vC G b (1, 0, 0) RX6 cX6_addFour 3 none kV 0 [(0, .ref (b + 1)), (1, .int a1)] [] σ (pX6_addFour a1 σ)
  unfold pX6_addFour
  refine g_bipush (q := 2) dX6_addFour_0 kB_24 rfl ?_
  refine g_istore_n (lr := [(0, .ref (b + 1)), (1, .int a1)]) (q := 3) dX6_addFour_2 rfl (by decide) rfl rfl ?_
  refine g_bind (S := gS) (hd := 49) (lvf := fun z1 => []) (stf := fun z1 => []) (σf := fun z1 => z1) ?_ (fun z1 => ?_)
  · refine g_loop (S := (Int32 × gS)) (lvf := fun z2 => [(2, .int z2.1), (0, .ref (b + 1)), (1, .int a1)]) (σf := fun z2 => z2.2) (fun z2 => ?_) ((24 : Int32), σ)
    refine g_iload_n (q := 4) 0 dX6_addFour_3 rfl rfl rfl ?_
    refine g_if_lt (t := 49) (q := 7) dX6_addFour_4 (by decide) rfl ?_ ?_
    · refine g_sub (lr := []) [] rfl ?_
      exact (g_leave (g_there (z2.2 : gS)))
    · refine g_aload_n (q := 8) 1 dX6_addFour_7 rfl rfl rfl ?_
      refine g_getI (q := 11) fX6_length dX6_addFour_8 ww36 rfl ?_
      refine g_sipush (q := 14) dX6_addFour_11 kS_2000 rfl ?_
      refine g_icmp_ge (t := 43) (q := 17) dX6_addFour_14 (by decide) rfl ?_ ?_
      · refine g_iinc (lr := [(0, .ref (b + 1)), (1, .int a1)]) (q := 46) 0 dX6_addFour_43 rfl kI_m8 (by decide) rfl rfl (fun x3 => ?_)
        refine g_goto (t := 3) dX6_addFour_46 (by decide) ?_
        exact (g_again ((x3, z2.2) : (Int32 × gS)))
      · refine g_aload_n (q := 18) 1 dX6_addFour_17 rfl rfl rfl ?_
        refine g_getA (q := 21) fX6_bytes dX6_addFour_18 ww35 rfl ?_
        refine g_aload_n (q := 22) 1 dX6_addFour_21 rfl rfl rfl ?_
        refine g_getI (q := 25) fX6_length dX6_addFour_22 ww36 rfl ?_
        refine g_iload_n (q := 26) 2 dX6_addFour_25 rfl rfl rfl ?_
        refine g_iload_n (q := 27) 0 dX6_addFour_26 rfl rfl rfl ?_
        refine g_iushr (q := 28) dX6_addFour_27 rfl ?_
        refine g_sipush (q := 31) dX6_addFour_28 kS_255 rfl ?_
        refine g_iand (q := 32) dX6_addFour_31 rfl ?_
        refine g_iast (q := 33) (aX6_bytes) dX6_addFour_32 rfl (fun s4 => ?_)
        refine g_aload_n (q := 34) 1 dX6_addFour_33 rfl rfl rfl ?_
        refine g_dup (q := 35) dX6_addFour_34 rfl rfl ?_
        refine g_getI (q := 38) fX6_length dX6_addFour_35 ww36 rfl ?_
        refine g_iconst (q := 39) dX6_addFour_38 kI_1 rfl ?_
        refine g_iadd (q := 40) dX6_addFour_39 rfl ?_
        refine g_putI (q := 43) fX6_length pwX6_length okTX6 dX6_addFour_40 ww36 rfl (fun s5 => ?_)
        refine g_iinc (lr := [(0, .ref (b + 1)), (1, .int a1)]) (q := 46) 0 dX6_addFour_43 rfl kI_m8 (by decide) rfl rfl (fun x6 => ?_)
        refine g_goto (t := 3) dX6_addFour_46 (by decide) ?_
        exact (g_again ((x6, s5) : (Int32 × gS)))
  · exact (g_vret dX6_addFour_49)
noncomputable def pX10_feed (a1 : Int32) (a2 : Int32) (a3 : Int32) (a4 : Int32) (a5 : Int32) (σ : gS) : Option (Int32 × gS) := if ((σ.1 1 1) + (20 : Int32)) ≤ (2000 : Int32) then bn1 (pX6_addFour a1 σ) (fun s2 => bn1 (pX6_addFour a2 s2) (fun s4 => bn1 (pX6_addFour a3 s4) (fun s6 => bn1 (pX6_addFour a4 s6) (fun s8 => bn1 (pX6_addFour a5 s8) (fun s10 => some (s10.1 1 1, s10)))))) else some ((-1 : Int32), σ)
set_option maxRecDepth 100000 in
theorem cn_X10_feed {G : gG} {b : Nat} {a1 : Int32} {a2 : Int32} {a3 : Int32} {a4 : Int32} {a5 : Int32} {σ : gS} : CN vC G b 2 yX10_feed cX10_feed 6 (some .int) kI [.ref (b + 0), .int a1, .int a2, .int a3, .int a4, .int a5] σ (pX10_feed a1 a2 a3 a4 a5 σ) := by
  refine cn_of (own := RX10) rfl rfl (Nat.le_of_ble_eq_true rfl) ?_
  show GF vC G b (2, 0, 0) RX10 cX10_feed 6 (some .int) kI 0 [(0, .ref (b + 0)), (1, .int a1), (2, .int a2), (3, .int a3), (4, .int a4), (5, .int a5)] [] σ (pX10_feed a1 a2 a3 a4 a5 σ)
  unfold pX10_feed
  refine g_aload_n (q := 1) 0 dX10_feed_0 rfl rfl rfl ?_
  refine g_getA (q := 4) fX10_tape dX10_feed_1 ww377 rfl ?_
  refine g_getI (q := 7) fX6_length dX10_feed_4 ww37 rfl ?_
  refine g_bipush (q := 9) dX10_feed_7 kB_20 rfl ?_
  refine g_iadd (q := 10) dX10_feed_9 rfl ?_
  refine g_sipush (q := 13) dX10_feed_10 kS_2000 rfl ?_
  refine g_icmp_le (t := 18) (q := 16) dX10_feed_13 (by decide) rfl ?_ ?_
  · refine g_aload_n (q := 19) 0 dX10_feed_18 rfl rfl rfl ?_
    refine g_getA (q := 22) fX10_tape dX10_feed_19 ww377 rfl ?_
    refine g_iload_n (q := 23) 1 dX10_feed_22 rfl rfl rfl ?_
    refine g_callO (As := [.int a1]) (st := []) (cn_X6_addFour) shX6 rfl cwX10_64 rfl dX10_feed_23 rfl (Nat.le_of_ble_eq_true rfl) (by decide) (kk_V (fun s2 => ?_))
    refine g_aload_n (q := 27) 0 dX10_feed_26 rfl rfl rfl ?_
    refine g_getA (q := 30) fX10_tape dX10_feed_27 ww377 rfl ?_
    refine g_iload_n (q := 31) 2 dX10_feed_30 rfl rfl rfl ?_
    refine g_callO (As := [.int a2]) (st := []) (cn_X6_addFour) shX6 rfl cwX10_64 rfl dX10_feed_31 rfl (Nat.le_of_ble_eq_true rfl) (by decide) (kk_V (fun s4 => ?_))
    refine g_aload_n (q := 35) 0 dX10_feed_34 rfl rfl rfl ?_
    refine g_getA (q := 38) fX10_tape dX10_feed_35 ww377 rfl ?_
    refine g_iload_n (q := 39) 3 dX10_feed_38 rfl rfl rfl ?_
    refine g_callO (As := [.int a3]) (st := []) (cn_X6_addFour) shX6 rfl cwX10_64 rfl dX10_feed_39 rfl (Nat.le_of_ble_eq_true rfl) (by decide) (kk_V (fun s6 => ?_))
    refine g_aload_n (q := 43) 0 dX10_feed_42 rfl rfl rfl ?_
    refine g_getA (q := 46) fX10_tape dX10_feed_43 ww377 rfl ?_
    refine g_iload (q := 48) 4 dX10_feed_46 rfl rfl ?_
    refine g_callO (As := [.int a4]) (st := []) (cn_X6_addFour) shX6 rfl cwX10_64 rfl dX10_feed_48 rfl (Nat.le_of_ble_eq_true rfl) (by decide) (kk_V (fun s8 => ?_))
    refine g_aload_n (q := 52) 0 dX10_feed_51 rfl rfl rfl ?_
    refine g_getA (q := 55) fX10_tape dX10_feed_52 ww377 rfl ?_
    refine g_iload (q := 57) 5 dX10_feed_55 rfl rfl ?_
    refine g_callO (As := [.int a5]) (st := []) (cn_X6_addFour) shX6 rfl cwX10_64 rfl dX10_feed_57 rfl (Nat.le_of_ble_eq_true rfl) (by decide) (kk_V (fun s10 => ?_))
    refine g_aload_n (q := 61) 0 dX10_feed_60 rfl rfl rfl ?_
    refine g_getA (q := 64) fX10_tape dX10_feed_61 ww377 rfl ?_
    refine g_getI (q := 67) fX6_length dX10_feed_64 ww37 rfl ?_
    exact (g_iret dX10_feed_67)
  · refine g_iconst (q := 17) dX10_feed_16 kI_m1 rfl ?_
    exact (g_iret dX10_feed_17)
noncomputable def pX10_back (a1 : Int32) (σ : gS) : Option (Int32 × gS) := if a1 < 0 then some ((-1 : Int32), σ) else if a1 ≤ (σ.1 1 1) then lt' (wI σ 1 1 ((σ.1 1 1) - a1)) (fun s1 => some (s1.1 1 1, s1)) else some ((-1 : Int32), σ)
set_option maxRecDepth 100000 in
theorem cn_X10_back {G : gG} {b : Nat} {a1 : Int32} {σ : gS} : CN vC G b 1 yX10_back cX10_back 2 (some .int) kI [.ref (b + 0), .int a1] σ (pX10_back a1 σ) := by
  refine cn_of (own := RX10) rfl rfl (Nat.le_of_ble_eq_true rfl) ?_
  show GF vC G b (1, 0, 0) RX10 cX10_back 2 (some .int) kI 0 [(0, .ref (b + 0)), (1, .int a1)] [] σ (pX10_back a1 σ)
  unfold pX10_back
  refine g_iload_n (q := 1) 1 dX10_back_0 rfl rfl rfl ?_
  refine g_if_lt (t := 15) (q := 4) dX10_back_1 (by decide) rfl ?_ ?_
  · refine g_iconst (q := 16) dX10_back_15 kI_m1 rfl ?_
    exact (g_iret dX10_back_16)
  · refine g_iload_n (q := 5) 1 dX10_back_4 rfl rfl rfl ?_
    refine g_aload_n (q := 6) 0 dX10_back_5 rfl rfl rfl ?_
    refine g_getA (q := 9) fX10_tape dX10_back_6 ww377 rfl ?_
    refine g_getI (q := 12) fX6_length dX10_back_9 ww37 rfl ?_
    refine g_icmp_le (t := 17) (q := 15) dX10_back_12 (by decide) rfl ?_ ?_
    · refine g_aload_n (q := 18) 0 dX10_back_17 rfl rfl rfl ?_
      refine g_getA (q := 21) fX10_tape dX10_back_18 ww377 rfl ?_
      refine g_dup (q := 22) dX10_back_21 rfl rfl ?_
      refine g_getI (q := 25) fX6_length dX10_back_22 ww37 rfl ?_
      refine g_iload_n (q := 26) 1 dX10_back_25 rfl rfl rfl ?_
      refine g_isub (q := 27) dX10_back_26 rfl ?_
      refine g_putI (q := 30) fX6_length pwX6_length okTX6 dX10_back_27 ww37 rfl (fun s1 => ?_)
      refine g_aload_n (q := 31) 0 dX10_back_30 rfl rfl rfl ?_
      refine g_getA (q := 34) fX10_tape dX10_back_31 ww377 rfl ?_
      refine g_getI (q := 37) fX6_length dX10_back_34 ww37 rfl ?_
      exact (g_iret dX10_back_37)
    · refine g_iconst (q := 16) dX10_back_15 kI_m1 rfl ?_
      exact (g_iret dX10_back_16)
noncomputable def pX7_exchange (r1 : Nat) (σ : gS) : Option (Nat × gS) := gT (σ.2.2 3 1) tR (fun rr1 => lt' (wR σ 3 1 r1) (fun s2 => some (rr1, s2)))
set_option maxRecDepth 100000 in
theorem cn_X7_exchange {G : gG} {b : Nat} {r1 : Nat} (hr1 : tR r1 = true) {σ : gS} : CN vC G b 1 yX7_exchange cX7_exchange 3 (some (.object "SkyTrial$Told")) (kA b) [.ref (b + 3), .ref (b + r1)] σ (pX7_exchange r1 σ) := by
  refine cn_of (own := RX7) rfl rfl (Nat.le_of_ble_eq_true rfl) ?_
  show GF vC G b (1, 0, 0) RX7 cX7_exchange 3 (some (.object "SkyTrial$Told")) (kA b) 0 [(0, .ref (b + 3)), (1, .ref (b + r1))] [] σ (pX7_exchange r1 σ)
  unfold pX7_exchange
  refine g_aload_n (q := 1) 0 dX7_exchange_0 rfl rfl rfl ?_
  refine g_getR (cT := tR) (q := 4) fX7_draft dX7_exchange_1 ww200 rfl (fun rr1 hrr1 => ?_)
  refine g_astore_n (lr := [(0, .ref (b + 3)), (1, .ref (b + r1))]) (q := 5) dX7_exchange_4 rfl (by decide) rfl rfl ?_
  refine g_aload_n (q := 6) 1 dX7_exchange_5 rfl rfl rfl ?_
  refine g_aload_n (q := 7) 2 dX7_exchange_6 rfl rfl rfl ?_
  refine g_putR (q := 10) fX7_draft pwX7_draft okTX7 dX7_exchange_7 ww200 rfl (fun s2 => ?_)
  refine g_aload_n (q := 11) 0 dX7_exchange_10 rfl rfl rfl ?_
  exact (g_aret dX7_exchange_11)
noncomputable def pX7_fail (a1 : Int32) (σ : gS) : Option (gS) := bn1 (if (σ.1 3 6) = 0 then lt' (wI σ 3 6 a1) (fun s2 => some s2) else some σ) (fun (z1 : gS) => lt' (wI z1 3 3 (38 : Int32)) (fun s3 => some s3))
set_option maxRecDepth 100000 in
theorem cn_X7_fail {G : gG} {b : Nat} {a1 : Int32} {σ : gS} : CN vC G b 1 yX7_fail cX7_fail 2 none kV [.ref (b + 3), .int a1] σ (pX7_fail a1 σ) := by
  refine cn_of (own := RX7) rfl rfl (Nat.le_of_ble_eq_true rfl) ?_
  show GF vC G b (1, 0, 0) RX7 cX7_fail 2 none kV 0 [(0, .ref (b + 3)), (1, .int a1)] [] σ (pX7_fail a1 σ)
  unfold pX7_fail
  refine g_aload_n (q := 1) 0 dX7_fail_0 rfl rfl rfl ?_
  refine g_getI (q := 4) fX7_fault dX7_fail_1 ww205 rfl ?_
  refine g_bind (S := gS) (hd := 12) (lvf := fun z1 => [(0, .ref (b + 3))]) (stf := fun z1 => []) (σf := fun z1 => z1) ?_ (fun z1 => ?_)
  · refine g_if_ne (t := 12) (q := 7) dX7_fail_4 (by decide) rfl ?_ ?_
    · refine g_aload_n (q := 8) 0 dX7_fail_7 rfl rfl rfl ?_
      refine g_iload_n (q := 9) 1 dX7_fail_8 rfl rfl rfl ?_
      refine g_putI (q := 12) fX7_fault pwX7_fault okTX7 dX7_fail_9 ww205 rfl (fun s2 => ?_)
      refine g_sub (lr := [(0, .ref (b + 3))]) [0] rfl ?_
      exact (g_there (s2 : gS))
    · refine g_sub (lr := [(0, .ref (b + 3))]) [0] rfl ?_
      exact (g_there (σ : gS))
  · refine g_aload_n (q := 13) 0 dX7_fail_12 rfl rfl rfl ?_
    refine g_bipush (q := 15) dX7_fail_13 kB_38 rfl ?_
    refine g_putI (q := 18) fX7_here pwX7_here okTX7 dX7_fail_15 ww202 rfl (fun s3 => ?_)
    exact (g_vret dX7_fail_18)
noncomputable def pX9_clear (r0 : Nat) (σ : gS) : Option (gS) := lt' (wI σ r0 0 (0 : Int32)) (fun s1 => lt' (wI s1 r0 1 (0 : Int32)) (fun s2 => lt' (wI s2 r0 2 (0 : Int32)) (fun s3 => lt' (wI s3 r0 3 (0 : Int32)) (fun s4 => lt' (wI s4 r0 4 (0 : Int32)) (fun s5 => lt' (wI s5 r0 13 (0 : Int32)) (fun s6 => some s6))))))
set_option maxRecDepth 100000 in
theorem cn_X9_clear {G : gG} {b : Nat} {r0 : Nat} (hr0 : tR r0 = true) {σ : gS} : CN vC G b 1 yX9_clear cX9_clear 1 none kV [.ref (b + r0)] σ (pX9_clear r0 σ) := by
  refine cn_of (own := RX9) rfl rfl (Nat.le_of_ble_eq_true rfl) ?_
  show GF vC G b (1, 0, 0) RX9 cX9_clear 1 none kV 0 [(0, .ref (b + r0))] [] σ (pX9_clear r0 σ)
  unfold pX9_clear
  refine g_aload_n (q := 1) 0 dX9_clear_0 rfl rfl rfl ?_
  refine g_iconst (q := 2) dX9_clear_1 kI_0 rfl ?_
  refine g_putI (q := 5) (fX9_signs hr0) pwX9_signs okTX9 dX9_clear_2 ww136 rfl (fun s1 => ?_)
  refine g_aload_n (q := 6) 0 dX9_clear_5 rfl rfl rfl ?_
  refine g_iconst (q := 7) dX9_clear_6 kI_0 rfl ?_
  refine g_putI (q := 10) (fX9_says hr0) pwX9_says okTX9 dX9_clear_7 ww140 rfl (fun s2 => ?_)
  refine g_aload_n (q := 11) 0 dX9_clear_10 rfl rfl rfl ?_
  refine g_iconst (q := 12) dX9_clear_11 kI_0 rfl ?_
  refine g_putI (q := 15) (fX9_books hr0) pwX9_books okTX9 dX9_clear_12 ww144 rfl (fun s3 => ?_)
  refine g_aload_n (q := 16) 0 dX9_clear_15 rfl rfl rfl ?_
  refine g_iconst (q := 17) dX9_clear_16 kI_0 rfl ?_
  refine g_putI (q := 20) (fX9_whens hr0) pwX9_whens okTX9 dX9_clear_17 ww147 rfl (fun s4 => ?_)
  refine g_aload_n (q := 21) 0 dX9_clear_20 rfl rfl rfl ?_
  refine g_iconst (q := 22) dX9_clear_21 kI_0 rfl ?_
  refine g_putI (q := 25) (fX9_laws hr0) pwX9_laws okTX9 dX9_clear_22 ww150 rfl (fun s5 => ?_)
  refine g_aload_n (q := 26) 0 dX9_clear_25 rfl rfl rfl ?_
  refine g_iconst (q := 27) dX9_clear_26 kI_0 rfl ?_
  refine g_putI (q := 30) (fX9_steps hr0) pwX9_steps okTX9 dX9_clear_27 ww168 rfl (fun s6 => ?_)
  exact (g_vret dX9_clear_30)
noncomputable def pX7_start (σ : gS) : Option (gS) := gT (σ.2.2 3 1) tR (fun rr1 => bn1 (pX9_clear rr1 σ) (fun s3 => lt' (wI s3 3 2 (0 : Int32)) (fun s4 => gx (0 : Int32) 401 (lt' (wI s4 3 3 (s4.1 5 (0 : Int32).toNatClampNeg)) (fun s5 => gx (0 : Int32) 401 (lt' (wL s5 3 4 (s5.2.1 7 (0 : Int32).toNatClampNeg)) (fun s6 => gx (0 : Int32) 401 (lt' (wI s6 3 5 (s6.1 6 (0 : Int32).toNatClampNeg)) (fun s7 => lt' (wI s7 3 6 (0 : Int32)) (fun s8 => lt' (wI s8 3 7 (-1 : Int32)) (fun s9 => lt' (wI s9 3 8 (0 : Int32)) (fun s10 => lt' (wI s10 3 9 (-1 : Int32)) (fun s11 => lt' (wI s11 3 13 (0 : Int32)) (fun s12 => some s12))))))))))))))
set_option maxRecDepth 100000 in
theorem cn_X7_start {G : gG} {b : Nat}  {σ : gS} : CN vC G b 2 yX7_start cX7_start 1 none kV [.ref (b + 3)] σ (pX7_start σ) := by
  refine cn_of (own := RX7) rfl rfl (Nat.le_of_ble_eq_true rfl) ?_
  show GF vC G b (2, 0, 0) RX7 cX7_start 1 none kV 0 [(0, .ref (b + 3))] [] σ (pX7_start σ)
  unfold pX7_start
  refine g_aload_n (q := 1) 0 dX7_start_0 rfl rfl rfl ?_
  refine g_getR (cT := tR) (q := 4) fX7_draft dX7_start_1 ww200 rfl (fun rr1 hrr1 => ?_)
  refine g_callO (As := []) (st := []) (cn_X9_clear hrr1) (shX9 hrr1) rfl cwX7_91 rfl dX7_start_4 rfl (Nat.le_of_ble_eq_true rfl) (by decide) (kk_V (fun s3 => ?_))
  refine g_aload_n (q := 8) 0 dX7_start_7 rfl rfl rfl ?_
  refine g_iconst (q := 9) dX7_start_8 kI_0 rfl ?_
  refine g_putI (q := 12) fX7_at pwX7_at okTX7 dX7_start_9 ww201 rfl (fun s4 => ?_)
  refine g_aload_n (q := 13) 0 dX7_start_12 rfl rfl rfl ?_
  refine g_aload_n (q := 14) 0 dX7_start_13 rfl rfl rfl ?_
  refine g_getA (q := 17) fX7_tokens dX7_start_14 ww199 rfl ?_
  refine g_getA (q := 20) fX8_kinds dX7_start_17 ww110 rfl ?_
  refine g_iconst (q := 21) dX7_start_20 kI_0 rfl ?_
  refine g_iald (q := 22) (aX8_kinds) dX7_start_21 rfl ?_
  refine g_putI (q := 25) fX7_here pwX7_here okTX7 dX7_start_22 ww202 rfl (fun s5 => ?_)
  refine g_aload_n (q := 26) 0 dX7_start_25 rfl rfl rfl ?_
  refine g_aload_n (q := 27) 0 dX7_start_26 rfl rfl rfl ?_
  refine g_getA (q := 30) fX7_tokens dX7_start_27 ww199 rfl ?_
  refine g_getA (q := 33) fX8_values dX7_start_30 ww114 rfl ?_
  refine g_iconst (q := 34) dX7_start_33 kI_0 rfl ?_
  refine g_lald (q := 35) (aX8_values) dX7_start_34 rfl ?_
  refine g_putL (q := 38) fX7_value pwX7_value okTX7 dX7_start_35 ww203 rfl (fun s6 => ?_)
  refine g_aload_n (q := 39) 0 dX7_start_38 rfl rfl rfl ?_
  refine g_aload_n (q := 40) 0 dX7_start_39 rfl rfl rfl ?_
  refine g_getA (q := 43) fX7_tokens dX7_start_40 ww199 rfl ?_
  refine g_getA (q := 46) fX8_starts dX7_start_43 ww112 rfl ?_
  refine g_iconst (q := 47) dX7_start_46 kI_0 rfl ?_
  refine g_iald (q := 48) (aX8_starts) dX7_start_47 rfl ?_
  refine g_putI (q := 51) fX7_spot pwX7_spot okTX7 dX7_start_48 ww204 rfl (fun s7 => ?_)
  refine g_aload_n (q := 52) 0 dX7_start_51 rfl rfl rfl ?_
  refine g_iconst (q := 53) dX7_start_52 kI_0 rfl ?_
  refine g_putI (q := 56) fX7_fault pwX7_fault okTX7 dX7_start_53 ww205 rfl (fun s8 => ?_)
  refine g_aload_n (q := 57) 0 dX7_start_56 rfl rfl rfl ?_
  refine g_iconst (q := 58) dX7_start_57 kI_m1 rfl ?_
  refine g_putI (q := 61) fX7_faultAt pwX7_faultAt okTX7 dX7_start_58 ww206 rfl (fun s9 => ?_)
  refine g_aload_n (q := 62) 0 dX7_start_61 rfl rfl rfl ?_
  refine g_iconst (q := 63) dX7_start_62 kI_0 rfl ?_
  refine g_putI (q := 66) fX7_laterFault pwX7_laterFault okTX7 dX7_start_63 ww207 rfl (fun s10 => ?_)
  refine g_aload_n (q := 67) 0 dX7_start_66 rfl rfl rfl ?_
  refine g_iconst (q := 68) dX7_start_67 kI_m1 rfl ?_
  refine g_putI (q := 71) fX7_laterAt pwX7_laterAt okTX7 dX7_start_68 ww208 rfl (fun s11 => ?_)
  refine g_aload_n (q := 72) 0 dX7_start_71 rfl rfl rfl ?_
  refine g_iconst (q := 73) dX7_start_72 kI_0 rfl ?_
  refine g_putI (q := 76) fX7_named pwX7_named okTX7 dX7_start_73 ww212 rfl (fun s12 => ?_)
  exact (g_vret dX7_start_76)
noncomputable def pX7_take (σ : gS) : Option (gS) := if (400 : Int32) ≤ (σ.1 3 2) then lt' (wI σ 3 6 (2 : Int32)) (fun s1 => lt' (wI s1 3 3 (38 : Int32)) (fun s2 => some s2)) else lt' (wI σ 3 2 ((σ.1 3 2) + (1 : Int32))) (fun s3 => gx (s3.1 3 2) 401 (lt' (wI s3 3 3 (s3.1 5 (s3.1 3 2).toNatClampNeg)) (fun s4 => gx (s4.1 3 2) 401 (lt' (wL s4 3 4 (s4.2.1 7 (s4.1 3 2).toNatClampNeg)) (fun s5 => gx (s5.1 3 2) 401 (lt' (wI s5 3 5 (s5.1 6 (s5.1 3 2).toNatClampNeg)) (fun s6 => some s6)))))))
set_option maxRecDepth 100000 in
theorem cn_X7_take {G : gG} {b : Nat}  {σ : gS} : CN vC G b 1 yX7_take cX7_take 1 none kV [.ref (b + 3)] σ (pX7_take σ) := by
  refine cn_of (own := RX7) rfl rfl (Nat.le_of_ble_eq_true rfl) ?_
  show GF vC G b (1, 0, 0) RX7 cX7_take 1 none kV 0 [(0, .ref (b + 3))] [] σ (pX7_take σ)
  unfold pX7_take
  refine g_aload_n (q := 1) 0 dX7_take_0 rfl rfl rfl ?_
  refine g_getI (q := 4) fX7_at dX7_take_1 ww201 rfl ?_
  refine g_sipush (q := 7) dX7_take_4 kS_400 rfl ?_
  refine g_icmp_ge (t := 71) (q := 10) dX7_take_7 (by decide) rfl ?_ ?_
  · refine g_aload_n (q := 72) 0 dX7_take_71 rfl rfl rfl ?_
    refine g_iconst (q := 73) dX7_take_72 kI_2 rfl ?_
    refine g_putI (q := 76) fX7_fault pwX7_fault okTX7 dX7_take_73 ww205 rfl (fun s1 => ?_)
    refine g_aload_n (q := 77) 0 dX7_take_76 rfl rfl rfl ?_
    refine g_bipush (q := 79) dX7_take_77 kB_38 rfl ?_
    refine g_putI (q := 82) fX7_here pwX7_here okTX7 dX7_take_79 ww202 rfl (fun s2 => ?_)
    exact (g_vret dX7_take_82)
  · refine g_aload_n (q := 11) 0 dX7_take_10 rfl rfl rfl ?_
    refine g_dup (q := 12) dX7_take_11 rfl rfl ?_
    refine g_getI (q := 15) fX7_at dX7_take_12 ww201 rfl ?_
    refine g_iconst (q := 16) dX7_take_15 kI_1 rfl ?_
    refine g_iadd (q := 17) dX7_take_16 rfl ?_
    refine g_putI (q := 20) fX7_at pwX7_at okTX7 dX7_take_17 ww201 rfl (fun s3 => ?_)
    refine g_aload_n (q := 21) 0 dX7_take_20 rfl rfl rfl ?_
    refine g_aload_n (q := 22) 0 dX7_take_21 rfl rfl rfl ?_
    refine g_getA (q := 25) fX7_tokens dX7_take_22 ww199 rfl ?_
    refine g_getA (q := 28) fX8_kinds dX7_take_25 ww110 rfl ?_
    refine g_aload_n (q := 29) 0 dX7_take_28 rfl rfl rfl ?_
    refine g_getI (q := 32) fX7_at dX7_take_29 ww201 rfl ?_
    refine g_iald (q := 33) (aX8_kinds) dX7_take_32 rfl ?_
    refine g_putI (q := 36) fX7_here pwX7_here okTX7 dX7_take_33 ww202 rfl (fun s4 => ?_)
    refine g_aload_n (q := 37) 0 dX7_take_36 rfl rfl rfl ?_
    refine g_aload_n (q := 38) 0 dX7_take_37 rfl rfl rfl ?_
    refine g_getA (q := 41) fX7_tokens dX7_take_38 ww199 rfl ?_
    refine g_getA (q := 44) fX8_values dX7_take_41 ww114 rfl ?_
    refine g_aload_n (q := 45) 0 dX7_take_44 rfl rfl rfl ?_
    refine g_getI (q := 48) fX7_at dX7_take_45 ww201 rfl ?_
    refine g_lald (q := 49) (aX8_values) dX7_take_48 rfl ?_
    refine g_putL (q := 52) fX7_value pwX7_value okTX7 dX7_take_49 ww203 rfl (fun s5 => ?_)
    refine g_aload_n (q := 53) 0 dX7_take_52 rfl rfl rfl ?_
    refine g_aload_n (q := 54) 0 dX7_take_53 rfl rfl rfl ?_
    refine g_getA (q := 57) fX7_tokens dX7_take_54 ww199 rfl ?_
    refine g_getA (q := 60) fX8_starts dX7_take_57 ww112 rfl ?_
    refine g_aload_n (q := 61) 0 dX7_take_60 rfl rfl rfl ?_
    refine g_getI (q := 64) fX7_at dX7_take_61 ww201 rfl ?_
    refine g_iald (q := 65) (aX8_starts) dX7_take_64 rfl ?_
    refine g_putI (q := 68) fX7_spot pwX7_spot okTX7 dX7_take_65 ww204 rfl (fun s6 => ?_)
    refine g_goto (t := 82) dX7_take_68 (by decide) ?_
    exact (g_vret dX7_take_82)
noncomputable def pX7_need (a1 : Int32) (σ : gS) : Option (gS) := if (σ.1 3 3) = a1 then bn1 (pX7_take σ) (fun s2 => some s2) else bn1 (pX7_fail (1 : Int32) σ) (fun s4 => some s4)
set_option maxRecDepth 100000 in
theorem cn_X7_need {G : gG} {b : Nat} {a1 : Int32} {σ : gS} : CN vC G b 2 yX7_need cX7_need 2 none kV [.ref (b + 3), .int a1] σ (pX7_need a1 σ) := by
  refine cn_of (own := RX7) rfl rfl (Nat.le_of_ble_eq_true rfl) ?_
  show GF vC G b (2, 0, 0) RX7 cX7_need 2 none kV 0 [(0, .ref (b + 3)), (1, .int a1)] [] σ (pX7_need a1 σ)
  unfold pX7_need
  refine g_aload_n (q := 1) 0 dX7_need_0 rfl rfl rfl ?_
  refine g_getI (q := 4) fX7_here dX7_need_1 ww202 rfl ?_
  refine g_iload_n (q := 5) 1 dX7_need_4 rfl rfl rfl ?_
  refine g_icmp_ne (t := 15) (q := 8) dX7_need_5 (by decide) rfl ?_ ?_
  · refine g_aload_n (q := 9) 0 dX7_need_8 rfl rfl rfl ?_
    refine g_callO (As := []) (st := []) (cn_X7_take) shX7 rfl cwX7_136 rfl dX7_need_9 rfl (Nat.le_of_ble_eq_true rfl) (by decide) (kk_V (fun s2 => ?_))
    refine g_goto (t := 20) dX7_need_12 (by decide) ?_
    exact (g_vret dX7_need_20)
  · refine g_aload_n (q := 16) 0 dX7_need_15 rfl rfl rfl ?_
    refine g_iconst (q := 17) dX7_need_16 kI_1 rfl ?_
    refine g_callO (As := [.int (1 : Int32)]) (st := []) (cn_X7_fail) shX7 rfl cwX7_87 rfl dX7_need_17 rfl (Nat.le_of_ble_eq_true rfl) (by decide) (kk_V (fun s4 => ?_))
    exact (g_vret dX7_need_20)
noncomputable def pX7_open (a1 : Int32) (σ : gS) : Option (Int32 × gS) := bn1 (if a1 = 0 then bn1 (pX7_fail (2 : Int32) σ) (fun s3 => some s3) else bn1 (pX7_take σ) (fun s5 => some s5)) (fun (z1 : gS) => if (z1.1 3 6) = 0 then some ((1 : Int32), z1) else some ((0 : Int32), z1))
set_option maxRecDepth 100000 in
theorem cn_X7_open {G : gG} {b : Nat} {a1 : Int32} {σ : gS} : CN vC G b 2 yX7_open cX7_open 2 (some .boolean) kI [.ref (b + 3), .int a1] σ (pX7_open a1 σ) := by
  refine cn_of (own := RX7) rfl rfl (Nat.le_of_ble_eq_true rfl) ?_
  show GF vC G b (2, 0, 0) RX7 cX7_open 2 (some .boolean) kI 0 [(0, .ref (b + 3)), (1, .int a1)] [] σ (pX7_open a1 σ)
  unfold pX7_open
  refine g_iload_n (q := 1) 1 dX7_open_0 rfl rfl rfl ?_
  refine g_bind (S := gS) (hd := 16) (lvf := fun z1 => [(0, .ref (b + 3))]) (stf := fun z1 => []) (σf := fun z1 => z1) ?_ (fun z1 => ?_)
  · refine g_if_eq (t := 11) (q := 4) dX7_open_1 (by decide) rfl ?_ ?_
    · refine g_aload_n (q := 12) 0 dX7_open_11 rfl rfl rfl ?_
      refine g_iconst (q := 13) dX7_open_12 kI_2 rfl ?_
      refine g_callO (As := [.int (2 : Int32)]) (st := []) (cn_X7_fail) shX7 rfl cwX7_87 rfl dX7_open_13 rfl (Nat.le_of_ble_eq_true rfl) (by decide) (kk_V (fun s3 => ?_))
      refine g_sub (lr := [(0, .ref (b + 3))]) [0] rfl ?_
      exact (g_there (s3 : gS))
    · refine g_aload_n (q := 5) 0 dX7_open_4 rfl rfl rfl ?_
      refine g_callO (As := []) (st := []) (cn_X7_take) shX7 rfl cwX7_136 rfl dX7_open_5 rfl (Nat.le_of_ble_eq_true rfl) (by decide) (kk_V (fun s5 => ?_))
      refine g_goto (t := 16) dX7_open_8 (by decide) ?_
      refine g_sub (lr := [(0, .ref (b + 3))]) [0] rfl ?_
      exact (g_there (s5 : gS))
  · refine g_aload_n (q := 17) 0 dX7_open_16 rfl rfl rfl ?_
    refine g_getI (q := 20) fX7_fault dX7_open_17 ww205 rfl ?_
    refine g_if_ne (t := 27) (q := 23) dX7_open_20 (by decide) rfl ?_ ?_
    · refine g_iconst (q := 24) dX7_open_23 kI_1 rfl ?_
      refine g_goto (t := 28) dX7_open_24 (by decide) ?_
      exact (g_bret1 dX7_open_28)
    · refine g_iconst (q := 28) dX7_open_27 kI_0 rfl ?_
      exact (g_bret0 dX7_open_28)
noncomputable def pX7_blame (a1 : Int32) (σ : gS) : Option (gS) := if (σ.1 3 8) = 0 then lt' (wI σ 3 8 a1) (fun s1 => lt' (wI s1 3 9 (s1.1 3 5)) (fun s2 => some s2)) else some σ
set_option maxRecDepth 100000 in
theorem cn_X7_blame {G : gG} {b : Nat} {a1 : Int32} {σ : gS} : CN vC G b 1 yX7_blame cX7_blame 2 none kV [.ref (b + 3), .int a1] σ (pX7_blame a1 σ) := by
  refine cn_of (own := RX7) rfl rfl (Nat.le_of_ble_eq_true rfl) ?_
  show GF vC G b (1, 0, 0) RX7 cX7_blame 2 none kV 0 [(0, .ref (b + 3)), (1, .int a1)] [] σ (pX7_blame a1 σ)
  unfold pX7_blame
  refine g_aload_n (q := 1) 0 dX7_blame_0 rfl rfl rfl ?_
  refine g_getI (q := 4) fX7_laterFault dX7_blame_1 ww207 rfl ?_
  refine g_if_ne (t := 20) (q := 7) dX7_blame_4 (by decide) rfl ?_ ?_
  · refine g_aload_n (q := 8) 0 dX7_blame_7 rfl rfl rfl ?_
    refine g_iload_n (q := 9) 1 dX7_blame_8 rfl rfl rfl ?_
    refine g_putI (q := 12) fX7_laterFault pwX7_laterFault okTX7 dX7_blame_9 ww207 rfl (fun s1 => ?_)
    refine g_aload_n (q := 13) 0 dX7_blame_12 rfl rfl rfl ?_
    refine g_aload_n (q := 14) 0 dX7_blame_13 rfl rfl rfl ?_
    refine g_getI (q := 17) fX7_spot dX7_blame_14 ww204 rfl ?_
    refine g_putI (q := 20) fX7_laterAt pwX7_laterAt okTX7 dX7_blame_17 ww208 rfl (fun s2 => ?_)
    exact (g_vret dX7_blame_20)
  · exact (g_vret dX7_blame_20)
noncomputable def pX7_findName (a1 : Int64) (σ : gS) : Option (Int32) := bnS (lpP (fun (z2 : Int32) => if (σ.1 3 13) ≤ z2 then some (.inr (.inl ())) else gx z2 30 (if (lg_cmp (σ.2.1 18 z2.toNatClampNeg) a1) = 0 then some (.inr (.inr (z2))) else lt' (z2 + (1 : Int32)) (fun x3 => some (.inl x3)))) (0 : Int32)) (fun (z1 : Unit) => some ((-1 : Int32)))
set_option maxRecDepth 100000 in
theorem cn_X7_findName {G : gG} {b : Nat} {a1 : Int64} {σ : gS} : CN vC G b 1 yX7_findName cX7_findName 4 (some .int) (kPI σ) [.ref (b + 3), .long a1] σ (pX7_findName a1 σ) := by
  refine cn_of (own := RX7) rfl rfl (Nat.le_of_ble_eq_true rfl) ?_
  show GF vC G b (1, 0, 0) RX7 cX7_findName 4 (some .int) (kPI σ) 0 [(0, .ref (b + 3)), (1, .long a1)] [] σ (pX7_findName a1 σ)
  unfold pX7_findName
  refine g_iconst (q := 1) dX7_findName_0 kI_0 rfl ?_
  refine g_istore_n (lr := [(0, .ref (b + 3)), (1, .long a1)]) (q := 2) dX7_findName_1 rfl (by decide) rfl rfl ?_
  refine g_bindS (S := Unit) (hd := 29) (lvf := fun z1 => []) (stf := fun z1 => []) (σf := fun z1 => σ) ?_ (fun z1 => ?_)
  · refine g_loop (S := Int32) (lvf := fun z2 => [(3, .int z2), (0, .ref (b + 3)), (1, .long a1)]) (σf := fun z2 => σ) (fun z2 => ?_) (0 : Int32)
    refine g_iload_n (q := 3) 0 dX7_findName_2 rfl rfl rfl ?_
    refine g_aload_n (q := 4) 1 dX7_findName_3 rfl rfl rfl ?_
    refine g_getI (q := 7) fX7_named dX7_findName_4 ww212 rfl ?_
    refine g_icmp_ge (t := 29) (q := 10) dX7_findName_7 (by decide) rfl ?_ ?_
    · refine g_sub (lr := []) [] rfl ?_
      exact (g_leave (g_thereS (() : Unit)))
    · refine g_aload_n (q := 11) 1 dX7_findName_10 rfl rfl rfl ?_
      refine g_getA (q := 14) fX7_names dX7_findName_11 ww209 rfl ?_
      refine g_iload_n (q := 15) 0 dX7_findName_14 rfl rfl rfl ?_
      refine g_lald (q := 16) (aX7_names) dX7_findName_15 rfl ?_
      refine g_lload_n (q := 17) 2 dX7_findName_16 rfl rfl rfl ?_
      refine g_lcmp (q := 18) dX7_findName_17 rfl ?_
      refine g_if_ne (t := 23) (q := 21) dX7_findName_18 (by decide) rfl ?_ ?_
      · refine g_iload_n (q := 22) 0 dX7_findName_21 rfl rfl rfl ?_
        exact (g_leave (g_right (g_iretP dX7_findName_22)))
      · refine g_iinc (lr := [(0, .ref (b + 3)), (1, .long a1)]) (q := 26) 0 dX7_findName_23 rfl kI_1 (by decide) rfl rfl (fun x3 => ?_)
        refine g_goto (t := 2) dX7_findName_26 (by decide) ?_
        exact (g_again (x3 : Int32))
  · refine g_iconst (q := 30) dX7_findName_29 kI_m1 rfl ?_
    exact (g_iretP dX7_findName_30)
noncomputable def pX7_tellName (a1 : Int32) (a2 : Int32) (σ : gS) : Option (gS) := if (σ.1 3 3) = (23 : Int32) then bn1 (pX7_findName (σ.2.1 3 4) σ) (fun v1 => if v1 = (-1 : Int32) then if (30 : Int32) ≤ (σ.1 3 13) then bn1 (pX7_take σ) (fun s4 => some s4) else gx (σ.1 3 13) 30 (lt' (wL σ 18 (σ.1 3 13).toNatClampNeg (σ.2.1 3 4)) (fun s5 => gx (s5.1 3 13) 30 (lt' (wI s5 19 (s5.1 3 13).toNatClampNeg a1) (fun s6 => gx (s6.1 3 13) 30 (lt' (wI s6 20 (s6.1 3 13).toNatClampNeg a2) (fun s7 => lt' (wI s7 3 13 ((s7.1 3 13) + (1 : Int32))) (fun s8 => bn1 (pX7_take s8) (fun s10 => some s10)))))))) else bn1 (pX7_blame (3 : Int32) σ) (fun s12 => bn1 (pX7_take s12) (fun s14 => some s14))) else bn1 (pX7_fail (1 : Int32) σ) (fun s16 => some s16)
set_option maxRecDepth 100000 in
theorem cn_X7_tellName {G : gG} {b : Nat} {a1 : Int32} {a2 : Int32} {σ : gS} : CN vC G b 2 yX7_tellName cX7_tellName 3 none kV [.ref (b + 3), .int a1, .int a2] σ (pX7_tellName a1 a2 σ) := by
  refine cn_of (own := RX7) rfl rfl (Nat.le_of_ble_eq_true rfl) ?_
  show GF vC G b (2, 0, 0) RX7 cX7_tellName 3 none kV 0 [(0, .ref (b + 3)), (1, .int a1), (2, .int a2)] [] σ (pX7_tellName a1 a2 σ)
  unfold pX7_tellName
  refine g_aload_n (q := 1) 0 dX7_tellName_0 rfl rfl rfl ?_
  refine g_getI (q := 4) fX7_here dX7_tellName_1 ww202 rfl ?_
  refine g_bipush (q := 6) dX7_tellName_4 kB_23 rfl ?_
  refine g_icmp_eq (t := 15) (q := 9) dX7_tellName_6 (by decide) rfl ?_ ?_
  · refine g_aload_n (q := 16) 0 dX7_tellName_15 rfl rfl rfl ?_
    refine g_aload_n (q := 17) 0 dX7_tellName_16 rfl rfl rfl ?_
    refine g_getL (q := 20) fX7_value dX7_tellName_17 ww203 rfl ?_
    refine g_callO (As := [.long (σ.2.1 3 4)]) (st := []) (cn_X7_findName) shX7 rfl cwX7_165 rfl dX7_tellName_20 rfl (Nat.le_of_ble_eq_true rfl) (by decide) (kk_PI (fun v1 => ?_))
    refine g_iconst (q := 24) dX7_tellName_23 kI_m1 rfl ?_
    refine g_icmp_eq (t := 35) (q := 27) dX7_tellName_24 (by decide) rfl ?_ ?_
    · refine g_aload_n (q := 36) 0 dX7_tellName_35 rfl rfl rfl ?_
      refine g_getI (q := 39) fX7_named dX7_tellName_36 ww212 rfl ?_
      refine g_bipush (q := 41) dX7_tellName_39 kB_30 rfl ?_
      refine g_icmp_ge (t := 87) (q := 44) dX7_tellName_41 (by decide) rfl ?_ ?_
      · refine g_aload_n (q := 88) 0 dX7_tellName_87 rfl rfl rfl ?_
        refine g_callO (As := []) (st := []) (cn_X7_take) shX7 rfl cwX7_136 rfl dX7_tellName_88 rfl (Nat.le_of_ble_eq_true rfl) (by decide) (kk_V (fun s4 => ?_))
        exact (g_vret dX7_tellName_91)
      · refine g_aload_n (q := 45) 0 dX7_tellName_44 rfl rfl rfl ?_
        refine g_getA (q := 48) fX7_names dX7_tellName_45 ww209 rfl ?_
        refine g_aload_n (q := 49) 0 dX7_tellName_48 rfl rfl rfl ?_
        refine g_getI (q := 52) fX7_named dX7_tellName_49 ww212 rfl ?_
        refine g_aload_n (q := 53) 0 dX7_tellName_52 rfl rfl rfl ?_
        refine g_getL (q := 56) fX7_value dX7_tellName_53 ww203 rfl ?_
        refine g_last (q := 57) (aX7_names) dX7_tellName_56 rfl (fun s5 => ?_)
        refine g_aload_n (q := 58) 0 dX7_tellName_57 rfl rfl rfl ?_
        refine g_getA (q := 61) fX7_nameKinds dX7_tellName_58 ww210 rfl ?_
        refine g_aload_n (q := 62) 0 dX7_tellName_61 rfl rfl rfl ?_
        refine g_getI (q := 65) fX7_named dX7_tellName_62 ww212 rfl ?_
        refine g_iload_n (q := 66) 1 dX7_tellName_65 rfl rfl rfl ?_
        refine g_iast (q := 67) (aX7_nameKinds) dX7_tellName_66 rfl (fun s6 => ?_)
        refine g_aload_n (q := 68) 0 dX7_tellName_67 rfl rfl rfl ?_
        refine g_getA (q := 71) fX7_nameNumbers dX7_tellName_68 ww211 rfl ?_
        refine g_aload_n (q := 72) 0 dX7_tellName_71 rfl rfl rfl ?_
        refine g_getI (q := 75) fX7_named dX7_tellName_72 ww212 rfl ?_
        refine g_iload_n (q := 76) 2 dX7_tellName_75 rfl rfl rfl ?_
        refine g_iast (q := 77) (aX7_nameNumbers) dX7_tellName_76 rfl (fun s7 => ?_)
        refine g_aload_n (q := 78) 0 dX7_tellName_77 rfl rfl rfl ?_
        refine g_dup (q := 79) dX7_tellName_78 rfl rfl ?_
        refine g_getI (q := 82) fX7_named dX7_tellName_79 ww212 rfl ?_
        refine g_iconst (q := 83) dX7_tellName_82 kI_1 rfl ?_
        refine g_iadd (q := 84) dX7_tellName_83 rfl ?_
        refine g_putI (q := 87) fX7_named pwX7_named okTX7 dX7_tellName_84 ww212 rfl (fun s8 => ?_)
        refine g_aload_n (q := 88) 0 dX7_tellName_87 rfl rfl rfl ?_
        refine g_callO (As := []) (st := []) (cn_X7_take) shX7 rfl cwX7_136 rfl dX7_tellName_88 rfl (Nat.le_of_ble_eq_true rfl) (by decide) (kk_V (fun s10 => ?_))
        exact (g_vret dX7_tellName_91)
    · refine g_aload_n (q := 28) 0 dX7_tellName_27 rfl rfl rfl ?_
      refine g_iconst (q := 29) dX7_tellName_28 kI_3 rfl ?_
      refine g_callO (As := [.int (3 : Int32)]) (st := []) (cn_X7_blame) shX7 rfl cwX7_142 rfl dX7_tellName_29 rfl (Nat.le_of_ble_eq_true rfl) (by decide) (kk_V (fun s12 => ?_))
      refine g_goto (t := 87) dX7_tellName_32 (by decide) ?_
      refine g_aload_n (q := 88) 0 dX7_tellName_87 rfl rfl rfl ?_
      refine g_callO (As := []) (st := []) (cn_X7_take) shX7 rfl cwX7_136 rfl dX7_tellName_88 rfl (Nat.le_of_ble_eq_true rfl) (by decide) (kk_V (fun s14 => ?_))
      exact (g_vret dX7_tellName_91)
  · refine g_aload_n (q := 10) 0 dX7_tellName_9 rfl rfl rfl ?_
    refine g_iconst (q := 11) dX7_tellName_10 kI_1 rfl ?_
    refine g_callO (As := [.int (1 : Int32)]) (st := []) (cn_X7_fail) shX7 rfl cwX7_87 rfl dX7_tellName_11 rfl (Nat.le_of_ble_eq_true rfl) (by decide) (kk_V (fun s16 => ?_))
    exact (g_vret dX7_tellName_14)
noncomputable def pX7_tellBook (σ : gS) : Option (gS) := gT (σ.2.2 3 1) tR (fun rr1 => bn1 (if (4 : Int32) ≤ (σ.1 rr1 2) then some (0 : Int32) else some (1 : Int32)) (fun (z2 : Int32) => bn2 (pX7_open z2 σ) (fun v3 s4 => if v3 = 0 then some s4 else gT (s4.2.2 3 1) tR (fun rr5 => bn1 (pX7_tellName (3 : Int32) (s4.1 rr5 2) s4) (fun s7 => bn1 (pX7_need (25 : Int32) s7) (fun s9 => gT (s9.2.2 3 1) tR (fun rr10 => lt' (wI s9 rr10 2 ((s9.1 rr10 2) + (1 : Int32))) (fun s11 => some s11))))))))
set_option maxRecDepth 100000 in
theorem cn_X7_tellBook {G : gG} {b : Nat}  {σ : gS} : CN vC G b 3 yX7_tellBook cX7_tellBook 1 none kV [.ref (b + 3)] σ (pX7_tellBook σ) := by
  refine cn_of (own := RX7) rfl rfl (Nat.le_of_ble_eq_true rfl) ?_
  show GF vC G b (3, 0, 0) RX7 cX7_tellBook 1 none kV 0 [(0, .ref (b + 3))] [] σ (pX7_tellBook σ)
  unfold pX7_tellBook
  refine g_aload_n (q := 1) 0 dX7_tellBook_0 rfl rfl rfl ?_
  refine g_aload_n (q := 2) 0 dX7_tellBook_1 rfl rfl rfl ?_
  refine g_getR (cT := tR) (q := 5) fX7_draft dX7_tellBook_2 ww200 rfl (fun rr1 hrr1 => ?_)
  refine g_getI (q := 8) (fX9_books hrr1) dX7_tellBook_5 ww145 rfl ?_
  refine g_iconst (q := 9) dX7_tellBook_8 kI_4 rfl ?_
  refine g_bind (S := Int32) (hd := 17) (lvf := fun z2 => [(0, .ref (b + 3))]) (stf := fun z2 => [.int z2, .ref (b + 3)]) (σf := fun z2 => σ) ?_ (fun z2 => ?_)
  · refine g_icmp_ge (t := 16) (q := 12) dX7_tellBook_9 (by decide) rfl ?_ ?_
    · refine g_iconst (q := 17) dX7_tellBook_16 kI_0 rfl ?_
      exact (g_there ((0 : Int32) : Int32))
    · refine g_iconst (q := 13) dX7_tellBook_12 kI_1 rfl ?_
      refine g_goto (t := 17) dX7_tellBook_13 (by decide) ?_
      exact (g_there ((1 : Int32) : Int32))
  · refine g_callO (As := [.int z2]) (st := []) (cn_X7_open) shX7 rfl cwX7_106 rfl dX7_tellBook_17 rfl (Nat.le_of_ble_eq_true rfl) (by decide) (kk_I (fun v3 s4 => ?_))
    refine g_if_ne (t := 24) (q := 23) dX7_tellBook_20 (by decide) rfl ?_ ?_
    · exact (g_vret dX7_tellBook_23)
    · refine g_aload_n (q := 25) 0 dX7_tellBook_24 rfl rfl rfl ?_
      refine g_iconst (q := 26) dX7_tellBook_25 kI_3 rfl ?_
      refine g_aload_n (q := 27) 0 dX7_tellBook_26 rfl rfl rfl ?_
      refine g_getR (cT := tR) (q := 30) fX7_draft dX7_tellBook_27 ww200 rfl (fun rr5 hrr5 => ?_)
      refine g_getI (q := 33) (fX9_books hrr5) dX7_tellBook_30 ww145 rfl ?_
      refine g_callO (As := [.int (3 : Int32), .int (s4.1 rr5 2)]) (st := []) (cn_X7_tellName) shX7 rfl cwX7_110 rfl dX7_tellBook_33 rfl (Nat.le_of_ble_eq_true rfl) (by decide) (kk_V (fun s7 => ?_))
      refine g_aload_n (q := 37) 0 dX7_tellBook_36 rfl rfl rfl ?_
      refine g_bipush (q := 39) dX7_tellBook_37 kB_25 rfl ?_
      refine g_callO (As := [.int (25 : Int32)]) (st := []) (cn_X7_need) shX7 rfl cwX7_114 rfl dX7_tellBook_39 rfl (Nat.le_of_ble_eq_true rfl) (by decide) (kk_V (fun s9 => ?_))
      refine g_aload_n (q := 43) 0 dX7_tellBook_42 rfl rfl rfl ?_
      refine g_getR (cT := tR) (q := 46) fX7_draft dX7_tellBook_43 ww200 rfl (fun rr10 hrr10 => ?_)
      refine g_dup (q := 47) dX7_tellBook_46 rfl rfl ?_
      refine g_getI (q := 50) (fX9_books hrr10) dX7_tellBook_47 ww145 rfl ?_
      refine g_iconst (q := 51) dX7_tellBook_50 kI_1 rfl ?_
      refine g_iadd (q := 52) dX7_tellBook_51 rfl ?_
      refine g_putI (q := 55) (fX9_books hrr10) pwX9_books okTX9 dX7_tellBook_52 ww145 rfl (fun s11 => ?_)
      exact (g_vret dX7_tellBook_55)
noncomputable def pX10_inRange (a1 : Int32) (a2 : Int32) (a3 : Int32) : Option (Int32) := if a1 < a2 then some (0 : Int32) else if a3 < a1 then some (0 : Int32) else some (1 : Int32)
set_option maxRecDepth 100000 in
theorem cn_X10_inRange {G : gG} {b : Nat} {V : gV} {a1 : Int32} {a2 : Int32} {a3 : Int32} {σ : gS} : CN V G b 1 yX10_inRange cX10_inRange 3 (some .boolean) (kPI σ) [.int a1, .int a2, .int a3] σ (pX10_inRange a1 a2 a3) := by
  refine cn_of (own := RX10) rfl rfl (Nat.le_of_ble_eq_true rfl) ?_
  show GF V G b (1, 0, 0) RX10 cX10_inRange 3 (some .boolean) (kPI σ) 0 [(0, .int a1), (1, .int a2), (2, .int a3)] [] σ (pX10_inRange a1 a2 a3)
  unfold pX10_inRange
  refine g_iload_n (q := 1) 0 dX10_inRange_0 rfl rfl rfl ?_
  refine g_iload_n (q := 2) 1 dX10_inRange_1 rfl rfl rfl ?_
  refine g_icmp_lt (t := 14) (q := 5) dX10_inRange_2 (by decide) rfl ?_ ?_
  · refine g_iconst (q := 15) dX10_inRange_14 kI_0 rfl ?_
    exact (g_bretP0 dX10_inRange_15)
  · refine g_iload_n (q := 6) 0 dX10_inRange_5 rfl rfl rfl ?_
    refine g_iload_n (q := 7) 2 dX10_inRange_6 rfl rfl rfl ?_
    refine g_icmp_gt (t := 14) (q := 10) dX10_inRange_7 (by decide) rfl ?_ ?_
    · refine g_iconst (q := 15) dX10_inRange_14 kI_0 rfl ?_
      exact (g_bretP0 dX10_inRange_15)
    · refine g_iconst (q := 11) dX10_inRange_10 kI_1 rfl ?_
      refine g_goto (t := 15) dX10_inRange_11 (by decide) ?_
      exact (g_bretP1 dX10_inRange_15)
noncomputable def pX9_addStep (r0 : Nat) (a1 : Int32) (a2 : Int32) (σ : gS) : Option (gS) := if (400 : Int32) ≤ (σ.1 r0 13) then some σ else gx (σ.1 r0 13) 400 (lt' (wI σ (r0 + 7) (σ.1 r0 13).toNatClampNeg a1) (fun s1 => gx (s1.1 r0 13) 400 (lt' (wI s1 (r0 + 8) (s1.1 r0 13).toNatClampNeg a2) (fun s2 => lt' (wI s2 r0 13 ((s2.1 r0 13) + (1 : Int32))) (fun s3 => some s3)))))
set_option maxRecDepth 100000 in
theorem cn_X9_addStep {G : gG} {b : Nat} {r0 : Nat} (hr0 : tR r0 = true) {a1 : Int32} {a2 : Int32} {σ : gS} : CN vC G b 1 yX9_addStep cX9_addStep 3 none kV [.ref (b + r0), .int a1, .int a2] σ (pX9_addStep r0 a1 a2 σ) := by
  refine cn_of (own := RX9) rfl rfl (Nat.le_of_ble_eq_true rfl) ?_
  show GF vC G b (1, 0, 0) RX9 cX9_addStep 3 none kV 0 [(0, .ref (b + r0)), (1, .int a1), (2, .int a2)] [] σ (pX9_addStep r0 a1 a2 σ)
  unfold pX9_addStep
  refine g_aload_n (q := 1) 0 dX9_addStep_0 rfl rfl rfl ?_
  refine g_getI (q := 4) (fX9_steps hr0) dX9_addStep_1 ww168 rfl ?_
  refine g_sipush (q := 7) dX9_addStep_4 kS_400 rfl ?_
  refine g_icmp_ge (t := 40) (q := 10) dX9_addStep_7 (by decide) rfl ?_ ?_
  · exact (g_vret dX9_addStep_40)
  · refine g_aload_n (q := 11) 0 dX9_addStep_10 rfl rfl rfl ?_
    refine g_getA (q := 14) (fX9_stepKinds hr0) dX9_addStep_11 ww164 rfl ?_
    refine g_aload_n (q := 15) 0 dX9_addStep_14 rfl rfl rfl ?_
    refine g_getI (q := 18) (fX9_steps hr0) dX9_addStep_15 ww168 rfl ?_
    refine g_iload_n (q := 19) 1 dX9_addStep_18 rfl rfl rfl ?_
    refine g_iast (q := 20) (aX9_stepKinds hr0) dX9_addStep_19 rfl (fun s1 => ?_)
    refine g_aload_n (q := 21) 0 dX9_addStep_20 rfl rfl rfl ?_
    refine g_getA (q := 24) (fX9_stepValues hr0) dX9_addStep_21 ww166 rfl ?_
    refine g_aload_n (q := 25) 0 dX9_addStep_24 rfl rfl rfl ?_
    refine g_getI (q := 28) (fX9_steps hr0) dX9_addStep_25 ww168 rfl ?_
    refine g_iload_n (q := 29) 2 dX9_addStep_28 rfl rfl rfl ?_
    refine g_iast (q := 30) (aX9_stepValues hr0) dX9_addStep_29 rfl (fun s2 => ?_)
    refine g_aload_n (q := 31) 0 dX9_addStep_30 rfl rfl rfl ?_
    refine g_dup (q := 32) dX9_addStep_31 rfl rfl ?_
    refine g_getI (q := 35) (fX9_steps hr0) dX9_addStep_32 ww168 rfl ?_
    refine g_iconst (q := 36) dX9_addStep_35 kI_1 rfl ?_
    refine g_iadd (q := 37) dX9_addStep_36 rfl ?_
    refine g_putI (q := 40) (fX9_steps hr0) pwX9_steps okTX9 dX9_addStep_37 ww168 rfl (fun s3 => ?_)
    exact (g_vret dX9_addStep_40)
noncomputable def bX7_sum (f : Int32 → gS → Option gS) (a1 : Int32) (σ : gS) : Option (gS) := bn1 (lpP (fun (z2 : (Int32 × Int32 × Int32 × Int32 × gS)) => if (400 : Int32) < z2.1 then some (.inr z2.2.2.2.2) else if z2.2.1 = 0 then some (.inr z2.2.2.2.2) else bn1 (f a1 z2.2.2.2.2) (fun s4 => bn1 (if z2.2.2.2.1 = 0 then some s4 else gT (s4.2.2 3 1) tR (fun rr6 => bn1 (pX9_addStep rr6 (29 : Int32) (0 : Int32) s4) (fun s8 => some s8))) (fun (z5 : gS) => bn1 (if (z5.1 3 3) = (29 : Int32) then some (1 : Int32) else some (0 : Int32)) (fun (z9 : Int32) => bn1 (if z9 = 0 then bn1 (if z2.2.2.1 = (-1 : Int32) then some z5 else gT (z5.2.2 3 1) tR (fun rr12 => bn1 (pX9_addStep rr12 z2.2.2.1 (0 : Int32) z5) (fun s14 => some s14))) (fun (z11 : gS) => if (z11.1 3 3) = (27 : Int32) then lt' (z11.1 3 3) (fun x15 => some (x15, z11)) else if (z11.1 3 3) = (28 : Int32) then lt' (z11.1 3 3) (fun x16 => some (x16, z11)) else some ((-1 : Int32), z11)) else some (z2.2.2.1, z5)) (fun (z10 : (Int32 × gS)) => bn1 (if z9 = 0 then if z10.1 = (-1 : Int32) then some (0 : Int32) else some (1 : Int32) else some (1 : Int32)) (fun (z17 : Int32) => if z17 = 0 then lt' (z2.1 + (1 : Int32)) (fun x18 => some (.inl (x18, z17, z10.1, z9, z10.2))) else bn1 (pX7_take z10.2) (fun s20 => lt' (z2.1 + (1 : Int32)) (fun x21 => some (.inl (x21, z17, z10.1, z9, s20)))))))))) ((0 : Int32), (1 : Int32), (-1 : Int32), (0 : Int32), σ)) (fun (z1 : gS) => some z1)
noncomputable def bX7_unit (f : Int32 → gS → Option gS) (a1 : Int32) (σ : gS) : Option (gS) := lt' (σ.1 3 3) (fun x1 => bnS (if (σ.1 3 3) = (34 : Int32) then if a1 < (6 : Int32) then bn1 (pX7_take σ) (fun s4 => bn1 (f (a1 + (1 : Int32)) s4) (fun s6 => some (.inl ((35 : Int32), s6)))) else bn1 (pX7_fail (2 : Int32) σ) (fun s8 => some (.inr s8)) else if (σ.1 3 3) = (9 : Int32) then bn1 (pX7_take σ) (fun s10 => bn1 (if (s10.1 3 3) = (24 : Int32) then if (lg_cmp (s10.2.1 3 4) (8 : Int64)) < 0 then some s10 else bn1 (pX7_blame (5 : Int32) s10) (fun s13 => some s13) else some s10) (fun (z11 : gS) => gT (z11.2.2 3 1) tR (fun rr14 => bn1 (pX9_addStep rr14 (9 : Int32) ((4 : Int32) + ((z11.2.1 3 4).toInt32)) z11) (fun s16 => some (.inl ((24 : Int32), s16)))))) else if (σ.1 3 3) = (24 : Int32) then gT (σ.2.2 3 1) tR (fun rr17 => bn1 (pX9_addStep rr17 (24 : Int32) ((σ.2.1 3 4).toInt32) σ) (fun s19 => some (.inl (x1, s19)))) else bn1 (pX10_inRange (σ.1 3 3) (10 : Int32) (13 : Int32)) (fun v20 => if v20 = 0 then bn1 (pX10_inRange (σ.1 3 3) (14 : Int32) (22 : Int32)) (fun v22 => if v22 = 0 then some (.inl ((-1 : Int32), σ)) else gT (σ.2.2 3 1) tR (fun rr24 => bn1 (pX9_addStep rr24 (9 : Int32) (((12 : Int32) + (σ.1 3 3)) - (14 : Int32)) σ) (fun s26 => some (.inl (x1, s26))))) else gT (σ.2.2 3 1) tR (fun rr27 => bn1 (pX9_addStep rr27 (9 : Int32) (((0 : Int32) + (σ.1 3 3)) - (10 : Int32)) σ) (fun s29 => some (.inl (x1, s29)))))) (fun (z2 : (Int32 × gS)) => if (z2.2.1 3 3) = z2.1 then bn1 (pX7_take z2.2) (fun s31 => some s31) else bn1 (pX7_fail (1 : Int32) z2.2) (fun s33 => some s33)))
/-- the two that call each other, n calls deep at most -/
noncomputable def pSU : Nat → (Int32 → gS → Option gS) × (Int32 → gS → Option gS)
  | 0 => (fun _ _ => none, fun _ _ => none)
  | n + 1 => (fun a σ => bX7_sum (pSU n).2 a σ, fun a σ => bX7_unit (pSU n).1 a σ)
set_option maxRecDepth 100000 in
theorem cb_X7_sum {G : gG} {b d d' : Nat} (hd : d' + 1 ≤ d ∧ 2 ≤ d) {f : Int32 → gS → Option gS} (hf : ∀ (a : Int32) (σ : gS), CN vC G b d' yX7_unit cX7_unit 3 none kV [.ref (b + 3), .int a] σ (f a σ)) {a1 : Int32} {σ : gS} : CN vC G b d yX7_sum cX7_sum 6 none kV [.ref (b + 3), .int a1] σ (bX7_sum f a1 σ) := by
  refine cn_of (own := RX7) rfl rfl (Nat.le_of_ble_eq_true rfl) ?_
  show GF vC G b (d, 0, 0) RX7 cX7_sum 6 none kV 0 [(0, .ref (b + 3)), (1, .int a1)] [] σ (bX7_sum f a1 σ)
  unfold bX7_sum
  refine g_iconst (q := 1) dX7_sum_0 kI_0 rfl ?_
  refine g_istore_n (lr := [(0, .ref (b + 3)), (1, .int a1)]) (q := 2) dX7_sum_1 rfl (by decide) rfl rfl ?_
  refine g_iconst (q := 3) dX7_sum_2 kI_m1 rfl ?_
  refine g_istore_n (lr := [(2, .int (0 : Int32)), (0, .ref (b + 3)), (1, .int a1)]) (q := 4) dX7_sum_3 rfl (by decide) rfl rfl ?_
  refine g_iconst (q := 5) dX7_sum_4 kI_1 rfl ?_
  refine g_istore (lr := [(3, .int (-1 : Int32)), (2, .int (0 : Int32)), (0, .ref (b + 3)), (1, .int a1)]) (q := 7) dX7_sum_5 (by decide) rfl rfl ?_
  refine g_iconst (q := 8) dX7_sum_7 kI_0 rfl ?_
  refine g_istore (lr := [(4, .int (1 : Int32)), (3, .int (-1 : Int32)), (2, .int (0 : Int32)), (0, .ref (b + 3)), (1, .int a1)]) (q := 10) dX7_sum_8 (by decide) rfl rfl ?_
  refine g_bind (S := gS) (hd := 133) (lvf := fun z1 => []) (stf := fun z1 => []) (σf := fun z1 => z1) ?_ (fun z1 => ?_)
  · refine g_loop (S := (Int32 × Int32 × Int32 × Int32 × gS)) (lvf := fun z2 => [(5, .int z2.1), (4, .int z2.2.1), (3, .int z2.2.2.1), (2, .int z2.2.2.2.1), (0, .ref (b + 3)), (1, .int a1)]) (σf := fun z2 => z2.2.2.2.2) (fun z2 => ?_) ((0 : Int32), (1 : Int32), (-1 : Int32), (0 : Int32), σ)
    refine g_iload (q := 12) 0 dX7_sum_10 rfl rfl ?_
    refine g_sipush (q := 15) dX7_sum_12 kS_400 rfl ?_
    refine g_icmp_gt (t := 133) (q := 18) dX7_sum_15 (by decide) rfl ?_ ?_
    · refine g_sub (lr := []) [] rfl ?_
      exact (g_leave (g_there (z2.2.2.2.2 : gS)))
    · refine g_iload (q := 20) 1 dX7_sum_18 rfl rfl ?_
      refine g_if_eq (t := 133) (q := 23) dX7_sum_20 (by decide) rfl ?_ ?_
      · refine g_sub (lr := []) [] rfl ?_
        exact (g_leave (g_there (z2.2.2.2.2 : gS)))
      · refine g_aload_n (q := 24) 4 dX7_sum_23 rfl rfl rfl ?_
        refine g_iload_n (q := 25) 5 dX7_sum_24 rfl rfl rfl ?_
        refine g_callO (As := [.int a1]) (st := []) (hf a1 z2.2.2.2.2) shX7 rfl cwX7_175 rfl dX7_sum_25 rfl (Nat.le_of_ble_eq_true rfl) (by omega) (kk_V (fun s4 => ?_))
        refine g_iload_n (q := 29) 3 dX7_sum_28 rfl rfl rfl ?_
        refine g_bind (S := gS) (hd := 42) (lvf := fun z5 => [(5, .int z2.1), (3, .int z2.2.2.1), (0, .ref (b + 3)), (1, .int a1)]) (stf := fun z5 => []) (σf := fun z5 => z5) ?_ (fun z5 => ?_)
        · refine g_if_eq (t := 42) (q := 32) dX7_sum_29 (by decide) rfl ?_ ?_
          · refine g_sub (lr := [(5, .int z2.1), (3, .int z2.2.2.1), (0, .ref (b + 3)), (1, .int a1)]) [0, 2, 4, 5] rfl ?_
            exact (g_there (s4 : gS))
          · refine g_aload_n (q := 33) 4 dX7_sum_32 rfl rfl rfl ?_
            refine g_getR (cT := tR) (q := 36) fX7_draft dX7_sum_33 ww200 rfl (fun rr6 hrr6 => ?_)
            refine g_bipush (q := 38) dX7_sum_36 kB_29 rfl ?_
            refine g_iconst (q := 39) dX7_sum_38 kI_0 rfl ?_
            refine g_callO (As := [.int (29 : Int32), .int (0 : Int32)]) (st := []) (cn_X9_addStep hrr6) (shX9 hrr6) rfl cwX7_172 rfl dX7_sum_39 rfl (Nat.le_of_ble_eq_true rfl) (by omega) (kk_V (fun s8 => ?_))
            refine g_sub (lr := [(5, .int z2.1), (3, .int z2.2.2.1), (0, .ref (b + 3)), (1, .int a1)]) [0, 2, 4, 5] rfl ?_
            exact (g_there (s8 : gS))
        · refine g_aload_n (q := 43) 2 dX7_sum_42 rfl rfl rfl ?_
          refine g_getI (q := 46) fX7_here dX7_sum_43 ww202 rfl ?_
          refine g_bipush (q := 48) dX7_sum_46 kB_29 rfl ?_
          refine g_bind (S := Int32) (hd := 56) (lvf := fun z9 => [(5, .int z2.1), (3, .int z2.2.2.1), (0, .ref (b + 3)), (1, .int a1)]) (stf := fun z9 => [.int z9]) (σf := fun z9 => z5) ?_ (fun z9 => ?_)
          · refine g_icmp_ne (t := 55) (q := 51) dX7_sum_48 (by decide) rfl ?_ ?_
            · refine g_iconst (q := 52) dX7_sum_51 kI_1 rfl ?_
              refine g_goto (t := 56) dX7_sum_52 (by decide) ?_
              exact (g_there ((1 : Int32) : Int32))
            · refine g_iconst (q := 56) dX7_sum_55 kI_0 rfl ?_
              exact (g_there ((0 : Int32) : Int32))
          · refine g_istore_n (lr := [(5, .int z2.1), (3, .int z2.2.2.1), (0, .ref (b + 3)), (1, .int a1)]) (q := 57) dX7_sum_56 rfl (by decide) rfl rfl ?_
            refine g_iload_n (q := 58) 0 dX7_sum_57 rfl rfl rfl ?_
            refine g_bind (S := (Int32 × gS)) (hd := 102) (lvf := fun z10 => [(3, .int z10.1), (2, .int z9), (5, .int z2.1), (0, .ref (b + 3)), (1, .int a1)]) (stf := fun z10 => []) (σf := fun z10 => z10.2) ?_ (fun z10 => ?_)
            · refine g_if_ne (t := 102) (q := 61) dX7_sum_58 (by decide) rfl ?_ ?_
              · refine g_iload_n (q := 62) 2 dX7_sum_61 rfl rfl rfl ?_
                refine g_iconst (q := 63) dX7_sum_62 kI_m1 rfl ?_
                refine g_bind (S := gS) (hd := 75) (lvf := fun z11 => [(2, .int z9), (5, .int z2.1), (0, .ref (b + 3)), (1, .int a1)]) (stf := fun z11 => []) (σf := fun z11 => z11) ?_ (fun z11 => ?_)
                · refine g_icmp_eq (t := 75) (q := 66) dX7_sum_63 (by decide) rfl ?_ ?_
                  · refine g_sub (lr := [(2, .int z9), (5, .int z2.1), (0, .ref (b + 3)), (1, .int a1)]) [0, 1, 3, 4] rfl ?_
                    exact (g_there (z5 : gS))
                  · refine g_aload_n (q := 67) 3 dX7_sum_66 rfl rfl rfl ?_
                    refine g_getR (cT := tR) (q := 70) fX7_draft dX7_sum_67 ww200 rfl (fun rr12 hrr12 => ?_)
                    refine g_iload_n (q := 71) 2 dX7_sum_70 rfl rfl rfl ?_
                    refine g_iconst (q := 72) dX7_sum_71 kI_0 rfl ?_
                    refine g_callO (As := [.int z2.2.2.1, .int (0 : Int32)]) (st := []) (cn_X9_addStep hrr12) (shX9 hrr12) rfl cwX7_172 rfl dX7_sum_72 rfl (Nat.le_of_ble_eq_true rfl) (by omega) (kk_V (fun s14 => ?_))
                    refine g_sub (lr := [(2, .int z9), (5, .int z2.1), (0, .ref (b + 3)), (1, .int a1)]) [0, 1, 3, 4] rfl ?_
                    exact (g_there (s14 : gS))
                · refine g_aload_n (q := 76) 2 dX7_sum_75 rfl rfl rfl ?_
                  refine g_getI (q := 79) fX7_here dX7_sum_76 ww202 rfl ?_
                  refine g_bipush (q := 81) dX7_sum_79 kB_27 rfl ?_
                  refine g_icmp_eq (t := 93) (q := 84) dX7_sum_81 (by decide) rfl ?_ ?_
                  · refine g_aload_n (q := 94) 2 dX7_sum_93 rfl rfl rfl ?_
                    refine g_getI (q := 97) fX7_here dX7_sum_94 ww202 rfl ?_
                    refine g_goto (t := 101) dX7_sum_97 (by decide) ?_
                    refine g_leti (fun x15 => ?_)
                    refine g_istore_n (lr := [(2, .int z9), (5, .int z2.1), (0, .ref (b + 3)), (1, .int a1)]) (q := 102) dX7_sum_101 rfl (by decide) rfl rfl ?_
                    exact (g_there ((x15, z11) : (Int32 × gS)))
                  · refine g_aload_n (q := 85) 2 dX7_sum_84 rfl rfl rfl ?_
                    refine g_getI (q := 88) fX7_here dX7_sum_85 ww202 rfl ?_
                    refine g_bipush (q := 90) dX7_sum_88 kB_28 rfl ?_
                    refine g_icmp_ne (t := 100) (q := 93) dX7_sum_90 (by decide) rfl ?_ ?_
                    · refine g_aload_n (q := 94) 2 dX7_sum_93 rfl rfl rfl ?_
                      refine g_getI (q := 97) fX7_here dX7_sum_94 ww202 rfl ?_
                      refine g_goto (t := 101) dX7_sum_97 (by decide) ?_
                      refine g_leti (fun x16 => ?_)
                      refine g_istore_n (lr := [(2, .int z9), (5, .int z2.1), (0, .ref (b + 3)), (1, .int a1)]) (q := 102) dX7_sum_101 rfl (by decide) rfl rfl ?_
                      exact (g_there ((x16, z11) : (Int32 × gS)))
                    · refine g_iconst (q := 101) dX7_sum_100 kI_m1 rfl ?_
                      refine g_istore_n (lr := [(2, .int z9), (5, .int z2.1), (0, .ref (b + 3)), (1, .int a1)]) (q := 102) dX7_sum_101 rfl (by decide) rfl rfl ?_
                      exact (g_there (((-1 : Int32), z11) : (Int32 × gS)))
              · refine g_sub (lr := [(3, .int z2.2.2.1), (2, .int z9), (5, .int z2.1), (0, .ref (b + 3)), (1, .int a1)]) [2, 0, 1, 3, 4] rfl ?_
                exact (g_there ((z2.2.2.1, z5) : (Int32 × gS)))
            · refine g_iload_n (q := 103) 1 dX7_sum_102 rfl rfl rfl ?_
              refine g_bind (S := Int32) (hd := 116) (lvf := fun z17 => [(3, .int z10.1), (2, .int z9), (5, .int z2.1), (0, .ref (b + 3)), (1, .int a1)]) (stf := fun z17 => [.int z17]) (σf := fun z17 => z10.2) ?_ (fun z17 => ?_)
              · refine g_if_ne (t := 111) (q := 106) dX7_sum_103 (by decide) rfl ?_ ?_
                · refine g_iload_n (q := 107) 0 dX7_sum_106 rfl rfl rfl ?_
                  refine g_iconst (q := 108) dX7_sum_107 kI_m1 rfl ?_
                  refine g_icmp_eq (t := 115) (q := 111) dX7_sum_108 (by decide) rfl ?_ ?_
                  · refine g_iconst (q := 116) dX7_sum_115 kI_0 rfl ?_
                    exact (g_there ((0 : Int32) : Int32))
                  · refine g_iconst (q := 112) dX7_sum_111 kI_1 rfl ?_
                    refine g_goto (t := 116) dX7_sum_112 (by decide) ?_
                    exact (g_there ((1 : Int32) : Int32))
                · refine g_iconst (q := 112) dX7_sum_111 kI_1 rfl ?_
                  refine g_goto (t := 116) dX7_sum_112 (by decide) ?_
                  exact (g_there ((1 : Int32) : Int32))
              · refine g_istore (lr := [(3, .int z10.1), (2, .int z9), (5, .int z2.1), (0, .ref (b + 3)), (1, .int a1)]) (q := 118) dX7_sum_116 (by decide) rfl rfl ?_
                refine g_iload (q := 120) 0 dX7_sum_118 rfl rfl ?_
                refine g_if_eq (t := 127) (q := 123) dX7_sum_120 (by decide) rfl ?_ ?_
                · refine g_iinc (lr := [(4, .int z17), (3, .int z10.1), (2, .int z9), (0, .ref (b + 3)), (1, .int a1)]) (q := 130) 3 dX7_sum_127 rfl kI_1 (by decide) rfl rfl (fun x18 => ?_)
                  refine g_goto (t := 10) dX7_sum_130 (by decide) ?_
                  exact (g_again ((x18, z17, z10.1, z9, z10.2) : (Int32 × Int32 × Int32 × Int32 × gS)))
                · refine g_aload_n (q := 124) 4 dX7_sum_123 rfl rfl rfl ?_
                  refine g_callO (As := []) (st := []) (cn_X7_take) shX7 rfl cwX7_136 rfl dX7_sum_124 rfl (Nat.le_of_ble_eq_true rfl) (by omega) (kk_V (fun s20 => ?_))
                  refine g_iinc (lr := [(4, .int z17), (3, .int z10.1), (2, .int z9), (0, .ref (b + 3)), (1, .int a1)]) (q := 130) 3 dX7_sum_127 rfl kI_1 (by decide) rfl rfl (fun x21 => ?_)
                  refine g_goto (t := 10) dX7_sum_130 (by decide) ?_
                  exact (g_again ((x21, z17, z10.1, z9, s20) : (Int32 × Int32 × Int32 × Int32 × gS)))
  · exact (g_vret dX7_sum_133)
set_option maxRecDepth 100000 in
theorem cb_X7_unit {G : gG} {b d d' : Nat} (hd : d' + 1 ≤ d ∧ 2 ≤ d) {f : Int32 → gS → Option gS} (hf : ∀ (a : Int32) (σ : gS), CN vC G b d' yX7_sum cX7_sum 6 none kV [.ref (b + 3), .int a] σ (f a σ)) {a1 : Int32} {σ : gS} : CN vC G b d yX7_unit cX7_unit 3 none kV [.ref (b + 3), .int a1] σ (bX7_unit f a1 σ) := by
  refine cn_of (own := RX7) rfl rfl (Nat.le_of_ble_eq_true rfl) ?_
  show GF vC G b (d, 0, 0) RX7 cX7_unit 3 none kV 0 [(0, .ref (b + 3)), (1, .int a1)] [] σ (bX7_unit f a1 σ)
  unfold bX7_unit
  refine g_aload_n (q := 1) 0 dX7_unit_0 rfl rfl rfl ?_
  refine g_getI (q := 4) fX7_here dX7_unit_1 ww202 rfl ?_
  refine g_leti (fun x1 => ?_)
  refine g_istore_n (lr := [(0, .ref (b + 3)), (1, .int a1)]) (q := 5) dX7_unit_4 rfl (by decide) rfl rfl ?_
  refine g_aload_n (q := 6) 1 dX7_unit_5 rfl rfl rfl ?_
  refine g_getI (q := 9) fX7_here dX7_unit_6 ww202 rfl ?_
  refine g_bipush (q := 11) dX7_unit_9 kB_34 rfl ?_
  refine g_bindS (S := (Int32 × gS)) (hd := 202) (lvf := fun z2 => [(2, .int z2.1), (0, .ref (b + 3))]) (stf := fun z2 => []) (σf := fun z2 => z2.2) ?_ (fun z2 => ?_)
  · refine g_icmp_ne (t := 43) (q := 14) dX7_unit_11 (by decide) rfl ?_ ?_
    · refine g_iload_n (q := 15) 2 dX7_unit_14 rfl rfl rfl ?_
      refine g_bipush (q := 17) dX7_unit_15 kB_6 rfl ?_
      refine g_icmp_lt (t := 26) (q := 20) dX7_unit_17 (by decide) rfl ?_ ?_
      · refine g_aload_n (q := 27) 1 dX7_unit_26 rfl rfl rfl ?_
        refine g_callO (As := []) (st := []) (cn_X7_take) shX7 rfl cwX7_136 rfl dX7_unit_27 rfl (Nat.le_of_ble_eq_true rfl) (by omega) (kk_V (fun s4 => ?_))
        refine g_aload_n (q := 31) 1 dX7_unit_30 rfl rfl rfl ?_
        refine g_iload_n (q := 32) 2 dX7_unit_31 rfl rfl rfl ?_
        refine g_iconst (q := 33) dX7_unit_32 kI_1 rfl ?_
        refine g_iadd (q := 34) dX7_unit_33 rfl ?_
        refine g_callO (As := [.int (a1 + (1 : Int32))]) (st := []) (hf (a1 + (1 : Int32)) s4) shX7 rfl cwX7_162 rfl dX7_unit_34 rfl (Nat.le_of_ble_eq_true rfl) (by omega) (kk_V (fun s6 => ?_))
        refine g_bipush (q := 39) dX7_unit_37 kB_35 rfl ?_
        refine g_istore_n (lr := [(0, .ref (b + 3)), (1, .int a1)]) (q := 40) dX7_unit_39 rfl (by decide) rfl rfl ?_
        refine g_goto (t := 202) dX7_unit_40 (by decide) ?_
        refine g_sub (lr := [(2, .int (35 : Int32)), (0, .ref (b + 3))]) [0, 1] rfl ?_
        exact (g_thereS (((35 : Int32), s6) : (Int32 × gS)))
      · refine g_aload_n (q := 21) 1 dX7_unit_20 rfl rfl rfl ?_
        refine g_iconst (q := 22) dX7_unit_21 kI_2 rfl ?_
        refine g_callO (As := [.int (2 : Int32)]) (st := []) (cn_X7_fail) shX7 rfl cwX7_87 rfl dX7_unit_22 rfl (Nat.le_of_ble_eq_true rfl) (by omega) (kk_V (fun s8 => ?_))
        exact (g_right (g_vret dX7_unit_25))
    · refine g_aload_n (q := 44) 1 dX7_unit_43 rfl rfl rfl ?_
      refine g_getI (q := 47) fX7_here dX7_unit_44 ww202 rfl ?_
      refine g_bipush (q := 49) dX7_unit_47 kB_9 rfl ?_
      refine g_icmp_ne (t := 103) (q := 52) dX7_unit_49 (by decide) rfl ?_ ?_
      · refine g_aload_n (q := 53) 1 dX7_unit_52 rfl rfl rfl ?_
        refine g_callO (As := []) (st := []) (cn_X7_take) shX7 rfl cwX7_136 rfl dX7_unit_53 rfl (Nat.le_of_ble_eq_true rfl) (by omega) (kk_V (fun s10 => ?_))
        refine g_aload_n (q := 57) 1 dX7_unit_56 rfl rfl rfl ?_
        refine g_getI (q := 60) fX7_here dX7_unit_57 ww202 rfl ?_
        refine g_bipush (q := 62) dX7_unit_60 kB_24 rfl ?_
        refine g_bind (S := gS) (hd := 81) (lvf := fun z11 => [(0, .ref (b + 3))]) (stf := fun z11 => []) (σf := fun z11 => z11) ?_ (fun z11 => ?_)
        · refine g_icmp_ne (t := 81) (q := 65) dX7_unit_62 (by decide) rfl ?_ ?_
          · refine g_aload_n (q := 66) 1 dX7_unit_65 rfl rfl rfl ?_
            refine g_getL (q := 69) fX7_value dX7_unit_66 ww203 rfl ?_
            refine g_ldc2 (q := 72) dX7_unit_69 ww525 rfl ?_
            refine g_lcmp (q := 73) dX7_unit_72 rfl ?_
            refine g_if_lt (t := 81) (q := 76) dX7_unit_73 (by decide) rfl ?_ ?_
            · refine g_sub (lr := [(0, .ref (b + 3))]) [1] rfl ?_
              exact (g_there (s10 : gS))
            · refine g_aload_n (q := 77) 1 dX7_unit_76 rfl rfl rfl ?_
              refine g_iconst (q := 78) dX7_unit_77 kI_5 rfl ?_
              refine g_callO (As := [.int (5 : Int32)]) (st := []) (cn_X7_blame) shX7 rfl cwX7_142 rfl dX7_unit_78 rfl (Nat.le_of_ble_eq_true rfl) (by omega) (kk_V (fun s13 => ?_))
              refine g_sub (lr := [(0, .ref (b + 3))]) [1] rfl ?_
              exact (g_there (s13 : gS))
          · refine g_sub (lr := [(0, .ref (b + 3))]) [1] rfl ?_
            exact (g_there (s10 : gS))
        · refine g_aload_n (q := 82) 0 dX7_unit_81 rfl rfl rfl ?_
          refine g_getR (cT := tR) (q := 85) fX7_draft dX7_unit_82 ww200 rfl (fun rr14 hrr14 => ?_)
          refine g_bipush (q := 87) dX7_unit_85 kB_9 rfl ?_
          refine g_iconst (q := 88) dX7_unit_87 kI_4 rfl ?_
          refine g_aload_n (q := 89) 0 dX7_unit_88 rfl rfl rfl ?_
          refine g_getL (q := 92) fX7_value dX7_unit_89 ww203 rfl ?_
          refine g_l2i (q := 93) dX7_unit_92 rfl ?_
          refine g_iadd (q := 94) dX7_unit_93 rfl ?_
          refine g_callO (As := [.int (9 : Int32), .int ((4 : Int32) + ((z11.2.1 3 4).toInt32))]) (st := []) (cn_X9_addStep hrr14) (shX9 hrr14) rfl cwX7_172 rfl dX7_unit_94 rfl (Nat.le_of_ble_eq_true rfl) (by omega) (kk_V (fun s16 => ?_))
          refine g_bipush (q := 99) dX7_unit_97 kB_24 rfl ?_
          refine g_istore_n (lr := [(0, .ref (b + 3))]) (q := 100) dX7_unit_99 rfl (by decide) rfl rfl ?_
          refine g_goto (t := 202) dX7_unit_100 (by decide) ?_
          exact (g_thereS (((24 : Int32), s16) : (Int32 × gS)))
      · refine g_aload_n (q := 104) 1 dX7_unit_103 rfl rfl rfl ?_
        refine g_getI (q := 107) fX7_here dX7_unit_104 ww202 rfl ?_
        refine g_bipush (q := 109) dX7_unit_107 kB_24 rfl ?_
        refine g_icmp_ne (t := 129) (q := 112) dX7_unit_109 (by decide) rfl ?_ ?_
        · refine g_aload_n (q := 113) 1 dX7_unit_112 rfl rfl rfl ?_
          refine g_getR (cT := tR) (q := 116) fX7_draft dX7_unit_113 ww200 rfl (fun rr17 hrr17 => ?_)
          refine g_bipush (q := 118) dX7_unit_116 kB_24 rfl ?_
          refine g_aload_n (q := 119) 1 dX7_unit_118 rfl rfl rfl ?_
          refine g_getL (q := 122) fX7_value dX7_unit_119 ww203 rfl ?_
          refine g_l2i (q := 123) dX7_unit_122 rfl ?_
          refine g_callO (As := [.int (24 : Int32), .int ((σ.2.1 3 4).toInt32)]) (st := []) (cn_X9_addStep hrr17) (shX9 hrr17) rfl cwX7_172 rfl dX7_unit_123 rfl (Nat.le_of_ble_eq_true rfl) (by omega) (kk_V (fun s19 => ?_))
          refine g_goto (t := 202) dX7_unit_126 (by decide) ?_
          refine g_sub (lr := [(2, .int x1), (0, .ref (b + 3))]) [0, 1] rfl ?_
          exact (g_thereS ((x1, s19) : (Int32 × gS)))
        · refine g_aload_n (q := 130) 1 dX7_unit_129 rfl rfl rfl ?_
          refine g_getI (q := 133) fX7_here dX7_unit_130 ww202 rfl ?_
          refine g_bipush (q := 135) dX7_unit_133 kB_10 rfl ?_
          refine g_bipush (q := 137) dX7_unit_135 kB_13 rfl ?_
          refine g_callN (As := [.int (σ.1 3 3), .int (10 : Int32), .int (13 : Int32)]) (st := []) (cn_X10_inRange) cwX7_129 rfl dX7_unit_137 rfl (Nat.le_of_ble_eq_true rfl) (by omega) (kk_PI (fun v20 => ?_))
          refine g_if_eq (t := 164) (q := 143) dX7_unit_140 (by decide) rfl ?_ ?_
          · refine g_aload_n (q := 165) 1 dX7_unit_164 rfl rfl rfl ?_
            refine g_getI (q := 168) fX7_here dX7_unit_165 ww202 rfl ?_
            refine g_bipush (q := 170) dX7_unit_168 kB_14 rfl ?_
            refine g_bipush (q := 172) dX7_unit_170 kB_22 rfl ?_
            refine g_callN (As := [.int (σ.1 3 3), .int (14 : Int32), .int (22 : Int32)]) (st := []) (cn_X10_inRange) cwX7_129 rfl dX7_unit_172 rfl (Nat.le_of_ble_eq_true rfl) (by omega) (kk_PI (fun v22 => ?_))
            refine g_if_eq (t := 200) (q := 178) dX7_unit_175 (by decide) rfl ?_ ?_
            · refine g_iconst (q := 201) dX7_unit_200 kI_m1 rfl ?_
              refine g_istore_n (lr := [(0, .ref (b + 3)), (1, .int a1)]) (q := 202) dX7_unit_201 rfl (by decide) rfl rfl ?_
              refine g_sub (lr := [(2, .int (-1 : Int32)), (0, .ref (b + 3))]) [0, 1] rfl ?_
              exact (g_thereS (((-1 : Int32), σ) : (Int32 × gS)))
            · refine g_aload_n (q := 179) 1 dX7_unit_178 rfl rfl rfl ?_
              refine g_getR (cT := tR) (q := 182) fX7_draft dX7_unit_179 ww200 rfl (fun rr24 hrr24 => ?_)
              refine g_bipush (q := 184) dX7_unit_182 kB_9 rfl ?_
              refine g_bipush (q := 186) dX7_unit_184 kB_12 rfl ?_
              refine g_aload_n (q := 187) 1 dX7_unit_186 rfl rfl rfl ?_
              refine g_getI (q := 190) fX7_here dX7_unit_187 ww202 rfl ?_
              refine g_iadd (q := 191) dX7_unit_190 rfl ?_
              refine g_bipush (q := 193) dX7_unit_191 kB_14 rfl ?_
              refine g_isub (q := 194) dX7_unit_193 rfl ?_
              refine g_callO (As := [.int (9 : Int32), .int (((12 : Int32) + (σ.1 3 3)) - (14 : Int32))]) (st := []) (cn_X9_addStep hrr24) (shX9 hrr24) rfl cwX7_172 rfl dX7_unit_194 rfl (Nat.le_of_ble_eq_true rfl) (by omega) (kk_V (fun s26 => ?_))
              refine g_goto (t := 202) dX7_unit_197 (by decide) ?_
              refine g_sub (lr := [(2, .int x1), (0, .ref (b + 3))]) [0, 1] rfl ?_
              exact (g_thereS ((x1, s26) : (Int32 × gS)))
          · refine g_aload_n (q := 144) 1 dX7_unit_143 rfl rfl rfl ?_
            refine g_getR (cT := tR) (q := 147) fX7_draft dX7_unit_144 ww200 rfl (fun rr27 hrr27 => ?_)
            refine g_bipush (q := 149) dX7_unit_147 kB_9 rfl ?_
            refine g_iconst (q := 150) dX7_unit_149 kI_0 rfl ?_
            refine g_aload_n (q := 151) 1 dX7_unit_150 rfl rfl rfl ?_
            refine g_getI (q := 154) fX7_here dX7_unit_151 ww202 rfl ?_
            refine g_iadd (q := 155) dX7_unit_154 rfl ?_
            refine g_bipush (q := 157) dX7_unit_155 kB_10 rfl ?_
            refine g_isub (q := 158) dX7_unit_157 rfl ?_
            refine g_callO (As := [.int (9 : Int32), .int (((0 : Int32) + (σ.1 3 3)) - (10 : Int32))]) (st := []) (cn_X9_addStep hrr27) (shX9 hrr27) rfl cwX7_172 rfl dX7_unit_158 rfl (Nat.le_of_ble_eq_true rfl) (by omega) (kk_V (fun s29 => ?_))
            refine g_goto (t := 202) dX7_unit_161 (by decide) ?_
            refine g_sub (lr := [(2, .int x1), (0, .ref (b + 3))]) [0, 1] rfl ?_
            exact (g_thereS ((x1, s29) : (Int32 × gS)))
  · refine g_aload_n (q := 203) 1 dX7_unit_202 rfl rfl rfl ?_
    refine g_getI (q := 206) fX7_here dX7_unit_203 ww202 rfl ?_
    refine g_iload_n (q := 207) 0 dX7_unit_206 rfl rfl rfl ?_
    refine g_icmp_ne (t := 217) (q := 210) dX7_unit_207 (by decide) rfl ?_ ?_
    · refine g_aload_n (q := 211) 1 dX7_unit_210 rfl rfl rfl ?_
      refine g_callO (As := []) (st := []) (cn_X7_take) shX7 rfl cwX7_136 rfl dX7_unit_211 rfl (Nat.le_of_ble_eq_true rfl) (by omega) (kk_V (fun s31 => ?_))
      refine g_goto (t := 222) dX7_unit_214 (by decide) ?_
      exact (g_vret dX7_unit_222)
    · refine g_aload_n (q := 218) 1 dX7_unit_217 rfl rfl rfl ?_
      refine g_iconst (q := 219) dX7_unit_218 kI_1 rfl ?_
      refine g_callO (As := [.int (1 : Int32)]) (st := []) (cn_X7_fail) shX7 rfl cwX7_87 rfl dX7_unit_219 rfl (Nat.le_of_ble_eq_true rfl) (by omega) (kk_V (fun s33 => ?_))
      exact (g_vret dX7_unit_222)
theorem cn_SU {G : gG} {b : Nat} : ∀ n : Nat, (∀ (a : Int32) (σ : gS), CN vC G b (2 + n) yX7_sum cX7_sum 6 none kV [.ref (b + 3), .int a] σ ((pSU n).1 a σ)) ∧ (∀ (a : Int32) (σ : gS), CN vC G b (2 + n) yX7_unit cX7_unit 3 none kV [.ref (b + 3), .int a] σ ((pSU n).2 a σ))
  | 0 => ⟨fun _ _ => (fun _ _ _ hx => (by cases hx)), fun _ _ => (fun _ _ _ hx => (by cases hx))⟩
  | n + 1 => ⟨fun _ _ => cb_X7_sum (d' := 2 + n) (by omega) (cn_SU n).2, fun _ _ => cb_X7_unit (d' := 2 + n) (by omega) (cn_SU n).1⟩
noncomputable def pX7_sum (a1 : Int32) (σ : gS) : Option gS := (pSU 20).1 a1 σ
theorem cn_X7_sum {G : gG} {b : Nat} {a1 : Int32} {σ : gS} : CN vC G b 22 yX7_sum cX7_sum 6 none kV [.ref (b + 3), .int a1] σ (pX7_sum a1 σ) := (cn_SU 20).1 a1 σ
noncomputable def pX9_endFormula (r0 : Nat) (a1 : Int32) (σ : gS) : Option (gS) := bn1 (pX10_inRange a1 (0 : Int32) (25 : Int32)) (fun v1 => if v1 = 0 then some σ else gx a1 26 (lt' (wI σ (r0 + 6) a1.toNatClampNeg (σ.1 r0 13)) (fun s3 => some s3)))
set_option maxRecDepth 100000 in
theorem cn_X9_endFormula {G : gG} {b : Nat} {r0 : Nat} (hr0 : tR r0 = true) {a1 : Int32} {σ : gS} : CN vC G b 2 yX9_endFormula cX9_endFormula 2 none kV [.ref (b + r0), .int a1] σ (pX9_endFormula r0 a1 σ) := by
  refine cn_of (own := RX9) rfl rfl (Nat.le_of_ble_eq_true rfl) ?_
  show GF vC G b (2, 0, 0) RX9 cX9_endFormula 2 none kV 0 [(0, .ref (b + r0)), (1, .int a1)] [] σ (pX9_endFormula r0 a1 σ)
  unfold pX9_endFormula
  refine g_iload_n (q := 1) 1 dX9_endFormula_0 rfl rfl rfl ?_
  refine g_iconst (q := 2) dX9_endFormula_1 kI_0 rfl ?_
  refine g_bipush (q := 4) dX9_endFormula_2 kB_25 rfl ?_
  refine g_callN (As := [.int a1, .int (0 : Int32), .int (25 : Int32)]) (st := []) (cn_X10_inRange) cwX9_55 rfl dX9_endFormula_4 rfl (Nat.le_of_ble_eq_true rfl) (by decide) (kk_PI (fun v1 => ?_))
  refine g_if_eq (t := 20) (q := 10) dX9_endFormula_7 (by decide) rfl ?_ ?_
  · exact (g_vret dX9_endFormula_20)
  · refine g_aload_n (q := 11) 0 dX9_endFormula_10 rfl rfl rfl ?_
    refine g_getA (q := 14) (fX9_formulaEnds hr0) dX9_endFormula_11 ww162 rfl ?_
    refine g_iload_n (q := 15) 1 dX9_endFormula_14 rfl rfl rfl ?_
    refine g_aload_n (q := 16) 0 dX9_endFormula_15 rfl rfl rfl ?_
    refine g_getI (q := 19) (fX9_steps hr0) dX9_endFormula_16 ww168 rfl ?_
    refine g_iast (q := 20) (aX9_formulaEnds hr0) dX9_endFormula_19 rfl (fun s3 => ?_)
    exact (g_vret dX9_endFormula_20)
noncomputable def pX9_startFormula (r0 : Nat) (a1 : Int32) (σ : gS) : Option (gS) := bn1 (pX10_inRange a1 (0 : Int32) (25 : Int32)) (fun v1 => if v1 = 0 then some σ else gx a1 26 (lt' (wI σ (r0 + 5) a1.toNatClampNeg (σ.1 r0 13)) (fun s3 => some s3)))
set_option maxRecDepth 100000 in
theorem cn_X9_startFormula {G : gG} {b : Nat} {r0 : Nat} (hr0 : tR r0 = true) {a1 : Int32} {σ : gS} : CN vC G b 2 yX9_startFormula cX9_startFormula 2 none kV [.ref (b + r0), .int a1] σ (pX9_startFormula r0 a1 σ) := by
  refine cn_of (own := RX9) rfl rfl (Nat.le_of_ble_eq_true rfl) ?_
  show GF vC G b (2, 0, 0) RX9 cX9_startFormula 2 none kV 0 [(0, .ref (b + r0)), (1, .int a1)] [] σ (pX9_startFormula r0 a1 σ)
  unfold pX9_startFormula
  refine g_iload_n (q := 1) 1 dX9_startFormula_0 rfl rfl rfl ?_
  refine g_iconst (q := 2) dX9_startFormula_1 kI_0 rfl ?_
  refine g_bipush (q := 4) dX9_startFormula_2 kB_25 rfl ?_
  refine g_callN (As := [.int a1, .int (0 : Int32), .int (25 : Int32)]) (st := []) (cn_X10_inRange) cwX9_55 rfl dX9_startFormula_4 rfl (Nat.le_of_ble_eq_true rfl) (by decide) (kk_PI (fun v1 => ?_))
  refine g_if_eq (t := 20) (q := 10) dX9_startFormula_7 (by decide) rfl ?_ ?_
  · exact (g_vret dX9_startFormula_20)
  · refine g_aload_n (q := 11) 0 dX9_startFormula_10 rfl rfl rfl ?_
    refine g_getA (q := 14) (fX9_formulaStarts hr0) dX9_startFormula_11 ww160 rfl ?_
    refine g_iload_n (q := 15) 1 dX9_startFormula_14 rfl rfl rfl ?_
    refine g_aload_n (q := 16) 0 dX9_startFormula_15 rfl rfl rfl ?_
    refine g_getI (q := 19) (fX9_steps hr0) dX9_startFormula_16 ww168 rfl ?_
    refine g_iast (q := 20) (aX9_formulaStarts hr0) dX9_startFormula_19 rfl (fun s3 => ?_)
    exact (g_vret dX9_startFormula_20)
noncomputable def pX7_tellLaw (σ : gS) : Option (gS) := gT (σ.2.2 3 1) tR (fun rr1 => bn1 (if (4 : Int32) ≤ (σ.1 rr1 4) then some (0 : Int32) else some (1 : Int32)) (fun (z2 : Int32) => bn2 (pX7_open z2 σ) (fun v3 s4 => if v3 = 0 then some s4 else gT (s4.2.2 3 1) tR (fun rr5 => lt' ((22 : Int32) + (s4.1 rr5 4)) (fun x6 => gT (s4.2.2 3 1) tR (fun rr7 => bn1 (pX7_tellName (5 : Int32) (s4.1 rr7 4) s4) (fun s9 => bn1 (pX7_need (26 : Int32) s9) (fun s11 => gT (s11.2.2 3 1) tR (fun rr12 => bn1 (pX9_startFormula rr12 x6 s11) (fun s14 => bn1 (pX7_sum (0 : Int32) s14) (fun s16 => gT (s16.2.2 3 1) tR (fun rr17 => bn1 (pX9_endFormula rr17 x6 s16) (fun s19 => bn1 (pX7_need (25 : Int32) s19) (fun s21 => gT (s21.2.2 3 1) tR (fun rr22 => lt' (wI s21 rr22 4 ((s21.1 rr22 4) + (1 : Int32))) (fun s23 => some s23))))))))))))))))
set_option maxRecDepth 100000 in
theorem cn_X7_tellLaw {G : gG} {b : Nat}  {σ : gS} : CN vC G b 23 yX7_tellLaw cX7_tellLaw 2 none kV [.ref (b + 3)] σ (pX7_tellLaw σ) := by
  refine cn_of (own := RX7) rfl rfl (Nat.le_of_ble_eq_true rfl) ?_
  show GF vC G b (23, 0, 0) RX7 cX7_tellLaw 2 none kV 0 [(0, .ref (b + 3))] [] σ (pX7_tellLaw σ)
  unfold pX7_tellLaw
  refine g_aload_n (q := 1) 0 dX7_tellLaw_0 rfl rfl rfl ?_
  refine g_aload_n (q := 2) 0 dX7_tellLaw_1 rfl rfl rfl ?_
  refine g_getR (cT := tR) (q := 5) fX7_draft dX7_tellLaw_2 ww200 rfl (fun rr1 hrr1 => ?_)
  refine g_getI (q := 8) (fX9_laws hrr1) dX7_tellLaw_5 ww151 rfl ?_
  refine g_iconst (q := 9) dX7_tellLaw_8 kI_4 rfl ?_
  refine g_bind (S := Int32) (hd := 17) (lvf := fun z2 => [(0, .ref (b + 3))]) (stf := fun z2 => [.int z2, .ref (b + 3)]) (σf := fun z2 => σ) ?_ (fun z2 => ?_)
  · refine g_icmp_ge (t := 16) (q := 12) dX7_tellLaw_9 (by decide) rfl ?_ ?_
    · refine g_iconst (q := 17) dX7_tellLaw_16 kI_0 rfl ?_
      exact (g_there ((0 : Int32) : Int32))
    · refine g_iconst (q := 13) dX7_tellLaw_12 kI_1 rfl ?_
      refine g_goto (t := 17) dX7_tellLaw_13 (by decide) ?_
      exact (g_there ((1 : Int32) : Int32))
  · refine g_callO (As := [.int z2]) (st := []) (cn_X7_open) shX7 rfl cwX7_106 rfl dX7_tellLaw_17 rfl (Nat.le_of_ble_eq_true rfl) (by decide) (kk_I (fun v3 s4 => ?_))
    refine g_if_ne (t := 24) (q := 23) dX7_tellLaw_20 (by decide) rfl ?_ ?_
    · exact (g_vret dX7_tellLaw_23)
    · refine g_bipush (q := 26) dX7_tellLaw_24 kB_22 rfl ?_
      refine g_aload_n (q := 27) 0 dX7_tellLaw_26 rfl rfl rfl ?_
      refine g_getR (cT := tR) (q := 30) fX7_draft dX7_tellLaw_27 ww200 rfl (fun rr5 hrr5 => ?_)
      refine g_getI (q := 33) (fX9_laws hrr5) dX7_tellLaw_30 ww151 rfl ?_
      refine g_iadd (q := 34) dX7_tellLaw_33 rfl ?_
      refine g_leti (fun x6 => ?_)
      refine g_istore_n (lr := [(0, .ref (b + 3))]) (q := 35) dX7_tellLaw_34 rfl (by decide) rfl rfl ?_
      refine g_aload_n (q := 36) 1 dX7_tellLaw_35 rfl rfl rfl ?_
      refine g_iconst (q := 37) dX7_tellLaw_36 kI_5 rfl ?_
      refine g_aload_n (q := 38) 1 dX7_tellLaw_37 rfl rfl rfl ?_
      refine g_getR (cT := tR) (q := 41) fX7_draft dX7_tellLaw_38 ww200 rfl (fun rr7 hrr7 => ?_)
      refine g_getI (q := 44) (fX9_laws hrr7) dX7_tellLaw_41 ww151 rfl ?_
      refine g_callO (As := [.int (5 : Int32), .int (s4.1 rr7 4)]) (st := []) (cn_X7_tellName) shX7 rfl cwX7_110 rfl dX7_tellLaw_44 rfl (Nat.le_of_ble_eq_true rfl) (by decide) (kk_V (fun s9 => ?_))
      refine g_aload_n (q := 48) 1 dX7_tellLaw_47 rfl rfl rfl ?_
      refine g_bipush (q := 50) dX7_tellLaw_48 kB_26 rfl ?_
      refine g_callO (As := [.int (26 : Int32)]) (st := []) (cn_X7_need) shX7 rfl cwX7_114 rfl dX7_tellLaw_50 rfl (Nat.le_of_ble_eq_true rfl) (by decide) (kk_V (fun s11 => ?_))
      refine g_aload_n (q := 54) 1 dX7_tellLaw_53 rfl rfl rfl ?_
      refine g_getR (cT := tR) (q := 57) fX7_draft dX7_tellLaw_54 ww200 rfl (fun rr12 hrr12 => ?_)
      refine g_iload_n (q := 58) 0 dX7_tellLaw_57 rfl rfl rfl ?_
      refine g_callO (As := [.int x6]) (st := []) (cn_X9_startFormula hrr12) (shX9 hrr12) rfl cwX7_117 rfl dX7_tellLaw_58 rfl (Nat.le_of_ble_eq_true rfl) (by decide) (kk_V (fun s14 => ?_))
      refine g_aload_n (q := 62) 1 dX7_tellLaw_61 rfl rfl rfl ?_
      refine g_iconst (q := 63) dX7_tellLaw_62 kI_0 rfl ?_
      refine g_callO (As := [.int (0 : Int32)]) (st := []) (cn_X7_sum) shX7 rfl cwX7_162 rfl dX7_tellLaw_63 rfl (Nat.le_of_ble_eq_true rfl) (by decide) (kk_V (fun s16 => ?_))
      refine g_aload_n (q := 67) 1 dX7_tellLaw_66 rfl rfl rfl ?_
      refine g_getR (cT := tR) (q := 70) fX7_draft dX7_tellLaw_67 ww200 rfl (fun rr17 hrr17 => ?_)
      refine g_iload_n (q := 71) 0 dX7_tellLaw_70 rfl rfl rfl ?_
      refine g_callO (As := [.int x6]) (st := []) (cn_X9_endFormula hrr17) (shX9 hrr17) rfl cwX7_123 rfl dX7_tellLaw_71 rfl (Nat.le_of_ble_eq_true rfl) (by decide) (kk_V (fun s19 => ?_))
      refine g_aload_n (q := 75) 1 dX7_tellLaw_74 rfl rfl rfl ?_
      refine g_bipush (q := 77) dX7_tellLaw_75 kB_25 rfl ?_
      refine g_callO (As := [.int (25 : Int32)]) (st := []) (cn_X7_need) shX7 rfl cwX7_114 rfl dX7_tellLaw_77 rfl (Nat.le_of_ble_eq_true rfl) (by decide) (kk_V (fun s21 => ?_))
      refine g_aload_n (q := 81) 1 dX7_tellLaw_80 rfl rfl rfl ?_
      refine g_getR (cT := tR) (q := 84) fX7_draft dX7_tellLaw_81 ww200 rfl (fun rr22 hrr22 => ?_)
      refine g_dup (q := 85) dX7_tellLaw_84 rfl rfl ?_
      refine g_getI (q := 88) (fX9_laws hrr22) dX7_tellLaw_85 ww151 rfl ?_
      refine g_iconst (q := 89) dX7_tellLaw_88 kI_1 rfl ?_
      refine g_iadd (q := 90) dX7_tellLaw_89 rfl ?_
      refine g_putI (q := 93) (fX9_laws hrr22) pwX9_laws okTX9 dX7_tellLaw_90 ww151 rfl (fun s23 => ?_)
      exact (g_vret dX7_tellLaw_93)
