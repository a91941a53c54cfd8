/-! THE LAW'S LOOP -/
theorem l_fwd {G : gG} {l : Launch} {B L : Nat} {xs : Nat → Int32} {x0 m0 n pc : Nat} {u t : gS × gS} {x : Option ((gS × gS) ⊕ Int32)} (h : LF G l B L xs x0 m0 (kJ G l B L xs x0 m0 1881 n) pc (lw_lv B x0 m0 n) [] u x) (hx : x = some (.inl t)) (hJ : Lo G l B L xs x0 m0 1881 (lw_lv B x0 m0 n) [] t) : Lo G l B L xs x0 m0 pc (lw_lv B x0 m0 n) [] u := h (.inl t) hx hJ
theorem l_six {L n : Nat} (hL : L ≤ 3072) (hn : n ≤ 4000) (h : ¬ nI L - 6 < nI n) : n + 6 ≤ L := by
  rcases Nat.lt_or_ge L 6 with h6 | h6
  · exfalso
    have h1 : nI L - nI 6 < 0 := pk_sneg (by omega) h6
    have h2 : (0 : Int32) ≤ nI n := nI_pos' (by omega)
    exact h (Int32.lt_of_lt_of_le h1 h2)
  · have h1 : nI L - 6 = nI (L - 6) := pk_sub (b := 6) h6
    rw [h1] at h
    rcases Nat.lt_or_ge (L - 6) n with h7 | h7
    · exact absurd (nI_lt h7 (by omega)) h
    · omega
set_option maxHeartbeats 4000000 in
set_option maxRecDepth 100000 in
theorem law_loop {G : gG} {l : Launch} {B L : Nat} {xs : Nat → Int32} {x0 m0 : Nat} (hL : L ≤ 3072) (Inv : gS × gS → Prop) (hq : ∀ k, k < 41 → ∀ (a1 a2 a3 a4 a5 : Int32) (u : gS × gS), Inv u → ∃ t, qs k a1 a2 a3 a4 a5 u = some (.inl t) ∧ Inv t) : ∀ (fuel n : Nat) (u : gS × gS), L + 6 ≤ n + fuel → n ≤ L + 6 → Inv u → Lo G l B L xs x0 m0 18 (lw_lv B x0 m0 n) [] u := by
  intro fuel
  induction fuel with
  | zero =>
    intro n u h1 h2 hI p e s m below meth c H locs ls hC g1 g2 hgk hP1 hP2 hS hl
    refine lv_iload_n hC.1 hC.2.1 dL_law_18 rfl (lv_at hl 3 rfl) ?_
    refine lv_aload_n hC.1 hC.2.1 dL_law_19 rfl (lv_at hl 0 rfl) ?_
    refine va_slen hC.1 hC.2.1 hC.2.2.2.2.2.2.1 hC.2.2.2.2.2.2.2.1 (Nat.not_le.mpr hC.2.2.2.2.2.2.2.1) hS dL_law_20 ?_
    refine lv_bipush (v := 6) hC.1 hC.2.1 dL_law_21 (by decide) ?_
    refine lv_isub hC.1 hC.2.1 dL_law_23 ?_
    refine lv_icmp_gt (tgt := 1887) hC.1 hC.2.1 dL_law_24 (by decide) (fun hc => ?_) (fun hc => ?_)
    · refine lv_iconst (v := 1) hC.1 hC.2.1 dL_law_1887 (by decide) ?_
      refine va_forget (fun q hq => hS.2.2 q hq) ?_
      refine W.widen (k := 600000) (n := 7302249) (by decide) (by decide) ?_
      exact lw_ret hC.1 hC.2.1 hC.2.2.1 hC.2.2.2.2.2.2.2.2.1 dL_law_1888
    · have := l_six hL (by omega) hc
      omega
  | succ fuel ih =>
    intro n u h1 h2 hI p e s m below meth c H locs ls hC g1 g2 hgk hP1 hP2 hS hl
    refine lv_iload_n hC.1 hC.2.1 dL_law_18 rfl (lv_at hl 3 rfl) ?_
    refine lv_aload_n hC.1 hC.2.1 dL_law_19 rfl (lv_at hl 0 rfl) ?_
    refine va_slen hC.1 hC.2.1 hC.2.2.2.2.2.2.1 hC.2.2.2.2.2.2.2.1 (Nat.not_le.mpr hC.2.2.2.2.2.2.2.1) hS dL_law_20 ?_
    refine lv_bipush (v := 6) hC.1 hC.2.1 dL_law_21 (by decide) ?_
    refine lv_isub hC.1 hC.2.1 dL_law_23 ?_
    refine lv_icmp_gt (tgt := 1887) hC.1 hC.2.1 dL_law_24 (by decide) (fun hc => ?_) (fun hc => ?_)
    · refine lv_iconst (v := 1) hC.1 hC.2.1 dL_law_1887 (by decide) ?_
      refine va_forget (fun q hq => hS.2.2 q hq) ?_
      refine W.widen (k := 600000) (n := 7302249) (by decide) (by decide) ?_
      exact lw_ret hC.1 hC.2.1 hC.2.2.1 hC.2.2.2.2.2.2.2.2.1 dL_law_1888
    · have hn := l_six hL (by omega) hc
      obtain ⟨e1, e2, e3⟩ := l_sIn (kv := 0) (by omega) hn hL
      rw [Nat.add_zero] at e2 e3
      have hJ : ∀ t : gS × gS, Inv t → Lo G l B L xs x0 m0 1881 (lw_lv B x0 m0 n) [] t := by
        intro t ht p e s m below meth c H locs ls hC g1 g2 hgk hP1 hP2 hS hl
        refine lv_iinc (v := nI (n + 6)) (lv' := [(3, .int (nI (n + 6))), (0, .ref B), (1, .ref (x0 + 0)), (2, .ref (m0 + 0))]) hC.1 hC.2.1 dL_law_1881 hl (k := 3) rfl (by rw [← nI_add]; rfl) (by decide) rfl (fun ls hl => ?_)
        refine lv_goto (tgt := 18) hC.1 hC.2.1 dL_law_1884 (by decide) ?_
        exact ih (n + 6) t (by omega) (by omega) ht p e s m below meth c H locs ls hC g1 g2 hgk hP1 hP2 hS (lv_sub hl [1, 2, 3, 0] rfl)
      refine lv_aload_n hC.1 hC.2.1 dL_law_27 rfl (lv_at hl 0 rfl) ?_
      refine lv_iload_n hC.1 hC.2.1 dL_law_28 rfl (lv_at hl 3 rfl) ?_
      refine va_sld hC.1 hC.2.1 hC.2.2.2.2.2.2.1 hC.2.2.2.2.2.2.2.1 (Nat.not_le.mpr hC.2.2.2.2.2.2.2.1) hS e2 dL_law_29 ?_
      refine lv_bipush (v := 63) hC.1 hC.2.1 dL_law_30 (by decide) ?_
      refine lv_iand hC.1 hC.2.1 dL_law_32 ?_
      obtain ⟨j, hj, ej⟩ := pk_andE (xs (nI n).toNatClampNeg) (m := 63) 6 (by decide)
      rw [ej]
      rcases (show j = 0 ∨ j = 1 ∨ j = 2 ∨ j = 3 ∨ j = 4 ∨ j = 5 ∨ j = 6 ∨ j = 7 ∨ j = 8 ∨ j = 9 ∨ j = 10 ∨ j = 11 ∨ j = 12 ∨ j = 13 ∨ j = 14 ∨ j = 15 ∨ j = 16 ∨ j = 17 ∨ j = 18 ∨ j = 19 ∨ j = 20 ∨ j = 21 ∨ j = 22 ∨ j = 23 ∨ j = 24 ∨ j = 25 ∨ j = 26 ∨ j = 27 ∨ j = 28 ∨ j = 29 ∨ j = 30 ∨ j = 31 ∨ j = 32 ∨ j = 33 ∨ j = 34 ∨ j = 35 ∨ j = 36 ∨ j = 37 ∨ j = 38 ∨ j = 39 ∨ j = 40 ∨ 41 ≤ j by omega) with rfl | rfl | rfl | rfl | rfl | rfl | rfl | rfl | rfl | rfl | rfl | rfl | rfl | rfl | rfl | rfl | rfl | rfl | rfl | rfl | rfl | rfl | rfl | rfl | rfl | rfl | rfl | rfl | rfl | rfl | rfl | rfl | rfl | rfl | rfl | rfl | rfl | rfl | rfl | rfl | rfl | hj2
      · obtain ⟨t, t1, t2⟩ := hq 0 (by decide) (xs (n + 1)) (xs (n + 2)) (xs (n + 3)) (xs (n + 4)) (xs (n + 5)) u hI
        exact lv_tableIn (tgt := 212) hC.1 hC.2.1 dL_law_33 (by decide) (by decide) (show _ = some (179 : Int) by decide +kernel) (by decide) (l_fwd (lc_0 hn hL) t1 (hJ t t2) p e s m below meth c H locs ls hC g1 g2 hgk hP1 hP2 hS hl)
      · obtain ⟨t, t1, t2⟩ := hq 1 (by decide) (xs (n + 1)) (xs (n + 2)) (xs (n + 3)) (xs (n + 4)) (xs (n + 5)) u hI
        exact lv_tableIn (tgt := 275) hC.1 hC.2.1 dL_law_33 (by decide) (by decide) (show _ = some (242 : Int) by decide +kernel) (by decide) (l_fwd (lc_1 hn hL) t1 (hJ t t2) p e s m below meth c H locs ls hC g1 g2 hgk hP1 hP2 hS hl)
      · obtain ⟨t, t1, t2⟩ := hq 2 (by decide) (xs (n + 1)) (xs (n + 2)) (xs (n + 3)) (xs (n + 4)) (xs (n + 5)) u hI
        exact lv_tableIn (tgt := 298) hC.1 hC.2.1 dL_law_33 (by decide) (by decide) (show _ = some (265 : Int) by decide +kernel) (by decide) (l_fwd (lc_2 hn hL) t1 (hJ t t2) p e s m below meth c H locs ls hC g1 g2 hgk hP1 hP2 hS hl)
      · obtain ⟨t, t1, t2⟩ := hq 3 (by decide) (xs (n + 1)) (xs (n + 2)) (xs (n + 3)) (xs (n + 4)) (xs (n + 5)) u hI
        exact lv_tableIn (tgt := 311) hC.1 hC.2.1 dL_law_33 (by decide) (by decide) (show _ = some (278 : Int) by decide +kernel) (by decide) (l_fwd (lc_3 hn hL) t1 (hJ t t2) p e s m below meth c H locs ls hC g1 g2 hgk hP1 hP2 hS hl)
      · obtain ⟨t, t1, t2⟩ := hq 4 (by decide) (xs (n + 1)) (xs (n + 2)) (xs (n + 3)) (xs (n + 4)) (xs (n + 5)) u hI
        exact lv_tableIn (tgt := 324) hC.1 hC.2.1 dL_law_33 (by decide) (by decide) (show _ = some (291 : Int) by decide +kernel) (by decide) (l_fwd (lc_4 hn hL) t1 (hJ t t2) p e s m below meth c H locs ls hC g1 g2 hgk hP1 hP2 hS hl)
      · obtain ⟨t, t1, t2⟩ := hq 5 (by decide) (xs (n + 1)) (xs (n + 2)) (xs (n + 3)) (xs (n + 4)) (xs (n + 5)) u hI
        exact lv_tableIn (tgt := 387) hC.1 hC.2.1 dL_law_33 (by decide) (by decide) (show _ = some (354 : Int) by decide +kernel) (by decide) (l_fwd (lc_5 hn hL) t1 (hJ t t2) p e s m below meth c H locs ls hC g1 g2 hgk hP1 hP2 hS hl)
      · obtain ⟨t, t1, t2⟩ := hq 6 (by decide) (xs (n + 1)) (xs (n + 2)) (xs (n + 3)) (xs (n + 4)) (xs (n + 5)) u hI
        exact lv_tableIn (tgt := 430) hC.1 hC.2.1 dL_law_33 (by decide) (by decide) (show _ = some (397 : Int) by decide +kernel) (by decide) (l_fwd (lc_6 hn hL) t1 (hJ t t2) p e s m below meth c H locs ls hC g1 g2 hgk hP1 hP2 hS hl)
      · obtain ⟨t, t1, t2⟩ := hq 7 (by decide) (xs (n + 1)) (xs (n + 2)) (xs (n + 3)) (xs (n + 4)) (xs (n + 5)) u hI
        exact lv_tableIn (tgt := 463) hC.1 hC.2.1 dL_law_33 (by decide) (by decide) (show _ = some (430 : Int) by decide +kernel) (by decide) (l_fwd (lc_7 hn hL) t1 (hJ t t2) p e s m below meth c H locs ls hC g1 g2 hgk hP1 hP2 hS hl)
      · obtain ⟨t, t1, t2⟩ := hq 8 (by decide) (xs (n + 1)) (xs (n + 2)) (xs (n + 3)) (xs (n + 4)) (xs (n + 5)) u hI
        exact lv_tableIn (tgt := 496) hC.1 hC.2.1 dL_law_33 (by decide) (by decide) (show _ = some (463 : Int) by decide +kernel) (by decide) (l_fwd (lc_8 hn hL) t1 (hJ t t2) p e s m below meth c H locs ls hC g1 g2 hgk hP1 hP2 hS hl)
      · obtain ⟨t, t1, t2⟩ := hq 9 (by decide) (xs (n + 1)) (xs (n + 2)) (xs (n + 3)) (xs (n + 4)) (xs (n + 5)) u hI
        exact lv_tableIn (tgt := 529) hC.1 hC.2.1 dL_law_33 (by decide) (by decide) (show _ = some (496 : Int) by decide +kernel) (by decide) (l_fwd (lc_9 hn hL) t1 (hJ t t2) p e s m below meth c H locs ls hC g1 g2 hgk hP1 hP2 hS hl)
      · obtain ⟨t, t1, t2⟩ := hq 10 (by decide) (xs (n + 1)) (xs (n + 2)) (xs (n + 3)) (xs (n + 4)) (xs (n + 5)) u hI
        exact lv_tableIn (tgt := 588) hC.1 hC.2.1 dL_law_33 (by decide) (by decide) (show _ = some (555 : Int) by decide +kernel) (by decide) (l_fwd (lc_10 hn hL) t1 (hJ t t2) p e s m below meth c H locs ls hC g1 g2 hgk hP1 hP2 hS hl)
      · obtain ⟨t, t1, t2⟩ := hq 11 (by decide) (xs (n + 1)) (xs (n + 2)) (xs (n + 3)) (xs (n + 4)) (xs (n + 5)) u hI
        exact lv_tableIn (tgt := 621) hC.1 hC.2.1 dL_law_33 (by decide) (by decide) (show _ = some (588 : Int) by decide +kernel) (by decide) (l_fwd (lc_11 hn hL) t1 (hJ t t2) p e s m below meth c H locs ls hC g1 g2 hgk hP1 hP2 hS hl)
      · obtain ⟨t, t1, t2⟩ := hq 12 (by decide) (xs (n + 1)) (xs (n + 2)) (xs (n + 3)) (xs (n + 4)) (xs (n + 5)) u hI
        exact lv_tableIn (tgt := 644) hC.1 hC.2.1 dL_law_33 (by decide) (by decide) (show _ = some (611 : Int) by decide +kernel) (by decide) (l_fwd (lc_12 hn hL) t1 (hJ t t2) p e s m below meth c H locs ls hC g1 g2 hgk hP1 hP2 hS hl)
      · obtain ⟨t, t1, t2⟩ := hq 13 (by decide) (xs (n + 1)) (xs (n + 2)) (xs (n + 3)) (xs (n + 4)) (xs (n + 5)) u hI
        exact lv_tableIn (tgt := 677) hC.1 hC.2.1 dL_law_33 (by decide) (by decide) (show _ = some (644 : Int) by decide +kernel) (by decide) (l_fwd (lc_13 hn hL) t1 (hJ t t2) p e s m below meth c H locs ls hC g1 g2 hgk hP1 hP2 hS hl)
      · obtain ⟨t, t1, t2⟩ := hq 14 (by decide) (xs (n + 1)) (xs (n + 2)) (xs (n + 3)) (xs (n + 4)) (xs (n + 5)) u hI
        exact lv_tableIn (tgt := 710) hC.1 hC.2.1 dL_law_33 (by decide) (by decide) (show _ = some (677 : Int) by decide +kernel) (by decide) (l_fwd (lc_14 hn hL) t1 (hJ t t2) p e s m below meth c H locs ls hC g1 g2 hgk hP1 hP2 hS hl)
      · obtain ⟨t, t1, t2⟩ := hq 15 (by decide) (xs (n + 1)) (xs (n + 2)) (xs (n + 3)) (xs (n + 4)) (xs (n + 5)) u hI
        exact lv_tableIn (tgt := 753) hC.1 hC.2.1 dL_law_33 (by decide) (by decide) (show _ = some (720 : Int) by decide +kernel) (by decide) (l_fwd (lc_15 hn hL) t1 (hJ t t2) p e s m below meth c H locs ls hC g1 g2 hgk hP1 hP2 hS hl)
      · obtain ⟨t, t1, t2⟩ := hq 16 (by decide) (xs (n + 1)) (xs (n + 2)) (xs (n + 3)) (xs (n + 4)) (xs (n + 5)) u hI
        exact lv_tableIn (tgt := 796) hC.1 hC.2.1 dL_law_33 (by decide) (by decide) (show _ = some (763 : Int) by decide +kernel) (by decide) (l_fwd (lc_16 hn hL) t1 (hJ t t2) p e s m below meth c H locs ls hC g1 g2 hgk hP1 hP2 hS hl)
      · obtain ⟨t, t1, t2⟩ := hq 17 (by decide) (xs (n + 1)) (xs (n + 2)) (xs (n + 3)) (xs (n + 4)) (xs (n + 5)) u hI
        exact lv_tableIn (tgt := 859) hC.1 hC.2.1 dL_law_33 (by decide) (by decide) (show _ = some (826 : Int) by decide +kernel) (by decide) (l_fwd (lc_17 hn hL) t1 (hJ t t2) p e s m below meth c H locs ls hC g1 g2 hgk hP1 hP2 hS hl)
      · obtain ⟨t, t1, t2⟩ := hq 18 (by decide) (xs (n + 1)) (xs (n + 2)) (xs (n + 3)) (xs (n + 4)) (xs (n + 5)) u hI
        exact lv_tableIn (tgt := 922) hC.1 hC.2.1 dL_law_33 (by decide) (by decide) (show _ = some (889 : Int) by decide +kernel) (by decide) (l_fwd (lc_18 hn hL) t1 (hJ t t2) p e s m below meth c H locs ls hC g1 g2 hgk hP1 hP2 hS hl)
      · obtain ⟨t, t1, t2⟩ := hq 19 (by decide) (xs (n + 1)) (xs (n + 2)) (xs (n + 3)) (xs (n + 4)) (xs (n + 5)) u hI
        exact lv_tableIn (tgt := 965) hC.1 hC.2.1 dL_law_33 (by decide) (by decide) (show _ = some (932 : Int) by decide +kernel) (by decide) (l_fwd (lc_19 hn hL) t1 (hJ t t2) p e s m below meth c H locs ls hC g1 g2 hgk hP1 hP2 hS hl)
      · obtain ⟨t, t1, t2⟩ := hq 20 (by decide) (xs (n + 1)) (xs (n + 2)) (xs (n + 3)) (xs (n + 4)) (xs (n + 5)) u hI
        exact lv_tableIn (tgt := 1008) hC.1 hC.2.1 dL_law_33 (by decide) (by decide) (show _ = some (975 : Int) by decide +kernel) (by decide) (l_fwd (lc_20 hn hL) t1 (hJ t t2) p e s m below meth c H locs ls hC g1 g2 hgk hP1 hP2 hS hl)
      · obtain ⟨t, t1, t2⟩ := hq 21 (by decide) (xs (n + 1)) (xs (n + 2)) (xs (n + 3)) (xs (n + 4)) (xs (n + 5)) u hI
        exact lv_tableIn (tgt := 1041) hC.1 hC.2.1 dL_law_33 (by decide) (by decide) (show _ = some (1008 : Int) by decide +kernel) (by decide) (l_fwd (lc_21 hn hL) t1 (hJ t t2) p e s m below meth c H locs ls hC g1 g2 hgk hP1 hP2 hS hl)
      · obtain ⟨t, t1, t2⟩ := hq 22 (by decide) (xs (n + 1)) (xs (n + 2)) (xs (n + 3)) (xs (n + 4)) (xs (n + 5)) u hI
        exact lv_tableIn (tgt := 1110) hC.1 hC.2.1 dL_law_33 (by decide) (by decide) (show _ = some (1077 : Int) by decide +kernel) (by decide) (l_fwd (lc_22 hn hL) t1 (hJ t t2) p e s m below meth c H locs ls hC g1 g2 hgk hP1 hP2 hS hl)
      · obtain ⟨t, t1, t2⟩ := hq 23 (by decide) (xs (n + 1)) (xs (n + 2)) (xs (n + 3)) (xs (n + 4)) (xs (n + 5)) u hI
        exact lv_tableIn (tgt := 1164) hC.1 hC.2.1 dL_law_33 (by decide) (by decide) (show _ = some (1131 : Int) by decide +kernel) (by decide) (l_fwd (lc_23 hn hL) t1 (hJ t t2) p e s m below meth c H locs ls hC g1 g2 hgk hP1 hP2 hS hl)
      · obtain ⟨t, t1, t2⟩ := hq 24 (by decide) (xs (n + 1)) (xs (n + 2)) (xs (n + 3)) (xs (n + 4)) (xs (n + 5)) u hI
        exact lv_tableIn (tgt := 1207) hC.1 hC.2.1 dL_law_33 (by decide) (by decide) (show _ = some (1174 : Int) by decide +kernel) (by decide) (l_fwd (lc_24 hn hL) t1 (hJ t t2) p e s m below meth c H locs ls hC g1 g2 hgk hP1 hP2 hS hl)
      · obtain ⟨t, t1, t2⟩ := hq 25 (by decide) (xs (n + 1)) (xs (n + 2)) (xs (n + 3)) (xs (n + 4)) (xs (n + 5)) u hI
        exact lv_tableIn (tgt := 1250) hC.1 hC.2.1 dL_law_33 (by decide) (by decide) (show _ = some (1217 : Int) by decide +kernel) (by decide) (l_fwd (lc_25 hn hL) t1 (hJ t t2) p e s m below meth c H locs ls hC g1 g2 hgk hP1 hP2 hS hl)
      · obtain ⟨t, t1, t2⟩ := hq 26 (by decide) (xs (n + 1)) (xs (n + 2)) (xs (n + 3)) (xs (n + 4)) (xs (n + 5)) u hI
        exact lv_tableIn (tgt := 1310) hC.1 hC.2.1 dL_law_33 (by decide) (by decide) (show _ = some (1277 : Int) by decide +kernel) (by decide) (l_fwd (lc_26 hn hL) t1 (hJ t t2) p e s m below meth c H locs ls hC g1 g2 hgk hP1 hP2 hS hl)
      · obtain ⟨t, t1, t2⟩ := hq 27 (by decide) (xs (n + 1)) (xs (n + 2)) (xs (n + 3)) (xs (n + 4)) (xs (n + 5)) u hI
        exact lv_tableIn (tgt := 1380) hC.1 hC.2.1 dL_law_33 (by decide) (by decide) (show _ = some (1347 : Int) by decide +kernel) (by decide) (l_fwd (lc_27 hn hL) t1 (hJ t t2) p e s m below meth c H locs ls hC g1 g2 hgk hP1 hP2 hS hl)
      · obtain ⟨t, t1, t2⟩ := hq 28 (by decide) (xs (n + 1)) (xs (n + 2)) (xs (n + 3)) (xs (n + 4)) (xs (n + 5)) u hI
        exact lv_tableIn (tgt := 1393) hC.1 hC.2.1 dL_law_33 (by decide) (by decide) (show _ = some (1360 : Int) by decide +kernel) (by decide) (l_fwd (lc_28 hn hL) t1 (hJ t t2) p e s m below meth c H locs ls hC g1 g2 hgk hP1 hP2 hS hl)
      · obtain ⟨t, t1, t2⟩ := hq 29 (by decide) (xs (n + 1)) (xs (n + 2)) (xs (n + 3)) (xs (n + 4)) (xs (n + 5)) u hI
        exact lv_tableIn (tgt := 1416) hC.1 hC.2.1 dL_law_33 (by decide) (by decide) (show _ = some (1383 : Int) by decide +kernel) (by decide) (l_fwd (lc_29 hn hL) t1 (hJ t t2) p e s m below meth c H locs ls hC g1 g2 hgk hP1 hP2 hS hl)
      · obtain ⟨t, t1, t2⟩ := hq 30 (by decide) (xs (n + 1)) (xs (n + 2)) (xs (n + 3)) (xs (n + 4)) (xs (n + 5)) u hI
        exact lv_tableIn (tgt := 1475) hC.1 hC.2.1 dL_law_33 (by decide) (by decide) (show _ = some (1442 : Int) by decide +kernel) (by decide) (l_fwd (lc_30 hn hL) t1 (hJ t t2) p e s m below meth c H locs ls hC g1 g2 hgk hP1 hP2 hS hl)
      · obtain ⟨t, t1, t2⟩ := hq 31 (by decide) (xs (n + 1)) (xs (n + 2)) (xs (n + 3)) (xs (n + 4)) (xs (n + 5)) u hI
        exact lv_tableIn (tgt := 1524) hC.1 hC.2.1 dL_law_33 (by decide) (by decide) (show _ = some (1491 : Int) by decide +kernel) (by decide) (l_fwd (lc_31 hn hL) t1 (hJ t t2) p e s m below meth c H locs ls hC g1 g2 hgk hP1 hP2 hS hl)
      · obtain ⟨t, t1, t2⟩ := hq 32 (by decide) (xs (n + 1)) (xs (n + 2)) (xs (n + 3)) (xs (n + 4)) (xs (n + 5)) u hI
        exact lv_tableIn (tgt := 1557) hC.1 hC.2.1 dL_law_33 (by decide) (by decide) (show _ = some (1524 : Int) by decide +kernel) (by decide) (l_fwd (lc_32 hn hL) t1 (hJ t t2) p e s m below meth c H locs ls hC g1 g2 hgk hP1 hP2 hS hl)
      · obtain ⟨t, t1, t2⟩ := hq 33 (by decide) (xs (n + 1)) (xs (n + 2)) (xs (n + 3)) (xs (n + 4)) (xs (n + 5)) u hI
        exact lv_tableIn (tgt := 1580) hC.1 hC.2.1 dL_law_33 (by decide) (by decide) (show _ = some (1547 : Int) by decide +kernel) (by decide) (l_fwd (lc_33 hn hL) t1 (hJ t t2) p e s m below meth c H locs ls hC g1 g2 hgk hP1 hP2 hS hl)
      · obtain ⟨t, t1, t2⟩ := hq 34 (by decide) (xs (n + 1)) (xs (n + 2)) (xs (n + 3)) (xs (n + 4)) (xs (n + 5)) u hI
        exact lv_tableIn (tgt := 1613) hC.1 hC.2.1 dL_law_33 (by decide) (by decide) (show _ = some (1580 : Int) by decide +kernel) (by decide) (l_fwd (lc_34 hn hL) t1 (hJ t t2) p e s m below meth c H locs ls hC g1 g2 hgk hP1 hP2 hS hl)
      · obtain ⟨t, t1, t2⟩ := hq 35 (by decide) (xs (n + 1)) (xs (n + 2)) (xs (n + 3)) (xs (n + 4)) (xs (n + 5)) u hI
        exact lv_tableIn (tgt := 1656) hC.1 hC.2.1 dL_law_33 (by decide) (by decide) (show _ = some (1623 : Int) by decide +kernel) (by decide) (l_fwd (lc_35 hn hL) t1 (hJ t t2) p e s m below meth c H locs ls hC g1 g2 hgk hP1 hP2 hS hl)
      · obtain ⟨t, t1, t2⟩ := hq 36 (by decide) (xs (n + 1)) (xs (n + 2)) (xs (n + 3)) (xs (n + 4)) (xs (n + 5)) u hI
        exact lv_tableIn (tgt := 1689) hC.1 hC.2.1 dL_law_33 (by decide) (by decide) (show _ = some (1656 : Int) by decide +kernel) (by decide) (l_fwd (lc_36 hn hL) t1 (hJ t t2) p e s m below meth c H locs ls hC g1 g2 hgk hP1 hP2 hS hl)
      · obtain ⟨t, t1, t2⟩ := hq 37 (by decide) (xs (n + 1)) (xs (n + 2)) (xs (n + 3)) (xs (n + 4)) (xs (n + 5)) u hI
        exact lv_tableIn (tgt := 1722) hC.1 hC.2.1 dL_law_33 (by decide) (by decide) (show _ = some (1689 : Int) by decide +kernel) (by decide) (l_fwd (lc_37 hn hL) t1 (hJ t t2) p e s m below meth c H locs ls hC g1 g2 hgk hP1 hP2 hS hl)
      · obtain ⟨t, t1, t2⟩ := hq 38 (by decide) (xs (n + 1)) (xs (n + 2)) (xs (n + 3)) (xs (n + 4)) (xs (n + 5)) u hI
        exact lv_tableIn (tgt := 1765) hC.1 hC.2.1 dL_law_33 (by decide) (by decide) (show _ = some (1732 : Int) by decide +kernel) (by decide) (l_fwd (lc_38 hn hL) t1 (hJ t t2) p e s m below meth c H locs ls hC g1 g2 hgk hP1 hP2 hS hl)
      · obtain ⟨t, t1, t2⟩ := hq 39 (by decide) (xs (n + 1)) (xs (n + 2)) (xs (n + 3)) (xs (n + 4)) (xs (n + 5)) u hI
        exact lv_tableIn (tgt := 1825) hC.1 hC.2.1 dL_law_33 (by decide) (by decide) (show _ = some (1792 : Int) by decide +kernel) (by decide) (l_fwd (lc_39 hn hL) t1 (hJ t t2) p e s m below meth c H locs ls hC g1 g2 hgk hP1 hP2 hS hl)
      · obtain ⟨t, t1, t2⟩ := hq 40 (by decide) (xs (n + 1)) (xs (n + 2)) (xs (n + 3)) (xs (n + 4)) (xs (n + 5)) u hI
        exact lv_tableIn (tgt := 1858) hC.1 hC.2.1 dL_law_33 (by decide) (by decide) (show _ = some (1825 : Int) by decide +kernel) (by decide) (l_fwd (lc_40 hn hL) t1 (hJ t t2) p e s m below meth c H locs ls hC g1 g2 hgk hP1 hP2 hS hl)
      · refine lv_tableOut (tgt := 1881) hC.1 hC.2.1 dL_law_33 (Or.inr ?_) (by decide) (hJ u hI p e s m below meth c H locs ls hC g1 g2 hgk hP1 hP2 hS hl)
        rw [nI_toInt (by omega)]
        omega
