/-! THE END -/
theorem all_q (k : Nat) (hk : k < 41) (a1 a2 a3 a4 a5 : Int32) (u : gS × gS) (hu : Inv u) : ∃ t, qs k a1 a2 a3 a4 a5 u = some (.inl t) ∧ Inv t := by
  have h : k = 0 ∨ k = 1 ∨ k = 2 ∨ k = 3 ∨ k = 4 ∨ k = 5 ∨ k = 6 ∨ k = 7 ∨ k = 8 ∨ k = 9 ∨ k = 10 ∨ k = 11 ∨ k = 12 ∨ k = 13 ∨ k = 14 ∨ k = 15 ∨ k = 16 ∨ k = 17 ∨ k = 18 ∨ k = 19 ∨ k = 20 ∨ k = 21 ∨ k = 22 ∨ k = 23 ∨ k = 24 ∨ k = 25 ∨ k = 26 ∨ k = 27 ∨ k = 28 ∨ k = 29 ∨ k = 30 ∨ k = 31 ∨ k = 32 ∨ k = 33 ∨ k = 34 ∨ k = 35 ∨ k = 36 ∨ k = 37 ∨ k = 38 ∨ k = 39 ∨ k = 40 := by omega
  rcases h with rfl | rfl | rfl | rfl | rfl | rfl | rfl | rfl | rfl | rfl | rfl | rfl | rfl | rfl | rfl | rfl | rfl | rfl | rfl | rfl | rfl | rfl | rfl | rfl | rfl | rfl | rfl | rfl | rfl | rfl | rfl | rfl | rfl | rfl | rfl | rfl | rfl | rfl | rfl | rfl | rfl
  · exact h_0 (a1 := a1) (a2 := a2) (a3 := a3) (a4 := a4) (a5 := a5) hu
  · exact h_1 (a1 := a1) (a2 := a2) (a3 := a3) (a4 := a4) (a5 := a5) hu
  · exact h_2 (a1 := a1) (a2 := a2) (a3 := a3) (a4 := a4) (a5 := a5) hu
  · exact h_3 (a1 := a1) (a2 := a2) (a3 := a3) (a4 := a4) (a5 := a5) hu
  · exact h_4 (a1 := a1) (a2 := a2) (a3 := a3) (a4 := a4) (a5 := a5) hu
  · exact h_5 (a1 := a1) (a2 := a2) (a3 := a3) (a4 := a4) (a5 := a5) hu
  · exact h_6 (a1 := a1) (a2 := a2) (a3 := a3) (a4 := a4) (a5 := a5) hu
  · exact h_7 (a1 := a1) (a2 := a2) (a3 := a3) (a4 := a4) (a5 := a5) hu
  · exact h_8 (a1 := a1) (a2 := a2) (a3 := a3) (a4 := a4) (a5 := a5) hu
  · exact h_9 (a1 := a1) (a2 := a2) (a3 := a3) (a4 := a4) (a5 := a5) hu
  · exact h_10 (a1 := a1) (a2 := a2) (a3 := a3) (a4 := a4) (a5 := a5) hu
  · exact h_11 (a1 := a1) (a2 := a2) (a3 := a3) (a4 := a4) (a5 := a5) hu
  · exact h_12 (a1 := a1) (a2 := a2) (a3 := a3) (a4 := a4) (a5 := a5) hu
  · exact h_13 (a1 := a1) (a2 := a2) (a3 := a3) (a4 := a4) (a5 := a5) hu
  · exact h_14 (a1 := a1) (a2 := a2) (a3 := a3) (a4 := a4) (a5 := a5) hu
  · exact h_15 (a1 := a1) (a2 := a2) (a3 := a3) (a4 := a4) (a5 := a5) hu
  · exact h_16 (a1 := a1) (a2 := a2) (a3 := a3) (a4 := a4) (a5 := a5) hu
  · exact h_17 (a1 := a1) (a2 := a2) (a3 := a3) (a4 := a4) (a5 := a5) hu
  · exact h_18 (a1 := a1) (a2 := a2) (a3 := a3) (a4 := a4) (a5 := a5) hu
  · exact h_19 (a1 := a1) (a2 := a2) (a3 := a3) (a4 := a4) (a5 := a5) hu
  · exact h_20 (a1 := a1) (a2 := a2) (a3 := a3) (a4 := a4) (a5 := a5) hu
  · exact h_21 (a1 := a1) (a2 := a2) (a3 := a3) (a4 := a4) (a5 := a5) hu
  · exact h_22 (a1 := a1) (a2 := a2) (a3 := a3) (a4 := a4) (a5 := a5) hu
  · exact h_23 (a1 := a1) (a2 := a2) (a3 := a3) (a4 := a4) (a5 := a5) hu
  · exact h_24 (a1 := a1) (a2 := a2) (a3 := a3) (a4 := a4) (a5 := a5) hu
  · exact h_25 (a1 := a1) (a2 := a2) (a3 := a3) (a4 := a4) (a5 := a5) hu
  · exact h_26 (a1 := a1) (a2 := a2) (a3 := a3) (a4 := a4) (a5 := a5) hu
  · exact h_27 (a1 := a1) (a2 := a2) (a3 := a3) (a4 := a4) (a5 := a5) hu
  · exact h_28 (a1 := a1) (a2 := a2) (a3 := a3) (a4 := a4) (a5 := a5) hu
  · exact h_29 (a1 := a1) (a2 := a2) (a3 := a3) (a4 := a4) (a5 := a5) hu
  · exact h_30 (a1 := a1) (a2 := a2) (a3 := a3) (a4 := a4) (a5 := a5) hu
  · exact h_31 (a1 := a1) (a2 := a2) (a3 := a3) (a4 := a4) (a5 := a5) hu
  · exact h_32 (a1 := a1) (a2 := a2) (a3 := a3) (a4 := a4) (a5 := a5) hu
  · exact h_33 (a1 := a1) (a2 := a2) (a3 := a3) (a4 := a4) (a5 := a5) hu
  · exact h_34 (a1 := a1) (a2 := a2) (a3 := a3) (a4 := a4) (a5 := a5) hu
  · exact h_35 (a1 := a1) (a2 := a2) (a3 := a3) (a4 := a4) (a5 := a5) hu
  · exact h_36 (a1 := a1) (a2 := a2) (a3 := a3) (a4 := a4) (a5 := a5) hu
  · exact h_37 (a1 := a1) (a2 := a2) (a3 := a3) (a4 := a4) (a5 := a5) hu
  · exact h_38 (a1 := a1) (a2 := a2) (a3 := a3) (a4 := a4) (a5 := a5) hu
  · exact h_39 (a1 := a1) (a2 := a2) (a3 := a3) (a4 := a4) (a5 := a5) hu
  · exact h_40 (a1 := a1) (a2 := a2) (a3 := a3) (a4 := a4) (a5 := a5) hu
