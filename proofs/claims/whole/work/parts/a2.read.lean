/-! read: both sides answer alike -/
def rFC (r o j : Nat) : Bool := decide ((o = 1 ∧ j = 1) ∨ o = 3 ∨ (4 ≤ o ∧ o ≤ 7) ∨ (18 ≤ o ∧ o ≤ 20) ∨ (r ≤ o ∧ o ≤ r + 8) ∨ (o = 23 ∧ j = 0))
def rFR (o j : Nat) : Bool := decide ((o = 0 ∧ j ≤ 48) ∨ (2 ≤ o ∧ o ≤ 6) ∨ (8 ≤ o ∧ o ≤ 32))
def setR (A : Abs) (Θ : Tld) (P : Int32) : Abs := ((0, aTb A), (aPn A, aPt A), (aFn A, aFk A, aFa A, aFv A), Θ, P)
theorem setR_ok {A : Abs} {Θ : Tld} {P : Int32} (h : okA A) (ht : TdT Θ) : okA (setR A Θ P) := ⟨⟨Nat.zero_le _, fun i hi => absurd hi (Nat.not_lt_zero i)⟩, h.2.1, h.2.2.1, ht⟩
theorem RC_rdd {A : Abs} {r : Nat} {Θ : Tld} {P : Int32} {σ σ' : gS} (hr : tR r = true) (h : RC A σ) (f : fr (rFC r) σ σ') (h1 : σ'.1 1 1 = 0) (h7 : σ'.1 3 7 = P) (ht : ∃ q, tR q = true ∧ σ'.2.2 23 0 = q ∧ σ'.2.2 3 1 = 33 - q ∧ TdC Θ q σ') : RC (setR A Θ P) σ' := by
  obtain ⟨-, ⟨b1, b2⟩, ⟨c1, c2⟩, -, -, e, g⟩ := h
  have nf : ∀ o j, (o = 8 ∨ o = 21 ∨ o = 22 ∨ (39 ≤ o ∧ o ≤ 42) ∨ o = 45) → rFC r o j = false := fun o j q => decide_eq_false (by
    rcases tR_or hr with rfl | rfl <;> omega)
  refine ⟨⟨h1, fun i hi => absurd hi (Nat.not_lt_zero i)⟩, ⟨(fr_1 f (nf _ _ (by omega))).trans b1, fun p j hp hj => (fr_1 f (nf _ _ (by omega))).trans (b2 p j hp hj)⟩, ⟨(fr_1 f (nf _ _ (by omega))).trans c1, fun i hi => ?_⟩, ht, h7, fun j hj => (fr_2 f (nf _ _ (by omega))).trans (e j hj), fun n k hn hk => (fr_2 f (nf _ _ (by omega))).trans (g n k hn hk)⟩
  obtain ⟨g1, g2, g3⟩ := c2 i hi
  exact ⟨(fr_1 f (nf _ _ (by omega))).trans g1, (fr_1 f (nf _ _ (by omega))).trans g2, (fr_1 f (nf _ _ (by omega))).trans g3⟩
theorem RR_rdd {A : Abs} {Θ : Tld} {P : Int32} {τ τ' : gS} (h : RR A τ) (f : fr rFR τ τ') (h1 : τ'.1 0 2 = 0) (h7 : τ'.1 0 17 = P) (ht : ∃ L, L < 2 ∧ τ'.1 0 18 = nI L ∧ TdR Θ L τ') : RR (setR A Θ P) τ' := by
  obtain ⟨-, ⟨b1, b2⟩, ⟨c1, c2⟩, -, -, e⟩ := h
  have nf : ∀ o j, (o = 0 ∧ 50 ≤ j) ∨ o = 7 ∨ 33 ≤ o → rFR o j = false := fun o j q => decide_eq_false (by omega)
  refine ⟨⟨h1, fun i hi => absurd hi (Nat.not_lt_zero i)⟩, ⟨(fr_1 f (nf _ _ (by omega))).trans b1, fun p hp => ?_⟩, ⟨(fr_1 f (nf _ _ (by omega))).trans c1, fun i hi => ?_⟩, ht, h7, fun j hj => (fr_2 f (nf _ _ (by omega))).trans (e j hj)⟩
  · obtain ⟨g1, g2, g3, g4, g5⟩ := b2 p hp
    exact ⟨(fr_1 f (nf _ _ (by omega))).trans g1, (fr_1 f (nf _ _ (by omega))).trans g2, (fr_1 f (nf _ _ (by omega))).trans g3, (fr_1 f (nf _ _ (by omega))).trans g4, fun j hj => (fr_1 f (nf _ _ (by omega))).trans (g5 j hj)⟩
  · obtain ⟨g1, g2, g3, g4⟩ := c2 i hi
    exact ⟨(fr_1 f (nf _ _ (by omega))).trans g1, (fr_1 f (nf _ _ (by omega))).trans g2, (fr_1 f (nf _ _ (by omega))).trans g3, (fr_1 f (nf _ _ (by omega))).trans g4⟩
theorem fr_iniC {s : gS} {r : Nat} {T P : Int32} {v : Int64} : fr (rFC r) s (iniC s r T v P) := fun o j q => by
  have q := of_decide_eq_false q
  refine ⟨iniC_o (by omega), ?_, rfl⟩
  unfold iniC clC
  rw [wI_2, wI_2, wI_2, wI_2, wI_2, wI_2, wL_2, if_neg (by omega)]
  rfl
theorem fr_iniR {s : gS} {L : Nat} (hL : L < 2) : fr rFR s (iniR s L) := fun o j q => by
  have q := of_decide_eq_false q
  exact ⟨iniR_o (by omega), rfl, rfl⟩
theorem pcF_r {r : Nat} {σ τ : gS} (f : fr (pcF r) σ τ) : fr (rFC r) σ τ := fr_up (fun o j q => decide_eq_false (by
  have q := of_decide_eq_false q
  omega)) f
theorem tF_r {L : Nat} {σ τ : gS} (f : fr (tF L) σ τ) : fr rFR σ τ := fr_up (fun o j q => decide_eq_false (by
  have q := of_decide_eq_false q
  omega)) f
theorem puF_r {r : Nat} {σ τ : gS} (f : fr puF σ τ) : fr (rFC r) σ τ := fr_up (fun o j q => by
  have q := of_decide_eq_false q
  simp only [puF, Bool.or_eq_false_iff, Bool.and_eq_false_iff, beq_eq_false_iff_ne]
  omega) f
theorem tkG_n {o j : Nat} (h : ¬ (3 ≤ o ∧ o ≤ 6) ∧ ¬ (o = 0 ∧ j = 10)) : tkG 0 o j = false := by
  simp only [tkG, Bool.or_eq_false_iff, Bool.and_eq_false_iff, beq_eq_false_iff_ne, decide_eq_false_iff_not]
  omega
theorem tkG_r {σ τ : gS} (f : fr (tkG 0) σ τ) : fr rFR σ τ := fr_up (fun o j q => tkG_n (by
  have q := of_decide_eq_false q
  omega)) f
theorem rw2_r {σ τ : gS} (f : fr rw2 σ τ) : fr rFR σ τ := fr_up (fun o j q => by
  have q := of_decide_eq_false q
  simp only [rw2, beq_eq_false_iff_ne]
  omega) f
theorem fr_wC {r o j : Nat} {σ : gS} {v : Int32} (h : (o = 1 ∧ j = 1) ∨ o = 3 ∨ (4 ≤ o ∧ o ≤ 7)) : fr (rFC r) σ (wI σ o j v) := fr_wI (decide_eq_true (by omega))
theorem fr_w0 {j : Nat} {σ : gS} {v : Int32} (h : j ≤ 48) : fr rFR σ (wI σ 0 j v) := fr_wI (decide_eq_true (by omega))
theorem h_2 {a1 a2 a3 a4 a5 : Int32} {u : gS × gS} (hu : Inv u) : ∃ t, q2 a1 a2 a3 a4 a5 u = some (.inl t) ∧ Inv t := by
  obtain ⟨A, ho, h1, h2⟩ := hu
  suffices hs : ∃ v s1 s2, pX10_read u.1 = some (v, s1) ∧ pX11_read u.2 = some (v, s2) ∧ Inv (s1, s2) by
    obtain ⟨v, s1, s2, e1, e2, e3⟩ := hs
    exact ⟨(s1, s2), qII e1 e2, e3⟩
  have hn := ho.1.1
  have hby := ho.1.2
  have htd := ho.2.2.2
  obtain ⟨rl, d1, d2, d3, d4⟩ := h1.2.2.2.1
  obtain ⟨M, m1, m2, m3⟩ := h2.2.2.2.1
  obtain ⟨r, hr, hrl⟩ : ∃ r, tR r = true ∧ r = 33 - rl := by
    rcases tR_or d1 with rfl | rfl
    · exact ⟨24, rfl, rfl⟩
    · exact ⟨9, rfl, rfl⟩
  have h9 := tR_9 hr
  have h9' := tR_9 d1
  obtain ⟨L, hL, hLM⟩ : ∃ L, L < 2 ∧ L = 1 - M := ⟨1 - M, by omega, rfl⟩
  -- the class cuts its text
  have tx1 : txC (aTn A) (aTb A) (wI u.1 4 3 0) := ⟨by rw [wI_1, if_neg (by omega)]; exact h1.1.1, fun i hi => by rw [wI_1, if_neg (by omega)]; exact h1.1.2 i hi⟩
  have wd1 : wdsC (wI u.1 4 3 0) := fun j hj => h1.2.2.2.2.2.1 j hj
  -- the reference takes its text
  have e02 := h2.1.1
  obtain ⟨t1, p1, p2, p3⟩ := cp_go (n := aTn A) (b := aTb A) (τ := wI u.2 0 4 (nI (aTn A))) hn wI_s (fun i hi => by rw [wI_1, if_neg (by omega)]; exact h2.1.2 i hi)
  have tx2 : txR (aTn A) (aTb A) (wI (wI t1 0 2 0) 0 10 0) := ⟨by rw [wI_1, if_neg (by omega), wI_1, if_neg (by omega), fr_1 p2 rfl, wI_s], fun i hi => by rw [wI_1, if_neg (by omega), wI_1, if_neg (by omega)]; exact p3 i hi⟩
  have wd2 : wdsR (wI (wI t1 0 2 0) 0 10 0) := fun j hj => (fr_2 p2 rfl).trans (h2.2.2.2.2.2 j hj)
  obtain ⟨N, tk, pl, vl, σ2, rr, τ4, c1, c2, c3, c4, c5, hT, c6, c7⟩ := scan_l hn hby 401 0 0 (wI u.1 4 3 0) (wI (wI t1 0 2 0) 0 10 0) (fun _ => 0) (fun _ => 0) (fun _ => 0) rfl (by omega) (by omega) tx1 wd1 wI_s tx2 wd2 wI_s (fun i hi => absurd hi (Nat.not_lt_zero i)) (fun i hi => absurd hi (Nat.not_lt_zero i)) (fun i hi => absurd hi (Nat.not_lt_zero i)) (fun i hi => absurd hi (Nat.not_lt_zero _))
  have c1' : lpP scF (0, 1, 0, wI u.1 4 3 0) = some σ2 := c1
  have c2' : lpP ctF (0, wI (wI t1 0 2 0) 0 10 0) = some rr := c2
  have dr : σ2.2.2 3 1 = r := (fr_3 c4 rfl).trans (d3.trans hrl.symm)
  have mx := MX_begin (L := L) hT hr dr c6 c7
  obtain ⟨y5, y6, y7⟩ := c6 0 hT.1
  have es := start_go hr dr y5 y6 y7
  have g18 : τ4.1 0 18 = nI M := by rw [fr_1 c5 (tkG_n (by omega)), wI_1, if_neg (by omega), wI_1, if_neg (by omega), fr_1 p2 rfl, wI_1, if_neg (by omega)]; exact m2
  have ei := rdI_go g18 m1 hLM
  obtain ⟨σ5, τ5, z1, z2, z3, z4, z5⟩ := tellsQ hT hr hL 401 0 0 [] [] [] Θ0 [] _ _ (by omega) (Nat.le_refl _) mx
  have z1' : lpP prF (0, iniC σ2 r (nI (tk 0)) (vl 0) (nI (pl 0))) = some σ5 := z1
  have eP : pX7_parse u.1 = pfE σ5 := by rw [parse_un, scan_un, c1', bn1_s, bn1_s, es, bn1_s, z1', bn1_s]
  have eR : pX11_read u.2 = rdE τ5 := by rw [read_un, e02, p1, bn1_s, cut_un, c2', c3, bn1_s, ei, z2, bn1_s]
  -- what has not changed
  have fC : fr (rFC r) u.1 σ5 := fr_tr (fr_wC (by omega)) (fr_tr (puF_r c4) (fr_tr fr_iniC (pcF_r z3)))
  have fR : fr rFR u.2 τ5 := fr_tr (fr_w0 (by omega)) (fr_tr (rw2_r p2) (fr_tr (fr_w0 (by omega)) (fr_tr (fr_w0 (by omega)) (fr_tr (tkG_r c5) (fr_tr (fr_iniR hL) (tF_r z4))))))
  have tf0 : ∀ j, j ≤ 10 ∨ j = 17 ∨ j = 18 ∨ j = 19 → tF L 0 j = false := fun j hj => decide_eq_false (by omega)
  have g02 : τ5.1 0 2 = 0 := by rw [fr_1 z4 (tf0 2 (by omega)), iniR_o (by omega), fr_1 c5 (tkG_n (by omega)), wI_1, if_neg (by omega), wI_s]
  have g018 : τ5.1 0 18 = nI M := by rw [fr_1 z4 (tf0 18 (by omega)), iniR_o (by omega), g18]
  have g019 : τ5.1 0 19 = nI L := by rw [fr_1 z4 (tf0 19 (by omega))]; exact iniR_0.1.2.2.2.2.1
  have sd : ∀ o j, inS M o j → τ5.1 o j = u.2.1 o j := fun o j q => by
    have hz : tF L o j = false := decide_eq_false (by unfold inS at q; omega)
    have hz2 : 11 ≤ o := by unfold inS at q; omega
    rw [fr_1 z4 hz, iniR_o (by unfold inS at q; omega), fr_1 c5 (tkG_n (by omega)), wI_1, if_neg (by omega), wI_1, if_neg (by omega), fr_1 p2 (by simp only [rw2, beq_eq_false_iff_ne]; omega), wI_1, if_neg (by omega)]
  have s23 : σ5.2.2 23 0 = rl := by
    have hp : pcF r 23 0 = false := decide_eq_false (by rcases tR_or hr with rfl | rfl <;> omega)
    rw [fr_3 z3 hp]
    exact (fr_3 c4 rfl).trans d2
  have s31 : σ5.2.2 3 1 = r := by
    rw [fr_3 z3 (decide_eq_false (by omega))]
    exact dr
  have tdC : ∀ s', fr (rFC r) σ5 s' → TdC (aTd A) rl s' := fun s' f => TdC_fr (fr_tr fC f) (fun j k hj => decide_eq_false (by
    rcases tR_or d1 with rfl | rfl
    · subst hrl; omega
    · subst hrl; omega)) d4
  have tdR : ∀ t', (∀ o j, inS M o j → t'.1 o j = τ5.1 o j) → TdR (aTd A) M t' := fun t' q => TdR_sd (fun o j z => (q o j z).trans (sd o j z)) htd m3
  have noX : ∀ w p : Nat, 0 < w → w < 100 → pfE σ5 = some (nI w, wI (wI σ5 3 6 (nI w)) 3 7 (nI p)) → rdE τ5 = some (nI w, wI τ5 0 17 (nI p)) → ∃ v s1 s2, pX10_read u.1 = some (v, s1) ∧ pX11_read u.2 = some (v, s2) ∧ Inv (s1, s2) := fun w p w0 w1 e1 e2 => by
    have f1 : fr (rFC r) σ5 (wI (wI (wI σ5 3 6 (nI w)) 3 7 (nI p)) 1 1 0) := fr_tr (fr_tr (fr_wC (by omega)) (fr_wC (by omega))) (fr_wC (by omega))
    refine ⟨nI w, wI (wI (wI σ5 3 6 (nI w)) 3 7 (nI p)) 1 1 0, wI τ5 0 17 (nI p), ?_, by rw [eR, e2], setR A (aTd A) (nI p), setR_ok ho htd, RC_rdd hr h1 (fr_tr fC f1) wI_s (by rw [wI_1, if_neg (by omega), wI_s]) ⟨rl, d1, s23, by show σ5.2.2 3 1 = 33 - rl; rw [s31, hrl], tdC _ f1⟩, RR_rdd h2 (fr_tr fR (fr_w0 (by omega))) (by rw [wI_1, if_neg (by omega)]; exact g02) wI_s ⟨M, m1, by rw [wI_1, if_neg (by omega)]; exact g018, tdR _ (fun o j q => by rw [wI_1, if_neg (by unfold inS at q; omega)])⟩⟩
    unfold pX10_read
    rw [eP, e1, bn2_s, lt_b, if_neg (nI_ne0 w0 (by omega))]
  rcases z5 with ⟨k', cs', es', lts', Θ, nm', mz⟩ | ⟨f, p, o1, o2⟩
  · have hf0 : σ5.1 3 6 = 0 := mz.1.1.2.2.2.2.2.1
    have ht0 : τ5.1 0 13 = 0 := mz.1.2.1.2.1
    rcases mz.1.2.2.2.2.2.2.1 with ⟨q1, q2, q3⟩ | ⟨w, p, q1, q2, q3, q4, q5, q6, q7, q8⟩
    · obtain ⟨tT, tC, tR'⟩ := MX_Td hT hL mz q1
      have e1 : pfE σ5 = some (0, wI (wI σ5 3 6 0) 3 7 (-1)) := by
        unfold pfE
        rw [hf0, if_00, lt_b, q1, wI_1, if_neg (by omega), q2, lt_b, wI_1, if_neg (by omega), wI_s]
      have e2 : rdE τ5 = some (0, wI (wI τ5 0 17 (-1)) 0 18 (nI L)) := by
        have x13 : (wI τ5 0 17 (-1)).1 0 13 = 0 := by rw [wI_1, if_neg (by omega), ht0]
        have x15 : (wI τ5 0 17 (-1)).1 0 15 = 0 := by rw [wI_1, if_neg (by omega), q3]
        have x19 : (wI τ5 0 17 (-1)).1 0 19 = nI L := by rw [wI_1, if_neg (by omega), g019]
        unfold rdE
        rw [ht0, if_pos (show (0 : Int32) ≤ 0 by decide), q3, if_pos (show (0 : Int32) ≤ 0 by decide), bn1_s, lt_b, x13, if_pos (show (0 : Int32) ≤ 0 by decide), x15, if_pos (show (0 : Int32) ≤ 0 by decide), x19, lt_b]
      have sb : (wI (wI (wI σ5 3 6 0) 3 7 (-1)) 1 1 0).2.2 3 1 = r := s31
      have sa : (wI (wI (wI σ5 3 6 0) 3 7 (-1)) 1 1 0).2.2 23 0 = rl := s23
      have f1 : fr (rFC r) σ5 (wR (wR (wI (wI (wI σ5 3 6 0) 3 7 (-1)) 1 1 0) 3 1 rl) 23 0 r) := fr_tr (fr_tr (fr_tr (fr_tr (fr_wC (by omega)) (fr_wC (by omega))) (fr_wC (by omega))) (fr_wR (decide_eq_true (by omega)))) (fr_wR (decide_eq_true (by omega)))
      have f2 : fr (fun o _ => o == 1 || (o == 3 || o == 23)) σ5 (wR (wR (wI (wI (wI σ5 3 6 0) 3 7 (-1)) 1 1 0) 3 1 rl) 23 0 r) := fr_tr (fr_tr (fr_tr (fr_tr (fr_wI rfl) (fr_wI rfl)) (fr_wI rfl)) (fr_wR rfl)) (fr_wR rfl)
      refine ⟨0, wR (wR (wI (wI (wI σ5 3 6 0) 3 7 (-1)) 1 1 0) 3 1 rl) 23 0 r, wI (wI τ5 0 17 (-1)) 0 18 (nI L), ?_, by rw [eR, e2], setR A Θ (-1), setR_ok ho tT, RC_rdd (σ' := wR (wR (wI (wI (wI σ5 3 6 0) 3 7 (-1)) 1 1 0) 3 1 rl) 23 0 r) hr h1 (fr_tr fC f1) (by rw [wR_1, wR_1, wI_s]) (by rw [wR_1, wR_1, wI_1, if_neg (by omega), wI_s]) ⟨r, hr, by rw [wR_3, if_pos ⟨rfl, rfl⟩], ?_, TdC_fr f2 (fun j k hj => ?_) tC⟩, RR_rdd h2 (fr_tr fR (fr_tr (fr_w0 (by omega)) (fr_w0 (by omega)))) (by rw [wI_1, if_neg (by omega), wI_1, if_neg (by omega)]; exact g02) (by rw [wI_1, if_neg (by omega), wI_s]) ⟨L, hL, wI_s, TdR_fr (P := fun o _ => o == 0) (fr_tr (fr_wI rfl) (fr_wI rfl)) (fun o k g1 g2 => by simp only [beq_eq_false_iff_ne]; omega) tR'⟩⟩
      · unfold pX10_read
        rw [eP, e1, bn2_s, lt_b, if_00, sa, gT_p d1]
        unfold pX7_exchange
        rw [sb, gT_p hr, lt_b, bn2_s, lt_b]
      · rw [wR_3, if_neg (by omega), wR_3, if_pos ⟨rfl, rfl⟩]
        omega
      · rcases tR_or hr with rfl | rfl
        · simp only [Bool.or_eq_false_iff, beq_eq_false_iff_ne]; omega
        · simp only [Bool.or_eq_false_iff, beq_eq_false_iff_ne]; omega
    · refine noX w p (by omega) (by omega) ?_ ?_
      · unfold pfE
        rw [hf0, if_00, lt_b, q5, wI_1, if_neg (by omega), q6, lt_b, wI_1, if_neg (by omega), wI_s]
      · have x13 : (wI τ5 0 17 (nI p)).1 0 13 = 0 := by rw [wI_1, if_neg (by omega), ht0]
        have x15 : (wI τ5 0 17 (nI p)).1 0 15 = nI w := by rw [wI_1, if_neg (by omega), q7]
        unfold rdE
        rw [ht0, if_pos (show (0 : Int32) ≤ 0 by decide), q7, if_neg (nI_nle (by omega) (by omega)), q8, bn1_s, lt_b, x13, if_pos (show (0 : Int32) ≤ 0 by decide), x15, if_neg (nI_nle (by omega) (by omega))]
  · have hf := o1.1.1
    have f0 : 0 < f ∧ f < 100 := by omega
    have e6 : σ5.1 3 6 = nI f := o1.2.1.2.1
    have x6 : wI (wI σ5 3 6 (nI f)) 3 7 (nI p) = wI σ5 3 7 (nI p) := by
      refine Prod.ext (funext fun o => funext fun j => ?_) rfl
      rw [wI_1, wI_1, wI_1]
      by_cases c : o = 3 ∧ j = 6
      · obtain ⟨rfl, rfl⟩ := c
        rw [if_neg (by omega), if_pos ⟨rfl, rfl⟩, if_neg (by omega), e6]
      · rw [if_neg c]
    refine noX f p f0.1 f0.2 ?_ ?_
    · unfold pfE
      rw [e6, if_neg (nI_ne0 f0.1 (by omega)), o1.2.1.2.2, lt_b, wI_1, if_neg (by omega), e6, x6]
    · have x13 : (wI τ5 0 17 (nI p)).1 0 13 = nI f := by rw [wI_1, if_neg (by omega), o2.1]
      unfold rdE
      rw [o2.1, if_neg (nI_nle f0.1 (by omega)), o2.2.1, bn1_s, lt_b, x13, if_neg (nI_nle f0.1 (by omega))]
