/-! read: all tokens -/
noncomputable def scF : Int32 × Int32 × Int32 × gS → Option ((Int32 × Int32 × Int32 × gS) ⊕ gS) := fun (z3 : (Int32 × Int32 × Int32 × gS)) => if (400 : Int32) < z3.1 then some (.inr z3.2.2.2) else if z3.2.1 = 0 then some (.inr z3.2.2.2) else bn1 (pX6_afterBlanks z3.2.2.1 z3.2.2.2) (fun v4 => bn2 (pX8_scanOne v4 z3.2.2.2) (fun v6 s7 => gx z3.1 401 (if (s7.1 5 z3.1.toNatClampNeg) = (36 : Int32) then lt' (z3.1 + (1 : Int32)) (fun x8 => some (.inl (x8, (0 : Int32), v6, s7))) else gx z3.1 401 (if (s7.1 5 z3.1.toNatClampNeg) = (37 : Int32) then lt' (z3.1 + (1 : Int32)) (fun x9 => some (.inl (x9, (0 : Int32), v6, s7))) else lt' (z3.1 + (1 : Int32)) (fun x10 => some (.inl (x10, (1 : Int32), v6, s7)))))))
def tkC (tk pl : Nat → Nat) (vl : Nat → Int64) (m : Nat) (σ : gS) : Prop := ∀ i, i < m → σ.1 5 i = nI (tk i) ∧ σ.1 6 i = nI (pl i) ∧ σ.2.1 7 i = vl i
def tkQ (tk pl : Nat → Nat) (vl : Nat → Int64) (m : Nat) (τ : gS) : Prop := ∀ i, i < m → τ.1 3 i = nI (kp (tk i)) ∧ τ.1 4 i = nI (pl i) ∧ (tk i = 24 → ∃ x, x < 10000 ∧ vl i = lN x ∧ τ.1 5 i = nI x) ∧ (tk i = 23 → τ.2.1 6 i = vl i)
def TkOK (N : Nat) (tk pl : Nat → Nat) : Prop := 0 < N ∧ N ≤ 401 ∧ (∀ i, i + 1 < N → tk i ≤ 35 ∧ pl i < pl (i + 1)) ∧ (∀ i, i < N → tk i ≤ 37 ∧ pl i ≤ 2000) ∧ (N = 401 ∨ tk (N - 1) = 36 ∨ tk (N - 1) = 37)
def puF (o k : Nat) : Bool := o == 5 || o == 6 || o == 7 || (o == 4 && k == 3)
def tkG (c o k : Nat) : Bool := (decide (3 ≤ o) && (decide (o ≤ 6) && decide (c ≤ k))) || (o == 0 && k == 10)
theorem fr_puC {c : Nat} {K i : Int32} {v : Int64} {σ : gS} : fr puF σ (puC c K i v σ) := fr_tr (fr_tr (fr_tr (fr_wI rfl) (fr_wI rfl)) (fr_wL rfl)) (fr_wI rfl)
theorem tkG_in {c o : Nat} (h1 : 3 ≤ o) (h2 : o ≤ 6) : tkG c o c = true := by
  unfold tkG
  rw [decide_eq_true h1, decide_eq_true h2, decide_eq_true (Nat.le_refl c)]; rfl
theorem fr_tkR {c : Nat} {K i v : Int32} {w : Int64} {τ : gS} : fr (tkG c) τ (tkR c K i v w τ) := fr_tr (fr_tr (fr_tr (fr_tr (fr_wI (tkG_in (by omega) (by omega))) (fr_wI (tkG_in (by omega) (by omega)))) (fr_wI (tkG_in (by omega) (by omega)))) (fr_wL (tkG_in (by omega) (by omega)))) (fr_wI (by simp [tkG]))
theorem tkG_up {c d : Nat} (h : c ≤ d) {σ τ : gS} (f : fr (tkG d) σ τ) : fr (tkG c) σ τ := fr_up (fun o k q => by
  simp only [tkG, Bool.or_eq_false_iff, Bool.and_eq_false_iff, decide_eq_false_iff_not, beq_eq_false_iff_ne] at q ⊢
  omega) f
theorem txR_f {n : Nat} {b : Nat → Nat} {c : Nat} {σ τ : gS} (f : fr (tkG c) σ τ) (h : txR n b σ) : txR n b τ := ⟨(fr_1 f (by simp [tkG])).trans h.1, fun i hi => by rw [fr_1 f (by simp [tkG])]; exact h.2 i hi⟩
theorem wdsR_f {c : Nat} {σ τ : gS} (f : fr (tkG c) σ τ) (h : wdsR σ) : wdsR τ := fun j hj => (fr_2 f (by simp [tkG])).trans (h j hj)
theorem txC_f {n : Nat} {b : Nat → Nat} {σ τ : gS} (f : fr puF σ τ) (h : txC n b σ) : txC n b τ := ⟨(fr_1 f rfl).trans h.1, fun i hi => (fr_1 f rfl).trans (h.2 i hi)⟩
theorem wdsC_f {σ τ : gS} (f : fr puF σ τ) (h : wdsC σ) : wdsC τ := fun j hj => (fr_2 f rfl).trans (h j hj)
theorem tkR_n {c : Nat} {K i v : Int32} {w : Int64} {τ : gS} : (tkR c K i v w τ).1 0 10 = nI (c + 1) := wI_s
theorem puC_n {c : Nat} {K i : Int32} {v : Int64} {σ : gS} : (puC c K i v σ).1 4 3 = nI (c + 1) := wI_s
theorem puC_5 {c : Nat} {K i : Int32} {v : Int64} {σ : gS} : (puC c K i v σ).1 5 c = K ∧ (puC c K i v σ).1 6 c = i ∧ (puC c K i v σ).2.1 7 c = v := by
  unfold puC
  refine ⟨?_, ?_, ?_⟩
  · rw [wI_1, if_neg (by omega), wL_1, wI_1, if_neg (by omega), wI_s]
  · rw [wI_1, if_neg (by omega), wL_1, wI_s]
  · rw [wI_2, wL_s]
theorem puC_o {c : Nat} {K i : Int32} {v : Int64} {σ : gS} {j : Nat} (hj : j ≠ c) : (puC c K i v σ).1 5 j = σ.1 5 j ∧ (puC c K i v σ).1 6 j = σ.1 6 j ∧ (puC c K i v σ).2.1 7 j = σ.2.1 7 j := by
  unfold puC
  refine ⟨?_, ?_, ?_⟩
  · rw [wI_1, if_neg (by omega), wL_1, wI_1, if_neg (by omega), wI_1, if_neg (by omega)]
  · rw [wI_1, if_neg (by omega), wL_1, wI_1, if_neg (by omega), wI_1, if_neg (by omega)]
  · rw [wI_2, wL_2, if_neg (by omega), wI_2, wI_2]
theorem tkR_3 {c : Nat} {K i v : Int32} {w : Int64} {τ : gS} : (tkR c K i v w τ).1 3 c = K ∧ (tkR c K i v w τ).1 4 c = i ∧ (tkR c K i v w τ).1 5 c = v ∧ (tkR c K i v w τ).2.1 6 c = w := by
  unfold tkR
  refine ⟨?_, ?_, ?_, ?_⟩
  · rw [wI_1, if_neg (by omega), wL_1, wI_1, if_neg (by omega), wI_1, if_neg (by omega), wI_s]
  · rw [wI_1, if_neg (by omega), wL_1, wI_1, if_neg (by omega), wI_s]
  · rw [wI_1, if_neg (by omega), wL_1, wI_s]
  · rw [wI_2, wL_s]
theorem tkQ_f {tk pl : Nat → Nat} {vl : Nat → Int64} {c m : Nat} {σ τ : gS} (f : fr (tkG c) σ τ) (hm : m ≤ c) (h : tkQ tk pl vl m σ) : tkQ tk pl vl m τ := fun i hi => by
  obtain ⟨h1, h2, h3, h4⟩ := h i hi
  have g : ∀ o, 3 ≤ o → o ≤ 6 → tkG c o i = false := fun o q1 q2 => by
    simp only [tkG, Bool.or_eq_false_iff, Bool.and_eq_false_iff, decide_eq_false_iff_not, beq_eq_false_iff_ne]
    omega
  refine ⟨(fr_1 f (g _ (by omega) (by omega))).trans h1, (fr_1 f (g _ (by omega) (by omega))).trans h2, fun q => ?_, fun q => (fr_2 f (g _ (by omega) (by omega))).trans (h4 q)⟩
  obtain ⟨x, x1, x2, x3⟩ := h3 q
  exact ⟨x, x1, x2, (fr_1 f (g _ (by omega) (by omega))).trans x3⟩
theorem ct_fin {n : Nat} {b : Nat → Nat} (hn : n ≤ 2000) (hb : ∀ i, i < n → b i < 256) : ∀ (m i c : Nat) (τ : gS), n - i ≤ m → i ≤ n → c ≤ 401 → txR n b τ → wdsR τ → τ.1 0 10 = nI c → ∃ r τ', lpP ctF (nI i, τ) = some r ∧ bnS (some r) (fun z => some z) = some τ' ∧ fr (tkG c) τ τ' := by
  intro m
  induction m with
  | zero =>
    intro i c τ hm hi hc h hw h10
    have : i = n := by omega
    subst this
    by_cases hc4 : c = 401
    · subst hc4
      exact ⟨_, τ, lpP_inr (ct_full h10), rfl, fr_rf⟩
    · exact ⟨_, _, lpP_inr (ct_end hn h h10 (by omega)), rfl, fr_tkR⟩
  | succ m ih =>
    intro i c τ hm hi hc h hw h10
    by_cases hc4 : c = 401
    · subst hc4
      exact ⟨_, τ, lpP_inr (ct_full h10), rfl, fr_rf⟩
    · obtain ⟨e, e1, e2, e3, e4⟩ := run_e (fun j => b j = 9 ∨ b j = 10 ∨ b j = 13 ∨ b j = 32) n (n - i) i rfl hi
      rw [ct_bl hn hb h h10 (by omega) (e - i) i (by omega) (fun j j1 j2 => e3 j j1 (by omega)), show i + (e - i) = e by omega]
      by_cases he : e = n
      · subst he
        exact ⟨_, _, lpP_inr (ct_end hn h h10 (by omega)), rfl, fr_tkR⟩
      · obtain ⟨K, e', v, vr, w, t1, t2, t3, t4, t5, t6, t7⟩ := tok1 hn hb (show e < n by omega) (e4 (by omega))
        clear t4 t5
        rw [lpP_inl (t7 τ c h hw h10 (by omega))]
        have f := fr_tkR (c := c) (K := nI (kp K)) (i := nI e) (v := vr) (w := w) (τ := τ)
        obtain ⟨r, τ', q1, q2, q3⟩ := ih e' (c + 1) _ (by omega) t3 (by omega) (txR_f f h) (wdsR_f f hw) tkR_n
        exact ⟨r, τ', q1, q2, fr_tr f (tkG_up (by omega) q3)⟩
theorem sc_out {c : Nat} {a : Int32} {σ : gS} : scF (nI (c + 1), 0, a, σ) = some (.inr σ) := by
  unfold scF
  dsimp only
  rw [if_00]
  split <;> rfl
def updN (f : Nat → Nat) (c v : Nat) : Nat → Nat := fun i => if i = c then v else f i
def updL (f : Nat → Int64) (c : Nat) (v : Int64) : Nat → Int64 := fun i => if i = c then v else f i
theorem scan_l {n : Nat} {b : Nat → Nat} (hn : n ≤ 2000) (hb : ∀ i, i < n → b i < 256) : ∀ (m c at' : Nat) (σ τ : gS) (tk pl : Nat → Nat) (vl : Nat → Int64), 401 - c = m → c ≤ 401 → at' ≤ n → txC n b σ → wdsC σ → σ.1 4 3 = nI c → txR n b τ → wdsR τ → τ.1 0 10 = nI c → tkC tk pl vl c σ → tkQ tk pl vl c τ → (∀ i, i < c → tk i ≤ 35 ∧ pl i < at') → (∀ i, i + 1 < c → pl i < pl (i + 1)) → ∃ N tk' pl' vl' σ' r τ', lpP scF (nI c, 1, nI at', σ) = some σ' ∧ lpP ctF (nI at', τ) = some r ∧ bnS (some r) (fun z => some z) = some τ' ∧ fr puF σ σ' ∧ fr (tkG 0) τ τ' ∧ TkOK N tk' pl' ∧ tkC tk' pl' vl' N σ' ∧ tkQ tk' pl' vl' N τ' := by
  intro m
  induction m with
  | zero =>
    intro c at' σ τ tk pl vl hm hc ha hC wC h4 hR wR h10 rC rR hlt hinc
    have : c = 401 := by omega
    subst this
    refine ⟨401, tk, pl, vl, σ, _, τ, lpP_inr ?_, lpP_inr (ct_full h10), rfl, fr_rf, fr_rf, ⟨by omega, by omega, fun i hi => ⟨(hlt i (by omega)).1, hinc i hi⟩, fun i hi => ?_, Or.inl rfl⟩, rC, rR⟩
    · unfold scF
      dsimp only
      rw [if_pos (show (400 : Int32) < nI 401 by decide)]
    · have := hlt i hi
      omega
  | succ m ih =>
    intro c at' σ τ tk pl vl hm hc ha hC wC h4 hR wR h10 rC rR hlt hinc
    obtain ⟨e, e1, e2, e3, e4⟩ := run_e (fun j => b j = 9 ∨ b j = 10 ∨ b j = 13 ∨ b j = 32) n (n - at') at' rfl ha
    rw [ct_bl hn hb hR h10 (by omega) (e - at') at' (by omega) (fun j j1 j2 => e3 j j1 (by omega)), show at' + (e - at') = e by omega]
    have hbl := blanksC hn hb hC e1 e2 e3 e4
    -- one token more
    have more : ∀ (K : Nat) (v : Int64) (vr : Int32) (w : Int64), K ≤ 37 → (K = 24 → ∃ x, x < 10000 ∧ v = lN x ∧ vr = nI x) → (K = 23 → w = v) → tkC (updN tk c K) (updN pl c e) (updL vl c v) (c + 1) (puC c (nI K) (nI e) v σ) ∧ tkQ (updN tk c K) (updN pl c e) (updL vl c v) (c + 1) (tkR c (nI (kp K)) (nI e) vr w τ) := by
      intro K v vr w hK h24 h23
      refine ⟨fun i hi => ?_, fun i hi => ?_⟩
      · unfold updN updL
        by_cases hq : i = c
        · subst hq
          rw [if_pos rfl, if_pos rfl, if_pos rfl]
          exact puC_5
        · obtain ⟨p1, p2, p3⟩ := puC_o (c := c) (K := nI K) (i := nI e) (v := v) (σ := σ) hq
          rw [if_neg hq, if_neg hq, if_neg hq, p1, p2, p3]
          exact rC i (by omega)
      · by_cases hq : i = c
        · subst hq
          obtain ⟨p1, p2, p3, p4⟩ := tkR_3 (c := i) (K := nI (kp K)) (i := nI e) (v := vr) (w := w) (τ := τ)
          unfold updN updL
          rw [if_pos rfl, if_pos rfl, if_pos rfl, p1, p2, p3, p4]
          exact ⟨rfl, rfl, h24, h23⟩
        · have := tkQ_f (fr_tkR (c := c) (K := nI (kp K)) (i := nI e) (v := vr) (w := w) (τ := τ)) (Nat.le_refl _) rR i (by omega)
          unfold updN updL
          rw [if_neg hq, if_neg hq, if_neg hq]
          exact this
    have okT : ∀ K, K ≤ 37 → (c + 1 = 401 ∨ K = 36 ∨ K = 37) → TkOK (c + 1) (updN tk c K) (updN pl c e) := by
      intro K hK hl
      refine ⟨by omega, by omega, fun i hi => ?_, fun i hi => ?_, ?_⟩
      · unfold updN
        rw [if_neg (by omega), if_neg (by omega)]
        refine ⟨(hlt i (by omega)).1, ?_⟩
        have h1 := (hlt i (by omega)).2
        by_cases hq : i + 1 = c
        · rw [if_pos hq]; omega
        · rw [if_neg hq]; exact hinc i (by omega)
      · unfold updN
        by_cases hq : i = c
        · rw [if_pos hq, if_pos hq]; omega
        · have := hlt i (by omega)
          rw [if_neg hq, if_neg hq]; omega
      · rw [Nat.add_sub_cancel]
        unfold updN
        rw [if_pos rfl]
        exact hl
    -- what the class does with it
    have stp : ∀ (K e' : Nat) (v : Int64), K ≤ 37 → pX8_scanOne (nI e) σ = some (nI e', puC c (nI K) (nI e) v σ) → scF (nI c, 1, nI at', σ) = some (.inl (nI (c + 1), b01 (decide (K ≤ 35)), nI e', puC c (nI K) (nI e) v σ)) := by
      intro K e' v hK hs
      unfold scF
      dsimp only
      rw [if_neg (show ¬ (400 : Int32) < nI c from nI_nlt (a := 400) (by omega) (by decide)), if_10, hbl, bn1_s, hs, bn2_s, gx_i (by omega) (by decide), gx_i (by omega) (by decide), nI_clamp (by omega), puC_5.1]
      simp only [lt_b, nI_1]
      by_cases k36 : K = 36
      · rw [if_pos (show nI K = 36 by rw [k36]; rfl), decide_eq_false (by omega)]; rfl
      · rw [if_neg (show ¬ nI K = 36 from fun z => k36 ((nI_eq (b := 36) (by omega) (by decide)).mp z))]
        by_cases k37 : K = 37
        · rw [if_pos (show nI K = 37 by rw [k37]; rfl), decide_eq_false (by omega)]; rfl
        · rw [if_neg (show ¬ nI K = 37 from fun z => k37 ((nI_eq (b := 37) (by omega) (by decide)).mp z)), decide_eq_true (by omega)]; rfl
    by_cases he : e = n
    · have hs : pX8_scanOne (nI e) σ = some (nI e, puC c (nI 36) (nI e) 0 σ) := by
        unfold pX8_scanOne
        rw [byC_o hn hC (by omega) (by omega), bn1_s, if_pos rfl, show (36 : Int32) = nI 36 from rfl, putC h4 (by omega), bn1_s]
      obtain ⟨m1, m2⟩ := more 36 0 0 0 (by omega) (fun q => absurd q (by decide)) (fun q => absurd q (by decide))
      refine ⟨c + 1, _, _, _, _, _, _, ?_, by rw [he]; exact lpP_inr (ct_end hn hR h10 (by omega)), rfl, fr_puC, tkG_up (by omega) fr_tkR, okT 36 (by omega) (Or.inr (Or.inl rfl)), m1, ?_⟩
      · rw [lpP_inl (stp 36 e 0 (by omega) hs)]
        exact lpP_inr sc_out
      · rw [← he]; exact m2
    · have hc400 : c ≤ 400 := by omega
      obtain ⟨K, e', v, vr, w, t1, t2, t3, t4, t5, t6, t7⟩ := tok1 hn hb (show e < n by omega) (e4 (by omega))
      have hs := t6 σ c hC wC h4 hc400
      have hK37 : K ≤ 37 := t1.elim (fun h => Nat.le_trans h (by decide)) (fun h => Nat.le_of_eq h)
      obtain ⟨m1, m2⟩ := more K v vr w hK37 t4 t5
      clear t4 t5 more
      have fC := fr_puC (c := c) (K := nI K) (i := nI e) (v := v) (σ := σ)
      have fR := fr_tkR (c := c) (K := nI (kp K)) (i := nI e) (v := vr) (w := w) (τ := τ)
      rw [lpP_inl (stp K e' v (by omega) hs), lpP_inl (t7 τ c hR wR h10 (by omega))]
      rcases t1 with hk | hk
      · rw [decide_eq_true hk]
        obtain ⟨N, tk', pl', vl', σ', r, τ', q1, q2, q3, q4, q5, q6, q7, q8⟩ := ih (c + 1) e' _ _ (updN tk c K) (updN pl c e) (updL vl c v) (by omega) (by omega) t3 (txC_f fC hC) (wdsC_f fC wC) puC_n (txR_f fR hR) (wdsR_f fR wR) tkR_n m1 m2 (fun i hi => by
          unfold updN
          by_cases hq : i = c
          · rw [if_pos hq, if_pos hq]; omega
          · have := hlt i (by omega)
            rw [if_neg hq, if_neg hq]; omega) (fun i hi => by
          unfold updN
          rw [if_neg (by omega)]
          have h1 := (hlt i (by omega)).2
          by_cases hq : i + 1 = c
          · rw [if_pos hq]; omega
          · rw [if_neg hq]; exact hinc i (by omega))
        exact ⟨N, tk', pl', vl', σ', r, τ', q1, q2, q3, fr_tr fC q4, fr_tr (tkG_up (by omega) fR) q5, q6, q7, q8⟩
      · rw [decide_eq_false (by omega)]
        obtain ⟨r, τ', q1, q2, q3⟩ := ct_fin hn hb (n - e') e' (c + 1) _ (Nat.le_refl _) t3 (by omega) (txR_f fR hR) (wdsR_f fR wR) tkR_n
        exact ⟨c + 1, _, _, _, _, r, τ', lpP_inr sc_out, q1, q2, fC, fr_tr (tkG_up (by omega) fR) (tkG_up (by omega) q3), okT K (by omega) (Or.inr (Or.inr hk)), m1, tkQ_f q3 (Nat.le_refl _) m2⟩
