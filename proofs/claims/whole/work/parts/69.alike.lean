/-! a formula, a condition: class and reference alike -/
theorem jn_27 {x y : Int32} : jnC 27 x y = x + y := rfl
theorem jn_28 {x y : Int32} : jnC 28 x y = x - y := rfl
theorem jn_29 {x y : Int32} : jnC 29 x y = x * y := rfl
theorem jn_cp {how : Nat} {x y : Int32} (h : how ≤ 3) : jnC (nI (30 + how)) x y = b01 (cpB how x y) := by
  rcases (show how = 0 ∨ how = 1 ∨ how = 2 ∨ how = 3 by omega) with z | z | z | z <;> subst z
  · show (if x = y then some (1 : Int32) else some 0).getD 0 = _
    by_cases q : x = y <;> simp [q, b01, cpB]
  · show (if x = y then some (0 : Int32) else some 1).getD 0 = _
    by_cases q : x = y <;> simp [q, b01, cpB]
  · show (if y ≤ x then some (0 : Int32) else some 1).getD 0 = _
    by_cases q : y ≤ x <;> simp [q, b01, cpB]
  · show (if y < x then some (0 : Int32) else some 1).getD 0 = _
    by_cases q : y < x <;> simp [q, b01, cpB]
theorem jn_7 {a b : Bool} : jnC 7 (b01 a) (b01 b) = b01 (a && b) := by cases a <;> cases b <;> rfl
theorem jn_6 {a b : Bool} : jnC 6 (b01 a) (b01 b) = b01 (a || b) := by cases a <;> cases b <;> rfl
theorem not_b {a : Bool} : (1 : Int32) - b01 a = b01 (!a) := by cases a <;> rfl
theorem piV_20 {j : Nat} (h : j ≤ 20) : piV j ≤ 20 := by unfold piV; split <;> (try split) <;> omega
theorem evK_24 {W : Nat → Int32} {v : Int32} {cs : List (Int32 × Int32)} {st : List Int32} (h : st.length < 40) : evK W ((24, v) :: cs) st = evK W cs (v :: st) := by
  rw [evK.eq_def]
  dsimp only
  rw [if_pos rfl, if_pos h]
theorem evK_9 {W : Nat → Int32} {j : Nat} {cs : List (Int32 × Int32)} {st : List Int32} (hj : j ≤ 20) (h : st.length < 40) : evK W ((9, nI j) :: cs) st = evK W cs (W j :: st) := by
  rw [evK.eq_def]
  dsimp only
  rw [if_neg (show ¬ (9 : Int32) = 24 by decide), if_pos rfl, if_pos ⟨by rw [ix_nI (by omega)]; exact decide_eq_true (by omega), h⟩, nI_clamp (by omega)]
theorem evK_8 {W : Nat → Int32} {v x : Int32} {cs : List (Int32 × Int32)} {r : List Int32} (h : r.length < 40) : evK W ((8, v) :: cs) (x :: r) = evK W cs ((1 - x) :: r) := by
  rw [evK.eq_def]
  dsimp only
  rw [if_neg (show ¬ (8 : Int32) = 24 by decide), if_neg (show ¬ (8 : Int32) = 9 by decide), if_pos rfl, if_pos h]
theorem evK_j {W : Nat → Int32} {a v x y : Int32} {cs : List (Int32 × Int32)} {r : List Int32} (h1 : ¬ a = 24) (h2 : ¬ a = 9) (h3 : ¬ a = 8) (h : r.length < 39) : evK W ((a, v) :: cs) (y :: x :: r) = evK W cs (jnC a x y :: r) := by
  rw [evK.eq_def]
  dsimp only
  rw [if_neg h1, if_neg h2, if_neg h3, if_pos h]
theorem evK_f {V W : Nat → Int32} (hW : ∀ j, j ≤ 20 → W (piV j) = V j) {rest : List (Int32 × Int32)} {base : List Int32} (hb : base.length ≤ 20) : ∀ (cs : List cEl) (st : List Int32) (h : Nat), hgE cs st.length 18 = some h → st.length ≤ 18 → (∀ q ∈ cs, okE q) → evK W (cs.map cm1 ++ rest) (st ++ base) = evK W rest (evE V cs st ++ base)
  | [], st, h, hg, hl, hq => rfl
  | q :: cs, st, h, hg, hl, hq => by
    obtain ⟨o1, o2⟩ := hq q (List.mem_cons_self ..)
    have hq' : ∀ x ∈ cs, okE x := fun x hx => hq x (List.mem_cons_of_mem _ hx)
    have hlen : (st ++ base).length < 40 := by rw [List.length_append]; omega
    rw [List.map_cons, List.cons_append]
    unfold hgE at hg
    unfold evE
    by_cases h2 : q.1 < 2
    · rw [if_pos h2] at hg
      by_cases h3 : st.length < 18
      case neg => rw [if_neg h3] at hg; exact absurd hg (by simp)
      rw [if_pos h3] at hg
      by_cases h0 : q.1 = 0
      · rw [if_pos h0, show cm1 q = (24, q.2) by unfold cm1; rw [if_pos h0], evK_24 hlen]
        exact evK_f hW hb cs (q.2 :: st) h hg (by simp only [List.length_cons]; omega) hq'
      · obtain ⟨j, j1, j2⟩ := o2 (by omega)
        have ej : q.2.toNatClampNeg = j := by rw [j2, nI_clamp (by omega)]
        rw [if_neg h0, if_pos (show q.1 = 1 by omega), show cm1 q = (9, nI (piV j)) by unfold cm1; rw [if_neg h0, if_pos (show q.1 = 1 by omega), ej], evK_9 (piV_20 j1) hlen, hW j j1, ej]
        exact evK_f hW hb cs (V j :: st) h hg (by simp only [List.length_cons]; omega) hq'
    · rw [if_neg h2] at hg
      rw [if_neg (show ¬ q.1 = 0 by omega), if_neg (show ¬ q.1 = 1 by omega)]
      rcases st with _ | ⟨y, _ | ⟨x, r⟩⟩
      · exact absurd hg (by simp)
      · exact absurd hg (by simp)
      · simp only [List.length_cons] at hl
        rw [if_pos (by simp only [List.length_cons]; omega)] at hg
        have hr : (r ++ base).length < 39 := by rw [List.length_append]; omega
        have ih := evK_f hW (rest := rest) hb cs (opE q.1 x y :: r) h hg (by simp only [List.length_cons]; omega) hq'
        dsimp only
        rw [← ih]
        unfold cm1 opE
        rcases (show q.1 = 2 ∨ q.1 = 3 ∨ q.1 = 4 by omega) with z | z | z <;> rw [z]
        · exact evK_j (by decide) (by decide) (by decide) hr
        · exact evK_j (by decide) (by decide) (by decide) hr
        · exact evK_j (by decide) (by decide) (by decide) hr
theorem evE_1 {V : Nat → Int32} {c : List cEl} (h : wfE c) : evE V c [] = [vE V c] := by
  have hl : (evE V c []).length = 1 := evE_len (m := 18) h.1
  unfold vE
  match he : evE V c [], hl with
  | [x], _ => rfl
theorem evK_w {V W : Nat → Int32} (hW : ∀ j, j ≤ 20 → W (piV j) = V j) {rest : List (Int32 × Int32)} {base : List Int32} (hb : base.length ≤ 20) {c : List cEl} (h : wfE c) : evK W (c.map cm1 ++ rest) base = evK W rest (vE V c :: base) := by
  have := evK_f hW (rest := rest) hb c [] 1 h.1 (by decide) h.2
  rw [evE_1 h] at this
  exact this
theorem evK_l {V W : Nat → Int32} (hW : ∀ j, j ≤ 20 → W (piV j) = V j) {rest : List (Int32 × Int32)} {base : List Int32} (hb : base.length ≤ 19) {l : lEl} (h : wfL l) : evK W (cmL l ++ rest) base = evK W rest (b01 (tL V l) :: base) := by
  obtain ⟨w1, w2, w3⟩ := h
  unfold cmL
  simp only [List.append_assoc]
  rw [evK_w hW (by omega) w1, evK_w hW (by simp only [List.length_cons]; omega) w2]
  have n1 : ∀ k : Nat, k < 30 → ¬ nI (30 + l.2.2.1) = nI k := fun k hk q => by
    have := (nI_eq (by omega) (by omega)).mp q
    omega
  rw [List.cons_append, evK_j (n1 24 (by decide)) (n1 9 (by decide)) (n1 8 (by decide)) (by omega), jn_cp w3, List.nil_append]
  unfold tL
  cases l.2.1 with
  | false => rw [Bool.xor_false]; rfl
  | true =>
    rw [if_pos rfl, List.cons_append, evK_8 (by omega), not_b, Bool.xor_true]
    rfl
def dC (V : Nat → Int32) : Bool → Bool → List lEl → Bool
  | acc, cur, [] => acc || cur
  | acc, cur, l :: ls => if l.1 then dC V (acc || cur) (tL V l) ls else dC V acc (cur && tL V l) ls
theorem dC_t {V : Nat → Int32} : ∀ (ls : List lEl) (cur : Bool), dC V true cur ls = true
  | [], cur => Bool.true_or cur
  | l :: ls, cur => by
    unfold dC
    rw [Bool.true_or]
    split
    · exact dC_t ls _
    · exact dC_t ls _
theorem tC_d {V : Nat → Int32} : ∀ (ls : List lEl) (all : Bool), tC V all ls = dC V false all ls
  | [], all => (Bool.false_or all).symm
  | l :: ls, all => by
    unfold tC dC
    cases l.1 with
    | false =>
      rw [Bool.false_and, Bool.false_or, if_neg (by decide), if_neg (by decide)]
      exact tC_d ls _
    | true =>
      cases all with
      | false =>
        rw [if_neg (by decide), if_pos rfl]
        exact tC_d ls _
      | true =>
        rw [if_pos rfl]
        exact (dC_t ls _).symm
theorem evK_c {V W : Nat → Int32} (hW : ∀ j, j ≤ 20 → W (piV j) = V j) : ∀ (ls : List lEl) (ao a c : Bool), (∀ l ∈ ls, wfL l) → evK W (cmN ao ls ++ cmC (aoN ao ls) ls) (b01 c :: (if ao then [b01 a] else [])) = some [b01 (dC V (ao && a) c ls)]
  | [], ao, a, c, hw => by
    cases ao with
    | false => rfl
    | true =>
      show evK W ((6, 0) :: []) (b01 c :: b01 a :: []) = _
      rw [evK_j (by decide) (by decide) (by decide) (by simp), jn_6]
      rfl
  | m :: ls, ao, a, c, hw => by
    have hm := hw m (List.mem_cons_self ..)
    have ih := fun ao a c => evK_c hW ls ao a c (fun l hl => hw l (List.mem_cons_of_mem _ hl))
    unfold cmN aoN cmC dC
    cases hor : m.1 with
    | true =>
      have ih1 := ih true ((ao && a) || c) (tL V m)
      simp only [hor, Bool.true_and, Bool.true_or, if_true, List.append_assoc, List.nil_append] at ih1 ⊢
      cases ao with
      | false =>
        simp only [Bool.false_and, Bool.false_or, if_true, Bool.false_eq_true, if_false, List.nil_append] at ih1 ⊢
        rw [evK_l hW (by simp) hm]
        exact ih1
      | true =>
        simp only [Bool.true_and, if_true, List.cons_append, List.nil_append] at ih1 ⊢
        rw [evK_j (by decide) (by decide) (by decide) (by simp), jn_6, evK_l hW (by simp) hm]
        exact ih1
    | false =>
      have ih1 := ih ao a (c && tL V m)
      simp only [hor, Bool.false_and, Bool.false_or, Bool.false_eq_true, if_false, List.append_assoc, List.nil_append] at ih1 ⊢
      rw [evK_l hW (by cases ao <;> simp) hm, List.cons_append, evK_j (by decide) (by decide) (by decide) (by cases ao <;> simp), jn_7]
      exact ih1
theorem evK_cond {V W : Nat → Int32} (hW : ∀ j, j ≤ 20 → W (piV j) = V j) {ls : List lEl} (h : wfC ls) : evK W (cmC false ls) [] = some [b01 (tC V false ls)] := by
  obtain ⟨⟨l, t, rfl, hl⟩, hw⟩ := h
  have ih := evK_c hW t false false (tL V l) (fun x hx => hw x (List.mem_cons_of_mem _ hx))
  unfold cmC
  rw [hl, tC_d]
  simp only [if_true, List.append_assoc, List.nil_append]
  rw [evK_l hW (by decide) (hw l (List.mem_cons_self ..))]
  unfold dC
  rw [hl, if_pos rfl]
  exact ih
