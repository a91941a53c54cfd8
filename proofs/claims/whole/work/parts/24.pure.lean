/-! PURE ROWS: how programs are worked out -/
theorem bn1_s {α β : Type} {a : α} {f : α → Option β} : bn1 (some a) f = f a := rfl
theorem bn1_n {α β : Type} {f : α → Option β} : bn1 none f = none := rfl
theorem bn2_s {α β γ : Type} {a : α} {b : β} {f : α → β → Option γ} : bn2 (some (a, b)) f = f a b := rfl
theorem bnS_l {S R : Type} {s : S} {f : S → Option R} : bnS (some (.inl s)) f = f s := rfl
theorem bnS_r {S R : Type} {r : R} {f : S → Option R} : bnS (some (.inr r)) f = some r := rfl
theorem lt_b {α β : Type} {a : α} {f : α → β} : lt' a f = f a := rfl
theorem gx_p {α : Type} {i : Int32} {n : Nat} {X : Option α} (h : vp_in i n) : gx i n X = X := if_neg h
theorem gx_i {α : Type} {k n : Nat} {X : Option α} (h : k < n) (hn : n < 2 ^ 31) : gx (nI k) n X = X := gx_p (vp_in_nI h hn)
theorem gT_p {α : Type} {i : Nat} {c : Nat → Bool} {f : Nat → Option α} (h : c i = true) : gT i c f = f i := if_pos h
theorem g0_p {α : Type} {y : Int32} {X : Option α} (h : y ≠ 0) : g0 y X = X := if_neg h
theorem g0L_p {α : Type} {y : Int64} {X : Option α} (h : y ≠ 0) : g0L y X = X := if_neg h
theorem bn1_if {α β : Type} {c : Prop} [Decidable c] {x y : Option α} {f : α → Option β} : bn1 (if c then x else y) f = if c then bn1 x f else bn1 y f := by split <;> rfl
theorem bn2_if {α β γ : Type} {c : Prop} [Decidable c] {x y : Option (α × β)} {f : α → β → Option γ} : bn2 (if c then x else y) f = if c then bn2 x f else bn2 y f := by split <;> rfl
theorem bnS_if {S R : Type} {c : Prop} [Decidable c] {x y : Option (S ⊕ R)} {f : S → Option R} : bnS (if c then x else y) f = if c then bnS x f else bnS y f := by split <;> rfl
/-- a loop, by what falls -/
theorem lp_rule {S R : Type} {f : S → Option (S ⊕ R)} (I : S → Prop) (μ : S → Nat) {Post : R → Prop} (step : ∀ s, I s → (∃ t, f s = some (.inl t) ∧ I t ∧ μ t < μ s) ∨ (∃ r, f s = some (.inr r) ∧ Post r)) : ∀ s, I s → ∃ r, lpP f s = some r ∧ Post r := by
  have key : ∀ n s, μ s ≤ n → I s → ∃ r, lpP f s = some r ∧ Post r := by
    intro n
    induction n with
    | zero =>
      intro s hs h
      rcases step s h with ⟨t, -, -, h3⟩ | ⟨r, h1, h2⟩
      · omega
      · exact ⟨r, lpP_inr h1, h2⟩
    | succ n ih =>
      intro s hs h
      rcases step s h with ⟨t, h1, h2, h3⟩ | ⟨r, h1, h2⟩
      · obtain ⟨r, h4, h5⟩ := ih t (by omega) h2
        exact ⟨r, by rw [lpP_inl h1]; exact h4, h5⟩
      · exact ⟨r, lpP_inr h1, h2⟩
  exact fun s h => key (μ s) s (Nat.le_refl _) h
/-- a loop that counts up to n, with a way out -/
theorem lp_cntE {S R : Type} {f : S → Option (S ⊕ R)} (I : Nat → S → Prop) (n : Nat) {Post : R → Prop} (step : ∀ k s, k < n → I k s → (∃ t, f s = some (.inl t) ∧ I (k + 1) t) ∨ (∃ r, f s = some (.inr r) ∧ Post r)) (fin : ∀ s, I n s → ∃ r, f s = some (.inr r) ∧ Post r) {k : Nat} {s : S} (hk : k ≤ n) (h : I k s) : ∃ r, lpP f s = some r ∧ Post r := by
  have key : ∀ m k s, n - k = m → k ≤ n → I k s → ∃ r, lpP f s = some r ∧ Post r := by
    intro m
    induction m with
    | zero =>
      intro k s hm hk h
      have : k = n := by omega
      subst this
      obtain ⟨r, h1, h2⟩ := fin s h
      exact ⟨r, lpP_inr h1, h2⟩
    | succ m ih =>
      intro k s hm hk h
      rcases step k s (by omega) h with ⟨t, h1, h2⟩ | ⟨r, h1, h2⟩
      · obtain ⟨r, h4, h5⟩ := ih (k + 1) t (by omega) (by omega) h2
        exact ⟨r, by rw [lpP_inl h1]; exact h4, h5⟩
      · exact ⟨r, lpP_inr h1, h2⟩
  exact key (n - k) k s rfl hk h
theorem lp_cnt {S R : Type} {f : S → Option (S ⊕ R)} (I : Nat → S → Prop) (n : Nat) {Post : R → Prop} (step : ∀ k s, k < n → I k s → ∃ t, f s = some (.inl t) ∧ I (k + 1) t) (fin : ∀ s, I n s → ∃ r, f s = some (.inr r) ∧ Post r) {k : Nat} {s : S} (hk : k ≤ n) (h : I k s) : ∃ r, lpP f s = some r ∧ Post r :=
  lp_cntE I n (fun k s hk h => Or.inl (step k s hk h)) fin hk h
/-- a loop whose every state is known -/
theorem lp_seq {S R : Type} {f : S → Option (S ⊕ R)} (g : Nat → S) (n : Nat) {r : R} (step : ∀ k, k < n → f (g k) = some (.inl (g (k + 1)))) (fin : f (g n) = some (.inr r)) : lpP f (g 0) = some r := by
  have key : ∀ k, k ≤ n → lpP f (g 0) = lpP f (g k) := by
    intro k
    induction k with
    | zero => intro _; rfl
    | succ k ih => intro hk; rw [ih (by omega), lpP_inl (step k (by omega))]
  rw [key n (Nat.le_refl n)]
  exact lpP_inr fin
/-- cells that stay -/
def same (L : List Nat) (σ τ : gS) : Prop := ∀ j, j ∉ L → τ.1 j = σ.1 j ∧ τ.2.1 j = σ.2.1 j ∧ τ.2.2 j = σ.2.2 j
theorem same_rf {L : List Nat} {σ : gS} : same L σ σ := fun _ _ => ⟨rfl, rfl, rfl⟩
theorem same_tr {L : List Nat} {σ τ υ : gS} (h : same L σ τ) (h2 : same L τ υ) : same L σ υ := fun j hj => by
  obtain ⟨a1, a2, a3⟩ := h j hj
  obtain ⟨b1, b2, b3⟩ := h2 j hj
  exact ⟨b1.trans a1, b2.trans a2, b3.trans a3⟩
theorem same_up {L M : List Nat} {σ τ : gS} (hs : ∀ x ∈ L, x ∈ M) (h : same L σ τ) : same M σ τ := fun j hj => h j (fun q => hj (hs j q))
theorem same_wI {L : List Nat} {σ : gS} {o k : Nat} {v : Int32} (h : o ∈ L) : same L σ (wI σ o k v) := fun j hj => wI_off j (fun e => hj (e ▸ h))
theorem same_wL {L : List Nat} {σ : gS} {o k : Nat} {v : Int64} (h : o ∈ L) : same L σ (wL σ o k v) := fun j hj => wL_off j (fun e => hj (e ▸ h))
theorem same_wR {L : List Nat} {σ : gS} {o k v : Nat} (h : o ∈ L) : same L σ (wR σ o k v) := fun j hj => wR_off j (fun e => hj (e ▸ h))
/-- reading behind a write -/
theorem wI_1 {σ : gS} {o k o' k' : Nat} {v : Int32} : (wI σ o k v).1 o' k' = if o' = o ∧ k' = k then v else σ.1 o' k' := by
  unfold wI upd
  by_cases h : o' = o
  · subst h
    by_cases h2 : k' = k <;> simp [h2]
  · simp [h]
theorem wI_2 {σ : gS} {o k : Nat} {v : Int32} : (wI σ o k v).2 = σ.2 := rfl
theorem wL_1 {σ : gS} {o k : Nat} {v : Int64} : (wL σ o k v).1 = σ.1 := rfl
theorem wL_2 {σ : gS} {o k o' k' : Nat} {v : Int64} : (wL σ o k v).2.1 o' k' = if o' = o ∧ k' = k then v else σ.2.1 o' k' := by
  unfold wL vp_updL
  by_cases h : o' = o
  · subst h
    by_cases h2 : k' = k <;> simp [h2]
  · simp [h]
theorem wL_3 {σ : gS} {o k : Nat} {v : Int64} : (wL σ o k v).2.2 = σ.2.2 := rfl
theorem wR_1 {σ : gS} {o k v : Nat} : (wR σ o k v).1 = σ.1 := rfl
theorem wR_2 {σ : gS} {o k v : Nat} : (wR σ o k v).2.1 = σ.2.1 := rfl
theorem wR_3 {σ : gS} {o k o' k' v : Nat} : (wR σ o k v).2.2 o' k' = if o' = o ∧ k' = k then v else σ.2.2 o' k' := by
  unfold wR
  by_cases h : o' = o
  · subst h
    by_cases h2 : k' = k <;> simp [h2]
  · simp [h]
theorem wI_s {σ : gS} {o k : Nat} {v : Int32} : (wI σ o k v).1 o k = v := by rw [wI_1, if_pos ⟨rfl, rfl⟩]
theorem wL_s {σ : gS} {o k : Nat} {v : Int64} : (wL σ o k v).2.1 o k = v := by rw [wL_2, if_pos ⟨rfl, rfl⟩]
/-- leaves -/
theorem inR {v a c : Int32} : pX10_inRange v a c = some (if a ≤ v ∧ v ≤ c then 1 else 0) := by
  unfold pX10_inRange
  by_cases h1 : v < a
  · have : ¬ (a ≤ v ∧ v ≤ c) := fun q => absurd h1 (Int32.not_lt.mpr q.1)
    simp [h1, this]
  · have h1' := Int32.not_lt.mp h1
    by_cases h2 : c < v
    · have : ¬ (a ≤ v ∧ v ≤ c) := fun q => absurd h2 (Int32.not_lt.mpr q.2)
      simp [h1, h2, this]
    · have := Int32.not_lt.mp h2
      simp [h1, h2, this, h1']
