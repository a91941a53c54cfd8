/-! LAYER 1: the abstract machine. A world is V.1 cells from address b on; its state is three functions of cell and place: whole numbers, long ones, addresses (as offsets). -/
abbrev gS : Type := (Nat → Nat → Int32) × (Nat → Nat → Int64) × (Nat → Nat → Nat)
abbrev gG : Type := va_G × (Nat → ClassId) × Nat × Nat × Nat × Value
abbrev gV : Type := Nat × ((Nat → ClassId) → Nat → Nat → (Nat → Int32) → (Nat → Int64) → (Nat → Nat) → va_E)
def gws (V : gV) (G : gG) (b : Nat) (σ : gS) : va_W := (List.range V.1).map (fun k => (b + k, V.2 G.2.1 b k (σ.1 k) (σ.2.1 k) (σ.2.2 k)))
def gA (V : gV) (b : Nat) : Nat → Prop := fun q => b ≤ q ∧ q < b + V.1
def gty (G : gG) : List (ClassId × FieldType) := [(G.2.1 0, .int), (G.2.1 1, .long), (G.2.1 2, .byte), (G.2.1 3, .boolean)]
/-- the state behind a write -/
def wI (σ : gS) (o k : Nat) (v : Int32) : gS := (fun j => if j = o then upd (σ.1 o) k v else σ.1 j, σ.2)
def wL (σ : gS) (o k : Nat) (v : Int64) : gS := (σ.1, fun j => if j = o then vp_updL (σ.2.1 o) k v else σ.2.1 j, σ.2.2)
def wR (σ : gS) (o k : Nat) (v : Nat) : gS := (σ.1, σ.2.1, fun j => if j = o then (fun i => if i = k then v else σ.2.2 o i) else σ.2.2 j)
/-- programs: a name for a value; a guarded place; what comes behind an answer; a loop -/
def lt' {α β : Type} (a : α) (f : α → β) : β := f a
def gx {α : Type} (i : Int32) (n : Nat) (x : Option α) : Option α := if i < 0 ∨ n ≤ i.toNatClampNeg then none else x
def g0 {α : Type} (y : Int32) (x : Option α) : Option α := if y = 0 then none else x
def g0L {α : Type} (y : Int64) (x : Option α) : Option α := if y = 0 then none else x
def bn1 {α β : Type} (x : Option α) (f : α → Option β) : Option β := match x with
  | none => none
  | some a => f a
def bn2 {α β γ : Type} (x : Option (α × β)) (f : α → β → Option γ) : Option γ := match x with
  | none => none
  | some a => f a.1 a.2
def itr {S R : Type} (f : S → Option (S ⊕ R)) : Nat → S → Option R
  | 0, _ => none
  | n + 1, s => match f s with
    | none => none
    | some (.inl t) => itr f n t
    | some (.inr r) => some r
noncomputable def lpP {S R : Type} (f : S → Option (S ⊕ R)) (s : S) : Option R :=
  @dite _ (∃ r n, itr f n s = some r) (Classical.propDecidable _) (fun h => some h.choose) (fun _ => none)
theorem itr_add {S R : Type} {f : S → Option (S ⊕ R)} : ∀ {n : Nat} {s : S} {r : R} (k : Nat), itr f n s = some r → itr f (n + k) s = some r := by
  intro n
  induction n with
  | zero => intro s r k h; cases h
  | succ n ih =>
    intro s r k h
    rw [Nat.succ_add]
    rw [itr] at h ⊢
    cases hf : f s with
    | none => rw [hf] at h; cases h
    | some x =>
      rw [hf] at h
      cases x with
      | inl t => exact ih k h
      | inr q => exact h
theorem itr_one {S R : Type} {f : S → Option (S ⊕ R)} {n m : Nat} {s : S} {r q : R} (h : itr f n s = some r) (h2 : itr f m s = some q) : r = q := by
  have a := itr_add m h
  have b := itr_add n h2
  rw [Nat.add_comm m n] at b
  exact Option.some.inj (a.symm.trans b)
theorem lpP_of {S R : Type} {f : S → Option (S ⊕ R)} {n : Nat} {s : S} {r : R} (h : itr f n s = some r) : lpP f s = some r := by
  have he : ∃ r n, itr f n s = some r := ⟨r, n, h⟩
  rw [lpP, dif_pos he]
  obtain ⟨m, hm⟩ := he.choose_spec
  rw [itr_one hm h]
theorem lpP_ex {S R : Type} {f : S → Option (S ⊕ R)} {s : S} {r : R} (h : lpP f s = some r) : ∃ n, itr f n s = some r := by
  rw [lpP] at h
  by_cases he : ∃ r n, itr f n s = some r
  · rw [dif_pos he] at h
    cases h
    exact he.choose_spec
  · rw [dif_neg he] at h
    cases h
theorem lpP_inl {S R : Type} {f : S → Option (S ⊕ R)} {s t : S} (h : f s = some (.inl t)) : lpP f s = lpP f t := by
  cases hx : lpP f t with
  | some r =>
    obtain ⟨n, hn⟩ := lpP_ex hx
    exact lpP_of (n := n + 1) (by rw [itr, h]; exact hn)
  | none =>
    cases hs : lpP f s with
    | none => rfl
    | some r =>
      obtain ⟨n, hn⟩ := lpP_ex hs
      cases n with
      | zero => cases hn
      | succ n =>
        rw [itr, h] at hn
        have := lpP_of hn
        rw [hx] at this
        cases this
theorem lpP_inr {S R : Type} {f : S → Option (S ⊕ R)} {s : S} {r : R} (h : f s = some (.inr r)) : lpP f s = some r := lpP_of (n := 1) (by rw [itr, h])
theorem lpP_none {S R : Type} {f : S → Option (S ⊕ R)} {s : S} (h : f s = none) : lpP f s = none := by
  cases hs : lpP f s with
  | none => rfl
  | some r =>
    obtain ⟨n, hn⟩ := lpP_ex hs
    cases n with
    | zero => cases hn
    | succ n => rw [itr, h] at hn; cases hn
/-! the words that every method has -/
def gTBL : List Cond := lw_tbl.filter goodWord
theorem gTBL_good : ∀ w ∈ gTBL, goodWord w = true := fun _ h => (List.mem_filter.mp h).2
theorem gTBL_in {w : Cond} (i : Nat) (h : tables_1[i]? = some w) (hg : goodWord w = true) : w ∈ gTBL := List.mem_filter.mpr ⟨List.mem_append_right _ (List.mem_of_getElem? h), hg⟩
theorem gTBL_sel {q : MethodName × Nat} (i : Nat) (h : lw_privs[i]? = some q) (hs : (Cond.selects q.1.cls q.1 q.1) ∈ k2_sels lw_privs) (hg : goodWord (Cond.selects q.1.cls q.1 q.1) = true) : Cond.selects q.1.cls q.1 q.1 ∈ gTBL := List.mem_filter.mpr ⟨List.mem_append_left _ hs, hg⟩
theorem gTBL_GoodIn {x : Cond} {ws : List Cond} (h : ∀ w ∈ ws, w ∈ gTBL) : GoodIn (x :: gTBL) ws := fun w hw => ⟨List.mem_cons_of_mem _ (h w hw), good_of_word (gTBL_good w (h w hw))⟩
