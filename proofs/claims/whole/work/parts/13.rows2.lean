/-! LAYER 1: fields and arrays -/
/-- object o is of the ci-th kind (name C, fields T, N of them), and holds fs -/
def shO (V : gV) (o ci : Nat) (C : String) (T : u_T) (N : Nat) (fs : Nat → (Nat → Int32) → (Nat → Int64) → (Nat → Nat) → List Value) : Prop :=
  o < V.1 ∧ vwCl[ci]? = some (C, T, N) ∧ (∀ w ∈ u_ws C T N, w ∈ gTBL) ∧ ∀ c b f g h, V.2 c b o f g h = .inr (ci, fs b f g h)
/-- array o has n places, of the t-th type of gty; its numbers are the state's -/
def shI (V : gV) (o t n : Nat) : Prop := o < V.1 ∧ ∀ c b f g h, V.2 c b o f g h = .inl (c t, n, .inl f)
def shL (V : gV) (o n : Nat) : Prop := o < V.1 ∧ ∀ c b f g h, V.2 c b o f g h = .inl (c 1, n, .inr (.inl g))
section GHEAP
variable {V : gV} {G : gG} {b : Nat} {d : gD} {own : String} {cc : ByteArray} {nL : Nat} {ret : Option FieldType} {α : Type} {K : α → (Option Value → gS → Prop) → Prop} {pc q : Nat} {lv lr : List (Nat × Value)} {st : List Value} {σ : gS} {X Y : Option α}
theorem sh_at {o ci : Nat} {C : String} {T : u_T} {N : Nat} {fs : Nat → (Nat → Int32) → (Nat → Int64) → (Nat → Nat) → List Value} (h : shO V o ci C T N fs) : (gws V G b σ)[o]? = some (b + o, .inr (ci, fs b (σ.1 o) (σ.2.1 o) (σ.2.2 o))) := by
  rw [gws_at h.1, h.2.2.2]
theorem shI_at {o t n : Nat} (h : shI V o t n) : (gws V G b σ)[o]? = some (b + o, .inl (G.2.1 t, n, .inl (σ.1 o))) := by
  rw [gws_at h.1, h.2]
theorem shL_at {o n : Nat} (h : shL V o n) : (gws V G b σ)[o]? = some (b + o, .inl (G.2.1 1, n, .inr (.inl (σ.2.1 o)))) := by
  rw [gws_at h.1, h.2]
theorem g_get {o ci : Nat} {C : String} {T : u_T} {N : Nat} {fs : Nat → (Nat → Int32) → (Nat → Int64) → (Nat → Nat) → List Value} {index : Nat} (k : Nat) {v : Value} (hd : decode cc pc = .ok (.getfield index, 3)) (hsh : shO V o ci C T N fs) (hk : k < N) (hw : Cond.fieldLink own index (T k).1 (T k).2.1 (T k).2.2.1 ∈ gTBL) (hv : (fs b (σ.1 o) (σ.2.1 o) (σ.2.2 o))[k]? = some v) (hq : pc + 3 = q) (kk : GF V G b d own cc nL ret K q lv (v :: st) σ X) : GF V G b d own cc nL ret K pc lv (.ref (b + o) :: st) σ X := by
  subst hq
  intro P a hx hK p l e s m args below meth c H locs ls hC hk2 hP hS hl
  exact va_get hC.1 hC.2.1 hC.2.2.2.2.1 hsh.2.2.1 hC.2.2.2.1 hk2.1 hP o (sh_at hsh) hsh.2.1 k hk (hC.2.2.2.2.1 _ hw) (fun _ h9 => h9) hv hd (kk P a hx hK p l e s m args below meth c H locs ls hC hk2 hP hS hl)
theorem g_put {o ci : Nat} {C : String} {T : u_T} {N : Nat} {fs : Nat → (Nat → Int32) → (Nat → Int64) → (Nat → Nat) → List Value} {index : Nat} (k : Nat) {v : Value} {ty : FieldType} {τ : gS} {ty0 : Nat → FieldType} (hd : decode cc pc = .ok (.putfield index, 3)) (hsh : shO V o ci C T N fs) (hk : k < N) (hw : Cond.fieldLink own index (T k).1 (T k).2.1 (T k).2.2.1 ∈ gTBL) (hty : ∀ k, k < N → parseFieldDescriptor (T k).2.2.1 = some (ty0 k)) (hnm : ∀ a, a < N → ∀ b, b < N → a ≠ b → (T a).2.1 ≠ (T b).2.1) (hfin : (T k).2.2.2 = false) (hty1 : ty0 k = ty) (hn : narrow ty v = v) (hfit : fits ty v = true) (hl0 : k < (fs b (σ.1 o) (σ.2.1 o) (σ.2.2 o)).length)
    (he : (fs b (σ.1 o) (σ.2.1 o) (σ.2.2 o)).set k v = fs b (τ.1 o) (τ.2.1 o) (τ.2.2 o)) (hj : ∀ j, j ≠ o → τ.1 j = σ.1 j ∧ τ.2.1 j = σ.2.1 j ∧ τ.2.2 j = σ.2.2 j) (hq : pc + 3 = q) (kk : GF V G b d own cc nL ret K q lv st τ X) : GF V G b d own cc nL ret K pc lv (v :: .ref (b + o) :: st) σ X := by
  subst hq
  subst hty1
  intro P a hx hK p l e s m args below meth c H locs ls hC hk2 hP hS hl
  refine va_put hC.1 hC.2.1 hC.2.2.2.2.1 hsh.2.2.1 ty0 hty hnm hC.2.2.2.1 hk2.1 hP gws_D hS o (sh_at hsh) hsh.2.1 k hk (hC.2.2.2.2.1 _ hw) (fun _ h9 => h9) hfin (hty k hk) hn hfit hl0 hd (fun H locs hP hD hS => ?_)
  rw [gws_set (τ := τ) _ (by rw [hsh.2.2.2, he]) hj] at hP
  exact kk P a hx hK p l e s m args below meth c H locs ls hC hk2 hP hS hl
theorem wI_off {o k : Nat} {v : Int32} : ∀ j, j ≠ o → (wI σ o k v).1 j = σ.1 j ∧ (wI σ o k v).2.1 j = σ.2.1 j ∧ (wI σ o k v).2.2 j = σ.2.2 j := fun j h => ⟨by simp [wI, h], rfl, rfl⟩
theorem wL_off {o k : Nat} {v : Int64} : ∀ j, j ≠ o → (wL σ o k v).1 j = σ.1 j ∧ (wL σ o k v).2.1 j = σ.2.1 j ∧ (wL σ o k v).2.2 j = σ.2.2 j := fun j h => ⟨rfl, by simp [wL, h], rfl⟩
theorem wR_off {o k : Nat} {v : Nat} : ∀ j, j ≠ o → (wR σ o k v).1 j = σ.1 j ∧ (wR σ o k v).2.1 j = σ.2.1 j ∧ (wR σ o k v).2.2 j = σ.2.2 j := fun j h => ⟨rfl, rfl, by simp [wR, h]⟩
theorem wI_on {o k : Nat} {v : Int32} : (wI σ o k v).1 o = upd (σ.1 o) k v ∧ (wI σ o k v).2.1 o = σ.2.1 o ∧ (wI σ o k v).2.2 o = σ.2.2 o := ⟨by simp [wI], rfl, rfl⟩
theorem wL_on {o k : Nat} {v : Int64} : (wL σ o k v).1 o = σ.1 o ∧ (wL σ o k v).2.1 o = vp_updL (σ.2.1 o) k v ∧ (wL σ o k v).2.2 o = σ.2.2 o := ⟨rfl, by simp [wL], rfl⟩
theorem wR_on {o k : Nat} {v : Nat} : (wR σ o k v).1 o = σ.1 o ∧ (wR σ o k v).2.1 o = σ.2.1 o ∧ (wR σ o k v).2.2 o = (fun i => if i = k then v else σ.2.2 o i) := ⟨rfl, rfl, by simp [wR]⟩
/-- a whole number's field k of object o: its shape, and what a write does -/
def fI (V : gV) (o k ci : Nat) (C : String) (T : u_T) (N : Nat) (fs : Nat → (Nat → Int32) → (Nat → Int64) → (Nat → Nat) → List Value) : Prop :=
  shO V o ci C T N fs ∧ k < N ∧ ∀ b f g h, (fs b f g h)[k]? = some (.int (f k))
def fL (V : gV) (o k ci : Nat) (C : String) (T : u_T) (N : Nat) (fs : Nat → (Nat → Int32) → (Nat → Int64) → (Nat → Nat) → List Value) : Prop :=
  shO V o ci C T N fs ∧ k < N ∧ ∀ b f g h, (fs b f g h)[k]? = some (.long (g k))
def fA (V : gV) (o k ci : Nat) (C : String) (T : u_T) (N : Nat) (fs : Nat → (Nat → Int32) → (Nat → Int64) → (Nat → Nat) → List Value) (t : Nat) : Prop :=
  shO V o ci C T N fs ∧ k < N ∧ ∀ b f g h, (fs b f g h)[k]? = some (.ref (b + t))
def fR (V : gV) (o k ci : Nat) (C : String) (T : u_T) (N : Nat) (fs : Nat → (Nat → Int32) → (Nat → Int64) → (Nat → Nat) → List Value) : Prop :=
  shO V o ci C T N fs ∧ k < N ∧ ∀ b f g h, (fs b f g h)[k]? = some (.ref (b + h k))
/-- a field that may be written: its type, and how the row of fields changes -/
def pI (k : Nat) (T : u_T) (N : Nat) (fs : Nat → (Nat → Int32) → (Nat → Int64) → (Nat → Nat) → List Value) : Prop :=
  (T k).2.2.2 = false ∧ parseFieldDescriptor (T k).2.2.1 = some .int ∧ ∀ b f g h v, (fs b f g h).set k (.int v) = fs b (upd f k v) g h
def pL (k : Nat) (T : u_T) (N : Nat) (fs : Nat → (Nat → Int32) → (Nat → Int64) → (Nat → Nat) → List Value) : Prop :=
  (T k).2.2.2 = false ∧ parseFieldDescriptor (T k).2.2.1 = some .long ∧ ∀ b f g h v, (fs b f g h).set k (.long v) = fs b f (vp_updL g k v) h
def pR (k : Nat) (T : u_T) (N : Nat) (fs : Nat → (Nat → Int32) → (Nat → Int64) → (Nat → Nat) → List Value) (C : String) : Prop :=
  (T k).2.2.2 = false ∧ parseFieldDescriptor (T k).2.2.1 = some (.object C) ∧ ∀ b f g h v, (fs b f g h).set k (.ref (b + v)) = fs b f g (fun i => if i = k then v else h i)
/-- a kind's fields: their types, and that their names differ -/
def okT (T : u_T) (N : Nat) : Prop := ∃ ty0 : Nat → FieldType, (∀ k, k < N → parseFieldDescriptor (T k).2.2.1 = some (ty0 k)) ∧ ∀ a, a < N → ∀ b, b < N → a ≠ b → (T a).2.1 ≠ (T b).2.1
theorem g_getI {o ci : Nat} {C : String} {T : u_T} {N : Nat} {fs : Nat → (Nat → Int32) → (Nat → Int64) → (Nat → Nat) → List Value} {index k : Nat} (hf : fI V o k ci C T N fs) (hd : decode cc pc = .ok (.getfield index, 3)) (hw : Cond.fieldLink own index (T k).1 (T k).2.1 (T k).2.2.1 ∈ gTBL) (hq : pc + 3 = q) (kk : GF V G b d own cc nL ret K q lv (.int (σ.1 o k) :: st) σ X) : GF V G b d own cc nL ret K pc lv (.ref (b + o) :: st) σ X :=
  g_get k hd hf.1 hf.2.1 hw (hf.2.2 _ _ _ _) hq kk
theorem g_getL {o ci : Nat} {C : String} {T : u_T} {N : Nat} {fs : Nat → (Nat → Int32) → (Nat → Int64) → (Nat → Nat) → List Value} {index k : Nat} (hf : fL V o k ci C T N fs) (hd : decode cc pc = .ok (.getfield index, 3)) (hw : Cond.fieldLink own index (T k).1 (T k).2.1 (T k).2.2.1 ∈ gTBL) (hq : pc + 3 = q) (kk : GF V G b d own cc nL ret K q lv (.long (σ.2.1 o k) :: st) σ X) : GF V G b d own cc nL ret K pc lv (.ref (b + o) :: st) σ X :=
  g_get k hd hf.1 hf.2.1 hw (hf.2.2 _ _ _ _) hq kk
theorem g_getA {o ci t : Nat} {C : String} {T : u_T} {N : Nat} {fs : Nat → (Nat → Int32) → (Nat → Int64) → (Nat → Nat) → List Value} {index k : Nat} (hf : fA V o k ci C T N fs t) (hd : decode cc pc = .ok (.getfield index, 3)) (hw : Cond.fieldLink own index (T k).1 (T k).2.1 (T k).2.2.1 ∈ gTBL) (hq : pc + 3 = q) (kk : GF V G b d own cc nL ret K q lv (.ref (b + t) :: st) σ X) : GF V G b d own cc nL ret K pc lv (.ref (b + o) :: st) σ X :=
  g_get k hd hf.1 hf.2.1 hw (hf.2.2 _ _ _ _) hq kk
/-- a field that holds one of several objects: the program asks which kind, the row hands it on -/
def gT {α : Type} (i : Nat) (c : Nat → Bool) (f : Nat → Option α) : Option α := if c i = true then f i else none
theorem g_getR {o ci : Nat} {C : String} {T : u_T} {N : Nat} {fs : Nat → (Nat → Int32) → (Nat → Int64) → (Nat → Nat) → List Value} {index k : Nat} {cT : Nat → Bool} {f : Nat → Option α} (hf : fR V o k ci C T N fs) (hd : decode cc pc = .ok (.getfield index, 3)) (hw : Cond.fieldLink own index (T k).1 (T k).2.1 (T k).2.2.1 ∈ gTBL) (hq : pc + 3 = q) (kk : ∀ r : Nat, cT r = true → GF V G b d own cc nL ret K q lv (.ref (b + r) :: st) σ (f r)) : GF V G b d own cc nL ret K pc lv (.ref (b + o) :: st) σ (gT (σ.2.2 o k) cT f) := by
  intro P a hx hK
  by_cases h : cT (σ.2.2 o k) = true
  · rw [gT, if_pos h] at hx
    exact g_get k hd hf.1 hf.2.1 hw (hf.2.2 _ _ _ _) hq (kk _ h) P a hx hK
  · rw [gT, if_neg h] at hx
    cases hx
theorem g_putI {o ci : Nat} {C : String} {T : u_T} {N : Nat} {fs : Nat → (Nat → Int32) → (Nat → Int64) → (Nat → Nat) → List Value} {index k : Nat} {v : Int32} {f : gS → Option α} (hf : fI V o k ci C T N fs) (hp : pI k T N fs) (hT : okT T N) (hd : decode cc pc = .ok (.putfield index, 3)) (hw : Cond.fieldLink own index (T k).1 (T k).2.1 (T k).2.2.1 ∈ gTBL) (hq : pc + 3 = q) (kk : ∀ τ : gS, GF V G b d own cc nL ret K q lv st τ (f τ)) : GF V G b d own cc nL ret K pc lv (.int v :: .ref (b + o) :: st) σ (lt' (wI σ o k v) f) := by
  obtain ⟨ty0, h1, h2⟩ := hT
  obtain ⟨e1, e2, e3⟩ := wI_on (σ := σ) (o := o) (k := k) (v := v)
  exact g_put k (τ := wI σ o k v) (ty0 := ty0) (ty := .int) hd hf.1 hf.2.1 hw h1 h2 hp.1 (Option.some.inj ((h1 k hf.2.1).symm.trans hp.2.1)) rfl rfl (List.getElem?_eq_some_iff.mp (hf.2.2 _ _ _ _)).1 (by rw [hp.2.2, e1, e2, e3]) wI_off hq (kk _)
theorem g_putL {o ci : Nat} {C : String} {T : u_T} {N : Nat} {fs : Nat → (Nat → Int32) → (Nat → Int64) → (Nat → Nat) → List Value} {index k : Nat} {v : Int64} {f : gS → Option α} (hf : fL V o k ci C T N fs) (hp : pL k T N fs) (hT : okT T N) (hd : decode cc pc = .ok (.putfield index, 3)) (hw : Cond.fieldLink own index (T k).1 (T k).2.1 (T k).2.2.1 ∈ gTBL) (hq : pc + 3 = q) (kk : ∀ τ : gS, GF V G b d own cc nL ret K q lv st τ (f τ)) : GF V G b d own cc nL ret K pc lv (.long v :: .ref (b + o) :: st) σ (lt' (wL σ o k v) f) := by
  obtain ⟨ty0, h1, h2⟩ := hT
  obtain ⟨e1, e2, e3⟩ := wL_on (σ := σ) (o := o) (k := k) (v := v)
  exact g_put k (τ := wL σ o k v) (ty0 := ty0) (ty := .long) hd hf.1 hf.2.1 hw h1 h2 hp.1 (Option.some.inj ((h1 k hf.2.1).symm.trans hp.2.1)) rfl rfl (List.getElem?_eq_some_iff.mp (hf.2.2 _ _ _ _)).1 (by rw [hp.2.2, e1, e2, e3]) wL_off hq (kk _)
theorem g_putR {o ci : Nat} {C Ck : String} {T : u_T} {N : Nat} {fs : Nat → (Nat → Int32) → (Nat → Int64) → (Nat → Nat) → List Value} {index k : Nat} {v : Nat} {f : gS → Option α} (hf : fR V o k ci C T N fs) (hp : pR k T N fs Ck) (hT : okT T N) (hd : decode cc pc = .ok (.putfield index, 3)) (hw : Cond.fieldLink own index (T k).1 (T k).2.1 (T k).2.2.1 ∈ gTBL) (hq : pc + 3 = q) (kk : ∀ τ : gS, GF V G b d own cc nL ret K q lv st τ (f τ)) : GF V G b d own cc nL ret K pc lv (.ref (b + v) :: .ref (b + o) :: st) σ (lt' (wR σ o k v) f) := by
  obtain ⟨ty0, h1, h2⟩ := hT
  obtain ⟨e1, e2, e3⟩ := wR_on (σ := σ) (o := o) (k := k) (v := v)
  exact g_put k (τ := wR σ o k v) (ty0 := ty0) (ty := .object Ck) hd hf.1 hf.2.1 hw h1 h2 hp.1 (Option.some.inj ((h1 k hf.2.1).symm.trans hp.2.1)) rfl rfl (List.getElem?_eq_some_iff.mp (hf.2.2 _ _ _ _)).1 (by rw [hp.2.2, e1, e2, e3]) wR_off hq (kk _)
theorem gx_in {i : Int32} {n : Nat} {X : Option α} {a : α} (h : gx i n X = some a) : vp_in i n ∧ X = some a := by
  unfold gx at h
  by_cases z : i < 0 ∨ n ≤ i.toNatClampNeg
  · rw [if_pos z] at h; cases h
  · rw [if_neg z] at h; exact ⟨z, h⟩
theorem g_iald {o n : Nat} {i : Int32} (hs : shI V o 0 n) (hd : decode cc pc = .ok (.iaload, 1)) (hq : pc + 1 = q) (kk : GF V G b d own cc nL ret K q lv (.int (σ.1 o i.toNatClampNeg) :: st) σ X) : GF V G b d own cc nL ret K pc lv (.int i :: .ref (b + o) :: st) σ (gx i n X) := by
  subst hq
  intro P a hx hK p l e s m args below meth c H locs ls hC hk hP hS hl
  obtain ⟨hin, hx⟩ := gx_in hx
  exact va_iald hC.1 hC.2.1 hk.1 hP o 0 (shI_at hs) rfl hin hd (kk P a hx hK p l e s m args below meth c H locs ls hC hk hP hS hl)
theorem g_bald {o n : Nat} {i : Int32} (hs : shI V o 2 n) (hd : decode cc pc = .ok (.baload, 1)) (hq : pc + 1 = q) (kk : GF V G b d own cc nL ret K q lv (.int (σ.1 o i.toNatClampNeg) :: st) σ X) : GF V G b d own cc nL ret K pc lv (.int i :: .ref (b + o) :: st) σ (gx i n X) := by
  subst hq
  intro P a hx hK p l e s m args below meth c H locs ls hC hk hP hS hl
  obtain ⟨hin, hx⟩ := gx_in hx
  exact va_bald hC.1 hC.2.1 hk.1 hP o 2 (shI_at hs) rfl hin hd (kk P a hx hK p l e s m args below meth c H locs ls hC hk hP hS hl)
theorem g_zald {o n : Nat} {i : Int32} (hs : shI V o 3 n) (hd : decode cc pc = .ok (.baload, 1)) (hq : pc + 1 = q) (kk : GF V G b d own cc nL ret K q lv (.int (σ.1 o i.toNatClampNeg) :: st) σ X) : GF V G b d own cc nL ret K pc lv (.int i :: .ref (b + o) :: st) σ (gx i n X) := by
  subst hq
  intro P a hx hK p l e s m args below meth c H locs ls hC hk hP hS hl
  obtain ⟨hin, hx⟩ := gx_in hx
  exact va_zald hC.1 hC.2.1 hk.1 hP o 3 (shI_at hs) rfl hin hd (kk P a hx hK p l e s m args below meth c H locs ls hC hk hP hS hl)
theorem g_lald {o n : Nat} {i : Int32} (hs : shL V o n) (hd : decode cc pc = .ok (.laload, 1)) (hq : pc + 1 = q) (kk : GF V G b d own cc nL ret K q lv (.long (σ.2.1 o i.toNatClampNeg) :: st) σ X) : GF V G b d own cc nL ret K pc lv (.int i :: .ref (b + o) :: st) σ (gx i n X) := by
  subst hq
  intro P a hx hK p l e s m args below meth c H locs ls hC hk hP hS hl
  obtain ⟨hin, hx⟩ := gx_in hx
  exact va_lald hC.1 hC.2.1 hk.1 hP o 1 (shL_at hs) rfl hin hd (kk P a hx hK p l e s m args below meth c H locs ls hC hk hP hS hl)
theorem g_iast {o n : Nat} {i v : Int32} {f : gS → Option α} (hs : shI V o 0 n) (hd : decode cc pc = .ok (.iastore, 1)) (hq : pc + 1 = q) (kk : ∀ τ : gS, GF V G b d own cc nL ret K q lv st τ (f τ)) : GF V G b d own cc nL ret K pc lv (.int v :: .int i :: .ref (b + o) :: st) σ (gx i n (lt' (wI σ o i.toNatClampNeg v) f)) := by
  subst hq
  intro P a hx hK p l e s m args below meth c H locs ls hC hk hP hS hl
  obtain ⟨hin, hx⟩ := gx_in hx
  refine va_iast hC.1 hC.2.1 hk.1 hP gws_D hS o 0 (shI_at hs) rfl hin hd (fun H locs hP hD hS => ?_)
  obtain ⟨e1, e2, e3⟩ := wI_on (σ := σ) (o := o) (k := i.toNatClampNeg) (v := v)
  rw [gws_set (τ := wI σ o i.toNatClampNeg v) _ (by rw [hs.2, e1]) wI_off] at hP
  exact kk _ P a hx hK p l e s m args below meth c H locs ls hC hk hP hS hl
theorem g_bast {o n : Nat} {i v : Int32} {f : gS → Option α} (hs : shI V o 2 n) (hd : decode cc pc = .ok (.bastore, 1)) (hq : pc + 1 = q) (kk : ∀ τ : gS, GF V G b d own cc nL ret K q lv st τ (f τ)) : GF V G b d own cc nL ret K pc lv (.int v :: .int i :: .ref (b + o) :: st) σ (gx i n (lt' (wI σ o i.toNatClampNeg v.toInt8.toInt32) f)) := by
  subst hq
  intro P a hx hK p l e s m args below meth c H locs ls hC hk hP hS hl
  obtain ⟨hin, hx⟩ := gx_in hx
  refine va_bast hC.1 hC.2.1 hk.1 hP gws_D hS o 2 (shI_at hs) rfl hin hd (fun H locs hP hD hS => ?_)
  obtain ⟨e1, e2, e3⟩ := wI_on (σ := σ) (o := o) (k := i.toNatClampNeg) (v := v.toInt8.toInt32)
  rw [gws_set (τ := wI σ o i.toNatClampNeg v.toInt8.toInt32) _ (by rw [hs.2, e1]; rfl) wI_off] at hP
  exact kk _ P a hx hK p l e s m args below meth c H locs ls hC hk hP hS hl
theorem g_zast {o n : Nat} {i v : Int32} {f : gS → Option α} (hs : shI V o 3 n) (hd : decode cc pc = .ok (.bastore, 1)) (hq : pc + 1 = q) (kk : ∀ τ : gS, GF V G b d own cc nL ret K q lv st τ (f τ)) : GF V G b d own cc nL ret K pc lv (.int v :: .int i :: .ref (b + o) :: st) σ (gx i n (lt' (wI σ o i.toNatClampNeg (v &&& 1)) f)) := by
  subst hq
  intro P a hx hK p l e s m args below meth c H locs ls hC hk hP hS hl
  obtain ⟨hin, hx⟩ := gx_in hx
  refine va_zast hC.1 hC.2.1 hk.1 hP gws_D hS o 3 (shI_at hs) rfl hin hd (fun H locs hP hD hS => ?_)
  obtain ⟨e1, e2, e3⟩ := wI_on (σ := σ) (o := o) (k := i.toNatClampNeg) (v := v &&& 1)
  rw [gws_set (τ := wI σ o i.toNatClampNeg (v &&& 1)) _ (by rw [hs.2, e1]; rfl) wI_off] at hP
  exact kk _ P a hx hK p l e s m args below meth c H locs ls hC hk hP hS hl
theorem g_last {o n : Nat} {i : Int32} {v : Int64} {f : gS → Option α} (hs : shL V o n) (hd : decode cc pc = .ok (.lastore, 1)) (hq : pc + 1 = q) (kk : ∀ τ : gS, GF V G b d own cc nL ret K q lv st τ (f τ)) : GF V G b d own cc nL ret K pc lv (.long v :: .int i :: .ref (b + o) :: st) σ (gx i n (lt' (wL σ o i.toNatClampNeg v) f)) := by
  subst hq
  intro P a hx hK p l e s m args below meth c H locs ls hC hk hP hS hl
  obtain ⟨hin, hx⟩ := gx_in hx
  refine va_last hC.1 hC.2.1 hk.1 hP gws_D hS o 1 (shL_at hs) rfl hin hd (fun H locs hP hD hS => ?_)
  obtain ⟨e1, e2, e3⟩ := wL_on (σ := σ) (o := o) (k := i.toNatClampNeg) (v := v)
  rw [gws_set (τ := wL σ o i.toNatClampNeg v) _ (by rw [hs.2, e2]) wL_off] at hP
  exact kk _ P a hx hK p l e s m args below meth c H locs ls hC hk hP hS hl
theorem g_alenI {o t n : Nat} {v : Int32} (hs : shI V o t n) (ht : t < 4) (hv : Int32.ofNat n = v) (hd : decode cc pc = .ok (.arraylength, 1)) (hq : pc + 1 = q) (kk : GF V G b d own cc nL ret K q lv (.int v :: st) σ X) : GF V G b d own cc nL ret K pc lv (.ref (b + o) :: st) σ X := by
  subst hq
  intro P a hx hK p l e s m args below meth c H locs ls hC hk hP hS hl
  have hty : ∃ ty, (gty G)[t]? = some (G.2.1 t, ty) := by
    rcases (show t = 0 ∨ t = 1 ∨ t = 2 ∨ t = 3 by omega) with rfl | rfl | rfl | rfl <;> exact ⟨_, rfl⟩
  obtain ⟨ty, hty⟩ := hty
  exact va_alen hC.1 hC.2.1 hk.1 hP o t (shI_at hs) hty hv hd (kk P a hx hK p l e s m args below meth c H locs ls hC hk hP hS hl)
theorem g_alenL {o n : Nat} {v : Int32} (hs : shL V o n) (hv : Int32.ofNat n = v) (hd : decode cc pc = .ok (.arraylength, 1)) (hq : pc + 1 = q) (kk : GF V G b d own cc nL ret K q lv (.int v :: st) σ X) : GF V G b d own cc nL ret K pc lv (.ref (b + o) :: st) σ X := by
  subst hq
  intro P a hx hK p l e s m args below meth c H locs ls hC hk hP hS hl
  exact va_alen hC.1 hC.2.1 hk.1 hP o 1 (shL_at hs) rfl hv hd (kk P a hx hK p l e s m args below meth c H locs ls hC hk hP hS hl)
end GHEAP
