/-! LAYER 1: a world's cells, the context of a method, what it is to go on from a place -/
theorem gws_at {V : gV} {G : gG} {b : Nat} {σ : gS} {o : Nat} (h : o < V.1) : (gws V G b σ)[o]? = some (b + o, V.2 G.2.1 b o (σ.1 o) (σ.2.1 o) (σ.2.2 o)) := by
  simp [gws, h]
theorem gws_set {V : gV} {G : gG} {b : Nat} {σ τ : gS} {o : Nat} (e : va_E) (he : e = V.2 G.2.1 b o (τ.1 o) (τ.2.1 o) (τ.2.2 o)) (hk : ∀ j, j ≠ o → τ.1 j = σ.1 j ∧ τ.2.1 j = σ.2.1 j ∧ τ.2.2 j = σ.2.2 j) : (gws V G b σ).set o (b + o, e) = gws V G b τ := by
  apply List.ext_getElem?
  intro i
  rw [List.getElem?_set]
  by_cases hi : o = i
  · subst hi
    rw [if_pos rfl]
    by_cases hl : o < V.1
    · rw [if_pos (by simpa [gws] using hl), gws_at hl, he]
    · rw [if_neg (by simpa [gws] using hl)]
      simp [gws, hl]
  · rw [if_neg hi]
    obtain ⟨h1, h2, h3⟩ := hk i (fun q => hi q.symm)
    by_cases hl : i < V.1
    · rw [gws_at hl, gws_at hl, h1, h2, h3]
    · simp [gws, hl]
theorem gws_D {V : gV} {G : gG} {b : Nat} {σ : gS} : va_D (gA V b) (gws V G b σ) := by
  have key : ∀ (k : Nat) (q : Nat × va_E), (gws V G b σ)[k]? = some q → k < V.1 ∧ q.1 = b + k := by
    intro k q h
    by_cases hl : k < V.1
    · rw [gws_at hl] at h
      cases h
      exact ⟨hl, rfl⟩
    · simp [gws, hl] at h
  refine ⟨fun i j x y hi hj hxy => ?_, fun k q hk => ?_⟩
  · have a := key i x hi
    have c := key j y hj
    omega
  · have a := key k q hk
    exact ⟨by omega, by omega⟩
def gTS (j : Nat) : Int32 := ([60, 12, 10, 4, 10, 10, 10, 10, 10, 10, 10, 10] : List Int32).getD j 0
def isNest (w : Cond) : Bool := match w with
  | .methodLinkNest .. => true
  | .fieldLinkNest .. => true
  | _ => false
def gNest : List Cond := tables_1.filter isNest
theorem nest_in {w : Cond} (i : Nat) (h : tables_1[i]? = some w) (hf : isNest w = true) : w ∈ gNest := List.mem_filter.mpr ⟨List.mem_of_getElem? h, hf⟩
/-- the words' text: its bytes -/
def gBY (j : Nat) : Int32 := ([115, 105, 103, 110, 32, 105, 102, 32, 115, 97, 121, 32, 98, 111, 111, 107, 32, 119, 104, 101, 110, 32, 108, 97, 119, 32, 111, 114, 32, 97, 110, 100, 32, 110, 111, 116, 32, 119, 97, 121, 32, 109, 105, 110, 117, 116, 101, 32, 109, 111, 110, 116, 104, 32, 121, 101, 97, 114, 115, 32, 99, 111, 97, 116, 32, 116, 114, 117, 101, 32, 102, 97, 108, 115, 101, 32, 97, 108, 108, 32, 107, 105, 110, 100, 32, 116, 119, 111, 32, 115, 104, 97, 114, 112, 32, 107, 110, 111, 119, 110, 32, 97, 103, 101, 32, 119, 114, 111, 110, 103, 32] : List Int32).getD j 0
def gTX : String := "sign if say book when law or and not way minute month years coat true false all kind two sharp known age wrong "
/-- what the tables and the static fields say: of a state, and of the heap below b -/
def gStr (G : gG) (b : Nat) (U : State) (H : Heap) : Prop := vk_R "SkyTrial$Tokens" 29 gTX G.2.2.2.1 U ∧ va_O "java/lang/String" G.2.2.2.1 (fun q => b ≤ q) U H ∧ va_OF "java/lang/String" "coder" "B" (.int 0) G.2.2.2.1 (fun q => b ≤ q) U H ∧ va_OF "java/lang/String" "value" "[B" (.ref G.2.2.2.2.1) G.2.2.2.1 (fun q => b ≤ q) U H ∧ va_T .byte G.2.2.2.2.1 111 (fun j => .int (gBY j)) (fun q => b ≤ q) U H ∧ va_Z "java/lang/String" "COMPACT_STRINGS" "Z" (.int 1) (fun q => b ≤ q) U H ∧ va_Z "jdk/internal/util/Preconditions" "SIOOBE_FORMATTER" "Ljava/util/function/BiFunction;" G.2.2.2.2.2 (fun q => b ≤ q) U H ∧ (G.2.2.2.2.2 = .null ∨ ∃ a : Nat, G.2.2.2.2.2 = .ref a)
def gK (G : gG) (b : Nat) (U : State) (H : Heap) : Prop := va_K G.1 vwCl (gty G) U ∧ (∀ w ∈ gNest, va_Nw w U) ∧ va_Z "SkyTrial" "TRAIT_SIZES" "[I" (.ref G.2.2.1) (fun q => b ≤ q) U H ∧ va_T .int G.2.2.1 12 (fun j => .int (gTS j)) (fun q => b ≤ q) U H ∧ gStr G b U H
theorem gNest_warm {s U : State} (hW : s.WarmedH U.vm) (h : ∀ w ∈ gNest, va_Nw w s) : ∀ w ∈ gNest, va_Nw w U := by
  intro w hw
  have h1 := h w hw
  have h2 := (List.mem_filter.mp hw).2
  cases w <;> first | exact va_Nw.warmM hW h1 | exact va_Nw.warmF hW h1 | cases h2
theorem gK_enter {G : gG} {b : Nat} {s U : State} {A : Nat → Prop} {H : Heap} {locs : List Loc} (h : gK G b s s.heap) (hA : ∀ q, A q → b ≤ q) (hS : va_S A s.heap H locs) (hU : U.heap = H) (hW : s.WarmedH U.vm) : gK G b U U.heap := by
  obtain ⟨h1, h2, h3, h4, k1, k2, k3, k4, k5, k6, k7, k8⟩ := h
  have hq : ∀ a : Nat, a < s.heap.size → ¬ b ≤ a → H[a]? = s.heap[a]? := fun a ha hb => hS.2.1 a ha (fun z => hb (hA a z))
  rw [hU]
  exact ⟨h1.moved hW.alike, gNest_warm hW h2, (h3.moved hW.alike).kept hq, (h4.moved hW.alike).kept hq, vk_R.warm hW k1, (k2.moved hW.alike).kept hq, (k3.moved hW.alike).kept hq, (k4.moved hW.alike).kept hq, (k5.moved hW.alike).kept hq, (k6.moved hW.alike).kept hq, (k7.moved hW.alike).kept hq, k8⟩
theorem gK_blind {G : gG} {b : Nat} {u U : State} (hv : U.vm = u.vm) (hh : U.heap = u.heap) (h : gK G b u u.heap) : gK G b U U.heap := by
  obtain ⟨h1, h2, h3, h4, k1, k2, k3, k4, k5, k6, k7, k8⟩ := h
  have hal : u.vm.Alike U.vm := by rw [hv]; exact Vm.Alike.refl u.vm
  rw [hh]
  refine ⟨h1.moved hal, ?_, h3.moved hal, h4.moved hal, vk_R.same hv k1, k2.moved hal, k3.moved hal, k4.moved hal, k5.moved hal, k6.moved hal, k7.moved hal, k8⟩
  intro w hw
  have h9 := (List.mem_filter.mp hw).2
  exact va_Nw.same (u := u) (by cases w <;> first | rfl | cases h9) hv.symm (h2 w hw)
theorem gK_up {G : gG} {b b1 : Nat} (hb : b ≤ b1) {U : State} {H : Heap} (h : gK G b U H) : gK G b1 U H := by
  obtain ⟨h1, h2, h3, h4, k1, k2, k3, k4, k5, k6, k7, k8⟩ := h
  have hn : ∀ q, b1 ≤ q → b ≤ q := fun q h => Nat.le_trans hb h
  exact ⟨h1, h2, h3.narrow hn, h4.narrow hn, k1, k2.narrow hn, k3.narrow hn, k4.narrow hn, k5.narrow hn, k6.narrow hn, k7.narrow hn, k8⟩
def gQ (V : gV) (G : gG) (b : Nat) (P : Option Value → gS → Prop) : Array Value → State → Outcome → State → Prop := fun _ st o t => ∃ (r : Option Value) (τ : gS), o = .returned r ∧ P r τ ∧ va_P G.1 vwCl (gws V G b τ) t.heap ∧ va_F (gA V b) st t
def gC (own : String) (cc : ByteArray) (nL : Nat) (ret : Option FieldType) (p : Program) (s : State) (m : MethodId) (args : Array Value) (meth : Method) (c : Code) : Prop :=
  p.tables.exec = Jvm.exec ∧ c.code = cc ∧ c.maxLocals = nL ∧ s.vm.findClass own = some m.cls ∧ (∀ w ∈ gTBL, w.before args s = true) ∧ meth.sig.returnType = ret ∧ meth.locks = false
/-- how deep calls may go from here; cells and places made so far (constructors) -/
abbrev gD : Type := Nat × Nat × Nat
def gR (d : gD) : Room := { frames := d.1, cells := d.2.1, slots := d.2.2, locals := 60 * d.1 }
/-- from this place the method ends with P -/
def Go (V : gV) (G : gG) (b : Nat) (d : gD) (own : String) (cc : ByteArray) (nL : Nat) (ret : Option FieldType) (P : Option Value → gS → Prop) (pc : Nat) (lv : List (Nat × Value)) (st : List Value) (σ : gS) : Prop :=
  ∀ (p : Program) (l : Launch) (e : Env) (s : State) (m : MethodId) (args : Array Value) (below : List Frame) (meth : Method) (c : Code) (H : Heap) (locs : List Loc) (ls : Array Slot), gC own cc nL ret p s m args meth c → gK G b s s.heap → va_P G.1 vwCl (gws V G b σ) H → va_S (gA V b) s.heap H locs → lv_has ls nL lv →
    W p l e (gR d) s m args below meth c H locs d.2.1 d.2.2 (MQ below (gQ V G b P) args s d.2.1 d.2.2 (gA V b)) (F0 m pc ls st)
/-- from this place the machine does what the program x does -/
def GF (V : gV) (G : gG) (b : Nat) (d : gD) (own : String) (cc : ByteArray) (nL : Nat) (ret : Option FieldType) {α : Type} (K : α → (Option Value → gS → Prop) → Prop) (pc : Nat) (lv : List (Nat × Value)) (st : List Value) (σ : gS) (x : Option α) : Prop :=
  ∀ (P : Option Value → gS → Prop) (a : α), x = some a → K a P → Go V G b d own cc nL ret P pc lv st σ
/-- how programs end: with a number and a state, a long one, a state alone; or without a change -/
def kI : Int32 × gS → (Option Value → gS → Prop) → Prop := fun a P => P (some (.int a.1)) a.2
def kL : Int64 × gS → (Option Value → gS → Prop) → Prop := fun a P => P (some (.long a.1)) a.2
def kV : gS → (Option Value → gS → Prop) → Prop := fun a P => P none a
def kA (b : Nat) : Nat × gS → (Option Value → gS → Prop) → Prop := fun a P => P (some (.ref (b + a.1))) a.2
def kPI (σ : gS) : Int32 → (Option Value → gS → Prop) → Prop := fun a P => P (some (.int a)) σ
def kPL (σ : gS) : Int64 → (Option Value → gS → Prop) → Prop := fun a P => P (some (.long a)) σ
/-- a method's contract -/
def CN (V : gV) (G : gG) (b d : Nat) (y : MethodName) (cc : ByteArray) (nL : Nat) (ret : Option FieldType) {α : Type} (K : α → (Option Value → gS → Prop) → Prop) (av : List Value) (σ : gS) (x : Option α) : Prop :=
  ∀ (l : Launch) (P : Option Value → gS → Prop) (a : α), x = some a → K a P → Met l y (Cond.code y cc nL ret :: gTBL) (gR (d, 0, 0)) (fun v U => v = av.toArray ∧ gK G b U U.heap ∧ va_P G.1 vwCl (gws V G b σ) U.heap) (gQ V G b P) 0 0 (gA V b)
theorem cn_of {V : gV} {G : gG} {b d : Nat} {y : MethodName} {cc : ByteArray} {nL : Nat} {ret : Option FieldType} {α : Type} {K : α → (Option Value → gS → Prop) → Prop} {av : List Value} {σ : gS} {x : Option α} {own : String} (hy : plainName y.cls = true) (hown : y.cls = own) (hn : (lg_sl av).length ≤ nL) (h : GF V G b (d, 0, 0) own cc nL ret K 0 (lv_args 0 av) [] σ x) : CN V G b d y cc nL ret K av σ x := by
  intro l P a hx hK
  subst hown
  refine Met.ofW (cc := cc) (maxL := nL) (ret := ret) hy rfl ?_
  intro p e s m args below meth c s₁ B hml hv
  obtain ⟨rfl, hk, hP⟩ := hv
  have hts := atoms_spec (ws := Cond.code y cc nL ret :: gTBL) B.pre
  have hown : s.vm.findClass y.cls = some m.cls := findClass_of_methodNamed B.named
  rw [lg_entry_eq]
  exact h P a hx hK p l e s m _ below meth c s.heap [] _ ⟨B.exec, B.bytes, hml, hown, fun w hw => hts w (List.mem_cons_of_mem _ hw), B.returns, B.notSynchronized⟩ hk hP va_S.rf (lv_entry av hn)
/-- a contract with more room -/
theorem gA_le {V : gV} {b q : Nat} (h : gA V b q) : b ≤ q := h.1
