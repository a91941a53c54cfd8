/-! CONSTRUCTORS: a world that grows. Its first cell is the object in the making (kind ci, fields fs), the rest r comes behind it, address by address from b on. -/
def zws (b : Nat) (w : List va_E) : va_W := w.zipIdx.map (fun q => (b + q.2, q.1))
theorem zws_get {b o : Nat} {w : List va_E} : (zws b w)[o]? = w[o]?.map (fun e => (b + o, e)) := by
  simp only [zws, List.getElem?_map, List.getElem?_zipIdx, Option.map_map, Nat.zero_add]
  rfl
theorem zws_at {b o : Nat} {w : List va_E} {e : va_E} (h : w[o]? = some e) : (zws b w)[o]? = some (b + o, e) := by rw [zws_get, h]; rfl
theorem zws_set {b o : Nat} {w : List va_E} {e : va_E} : (zws b w).set o (b + o, e) = zws b (w.set o e) := by
  apply List.ext_getElem?
  intro i
  rw [List.getElem?_set, zws_get (w := w.set o e), List.getElem?_set]
  by_cases hi : o = i
  · subst hi
    by_cases hl : o < w.length
    · rw [if_pos rfl, if_pos rfl, if_pos (by simpa [zws] using hl), if_pos hl]; rfl
    · rw [if_pos rfl, if_pos rfl, if_neg (by simpa [zws] using hl), if_neg hl]; rfl
  · rw [if_neg hi, if_neg hi, zws_get]
theorem zws_app {b : Nat} {w v : List va_E} : zws b (w ++ v) = zws b w ++ zws (b + w.length) v := by
  apply List.ext_getElem?
  intro i
  have hl : (zws b w).length = w.length := by simp [zws]
  by_cases h : i < w.length
  · rw [zws_get, List.getElem?_append_left h, List.getElem?_append_left (by omega), zws_get]
  · rw [zws_get, List.getElem?_append_right (by omega), List.getElem?_append_right (by omega), zws_get, hl, show b + w.length + (i - w.length) = b + i by omega]
def gZ (b mc : Nat) : Nat → Prop := fun q => b ≤ q ∧ q < b + (mc + 1)
theorem zws_key {b k : Nat} {w : List va_E} {q : Nat × va_E} (h : (zws b w)[k]? = some q) : k < w.length ∧ q.1 = b + k := by
  rw [zws_get] at h
  cases hw : w[k]? with
  | none => rw [hw] at h; cases h
  | some e => rw [hw] at h; cases h; exact ⟨(List.getElem?_eq_some_iff.mp hw).1, rfl⟩
theorem zws_D {b mc : Nat} {w : List va_E} (hlen : w.length ≤ mc + 1) : va_D (gZ b mc) (zws b w) := by
  refine ⟨fun i j x y hi hj hxy => ?_, fun k q hk => ?_⟩
  · have a := zws_key hi
    have c := zws_key hj
    omega
  · have a := zws_key hk
    exact ⟨by omega, by omega⟩
def zQ (G : gG) (b mc : Nat) (wF : List va_E) : Array Value → State → Outcome → State → Prop := fun _ st o t => o = .returned none ∧ va_P G.1 vwCl (zws b wF) t.heap ∧ va_F (gZ b mc) st t
/-- from this place the constructor ends, with the world wF -/
def Zo (G : gG) (b h mc ms : Nat) (own : String) (cc : ByteArray) (nL ci : Nat) (wF : List va_E) (pc : Nat) (lv : List (Nat × Value)) (st : List Value) (fs : List Value) (r : List va_E) (cn sn : Nat) : Prop :=
  ∀ (p : Program) (l : Launch) (e : Env) (s : State) (m : MethodId) (args : Array Value) (below : List Frame) (meth : Method) (c : Code) (H : Heap) (locs : List Loc) (ls : Array Slot), gC own cc nL none p s m args meth c → meth.name = "<init>" → s.heap.size = b + 1 → gK G b s s.heap → va_P G.1 vwCl (zws b (.inr (ci, fs) :: r)) H → va_S (gZ b mc) s.heap H locs → lv_has ls nL lv →
    W p l e (gR (h, mc, ms)) s m args below meth c H locs cn sn (MQ below (zQ G b mc wF) args s mc ms (gZ b mc)) (F0 m pc ls st)
/-- a constructor's contract -/
def CZ (G : gG) (b h mc ms : Nat) (y : MethodName) (cc : ByteArray) (nL ci : Nat) (av : List Value) (fs : List Value) (wF : List va_E) : Prop :=
  ∀ l : Launch, Met l y (Cond.code y cc nL none :: gTBL) (gR (h, mc, ms)) (fun v U => v = av.toArray ∧ U.heap.size = b + 1 ∧ gK G b U U.heap ∧ va_P G.1 vwCl (zws b [.inr (ci, fs)]) U.heap) (zQ G b mc wF) mc ms (gZ b mc)
theorem cz_of {G : gG} {b h mc ms : Nat} {y : MethodName} {cc : ByteArray} {nL ci : Nat} {av : List Value} {fs : List Value} {wF : List va_E} {own : String} (hy : plainName y.cls = true) (hown : y.cls = own) (hnm : y.name = "<init>") (hn : (lg_sl av).length ≤ nL) (hh : Zo G b h mc ms own cc nL ci wF 0 (lv_args 0 av) [] fs [] 0 0) : CZ G b h mc ms y cc nL ci av fs wF := by
  intro l
  subst hown
  refine Met.ofW (cc := cc) (maxL := nL) (ret := none) hy rfl ?_
  intro p e s m args below meth c s₁ B hml hv
  obtain ⟨rfl, hz, hk, hP⟩ := hv
  have hts := atoms_spec (ws := Cond.code y cc nL none :: gTBL) B.pre
  have hown : s.vm.findClass y.cls = some m.cls := findClass_of_methodNamed B.named
  have hin : meth.name = "<init>" := hnm ▸ (name_of_methodNamed B.named B.method).1
  rw [lg_entry_eq]
  exact hh p l e s m _ below meth c s.heap [] _ ⟨B.exec, B.bytes, hml, hown, fun w hw => hts w (List.mem_cons_of_mem _ hw), B.returns, B.notSynchronized⟩ hin hz hk hP va_S.rf (lv_entry av hn)
def zFn (own : String) (index : Nat) (T : u_T) (N k : Nat) (ty : FieldType) : Prop := Cond.fieldLink own index (T k).1 (T k).2.1 (T k).2.2.1 ∈ gTBL ∧ k < N ∧ (T k).2.2.2 = true ∧ (T k).1 = own ∧ parseFieldDescriptor (T k).2.2.1 = some ty
def zVn (own : String) (index : Nat) (T : u_T) (N k : Nat) (ty : FieldType) : Prop := Cond.fieldLink own index (T k).1 (T k).2.1 (T k).2.2.1 ∈ gTBL ∧ k < N ∧ (T k).2.2.2 = false ∧ parseFieldDescriptor (T k).2.2.1 = some ty
section ZR
variable {G : gG} {b h mc ms : Nat} {own : String} {cc : ByteArray} {nL ci : Nat} {wF : List va_E} {pc q : Nat} {lv : List (Nat × Value)} {st fs : List Value} {r : List va_E} {cn sn : Nat}
/-- how large the heap is: by the cells counted, and by the last cell -/
theorem z_size {p : Program} {l : Launch} {e : Env} {R : Room} {s : State} {m : MethodId} {args : Array Value} {below : List Frame} {meth : Method} {c : Code} {T : State} {locs : List Loc} (X : Stand p l e R s m args below meth c T locs cn sn) (hs : s.heap.size = b + 1) (hr : r.length = cn) (hP : va_P G.1 vwCl (zws b (.inr (ci, fs) :: r)) T.heap) : T.heap.size = b + (cn + 1) := by
  have h1 : T.heap.size ≤ s.heap.size + cn := X.same.2.2.1
  have hl : (.inr (ci, fs) :: r : List va_E).length = cn + 1 := by simp [hr]
  have h2 : ((.inr (ci, fs) :: r : List va_E)[cn]?).isSome := by simp [hl]
  obtain ⟨e0, he⟩ := Option.isSome_iff_exists.mp h2
  have h3 := (hP cn _ (zws_at he)).lt
  omega
theorem z_sized {p : Program} {l : Launch} {e : Env} {R : Room} {s : State} {m : MethodId} {args : Array Value} {below : List Frame} {meth : Method} {c : Code} {H : Heap} {locs : List Loc} {Q : State → Prop} {g : JFrame} (hs : s.heap.size = b + 1) (hr : r.length = cn) (hP : va_P G.1 vwCl (zws b (.inr (ci, fs) :: r)) H) (kk : H.size = b + (cn + 1) → W p l e R s m args below meth c H locs cn sn Q g) : W p l e R s m args below meth c H locs cn sn Q g := by
  intro T hT X
  exact kk (by subst hT; exact z_size X hs hr hP) T hT X
theorem z_push {H H1 : Heap} {e0 : va_E} (hr : r.length = cn) (hP : va_P G.1 vwCl (zws b (.inr (ci, fs) :: r)) H) (hz : H.size = b + (cn + 1)) (e3 : ∀ q, q < b + (cn + 1) → H1[q]? = H[q]?) (he : va_at G.1 vwCl (b + (cn + 1), e0) H1) : va_P G.1 vwCl (zws b (.inr (ci, fs) :: (r ++ [e0]))) H1 := by
  rw [← List.cons_append, zws_app]
  refine (hP.kept (fun k x hx => e3 x.1 (by have := (hP k x hx).lt; omega))).app (fun k x hx => ?_)
  obtain ⟨g1, g2⟩ := zws_key hx
  have hk : k = 0 := by simpa using g1
  subst hk
  rw [zws_get] at hx
  cases hx
  have ho : b + (.inr (ci, fs) :: r : List va_E).length + 0 = b + (cn + 1) := by simp [hr]
  rw [ho]
  exact he
theorem z_aload_n {k : Fin 4} {i : Nat} {x : Nat} (j : Nat) (hd : decode cc pc = .ok (.aload_n k, 1)) (hi : (k : Nat) = i) (hj : lv[j]? = some (i, .ref x)) (hq : pc + 1 = q) (kk : Zo G b h mc ms own cc nL ci wF q lv (.ref x :: st) fs r cn sn) : Zo G b h mc ms own cc nL ci wF pc lv st fs r cn sn := by
  subst hq
  intro p l e s m args below meth c H locs ls hC hin hz hk hP hS hl
  exact lv_aload_n hC.1 hC.2.1 hd hi (lv_at hl j hj) (kk p l e s m args below meth c H locs ls hC hin hz hk hP hS hl)
theorem z_iconst {n : Int} {v : Int32} (hd : decode cc pc = .ok (.iconst n, 1)) (hv : Int32.ofInt n = v) (hq : pc + 1 = q) (kk : Zo G b h mc ms own cc nL ci wF q lv (.int v :: st) fs r cn sn) : Zo G b h mc ms own cc nL ci wF pc lv st fs r cn sn := by
  subst hq
  intro p l e s m args below meth c H locs ls hC hin hz hk hP hS hl
  exact lv_iconst hC.1 hC.2.1 hd hv (kk p l e s m args below meth c H locs ls hC hin hz hk hP hS hl)
theorem z_bipush {n : Int} {v : Int32} (hd : decode cc pc = .ok (.bipush n, 2)) (hv : (Int8.ofInt n).toInt32 = v) (hq : pc + 2 = q) (kk : Zo G b h mc ms own cc nL ci wF q lv (.int v :: st) fs r cn sn) : Zo G b h mc ms own cc nL ci wF pc lv st fs r cn sn := by
  subst hq
  intro p l e s m args below meth c H locs ls hC hin hz hk hP hS hl
  exact lv_bipush hC.1 hC.2.1 hd hv (kk p l e s m args below meth c H locs ls hC hin hz hk hP hS hl)
theorem z_sipush {n : Int} {v : Int32} (hd : decode cc pc = .ok (.sipush n, 3)) (hv : (Int16.ofInt n).toInt32 = v) (hq : pc + 3 = q) (kk : Zo G b h mc ms own cc nL ci wF q lv (.int v :: st) fs r cn sn) : Zo G b h mc ms own cc nL ci wF pc lv st fs r cn sn := by
  subst hq
  intro p l e s m args below meth c H locs ls hC hin hz hk hP hS hl
  exact lv_sipush hC.1 hC.2.1 hd hv (kk p l e s m args below meth c H locs ls hC hin hz hk hP hS hl)
theorem z_lconst {n : Fin 2} {v : Int64} (hd : decode cc pc = .ok (.lconst n, 1)) (hv : Int64.ofNat (n : Nat) = v) (hq : pc + 1 = q) (kk : Zo G b h mc ms own cc nL ci wF q lv (.long v :: st) fs r cn sn) : Zo G b h mc ms own cc nL ci wF pc lv st fs r cn sn := by
  subst hq
  intro p l e s m args below meth c H locs ls hC hin hz hk hP hS hl
  exact lv_lconst hC.1 hC.2.1 hd hv (kk p l e s m args below meth c H locs ls hC hin hz hk hP hS hl)
theorem z_dup {v : Value} (hd : decode cc pc = .ok (.dup, 1)) (hv : v.category = 1) (hq : pc + 1 = q) (kk : Zo G b h mc ms own cc nL ci wF q lv (v :: v :: st) fs r cn sn) : Zo G b h mc ms own cc nL ci wF pc lv (v :: st) fs r cn sn := by
  subst hq
  intro p l e s m args below meth c H locs ls hC hin hz hk hP hS hl
  exact lv_dup hC.1 hC.2.1 hd hv (kk p l e s m args below meth c H locs ls hC hin hz hk hP hS hl)
/-- the making of the object itself -/
theorem z_obj {idx : Nat} {a : Nat} (hd : decode cc pc = .ok (.invokespecial idx, 3)) (hw : Cond.methodLink own idx Lib.objectInit ∈ gTBL) (hi : Cond.instanceMethod Lib.objectInit ∈ gTBL) (hc : Cond.code Lib.objectInit ⟨#[0xb1]⟩ 1 none ∈ gTBL) (hR : 1 ≤ h) (hW : (st.map fun v => v.category).sum ≤ 8) (hq : pc + 3 = q) (kk : Zo G b h mc ms own cc nL ci wF q lv st fs r cn sn) : Zo G b h mc ms own cc nL ci wF pc lv (.ref a :: st) fs r cn sn := by
  subst hq
  intro p l e s m args below meth c H locs ls hC hin hz hk hP hS hl
  exact W.objInit hC.1 hC.2.1 hC.2.2.2.1 (hC.2.2.2.2.1 _ hw) (hC.2.2.2.2.1 _ hi) (hC.2.2.2.2.1 _ hc) rfl (hl.1.trans hC.2.2.1.symm) rfl hd hR (by show 2 * 0 + _ + 12 ≤ 60 * h; omega) (kk p l e s m args below meth c H locs ls hC hin hz hk hP hS hl)
/-- a field of the object -/
theorem z_putF (hrl : r.length ≤ mc) {C : String} {T : u_T} {N k index : Nat} {v : Value} {ty : FieldType} {fs' : List Value} {ty0 : Nat → FieldType} (hcl : vwCl[ci]? = some (C, T, N)) (hu : ∀ w ∈ u_ws C T N, w ∈ gTBL) (hty : ∀ k, k < N → parseFieldDescriptor (T k).2.2.1 = some (ty0 k)) (hnm : ∀ a, a < N → ∀ b, b < N → a ≠ b → (T a).2.1 ≠ (T b).2.1) (hd : decode cc pc = .ok (.putfield index, 3)) (zf : zFn own index T N k ty) (hn : narrow ty v = v) (hfit : fits ty v = true) (hlf : k < fs.length) (hfs : fs.set k v = fs') (hq : pc + 3 = q) (kk : Zo G b h mc ms own cc nL ci wF q lv st fs' r cn sn) : Zo G b h mc ms own cc nL ci wF pc lv (v :: .ref (b + 0) :: st) fs r cn sn := by
  subst hq; subst hfs
  intro p l e s m args below meth c H locs ls hC hin hz hk hP hS hl
  refine va_putF hC.1 hC.2.1 hC.2.2.2.2.1 hu ty0 hty hnm hC.2.2.2.1 hk.1 hP (zws_D (by simp; omega)) hS 0 (zws_at rfl) hcl k zf.2.1 (hC.2.2.2.2.1 _ zf.1) (fun _ h9 => h9) zf.2.2.1 hin zf.2.2.2.1 zf.2.2.2.2 hn hfit hlf hd (fun H locs hP hD hS => ?_)
  rw [zws_set] at hP
  exact kk p l e s m args below meth c H locs ls hC hin hz hk hP hS hl
theorem z_put (hrl : r.length ≤ mc) {C : String} {T : u_T} {N k index : Nat} {v : Value} {ty : FieldType} {fs' : List Value} {ty0 : Nat → FieldType} (hcl : vwCl[ci]? = some (C, T, N)) (hu : ∀ w ∈ u_ws C T N, w ∈ gTBL) (hty : ∀ k, k < N → parseFieldDescriptor (T k).2.2.1 = some (ty0 k)) (hnm : ∀ a, a < N → ∀ b, b < N → a ≠ b → (T a).2.1 ≠ (T b).2.1) (hd : decode cc pc = .ok (.putfield index, 3)) (zf : zVn own index T N k ty) (hn : narrow ty v = v) (hfit : fits ty v = true) (hlf : k < fs.length) (hfs : fs.set k v = fs') (hq : pc + 3 = q) (kk : Zo G b h mc ms own cc nL ci wF q lv st fs' r cn sn) : Zo G b h mc ms own cc nL ci wF pc lv (v :: .ref (b + 0) :: st) fs r cn sn := by
  subst hq; subst hfs
  intro p l e s m args below meth c H locs ls hC hin hz hk hP hS hl
  refine va_put hC.1 hC.2.1 hC.2.2.2.2.1 hu ty0 hty hnm hC.2.2.2.1 hk.1 hP (zws_D (by simp; omega)) hS 0 (zws_at rfl) hcl k zf.2.1 (hC.2.2.2.2.1 _ zf.1) (fun _ h9 => h9) zf.2.2.1 zf.2.2.2 hn hfit hlf hd (fun H locs hP hD hS => ?_)
  rw [zws_set] at hP
  exact kk p l e s m args below meth c H locs ls hC hin hz hk hP hS hl
theorem z_get {C : String} {T : u_T} {N k index : Nat} {v : Value} (hcl : vwCl[ci]? = some (C, T, N)) (hu : ∀ w ∈ u_ws C T N, w ∈ gTBL) (hd : decode cc pc = .ok (.getfield index, 3)) (hk0 : k < N) (hw : Cond.fieldLink own index (T k).1 (T k).2.1 (T k).2.2.1 ∈ gTBL) (hv : fs[k]? = some v) (hq : pc + 3 = q) (kk : Zo G b h mc ms own cc nL ci wF q lv (v :: st) fs r cn sn) : Zo G b h mc ms own cc nL ci wF pc lv (.ref (b + 0) :: st) fs r cn sn := by
  subst hq
  intro p l e s m args below meth c H locs ls hC hin hz hk hP hS hl
  exact va_get hC.1 hC.2.1 hC.2.2.2.2.1 hu hC.2.2.2.1 hk.1 hP 0 (zws_at rfl) hcl k hk0 (hC.2.2.2.2.1 _ hw) (fun _ h9 => h9) hv hd (kk p l e s m args below meth c H locs ls hC hin hz hk hP hS hl)
/-- a row of numbers -/
theorem z_newa {atype : ArrayType} {ty : FieldType} {t : Nat} {n : Int32} {N : Nat} {a0 : vp_A} {x : Nat} (hd : decode cc pc = .ok (.newarray atype, 2)) (hat : newarray.typeOf atype = ty) (ht : (gty G)[t]? = some (G.2.1 t, ty)) (hwt : Cond.arrayClass (newarray.typeOf atype) ∈ gTBL) (hnr : ∀ U cA, va_RA U cA ty → U.vm.findClass ("[" ++ ty.toString) = some cA) (ha : ∀ cA : ClassId, vp_cell cA a0 = arrV cA N (fun _ => defaultValue ty)) (hn : ¬ n < 0) (hN : n.toNatClampNeg = N) (hby : N * componentBytes ty ≤ 536870912) (hcm : cn + 1 ≤ mc) (hsm : sn + N ≤ ms) (hr : r.length = cn) (hx : cn + 1 = x) (hq : pc + 2 = q) (kk : Zo G b h mc ms own cc nL ci wF q lv (.ref (b + x) :: st) fs (r ++ [.inl (G.2.1 t, a0)]) (cn + 1) (sn + N)) : Zo G b h mc ms own cc nL ci wF pc lv (.int n :: st) fs r cn sn := by
  subst hq; subst hat; subst hx
  intro p l e s m args below meth c H locs ls hC hin hz hk hP hS hl
  refine z_sized hz hr hP (fun hsz => ?_)
  refine va_newaK hC.1 hC.2.1 (hC.2.2.2.2.1 _ hwt) rfl hd rfl hn hN hby hcm hsm hsz (fun H' cA e1 e2 e3 e4 e5 => ?_)
  have hcA : cA = G.2.1 t := Option.some.inj (e5.symm.trans (hnr _ _ (hk.1.2 t _ ht).2))
  subst hcA
  exact kk p l e s m args below meth c H' locs ls hC hin hz hk (z_push hr hP hsz e3 (by show H'[b + (cn + 1)]? = some (vp_cell _ _); rw [ha]; exact e1)) ⟨Nat.le_trans hS.1 (by omega), fun x h1 h2 => (e3 x (by have := hS.1; omega)).trans (hS.2.1 x h1 h2), hS.2.2⟩ hl
/-- another object, as it is born -/
theorem z_new {C : String} {T : u_T} {N cj index x : Nat} {fs1 : List Value} (ty : Nat → FieldType) (hcl : vwCl[cj]? = some (C, T, N)) (hu : ∀ w ∈ u_ws C T N, w ∈ gTBL) (hty : ∀ k, k < N → parseFieldDescriptor (T k).2.2.1 = some (ty k)) (hd : decode cc pc = .ok (.new index, 3)) (hwl : Cond.classLink own index C ∈ gTBL) (hwi : Cond.instantiable C N ∈ gTBL) (hw0 : Cond.initialized C ∈ gTBL) (hfs : ∀ j, j < N → defaultValue (ty j) = vp_V fs1 j) (hcm : cn + 1 ≤ mc) (hsm : sn + N ≤ ms) (hr : r.length = cn) (hx : cn + 1 = x) (hq : pc + 3 = q) (kk : Zo G b h mc ms own cc nL ci wF q lv (.ref (b + x) :: st) fs (r ++ [.inr (cj, fs1)]) (cn + 1) (sn + N)) : Zo G b h mc ms own cc nL ci wF pc lv st fs r cn sn := by
  subst hq; subst hx
  intro p l e s m args below meth c H locs ls hC hin hz hk hP hS hl
  refine z_sized hz hr hP (fun hsz => ?_)
  have hKn := hk.1.1 cj _ hcl
  refine W.newcK hC.1 hC.2.1 hC.2.2.2.1 (hC.2.2.2.2.1 _ hwl) (hC.2.2.2.2.1 _ hwi) (hC.2.2.2.2.1 _ hw0) rfl hd hcm hsm hKn.2.1 hsz (fun H' kC hkC e1 e2 e3 => ?_)
  exact kk p l e s m args below meth c H' locs ls hC hin hz hk (z_push hr hP hsz e3 ⟨_, hcl, (u_born ty hC.2.2.2.2.1 hu hKn hkC e1 hty).to hfs⟩) ⟨Nat.le_trans hS.1 (by omega), fun x h1 h2 => (e3 x (by have := hS.1; omega)).trans (hS.2.1 x h1 h2), hS.2.2⟩ hl
/-- the end -/
theorem z_ret (hd : decode cc pc = .ok (.return_, 1)) (hw : .inr (ci, fs) :: r = wF) (hcn : cn = mc) (hsn : sn = ms) : Zo G b h mc ms own cc nL ci wF pc lv [] fs r cn sn := by
  subst hw; subst hcn; subst hsn
  intro p l e s m args below meth c H locs ls hC hin hz hk hP hS hl
  exact W.vret hC.1 hC.2.1 hC.2.2.2.2.2.1 (fun t ht hW => ⟨rfl, by rw [ht]; exact hP, hS.F ht⟩) hS.2.2 hd hC.2.2.2.2.2.2
theorem z_blind {b1 : Nat} {av : List Value} {w : List va_E} : FrameBlind (fun v U => v = av.toArray ∧ U.heap.size = b1 + 1 ∧ gK G b1 U U.heap ∧ va_P G.1 vwCl (zws b1 w) U.heap) := by
  intro a U g mk hh
  exact ⟨hh.1, hh.2.1, gK_blind (u := U) rfl rfl hh.2.2.1, hh.2.2.2⟩
/-- the words of a constructor's call -/
def cwZ (own : String) (index : Nat) (y : MethodName) (cc : ByteArray) (nL n : Nat) : Prop :=
  (Cond.methodLink own index y ∈ gTBL ∧ Cond.instanceMethod y ∈ gTBL ∧ Cond.initialized y.cls ∈ gTBL ∧ Cond.code y cc nL none ∈ gTBL) ∧ y.name = "<init>" ∧ y.cls ≠ "java/lang/invoke/MethodHandle" ∧ y.cls ≠ "java/lang/invoke/VarHandle" ∧ (parseMethodDescriptor y.desc).map (fun d => d.parameters.length) = some n
def cwZN (own : String) (index : Nat) (y : MethodName) (host : String) (cc : ByteArray) (nL n : Nat) : Prop :=
  (Cond.methodLinkNest own index y host ∈ gNest ∧ Cond.instanceMethod y ∈ gTBL ∧ Cond.initialized y.cls ∈ gTBL ∧ Cond.code y cc nL none ∈ gTBL) ∧ y.name = "<init>" ∧ y.cls ≠ "java/lang/invoke/MethodHandle" ∧ y.cls ≠ "java/lang/invoke/VarHandle" ∧ (parseMethodDescriptor y.desc).map (fun d => d.parameters.length) = some n
/-- behind a constructor's call -/
theorem z_back {p : Program} {l : Launch} {e : Env} {s : State} {m : MethodId} {args : Array Value} {below : List Frame} {meth : Method} {c : Code} {H : Heap} {locs : List Loc} {Q : State → Prop} {a : Array Value} {ls : Array Slot} {st0 : List Value} {r1 wF' : List va_E} {e0 : va_E} {mc' ms' : Nat}
    (hr : va_Run p l e (gR (h, mc, ms)) s m args below meth c H locs cn sn mc' ms' (F0 m pc ls st0) st (zQ G (b + (r1.length + 1)) mc' wF' a) (gZ (b + (r1.length + 1)) mc')) (hcn : r1.length + 1 = cn) (hcm : cn + mc' ≤ mc) (hz : H.size = b + (cn + 1)) (hP : va_P G.1 vwCl (zws b (.inr (ci, fs) :: (r1 ++ [e0]))) H) (hS : va_S (gZ b mc) s.heap H locs)
    (kk : ∀ (H1 : Heap) (locs1 : List Loc), va_P G.1 vwCl (zws b (.inr (ci, fs) :: (r1 ++ wF'))) H1 → va_S (gZ b mc) s.heap H1 locs1 → W p l e (gR (h, mc, ms)) s m args below meth c H1 locs1 (cn + mc') (sn + ms') Q (F0 m (pc + 3) ls st)) : W p l e (gR (h, mc, ms)) s m args below meth c H locs cn sn Q (F0 m pc ls st0) := by
  intro T hT X
  obtain ⟨v, st₀, t, T', L, h0, X', hL, e1, e2, ⟨hv, hP1, hz1, hk1⟩, hgo⟩ := hr T hT X
  cases hv
  rw [h0] at hz1 hk1
  have hP2 : va_P G.1 vwCl (zws b (.inr (ci, fs) :: r1)) H := by
    intro k q hq
    refine hP k q ?_
    rw [← List.cons_append, zws_app, List.getElem?_append_left (by have := zws_key hq; simpa [zws] using this.1)]
    exact hq
  obtain ⟨t2, a1, b1⟩ := kk T'.heap (locs ++ L)
    (by
      rw [e1, ← List.cons_append, zws_app]
      refine (hP2.kept (fun k x hx => hk1 x.1 (by have := (hP2 k x hx).lt; omega) ?_)).app ?_
      · have := zws_key hx
        have h9 : k < r1.length + 1 := by simpa using this.1
        intro h8
        have := h8.1
        omega
      · simpa using hP1)
    ⟨Nat.le_trans hS.1 (by rw [e1]; exact hz1), fun q h1 h2 => by
      rw [e1, hk1 q (Nat.lt_of_lt_of_le h1 hS.1) (fun h8 => h2 ⟨by have := h8.1; omega, by have := h8.2; omega⟩)]
      exact hS.2.1 q h1 h2, fun q hq => by
      rcases List.mem_append.mp hq with h | h
      · exact hS.2.2 q h
      · have h8 := hL q h
        exact ⟨by have := h8.1; omega, by have := h8.2; omega⟩⟩ T' rfl X'
  exact ⟨t2, hgo t2 a1, b1⟩
theorem z_call {y : MethodName} {cc' : ByteArray} {nL' cj index n h' mc' ms' : Nat} {As fs1 st0 : List Value} {r1 r2 wF' : List va_E} (hc : CZ G (b + (r1.length + 1)) h' mc' ms' y cc' nL' cj (.ref (b + (r1.length + 1) + 0) :: As) fs1 wF') (cw : cwZ own index y cc' nL' n) (hn : As.length = n) (hd : decode cc pc = .ok (.invokespecial index, 3)) (hr : r1 ++ [.inr (cj, fs1)] = r) (hr2 : r1 ++ wF' = r2) (hcn : r1.length + 1 = cn) (hst : As.reverse ++ .ref (b + cn) :: st = st0) (hW : (st.map fun v => v.category).sum ≤ 8) (hR : h' + 1 ≤ h ∧ nL' ≤ 41) (hcm : cn + mc' ≤ mc ∧ sn + ms' ≤ ms) (hq : pc + 3 = q)
    (kk : Zo G b h mc ms own cc nL ci wF q lv st fs r2 (cn + mc') (sn + ms')) : Zo G b h mc ms own cc nL ci wF pc lv st0 fs r cn sn := by
  subst hq; subst hr; subst hr2; subst hst
  intro p l e s m args below meth c H locs ls hC hin hz hk hP hS hl
  refine z_sized hz (by simpa using hcn) hP (fun hsz => ?_)
  obtain ⟨⟨w1, w2, w4, w5⟩, w0, w6, w7, w8⟩ := cw
  have hts : ∀ w ∈ Cond.tt :: gTBL, w.before args s = true := fun w hw => (List.mem_cons.mp hw).elim (fun e => by rw [e]; rfl) (hC.2.2.2.2.1 w)
  have hcw : CallB (gR (h, mc, ms)) s args own index y cc' nL' none (Cond.code y cc' nL' none :: gTBL) (gR (h', mc', ms')) mc' ms' n ∧ y.name = "<init>" ∧ (Cond.instanceMethod y).before args s = true :=
    ⟨callB_of n hts (gGood w5) rfl rfl rfl (hC.2.2.2.2.1 _ w4) (hC.2.2.2.2.1 _ w1) ⟨w6, w7, w8⟩ ⟨hR.1, by show 8 + (nL' + 11) + 60 * h' ≤ 60 * h; omega⟩, w0, hC.2.2.2.2.1 _ w2⟩
  subst hcn
  have hPe : va_P G.1 vwCl (zws (b + (r1.length + 1)) [.inr (cj, fs1)]) H := by
    intro k q hq
    refine hP (r1.length + 1 + k) q ?_
    rw [← List.cons_append, zws_app, List.getElem?_append_right (by simp [zws])]
    simpa [zws] using hq
  refine z_back (e0 := .inr (cj, fs1)) (va_runI (As := As) (rest := st) ⟨hC.1, hC.2.1, hC.2.2.1, hC.2.2.2.1, hts⟩ (hc l) hcw ⟨z_blind, fun U hU hWm => ⟨rfl, by rw [hU, hsz]; omega, gK_up (by omega) (gK_enter hk (fun _ h => h.1) hS hU hWm), by rw [hU]; exact hPe⟩⟩ rfl hn hl.1 rfl (by show 2 * 0 + _ ≤ 8; omega) hd hcm) rfl hcm.1 hsz hP hS ?_
  intro H1 locs1 hP1 hS1
  exact kk p l e s m args below meth c H1 locs1 ls hC hin hz hk hP1 hS1 hl
theorem z_callN {y : MethodName} {host : String} {cc' : ByteArray} {nL' cj index n h' mc' ms' : Nat} {As fs1 st0 : List Value} {r1 r2 wF' : List va_E} (hc : CZ G (b + (r1.length + 1)) h' mc' ms' y cc' nL' cj (.ref (b + (r1.length + 1) + 0) :: As) fs1 wF') (cw : cwZN own index y host cc' nL' n) (hn : As.length = n) (hd : decode cc pc = .ok (.invokespecial index, 3)) (hr : r1 ++ [.inr (cj, fs1)] = r) (hr2 : r1 ++ wF' = r2) (hcn : r1.length + 1 = cn) (hst : As.reverse ++ .ref (b + cn) :: st = st0) (hW : (st.map fun v => v.category).sum ≤ 8) (hR : h' + 1 ≤ h ∧ nL' ≤ 41) (hcm : cn + mc' ≤ mc ∧ sn + ms' ≤ ms) (hq : pc + 3 = q)
    (kk : Zo G b h mc ms own cc nL ci wF q lv st fs r2 (cn + mc') (sn + ms')) : Zo G b h mc ms own cc nL ci wF pc lv st0 fs r cn sn := by
  subst hq; subst hr; subst hr2; subst hst
  intro p l e s m args below meth c H locs ls hC hin hz hk hP hS hl
  refine z_sized hz (by simpa using hcn) hP (fun hsz => ?_)
  obtain ⟨⟨w1, w2, w4, w5⟩, w0, w6, w7, w8⟩ := cw
  have hts : ∀ w ∈ Cond.tt :: gTBL, w.before args s = true := fun w hw => (List.mem_cons.mp hw).elim (fun e => by rw [e]; rfl) (hC.2.2.2.2.1 w)
  have hcw : va_CN (gR (h, mc, ms)) s args own index y host cc' nL' none (Cond.code y cc' nL' none :: gTBL) (gR (h', mc', ms')) mc' ms' n ∧ y.name = "<init>" ∧ (Cond.instanceMethod y).before args s = true :=
    ⟨va_cnB n hts (gGood w5) rfl rfl rfl (hk.2.1 _ w1) (hC.2.2.2.2.1 _ w4) ⟨w6, w7, w8⟩ ⟨hR.1, by show 8 + (nL' + 11) + 60 * h' ≤ 60 * h; omega⟩, w0, hC.2.2.2.2.1 _ w2⟩
  subst hcn
  have hPe : va_P G.1 vwCl (zws (b + (r1.length + 1)) [.inr (cj, fs1)]) H := by
    intro k q hq
    refine hP (r1.length + 1 + k) q ?_
    rw [← List.cons_append, zws_app, List.getElem?_append_right (by simp [zws])]
    simpa [zws] using hq
  refine z_back (e0 := .inr (cj, fs1)) (va_runIN (As := As) (rest := st) ⟨hC.1, hC.2.1, hC.2.2.1, hC.2.2.2.1, hts⟩ (hc l) hcw ⟨z_blind, fun U hU hWm => ⟨rfl, by rw [hU, hsz]; omega, gK_up (by omega) (gK_enter hk (fun _ h => h.1) hS hU hWm), by rw [hU]; exact hPe⟩⟩ rfl hn hl.1 rfl (by show 2 * 0 + _ ≤ 8; omega) hd hcm) rfl hcm.1 hsz hP hS ?_
  intro H1 locs1 hP1 hS1
  exact kk p l e s m args below meth c H1 locs1 ls hC hin hz hk hP1 hS1 hl
/-- all is made: the rest is done by a program -/
theorem z_tail {V : gV} {σ τ : gS} {x : Option gS} (hV : V.1 = mc + 1) (hw : gws V G b σ = zws b (.inr (ci, fs) :: r)) (hg : GF V G b (h, mc, ms) own cc nL none kV pc lv [] σ x) (hx : x = some τ) (hF : gws V G b τ = zws b wF) (hcn : cn = mc) (hsn : sn = ms) : Zo G b h mc ms own cc nL ci wF pc lv [] fs r cn sn := by
  subst hcn; subst hsn
  intro p l e s m args below meth c H locs ls hC hin hz hk hP hS hl
  have hA : gA V b = gZ b cn := by funext q; unfold gA gZ; rw [hV]
  have hgo := hg (fun r t => r = none ∧ t = τ) τ hx ⟨rfl, rfl⟩ p l e s m args below meth c H locs ls hC hk (by rw [hw]; exact hP) (by rw [hA]; exact hS) hl
  intro T hT X
  obtain ⟨t, a1, o, b1, b2, ⟨rr, τ', g1, ⟨g2, g3⟩, g4, g5⟩, L, g6, g7⟩ := hgo T hT X
  subst g2; subst g3
  refine ⟨t, a1, o, b1, b2, ⟨g1, by rw [← hF]; exact g4, by rw [← hA]; exact g5⟩, L, g6, by rw [← hA]; exact g7⟩
end ZR
