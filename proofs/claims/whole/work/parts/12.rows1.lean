/-! LAYER 1: the rows, an instruction each -/
section GROWS
variable {V : gV} {G : gG} {b : Nat} {d : gD} {own : String} {cc : ByteArray} {nL : Nat} {ret : Option FieldType} {α : Type} {K : α → (Option Value → gS → Prop) → Prop} {pc q : Nat} {lv lr : List (Nat × Value)} {st : List Value} {σ : gS} {X Y : Option α}
theorem g_iconst {n : Int} {v : Int32} (hd : decode cc pc = .ok (.iconst n, 1)) (hv : Int32.ofInt n = v) (hq : pc + 1 = q) (k : GF V G b d own cc nL ret K q lv (.int v :: st) σ X) : GF V G b d own cc nL ret K pc lv (st) σ X := by
  subst hq
  intro P a hx hK p l e s m args below meth c H locs ls hC hk hP hS hl
  exact lv_iconst hC.1 hC.2.1 hd hv (k P a hx hK p l e s m args below meth c H locs ls hC hk hP hS hl)
theorem g_bipush {n : Int} {v : Int32} (hd : decode cc pc = .ok (.bipush n, 2)) (hv : (Int8.ofInt n).toInt32 = v) (hq : pc + 2 = q) (k : GF V G b d own cc nL ret K q lv (.int v :: st) σ X) : GF V G b d own cc nL ret K pc lv (st) σ X := by
  subst hq
  intro P a hx hK p l e s m args below meth c H locs ls hC hk hP hS hl
  exact lv_bipush hC.1 hC.2.1 hd hv (k P a hx hK p l e s m args below meth c H locs ls hC hk hP hS hl)
theorem g_sipush {n : Int} {v : Int32} (hd : decode cc pc = .ok (.sipush n, 3)) (hv : (Int16.ofInt n).toInt32 = v) (hq : pc + 3 = q) (k : GF V G b d own cc nL ret K q lv (.int v :: st) σ X) : GF V G b d own cc nL ret K pc lv (st) σ X := by
  subst hq
  intro P a hx hK p l e s m args below meth c H locs ls hC hk hP hS hl
  exact lv_sipush hC.1 hC.2.1 hd hv (k P a hx hK p l e s m args below meth c H locs ls hC hk hP hS hl)
theorem g_lconst {n : Fin 2} {v : Int64} (hd : decode cc pc = .ok (.lconst n, 1)) (hv : Int64.ofNat (n : Nat) = v) (hq : pc + 1 = q) (k : GF V G b d own cc nL ret K q lv (.long v :: st) σ X) : GF V G b d own cc nL ret K pc lv (st) σ X := by
  subst hq
  intro P a hx hK p l e s m args below meth c H locs ls hC hk hP hS hl
  exact lv_lconst hC.1 hC.2.1 hd hv (k P a hx hK p l e s m args below meth c H locs ls hC hk hP hS hl)
theorem g_ldc {n : Nat} {v : Int32} (hd : decode cc pc = .ok (.ldc n, 2)) (hw : Cond.constant own n v ∈ gTBL) (hq : pc + 2 = q) (k : GF V G b d own cc nL ret K q lv (.int v :: st) σ X) : GF V G b d own cc nL ret K pc lv (st) σ X := by
  subst hq
  intro P a hx hK p l e s m args below meth c H locs ls hC hk hP hS hl
  exact lv_ldc hC.1 hC.2.1 hC.2.2.2.1 (hC.2.2.2.2.1 _ hw) hd (k P a hx hK p l e s m args below meth c H locs ls hC hk hP hS hl)
theorem g_ldcw {n : Nat} {v : Int32} (hd : decode cc pc = .ok (.ldc_w n, 3)) (hw : Cond.constant own n v ∈ gTBL) (hq : pc + 3 = q) (k : GF V G b d own cc nL ret K q lv (.int v :: st) σ X) : GF V G b d own cc nL ret K pc lv (st) σ X := by
  subst hq
  intro P a hx hK p l e s m args below meth c H locs ls hC hk hP hS hl
  exact lv_ldcw hC.1 hC.2.1 hC.2.2.2.1 (hC.2.2.2.2.1 _ hw) hd (k P a hx hK p l e s m args below meth c H locs ls hC hk hP hS hl)
theorem g_ldc2 {n : Nat} {v : Int64} (hd : decode cc pc = .ok (.ldc2_w n, 3)) (hw : Cond.constantLong own n v ∈ gTBL) (hq : pc + 3 = q) (k : GF V G b d own cc nL ret K q lv (.long v :: st) σ X) : GF V G b d own cc nL ret K pc lv (st) σ X := by
  subst hq
  intro P a hx hK p l e s m args below meth c H locs ls hC hk hP hS hl
  exact lv_ldc2 hC.1 hC.2.1 hC.2.2.2.1 (hC.2.2.2.2.1 _ hw) hd (k P a hx hK p l e s m args below meth c H locs ls hC hk hP hS hl)
theorem g_iload_n {k : Fin 4} {i : Nat} {x : Int32} (j : Nat) (hd : decode cc pc = .ok (.iload_n k, 1)) (hi : (k : Nat) = i) (hj : lv[j]? = some (i, .int x)) (hq : pc + 1 = q) (k : GF V G b d own cc nL ret K q lv (.int x :: st) σ X) : GF V G b d own cc nL ret K pc lv (st) σ X := by
  subst hq
  intro P a hx hK p l e s m args below meth c H locs ls hC hk hP hS hl
  exact lv_iload_n hC.1 hC.2.1 hd hi (lv_at hl j hj) (k P a hx hK p l e s m args below meth c H locs ls hC hk hP hS hl)
theorem g_iload {i : Nat} {x : Int32} (j : Nat) (hd : decode cc pc = .ok (.iload i, 2)) (hj : lv[j]? = some (i, .int x)) (hq : pc + 2 = q) (k : GF V G b d own cc nL ret K q lv (.int x :: st) σ X) : GF V G b d own cc nL ret K pc lv (st) σ X := by
  subst hq
  intro P a hx hK p l e s m args below meth c H locs ls hC hk hP hS hl
  exact lv_iload hC.1 hC.2.1 hd (lv_at hl j hj) (k P a hx hK p l e s m args below meth c H locs ls hC hk hP hS hl)
theorem g_lload_n {k : Fin 4} {i : Nat} {x : Int64} (j : Nat) (hd : decode cc pc = .ok (.lload_n k, 1)) (hi : (k : Nat) = i) (hj : lv[j]? = some (i, .long x)) (hq : pc + 1 = q) (k : GF V G b d own cc nL ret K q lv (.long x :: st) σ X) : GF V G b d own cc nL ret K pc lv (st) σ X := by
  subst hq
  intro P a hx hK p l e s m args below meth c H locs ls hC hk hP hS hl
  exact lv_lload_n hC.1 hC.2.1 hd hi (lv_at hl j hj) (k P a hx hK p l e s m args below meth c H locs ls hC hk hP hS hl)
theorem g_lload {i : Nat} {x : Int64} (j : Nat) (hd : decode cc pc = .ok (.lload i, 2)) (hj : lv[j]? = some (i, .long x)) (hq : pc + 2 = q) (k : GF V G b d own cc nL ret K q lv (.long x :: st) σ X) : GF V G b d own cc nL ret K pc lv (st) σ X := by
  subst hq
  intro P a hx hK p l e s m args below meth c H locs ls hC hk hP hS hl
  exact lv_lload hC.1 hC.2.1 hd (lv_at hl j hj) (k P a hx hK p l e s m args below meth c H locs ls hC hk hP hS hl)
theorem g_aload_n {k : Fin 4} {i : Nat} {x : Nat} (j : Nat) (hd : decode cc pc = .ok (.aload_n k, 1)) (hi : (k : Nat) = i) (hj : lv[j]? = some (i, .ref x)) (hq : pc + 1 = q) (k : GF V G b d own cc nL ret K q lv (.ref x :: st) σ X) : GF V G b d own cc nL ret K pc lv (st) σ X := by
  subst hq
  intro P a hx hK p l e s m args below meth c H locs ls hC hk hP hS hl
  exact lv_aload_n hC.1 hC.2.1 hd hi (lv_at hl j hj) (k P a hx hK p l e s m args below meth c H locs ls hC hk hP hS hl)
theorem g_aload {i : Nat} {x : Nat} (j : Nat) (hd : decode cc pc = .ok (.aload i, 2)) (hj : lv[j]? = some (i, .ref x)) (hq : pc + 2 = q) (k : GF V G b d own cc nL ret K q lv (.ref x :: st) σ X) : GF V G b d own cc nL ret K pc lv (st) σ X := by
  subst hq
  intro P a hx hK p l e s m args below meth c H locs ls hC hk hP hS hl
  exact lv_aload hC.1 hC.2.1 hd (lv_at hl j hj) (k P a hx hK p l e s m args below meth c H locs ls hC hk hP hS hl)
theorem g_istore_n {k : Fin 4} {i : Nat} {x : Int32} (hd : decode cc pc = .ok (.istore_n k, 1)) (hi : (k : Nat) = i) (hn : i < nL) (hr : lv.filter (fun q => !(q.1 == i) && !(q.1 + 1 == i && q.2.category == 2)) = lr) (hq : pc + 1 = q) (k : GF V G b d own cc nL ret K q ((i, .int x) :: lr) st σ X) : GF V G b d own cc nL ret K pc lv (.int x :: st) σ X := by
  subst hq; subst hr
  intro P a hx hK p l e s m args below meth c H locs ls hC hk hP hS hl
  exact lv_istore_n hC.1 hC.2.1 hd hi hl hn rfl (fun ls hl => k P a hx hK p l e s m args below meth c H locs ls hC hk hP hS hl)
theorem g_istore {i : Nat} {x : Int32} (hd : decode cc pc = .ok (.istore i, 2)) (hn : i < nL) (hr : lv.filter (fun q => !(q.1 == i) && !(q.1 + 1 == i && q.2.category == 2)) = lr) (hq : pc + 2 = q) (k : GF V G b d own cc nL ret K q ((i, .int x) :: lr) st σ X) : GF V G b d own cc nL ret K pc lv (.int x :: st) σ X := by
  subst hq; subst hr
  intro P a hx hK p l e s m args below meth c H locs ls hC hk hP hS hl
  exact lv_istore hC.1 hC.2.1 hd hl hn rfl (fun ls hl => k P a hx hK p l e s m args below meth c H locs ls hC hk hP hS hl)
theorem g_lstore_n {k : Fin 4} {i : Nat} {x : Int64} (hd : decode cc pc = .ok (.lstore_n k, 1)) (hi : (k : Nat) = i) (hn : i + 1 < nL) (hr : lv.filter (fun q => !(q.1 == i) && (!(q.1 == i + 1) && !(q.1 + 1 == i && q.2.category == 2))) = lr) (hq : pc + 1 = q) (k : GF V G b d own cc nL ret K q ((i, .long x) :: lr) st σ X) : GF V G b d own cc nL ret K pc lv (.long x :: st) σ X := by
  subst hq; subst hr
  intro P a hx hK p l e s m args below meth c H locs ls hC hk hP hS hl
  exact lv_lstore_n hC.1 hC.2.1 hd hi hl hn rfl (fun ls hl => k P a hx hK p l e s m args below meth c H locs ls hC hk hP hS hl)
theorem g_lstore {i : Nat} {x : Int64} (hd : decode cc pc = .ok (.lstore i, 2)) (hn : i + 1 < nL) (hr : lv.filter (fun q => !(q.1 == i) && (!(q.1 == i + 1) && !(q.1 + 1 == i && q.2.category == 2))) = lr) (hq : pc + 2 = q) (k : GF V G b d own cc nL ret K q ((i, .long x) :: lr) st σ X) : GF V G b d own cc nL ret K pc lv (.long x :: st) σ X := by
  subst hq; subst hr
  intro P a hx hK p l e s m args below meth c H locs ls hC hk hP hS hl
  exact lv_lstore hC.1 hC.2.1 hd hl hn rfl (fun ls hl => k P a hx hK p l e s m args below meth c H locs ls hC hk hP hS hl)
theorem g_astore_n {k : Fin 4} {i : Nat} {x : Nat} (hd : decode cc pc = .ok (.astore_n k, 1)) (hi : (k : Nat) = i) (hn : i < nL) (hr : lv.filter (fun q => !(q.1 == i) && !(q.1 + 1 == i && q.2.category == 2)) = lr) (hq : pc + 1 = q) (k : GF V G b d own cc nL ret K q ((i, .ref x) :: lr) st σ X) : GF V G b d own cc nL ret K pc lv (.ref x :: st) σ X := by
  subst hq; subst hr
  intro P a hx hK p l e s m args below meth c H locs ls hC hk hP hS hl
  exact lv_astore_n hC.1 hC.2.1 hd hi hl hn rfl (fun ls hl => k P a hx hK p l e s m args below meth c H locs ls hC hk hP hS hl)
theorem g_astore {i : Nat} {x : Nat} (hd : decode cc pc = .ok (.astore i, 2)) (hn : i < nL) (hr : lv.filter (fun q => !(q.1 == i) && !(q.1 + 1 == i && q.2.category == 2)) = lr) (hq : pc + 2 = q) (k : GF V G b d own cc nL ret K q ((i, .ref x) :: lr) st σ X) : GF V G b d own cc nL ret K pc lv (.ref x :: st) σ X := by
  subst hq; subst hr
  intro P a hx hK p l e s m args below meth c H locs ls hC hk hP hS hl
  exact lv_astore hC.1 hC.2.1 hd hl hn rfl (fun ls hl => k P a hx hK p l e s m args below meth c H locs ls hC hk hP hS hl)
theorem g_iinc {i : Nat} {n : Int} {x v : Int32} (j : Nat) {f : Int32 → Option α} (hd : decode cc pc = .ok (.iinc i n, 3)) (hj : lv[j]? = some (i, .int x)) (hv : Int32.ofInt n = v) (hn : i < nL) (hr : lv.filter (fun q => !(q.1 == i) && !(q.1 + 1 == i && q.2.category == 2)) = lr) (hq : pc + 3 = q) (k : ∀ y : Int32, GF V G b d own cc nL ret K q ((i, .int y) :: lr) st σ (f y)) : GF V G b d own cc nL ret K pc lv st σ (lt' (x + v) f) := by
  subst hq; subst hr; subst hv
  intro P a hx hK p l e s m args below meth c H locs ls hC hk hP hS hl
  exact lv_iinc hC.1 hC.2.1 hd hl hj rfl hn rfl (fun ls hl => k _ P a hx hK p l e s m args below meth c H locs ls hC hk hP hS hl)
theorem g_iadd {x y : Int32} (hd : decode cc pc = .ok (.iadd, 1))  (hq : pc + 1 = q) (k : GF V G b d own cc nL ret K q lv (.int (x + y) :: st) σ X) : GF V G b d own cc nL ret K pc lv (.int y :: .int x :: st) σ X := by
  subst hq
  intro P a hx hK p l e s m args below meth c H locs ls hC hk hP hS hl
  exact lv_iadd hC.1 hC.2.1 hd (k P a hx hK p l e s m args below meth c H locs ls hC hk hP hS hl)
theorem g_ladd {x y : Int64} (hd : decode cc pc = .ok (.ladd, 1))  (hq : pc + 1 = q) (k : GF V G b d own cc nL ret K q lv (.long (x + y) :: st) σ X) : GF V G b d own cc nL ret K pc lv (.long y :: .long x :: st) σ X := by
  subst hq
  intro P a hx hK p l e s m args below meth c H locs ls hC hk hP hS hl
  exact lv_ladd hC.1 hC.2.1 hd (k P a hx hK p l e s m args below meth c H locs ls hC hk hP hS hl)
theorem g_isub {x y : Int32} (hd : decode cc pc = .ok (.isub, 1))  (hq : pc + 1 = q) (k : GF V G b d own cc nL ret K q lv (.int (x - y) :: st) σ X) : GF V G b d own cc nL ret K pc lv (.int y :: .int x :: st) σ X := by
  subst hq
  intro P a hx hK p l e s m args below meth c H locs ls hC hk hP hS hl
  exact lv_isub hC.1 hC.2.1 hd (k P a hx hK p l e s m args below meth c H locs ls hC hk hP hS hl)
theorem g_lsub {x y : Int64} (hd : decode cc pc = .ok (.lsub, 1))  (hq : pc + 1 = q) (k : GF V G b d own cc nL ret K q lv (.long (x - y) :: st) σ X) : GF V G b d own cc nL ret K pc lv (.long y :: .long x :: st) σ X := by
  subst hq
  intro P a hx hK p l e s m args below meth c H locs ls hC hk hP hS hl
  exact lv_lsub hC.1 hC.2.1 hd (k P a hx hK p l e s m args below meth c H locs ls hC hk hP hS hl)
theorem g_imul {x y : Int32} (hd : decode cc pc = .ok (.imul, 1))  (hq : pc + 1 = q) (k : GF V G b d own cc nL ret K q lv (.int (x * y) :: st) σ X) : GF V G b d own cc nL ret K pc lv (.int y :: .int x :: st) σ X := by
  subst hq
  intro P a hx hK p l e s m args below meth c H locs ls hC hk hP hS hl
  exact lv_imul hC.1 hC.2.1 hd (k P a hx hK p l e s m args below meth c H locs ls hC hk hP hS hl)
theorem g_lmul {x y : Int64} (hd : decode cc pc = .ok (.lmul, 1))  (hq : pc + 1 = q) (k : GF V G b d own cc nL ret K q lv (.long (x * y) :: st) σ X) : GF V G b d own cc nL ret K pc lv (.long y :: .long x :: st) σ X := by
  subst hq
  intro P a hx hK p l e s m args below meth c H locs ls hC hk hP hS hl
  exact lv_lmul hC.1 hC.2.1 hd (k P a hx hK p l e s m args below meth c H locs ls hC hk hP hS hl)
theorem g_iand {x y : Int32} (hd : decode cc pc = .ok (.iand, 1))  (hq : pc + 1 = q) (k : GF V G b d own cc nL ret K q lv (.int (x &&& y) :: st) σ X) : GF V G b d own cc nL ret K pc lv (.int y :: .int x :: st) σ X := by
  subst hq
  intro P a hx hK p l e s m args below meth c H locs ls hC hk hP hS hl
  exact lv_iand hC.1 hC.2.1 hd (k P a hx hK p l e s m args below meth c H locs ls hC hk hP hS hl)
theorem g_land {x y : Int64} (hd : decode cc pc = .ok (.land, 1))  (hq : pc + 1 = q) (k : GF V G b d own cc nL ret K q lv (.long (x &&& y) :: st) σ X) : GF V G b d own cc nL ret K pc lv (.long y :: .long x :: st) σ X := by
  subst hq
  intro P a hx hK p l e s m args below meth c H locs ls hC hk hP hS hl
  exact lv_land hC.1 hC.2.1 hd (k P a hx hK p l e s m args below meth c H locs ls hC hk hP hS hl)
theorem g_ior {x y : Int32} (hd : decode cc pc = .ok (.ior, 1))  (hq : pc + 1 = q) (k : GF V G b d own cc nL ret K q lv (.int (x ||| y) :: st) σ X) : GF V G b d own cc nL ret K pc lv (.int y :: .int x :: st) σ X := by
  subst hq
  intro P a hx hK p l e s m args below meth c H locs ls hC hk hP hS hl
  exact lv_ior hC.1 hC.2.1 hd (k P a hx hK p l e s m args below meth c H locs ls hC hk hP hS hl)
theorem g_lor {x y : Int64} (hd : decode cc pc = .ok (.lor, 1))  (hq : pc + 1 = q) (k : GF V G b d own cc nL ret K q lv (.long (x ||| y) :: st) σ X) : GF V G b d own cc nL ret K pc lv (.long y :: .long x :: st) σ X := by
  subst hq
  intro P a hx hK p l e s m args below meth c H locs ls hC hk hP hS hl
  exact lv_lor hC.1 hC.2.1 hd (k P a hx hK p l e s m args below meth c H locs ls hC hk hP hS hl)
theorem g_ixor {x y : Int32} (hd : decode cc pc = .ok (.ixor, 1))  (hq : pc + 1 = q) (k : GF V G b d own cc nL ret K q lv (.int (x ^^^ y) :: st) σ X) : GF V G b d own cc nL ret K pc lv (.int y :: .int x :: st) σ X := by
  subst hq
  intro P a hx hK p l e s m args below meth c H locs ls hC hk hP hS hl
  exact lv_ixor hC.1 hC.2.1 hd (k P a hx hK p l e s m args below meth c H locs ls hC hk hP hS hl)
theorem g_lxor {x y : Int64} (hd : decode cc pc = .ok (.lxor, 1))  (hq : pc + 1 = q) (k : GF V G b d own cc nL ret K q lv (.long (x ^^^ y) :: st) σ X) : GF V G b d own cc nL ret K pc lv (.long y :: .long x :: st) σ X := by
  subst hq
  intro P a hx hK p l e s m args below meth c H locs ls hC hk hP hS hl
  exact lv_lxor hC.1 hC.2.1 hd (k P a hx hK p l e s m args below meth c H locs ls hC hk hP hS hl)
theorem g_ishl {x y : Int32} (hd : decode cc pc = .ok (.ishl, 1))  (hq : pc + 1 = q) (k : GF V G b d own cc nL ret K q lv (.int (x <<< (y &&& 31)) :: st) σ X) : GF V G b d own cc nL ret K pc lv (.int y :: .int x :: st) σ X := by
  subst hq
  intro P a hx hK p l e s m args below meth c H locs ls hC hk hP hS hl
  exact lv_ishl hC.1 hC.2.1 hd (k P a hx hK p l e s m args below meth c H locs ls hC hk hP hS hl)
theorem g_ishr {x y : Int32} (hd : decode cc pc = .ok (.ishr, 1))  (hq : pc + 1 = q) (k : GF V G b d own cc nL ret K q lv (.int (x >>> (y &&& 31)) :: st) σ X) : GF V G b d own cc nL ret K pc lv (.int y :: .int x :: st) σ X := by
  subst hq
  intro P a hx hK p l e s m args below meth c H locs ls hC hk hP hS hl
  exact lv_ishr hC.1 hC.2.1 hd (k P a hx hK p l e s m args below meth c H locs ls hC hk hP hS hl)
def ushrI (x y : Int32) : Int32 := (x.toUInt32 >>> (y.toUInt32 &&& Int32.toUInt32 31)).toInt32
def ushrL (x : Int64) (y : Int32) : Int64 := (x.toUInt64 >>> (y.toInt64.toUInt64 &&& Int64.toUInt64 63)).toInt64
def shlL (x : Int64) (y : Int32) : Int64 := x <<< (y.toInt64 &&& 63)
theorem g_iushr {x y : Int32} (hd : decode cc pc = .ok (.iushr, 1))  (hq : pc + 1 = q) (k : GF V G b d own cc nL ret K q lv (.int (ushrI x y) :: st) σ X) : GF V G b d own cc nL ret K pc lv (.int y :: .int x :: st) σ X := by
  subst hq
  intro P a hx hK p l e s m args below meth c H locs ls hC hk hP hS hl
  exact lv_iushr hC.1 hC.2.1 hd rfl (k P a hx hK p l e s m args below meth c H locs ls hC hk hP hS hl)
theorem g_lushr {x : Int64} {y : Int32} (hd : decode cc pc = .ok (.lushr, 1))  (hq : pc + 1 = q) (k : GF V G b d own cc nL ret K q lv (.long (ushrL x y) :: st) σ X) : GF V G b d own cc nL ret K pc lv (.int y :: .long x :: st) σ X := by
  subst hq
  intro P a hx hK p l e s m args below meth c H locs ls hC hk hP hS hl
  exact lv_lushr hC.1 hC.2.1 hd rfl (k P a hx hK p l e s m args below meth c H locs ls hC hk hP hS hl)
theorem g_lshl {x : Int64} {y : Int32} (hd : decode cc pc = .ok (.lshl, 1))  (hq : pc + 1 = q) (k : GF V G b d own cc nL ret K q lv (.long (shlL x y) :: st) σ X) : GF V G b d own cc nL ret K pc lv (.int y :: .long x :: st) σ X := by
  subst hq
  intro P a hx hK p l e s m args below meth c H locs ls hC hk hP hS hl
  exact lv_lshl hC.1 hC.2.1 hd rfl (k P a hx hK p l e s m args below meth c H locs ls hC hk hP hS hl)
theorem g_ineg {x : Int32} (hd : decode cc pc = .ok (.ineg, 1))  (hq : pc + 1 = q) (k : GF V G b d own cc nL ret K q lv (.int (-x) :: st) σ X) : GF V G b d own cc nL ret K pc lv (.int x :: st) σ X := by
  subst hq
  intro P a hx hK p l e s m args below meth c H locs ls hC hk hP hS hl
  exact lv_ineg hC.1 hC.2.1 hd (k P a hx hK p l e s m args below meth c H locs ls hC hk hP hS hl)
theorem g_i2l {x : Int32} (hd : decode cc pc = .ok (.i2l, 1))  (hq : pc + 1 = q) (k : GF V G b d own cc nL ret K q lv (.long x.toInt64 :: st) σ X) : GF V G b d own cc nL ret K pc lv (.int x :: st) σ X := by
  subst hq
  intro P a hx hK p l e s m args below meth c H locs ls hC hk hP hS hl
  exact lv_i2l hC.1 hC.2.1 hd rfl (k P a hx hK p l e s m args below meth c H locs ls hC hk hP hS hl)
theorem g_l2i {x : Int64} (hd : decode cc pc = .ok (.l2i, 1))  (hq : pc + 1 = q) (k : GF V G b d own cc nL ret K q lv (.int x.toInt32 :: st) σ X) : GF V G b d own cc nL ret K pc lv (.long x :: st) σ X := by
  subst hq
  intro P a hx hK p l e s m args below meth c H locs ls hC hk hP hS hl
  exact lv_l2i hC.1 hC.2.1 hd rfl (k P a hx hK p l e s m args below meth c H locs ls hC hk hP hS hl)
theorem g_i2b {x : Int32} (hd : decode cc pc = .ok (.i2b, 1))  (hq : pc + 1 = q) (k : GF V G b d own cc nL ret K q lv (.int x.toInt8.toInt32 :: st) σ X) : GF V G b d own cc nL ret K pc lv (.int x :: st) σ X := by
  subst hq
  intro P a hx hK p l e s m args below meth c H locs ls hC hk hP hS hl
  exact lv_i2b hC.1 hC.2.1 hd rfl (k P a hx hK p l e s m args below meth c H locs ls hC hk hP hS hl)
theorem g_dup {v : Value} (hd : decode cc pc = .ok (.dup, 1)) (hv : v.category = 1) (hq : pc + 1 = q) (k : GF V G b d own cc nL ret K q lv (v :: v :: st) σ X) : GF V G b d own cc nL ret K pc lv (v :: st) σ X := by
  subst hq
  intro P a hx hK p l e s m args below meth c H locs ls hC hk hP hS hl
  exact lv_dup hC.1 hC.2.1 hd hv (k P a hx hK p l e s m args below meth c H locs ls hC hk hP hS hl)
theorem g_pop {v : Value} (hd : decode cc pc = .ok (.pop, 1)) (hv : v.category = 1) (hq : pc + 1 = q) (k : GF V G b d own cc nL ret K q lv (st) σ X) : GF V G b d own cc nL ret K pc lv (v :: st) σ X := by
  subst hq
  intro P a hx hK p l e s m args below meth c H locs ls hC hk hP hS hl
  exact lv_pop hC.1 hC.2.1 hd hv (k P a hx hK p l e s m args below meth c H locs ls hC hk hP hS hl)
theorem g_dup2 {u v : Value} (hd : decode cc pc = .ok (.dup2, 1)) (hu : u.category = 1) (hv : v.category = 1) (hq : pc + 1 = q) (k : GF V G b d own cc nL ret K q lv (u :: v :: u :: v :: st) σ X) : GF V G b d own cc nL ret K pc lv (u :: v :: st) σ X := by
  subst hq
  intro P a hx hK p l e s m args below meth c H locs ls hC hk hP hS hl
  exact lv_dup2_11 hC.1 hC.2.1 hd hu hv (k P a hx hK p l e s m args below meth c H locs ls hC hk hP hS hl)
theorem g_lcmp {x y : Int64} (hd : decode cc pc = .ok (.lcmp, 1))  (hq : pc + 1 = q) (k : GF V G b d own cc nL ret K q lv (.int (lg_cmp x y) :: st) σ X) : GF V G b d own cc nL ret K pc lv (.long y :: .long x :: st) σ X := by
  subst hq
  intro P a hx hK p l e s m args below meth c H locs ls hC hk hP hS hl
  exact W.lcmp hC.1 hC.2.1 hd (k P a hx hK p l e s m args below meth c H locs ls hC hk hP hS hl)
theorem g_idiv {x y : Int32} (hd : decode cc pc = .ok (.idiv, 1)) (hq : pc + 1 = q) (k : GF V G b d own cc nL ret K q lv (.int (x / y) :: st) σ X) : GF V G b d own cc nL ret K pc lv (.int y :: .int x :: st) σ (g0 y X) := by
  subst hq
  intro P a hx hK p l e s m args below meth c H locs ls hC hk hP hS hl
  have hne : ¬ y = 0 := fun h => by rw [g0, if_pos h] at hx; cases hx
  rw [g0, if_neg hne] at hx
  exact lv_idiv hC.1 hC.2.1 hd hne (k P a hx hK p l e s m args below meth c H locs ls hC hk hP hS hl)
theorem g_irem {x y : Int32} (hd : decode cc pc = .ok (.irem, 1)) (hq : pc + 1 = q) (k : GF V G b d own cc nL ret K q lv (.int (x - x / y * y) :: st) σ X) : GF V G b d own cc nL ret K pc lv (.int y :: .int x :: st) σ (g0 y X) := by
  subst hq
  intro P a hx hK p l e s m args below meth c H locs ls hC hk hP hS hl
  have hne : ¬ y = 0 := fun h => by rw [g0, if_pos h] at hx; cases hx
  rw [g0, if_neg hne] at hx
  exact lv_irem hC.1 hC.2.1 hd hne (k P a hx hK p l e s m args below meth c H locs ls hC hk hP hS hl)
theorem g_ldiv {x y : Int64} (hd : decode cc pc = .ok (.ldiv, 1)) (hq : pc + 1 = q) (k : GF V G b d own cc nL ret K q lv (.long (x / y) :: st) σ X) : GF V G b d own cc nL ret K pc lv (.long y :: .long x :: st) σ (g0L y X) := by
  subst hq
  intro P a hx hK p l e s m args below meth c H locs ls hC hk hP hS hl
  have hne : ¬ y = 0 := fun h => by rw [g0L, if_pos h] at hx; cases hx
  rw [g0L, if_neg hne] at hx
  exact lv_ldiv hC.1 hC.2.1 hd hne (k P a hx hK p l e s m args below meth c H locs ls hC hk hP hS hl)
theorem g_lrem {x y : Int64} (hd : decode cc pc = .ok (.lrem, 1)) (hq : pc + 1 = q) (k : GF V G b d own cc nL ret K q lv (.long (x - x / y * y) :: st) σ X) : GF V G b d own cc nL ret K pc lv (.long y :: .long x :: st) σ (g0L y X) := by
  subst hq
  intro P a hx hK p l e s m args below meth c H locs ls hC hk hP hS hl
  have hne : ¬ y = 0 := fun h => by rw [g0L, if_pos h] at hx; cases hx
  rw [g0L, if_neg hne] at hx
  exact lv_lrem hC.1 hC.2.1 hd hne (k P a hx hK p l e s m args below meth c H locs ls hC hk hP hS hl)
theorem g_icmp_eq {x y : Int32} {off : Int} {t : Nat} (hd : decode cc pc = .ok (.if_icmp .eq off, 3)) (ht : (pc : Int) + off = (t : Int)) (hq : pc + 3 = q) (kt : GF V G b d own cc nL ret K t lv st σ X) (kf : GF V G b d own cc nL ret K q lv st σ Y) : GF V G b d own cc nL ret K pc lv (.int y :: .int x :: st) σ (if x = y then X else Y) := by
  subst hq
  intro P a hx hK p l e s m args below meth c H locs ls hC hk hP hS hl
  exact lv_icmp_eq hC.1 hC.2.1 hd ht (fun z => kt P a (by rw [if_pos z] at hx; exact hx) hK p l e s m args below meth c H locs ls hC hk hP hS hl) (fun z => kf P a (by rw [if_neg z] at hx; exact hx) hK p l e s m args below meth c H locs ls hC hk hP hS hl)
theorem g_if_eq {x : Int32} {off : Int} {t : Nat} (hd : decode cc pc = .ok (.ifCond .eq off, 3)) (ht : (pc : Int) + off = (t : Int)) (hq : pc + 3 = q) (kt : GF V G b d own cc nL ret K t lv st σ X) (kf : GF V G b d own cc nL ret K q lv st σ Y) : GF V G b d own cc nL ret K pc lv (.int x :: st) σ (if x = 0 then X else Y) := by
  subst hq
  intro P a hx hK p l e s m args below meth c H locs ls hC hk hP hS hl
  exact lv_if_eq hC.1 hC.2.1 hd ht (fun z => kt P a (by rw [if_pos z] at hx; exact hx) hK p l e s m args below meth c H locs ls hC hk hP hS hl) (fun z => kf P a (by rw [if_neg z] at hx; exact hx) hK p l e s m args below meth c H locs ls hC hk hP hS hl)
theorem g_icmp_ne {x y : Int32} {off : Int} {t : Nat} (hd : decode cc pc = .ok (.if_icmp .ne off, 3)) (ht : (pc : Int) + off = (t : Int)) (hq : pc + 3 = q) (kf : GF V G b d own cc nL ret K q lv st σ X) (kt : GF V G b d own cc nL ret K t lv st σ Y) : GF V G b d own cc nL ret K pc lv (.int y :: .int x :: st) σ (if x = y then X else Y) := by
  subst hq
  intro P a hx hK p l e s m args below meth c H locs ls hC hk hP hS hl
  exact lv_icmp_ne hC.1 hC.2.1 hd ht (fun z => kt P a (by rw [if_neg z] at hx; exact hx) hK p l e s m args below meth c H locs ls hC hk hP hS hl) (fun z => kf P a (by rw [if_pos z] at hx; exact hx) hK p l e s m args below meth c H locs ls hC hk hP hS hl)
theorem g_if_ne {x : Int32} {off : Int} {t : Nat} (hd : decode cc pc = .ok (.ifCond .ne off, 3)) (ht : (pc : Int) + off = (t : Int)) (hq : pc + 3 = q) (kf : GF V G b d own cc nL ret K q lv st σ X) (kt : GF V G b d own cc nL ret K t lv st σ Y) : GF V G b d own cc nL ret K pc lv (.int x :: st) σ (if x = 0 then X else Y) := by
  subst hq
  intro P a hx hK p l e s m args below meth c H locs ls hC hk hP hS hl
  exact lv_if_ne hC.1 hC.2.1 hd ht (fun z => kt P a (by rw [if_neg z] at hx; exact hx) hK p l e s m args below meth c H locs ls hC hk hP hS hl) (fun z => kf P a (by rw [if_pos z] at hx; exact hx) hK p l e s m args below meth c H locs ls hC hk hP hS hl)
theorem g_icmp_lt {x y : Int32} {off : Int} {t : Nat} (hd : decode cc pc = .ok (.if_icmp .lt off, 3)) (ht : (pc : Int) + off = (t : Int)) (hq : pc + 3 = q) (kt : GF V G b d own cc nL ret K t lv st σ X) (kf : GF V G b d own cc nL ret K q lv st σ Y) : GF V G b d own cc nL ret K pc lv (.int y :: .int x :: st) σ (if x < y then X else Y) := by
  subst hq
  intro P a hx hK p l e s m args below meth c H locs ls hC hk hP hS hl
  exact lv_icmp_lt hC.1 hC.2.1 hd ht (fun z => kt P a (by rw [if_pos z] at hx; exact hx) hK p l e s m args below meth c H locs ls hC hk hP hS hl) (fun z => kf P a (by rw [if_neg z] at hx; exact hx) hK p l e s m args below meth c H locs ls hC hk hP hS hl)
theorem g_if_lt {x : Int32} {off : Int} {t : Nat} (hd : decode cc pc = .ok (.ifCond .lt off, 3)) (ht : (pc : Int) + off = (t : Int)) (hq : pc + 3 = q) (kt : GF V G b d own cc nL ret K t lv st σ X) (kf : GF V G b d own cc nL ret K q lv st σ Y) : GF V G b d own cc nL ret K pc lv (.int x :: st) σ (if x < 0 then X else Y) := by
  subst hq
  intro P a hx hK p l e s m args below meth c H locs ls hC hk hP hS hl
  exact lv_if_lt hC.1 hC.2.1 hd ht (fun z => kt P a (by rw [if_pos z] at hx; exact hx) hK p l e s m args below meth c H locs ls hC hk hP hS hl) (fun z => kf P a (by rw [if_neg z] at hx; exact hx) hK p l e s m args below meth c H locs ls hC hk hP hS hl)
theorem g_icmp_ge {x y : Int32} {off : Int} {t : Nat} (hd : decode cc pc = .ok (.if_icmp .ge off, 3)) (ht : (pc : Int) + off = (t : Int)) (hq : pc + 3 = q) (kt : GF V G b d own cc nL ret K t lv st σ X) (kf : GF V G b d own cc nL ret K q lv st σ Y) : GF V G b d own cc nL ret K pc lv (.int y :: .int x :: st) σ (if y ≤ x then X else Y) := by
  subst hq
  intro P a hx hK p l e s m args below meth c H locs ls hC hk hP hS hl
  exact lv_icmp_ge hC.1 hC.2.1 hd ht (fun z => kt P a (by rw [if_pos z] at hx; exact hx) hK p l e s m args below meth c H locs ls hC hk hP hS hl) (fun z => kf P a (by rw [if_neg z] at hx; exact hx) hK p l e s m args below meth c H locs ls hC hk hP hS hl)
theorem g_if_ge {x : Int32} {off : Int} {t : Nat} (hd : decode cc pc = .ok (.ifCond .ge off, 3)) (ht : (pc : Int) + off = (t : Int)) (hq : pc + 3 = q) (kt : GF V G b d own cc nL ret K t lv st σ X) (kf : GF V G b d own cc nL ret K q lv st σ Y) : GF V G b d own cc nL ret K pc lv (.int x :: st) σ (if 0 ≤ x then X else Y) := by
  subst hq
  intro P a hx hK p l e s m args below meth c H locs ls hC hk hP hS hl
  exact lv_if_ge hC.1 hC.2.1 hd ht (fun z => kt P a (by rw [if_pos z] at hx; exact hx) hK p l e s m args below meth c H locs ls hC hk hP hS hl) (fun z => kf P a (by rw [if_neg z] at hx; exact hx) hK p l e s m args below meth c H locs ls hC hk hP hS hl)
theorem g_icmp_gt {x y : Int32} {off : Int} {t : Nat} (hd : decode cc pc = .ok (.if_icmp .gt off, 3)) (ht : (pc : Int) + off = (t : Int)) (hq : pc + 3 = q) (kt : GF V G b d own cc nL ret K t lv st σ X) (kf : GF V G b d own cc nL ret K q lv st σ Y) : GF V G b d own cc nL ret K pc lv (.int y :: .int x :: st) σ (if y < x then X else Y) := by
  subst hq
  intro P a hx hK p l e s m args below meth c H locs ls hC hk hP hS hl
  exact lv_icmp_gt hC.1 hC.2.1 hd ht (fun z => kt P a (by rw [if_pos z] at hx; exact hx) hK p l e s m args below meth c H locs ls hC hk hP hS hl) (fun z => kf P a (by rw [if_neg z] at hx; exact hx) hK p l e s m args below meth c H locs ls hC hk hP hS hl)
theorem g_if_gt {x : Int32} {off : Int} {t : Nat} (hd : decode cc pc = .ok (.ifCond .gt off, 3)) (ht : (pc : Int) + off = (t : Int)) (hq : pc + 3 = q) (kt : GF V G b d own cc nL ret K t lv st σ X) (kf : GF V G b d own cc nL ret K q lv st σ Y) : GF V G b d own cc nL ret K pc lv (.int x :: st) σ (if 0 < x then X else Y) := by
  subst hq
  intro P a hx hK p l e s m args below meth c H locs ls hC hk hP hS hl
  exact lv_if_gt hC.1 hC.2.1 hd ht (fun z => kt P a (by rw [if_pos z] at hx; exact hx) hK p l e s m args below meth c H locs ls hC hk hP hS hl) (fun z => kf P a (by rw [if_neg z] at hx; exact hx) hK p l e s m args below meth c H locs ls hC hk hP hS hl)
theorem g_icmp_le {x y : Int32} {off : Int} {t : Nat} (hd : decode cc pc = .ok (.if_icmp .le off, 3)) (ht : (pc : Int) + off = (t : Int)) (hq : pc + 3 = q) (kt : GF V G b d own cc nL ret K t lv st σ X) (kf : GF V G b d own cc nL ret K q lv st σ Y) : GF V G b d own cc nL ret K pc lv (.int y :: .int x :: st) σ (if x ≤ y then X else Y) := by
  subst hq
  intro P a hx hK p l e s m args below meth c H locs ls hC hk hP hS hl
  exact lv_icmp_le hC.1 hC.2.1 hd ht (fun z => kt P a (by rw [if_pos z] at hx; exact hx) hK p l e s m args below meth c H locs ls hC hk hP hS hl) (fun z => kf P a (by rw [if_neg z] at hx; exact hx) hK p l e s m args below meth c H locs ls hC hk hP hS hl)
theorem g_if_le {x : Int32} {off : Int} {t : Nat} (hd : decode cc pc = .ok (.ifCond .le off, 3)) (ht : (pc : Int) + off = (t : Int)) (hq : pc + 3 = q) (kt : GF V G b d own cc nL ret K t lv st σ X) (kf : GF V G b d own cc nL ret K q lv st σ Y) : GF V G b d own cc nL ret K pc lv (.int x :: st) σ (if x ≤ 0 then X else Y) := by
  subst hq
  intro P a hx hK p l e s m args below meth c H locs ls hC hk hP hS hl
  exact lv_if_le hC.1 hC.2.1 hd ht (fun z => kt P a (by rw [if_pos z] at hx; exact hx) hK p l e s m args below meth c H locs ls hC hk hP hS hl) (fun z => kf P a (by rw [if_neg z] at hx; exact hx) hK p l e s m args below meth c H locs ls hC hk hP hS hl)
theorem g_goto {off : Int} {t : Nat} (hd : decode cc pc = .ok (.goto off, 3)) (ht : (pc : Int) + off = (t : Int)) (k : GF V G b d own cc nL ret K t lv st σ X) : GF V G b d own cc nL ret K pc lv st σ X := by
  intro P a hx hK p l e s m args below meth c H locs ls hC hk hP hS hl
  exact lv_goto hC.1 hC.2.1 hd ht (k P a hx hK p l e s m args below meth c H locs ls hC hk hP hS hl)
theorem g_case {dflt lo hi : Int} {offs : Array Int} {len : Nat} {x : Int32} (v : Int32) {off : Int} {t : Nat} (hd : decode cc pc = .ok (.tableswitch dflt lo hi offs, len)) (hr : ¬ v.toInt < lo ∧ ¬ hi < v.toInt ∧ offs[(v.toInt - lo).toNat]? = some off) (ht : (pc : Int) + off = (t : Int)) (kt : GF V G b d own cc nL ret K t lv st σ X) (kf : ¬ x = v → GF V G b d own cc nL ret K pc lv (.int x :: st) σ Y) : GF V G b d own cc nL ret K pc lv (.int x :: st) σ (if x = v then X else Y) := by
  intro P a hx hK p l e s m args below meth c H locs ls hC hk hP hS hl
  by_cases z : x = v
  · subst z
    exact lv_tableIn hC.1 hC.2.1 hd hr.1 hr.2.1 hr.2.2 ht (kt P a (by rw [if_pos rfl] at hx; exact hx) hK p l e s m args below meth c H locs ls hC hk hP hS hl)
  · exact kf z P a (by rw [if_neg z] at hx; exact hx) hK p l e s m args below meth c H locs ls hC hk hP hS hl
theorem g_dflt {dflt lo hi : Int} {offs : Array Int} {len : Nat} {x : Int32} (ks : List Int32) {t : Nat} (hd : decode cc pc = .ok (.tableswitch dflt lo hi offs, len)) (hr : (List.range (hi - lo + 1).toNat).all (fun i => decide (offs[i]? = some dflt) || ks.any (fun v => decide (v.toInt = lo + i))) = true) (hne : ∀ v ∈ ks, ¬ x = v) (ht : (pc : Int) + dflt = (t : Int)) (k : GF V G b d own cc nL ret K t lv st σ X) : GF V G b d own cc nL ret K pc lv (.int x :: st) σ X := by
  intro P a hx hK p l e s m args below meth c H locs ls hC hk hP hS hl
  by_cases h1 : x.toInt < lo
  · exact lv_tableOut hC.1 hC.2.1 hd (Or.inl h1) ht (k P a hx hK p l e s m args below meth c H locs ls hC hk hP hS hl)
  · by_cases h2 : hi < x.toInt
    · exact lv_tableOut hC.1 hC.2.1 hd (Or.inr h2) ht (k P a hx hK p l e s m args below meth c H locs ls hC hk hP hS hl)
    · have h3 := List.all_eq_true.mp hr (x.toInt - lo).toNat (List.mem_range.mpr (by omega))
      rcases Bool.or_eq_true _ _ |>.mp h3 with h4 | h4
      · exact lv_tableIn hC.1 hC.2.1 hd h1 h2 (of_decide_eq_true h4) ht (k P a hx hK p l e s m args below meth c H locs ls hC hk hP hS hl)
      · obtain ⟨v, hv, h5⟩ := List.any_eq_true.mp h4
        have h6 : v.toInt = x.toInt := by have := of_decide_eq_true h5; omega
        exact absurd (Int32.toInt_inj.mp h6).symm (hne v hv)
theorem g_leti {x : Int32} {f : Int32 → Option α} (k : ∀ y : Int32, GF V G b d own cc nL ret K pc lv (.int y :: st) σ (f y)) : GF V G b d own cc nL ret K pc lv (.int x :: st) σ (lt' x f) := k x
theorem g_letl {x : Int64} {f : Int64 → Option α} (k : ∀ y : Int64, GF V G b d own cc nL ret K pc lv (.long y :: st) σ (f y)) : GF V G b d own cc nL ret K pc lv (.long x :: st) σ (lt' x f) := k x
theorem g_sub (ks : List Nat) (hr : lv_pick lv ks = lr) (k : GF V G b d own cc nL ret K pc lr st σ X) : GF V G b d own cc nL ret K pc lv st σ X := by
  subst hr
  intro P a hx hK p l e s m args below meth c H locs ls hC hk hP hS hl
  exact k P a hx hK p l e s m args below meth c H locs ls hC hk hP hS (lv_sub hl ks rfl)
end GROWS
