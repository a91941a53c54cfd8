/-! LAYER 1: answers, calls, loops -/
section GRET
variable {V : gV} {G : gG} {b : Nat} {d : gD} {own : String} {cc : ByteArray} {nL : Nat} {pc q : Nat} {lv lr : List (Nat × Value)} {σ : gS}
theorem gret_Q {P : Option Value → gS → Prop} {r : Option Value} {s t : State} {H : Heap} {locs : List Loc} {args : Array Value} (hp : P r σ) (hP : va_P G.1 vwCl (gws V G b σ) H) (hS : va_S (gA V b) s.heap H locs) (ht : t.heap = H) : gQ V G b P args s (.returned r) t :=
  ⟨r, σ, rfl, hp, by rw [ht]; exact hP, hS.F ht⟩
theorem g_iret {v : Int32} (hd : decode cc pc = .ok (.ireturn, 1)) : GF V G b d own cc nL (some .int) kI pc lv [.int v] σ (some (v, σ)) := by
  intro P a hx hK p l e s m args below meth c H locs ls hC hk hP hS hl
  cases hx
  exact W.iret hC.1 hC.2.1 hC.2.2.2.2.2.1 (fun t ht hW => gret_Q hK hP hS ht) hS.2.2 hd hC.2.2.2.2.2.2
theorem g_iretP {v : Int32} (hd : decode cc pc = .ok (.ireturn, 1)) : GF V G b d own cc nL (some .int) (kPI σ) pc lv [.int v] σ (some v) := by
  intro P a hx hK p l e s m args below meth c H locs ls hC hk hP hS hl
  cases hx
  exact W.iret hC.1 hC.2.1 hC.2.2.2.2.2.1 (fun t ht hW => gret_Q hK hP hS ht) hS.2.2 hd hC.2.2.2.2.2.2
theorem g_lret {v : Int64} (hd : decode cc pc = .ok (.lreturn, 1)) : GF V G b d own cc nL (some .long) kL pc lv [.long v] σ (some (v, σ)) := by
  intro P a hx hK p l e s m args below meth c H locs ls hC hk hP hS hl
  cases hx
  exact W.lret hC.1 hC.2.1 hC.2.2.2.2.2.1 (fun t ht hW => gret_Q hK hP hS ht) hS.2.2 hd hC.2.2.2.2.2.2
theorem g_lretP {v : Int64} (hd : decode cc pc = .ok (.lreturn, 1)) : GF V G b d own cc nL (some .long) (kPL σ) pc lv [.long v] σ (some v) := by
  intro P a hx hK p l e s m args below meth c H locs ls hC hk hP hS hl
  cases hx
  exact W.lret hC.1 hC.2.1 hC.2.2.2.2.2.1 (fun t ht hW => gret_Q hK hP hS ht) hS.2.2 hd hC.2.2.2.2.2.2
theorem g_vret (hd : decode cc pc = .ok (.return_, 1)) : GF V G b d own cc nL none kV pc lv [] σ (some σ) := by
  intro P a hx hK p l e s m args below meth c H locs ls hC hk hP hS hl
  cases hx
  exact W.vret hC.1 hC.2.1 hC.2.2.2.2.2.1 (fun t ht hW => gret_Q hK hP hS ht) hS.2.2 hd hC.2.2.2.2.2.2
theorem g_aret {v : Nat} {C : String} (hd : decode cc pc = .ok (.areturn, 1)) : GF V G b d own cc nL (some (.object C)) (kA b) pc lv [.ref (b + v)] σ (some (v, σ)) := by
  intro P a hx hK p l e s m args below meth c H locs ls hC hk hP hS hl
  cases hx
  exact W.aret hC.1 hC.2.1 hC.2.2.2.2.2.1 (Or.inl ⟨_, rfl⟩) (Or.inr ⟨_, rfl⟩) (fun t ht hW => gret_Q hK hP hS ht) hS.2.2 hd hC.2.2.2.2.2.2
/-- the answer of a method that says yes or no is its lowest bit -/
theorem W.bret {p : Program} {l : Launch} {e : Env} {R : Room} {s : State} {m : MethodId} {args : Array Value} {below : List Frame} {meth : Method} {c : Code} {H : Heap} {locs : List Loc} {cells slots : Nat} {Qc : Array Value → State → Outcome → State → Prop} {free : Addr → Prop} {v : Int32} (hexec : p.tables.exec = Jvm.exec) (hb : c.code = cc) (hr : meth.sig.returnType = some .boolean)
    (hq : ∀ t : State, t.heap = H → s.WarmedH t.vm → Qc args s (.returned (some (.int (v &&& 1)))) t) (hf : ∀ q ∈ locs, free q.base)
    {ls : Array Slot} (hdg : decode cc pc = .ok (.ireturn, 1)) (hlocks : meth.locks = false) : W p l e R s m args below meth c H locs cells slots (MQ below Qc args s cells slots free) (F0 m pc ls [.int v]) := by
  intro T hT X
  have hn : narrow .boolean (.int v) = .int (v &&& 1) := rfl
  obtain ⟨fs, hret, hrun, hended, hW, hframe⟩ := X.leave (v := some (.int (v &&& 1))) (hlocks := hlocks) (fun h => by rw [hr] at h; cases h)
  have hmeth' : T.vm.method? m = some meth := X.method'
  refine ⟨T.setFrames fs, ?_, .returned (some (.int (v &&& 1))), hrun, hended, hq _ hT hW, locs, ⟨⟨_, rfl⟩, hW, hframe⟩, hf⟩
  jvm_step X.here [X.here.top, hexec, hb, hdg, hmeth', hr, hn]
  (try refine ⟨rfl, ?_⟩); (try refine ⟨rfl, ?_⟩)
  first | (intro acts; rw [hret _ acts rfl rfl rfl]) | rw [hret _ _ rfl rfl rfl]
  exact Steps.refl _
theorem g_bret {v : Int32} (hd : decode cc pc = .ok (.ireturn, 1)) : GF V G b d own cc nL (some .boolean) kI pc lv [.int v] σ (some (v &&& 1, σ)) := by
  intro P a hx hK p l e s m args below meth c H locs ls hC hk hP hS hl
  cases hx
  exact W.bret hC.1 hC.2.1 hC.2.2.2.2.2.1 (fun t ht hW => gret_Q hK hP hS ht) hS.2.2 hd hC.2.2.2.2.2.2
theorem g_bretP {v : Int32} (hd : decode cc pc = .ok (.ireturn, 1)) : GF V G b d own cc nL (some .boolean) (kPI σ) pc lv [.int v] σ (some (v &&& 1)) := by
  intro P a hx hK p l e s m args below meth c H locs ls hC hk hP hS hl
  cases hx
  exact W.bret hC.1 hC.2.1 hC.2.2.2.2.2.1 (fun t ht hW => gret_Q hK hP hS ht) hS.2.2 hd hC.2.2.2.2.2.2
theorem g_bret0 (hd : decode cc pc = .ok (.ireturn, 1)) : GF V G b d own cc nL (some .boolean) kI pc lv [.int 0] σ (some (0, σ)) := g_bret (v := 0) hd
theorem g_bret1 (hd : decode cc pc = .ok (.ireturn, 1)) : GF V G b d own cc nL (some .boolean) kI pc lv [.int 1] σ (some (1, σ)) := g_bret (v := 1) hd
theorem g_bretP0 (hd : decode cc pc = .ok (.ireturn, 1)) : GF V G b d own cc nL (some .boolean) (kPI σ) pc lv [.int 0] σ (some 0) := g_bretP (v := 0) hd
theorem g_bretP1 (hd : decode cc pc = .ok (.ireturn, 1)) : GF V G b d own cc nL (some .boolean) (kPI σ) pc lv [.int 1] σ (some 1) := g_bretP (v := 1) hd
end GRET
/-- the words of a call: by an object, by none, to another class of the nest -/
def cwO (own : String) (index : Nat) (y : MethodName) (cc : ByteArray) (nL : Nat) (ret : Option FieldType) (n : Nat) : Prop :=
  (Cond.methodLink own index y ∈ gTBL ∧ Cond.instanceMethod y ∈ gTBL ∧ Cond.selects y.cls y y ∈ gTBL ∧ Cond.initialized y.cls ∈ gTBL ∧ Cond.code y cc nL ret ∈ gTBL) ∧ y.cls ≠ "java/lang/invoke/MethodHandle" ∧ y.cls ≠ "java/lang/invoke/VarHandle" ∧ (parseMethodDescriptor y.desc).map (fun d => d.parameters.length) = some n
def cwT (own : String) (index : Nat) (y : MethodName) (cc : ByteArray) (nL : Nat) (ret : Option FieldType) (n : Nat) : Prop :=
  (Cond.methodLink own index y ∈ gTBL ∧ Cond.static y ∈ gTBL ∧ Cond.initialized y.cls ∈ gTBL ∧ Cond.code y cc nL ret ∈ gTBL) ∧ y.cls ≠ "java/lang/invoke/MethodHandle" ∧ y.cls ≠ "java/lang/invoke/VarHandle" ∧ (parseMethodDescriptor y.desc).map (fun d => d.parameters.length) = some n
def cwN (own : String) (index : Nat) (y : MethodName) (host : String) (cc : ByteArray) (nL : Nat) (ret : Option FieldType) (n : Nat) : Prop :=
  (Cond.methodLinkNest own index y host ∈ gNest ∧ Cond.static y ∈ gTBL ∧ Cond.initialized y.cls ∈ gTBL ∧ Cond.code y cc nL ret ∈ gTBL) ∧ y.cls ≠ "java/lang/invoke/MethodHandle" ∧ y.cls ≠ "java/lang/invoke/VarHandle" ∧ (parseMethodDescriptor y.desc).map (fun d => d.parameters.length) = some n
section GCALL
variable {V : gV} {G : gG} {b d' : Nat} {d : gD} {own : String} {cc cc' : ByteArray} {nL nL' : Nat} {ret ret' : Option FieldType} {α β : Type} {K : α → (Option Value → gS → Prop) → Prop} {K' : β → (Option Value → gS → Prop) → Prop} {pc q : Nat} {lv : List (Nat × Value)} {st0 st : List Value} {σ : gS} {y : MethodName} {index n : Nat} {As : List Value} {z : Option β}
theorem gsel {w : Cond} {x : Cond} (h : w ∈ gTBL) : w ∈ x :: gTBL := List.mem_cons_of_mem _ h
theorem gGood {x : Cond} {c : Cond} (h : c ∈ gTBL) : GoodIn (x :: gTBL) (c :: gTBL) := gTBL_GoodIn (fun w hw => (List.mem_cons.mp hw).elim (fun e => e ▸ h) id)
theorem gBlind {av : List Value} : FrameBlind (fun v U => v = av.toArray ∧ gK G b U U.heap ∧ va_P G.1 vwCl (gws V G b σ) U.heap) := by
  intro a U g mk h
  exact ⟨h.1, gK_blind (u := U) rfl rfl h.2.1, h.2.2⟩
theorem va_callg {p : Program} {l : Launch} {e : Env} {s : State} {m : MethodId} {args : Array Value} {below : List Frame} {meth : Method} {c : Code} {H : Heap} {locs : List Loc} {Q : State → Prop} {P' : Option Value → gS → Prop} {a : Array Value} {ls : Array Slot}
    (hr : va_Run p l e (gR d) s m args below meth c H locs d.2.1 d.2.2 0 0 (F0 m pc ls st0) st (gQ V G b P' a) (gA V b)) (hS : va_S (gA V b) s.heap H locs)
    (kk : ∀ (r : Option Value) (τ : gS) (H1 : Heap) (locs1 : List Loc), P' r τ → va_P G.1 vwCl (gws V G b τ) H1 → va_S (gA V b) s.heap H1 locs1 → W p l e (gR d) s m args below meth c H1 locs1 d.2.1 d.2.2 Q (F0 m (pc + 3) ls (r.toList ++ st))) : W p l e (gR d) s m args below meth c H locs d.2.1 d.2.2 Q (F0 m pc ls st0) := by
  intro T hT X
  obtain ⟨v, st₀, t, T', L, h0, X', hL, e1, e2, ⟨r, τ, hv, hp, hP1, hz, hk⟩, hgo⟩ := hr T hT X
  cases hv
  rw [h0] at hz hk
  obtain ⟨t2, a1, b1⟩ := kk v τ T'.heap (locs ++ L) hp (by rw [e1]; exact hP1)
    ⟨Nat.le_trans hS.1 (by rw [e1]; exact hz), fun q h1 h2 => by rw [e1, hk q (Nat.lt_of_lt_of_le h1 hS.1) h2]; exact hS.2.1 q h1 h2, fun q hq => by
      rcases List.mem_append.mp hq with h | h
      · exact hS.2.2 q h
      · exact hL q h⟩ T' rfl X'
  exact ⟨t2, hgo t2 a1, b1⟩
/-- a call by an object of the world -/
theorem g_callO {o ci : Nat} {C : String} {T : u_T} {N : Nat} {fs : Nat → (Nat → Int32) → (Nat → Int64) → (Nat → Nat) → List Value} (hc : CN V G b d' y cc' nL' ret' K' (.ref (b + o) :: As) σ z) (hsh : shO V o ci C T N fs) (hC0 : C = y.cls) (cw : cwO own index y cc' nL' ret' n) (hn : As.length = n) (hd : decode cc pc = .ok (.invokevirtual index, 3)) (hst : st0 = As.reverse ++ .ref (b + o) :: st) (hW : (st.map fun v => v.category).sum ≤ 8) (hR : d' + 1 ≤ d.1 ∧ nL' ≤ 41)
    {x : Option α} (kk : ∀ (P : Option Value → gS → Prop) (a : α), x = some a → K a P → ∃ c : β, z = some c ∧ ∃ P' : Option Value → gS → Prop, K' c P' ∧ ∀ (r : Option Value) (τ : gS), P' r τ → Go V G b d own cc nL ret P (pc + 3) lv (r.toList ++ st) τ) : GF V G b d own cc nL ret K pc lv st0 σ x := by
  intro P a hx hK p l e s m args below meth c H locs ls hC hk hP hS hl
  obtain ⟨c0, hz, P', hK', kk⟩ := kk P a hx hK
  subst hC0
  obtain ⟨⟨w1, w2, w3, w4, w5⟩, w6, w7, w8⟩ := cw
  have hM := hc l P' c0 hz hK'
  have hts : ∀ w ∈ Cond.tt :: gTBL, w.before args s = true := fun w hw => (List.mem_cons.mp hw).elim (fun e => by rw [e]; rfl) (hC.2.2.2.2.1 w)
  have hcw : CallW (gR d) s args own y.cls index y cc' nL' ret' (Cond.code y cc' nL' ret' :: gTBL) (gR (d', 0, 0)) 0 0 n :=
    ⟨callB_of n hts (gGood w5) rfl rfl rfl (hC.2.2.2.2.1 _ w4) (hC.2.2.2.2.1 _ w1) ⟨w6, w7, w8⟩ ⟨hR.1, by show 8 + (nL' + 11) + 60 * d' ≤ 60 * d.1; omega⟩, hC.2.2.2.2.1 _ w2, hC.2.2.2.2.1 _ w3⟩
  subst hst
  refine va_callg (va_runV (As := As) (rest := st) ⟨hC.1, hC.2.1, hC.2.2.1, hC.2.2.2.1, hts⟩ hM hcw ⟨gBlind, va_recv hk.1 hP hsh.2.1 (sh_at hsh), fun U hU hWm => ⟨rfl, gK_enter hk (fun _ h => gA_le h) hS hU hWm, by rw [hU]; exact hP⟩⟩ rfl hn hl.1 rfl (by show 2 * 0 + _ ≤ 8; omega) hd ⟨Nat.le_refl _, Nat.le_refl _⟩) hS ?_
  intro r τ H1 locs1 hp hP1 hS1
  exact kk r τ hp p l e s m args below meth c H1 locs1 ls hC hk hP1 hS1 hl
/-- a call by no object -/
theorem g_callT (hc : CN V G b d' y cc' nL' ret' K' As σ z) (cw : cwT own index y cc' nL' ret' n) (hn : As.length = n) (hd : decode cc pc = .ok (.invokestatic index, 3)) (hst : st0 = As.reverse ++ st) (hW : (st.map fun v => v.category).sum ≤ 8) (hR : d' + 1 ≤ d.1 ∧ nL' ≤ 41)
    {x : Option α} (kk : ∀ (P : Option Value → gS → Prop) (a : α), x = some a → K a P → ∃ c : β, z = some c ∧ ∃ P' : Option Value → gS → Prop, K' c P' ∧ ∀ (r : Option Value) (τ : gS), P' r τ → Go V G b d own cc nL ret P (pc + 3) lv (r.toList ++ st) τ) : GF V G b d own cc nL ret K pc lv st0 σ x := by
  intro P a hx hK p l e s m args below meth c H locs ls hC hk hP hS hl
  obtain ⟨c0, hz, P', hK', kk⟩ := kk P a hx hK
  obtain ⟨⟨w1, w2, w4, w5⟩, w6, w7, w8⟩ := cw
  have hM := hc l P' c0 hz hK'
  have hts : ∀ w ∈ Cond.tt :: gTBL, w.before args s = true := fun w hw => (List.mem_cons.mp hw).elim (fun e => by rw [e]; rfl) (hC.2.2.2.2.1 w)
  have hcw : CallB (gR d) s args own index y cc' nL' ret' (Cond.code y cc' nL' ret' :: gTBL) (gR (d', 0, 0)) 0 0 n ∧ (Cond.static y).before args s = true :=
    ⟨callB_of n hts (gGood w5) rfl rfl rfl (hC.2.2.2.2.1 _ w4) (hC.2.2.2.2.1 _ w1) ⟨w6, w7, w8⟩ ⟨hR.1, by show 8 + (nL' + 11) + 60 * d' ≤ 60 * d.1; omega⟩, hC.2.2.2.2.1 _ w2⟩
  subst hst
  refine va_callg (va_runS (As := As) (rest := st) ⟨hC.1, hC.2.1, hC.2.2.1, hC.2.2.2.1, hts⟩ hM hcw ⟨gBlind, fun U hU hWm => ⟨rfl, gK_enter hk (fun _ h => gA_le h) hS hU hWm, by rw [hU]; exact hP⟩⟩ rfl hn hl.1 rfl (by show 2 * 0 + _ ≤ 8; omega) hd ⟨Nat.le_refl _, Nat.le_refl _⟩) hS ?_
  intro r τ H1 locs1 hp hP1 hS1
  exact kk r τ hp p l e s m args below meth c H1 locs1 ls hC hk hP1 hS1 hl
/-- a call by no object, to another class of the nest -/
theorem g_callN {host : String} (hc : CN V G b d' y cc' nL' ret' K' As σ z) (cw : cwN own index y host cc' nL' ret' n) (hn : As.length = n) (hd : decode cc pc = .ok (.invokestatic index, 3)) (hst : st0 = As.reverse ++ st) (hW : (st.map fun v => v.category).sum ≤ 8) (hR : d' + 1 ≤ d.1 ∧ nL' ≤ 41)
    {x : Option α} (kk : ∀ (P : Option Value → gS → Prop) (a : α), x = some a → K a P → ∃ c : β, z = some c ∧ ∃ P' : Option Value → gS → Prop, K' c P' ∧ ∀ (r : Option Value) (τ : gS), P' r τ → Go V G b d own cc nL ret P (pc + 3) lv (r.toList ++ st) τ) : GF V G b d own cc nL ret K pc lv st0 σ x := by
  intro P a hx hK p l e s m args below meth c H locs ls hC hk hP hS hl
  obtain ⟨c0, hz, P', hK', kk⟩ := kk P a hx hK
  obtain ⟨⟨w1, w2, w4, w5⟩, w6, w7, w8⟩ := cw
  have hM := hc l P' c0 hz hK'
  have hts : ∀ w ∈ Cond.tt :: gTBL, w.before args s = true := fun w hw => (List.mem_cons.mp hw).elim (fun e => by rw [e]; rfl) (hC.2.2.2.2.1 w)
  have hcw : va_CN (gR d) s args own index y host cc' nL' ret' (Cond.code y cc' nL' ret' :: gTBL) (gR (d', 0, 0)) 0 0 n ∧ (Cond.static y).before args s = true ∧ True :=
    ⟨va_cnB n hts (gGood w5) rfl rfl rfl (hk.2.1 _ w1) (hC.2.2.2.2.1 _ w4) ⟨w6, w7, w8⟩ ⟨hR.1, by show 8 + (nL' + 11) + 60 * d' ≤ 60 * d.1; omega⟩, hC.2.2.2.2.1 _ w2, trivial⟩
  subst hst
  refine va_callg (va_runSN (As := As) (rest := st) ⟨hC.1, hC.2.1, hC.2.2.1, hC.2.2.2.1, hts⟩ hM hcw ⟨gBlind, fun U hU hWm => ⟨rfl, gK_enter hk (fun _ h => gA_le h) hS hU hWm, by rw [hU]; exact hP⟩⟩ rfl hn hl.1 rfl (by show 2 * 0 + _ ≤ 8; omega) hd ⟨Nat.le_refl _, Nat.le_refl _⟩) hS ?_
  intro r τ H1 locs1 hp hP1 hS1
  exact kk r τ hp p l e s m args below meth c H1 locs1 ls hC hk hP1 hS1 hl
end GCALL
/-! what comes behind a call, by the kind of its answer -/
section GK
variable {V : gV} {G : gG} {b : Nat} {d : gD} {own : String} {cc : ByteArray} {nL : Nat} {ret : Option FieldType} {α : Type} {K : α → (Option Value → gS → Prop) → Prop} {pc : Nat} {lv : List (Nat × Value)} {st : List Value} {σ : gS}
theorem bn2_some {β γ δ : Type} {x : Option (β × γ)} {f : β → γ → Option δ} {a : δ} (h : bn2 x f = some a) : ∃ r τ, x = some (r, τ) ∧ f r τ = some a := by
  cases x with
  | none => cases h
  | some p => exact ⟨p.1, p.2, rfl, h⟩
theorem bn1_some {β δ : Type} {x : Option β} {f : β → Option δ} {a : δ} (h : bn1 x f = some a) : ∃ r, x = some r ∧ f r = some a := by
  cases x with
  | none => cases h
  | some p => exact ⟨p, rfl, h⟩
theorem kk_I {z : Option (Int32 × gS)} {f : Int32 → gS → Option α} (k : ∀ (r : Int32) (τ : gS), GF V G b d own cc nL ret K pc lv (.int r :: st) τ (f r τ)) : ∀ (P : Option Value → gS → Prop) (a : α), bn2 z f = some a → K a P → ∃ c : Int32 × gS, z = some c ∧ ∃ P' : Option Value → gS → Prop, kI c P' ∧ ∀ (r : Option Value) (τ : gS), P' r τ → Go V G b d own cc nL ret P pc lv (r.toList ++ st) τ := by
  intro P a h hK
  obtain ⟨r, τ, hz, hf⟩ := bn2_some h
  exact ⟨(r, τ), hz, fun v t => v = some (.int r) ∧ t = τ, ⟨rfl, rfl⟩, fun v t h => by obtain ⟨rfl, rfl⟩ := h; exact k r t P a hf hK⟩
theorem kk_L {z : Option (Int64 × gS)} {f : Int64 → gS → Option α} (k : ∀ (r : Int64) (τ : gS), GF V G b d own cc nL ret K pc lv (.long r :: st) τ (f r τ)) : ∀ (P : Option Value → gS → Prop) (a : α), bn2 z f = some a → K a P → ∃ c : Int64 × gS, z = some c ∧ ∃ P' : Option Value → gS → Prop, kL c P' ∧ ∀ (r : Option Value) (τ : gS), P' r τ → Go V G b d own cc nL ret P pc lv (r.toList ++ st) τ := by
  intro P a h hK
  obtain ⟨r, τ, hz, hf⟩ := bn2_some h
  exact ⟨(r, τ), hz, fun v t => v = some (.long r) ∧ t = τ, ⟨rfl, rfl⟩, fun v t h => by obtain ⟨rfl, rfl⟩ := h; exact k r t P a hf hK⟩
theorem kk_A {z : Option (Nat × gS)} {f : Nat → gS → Option α} (k : ∀ (r : Nat) (τ : gS), GF V G b d own cc nL ret K pc lv (.ref (b + r) :: st) τ (f r τ)) : ∀ (P : Option Value → gS → Prop) (a : α), bn2 z f = some a → K a P → ∃ c : Nat × gS, z = some c ∧ ∃ P' : Option Value → gS → Prop, kA b c P' ∧ ∀ (r : Option Value) (τ : gS), P' r τ → Go V G b d own cc nL ret P pc lv (r.toList ++ st) τ := by
  intro P a h hK
  obtain ⟨r, τ, hz, hf⟩ := bn2_some h
  exact ⟨(r, τ), hz, fun v t => v = some (.ref (b + r)) ∧ t = τ, ⟨rfl, rfl⟩, fun v t h => by obtain ⟨rfl, rfl⟩ := h; exact k r t P a hf hK⟩
theorem kk_V {z : Option gS} {f : gS → Option α} (k : ∀ (τ : gS), GF V G b d own cc nL ret K pc lv st τ (f τ)) : ∀ (P : Option Value → gS → Prop) (a : α), bn1 z f = some a → K a P → ∃ c : gS, z = some c ∧ ∃ P' : Option Value → gS → Prop, kV c P' ∧ ∀ (r : Option Value) (τ : gS), P' r τ → Go V G b d own cc nL ret P pc lv (r.toList ++ st) τ := by
  intro P a h hK
  obtain ⟨τ, hz, hf⟩ := bn1_some h
  exact ⟨τ, hz, fun v t => v = none ∧ t = τ, ⟨rfl, rfl⟩, fun v t h => by obtain ⟨rfl, rfl⟩ := h; exact k t P a hf hK⟩
theorem kk_PI {z : Option Int32} {f : Int32 → Option α} (k : ∀ (r : Int32), GF V G b d own cc nL ret K pc lv (.int r :: st) σ (f r)) : ∀ (P : Option Value → gS → Prop) (a : α), bn1 z f = some a → K a P → ∃ c : Int32, z = some c ∧ ∃ P' : Option Value → gS → Prop, kPI σ c P' ∧ ∀ (r : Option Value) (τ : gS), P' r τ → Go V G b d own cc nL ret P pc lv (r.toList ++ st) τ := by
  intro P a h hK
  obtain ⟨r, hz, hf⟩ := bn1_some h
  exact ⟨r, hz, fun v t => v = some (.int r) ∧ t = σ, ⟨rfl, rfl⟩, fun v t h => by obtain ⟨rfl, rfl⟩ := h; exact k r P a hf hK⟩
theorem kk_PL {z : Option Int64} {f : Int64 → Option α} (k : ∀ (r : Int64), GF V G b d own cc nL ret K pc lv (.long r :: st) σ (f r)) : ∀ (P : Option Value → gS → Prop) (a : α), bn1 z f = some a → K a P → ∃ c : Int64, z = some c ∧ ∃ P' : Option Value → gS → Prop, kPL σ c P' ∧ ∀ (r : Option Value) (τ : gS), P' r τ → Go V G b d own cc nL ret P pc lv (r.toList ++ st) τ := by
  intro P a h hK
  obtain ⟨r, hz, hf⟩ := bn1_some h
  exact ⟨r, hz, fun v t => v = some (.long r) ∧ t = σ, ⟨rfl, rfl⟩, fun v t h => by obtain ⟨rfl, rfl⟩ := h; exact k r P a hf hK⟩
/-- an answer that is always there -/
theorem kk_TI {v : Int32} {x : Option α} (k : GF V G b d own cc nL ret K pc lv (.int v :: st) σ x) : ∀ (P : Option Value → gS → Prop) (a : α), x = some a → K a P → ∃ c : Int32, some v = some c ∧ ∃ P' : Option Value → gS → Prop, kPI σ c P' ∧ ∀ (r : Option Value) (τ : gS), P' r τ → Go V G b d own cc nL ret P pc lv (r.toList ++ st) τ := by
  intro P a h hK
  exact ⟨v, rfl, fun u t => u = some (.int v) ∧ t = σ, ⟨rfl, rfl⟩, fun u t hu => by obtain ⟨rfl, rfl⟩ := hu; exact k P a h hK⟩
theorem kk_TL {v : Int64} {x : Option α} (k : GF V G b d own cc nL ret K pc lv (.long v :: st) σ x) : ∀ (P : Option Value → gS → Prop) (a : α), x = some a → K a P → ∃ c : Int64, some v = some c ∧ ∃ P' : Option Value → gS → Prop, kPL σ c P' ∧ ∀ (r : Option Value) (τ : gS), P' r τ → Go V G b d own cc nL ret P pc lv (r.toList ++ st) τ := by
  intro P a h hK
  exact ⟨v, rfl, fun u t => u = some (.long v) ∧ t = σ, ⟨rfl, rfl⟩, fun u t hu => by obtain ⟨rfl, rfl⟩ := hu; exact k P a h hK⟩
/-- loops: the body comes to the head again, or leaves -/
def kLp (V : gV) (G : gG) (b : Nat) (d : gD) (own : String) (cc : ByteArray) (nL : Nat) (ret : Option FieldType) {S R : Type} (hd : Nat) (lvf : S → List (Nat × Value)) (σf : S → gS) (K : R → (Option Value → gS → Prop) → Prop) : S ⊕ R → (Option Value → gS → Prop) → Prop := fun a P => match a with
  | .inl s => Go V G b d own cc nL ret P hd (lvf s) [] (σf s)
  | .inr r => K r P
theorem g_loop {S R : Type} {hd : Nat} {lvf : S → List (Nat × Value)} {σf : S → gS} {K : R → (Option Value → gS → Prop) → Prop} {f : S → Option (S ⊕ R)} (h : ∀ s : S, GF V G b d own cc nL ret (kLp V G b d own cc nL ret hd lvf σf K) hd (lvf s) [] (σf s) (f s)) (s : S) : GF V G b d own cc nL ret K hd (lvf s) [] (σf s) (lpP f s) := by
  intro P r hx hK
  obtain ⟨n, hn⟩ := lpP_ex hx
  clear hx
  induction n generalizing s with
  | zero => cases hn
  | succ n ih =>
    rw [itr] at hn
    cases hf : f s with
    | none => rw [hf] at hn; cases hn
    | some x =>
      rw [hf] at hn
      cases x with
      | inl t => exact h s P (.inl t) hf (ih t hn)
      | inr qq => cases hn; exact h s P _ hf hK
theorem g_again {S R : Type} {hd : Nat} {lvf : S → List (Nat × Value)} {σf : S → gS} {K : R → (Option Value → gS → Prop) → Prop} (s : S) : GF V G b d own cc nL ret (kLp V G b d own cc nL ret hd lvf σf K) hd (lvf s) [] (σf s) (some (.inl s)) := by
  intro P a hx hK
  cases hx
  exact hK
/-- what leaves a loop -/
def lv1 {S R : Type} (x : Option R) : Option (S ⊕ R) := match x with
  | none => none
  | some r => some (.inr r)
theorem g_leave {S R : Type} {hd : Nat} {lvf : S → List (Nat × Value)} {σf : S → gS} {K : R → (Option Value → gS → Prop) → Prop} {x : Option R} (k : GF V G b d own cc nL ret K pc lv st σ x) : GF V G b d own cc nL ret (kLp V G b d own cc nL ret hd lvf σf K) pc lv st σ (lv1 x) := by
  intro P a hx hK
  cases x with
  | none => cases hx
  | some r => cases hx; exact k P r rfl hK
/-- a place that several ways come to: what goes on from there is said once -/
def kAt (V : gV) (G : gG) (b : Nat) (d : gD) (own : String) (cc : ByteArray) (nL : Nat) (ret : Option FieldType) {S : Type} (hd : Nat) (lvf : S → List (Nat × Value)) (stf : S → List Value) (σf : S → gS) : S → (Option Value → gS → Prop) → Prop := fun s P => Go V G b d own cc nL ret P hd (lvf s) (stf s) (σf s)
theorem g_bind {S : Type} {hd : Nat} {lvf : S → List (Nat × Value)} {stf : S → List Value} {σf : S → gS} {x : Option S} {f : S → Option α} (k1 : GF V G b d own cc nL ret (kAt V G b d own cc nL ret hd lvf stf σf) pc lv st σ x) (k2 : ∀ s : S, GF V G b d own cc nL ret K hd (lvf s) (stf s) (σf s) (f s)) : GF V G b d own cc nL ret K pc lv st σ (bn1 x f) := by
  intro P a hx hK
  obtain ⟨s, hs, hf⟩ := bn1_some hx
  exact k1 P s hs (k2 s P a hf hK)
theorem g_there {S : Type} {hd : Nat} {lvf : S → List (Nat × Value)} {stf : S → List Value} {σf : S → gS} (s : S) : GF V G b d own cc nL ret (kAt V G b d own cc nL ret hd lvf stf σf) hd (lvf s) (stf s) (σf s) (some s) := by
  intro P a hx hK
  cases hx
  exact hK
end GK
/-! what may come to a place, or go elsewhere -/
def bnS {S R : Type} (x : Option (S ⊕ R)) (f : S → Option R) : Option R := match x with
  | none => none
  | some (.inl s) => f s
  | some (.inr r) => some r
def kOr {S R : Type} (K1 : S → (Option Value → gS → Prop) → Prop) (K2 : R → (Option Value → gS → Prop) → Prop) : S ⊕ R → (Option Value → gS → Prop) → Prop := fun a P => match a with
  | .inl s => K1 s P
  | .inr r => K2 r P
section GB
variable {V : gV} {G : gG} {b : Nat} {d : gD} {own : String} {cc : ByteArray} {nL : Nat} {ret : Option FieldType} {α : Type} {K : α → (Option Value → gS → Prop) → Prop} {pc q : Nat} {lv : List (Nat × Value)} {st : List Value} {σ : gS}
theorem g_bindS {S : Type} {hd : Nat} {lvf : S → List (Nat × Value)} {stf : S → List Value} {σf : S → gS} {x : Option (S ⊕ α)} {f : S → Option α} (k1 : GF V G b d own cc nL ret (kOr (kAt V G b d own cc nL ret hd lvf stf σf) K) pc lv st σ x) (k2 : ∀ s : S, GF V G b d own cc nL ret K hd (lvf s) (stf s) (σf s) (f s)) : GF V G b d own cc nL ret K pc lv st σ (bnS x f) := by
  intro P a hx hK
  cases x with
  | none => cases hx
  | some y =>
    cases y with
    | inl s => exact k1 P (.inl s) rfl (k2 s P a hx hK)
    | inr r => cases hx; exact k1 P (.inr a) rfl hK
theorem g_thereS {S : Type} {hd : Nat} {lvf : S → List (Nat × Value)} {stf : S → List Value} {σf : S → gS} (s : S) : GF V G b d own cc nL ret (kOr (kAt V G b d own cc nL ret hd lvf stf σf) K) hd (lvf s) (stf s) (σf s) (some (.inl s)) := by
  intro P a hx hK
  cases hx
  exact hK
theorem g_right {S : Type} {K1 : S → (Option Value → gS → Prop) → Prop} {x : Option α} (k : GF V G b d own cc nL ret K pc lv st σ x) : GF V G b d own cc nL ret (kOr K1 K) pc lv st σ (lv1 x) := by
  intro P a hx hK
  cases x with
  | none => cases hx
  | some r => cases hx; exact k P r rfl hK
/-- the sizes of traits -/
theorem g_ts {index : Nat} {host : String} (hd : decode cc pc = .ok (.getstatic index, 3)) (hw : Cond.fieldLinkNest own index "SkyTrial" "TRAIT_SIZES" "[I" host ∈ gNest) (hq : pc + 3 = q) {X : Option α} (k : GF V G b d own cc nL ret K q lv (.ref G.2.2.1 :: st) σ X) : GF V G b d own cc nL ret K pc lv st σ X := by
  subst hq
  intro P a hx hK p l e s m args below meth c H locs ls hC hk hP hS hl
  have hA : ∀ q, gA V b q → b ≤ q := fun _ h => h.1
  exact va_getsN hC.1 hC.2.1 (va_Z.narrow hk.2.2.1 hA) hS hC.2.2.2.1 (hk.2.1 _ hw) (fun _ h9 => h9) hd (k P a hx hK p l e s m args below meth c H locs ls hC hk hP hS hl)
theorem g_tald {i : Int32} (hd : decode cc pc = .ok (.iaload, 1)) (hq : pc + 1 = q) {X : Option α} (k : GF V G b d own cc nL ret K q lv (.int (gTS i.toNatClampNeg) :: st) σ X) : GF V G b d own cc nL ret K pc lv (.int i :: .ref G.2.2.1 :: st) σ (gx i 12 X) := by
  subst hq
  intro P a hx hK p l e s m args below meth c H locs ls hC hk hP hS hl
  obtain ⟨hin, hx⟩ := gx_in hx
  have hA : ∀ q, gA V b q → b ≤ q := fun _ h => h.1
  exact va_ti hC.1 hC.2.1 (va_T.narrow hk.2.2.2.1 hA) hS hin rfl hd (k P a hx hK p l e s m args below meth c H locs ls hC hk hP hS hl)
end GB
/-- copying a part of a long row -/
def cpL {α : Type} (σ : gS) (so sn : Nat) (sp : Int32) (t tn : Nat) (dp n : Int32) (f : gS → Option α) : Option α :=
  if ¬ sp < 0 ∧ ¬ dp < 0 ∧ ¬ n < 0 ∧ sp.toNatClampNeg + n.toNatClampNeg ≤ sn ∧ dp.toNatClampNeg + n.toNatClampNeg ≤ tn then f (σ.1, fun j => if j = t then va_cpy (σ.2.1 so) (σ.2.1 t) sp.toNatClampNeg dp.toNatClampNeg n.toNatClampNeg else σ.2.1 j, σ.2.2) else none
section GCPY
variable {V : gV} {G : gG} {b : Nat} {d : gD} {own : String} {cc : ByteArray} {nL : Nat} {ret : Option FieldType} {α : Type} {K : α → (Option Value → gS → Prop) → Prop} {pc q : Nat} {lv : List (Nat × Value)} {st : List Value} {σ : gS}
theorem g_copy {so sn t tn : Nat} {sp dp n : Int32} {index : Nat} {f : gS → Option α} (h1 : shL V so sn) (h2 : shL V t tn) (hw : Cond.methodLink own index arraycopyName ∈ gTBL) (hn : Cond.native arraycopyName ∈ gTBL) (hs : Cond.static arraycopyName ∈ gTBL) (hi : Cond.initialized "java/lang/System" ∈ gTBL) (hd : decode cc pc = .ok (.invokestatic index, 3)) (hR : 2 ≤ d.1) (hW : (st.map fun v => v.category).sum ≤ 8) (hq : pc + 3 = q) (k : ∀ τ : gS, GF V G b d own cc nL ret K q lv st τ (f τ)) : GF V G b d own cc nL ret K pc lv (.int n :: .int dp :: .ref (b + t) :: .int sp :: .ref (b + so) :: st) σ (cpL σ so sn sp t tn dp n f) := by
  subst hq
  intro P a hx hK p l e s m args below meth c H locs ls hC hk hP hS hl
  unfold cpL at hx
  by_cases hc : ¬ sp < 0 ∧ ¬ dp < 0 ∧ ¬ n < 0 ∧ sp.toNatClampNeg + n.toNatClampNeg ≤ sn ∧ dp.toNatClampNeg + n.toNatClampNeg ≤ tn
  · rw [if_pos hc] at hx
    have hl1 : c.maxLocals = ls.size := hC.2.2.1.trans hl.1.symm
    have hfw : nativeFrameWords "java/lang/System" "arraycopy" 5 + 11 ≤ 100 := by decide +kernel
    refine va_copyl hC.1 hC.2.1 hl1 hC.2.2.2.1 (hC.2.2.2.2.1 _ hw) (hC.2.2.2.2.1 _ hn) (hC.2.2.2.2.1 _ hs) (hC.2.2.2.2.1 _ hi) hk.1 hP gws_D hS so t 1 1 (shL_at h1) (shL_at h2) rfl rfl rfl hc.1 hc.2.1 hc.2.2.1 hc.2.2.2.1 hc.2.2.2.2 (fun _ _ => rfl) (by show 1 ≤ d.1; omega) (by show _ ≤ 60 * d.1; omega) hd (fun H locs hP hD hS => ?_)
    rw [gws_set (σ := σ) (o := t) (τ := (σ.1, fun j => if j = t then va_cpy (σ.2.1 so) (σ.2.1 t) sp.toNatClampNeg dp.toNatClampNeg n.toNatClampNeg else σ.2.1 j, σ.2.2)) _ (by rw [h2.2]; simp only [if_true]) (fun j hj => ⟨rfl, by simp [hj], rfl⟩)] at hP
    exact k _ P a hx hK p l e s m args below meth c H locs ls hC hk hP hS hl
  · rw [if_neg hc] at hx
    cases hx
end GCPY
/-- as cn_of, for a member of the library that the machine has no entry for -/
theorem cn_ofF {V : gV} {G : gG} {b d : Nat} {y : MethodName} {cc : ByteArray} {nL : Nat} {ret : Option FieldType} {α : Type} {K : α → (Option Value → gS → Prop) → Prop} {av : List Value} {σ : gS} {x : Option α} {own : String} (hy : plainFor y = true) (hown : y.cls = own) (hn : (lg_sl av).length ≤ nL) (h : GF V G b (d, 0, 0) own cc nL ret K 0 (lv_args 0 av) [] σ x) : CN V G b d y cc nL ret K av σ x := by
  intro l P a hx hK
  subst hown
  refine va_MetF (cc := cc) (maxL := nL) (ret := ret) hy rfl ?_
  intro p e s m args below meth c s₁ B hml hv
  obtain ⟨rfl, hk, hP⟩ := hv
  have hts := atoms_spec (ws := Cond.code y cc nL ret :: gTBL) B.pre
  have hown : s.vm.findClass y.cls = some m.cls := findClass_of_methodNamed B.named
  rw [lg_entry_eq]
  exact h P a hx hK p l e s m _ below meth c s.heap [] _ ⟨B.exec, B.bytes, hml, hown, fun w hw => hts w (List.mem_cons_of_mem _ hw), B.returns, B.notSynchronized⟩ hk hP va_S.rf (lv_entry av hn)
/-! text -/
section GSTR
variable {V : gV} {G : gG} {b : Nat} {d : gD} {own : String} {cc : ByteArray} {nL : Nat} {ret : Option FieldType} {α : Type} {K : α → (Option Value → gS → Prop) → Prop} {pc q : Nat} {lv : List (Nat × Value)} {st : List Value} {σ : gS} {X : Option α}
theorem g_none : GF V G b d own cc nL ret K pc lv st σ (none : Option α) := by
  intro P a hx; cases hx
theorem gA_b : ∀ q, gA V b q → b ≤ q := fun _ h => h.1
theorem g_ldcS (ho : own = "SkyTrial$Tokens") (hd : decode cc pc = .ok (.ldc 29, 2)) (hq : pc + 2 = q) (k : GF V G b d own cc nL ret K q lv (.ref G.2.2.2.1 :: st) σ X) : GF V G b d own cc nL ret K pc lv st σ X := by
  subst hq; subst ho
  intro P a hx hK p l e s m args below meth c H locs ls hC hk hP hS hl
  exact va_ldcS hC.1 hC.2.1 hC.2.2.2.1 hk.2.2.2.2.1 hd (k P a hx hK p l e s m args below meth c H locs ls hC hk hP hS hl)
theorem g_strV {index : Nat} (hd : decode cc pc = .ok (.getfield index, 3)) (hw : Cond.fieldLink own index "java/lang/String" "value" "[B" ∈ gTBL) (hq : pc + 3 = q) (k : GF V G b d own cc nL ret K q lv (.ref G.2.2.2.2.1 :: st) σ X) : GF V G b d own cc nL ret K pc lv (.ref G.2.2.2.1 :: st) σ X := by
  subst hq
  intro P a hx hK p l e s m args below meth c H locs ls hC hk hP hS hl
  exact vk_getf hC.1 hC.2.1 (va_OF.narrow hk.2.2.2.2.2.2.2.1 gA_b) hS hC.2.2.2.1 (hC.2.2.2.2.1 _ hw) (fun _ h9 => h9) hd (k P a hx hK p l e s m args below meth c H locs ls hC hk hP hS hl)
theorem g_strC {index : Nat} (hd : decode cc pc = .ok (.getfield index, 3)) (hw : Cond.fieldLink own index "java/lang/String" "coder" "B" ∈ gTBL) (hq : pc + 3 = q) (k : GF V G b d own cc nL ret K q lv (.int 0 :: st) σ X) : GF V G b d own cc nL ret K pc lv (.ref G.2.2.2.1 :: st) σ X := by
  subst hq
  intro P a hx hK p l e s m args below meth c H locs ls hC hk hP hS hl
  exact vk_getf hC.1 hC.2.1 (va_OF.narrow hk.2.2.2.2.2.2.1 gA_b) hS hC.2.2.2.1 (hC.2.2.2.2.1 _ hw) (fun _ h9 => h9) hd (k P a hx hK p l e s m args below meth c H locs ls hC hk hP hS hl)
theorem g_strZ {index : Nat} (hd : decode cc pc = .ok (.getstatic index, 3)) (hw : Cond.fieldLink own index "java/lang/String" "COMPACT_STRINGS" "Z" ∈ gTBL) (hq : pc + 3 = q) (k : GF V G b d own cc nL ret K q lv (.int 1 :: st) σ X) : GF V G b d own cc nL ret K pc lv st σ X := by
  subst hq
  intro P a hx hK p l e s m args below meth c H locs ls hC hk hP hS hl
  exact va_gets hC.1 hC.2.1 (va_Z.narrow hk.2.2.2.2.2.2.2.2.2.1 gA_b) hS hC.2.2.2.1 (hC.2.2.2.2.1 _ hw) (fun _ h9 => h9) hd (k P a hx hK p l e s m args below meth c H locs ls hC hk hP hS hl)
theorem g_strL (hd : decode cc pc = .ok (.arraylength, 1)) (hq : pc + 1 = q) (k : GF V G b d own cc nL ret K q lv (.int 111 :: st) σ X) : GF V G b d own cc nL ret K pc lv (.ref G.2.2.2.2.1 :: st) σ X := by
  subst hq
  intro P a hx hK p l e s m args below meth c H locs ls hC hk hP hS hl
  exact va_tlen hC.1 hC.2.1 (va_T.narrow hk.2.2.2.2.2.2.2.2.1 gA_b) hS rfl hd (k P a hx hK p l e s m args below meth c H locs ls hC hk hP hS hl)
theorem g_strB {i : Int32} (hd : decode cc pc = .ok (.baload, 1)) (hq : pc + 1 = q) (k : GF V G b d own cc nL ret K q lv (.int (gBY i.toNatClampNeg) :: st) σ X) : GF V G b d own cc nL ret K pc lv (.int i :: .ref G.2.2.2.2.1 :: st) σ (gx i 111 X) := by
  subst hq
  intro P a hx hK p l e s m args below meth c H locs ls hC hk hP hS hl
  obtain ⟨hin, hx⟩ := gx_in hx
  exact va_tb hC.1 hC.2.1 (va_T.narrow hk.2.2.2.2.2.2.2.2.1 gA_b) hS hin rfl hd (k P a hx hK p l e s m args below meth c H locs ls hC hk hP hS hl)
theorem g_i2c {x : Int32} (hd : decode cc pc = .ok (.i2c, 1)) (hq : pc + 1 = q) (k : GF V G b d own cc nL ret K q lv (.int (x.toUInt32 % 65536).toInt32 :: st) σ X) : GF V G b d own cc nL ret K pc lv (.int x :: st) σ X := by
  subst hq
  intro P a hx hK p l e s m args below meth c H locs ls hC hk hP hS hl
  exact lv_i2c hC.1 hC.2.1 hd rfl (k P a hx hK p l e s m args below meth c H locs ls hC hk hP hS hl)
/-- answers of other kinds: what they are narrowed to -/
def nrw (ty : FieldType) (v : Int32) : Option Int32 := if narrow ty (.int v) = .int v then some v else none
theorem g_nret {ty : FieldType} {v : Int32} (hd : decode cc pc = .ok (.ireturn, 1)) : GF V G b d own cc nL (some ty) (kPI σ) pc lv [.int v] σ (nrw ty v) := by
  intro P a hx hK p l e s m args below meth c H locs ls hC hk hP hS hl
  unfold nrw at hx
  by_cases hn : narrow ty (.int v) = .int v
  · rw [if_pos hn] at hx
    cases hx
    exact W.zret hC.1 hC.2.1 hC.2.2.2.2.2.1 hn (fun t ht hW => gret_Q hK hP hS ht) hS.2.2 hd hC.2.2.2.2.2.2
  · rw [if_neg hn] at hx; cases hx
theorem g_callS {d' nL' n index : Nat} {y : MethodName} {cc' : ByteArray} {ret' : Option FieldType} {β : Type} {K' : β → (Option Value → gS → Prop) → Prop} {As st0 : List Value} {z : Option β} (hc : CN V G b d' y cc' nL' ret' K' (.ref G.2.2.2.1 :: As) σ z) (hC0 : "java/lang/String" = y.cls) (cw : cwO own index y cc' nL' ret' n) (hn : As.length = n) (hd : decode cc pc = .ok (.invokevirtual index, 3)) (hst : st0 = As.reverse ++ .ref G.2.2.2.1 :: st) (hW : (st.map fun v => v.category).sum ≤ 8) (hR : d' + 1 ≤ d.1 ∧ nL' ≤ 41)
    {x : Option α} (kk : ∀ (P : Option Value → gS → Prop) (a : α), x = some a → K a P → ∃ c : β, z = some c ∧ ∃ P' : Option Value → gS → Prop, K' c P' ∧ ∀ (r : Option Value) (τ : gS), P' r τ → Go V G b d own cc nL ret P (pc + 3) lv (r.toList ++ st) τ) : GF V G b d own cc nL ret K pc lv st0 σ x := by
  intro P a hx hK p l e s m args below meth c H locs ls hC hk hP hS hl
  obtain ⟨c0, hz, P', hK', kk⟩ := kk P a hx hK
  obtain ⟨⟨w1, w2, w3, w4, w5⟩, w6, w7, w8⟩ := cw
  have hM := hc l P' c0 hz hK'
  have hts : ∀ w ∈ Cond.tt :: gTBL, w.before args s = true := fun w hw => (List.mem_cons.mp hw).elim (fun e => by rw [e]; rfl) (hC.2.2.2.2.1 w)
  have hcw : CallW (gR d) s args own y.cls index y cc' nL' ret' (Cond.code y cc' nL' ret' :: gTBL) (gR (d', 0, 0)) 0 0 n :=
    ⟨callB_of n hts (gGood w5) rfl rfl rfl (hC.2.2.2.2.1 _ w4) (hC.2.2.2.2.1 _ w1) ⟨w6, w7, w8⟩ ⟨hR.1, by show 8 + (nL' + 11) + 60 * d' ≤ 60 * d.1; omega⟩, hC.2.2.2.2.1 _ w2, hC.2.2.2.2.1 _ w3⟩
  subst hst
  have hrecv : ∃ cell : Cell, H[G.2.2.2.1]? = some cell ∧ cell.vm.isStatics = false ∧ s.vm.findClass y.cls = some cell.cls := by
    obtain ⟨cell, q1, q2, q3, -⟩ := (va_O.narrow hk.2.2.2.2.2.1 gA_b).kept hS.2.1
    exact ⟨cell, q1, q2, hC0 ▸ q3⟩
  refine va_callg (va_runV (As := As) (rest := st) ⟨hC.1, hC.2.1, hC.2.2.1, hC.2.2.2.1, hts⟩ hM hcw ⟨gBlind, hrecv, fun U hU hWm => ⟨rfl, gK_enter hk (fun _ h => gA_le h) hS hU hWm, by rw [hU]; exact hP⟩⟩ rfl hn hl.1 rfl (by show 2 * 0 + _ ≤ 8; omega) hd ⟨Nat.le_refl _, Nat.le_refl _⟩) hS ?_
  intro r τ H1 locs1 hp hP1 hS1
  exact kk r τ hp p l e s m args below meth c H1 locs1 ls hC hk hP1 hS1 hl
theorem g_fmt {index : Nat} (hd : decode cc pc = .ok (.getstatic index, 3)) (hw : Cond.fieldLink own index "jdk/internal/util/Preconditions" "SIOOBE_FORMATTER" "Ljava/util/function/BiFunction;" ∈ gTBL) (hq : pc + 3 = q) (k : (G.2.2.2.2.2 = .null ∨ ∃ a : Nat, G.2.2.2.2.2 = .ref a) → GF V G b d own cc nL ret K q lv (G.2.2.2.2.2 :: st) σ X) : GF V G b d own cc nL ret K pc lv st σ X := by
  subst hq
  intro P a hx hK p l e s m args below meth c H locs ls hC hk hP hS hl
  exact va_gets hC.1 hC.2.1 (va_Z.narrow hk.2.2.2.2.2.2.2.2.2.2.1 gA_b) hS hC.2.2.2.1 (hC.2.2.2.2.1 _ hw) (fun _ h9 => h9) hd (k hk.2.2.2.2.2.2.2.2.2.2.2 P a hx hK p l e s m args below meth c H locs ls hC hk hP hS hl)
end GSTR
/-- no answer, no change -/
def kPV (σ : gS) : Unit → (Option Value → gS → Prop) → Prop := fun _ P => P none σ
theorem g_vretP {V : gV} {G : gG} {b : Nat} {d : gD} {own : String} {cc : ByteArray} {nL pc : Nat} {lv : List (Nat × Value)} {σ : gS} (hd : decode cc pc = .ok (.return_, 1)) : GF V G b d own cc nL none (kPV σ) pc lv [] σ (some ()) := by
  intro P a hx hK p l e s m args below meth c H locs ls hC hk hP hS hl
  cases hx
  exact W.vret hC.1 hC.2.1 hC.2.2.2.2.2.1 (fun t ht hW => gret_Q hK hP hS ht) hS.2.2 hd hC.2.2.2.2.2.2
theorem kk_PV {V : gV} {G : gG} {b : Nat} {d : gD} {own : String} {cc : ByteArray} {nL : Nat} {ret : Option FieldType} {α : Type} {K : α → (Option Value → gS → Prop) → Prop} {pc : Nat} {lv : List (Nat × Value)} {st : List Value} {σ : gS} {z : Option Unit} {f : Unit → Option α} (k : GF V G b d own cc nL ret K pc lv st σ (f ())) : ∀ (P : Option Value → gS → Prop) (a : α), bn1 z f = some a → K a P → ∃ c : Unit, z = some c ∧ ∃ P' : Option Value → gS → Prop, kPV σ c P' ∧ ∀ (r : Option Value) (τ : gS), P' r τ → Go V G b d own cc nL ret P pc lv (r.toList ++ st) τ := by
  intro P a h hK
  obtain ⟨r, hz, hf⟩ := bn1_some h
  exact ⟨r, hz, fun v t => v = none ∧ t = σ, ⟨rfl, rfl⟩, fun v t h => by obtain ⟨rfl, rfl⟩ := h; exact k P a hf hK⟩
