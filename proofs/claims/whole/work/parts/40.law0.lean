-- ===== end of PART A; then your names; then what follows =====
/-! THE CLAIM OUT OF ONE WALK OF THE LAW'S BODY. Your part is whole_start (and what it stands on); all else here is the same for every law, but numbers. -/
def R_law : String := "SkyTrialLaw"
def lw_P (b : Addr) (xs : List Int32) (args : Array Value) (s : State) : Prop := args = #[.ref b] ∧ s.IntsAt b xs ∧ xs.length ≤ 3072 ∧ (Jvm.Cond.and given_1 narrow_1).before args s = true
def lw_Q (_ : Array Value) (s : State) (o : Outcome) (t : State) : Prop := o = .returned (some (.int 1)) ∧ Framed s o t [] 600000 7302249
def lw_Z (below : List Frame) (a : Array Value) (s : State) : State → Prop := fun t => ∃ o, t.status = .running ∧ Ended t below o ∧ lw_Q a s o t
/-- the law's own end, with 1 on the stack, nothing written that was there before, its room as the claim has it -/
theorem lw_ret {p : Program} {l : Launch} {e : Env} {s : State} {m : MethodId} {below : List Frame} {meth : Method} {c : Code} {b : Nat} (hx : p.tables.exec = Jvm.exec) (hb : c.code = code) (hr : meth.sig.returnType = ret) (hlocks : meth.locks = false) {pc : Nat} {H : Heap} {ls : Array Slot} (hdg : decode code pc = .ok (.ireturn, 1)) : W p l e room_1 s m #[Value.ref b] below meth c H [] 600000 7302249 (lw_Z below #[Value.ref b] s) (F0 m pc ls [.int 1]) := by
  intro T hT X
  obtain ⟨fs, hret, hrun, hended, hW, hframe⟩ := X.leave (v := some (.int 1)) (hlocks := hlocks) (fun h => by rw [hr] at h; cases h)
  have hmeth' : T.vm.method? m = some meth := X.method'
  refine ⟨T.setFrames fs, ?_, .returned (some (.int 1)), hrun, hended, rfl, ⟨_, rfl⟩, hW, hframe⟩
  jvm_step X.here [X.here.top, hx, hb, hdg, hmeth', hr, ret, narrow_b1]
  (try refine ⟨rfl, ?_⟩); (try refine ⟨rfl, ?_⟩)
  first | (intro acts; rw [hret _ acts rfl rfl rfl]) | rw [hret _ _ rfl rfl rfl]
  exact Steps.refl _
/-- what holds at the law's entry: the machine, the code, the tables' words (any of lw_tbl by 'hts w (by decide +kernel)'), the script of L ints xs at the cell b, what the Statement gives of the start (any of its parts by flat_of_before) -/
def lw_At (p : Program) (s : State) (m : MethodId) (meth : Method) (c : Code) (b L : Nat) (xs : Nat → Int32) : Prop :=
  p.tables.exec = Jvm.exec ∧ c.code = code ∧ meth.sig.returnType = ret ∧ c.maxLocals = 4 ∧ s.vm.findClass R_law = some m.cls ∧ (∀ w ∈ lw_tbl, w.before #[Value.ref b] s = true) ∧ va_X b L xs s s.heap ∧ b < s.heap.size ∧ meth.locks = false ∧ (Jvm.Cond.and given_1 narrow_1).before #[Value.ref b] s = true
/-! THE LAW: two worlds, the class's from x0 on, the reference's from m0 on -/
def Lo (G : gG) (l : Launch) (B L : Nat) (xs : Nat → Int32) (x0 m0 pc : Nat) (lv : List (Nat × Value)) (st : List Value) (u : gS × gS) : Prop :=
  ∀ (p : Program) (e : Env) (s : State) (m : MethodId) (below : List Frame) (meth : Method) (c : Code) (H : Heap) (locs : List Loc) (ls : Array Slot),
    lw_At p s m meth c B L xs → s.heap.size ≤ x0 → x0 + 51 ≤ m0 → gK G s.heap.size s s.heap → va_P G.1 vwCl (gws vC G x0 u.1) H → va_P G.1 vwCl (gws vR G m0 u.2) H → va_S (fun q => s.heap.size ≤ q) s.heap H locs → lv_has ls 4 lv →
    W p l e room_1 s m #[Value.ref B] below meth c H locs 98 17332 (lw_Z below #[Value.ref B] s) (F0 m pc ls st)
def LF (G : gG) (l : Launch) (B L : Nat) (xs : Nat → Int32) (x0 m0 : Nat) {α : Type} (K : α → Prop) (pc : Nat) (lv : List (Nat × Value)) (st : List Value) (u : gS × gS) (x : Option α) : Prop :=
  ∀ a : α, x = some a → K a → Lo G l B L xs x0 m0 pc lv st u
def lw_lv (B x0 m0 n : Nat) : List (Nat × Value) := [(0, .ref B), (1, .ref (x0 + 0)), (2, .ref (m0 + 0)), (3, .int (nI n))]
def kJ (G : gG) (l : Launch) (B L : Nat) (xs : Nat → Int32) (x0 m0 J n : Nat) : (gS × gS) ⊕ Int32 → Prop := fun a => match a with
  | .inl t => Lo G l B L xs x0 m0 J (lw_lv B x0 m0 n) [] t
  | .inr r => r = 1
def bz (v : Int32) : Int32 := if v = 0 then 0 else 1
section LROW
variable {G : gG} {l : Launch} {B L : Nat} {xs : Nat → Int32} {x0 m0 n pc p9 : Nat} {lv : List (Nat × Value)} {st : List Value} {u : gS × gS} {α : Type} {K : α → Prop} {x : Option α}
theorem l_aload {k : Fin 4} {i a : Nat} (j : Nat) (hd : decode code pc = .ok (.aload_n k, 1)) (hi : (k : Nat) = i) (hj : lv[j]? = some (i, .ref a)) (hq : pc + 1 = p9) (kk : LF G l B L xs x0 m0 K p9 lv (.ref a :: st) u x) : LF G l B L xs x0 m0 K pc lv st u x := by
  subst hq
  intro a hx hK p e s m below meth c H locs ls hC h1 h2 hk hP1 hP2 hS hl
  exact lv_aload_n hC.1 hC.2.1 hd hi (lv_at hl j hj) (kk a hx hK p e s m below meth c H locs ls hC h1 h2 hk hP1 hP2 hS hl)
theorem l_lcmp {y z : Int64} (hd : decode code pc = .ok (.lcmp, 1)) (hq : pc + 1 = p9) (kk : LF G l B L xs x0 m0 K p9 lv (.int (lg_cmp y z) :: st) u x) : LF G l B L xs x0 m0 K pc lv (.long z :: .long y :: st) u x := by
  subst hq
  intro a hx hK p e s m below meth c H locs ls hC h1 h2 hk hP1 hP2 hS hl
  exact W.lcmp hC.1 hC.2.1 hd (kk a hx hK p e s m below meth c H locs ls hC h1 h2 hk hP1 hP2 hS hl)
theorem l_sIn {n kv L : Nat} (hkv : kv ≤ 5) (hn : n + 6 ≤ L) (hL : L ≤ 3072) : nI n + nI kv = nI (n + kv) ∧ vp_in (nI (n + kv)) L ∧ (nI (n + kv)).toNatClampNeg = n + kv := ⟨nI_add n kv, vp_in_nI (by omega) (by omega), nI_clamp (by omega)⟩
theorem l_arg {k : Int} {kv : Nat} (d0 : decode code pc = .ok (.aload_n 0, 1)) (d1 : decode code (pc + 1) = .ok (.iload_n 3, 1)) (d2 : decode code (pc + 1 + 1) = .ok (.iconst k, 1)) (d3 : decode code (pc + 1 + 1 + 1) = .ok (.iadd, 1)) (d4 : decode code (pc + 1 + 1 + 1 + 1) = .ok (.iaload, 1)) (hq : pc + 1 + 1 + 1 + 1 + 1 = p9) (hk : Int32.ofInt k = nI kv ∧ kv ≤ 5) (hn : n + 6 ≤ L) (hL : L ≤ 3072) (kk : LF G l B L xs x0 m0 K p9 (lw_lv B x0 m0 n) (.int (xs (n + kv)) :: st) u x) : LF G l B L xs x0 m0 K pc (lw_lv B x0 m0 n) st u x := by
  subst hq
  intro a hx hK p e s m below meth c H locs ls hC h1 h2 hgk hP1 hP2 hS hl
  obtain ⟨e1, e2, e3⟩ := l_sIn hk.2 hn hL
  refine lv_aload_n hC.1 hC.2.1 d0 rfl (lv_at hl 0 rfl) ?_
  refine lv_iload_n hC.1 hC.2.1 d1 rfl (lv_at hl 3 rfl) ?_
  refine lv_iconst hC.1 hC.2.1 d2 hk.1 ?_
  refine lv_iadd hC.1 hC.2.1 d3 ?_
  rw [e1]
  refine va_sld hC.1 hC.2.1 hC.2.2.2.2.2.2.1 hC.2.2.2.2.2.2.2.1 (Nat.not_le.mpr hC.2.2.2.2.2.2.2.1) hS e2 d4 ?_
  rw [e3]
  exact kk a hx hK p e s m below meth c H locs ls hC h1 h2 hgk hP1 hP2 hS hl
theorem l_argB {k : Int} {kv : Nat} (d0 : decode code pc = .ok (.aload_n 0, 1)) (d1 : decode code (pc + 1) = .ok (.iload_n 3, 1)) (d2 : decode code (pc + 1 + 1) = .ok (.iconst k, 1)) (d3 : decode code (pc + 1 + 1 + 1) = .ok (.iadd, 1)) (d4 : decode code (pc + 1 + 1 + 1 + 1) = .ok (.iaload, 1)) (d5 : decode code (pc + 1 + 1 + 1 + 1 + 1) = .ok (.ifCond .eq 7, 3)) (d6 : decode code (pc + 8) = .ok (.iconst 1, 1)) (d7 : decode code (pc + 9) = .ok (.goto 4, 3)) (d8 : decode code (pc + 12) = .ok (.iconst 0, 1)) (hq : pc + 13 = p9) (hk : Int32.ofInt k = nI kv ∧ kv ≤ 5) (hn : n + 6 ≤ L) (hL : L ≤ 3072) (kk : LF G l B L xs x0 m0 K p9 (lw_lv B x0 m0 n) (.int (bz (xs (n + kv))) :: st) u x) : LF G l B L xs x0 m0 K pc (lw_lv B x0 m0 n) st u x := by
  subst hq
  intro a hx hK p e s m below meth c H locs ls hC h1 h2 hgk hP1 hP2 hS hl
  obtain ⟨e1, e2, e3⟩ := l_sIn hk.2 hn hL
  have go := kk a hx hK p e s m below meth c H locs ls hC h1 h2 hgk hP1 hP2 hS hl
  refine lv_aload_n hC.1 hC.2.1 d0 rfl (lv_at hl 0 rfl) ?_
  refine lv_iload_n hC.1 hC.2.1 d1 rfl (lv_at hl 3 rfl) ?_
  refine lv_iconst hC.1 hC.2.1 d2 hk.1 ?_
  refine lv_iadd hC.1 hC.2.1 d3 ?_
  rw [e1]
  refine va_sld hC.1 hC.2.1 hC.2.2.2.2.2.2.1 hC.2.2.2.2.2.2.2.1 (Nat.not_le.mpr hC.2.2.2.2.2.2.2.1) hS e2 d4 ?_
  rw [e3]
  refine lv_if_eq (tgt := pc + 12) hC.1 hC.2.1 d5 (by omega) (fun hc => ?_) (fun hc => ?_)
  · rw [show bz (xs (n + kv)) = 0 by unfold bz; rw [if_pos hc]] at go
    exact lv_iconst (v := 0) hC.1 hC.2.1 d8 (by decide) go
  · rw [show bz (xs (n + kv)) = 1 by unfold bz; rw [if_neg hc]] at go
    refine lv_iconst (v := 1) hC.1 hC.2.1 d6 (by decide) ?_
    exact lv_goto (tgt := pc + 13) hC.1 hC.2.1 d7 (by omega) go
theorem l_end {v w : Int32} {J p1 p2 : Nat} {off : Int} {t : gS × gS} (d0 : decode code pc = .ok (.if_icmp .eq off, 3)) (d1 : decode code p1 = .ok (.iconst 0, 1)) (d2 : decode code p2 = .ok (.ireturn, 1)) (h1 : pc + 3 = p1) (h2 : p1 + 1 = p2) (ht : (pc : Int) + off = (J : Int)) : LF G l B L xs x0 m0 (kJ G l B L xs x0 m0 J n) pc (lw_lv B x0 m0 n) [.int w, .int v] t (if v = w then some (.inl t) else some (.inr 0)) := by
  intro a hx hK
  by_cases hc : v = w
  · rw [if_pos hc] at hx
    cases hx
    intro p e s m below meth c H locs ls hC g1 g2 hgk hP1 hP2 hS hl
    exact lv_icmp_eq hC.1 hC.2.1 d0 ht (fun _ => hK p e s m below meth c H locs ls hC g1 g2 hgk hP1 hP2 hS hl) (fun h => absurd hc h)
  · rw [if_neg hc] at hx
    cases hx
    exact absurd (show (0 : Int32) = 1 from hK) (by decide)
theorem l_endL {v : Int32} {J p1 p2 : Nat} {off : Int} {t : gS × gS} (d0 : decode code pc = .ok (.ifCond .eq off, 3)) (d1 : decode code p1 = .ok (.iconst 0, 1)) (d2 : decode code p2 = .ok (.ireturn, 1)) (h1 : pc + 3 = p1) (h2 : p1 + 1 = p2) (ht : (pc : Int) + off = (J : Int)) : LF G l B L xs x0 m0 (kJ G l B L xs x0 m0 J n) pc (lw_lv B x0 m0 n) [.int v] t (if v = 0 then some (.inl t) else some (.inr 0)) := by
  intro a hx hK
  by_cases hc : v = 0
  · rw [if_pos hc] at hx
    cases hx
    intro p e s m below meth c H locs ls hC g1 g2 hgk hP1 hP2 hS hl
    exact lv_if_eq hC.1 hC.2.1 d0 ht (fun _ => hK p e s m below meth c H locs ls hC g1 g2 hgk hP1 hP2 hS hl) (fun h => absurd hc h)
  · rw [if_neg hc] at hx
    cases hx
    exact absurd (show (0 : Int32) = 1 from hK) (by decide)
end LROW
/-- behind a call: the world of the callee is new, all else is as it was -/
theorem l_back {p : Program} {l : Launch} {e : Env} {s : State} {m : MethodId} {args : Array Value} {below : List Frame} {meth : Method} {c : Code} {H : Heap} {locs : List Loc} {Q : State → Prop} {V V2 : gV} {G : gG} {b b2 : Nat} {σ2 : gS} {P' : Option Value → gS → Prop} {a : Array Value} {ls : Array Slot} {pc : Nat} {st0 st : List Value}
    (hr : va_Run p l e room_1 s m args below meth c H locs 98 17332 0 0 (F0 m pc ls st0) st (gQ V G b P' a) (gA V b)) (hS : va_S (fun q => s.heap.size ≤ q) s.heap H locs) (hb : s.heap.size ≤ b) (hap : ∀ q, b2 ≤ q → q < b2 + V2.1 → ¬ gA V b q) (hP2 : va_P G.1 vwCl (gws V2 G b2 σ2) H)
    (kk : ∀ (r : Option Value) (τ : gS) (H1 : Heap) (locs1 : List Loc), P' r τ → va_P G.1 vwCl (gws V G b τ) H1 → va_P G.1 vwCl (gws V2 G b2 σ2) H1 → va_S (fun q => s.heap.size ≤ q) s.heap H1 locs1 → W p l e room_1 s m args below meth c H1 locs1 98 17332 Q (F0 m (pc + 3) ls (r.toList ++ st))) : W p l e room_1 s m args below meth c H locs 98 17332 Q (F0 m pc ls st0) := by
  intro T hT X
  obtain ⟨v, st₀, t, T', Ls, h0, X', hL, e1, e2, ⟨r, τ, hv, hp, hP1, hz, hk⟩, hgo⟩ := hr T hT X
  cases hv
  rw [h0] at hz hk
  have hnA : ∀ q, ¬ s.heap.size ≤ q → ¬ gA V b q := fun q h1 h2 => h1 (Nat.le_trans hb h2.1)
  have hP3 : va_P G.1 vwCl (gws V2 G b2 σ2) T'.heap := by
    refine hP2.kept (fun k x hx => ?_)
    rw [e1]
    refine hk x.1 ((hP2 k x hx).lt) ?_
    have hd := (gws_D (V := V2) (G := G) (b := b2) (σ := σ2)).2 k x hx
    exact hap x.1 hd.1 hd.2
  obtain ⟨t2, a1, b1⟩ := kk v τ T'.heap (locs ++ Ls) hp (by rw [e1]; exact hP1) hP3
    ⟨Nat.le_trans hS.1 (by rw [e1]; exact hz), fun q h1 h2 => by rw [e1, hk q (Nat.lt_of_lt_of_le h1 hS.1) (hnA q h2)]; exact hS.2.1 q h1 h2, fun q hq => by
      rcases List.mem_append.mp hq with h | h
      · exact hS.2.2 q h
      · exact Nat.le_trans hb (hL q h).1⟩ T' rfl X'
  exact ⟨t2, hgo t2 a1, b1⟩
theorem l_tbl {args : Array Value} {s : State} (h : ∀ w ∈ lw_tbl, w.before args s = true) : ∀ w ∈ Cond.tt :: gTBL, w.before args s = true := fun w hw => (List.mem_cons.mp hw).elim (fun e => by rw [e]; rfl) (fun h2 => h w (List.mem_filter.mp h2).1)
section LCALL
variable {G : gG} {l : Launch} {B L : Nat} {xs : Nat → Int32} {x0 m0 pc p9 : Nat} {lv : List (Nat × Value)} {st st0 As : List Value} {u : gS × gS} {α β : Type} {K : α → Prop} {x : Option α} {d' nL' n index : Nat} {y : MethodName} {cc' : ByteArray} {ret' : Option FieldType} {K' : β → (Option Value → gS → Prop) → Prop} {z : Option β}
theorem l_callC (hc : CN vC G x0 d' y cc' nL' ret' K' (.ref (x0 + 0) :: As) u.1 z) (cw : cwO R_law index y cc' nL' ret' n) (hn : As.length = n) (hd : decode code pc = .ok (.invokevirtual index, 3)) (hst : st0 = As.reverse ++ .ref (x0 + 0) :: st) (hW : (st.map fun v => v.category).sum ≤ 8) (hR : d' ≤ 1000 ∧ nL' ≤ 41) (hq : pc + 3 = p9) (hC0 : RX10 = y.cls)
    (kk : ∀ a : α, x = some a → K a → ∃ c : β, z = some c ∧ ∃ P' : Option Value → gS → Prop, K' c P' ∧ ∀ (r : Option Value) (τ : gS), P' r τ → Lo G l B L xs x0 m0 p9 lv (r.toList ++ st) (τ, u.2)) : LF G l B L xs x0 m0 K pc lv st0 u x := by
  subst hq
  intro a hx hK p e s m below meth c H locs ls hC h1 h2 hgk hP1 hP2 hS hl
  obtain ⟨c0, hz, P', hK', kk⟩ := kk a hx hK
  obtain ⟨⟨w1, w2, w3, w4, w5⟩, w6, w7, w8⟩ := cw
  have hM := hc l P' c0 hz hK'
  have hts := l_tbl hC.2.2.2.2.2.1
  have hts1 : ∀ w ∈ gTBL, w.before #[Value.ref B] s = true := fun w hw => hts w (List.mem_cons_of_mem _ hw)
  have hcw : CallW room_1 s #[Value.ref B] R_law y.cls index y cc' nL' ret' (Cond.code y cc' nL' ret' :: gTBL) (gR (d', 0, 0)) 0 0 n :=
    ⟨callB_of n hts (gGood w5) rfl rfl rfl (hts1 _ w4) (hts1 _ w1) ⟨w6, w7, w8⟩ ⟨by show d' + 1 ≤ 2048; omega, by show 8 + (nL' + 11) + 60 * d' ≤ 84000; omega⟩, hts1 _ w2, hts1 _ w3⟩
  subst hst
  have hrecv := va_recv hgk.1 hP1 shX10.2.1 (sh_at (G := G) (b := x0) (σ := u.1) shX10)
  rw [hC0] at hrecv
  refine l_back (va_runV (As := As) (rest := st) ⟨hC.1, hC.2.1, hC.2.2.2.1, hC.2.2.2.2.1, hts⟩ hM hcw ⟨gBlind, hrecv, fun U hU hWm => ⟨rfl, gK_up h1 (gK_enter hgk (fun _ h => h) hS hU hWm), by rw [hU]; exact hP1⟩⟩ rfl hn hl.1 rfl (by show 2 * 0 + _ ≤ 8; omega) hd ⟨by decide, by decide⟩) hS h1 (fun q g1 g2 g3 => by have := g3.2; have h8 : vC.1 = 51 := rfl; rw [h8] at this; omega) hP2 ?_
  intro r τ H1 locs1 hp hP1' hP2' hS1
  exact kk r τ hp p e s m below meth c H1 locs1 ls hC h1 h2 hgk hP1' hP2' hS1 hl
theorem l_callR (hc : CN vR G m0 d' y cc' nL' ret' K' (.ref (m0 + 0) :: As) u.2 z) (cw : cwO R_law index y cc' nL' ret' n) (hn : As.length = n) (hd : decode code pc = .ok (.invokevirtual index, 3)) (hst : st0 = As.reverse ++ .ref (m0 + 0) :: st) (hW : (st.map fun v => v.category).sum ≤ 8) (hR : d' ≤ 1000 ∧ nL' ≤ 41) (hq : pc + 3 = p9) (hC0 : RX11 = y.cls)
    (kk : ∀ a : α, x = some a → K a → ∃ c : β, z = some c ∧ ∃ P' : Option Value → gS → Prop, K' c P' ∧ ∀ (r : Option Value) (τ : gS), P' r τ → Lo G l B L xs x0 m0 p9 lv (r.toList ++ st) (u.1, τ)) : LF G l B L xs x0 m0 K pc lv st0 u x := by
  subst hq
  intro a hx hK p e s m below meth c H locs ls hC h1 h2 hgk hP1 hP2 hS hl
  obtain ⟨c0, hz, P', hK', kk⟩ := kk a hx hK
  obtain ⟨⟨w1, w2, w3, w4, w5⟩, w6, w7, w8⟩ := cw
  have hM := hc l P' c0 hz hK'
  have hts := l_tbl hC.2.2.2.2.2.1
  have hts1 : ∀ w ∈ gTBL, w.before #[Value.ref B] s = true := fun w hw => hts w (List.mem_cons_of_mem _ hw)
  have hcw : CallW room_1 s #[Value.ref B] R_law y.cls index y cc' nL' ret' (Cond.code y cc' nL' ret' :: gTBL) (gR (d', 0, 0)) 0 0 n :=
    ⟨callB_of n hts (gGood w5) rfl rfl rfl (hts1 _ w4) (hts1 _ w1) ⟨w6, w7, w8⟩ ⟨by show d' + 1 ≤ 2048; omega, by show 8 + (nL' + 11) + 60 * d' ≤ 84000; omega⟩, hts1 _ w2, hts1 _ w3⟩
  subst hst
  have hrecv := va_recv hgk.1 hP2 shX11.2.1 (sh_at (G := G) (b := m0) (σ := u.2) shX11)
  rw [hC0] at hrecv
  refine l_back (va_runV (As := As) (rest := st) ⟨hC.1, hC.2.1, hC.2.2.2.1, hC.2.2.2.2.1, hts⟩ hM hcw ⟨gBlind, hrecv, fun U hU hWm => ⟨rfl, gK_up (by omega) (gK_enter hgk (fun _ h => h) hS hU hWm), by rw [hU]; exact hP2⟩⟩ rfl hn hl.1 rfl (by show 2 * 0 + _ ≤ 8; omega) hd ⟨by decide, by decide⟩) hS (by omega) (fun q g1 g2 g3 => by have := g3.1; have h8 : vC.1 = 51 := rfl; rw [h8] at g2; omega) hP1 ?_
  intro r τ H1 locs1 hp hP1' hP2' hS1
  exact kk r τ hp p e s m below meth c H1 locs1 ls hC h1 h2 hgk hP2' hP1' hS1 hl
end LCALL
section LK
variable {G : gG} {l : Launch} {B L : Nat} {xs : Nat → Int32} {x0 m0 pc : Nat} {lv : List (Nat × Value)} {st : List Value} {α : Type} {K : α → Prop} {σ : gS} {w : gS}
theorem lkC_I {z : Option (Int32 × gS)} {f : Int32 → gS → Option α} (k : ∀ (r : Int32) (τ : gS), LF G l B L xs x0 m0 K pc lv (.int r :: st) (τ, w) (f r τ)) : ∀ a : α, bn2 z f = some a → K a → ∃ c : Int32 × gS, z = some c ∧ ∃ P' : Option Value → gS → Prop, kI c P' ∧ ∀ (r : Option Value) (τ : gS), P' r τ → Lo G l B L xs x0 m0 pc lv (r.toList ++ st) (τ, w) := by
  intro a h hK
  obtain ⟨r, τ, hz, hf⟩ := bn2_some h
  exact ⟨(r, τ), hz, fun v t => v = some (.int r) ∧ t = τ, ⟨rfl, rfl⟩, fun v t h => by obtain ⟨rfl, rfl⟩ := h; exact k r t a hf hK⟩
theorem lkC_L {z : Option (Int64 × gS)} {f : Int64 → gS → Option α} (k : ∀ (r : Int64) (τ : gS), LF G l B L xs x0 m0 K pc lv (.long r :: st) (τ, w) (f r τ)) : ∀ a : α, bn2 z f = some a → K a → ∃ c : Int64 × gS, z = some c ∧ ∃ P' : Option Value → gS → Prop, kL c P' ∧ ∀ (r : Option Value) (τ : gS), P' r τ → Lo G l B L xs x0 m0 pc lv (r.toList ++ st) (τ, w) := by
  intro a h hK
  obtain ⟨r, τ, hz, hf⟩ := bn2_some h
  exact ⟨(r, τ), hz, fun v t => v = some (.long r) ∧ t = τ, ⟨rfl, rfl⟩, fun v t h => by obtain ⟨rfl, rfl⟩ := h; exact k r t a hf hK⟩
theorem lkC_PI {z : Option Int32} {f : Int32 → Option α} (k : ∀ (r : Int32), LF G l B L xs x0 m0 K pc lv (.int r :: st) (σ, w) (f r)) : ∀ a : α, bn1 z f = some a → K a → ∃ c : Int32, z = some c ∧ ∃ P' : Option Value → gS → Prop, kPI σ c P' ∧ ∀ (r : Option Value) (τ : gS), P' r τ → Lo G l B L xs x0 m0 pc lv (r.toList ++ st) (τ, w) := by
  intro a h hK
  obtain ⟨r, hz, hf⟩ := bn1_some h
  exact ⟨r, hz, fun v t => v = some (.int r) ∧ t = σ, ⟨rfl, rfl⟩, fun v t h => by obtain ⟨rfl, rfl⟩ := h; exact k r a hf hK⟩
theorem lkC_PL {z : Option Int64} {f : Int64 → Option α} (k : ∀ (r : Int64), LF G l B L xs x0 m0 K pc lv (.long r :: st) (σ, w) (f r)) : ∀ a : α, bn1 z f = some a → K a → ∃ c : Int64, z = some c ∧ ∃ P' : Option Value → gS → Prop, kPL σ c P' ∧ ∀ (r : Option Value) (τ : gS), P' r τ → Lo G l B L xs x0 m0 pc lv (r.toList ++ st) (τ, w) := by
  intro a h hK
  obtain ⟨r, hz, hf⟩ := bn1_some h
  exact ⟨r, hz, fun v t => v = some (.long r) ∧ t = σ, ⟨rfl, rfl⟩, fun v t h => by obtain ⟨rfl, rfl⟩ := h; exact k r a hf hK⟩
theorem lkR_I {z : Option (Int32 × gS)} {f : Int32 → gS → Option α} (k : ∀ (r : Int32) (τ : gS), LF G l B L xs x0 m0 K pc lv (.int r :: st) (w, τ) (f r τ)) : ∀ a : α, bn2 z f = some a → K a → ∃ c : Int32 × gS, z = some c ∧ ∃ P' : Option Value → gS → Prop, kI c P' ∧ ∀ (r : Option Value) (τ : gS), P' r τ → Lo G l B L xs x0 m0 pc lv (r.toList ++ st) (w, τ) := by
  intro a h hK
  obtain ⟨r, τ, hz, hf⟩ := bn2_some h
  exact ⟨(r, τ), hz, fun v t => v = some (.int r) ∧ t = τ, ⟨rfl, rfl⟩, fun v t h => by obtain ⟨rfl, rfl⟩ := h; exact k r t a hf hK⟩
theorem lkR_L {z : Option (Int64 × gS)} {f : Int64 → gS → Option α} (k : ∀ (r : Int64) (τ : gS), LF G l B L xs x0 m0 K pc lv (.long r :: st) (w, τ) (f r τ)) : ∀ a : α, bn2 z f = some a → K a → ∃ c : Int64 × gS, z = some c ∧ ∃ P' : Option Value → gS → Prop, kL c P' ∧ ∀ (r : Option Value) (τ : gS), P' r τ → Lo G l B L xs x0 m0 pc lv (r.toList ++ st) (w, τ) := by
  intro a h hK
  obtain ⟨r, τ, hz, hf⟩ := bn2_some h
  exact ⟨(r, τ), hz, fun v t => v = some (.long r) ∧ t = τ, ⟨rfl, rfl⟩, fun v t h => by obtain ⟨rfl, rfl⟩ := h; exact k r t a hf hK⟩
theorem lkR_PI {z : Option Int32} {f : Int32 → Option α} (k : ∀ (r : Int32), LF G l B L xs x0 m0 K pc lv (.int r :: st) (w, σ) (f r)) : ∀ a : α, bn1 z f = some a → K a → ∃ c : Int32, z = some c ∧ ∃ P' : Option Value → gS → Prop, kPI σ c P' ∧ ∀ (r : Option Value) (τ : gS), P' r τ → Lo G l B L xs x0 m0 pc lv (r.toList ++ st) (w, τ) := by
  intro a h hK
  obtain ⟨r, hz, hf⟩ := bn1_some h
  exact ⟨r, hz, fun v t => v = some (.int r) ∧ t = σ, ⟨rfl, rfl⟩, fun v t h => by obtain ⟨rfl, rfl⟩ := h; exact k r a hf hK⟩
theorem lkR_PL {z : Option Int64} {f : Int64 → Option α} (k : ∀ (r : Int64), LF G l B L xs x0 m0 K pc lv (.long r :: st) (w, σ) (f r)) : ∀ a : α, bn1 z f = some a → K a → ∃ c : Int64, z = some c ∧ ∃ P' : Option Value → gS → Prop, kPL σ c P' ∧ ∀ (r : Option Value) (τ : gS), P' r τ → Lo G l B L xs x0 m0 pc lv (r.toList ++ st) (w, τ) := by
  intro a h hK
  obtain ⟨r, hz, hf⟩ := bn1_some h
  exact ⟨r, hz, fun v t => v = some (.long r) ∧ t = σ, ⟨rfl, rfl⟩, fun v t h => by obtain ⟨rfl, rfl⟩ := h; exact k r a hf hK⟩
end LK
