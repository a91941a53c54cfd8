theorem mk_cl_X10 : (Cond.classLink "SkyTrialLaw" (7 : Nat) "SkyTrial") ∈ gTBL := tIn1 21 (by decide +kernel) rfl
theorem mk_ml_X10 : (Cond.methodLink "SkyTrialLaw" (9 : Nat) ({ cls := "SkyTrial", name := "<init>", desc := "()V" } : Jvm.MethodName)) ∈ gTBL := tIn1 23 (by decide +kernel) rfl
theorem mk_im_X10 : (Cond.instanceMethod ({ cls := "SkyTrial", name := "<init>", desc := "()V" } : Jvm.MethodName)) ∈ gTBL := tIn1 24 (by decide +kernel) rfl
theorem mk_in_X10 : (Cond.initialized "SkyTrial") ∈ gTBL := tIn1 1 (by decide +kernel) rfl
theorem mk_co_X10 : (Cond.code ({ cls := "SkyTrial", name := "<init>", desc := "()V" } : Jvm.MethodName) prog_1_method_1_code (1 : Nat) (Option.none : Option Jvm.ClassFile.FieldType)) ∈ gTBL := tIn1 25 (by decide +kernel) rfl
theorem mk_cw_X10 : cwZ R_law 9 yX10_init cX10_init 1 0 := ⟨⟨mk_ml_X10, mk_im_X10, mk_in_X10, mk_co_X10⟩, rfl, by decide, by decide, rfl⟩
theorem mk_cl_X11 : (Cond.classLink "SkyTrialLaw" (10 : Nat) "SkyTrialModel") ∈ gTBL := tIn5 70 (by decide +kernel) rfl
theorem mk_ml_X11 : (Cond.methodLink "SkyTrialLaw" (12 : Nat) ({ cls := "SkyTrialModel", name := "<init>", desc := "()V" } : Jvm.MethodName)) ∈ gTBL := tIn5 72 (by decide +kernel) rfl
theorem mk_im_X11 : (Cond.instanceMethod ({ cls := "SkyTrialModel", name := "<init>", desc := "()V" } : Jvm.MethodName)) ∈ gTBL := tIn5 73 (by decide +kernel) rfl
theorem mk_in_X11 : (Cond.initialized "SkyTrialModel") ∈ gTBL := tIn1 16 (by decide +kernel) rfl
theorem mk_co_X11 : (Cond.code ({ cls := "SkyTrialModel", name := "<init>", desc := "()V" } : Jvm.MethodName) prog_13_method_2_code (1 : Nat) (Option.none : Option Jvm.ClassFile.FieldType)) ∈ gTBL := tIn5 74 rfl rfl
theorem mk_cw_X11 : cwZ R_law 12 yX11_init cX11_init 1 0 := ⟨⟨mk_ml_X11, mk_im_X11, mk_in_X11, mk_co_X11⟩, rfl, by decide, by decide, rfl⟩
theorem w_sized {p : Program} {l : Launch} {e : Env} {R : Room} {s : State} {m : MethodId} {args : Array Value} {below : List Frame} {meth : Method} {c : Code} {H : Heap} {locs : List Loc} {cells slots : Nat} {Q : State → Prop} {g : JFrame} (kk : H.size ≤ s.heap.size + cells → W p l e R s m args below meth c H locs cells slots Q g) : W p l e R s m args below meth c H locs cells slots Q g := by
  intro T hT X
  exact kk (by subst hT; exact X.same.2.2.1) T hT X
/-- an object is made, and its maker called -/
theorem l_make {p : Program} {l : Launch} {e : Env} {s : State} {m : MethodId} {below : List Frame} {meth : Method} {c : Code} {B L : Nat} {xs : Nat → Int32} {G : gG} {H : Heap} {locs : List Loc} {ls : Array Slot} {cn sn pc index index2 h0 : Nat} {C : String} {T : u_T} {N cj nL' h' mc' ms' : Nat} {y : MethodName} {cc' : ByteArray} {fs1 st : List Value} {wF : List va_E} {lv : List (Nat × Value)} {Q : State → Prop} (ty : Nat → FieldType) (hC : lw_At p s m meth c B L xs) (hgk : gK G s.heap.size s s.heap) (hb0 : s.heap.size ≤ h0) (hsz : H.size = h0) (hS : va_S (fun q => s.heap.size ≤ q) s.heap H locs) (hcl : vwCl[cj]? = some (C, T, N)) (hu : ∀ w ∈ u_ws C T N, w ∈ gTBL) (hty : ∀ k, k < N → parseFieldDescriptor (T k).2.2.1 = some (ty k)) (hwl : Cond.classLink R_law index C ∈ gTBL) (hwi : Cond.instantiable C N ∈ gTBL) (hw0 : Cond.initialized C ∈ gTBL) (hfs : ∀ j, j < N → defaultValue (ty j) = vp_V fs1 j) (d0 : decode code pc = .ok (.new index, 3)) (d1 : decode code (pc + 3) = .ok (.dup, 1)) (d2 : decode code (pc + 3 + 1) = .ok (.invokespecial index2, 3)) (hc : CZ G h0 h' mc' ms' y cc' nL' cj [.ref (h0 + 0)] fs1 wF) (cw : cwZ R_law index2 y cc' nL' 0) (hl : lv_has ls 4 lv) (hcm : cn + 1 + mc' ≤ 600000 ∧ sn + N + ms' ≤ 7302249) (hR : h' ≤ 1000 ∧ nL' ≤ 41) (hst : st = [])
    (kk : ∀ (H1 : Heap) (locs1 : List Loc), va_P G.1 vwCl (zws h0 wF) H1 → (∀ q, q < h0 → H1[q]? = H[q]?) → va_S (fun q => s.heap.size ≤ q) s.heap H1 locs1 → W p l e room_1 s m #[Value.ref B] below meth c H1 locs1 (cn + 1 + mc') (sn + N + ms') Q (F0 m (pc + 3 + 1 + 3) ls (.ref (h0 + 0) :: st))) : W p l e room_1 s m #[Value.ref B] below meth c H locs cn sn Q (F0 m pc ls st) := by
  subst hst
  have hts := l_tbl hC.2.2.2.2.2.1
  have hts1 : ∀ w ∈ gTBL, w.before #[Value.ref B] s = true := fun w hw => hts w (List.mem_cons_of_mem _ hw)
  have hKn := hgk.1.1 cj _ hcl
  refine W.newcK hC.1 hC.2.1 hC.2.2.2.2.1 (hts1 _ hwl) (hts1 _ hwi) (hts1 _ hw0) rfl d0 (by show cn + 1 ≤ 600000; omega) (by show sn + N ≤ 7302249; omega) hKn.2.1 hsz (fun H1 kC hkC e1 e2 e3 => ?_)
  show W p l e room_1 s m #[Value.ref B] below meth c H1 locs (cn + 1) (sn + N) Q (F0 m (pc + 3) ls [.ref (h0 + 0)])
  refine lv_dup hC.1 hC.2.1 d1 rfl ?_
  have hS1 : va_S (fun q => s.heap.size ≤ q) s.heap H1 locs := ⟨Nat.le_trans hS.1 (by omega), fun x h1 h2 => (e3 x (by have := hS.1; omega)).trans (hS.2.1 x h1 h2), hS.2.2⟩
  obtain ⟨⟨w1, w2, w4, w5⟩, w0, w6, w7, w8⟩ := cw
  have hcw : CallB room_1 s #[Value.ref B] R_law index2 y cc' nL' none (Cond.code y cc' nL' none :: gTBL) (gR (h', mc', ms')) mc' ms' 0 ∧ y.name = "<init>" ∧ (Cond.instanceMethod y).before #[Value.ref B] s = true :=
    ⟨callB_of 0 hts (gGood w5) rfl rfl rfl (hts1 _ w4) (hts1 _ w1) ⟨w6, w7, w8⟩ ⟨by show h' + 1 ≤ 2048; omega, by show 8 + (nL' + 11) + 60 * h' ≤ 84000; omega⟩, w0, hts1 _ w2⟩
  have hPe : va_P G.1 vwCl (zws h0 [.inr (cj, fs1)]) H1 := by
    intro k q hq
    obtain ⟨g1, g2⟩ := zws_key hq
    have hk : k = 0 := by simpa using g1
    subst hk
    rw [zws_get] at hq
    cases hq
    exact ⟨_, hcl, (u_born ty hts1 hu hKn hkC e1 hty).to hfs⟩
  have hrun := va_runI (locs := locs) (cells := cn + 1) (slots := sn + N) (below := below) (meth := meth) (e := e) (As := []) (rest := [.ref (h0 + 0)]) (g := F0 m (pc + 3 + 1) ls [.ref (h0 + 0), .ref (h0 + 0)]) ⟨hC.1, hC.2.1, hC.2.2.2.1, hC.2.2.2.2.1, hts⟩ (hc l) hcw ⟨z_blind, fun U hU hWm => ⟨rfl, by rw [hU, e2], gK_up hb0 (gK_enter hgk (fun _ h => h) hS1 hU hWm), by rw [hU]; exact hPe⟩⟩ rfl rfl hl.1 rfl (Nat.le_of_ble_eq_true rfl) d2 hcm
  intro T hT X
  obtain ⟨v, st₀, t, T', Ls, g0, X', hL, f1, f2, ⟨hv, hP1, hz1, hk1⟩, hgo⟩ := hrun T hT X
  cases hv
  rw [g0] at hz1 hk1
  have hlow : ∀ q, q < h0 → T'.heap[q]? = H[q]? := fun q hq => by
    rw [f1, hk1 q (by rw [e2]; omega) (fun h8 => by have := h8.1; omega), e3 q hq]
  obtain ⟨t2, a1, b1⟩ := kk T'.heap (locs ++ Ls) (by rw [f1]; exact hP1) hlow
    ⟨Nat.le_trans hS1.1 (by rw [f1]; exact hz1), fun q h1 h2 => by rw [hlow q (by omega)]; exact hS.2.1 q h1 h2, fun q hq => by
      rcases List.mem_append.mp hq with h | h
      · exact hS.2.2 q h
      · exact Nat.le_trans hb0 (hL q h).1⟩ T' rfl X'
  exact ⟨t2, hgo t2 a1, b1⟩
set_option maxRecDepth 100000 in
/-- the law, from its entry, over what the two sides do with a call -/
theorem start_of {p : Program} {e : Env} {s : State} {m : MethodId} {below : List Frame} {meth : Method} {c : Code} (l : Launch) {b L : Nat} {xs : Nat → Int32} (Inv : gS × gS → Prop) (h0 : Inv (cS0, zTX11)) (hq : ∀ k, k < 41 → ∀ (a1 a2 a3 a4 a5 : Int32) (u : gS × gS), Inv u → ∃ t, qs k a1 a2 a3 a4 a5 u = some (.inl t) ∧ Inv t) (hL : L ≤ 3072) (C0 : lw_At p s m meth c b L xs) : W p l e room_1 s m #[Value.ref b] below meth c s.heap [] 0 0 (lw_Z below #[Value.ref b] s) (entryFrame m ([Value.ref b] : List Value).toArray 4) := by
  obtain ⟨G, hgk⟩ := st_gK C0
  have hl := lv_entry ([.ref b]) (n := 4) (Nat.le_of_ble_eq_true rfl)
  rw [lg_entry_eq]
  generalize (lg_sl ([.ref b]) ++ List.replicate (4 - (lg_sl ([.ref b])).length) Slot.unset).toArray = ls at hl ⊢
  have hl : lv_has ls 4 [(0, .ref b)] := hl
  obtain ⟨x0, hx0⟩ : ∃ x0, x0 = s.heap.size := ⟨_, rfl⟩
  refine l_make (h0 := x0) (cj := 10) (C := RX10) (T := TX10) (N := 7) (fs1 := [.null, .null, .null, .null, .null, .null, .null]) (wF := zF_X10 G x0) tyX10 C0 hgk (by omega) hx0.symm va_S.rf hclX10 uwX10 tyX10_ok mk_cl_X10 si_X10 mk_in_X10 (by decide +kernel) dL_law_0 dL_law_3 dL_law_4 cz_X10 mk_cw_X10 hl (by decide) (by decide) rfl (fun H1 locs1 hP1 hlow1 hS1 => ?_)
  refine lv_astore_n (lv' := [(1, .ref (x0 + 0)), (0, .ref b)]) C0.1 C0.2.1 dL_law_7 rfl hl (by decide) rfl (fun ls hl => ?_)
  refine w_sized (fun hle => ?_)
  have h50 : (zF_X10 G x0)[50]? = some (.inr (5, [.int 0, .int 0, .int 0, .int 0])) := rfl
  have hge : x0 + 50 < H1.size := (hP1 50 _ (zws_at h50)).lt
  have hsz1 : H1.size = x0 + 51 := by omega
  refine l_make (h0 := x0 + 51) (cj := 11) (C := RX11) (T := TX11) (N := 65) (fs1 := [.int 0, .null, .int 0, .null, .int 0, .null, .null, .null, .null, .null, .int 0, .int 0, .int 0, .int 0, .int 0, .int 0, .int 0, .int 0, .int 0, .int 0, .int 0, .null, .null, .null, .null, .null, .null, .null, .null, .null, .null, .null, .null, .null, .null, .null, .null, .int 0, .null, .null, .null, .null, .null, .null, .int 0, .null, .null, .null, .int 0, .null, .null, .int 0, .null, .null, .null, .null, .null, .null, .null, .null, .int 0, .null, .null, .null, .null]) (wF := zF_X11 G (x0 + 51)) tyX11 C0 hgk (by omega) hsz1 hS1 hclX11 uwX11 tyX11_ok mk_cl_X11 si_X11 mk_in_X11 (by decide +kernel) dL_law_8 dL_law_11 dL_law_12 cz_X11 mk_cw_X11 hl (by decide) (by decide) rfl (fun H2 locs2 hP2 hlow2 hS2 => ?_)
  refine lv_astore_n (lv' := [(2, .ref (x0 + 51 + 0)), (1, .ref (x0 + 0)), (0, .ref b)]) C0.1 C0.2.1 dL_law_15 rfl hl (by decide) rfl (fun ls hl => ?_)
  refine lv_iconst (v := nI 0) C0.1 C0.2.1 dL_law_16 (by decide) ?_
  refine lv_istore_n (lv' := [(3, .int (nI 0)), (2, .ref (x0 + 51 + 0)), (1, .ref (x0 + 0)), (0, .ref b)]) C0.1 C0.2.1 dL_law_17 rfl hl (by decide) rfl (fun ls hl => ?_)
  have hP3 : va_P G.1 vwCl (gws vC G x0 cS0) H2 := by
    rw [zF_X10_is]
    exact hP1.kept (fun k x hx => hlow2 x.1 (by have := (hP1 k x hx).lt; omega))
  have hP4 : va_P G.1 vwCl (gws vR G (x0 + 51) zTX11) H2 := by
    rw [gws_gwl]
    exact hP2
  exact law_loop (G := G) (l := l) (B := b) (L := L) (xs := xs) (x0 := x0) (m0 := x0 + 51) hL Inv hq (L + 6) 0 (cS0, zTX11) (by omega) (by omega) h0 p e s m below meth c H2 locs2 ls C0 (by omega) (by omega) hgk hP3 hP4 hS2 (lv_sub hl [3, 2, 1, 0] rfl)
