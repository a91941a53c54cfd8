/-! moved -/
def iZ (z : Int) : Int32 := Int32.ofInt z
theorem iZ_t {z : Int} (h1 : -1000 ≤ z) (h2 : z ≤ 1000) : (iZ z).toInt = z := fb_ofI (by omega) (by omega)
theorem iZ_1 {z : Int} (h1 : -1000 ≤ z) (h2 : z < 1000) : iZ z + 1 = iZ (z + 1) := by
  apply Int32.toInt_inj.mp
  have e1 : (1 : Int32).toInt = 1 := by decide
  rw [fb_addI, iZ_t (z := z + 1) (by omega) (by omega), iZ_t h1 (by omega), e1]
  · rw [iZ_t h1 (by omega), e1]; omega
  · rw [iZ_t h1 (by omega), e1]; omega
theorem iZ_lt {m : Nat} {z : Int} (hm : m ≤ 1000) (h1 : -1000 ≤ z) (h2 : z ≤ 1000) : nI m < iZ z ↔ (m : Int) < z := by
  rw [fa_lt, nI_toInt (by omega), iZ_t h1 h2]
theorem fmod_all : ∀ t : Nat, t < 121 → pJ9_floorMod_7cf53 (iZ ((t : Int) - 30)) 60 = some ((iZ ((t : Int) - 30) + 60) - (iZ ((t : Int) - 30) + 60) / 60 * 60) := by
  unfold pJ9_floorMod_7cf53 g0 lt'
  decide +kernel
theorem fmod_0 : ∀ t : Nat, t < 60 → (nI t + 60) - (nI t + 60) / 60 * 60 = nI t := by decide +kernel
theorem nI_iZ {n : Nat} {z : Int} (hn : n ≤ 500) (h1 : -500 ≤ z) (h2 : z ≤ 500) : nI n + iZ z = iZ (n + z) := by
  apply Int32.toInt_inj.mp
  rw [fb_addI, nI_toInt (by omega), iZ_t (by omega) (by omega), iZ_t (by omega) (by omega)]
  · rw [nI_toInt (by omega), iZ_t (by omega) (by omega)]; omega
  · rw [nI_toInt (by omega), iZ_t (by omega) (by omega)]; omega
theorem bt_mk : ∀ n, n < 7 → ∀ i, i < 32 → bt (((1 : Int32) <<< (nI n &&& (31 : Int32))) - 1) i = decide (i < n) := by decide +kernel
theorem and_mk {f : Nat → Bool} {n : Nat} (hn : n < 7) : bitsN f n &&& (((1 : Int32) <<< (nI n &&& (31 : Int32))) - 1) = bitsN f n := by
  apply b_ext
  intro i hi
  rw [b_and, bt_mk n hn i hi, bt_N (by omega) hi]
  cases decide (i < n) <;> simp
theorem a_as (x y z : Int32) : x &&& y &&& z = x &&& (y &&& z) := by
  apply b_ext; intro i hi; rw [b_and, b_and, b_and, b_and, Bool.and_assoc]
theorem o_as (x y z : Int32) : x ||| y ||| z = x ||| (y ||| z) := by
  apply b_ext; intro i hi; rw [b_or, b_or, b_or, b_or, Bool.or_assoc]
theorem a_sw (x y : Int32) : x &&& (y &&& x) = y &&& x := by
  apply b_ext; intro i hi; rw [b_and, b_and]; cases bt x i <;> cases bt y i <;> rfl
theorem o_sw (x y : Int32) : x ||| (y ||| x) = y ||| x := by
  apply b_ext; intro i hi; rw [b_or, b_or]; cases bt x i <;> cases bt y i <;> rfl
theorem o_z (x : Int32) : x ||| 0 = x := by
  apply b_ext; intro i hi; rw [b_or, b_0, Bool.or_false]
theorem h_9 {a1 a2 a3 a4 a5 : Int32} {u : gS × gS} (hu : Inv u) : ∃ t, q9 a1 a2 a3 a4 a5 u = some (.inl t) ∧ Inv t := by
  obtain ⟨A, ho, h1, h2⟩ := hu
  have hn := ho.2.1.1
  have h6 := ho.2.2.2.1.1
  have no : Inv (u.1, u.2) := ⟨A, ho, h1, h2⟩
  unfold q9
  generalize bz a3 = a3
  suffices hs : ∃ v s1 s2, pX10_moved a1 a2 a3 u.1 = some (v, s1) ∧ pX11_moved a1 a2 a3 u.2 = some (v, s2) ∧ Inv (s1, s2) by
    obtain ⟨v, s1, s2, e1, e2, e3⟩ := hs
    refine ⟨(s1, s2), ?_, e3⟩
    rw [e1, bn2_s, e2, bn2_s, if_pos rfl]
  unfold pX10_moved pX11_moved
  rw [hasC ho h1, isPR ho h2, inR, inRR, in_b]
  simp only [bn1_s]
  by_cases hx : ixB (aPn A) a1 = true
  case neg =>
    have hx' : ixB (aPn A) a1 = false := by simpa using hx
    simp only [hx', if_b0]
    exact ⟨-1, u.1, u.2, rfl, rfl, no⟩
  by_cases hy : (0 : Int32) ≤ a2 ∧ a2 ≤ 30
  case neg =>
    simp only [hx, decide_eq_false hy, if_b0, if_b1]
    exact ⟨-1, u.1, u.2, rfl, rfl, no⟩
  simp only [hx, decide_eq_true hy, if_b1]
  obtain ⟨p, hp, rfl⟩ := ix_T (by omega) hx
  obtain ⟨m, -, hm, rfl⟩ := in_T (a := 0) (c := 30) (by decide) (by decide) hy
  have hm0 := (ho.2.1.2 p hp).1
  have ht := traitC (j := 0) ho h1 hp (by decide)
  simp only [show nI 0 = 0 from rfl] at ht
  obtain ⟨L, hL, hL2, hT⟩ := h2.2.2.2.1
  obtain ⟨s1, e1, f1⟩ := upAtC (pl := nI (aPt A p 0)) ho h1 hp
  have em : -nI m = iZ (-(m : Int) + (0 : Nat)) := by
    apply Int32.toInt_inj.mp
    rw [iZ_t (by omega) (by omega), fb_negI (by rw [nI_toInt (by omega)]; omega), nI_toInt (by omega)]
    omega
  have mk : (if a3 = 0 then gx (u.2.1 0 18) 2 (some (((1 : Int32) <<< ((u.2.1 11 (u.2.1 0 18).toNatClampNeg) &&& (31 : Int32))) - (1 : Int32))) else some (0 : Int32)) = some (if a3 = 0 then ((1 : Int32) <<< (nI (nSg (aTd A)) &&& (31 : Int32))) - 1 else 0) := by
    rw [hL2, gx_i hL (by decide), nI_clamp (by omega), hT.1.1]
    split <;> rfl
  rw [ht, bn1_s, e1, bn2_s, mk, bn1_s, lt_b, lt_b, em]
  let U : Int32 := bitsN (upB A p (nI (aPt A p 0))) (nSg (aTd A))
  let J : Int32 → Int32 := fun y => if a3 = 0 then U &&& y else U ||| y
  apply ans_bn1 (P := fun w x => Inv (w, x))
  refine lp_two (fun k (z : Int32 × Int32 × gS) (y : Int32 × Int32 × gS) => z.1 = iZ (-(m : Int) + k) ∧ y.1 = iZ (-(m : Int) + k) ∧ z.2.1 = J y.2.1 ∧ (m < k → J y.2.1 = y.2.1) ∧ fr scC u.1 z.2.2 ∧ fr scR u.2 y.2.2) (2 * m + 1) ?_ ?_ (k := 0) (by omega) ⟨rfl, rfl, ?_, fun h => absurd h (Nat.not_lt_zero m), f1, fr_rf⟩
  · rintro k ⟨z, w, σ⟩ ⟨y, w', τ⟩ hk ⟨rfl, rfl, hw, hJ, hf, hg⟩
    dsimp only at hw hJ hf hg ⊢
    have hC := RC_sc hf h1
    have hR := RR_sc hg h2
    have c1 : ¬ nI m < iZ (-(m : Int) + k) := by rw [iZ_lt (by omega) (by omega) (by omega)]; omega
    have ey : nI (aPt A p 0) + iZ (-(m : Int) + k) = iZ (((aPt A p 0 + k + 30 - m : Nat) : Int) - 30) := by
      rw [nI_iZ (by omega) (by omega) (by omega)]
      congr 1
      omega
    have fm := fmod_all (aPt A p 0 + k + 30 - m) (by omega)
    generalize hpl : (iZ (((aPt A p 0 + k + 30 - m : Nat) : Int) - 30) + 60) - (iZ (((aPt A p 0 + k + 30 - m : Nat) : Int) - 30) + 60) / 60 * 60 = pl at fm
    obtain ⟨s2, e2, f2⟩ := upAtC (pl := pl) ho hC hp
    obtain ⟨t2, g2, k2⟩ := signsOfR (pl := pl) ho hR hp
    have k2' : fr scR τ t2 := fr_up (fun o k q => o334_sc q) k2
    rw [if_neg c1, if_neg c1, ey, fm, bn1_s, e2, bn2_s, gx_i (by omega) (by decide), g0_p (by decide), nI_clamp (by omega), (hR.2.1.2 p hp).1, ey, hpl, g2, bn2_s]
    have e3 : iZ (-(m : Int) + k) + 1 = iZ (-(m : Int) + (k + 1 : Nat)) := by
      rw [iZ_1 (by omega) (by omega)]
      congr 1
      omega
    have own : k = m → bitsN (upB A p pl) (nSg (aTd A)) = U := fun q => by
      have : pl = nI (aPt A p 0) := by
        rw [← hpl]
        have e : iZ (((aPt A p 0 + k + 30 - m : Nat) : Int) - 30) = nI (aPt A p 0) := by
          apply Int32.toInt_inj.mp
          rw [iZ_t (by omega) (by omega), nI_toInt (by omega)]
          omega
        rw [e]
        exact fmod_0 _ hm0
      rw [this]
    generalize bitsN (upB A p pl) (nSg (aTd A)) = X at own ⊢
    by_cases h0 : a3 = 0
    · have J0 : ∀ y, J y = U &&& y := fun y => if_pos h0
      simp only [if_pos h0, lt_b, e3]
      rw [J0] at hw
      refine Or.inl ⟨_, _, rfl, rfl, rfl, rfl, ?_, fun hmk => ?_, fr_tr hf f2, fr_tr hg k2'⟩
      · show w &&& X = J (w' &&& X)
        rw [J0, hw, a_as]
      · show J (w' &&& X) = w' &&& X
        rw [J0]
        by_cases hq : k = m
        · rw [own hq, a_sw]
        · have := hJ (by omega)
          rw [J0] at this
          rw [← a_as, this]
    · have J1 : ∀ y, J y = U ||| y := fun y => if_neg h0
      simp only [if_neg h0, lt_b, e3]
      rw [J1] at hw
      refine Or.inl ⟨_, _, rfl, rfl, rfl, rfl, ?_, fun hmk => ?_, fr_tr hf f2, fr_tr hg k2'⟩
      · show w ||| X = J (w' ||| X)
        rw [J1, hw, o_as]
      · show J (w' ||| X) = w' ||| X
        rw [J1]
        by_cases hq : k = m
        · rw [own hq, o_sw]
        · have := hJ (by omega)
          rw [J1] at this
          rw [← o_as, this]
  · rintro ⟨z, w, σ⟩ ⟨y, w', τ⟩ ⟨rfl, rfl, hw, hJ, hf, hg⟩
    dsimp only at hw hJ hf hg ⊢
    have c1 : nI m < iZ (-(m : Int) + (2 * m + 1 : Nat)) := by rw [iZ_lt (by omega) (by omega) (by omega)]; omega
    rw [if_pos c1, if_pos c1, hw, hJ (by omega)]
    exact ⟨_, _, rfl, rfl, _, _, _, rfl, rfl, ask ho h1 h2 hf hg⟩
  · show U = J (if a3 = 0 then ((1 : Int32) <<< (nI (nSg (aTd A)) &&& (31 : Int32))) - 1 else 0)
    by_cases h0 : a3 = 0
    · show U = if a3 = 0 then _ else _
      rw [if_pos h0, if_pos h0]
      exact (and_mk (by omega)).symm
    · show U = if a3 = 0 then _ else _
      rw [if_neg h0, if_neg h0, o_z]
