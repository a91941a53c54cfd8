/-! how many bits -/
def mkM (m : Nat) : Nat → Nat
  | 0 => 0
  | n + 1 => m + 256 * mkM m n
theorem and_dig {a m : Nat} (A M : Nat) (ha : a < 256) (hm : m < 256) : (a + 256 * A) &&& (m + 256 * M) = (a &&& m) + 256 * (A &&& M) := by
  have h1 : ((a + 256 * A) &&& (m + 256 * M)) % 2 ^ 8 = (a &&& m) := by
    rw [Nat.and_mod_two_pow, show (a + 256 * A) % 2 ^ 8 = a by omega, show (m + 256 * M) % 2 ^ 8 = m by omega]
  have h2 : ((a + 256 * A) &&& (m + 256 * M)) / 2 ^ 8 = (A &&& M) := by
    rw [Nat.and_div_two_pow, show (a + 256 * A) / 2 ^ 8 = A by omega, show (m + 256 * M) / 2 ^ 8 = M by omega]
  generalize (a + 256 * A) &&& (m + 256 * M) = x at *
  generalize a &&& m = y at *
  generalize A &&& M = z at *
  omega
def pe1 (b : Nat) : Nat := b - (b / 2 &&& 85)
def pe2 (a : Nat) : Nat := (a &&& 51) + (a / 4 &&& 51)
def pe3 (d : Nat) : Nat := d + d / 16 &&& 15
theorem t1_a : ∀ b, b < 256 → ∀ c, c < 2 → ((b / 2 + 128 * c) &&& 85) = (b / 2 &&& 85) := by decide +kernel
theorem t1_b : ∀ b, b < 256 → (b / 2 &&& 85) ≤ b ∧ pe1 b < 256 := by decide +kernel
theorem t2_a : ∀ a, a < 256 → ∀ c, c < 4 → ((a / 4 + 64 * c) &&& 51) = (a / 4 &&& 51) := by decide +kernel
theorem t2_b : ∀ b, b < 256 → pe2 (pe1 b) ≤ 68 ∧ pe2 (pe1 b) % 16 ≤ 4 := by decide +kernel
theorem t3_a : ∀ d, d < 69 → ∀ c, c < 5 → ((d + d / 16 + 16 * c) &&& 15) = (d + d / 16 &&& 15) := by decide +kernel
theorem t3_b : ∀ b, b < 256 → pe3 (pe2 (pe1 b)) = fb_ct (fun i => b.testBit i) 8 := by decide +kernel
def pf1 (n W : Nat) : Nat := W - (W / 2 &&& mkM 85 n)
def pf2 (n x : Nat) : Nat := (x &&& mkM 51 n) + (x / 4 &&& mkM 51 n)
def pf3 (n y : Nat) : Nat := (y + y / 16) &&& mkM 15 n
theorem f1_s {n b W : Nat} (hb : b < 256) : pf1 (n + 1) (b + 256 * W) = pe1 b + 256 * pf1 n W := by
  unfold pf1 pe1
  have h : (b + 256 * W) / 2 = (b / 2 + 128 * (W % 2)) + 256 * (W / 2) := by omega
  show b + 256 * W - ((b + 256 * W) / 2 &&& (85 + 256 * mkM 85 n)) = _
  rw [h, and_dig _ _ (by omega) (by decide), t1_a b hb _ (by omega)]
  have h1 := (t1_b b hb).1
  have h2 : (W / 2 &&& mkM 85 n) ≤ W := Nat.le_trans Nat.and_le_left (by omega)
  omega
theorem f2_s {n a x : Nat} (ha : a < 256) : pf2 (n + 1) (a + 256 * x) = pe2 a + 256 * pf2 n x := by
  unfold pf2 pe2
  have h : (a + 256 * x) / 4 = (a / 4 + 64 * (x % 4)) + 256 * (x / 4) := by omega
  show ((a + 256 * x) &&& (51 + 256 * mkM 51 n)) + ((a + 256 * x) / 4 &&& (51 + 256 * mkM 51 n)) = _
  rw [h, and_dig _ _ ha (by decide), and_dig _ _ (by omega) (by decide), t2_a a ha _ (by omega)]
  omega
theorem f3_s {n d y : Nat} (hd : d < 69) (hy : y % 16 ≤ 4) : pf3 (n + 1) (d + 256 * y) = pe3 d + 256 * pf3 n y := by
  unfold pf3 pe3
  have h : d + 256 * y + (d + 256 * y) / 16 = (d + d / 16 + 16 * (y % 16)) + 256 * (y + y / 16) := by omega
  show (d + 256 * y + (d + 256 * y) / 16) &&& (15 + 256 * mkM 15 n) = _
  rw [h, and_dig _ _ (by omega) (by decide), t3_a d hd _ (by omega)]
theorem f21_16 : ∀ n W, pf2 n (pf1 n W) % 16 ≤ 4
  | 0, W => by
    have : pf2 0 (pf1 0 W) = 0 := by
      unfold pf2 mkM
      rw [Nat.and_zero, Nat.and_zero]
    omega
  | n + 1, W => by
    have hb : W % 256 < 256 := Nat.mod_lt _ (by decide)
    have := t2_b _ hb
    rw [show W = W % 256 + 256 * (W / 256) by omega, f1_s hb, f2_s (t1_b _ hb).2]
    omega
/-- the digits' sums, and their sum -/
def dgT : Nat → Nat → Nat
  | 0, _ => 0
  | n + 1, W => fb_ct (fun i => (W % 256).testBit i) 8 + 256 * dgT n (W / 256)
theorem f3_T : ∀ n W, pf3 n (pf2 n (pf1 n W)) = dgT n W
  | 0, W => by
    unfold pf3 mkM dgT
    rw [Nat.and_zero]
  | n + 1, W => by
    have hb : W % 256 < 256 := Nat.mod_lt _ (by decide)
    have h := t2_b _ hb
    have e : pf3 (n + 1) (pf2 (n + 1) (pf1 (n + 1) W)) = pf3 (n + 1) (pf2 (n + 1) (pf1 (n + 1) (W % 256 + 256 * (W / 256)))) := by
      rw [show W % 256 + 256 * (W / 256) = W by omega]
    rw [e, f1_s hb, f2_s (t1_b _ hb).2, f3_s (by omega) (f21_16 _ _), f3_T n (W / 256), t3_b _ hb]
    rfl
theorem ct_8 (n W : Nat) : fb_ct (fun i => W.testBit i) (8 + n) = fb_ct (fun i => (W % 256).testBit i) 8 + fb_ct (fun i => (W / 256).testBit i) n := by
  rw [fb_ct_split]
  congr 1
  · exact fb_ct_cong (fun k hk => by
      rw [show 256 = 2 ^ 8 from rfl, Nat.testBit_mod_two_pow, decide_eq_true hk, Bool.true_and])
  · exact fb_ct_cong (fun k hk => by
      rw [show 256 = 2 ^ 8 from rfl, Nat.testBit_div_two_pow, Nat.add_comm])
theorem b8 (x : Nat) : fb_ct (fun i => x.testBit i) 8 ≤ 8 := fb_ct_le _ _
theorem dvB {x y B : Nat} (h : x < B) : (x + B * y) / B = y := by
  rw [Nat.add_mul_div_left _ _ (by omega), Nat.div_eq_of_lt h, Nat.zero_add]
theorem cntA {p0 p1 p2 p3 p4 p5 p6 p7 R1 R2 R3 R4 R5 R6 : Nat} (q0 : p0 ≤ 8) (q1 : p1 ≤ 8) (q2 : p2 ≤ 8) (q3 : p3 ≤ 8) (q4 : p4 ≤ 8) (q5 : p5 ≤ 8) (q6 : p6 ≤ 8) (q7 : p7 ≤ 8) (h1 : R1 = p1 + 256 * R2) (h2 : R2 = p2 + 256 * R3) (h3 : R3 = p3 + 256 * R4) (h4 : R4 = p4 + 256 * R5) (h5 : R5 = p5 + 256 * R6) (h6 : R6 = p6 + 256 * p7) {X : Nat} (hX : X = p0 + 256 * R1) : (X + X / 256 + (X + X / 256) / 65536 + (X + X / 256 + (X + X / 256) / 65536) / 4294967296) % 128 = p0 + (p1 + (p2 + (p3 + (p4 + (p5 + (p6 + p7)))))) := by
  have d1 : X / 256 = R1 := by rw [hX]; exact dvB (by omega)
  have x4 : X + R1 = (p0 + p1 + 256 * (p1 + p2)) + 65536 * (R2 + R3) := by omega
  have d2 : (X + R1) / 65536 = R2 + R3 := by rw [x4]; exact dvB (by omega)
  have x5 : X + R1 + (R2 + R3) = (p0 + p1 + 256 * (p1 + p2) + 65536 * (p2 + p3 + 256 * p3) + p2 + p3 + 256 * p3 + 16777216 * p4 + 65536 * p4 + 16777216 * p5 + 256 * p4 + 65536 * p5 + 16777216 * p6) + 4294967296 * (R4 + R5 + R6 + p7) := by
    rw [x4, h2, h3]
    rw [h4, h5, h6]
    omega
  have d3 : (X + R1 + (R2 + R3)) / 4294967296 = R4 + R5 + R6 + p7 := by rw [x5]; exact dvB (by omega)
  rw [d1, d2, d3, x5]
  clear x4 x5 d1 d2 d3 hX h1 h2 h3
  omega
theorem cntN (W : Nat) : (dgT 8 W + dgT 8 W / 256 + (dgT 8 W + dgT 8 W / 256) / 65536 + (dgT 8 W + dgT 8 W / 256 + (dgT 8 W + dgT 8 W / 256) / 65536) / 4294967296) % 128 = fb_ct (fun i => W.testBit i) 64 := by
  have e : fb_ct (fun i => W.testBit i) 64 = fb_ct (fun i => W.testBit i) (8 + (8 + (8 + (8 + (8 + (8 + (8 + (8 + 0)))))))) := rfl
  rw [e, ct_8, ct_8, ct_8, ct_8, ct_8, ct_8, ct_8, ct_8]
  exact cntA (b8 _) (b8 _) (b8 _) (b8 _) (b8 _) (b8 _) (b8 _) (b8 _) (R1 := dgT 7 (W / 256)) (R2 := dgT 6 (W / 256 / 256)) (R3 := dgT 5 (W / 256 / 256 / 256)) (R4 := dgT 4 (W / 256 / 256 / 256 / 256)) (R5 := dgT 3 (W / 256 / 256 / 256 / 256 / 256)) (R6 := dgT 2 (W / 256 / 256 / 256 / 256 / 256 / 256)) rfl rfl rfl rfl rfl rfl rfl
theorem ushL {n k : Nat} (hn : n < 2 ^ 64) (hk : k < 64) : ushrL (lN n) (nI k) = lN (n / 2 ^ k) := by
  unfold ushrL
  exact wb_shr hn hk
theorem dgB {n B : Nat} (h : ∀ W, dgT n W ≤ B) : ∀ W, dgT (n + 1) W ≤ 8 + 256 * B := fun W => Nat.add_le_add (b8 _) (Nat.mul_le_mul_left _ (h _))
theorem dg8 (W : Nat) : dgT 8 W ≤ 578721382704613384 := by
  have h := dgB (dgB (dgB (dgB (dgB (dgB (dgB (dgB (n := 0) (B := 0) (fun _ => Nat.le_refl 0)))))))) W
  simp only [Nat.reduceMul, Nat.reduceAdd] at h
  exact h
theorem bitCountN {W : Nat} (hW : W < 2 ^ 64) : pJ13_bitCount_95d88 (lN W) = some (nI (fb_ct (fun i => W.testBit i) 64)) := by
  unfold pJ13_bitCount_95d88
  simp only [lt_b]
  have s1 : lN W - (ushrL (lN W) 1 &&& 6148914691236517205) = lN (pf1 8 W) := by
    rw [show (1 : Int32) = nI 1 from rfl, ushL hW (by decide), show (6148914691236517205 : Int64) = lN (mkM 85 8) from rfl, fb_andL, lN_sub (Nat.le_trans Nat.and_le_left (by omega))]
    rfl
  have l1 : pf1 8 W < 2 ^ 64 := by
    unfold pf1; omega
  have s2 : (lN (pf1 8 W) &&& 3689348814741910323) + (ushrL (lN (pf1 8 W)) 2 &&& 3689348814741910323) = lN (pf2 8 (pf1 8 W)) := by
    rw [show (2 : Int32) = nI 2 from rfl, ushL l1 (by decide), show (3689348814741910323 : Int64) = lN (mkM 51 8) from rfl, fb_andL, fb_andL, lN_add]
    rfl
  have l2 : pf2 8 (pf1 8 W) < 2 ^ 64 := by
    unfold pf2
    have a1 : (pf1 8 W &&& mkM 51 8) ≤ mkM 51 8 := Nat.and_le_right
    have a2 : (pf1 8 W / 4 &&& mkM 51 8) ≤ mkM 51 8 := Nat.and_le_right
    have a3 : mkM 51 8 = 3689348814741910323 := rfl
    omega
  have s3 : (lN (pf2 8 (pf1 8 W)) + ushrL (lN (pf2 8 (pf1 8 W))) 4) &&& 1085102592571150095 = lN (dgT 8 W) := by
    rw [show (4 : Int32) = nI 4 from rfl, ushL l2 (by decide), show (1085102592571150095 : Int64) = lN (mkM 15 8) from rfl, lN_add, fb_andL, ← f3_T]
    rfl
  have l3 := dg8 W
  rw [s1, s2, s3]
  generalize hD : dgT 8 W = D at *
  have hD2 : D < 2 ^ 63 := by omega
  rw [show (8 : Int32) = nI 8 from rfl, ushL (by omega) (by decide), lN_add, show (16 : Int32) = nI 16 from rfl, ushL (by omega) (by decide), lN_add, show (32 : Int32) = nI 32 from rfl, ushL (by omega) (by decide), lN_add, lN_i]
  have c := cntN W
  rw [hD] at c
  have m : ∀ x : Nat, nI x &&& 127 = nI (x % 128) := fun x => by
    rw [show (127 : Int32) = nI 127 from rfl, nx_and]
    congr 1
    exact Nat.and_two_pow_sub_one_eq_mod x 7
  rw [m]
  congr 2
