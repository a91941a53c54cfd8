/-! THE MODEL: what both sides hold, in words of neither -/
/-- only places of P may differ -/
def fr (P : Nat → Nat → Bool) (σ τ : gS) : Prop := ∀ o k, P o k = false → τ.1 o k = σ.1 o k ∧ τ.2.1 o k = σ.2.1 o k ∧ τ.2.2 o k = σ.2.2 o k
theorem fr_rf {P : Nat → Nat → Bool} {σ : gS} : fr P σ σ := fun _ _ _ => ⟨rfl, rfl, rfl⟩
theorem fr_tr {P : Nat → Nat → Bool} {σ τ υ : gS} (h : fr P σ τ) (h2 : fr P τ υ) : fr P σ υ := fun o k hp => by
  obtain ⟨a1, a2, a3⟩ := h o k hp
  obtain ⟨b1, b2, b3⟩ := h2 o k hp
  exact ⟨b1.trans a1, b2.trans a2, b3.trans a3⟩
theorem fr_up {P Q : Nat → Nat → Bool} {σ τ : gS} (hs : ∀ o k, Q o k = false → P o k = false) (h : fr P σ τ) : fr Q σ τ := fun o k hq => h o k (hs o k hq)
theorem fr_wI {P : Nat → Nat → Bool} {σ : gS} {o k : Nat} {v : Int32} (h : P o k = true) : fr P σ (wI σ o k v) := fun o' k' hp => by
  refine ⟨?_, rfl, rfl⟩
  rw [wI_1, if_neg]
  rintro ⟨rfl, rfl⟩
  rw [h] at hp; cases hp
theorem fr_wL {P : Nat → Nat → Bool} {σ : gS} {o k : Nat} {v : Int64} (h : P o k = true) : fr P σ (wL σ o k v) := fun o' k' hp => by
  refine ⟨rfl, ?_, rfl⟩
  rw [wL_2, if_neg]
  rintro ⟨rfl, rfl⟩
  rw [h] at hp; cases hp
theorem fr_wR {P : Nat → Nat → Bool} {σ : gS} {o k v : Nat} (h : P o k = true) : fr P σ (wR σ o k v) := fun o' k' hp => by
  refine ⟨rfl, rfl, ?_⟩
  rw [wR_3, if_neg]
  rintro ⟨rfl, rfl⟩
  rw [h] at hp; cases hp
theorem fr_1 {P : Nat → Nat → Bool} {σ τ : gS} (h : fr P σ τ) {o k : Nat} (hp : P o k = false) : τ.1 o k = σ.1 o k := (h o k hp).1
theorem fr_2 {P : Nat → Nat → Bool} {σ τ : gS} (h : fr P σ τ) {o k : Nat} (hp : P o k = false) : τ.2.1 o k = σ.2.1 o k := (h o k hp).2.1
theorem fr_3 {P : Nat → Nat → Bool} {σ τ : gS} (h : fr P σ τ) {o k : Nat} (hp : P o k = false) : τ.2.2 o k = σ.2.2 o k := (h o k hp).2.2
/-- a formula's steps: 0 a number, 1 a VAR, 2 +, 3 -, 4 times; a literal: or, not, how it compares, left, right -/
abbrev cEl : Type := Nat × Int32
abbrev lEl : Type := Bool × Bool × Nat × List cEl × List cEl
/-- the class's place of the reference's VAR j -/
def piV (j : Nat) : Nat := if j < 8 then j + 4 else if j < 12 then j - 8 else j
def cm1 (q : cEl) : Int32 × Int32 := if q.1 = 0 then (24, q.2) else if q.1 = 1 then (9, nI (piV q.2.toNatClampNeg)) else if q.1 = 2 then (27, 0) else if q.1 = 3 then (28, 0) else (29, 0)
def cmL (l : lEl) : List (Int32 × Int32) := l.2.2.2.1.map cm1 ++ l.2.2.2.2.map cm1 ++ [(nI (30 + l.2.2.1), 0)] ++ (if l.2.1 then [(8, 0)] else [])
/-- what comes behind a literal: the 'or' that waits, where no 'and' follows -/
def cmN (ao : Bool) (ls : List lEl) : List (Int32 × Int32) := match ls with
  | [] => if ao then [(6, 0)] else []
  | m :: _ => if m.1 && ao then [(6, 0)] else []
def aoN (ao : Bool) (ls : List lEl) : Bool := match ls with
  | [] => false
  | m :: _ => m.1 || ao
def cmC : Bool → List lEl → List (Int32 × Int32)
  | _, [] => []
  | ao, l :: ls => cmL l ++ (if l.1 then [] else [(7, 0)]) ++ cmN ao ls ++ cmC (aoN ao ls) ls
/-- how high a pile stands behind steps: never too low, never above m -/
def hgE : List cEl → Nat → Nat → Option Nat
  | [], h, _ => some h
  | q :: cs, h, m => if q.1 < 2 then (if h < m then hgE cs (h + 1) m else none) else if 2 ≤ h then hgE cs (h - 1) m else none
def okE (q : cEl) : Prop := q.1 ≤ 4 ∧ (q.1 = 1 → ∃ j, j ≤ 20 ∧ q.2 = nI j)
def wfE (c : List cEl) : Prop := hgE c 0 18 = some 1 ∧ ∀ q ∈ c, okE q
def wfL (l : lEl) : Prop := wfE l.2.2.2.1 ∧ wfE l.2.2.2.2 ∧ l.2.2.1 ≤ 3
def wfC (ls : List lEl) : Prop := (∃ l t, ls = l :: t ∧ l.1 = true) ∧ ∀ l ∈ ls, wfL l
/-- a text: how many signs, says, books, whens, laws; sorts; whens; conditions by rule; laws -/
abbrev Tld : Type := (Nat × Nat × Nat × Nat × Nat) × (Nat → Nat) × (Nat → Nat) × (Nat → Nat) × (Nat → Nat) × (Nat → List lEl) × (Nat → List cEl)
def nSg (Θ : Tld) : Nat := Θ.1.1
def nSy (Θ : Tld) : Nat := Θ.1.2.1
def nBk (Θ : Tld) : Nat := Θ.1.2.2.1
def nWh (Θ : Tld) : Nat := Θ.1.2.2.2.1
def nLw (Θ : Tld) : Nat := Θ.1.2.2.2.2
def srt (Θ : Tld) : Nat → Nat := Θ.2.1
def wBk (Θ : Tld) : Nat → Nat := Θ.2.2.1
def wSg (Θ : Tld) : Nat → Nat := Θ.2.2.2.1
def wSy (Θ : Tld) : Nat → Nat := Θ.2.2.2.2.1
def cnd (Θ : Tld) : Nat → List lEl := Θ.2.2.2.2.2.1
def lwc (Θ : Tld) : Nat → List cEl := Θ.2.2.2.2.2.2
def TdT (Θ : Tld) : Prop := (nSg Θ ≤ 6 ∧ nSy Θ ≤ 16 ∧ nBk Θ ≤ 4 ∧ nWh Θ ≤ 40 ∧ nLw Θ ≤ 4) ∧ (∀ k, k < nSy Θ → srt Θ k ≤ 6) ∧ (∀ k, k < nWh Θ → wBk Θ k < nBk Θ ∧ wSg Θ k < nSg Θ ∧ wSy Θ k < nSy Θ) ∧ (∀ k, k < nSg Θ → wfC (cnd Θ k)) ∧ (∀ k, k < nSy Θ → wfC (cnd Θ (6 + k))) ∧ ∀ k, k < nLw Θ → wfE (lwc Θ k)
def stC (r : Nat) (σ : gS) (s : Nat) (c : List (Int32 × Int32)) : Prop := ∀ i q, c[i]? = some q → σ.1 (r + 7) (s + i) = q.1 ∧ σ.1 (r + 8) (s + i) = q.2
def fmC (r : Nat) (σ : gS) (f : Nat) (c : List (Int32 × Int32)) : Prop := ∃ s z, s + c.length ≤ z ∧ z ≤ 400 ∧ σ.1 r 13 = nI z ∧ σ.1 (r + 5) f = nI s ∧ σ.1 (r + 6) f = nI (s + c.length) ∧ stC r σ s c
/-- the class's text r holds Θ -/
def TdC (Θ : Tld) (r : Nat) (σ : gS) : Prop := (σ.1 r 0 = nI (nSg Θ) ∧ σ.1 r 1 = nI (nSy Θ) ∧ σ.1 r 2 = nI (nBk Θ) ∧ σ.1 r 3 = nI (nWh Θ) ∧ σ.1 r 4 = nI (nLw Θ)) ∧ (∀ k, k < nSy Θ → σ.1 (r + 1) k = nI (srt Θ k)) ∧ (∀ k, k < nWh Θ → σ.1 (r + 2) k = nI (wBk Θ k) ∧ σ.1 (r + 3) k = nI (wSg Θ k) ∧ σ.1 (r + 4) k = nI (wSy Θ k)) ∧ (∀ k, k < nSg Θ → fmC r σ k (cmC false (cnd Θ k))) ∧ (∀ k, k < nSy Θ → fmC r σ (6 + k) (cmC false (cnd Θ (6 + k)))) ∧ ∀ k, k < nLw Θ → fmC r σ (22 + k) ((lwc Θ k).map cm1)
def cdR (τ : gS) (s : Nat) (c : List cEl) : Prop := ∀ i q, c[i]? = some q → τ.1 30 (s + i) = nI q.1 ∧ τ.1 31 (s + i) = q.2
def b01 (b : Bool) : Int32 := if b then 1 else 0
def ltR (τ : gS) (i : Nat) (x : lEl) : Prop := τ.1 24 i = nI x.2.2.1 ∧ τ.1 25 i = b01 x.2.1 ∧ τ.1 26 i = b01 x.1 ∧ ∃ a, (i < 300 ∧ 420 * (i / 150) ≤ a ∧ a + x.2.2.2.1.length + x.2.2.2.2.length ≤ 420 * (i / 150) + 420) ∧ τ.1 27 i = nI a ∧ τ.1 28 i = nI (a + x.2.2.2.1.length) ∧ τ.1 29 i = nI (a + x.2.2.2.1.length + x.2.2.2.2.length) ∧ cdR τ a (x.2.2.2.1 ++ x.2.2.2.2)
def cnR (τ : gS) (r : Nat) (ls : List lEl) : Prop := ∃ s, (r < 52 ∧ 150 * (r / 26) ≤ s ∧ s + ls.length ≤ 150 * (r / 26) + 150) ∧ τ.1 20 r = nI s ∧ τ.1 21 r = nI (s + ls.length) ∧ ∀ i x, ls[i]? = some x → ltR τ (s + i) x
def lwR (τ : gS) (r : Nat) (c : List cEl) : Prop := ∃ s, (r < 52 ∧ 420 * (r / 26) ≤ s ∧ s + c.length ≤ 420 * (r / 26) + 420) ∧ τ.1 22 r = nI s ∧ τ.1 23 r = nI (s + c.length) ∧ cdR τ s c
/-- the reference's side L holds Θ -/
def TdR (Θ : Tld) (L : Nat) (τ : gS) : Prop := (τ.1 11 L = nI (nSg Θ) ∧ τ.1 12 L = nI (nSy Θ) ∧ τ.1 13 L = nI (nBk Θ) ∧ τ.1 16 L = nI (nWh Θ) ∧ τ.1 14 L = nI (nLw Θ)) ∧ (∀ k, k < nSy Θ → τ.1 15 (16 * L + k) = nI (srt Θ k)) ∧ (∀ k, k < nWh Θ → τ.1 17 (40 * L + k) = nI (wBk Θ k) ∧ τ.1 18 (40 * L + k) = nI (wSg Θ k) ∧ τ.1 19 (40 * L + k) = nI (wSy Θ k)) ∧ (∀ k, k < nSg Θ → cnR τ (26 * L + k) (cnd Θ k)) ∧ (∀ k, k < nSy Θ → cnR τ (26 * L + 6 + k) (cnd Θ (6 + k))) ∧ ∀ k, k < nLw Θ → lwR τ (26 * L + 22 + k) (lwc Θ k)
/-- tape: how many bytes, which; people: how many, their traits; facts: how many, kinds, subjects, values; the text; the place of the last fault -/
abbrev Abs : Type := (Nat × (Nat → Nat)) × (Nat × (Nat → Nat → Nat)) × (Nat × (Nat → Nat) × (Nat → Nat) × (Nat → Nat)) × Tld × Int32
def aTn (A : Abs) : Nat := A.1.1
def aTb (A : Abs) : Nat → Nat := A.1.2
def aPn (A : Abs) : Nat := A.2.1.1
def aPt (A : Abs) : Nat → Nat → Nat := A.2.1.2
def aFn (A : Abs) : Nat := A.2.2.1.1
def aFk (A : Abs) : Nat → Nat := A.2.2.1.2.1
def aFa (A : Abs) : Nat → Nat := A.2.2.1.2.2.1
def aFv (A : Abs) : Nat → Nat := A.2.2.1.2.2.2
def aTd (A : Abs) : Tld := A.2.2.2.1
def aPl (A : Abs) : Int32 := A.2.2.2.2
/-- a PERSON's traits are what they may be: slots of the class -/
def okP (t : Nat → Nat) : Prop := t 0 < 60 ∧ t 1 < 12 ∧ t 2 < 10 ∧ t 3 < 4 ∧ ∀ j, 4 ≤ j → j < 12 → t j < 10
/-- a FACT: 0 right, 1 missed, 2 on, 3 left, 4 tried, 5 void -/
def okF (A : Abs) (i : Nat) : Prop := (aFk A i ≤ 1 → aFa A i < 20 ∧ 1 ≤ aFv A i ∧ aFv A i ≤ 5) ∧ (aFk A i = 2 ∨ aFk A i = 3 → aFa A i < 20 ∧ aFv A i = 0) ∧ (aFk A i = 4 → aFa A i < 6 ∧ aFv A i < 10) ∧ (aFk A i = 5 → aFa A i < i ∧ aFk A (aFa A i) ≠ 5 ∧ aFv A i = 0) ∧ aFk A i ≤ 5
def okA (A : Abs) : Prop := (aTn A ≤ 2000 ∧ ∀ i, i < aTn A → aTb A i < 256) ∧ (aPn A ≤ 20 ∧ ∀ p, p < aPn A → okP (aPt A p)) ∧ (aFn A ≤ 60 ∧ ∀ i, i < aFn A → okF A i) ∧ TdT (aTd A)
/-- the class holds A -/
def RC (A : Abs) (σ : gS) : Prop := (σ.1 1 1 = nI (aTn A) ∧ ∀ i, i < aTn A → σ.1 2 i = nI (aTb A i)) ∧ (σ.1 21 1 = nI (aPn A) ∧ ∀ p j, p < aPn A → j < 12 → σ.1 22 (p * 12 + j) = nI (aPt A p j)) ∧ (σ.1 39 4 = nI (aFn A) ∧ ∀ i, i < aFn A → σ.1 40 i = nI (aFk A i) ∧ σ.1 41 i = nI (aFa A i) ∧ σ.1 42 i = nI (aFv A i)) ∧ (∃ r, tR r = true ∧ σ.2.2 23 0 = r ∧ σ.2.2 3 1 = 33 - r ∧ TdC (aTd A) r σ) ∧ σ.1 3 7 = aPl A ∧ (∀ j, j < 23 → σ.2.1 8 j = wdC j) ∧ ∀ n k, n ≤ 20 → k ≤ 20 → σ.2.1 45 (n * 21 + k) = lN (pc n k)
def kR (k : Nat) : Nat := if k ≤ 1 then 0 else k - 1
/-- the reference holds A -/
def RR (A : Abs) (τ : gS) : Prop := (τ.1 0 2 = nI (aTn A) ∧ ∀ i, i < aTn A → τ.1 1 i &&& 255 = nI (aTb A i)) ∧ (τ.1 0 51 = nI (aPn A) ∧ ∀ p, p < aPn A → τ.1 35 p = nI (aPt A p 0) ∧ τ.1 36 p = nI (aPt A p 1) ∧ τ.1 37 p = nI (aPt A p 2) ∧ τ.1 38 p = nI (aPt A p 3) ∧ ∀ j, j < 8 → τ.1 39 (8 * p + j) = nI (aPt A p (4 + j))) ∧ (τ.1 0 60 = nI (aFn A) ∧ ∀ i, i < aFn A → τ.1 43 i = nI (kR (aFk A i)) ∧ τ.1 44 i = nI (aFa A i) ∧ τ.1 45 i = nI (aFv A i) ∧ τ.1 46 i = b01 (aFk A i == 0)) ∧ (∃ L, L < 2 ∧ τ.1 0 18 = nI L ∧ TdR (aTd A) L τ) ∧ τ.1 0 17 = aPl A ∧ ∀ j, j < 23 → τ.2.1 7 j = wdR j
def Inv (u : gS × gS) : Prop := ∃ A, okA A ∧ RC A u.1 ∧ RR A u.2
/-- the class's scratch, the reference's scratch: what a question may write -/
def scC (o k : Nat) : Bool := (o == 33 && k == 2) || o == 34 || o == 35 || o == 36 || o == 37 || o == 38 || o == 43 || o == 46 || o == 47 || o == 48 || o == 49 || o == 50
def scR (o _k : Nat) : Bool := o == 33 || o == 34 || o == 40 || o == 41 || o == 42
theorem fmC_fr {P : Nat → Nat → Bool} {r : Nat} {σ τ : gS} (h : fr P σ τ) (h1 : P r 13 = false) (h5 : ∀ k, P (r + 5) k = false) (h6 : ∀ k, P (r + 6) k = false) (h7 : ∀ k, P (r + 7) k = false) (h8 : ∀ k, P (r + 8) k = false) {f : Nat} {c : List (Int32 × Int32)} (hf : fmC r σ f c) : fmC r τ f c := by
  obtain ⟨s, z, g1, g2, g3, g4, g5, g6⟩ := hf
  exact ⟨s, z, g1, g2, (fr_1 h h1).trans g3, (fr_1 h (h5 f)).trans g4, (fr_1 h (h6 f)).trans g5, fun i q hq => ⟨(fr_1 h (h7 _)).trans (g6 i q hq).1, (fr_1 h (h8 _)).trans (g6 i q hq).2⟩⟩
theorem TdC_fr {P : Nat → Nat → Bool} {r : Nat} {Θ : Tld} {σ τ : gS} (h : fr P σ τ) (hr : ∀ j k, j ≤ 8 → P (r + j) k = false) (ht : TdC Θ r σ) : TdC Θ r τ := by
  obtain ⟨⟨a1, a2, a3, a4, a5⟩, b, c, d, e, f⟩ := ht
  have h0 : ∀ k, P r k = false := fun k => hr 0 k (by omega)
  have hf : ∀ {f : Nat} {c : List (Int32 × Int32)}, fmC r σ f c → fmC r τ f c := fun hf => fmC_fr h (h0 _) (fun k => hr 5 k (by omega)) (fun k => hr 6 k (by omega)) (fun k => hr 7 k (by omega)) (fun k => hr 8 k (by omega)) hf
  refine ⟨⟨(fr_1 h (h0 _)).trans a1, (fr_1 h (h0 _)).trans a2, (fr_1 h (h0 _)).trans a3, (fr_1 h (h0 _)).trans a4, (fr_1 h (h0 _)).trans a5⟩, fun k hk => (fr_1 h (hr 1 _ (by omega))).trans (b k hk), fun k hk => ?_, fun k hk => hf (d k hk), fun k hk => hf (e k hk), fun k hk => hf (f k hk)⟩
  obtain ⟨c1, c2, c3⟩ := c k hk
  exact ⟨(fr_1 h (hr 2 _ (by omega))).trans c1, (fr_1 h (hr 3 _ (by omega))).trans c2, (fr_1 h (hr 4 _ (by omega))).trans c3⟩
/-- places of the class that A speaks of -/
def usC (o k : Nat) : Bool := (o == 1 && k == 1) || o == 2 || (o == 3 && (k == 7 || k == 1)) || o == 8 || (9 ≤ o && o ≤ 17) || (o == 21 && k == 1) || o == 22 || (o == 23 && k == 0) || (24 ≤ o && o ≤ 32) || (o == 39 && k == 4) || o == 40 || o == 41 || o == 42 || o == 45
theorem RC_fr {P : Nat → Nat → Bool} {A : Abs} {σ τ : gS} (h : fr P σ τ) (hP : ∀ o k, usC o k = true → P o k = false) (hr : RC A σ) : RC A τ := by
  obtain ⟨⟨a1, a2⟩, ⟨b1, b2⟩, ⟨c1, c2⟩, ⟨r, d1, d2, d3, d4⟩, e, f, g⟩ := hr
  have u22 : ∀ k, usC 22 k = true := fun k => rfl
  have u2 : ∀ k, usC 2 k = true := fun k => rfl
  refine ⟨⟨(fr_1 h (hP _ _ rfl)).trans a1, fun i hi => (fr_1 h (hP _ _ (u2 i))).trans (a2 i hi)⟩, ⟨(fr_1 h (hP _ _ rfl)).trans b1, fun p j hp hj => (fr_1 h (hP _ _ (u22 _))).trans (b2 p j hp hj)⟩, ⟨(fr_1 h (hP _ _ rfl)).trans c1, fun i hi => ?_⟩, ⟨r, d1, (fr_3 h (hP _ _ rfl)).trans d2, (fr_3 h (hP _ _ rfl)).trans d3, TdC_fr h (fun j k hj => hP _ _ ?_) d4⟩, (fr_1 h (hP _ _ rfl)).trans e, fun j hj => (fr_2 h (hP 8 j rfl)).trans (f j hj), fun n k hn hk => (fr_2 h (hP 45 _ rfl)).trans (g n k hn hk)⟩
  · obtain ⟨g1, g2, g3⟩ := c2 i hi
    exact ⟨(fr_1 h (hP 40 i rfl)).trans g1, (fr_1 h (hP 41 i rfl)).trans g2, (fr_1 h (hP 42 i rfl)).trans g3⟩
  · rcases tR_or d1 with rfl | rfl
    · rcases (show j = 0 ∨ j = 1 ∨ j = 2 ∨ j = 3 ∨ j = 4 ∨ j = 5 ∨ j = 6 ∨ j = 7 ∨ j = 8 by omega) with rfl | rfl | rfl | rfl | rfl | rfl | rfl | rfl | rfl <;> rfl
    · rcases (show j = 0 ∨ j = 1 ∨ j = 2 ∨ j = 3 ∨ j = 4 ∨ j = 5 ∨ j = 6 ∨ j = 7 ∨ j = 8 by omega) with rfl | rfl | rfl | rfl | rfl | rfl | rfl | rfl | rfl <;> rfl
