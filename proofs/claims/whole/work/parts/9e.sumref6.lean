/-! read: the reference's sum: a number, a VAR -/
section EXR6
variable {N : Nat} {tk pl : Nat → Nat} {vl : Nat → Int64}
theorem lpU_a (hT : TkOK N tk pl) {k : Nat} {τ τ' : gS} (h : rdR N tk pl vl k τ) (hk : k < N) (ht : tk k ≠ 34) (e : pX11_unit τ = some τ') (h0 : τ'.1 0 13 = 0) : lpU τ = lpC τ' := by
  have hi : pX11_is (6 : Int32) τ = some (b01 (decide (tk k = 34))) := isR (K := 34) hT h hk (by decide)
  have e1 : inO τ = some (.inr τ) := by
    unfold inO
    rw [hi, bn1_s, decide_eq_false ht, if_b0]
  unfold lpU lpC bodyU
  rw [lpP_inr e1, bn1_s, e, bn1_s, h0, if_pos (show (0 : Int32) ≤ 0 by decide)]
theorem lpU_f (hT : TkOK N tk pl) {L k f p : Nat} {τ τ' : gS} (h : rdR N tk pl vl k τ) (hk : k < N) (ht : tk k ≠ 34) (e : pX11_unit τ = some τ') (hf : fpO f p) (h0 : spR N tk pl vl f p τ') (hx : fr (xH L) τ τ') : RS N tk pl vl L f p τ (lpU τ) := by
  have hi : pX11_is (6 : Int32) τ = some (b01 (decide (tk k = 34))) := isR (K := 34) hT h hk (by decide)
  have e1 : inO τ = some (.inr τ) := by
    unfold inO
    rw [hi, bn1_s, decide_eq_false ht, if_b0]
  refine ⟨.inr τ', τ', ?_, rfl, h0, hx⟩
  unfold lpU bodyU
  rw [lpP_inr e1, bn1_s, e, bn1_s, h0.1, if_neg (show ¬ nI f ≤ 0 from nI_nle (by have := hf.1; omega) (by have := hf.1; omega))]
  rfl
theorem unit_int (hT : TkOK N tk pl) {k x : Nat} {τ s36 s38 : gS} (h : rdR N tk pl vl k τ) (hk : k < N) (ht : tk k = 24) (hx : τ.1 5 k = nI x) (e1 : pX11_emit 0 (nI x) τ = some s36) (e2 : pX11_goesOn s36 = some s38) : pX11_unit τ = some s38 := by
  have hk4 := k_400 hT hk
  have hi : pX11_is (2 : Int32) τ = some (b01 (decide (tk k = 24))) := isR (K := 24) hT h hk (by decide)
  unfold pX11_unit
  rw [hi, bn1_s, decide_eq_true ht, if_b1, h.1, gx_i (by omega) (by decide), nI_clamp (by omega), hx, e1, bn1_s, e2, bn1_s]
end EXR6
