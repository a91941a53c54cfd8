def zS0 : gS := (fun _ _ => 0, fun _ _ => 0, fun _ _ => 0)
/-- the reference, as it is made, ahead of its words -/
def zS1 : gS := (fun o k => if o = 0 ∧ k = 17 then -1 else 0, fun _ _ => 0, fun _ _ => 0)
