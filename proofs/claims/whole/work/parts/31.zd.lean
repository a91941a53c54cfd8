def zS0 : gS := (fun _ _ => 0, fun _ _ => 0, fun _ _ => 0)
noncomputable def zTX0 : gS := (tX0 zS0).getD zS0
noncomputable def zTX8 : gS := (tX8 zS0).getD zS0
