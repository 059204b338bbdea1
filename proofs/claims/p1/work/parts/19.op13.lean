/-! p1: what calls do on a new object, worked out. -/
set_option maxRecDepth 100000 in
theorem p1_op13 : p1_go p1_dd (fun _ _ _ _ => none) 100000 622 [] = true := by decide +kernel
set_option maxRecDepth 100000 in
theorem p1_op14 : p1_go p1_dd (fun _ _ _ _ => none) 100000 656 [] = true := by decide +kernel
