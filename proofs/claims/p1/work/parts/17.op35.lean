/-! p1: what calls do on a new object, worked out. -/
set_option maxRecDepth 100000 in
theorem p1_op35 : p1_go p1_dd (fun _ _ _ _ => none) 100000 1251 [] = true := by decide +kernel
