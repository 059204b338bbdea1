/-! p1: what calls do on a new object, worked out. -/
set_option maxRecDepth 100000 in
theorem p1_op23 : p1_go p1_dd dr_hk 100000 965 [] = true := by decide +kernel
