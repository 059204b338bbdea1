/-! p1: what calls do on a new object, worked out. -/
set_option maxRecDepth 100000 in
theorem p1_op0 : p1_go p1_dd (fun _ _ _ _ => none) 100000 212 [] = true := by decide +kernel
set_option maxRecDepth 100000 in
theorem p1_op1 : p1_go p1_dd (fun _ _ _ _ => none) 100000 235 [] = true := by decide +kernel
set_option maxRecDepth 100000 in
theorem p1_op2 : p1_go p1_dd (fun _ _ _ _ => none) 100000 268 [] = true := by decide +kernel
set_option maxRecDepth 100000 in
theorem p1_op3 : p1_go p1_dd (fun _ _ _ _ => none) 100000 311 [] = true := by decide +kernel
set_option maxRecDepth 100000 in
theorem p1_op4 : p1_go p1_dd (fun _ _ _ _ => none) 100000 354 [] = true := by decide +kernel
set_option maxRecDepth 100000 in
theorem p1_op5 : p1_go p1_dd (fun _ _ _ _ => none) 100000 387 [] = true := by decide +kernel
set_option maxRecDepth 100000 in
theorem p1_op6 : p1_go p1_dd (fun _ _ _ _ => none) 100000 410 [] = true := by decide +kernel
set_option maxRecDepth 100000 in
theorem p1_op7 : p1_go p1_dd (fun _ _ _ _ => none) 100000 423 [] = true := by decide +kernel
set_option maxRecDepth 100000 in
theorem p1_op9 : p1_go p1_dd (fun _ _ _ _ => none) 100000 489 [] = true := by decide +kernel
set_option maxRecDepth 100000 in
theorem p1_op10 : p1_go p1_dd (fun _ _ _ _ => none) 100000 522 [] = true := by decide +kernel
set_option maxRecDepth 100000 in
theorem p1_op11 : p1_go p1_dd (fun _ _ _ _ => none) 100000 545 [] = true := by decide +kernel
set_option maxRecDepth 100000 in
theorem p1_op12 : p1_go p1_dd (fun _ _ _ _ => none) 100000 578 [] = true := by decide +kernel
set_option maxRecDepth 100000 in
theorem p1_op15_0 : p1_go p1_dd (fun _ _ _ _ => none) 100000 690 [(2, sx_lo32, -1)] = true := by decide +kernel
set_option maxRecDepth 100000 in
theorem p1_op15_1 : p1_go p1_dd (fun _ _ _ _ => none) 100000 690 [(2, 0, 0)] = true := by decide +kernel
set_option maxRecDepth 100000 in
theorem p1_op15_2 : p1_go p1_dd (fun _ _ _ _ => none) 100000 690 [(2, 1, 1)] = true := by decide +kernel
set_option maxRecDepth 100000 in
theorem p1_op15_3 : p1_go p1_dd (fun _ _ _ _ => none) 100000 690 [(2, 2, 2)] = true := by decide +kernel
set_option maxRecDepth 100000 in
theorem p1_op15_4 : p1_go p1_dd (fun _ _ _ _ => none) 100000 690 [(2, 3, 3)] = true := by decide +kernel
set_option maxRecDepth 100000 in
theorem p1_op15_5 : p1_go p1_dd (fun _ _ _ _ => none) 100000 690 [(2, 4, 4)] = true := by decide +kernel
set_option maxRecDepth 100000 in
theorem p1_op15_6 : p1_go p1_dd (fun _ _ _ _ => none) 100000 690 [(2, 5, sx_hi32)] = true := by decide +kernel
set_option maxRecDepth 100000 in
theorem p1_op16 : p1_go p1_dd (fun _ _ _ _ => none) 100000 723 [] = true := by decide +kernel
set_option maxRecDepth 100000 in
theorem p1_op17 : p1_go p1_dd (fun _ _ _ _ => none) 100000 746 [] = true := by decide +kernel
set_option maxRecDepth 100000 in
theorem p1_op18 : p1_go p1_dd (fun _ _ _ _ => none) 100000 789 [] = true := by decide +kernel
set_option maxRecDepth 100000 in
theorem p1_op19 : p1_go p1_dd (fun _ _ _ _ => none) 100000 822 [] = true := by decide +kernel
set_option maxRecDepth 100000 in
theorem p1_op21 : p1_go p1_dd (fun _ _ _ _ => none) 100000 899 [] = true := by decide +kernel
set_option maxRecDepth 100000 in
theorem p1_op22 : p1_go p1_dd (fun _ _ _ _ => none) 100000 922 [] = true := by decide +kernel
set_option maxRecDepth 100000 in
theorem p1_op24 : p1_go p1_dd (fun _ _ _ _ => none) 100000 1008 [] = true := by decide +kernel
set_option maxRecDepth 100000 in
theorem p1_op25 : p1_go p1_dd (fun _ _ _ _ => none) 100000 1031 [] = true := by decide +kernel
set_option maxRecDepth 100000 in
theorem p1_op26 : p1_go p1_dd (fun _ _ _ _ => none) 100000 1054 [] = true := by decide +kernel
set_option maxRecDepth 100000 in
theorem p1_op27 : p1_go p1_dd (fun _ _ _ _ => none) 100000 1077 [] = true := by decide +kernel
set_option maxRecDepth 100000 in
theorem p1_op28 : p1_go p1_dd (fun _ _ _ _ => none) 100000 1090 [] = true := by decide +kernel
set_option maxRecDepth 100000 in
theorem p1_op29 : p1_go p1_dd (fun _ _ _ _ => none) 100000 1103 [] = true := by decide +kernel
set_option maxRecDepth 100000 in
theorem p1_op30 : p1_go p1_dd (fun _ _ _ _ => none) 100000 1116 [] = true := by decide +kernel
set_option maxRecDepth 100000 in
theorem p1_op31 : p1_go p1_dd (fun _ _ _ _ => none) 100000 1129 [] = true := by decide +kernel
set_option maxRecDepth 100000 in
theorem p1_op32 : p1_go p1_dd (fun _ _ _ _ => none) 100000 1152 [] = true := by decide +kernel
set_option maxRecDepth 100000 in
theorem p1_op33 : p1_go p1_dd (fun _ _ _ _ => none) 100000 1195 [] = true := by decide +kernel
set_option maxRecDepth 100000 in
theorem p1_op34 : p1_go p1_dd (fun _ _ _ _ => none) 100000 1218 [] = true := by decide +kernel
set_option maxRecDepth 100000 in
theorem p1_op36 : p1_go p1_dd (fun _ _ _ _ => none) 100000 1294 [] = true := by decide +kernel
set_option maxRecDepth 100000 in
theorem p1_op37 : p1_go p1_dd (fun _ _ _ _ => none) 100000 1367 [] = true := by decide +kernel
set_option maxRecDepth 100000 in
theorem p1_op38 : p1_go p1_dd (fun _ _ _ _ => none) 100000 1401 [] = true := by decide +kernel
set_option maxRecDepth 100000 in
theorem p1_op39 : p1_go p1_dd (fun _ _ _ _ => none) 100000 1464 [] = true := by decide +kernel
set_option maxRecDepth 100000 in
theorem p1_op40 : p1_go p1_dd (fun _ _ _ _ => none) 100000 1497 [] = true := by decide +kernel
set_option maxRecDepth 100000 in
theorem p1_op41 : p1_go p1_dd (fun _ _ _ _ => none) 100000 1520 [] = true := by decide +kernel
