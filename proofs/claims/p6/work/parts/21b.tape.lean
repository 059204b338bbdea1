/-! The class takes THE TAPE: the walks. -/
section
noncomputable def tg_s (b c d e f : Int × Int) : sx_S := tg_t (0, 255) (0, 240) b c d e f
noncomputable def tg_a : sx_S := tg_s (0, 120) (0, 120) (0, 4) sx_r32 (-1, 255)
def tl_0 : sx_L := [(0, 2, 0, 14)]
def tl_1 : sx_L := [(0, 2, 0, 14), (1, 0, 9, 0)]
noncomputable def ts_0 : List sx_V := [(2, 0, 14)]
noncomputable def ts_1 : List sx_V := [(0, 9, 0), (2, 0, 14)]
noncomputable def ts_2 : List sx_V := [(0, 0, 1), (2, 0, 14)]
def tk_any (_ : sx_A) : Bool := true
/-- an answer 0, nothing changed -/
noncomputable def tr_0 (t0 : sx_S) (v : Option sx_V) (t : sx_S) : Bool := match v with
  | some v => sx_an (tk_ve v (0, 0, 0)) (tw [] [] [] t0 t)
  | none => false
/-- an answer 1 -/
noncomputable def tr_1 (v : Option sx_V) (k : Bool) : Bool := match v with
  | some v => sx_an (tk_ve v (0, 0, 1)) k
  | none => false
-- settle, endOperand: the loops; the first with nothing that waits
noncomputable def tp_0 : sx_S := tg_s (0, 0) (0, 120) (0, 4) sx_r32 (-1, 255)
noncomputable def tp_1 : sx_S := (sx_frl (tg_s (1, 120) (0, 120) (0, 4) sx_r32 (-1, 255)) 18 (11, -1) (0, 255)).2
noncomputable def tp_r0 (o : sx_P) : Bool := match o.1 with
  | some none => tw [] [] [] tp_0 o.2.2.2.2
  | _ => false
noncomputable def tp_ne (t : sx_S) : Bool := bif jin t (16, 0) 0 39 then true else jin t (16, 0) 41 255
noncomputable def tp_r1 (p : Nat) (fs : List Nat) (l : sx_L) (o : sx_P) : Bool := match o.1 with
  | some none => tw [] [] [] tp_1 o.2.2.2.2
  | some (some _) => false
  | none => sx_an (sx_an (Nat.beq o.2.1 p) (tk_sk [] o.2.2.2.1)) (sx_an (sx_an (tk_lk l o.2.2.1) (tp_ne o.2.2.2.2)) (sx_an (tw [17] fs [(8, (10, 1)), (9, (11, -1))] tp_1 o.2.2.2.2) (tw_w o.2.2.2.2 17 (10, 0) tk_any)))
def tl_r : sx_L := [(0, 2, 0, 14), (1, 0, 16, 0)]
end
section
-- settle: 16 is its rank (1 .. 5), 17 the sign on top
noncomputable def tp_s0 : sx_S := (sx_fresh (tg_s (0, 0) (0, 120) (0, 4) sx_r32 (-1, 255)) (1, 5)).2
noncomputable def tp_s1 : sx_S := (sx_frl (sx_fresh (tg_s (1, 120) (0, 120) (0, 4) sx_r32 (-1, 255)) (1, 5)).2 18 (11, -1) (0, 255)).2
noncomputable def tp_q0 (o : sx_P) : Bool := match o.1 with
  | some none => tw [] [] [] tp_s0 o.2.2.2.2
  | _ => false
noncomputable def tp_ne7 (t : sx_S) : Bool := bif jin t (17, 0) 0 39 then true else jin t (17, 0) 41 255
noncomputable def tp_q1 (o : sx_P) : Bool := match o.1 with
  | some none => tw [] [] [] tp_s1 o.2.2.2.2
  | some (some _) => false
  | none => sx_an (sx_an (Nat.beq o.2.1 0) (tk_sk [] o.2.2.2.1)) (sx_an (sx_an (tk_lk tl_r o.2.2.1) (tp_ne7 o.2.2.2.2)) (sx_an (tw [17] [] [(8, (10, 1)), (9, (11, -1))] tp_s1 o.2.2.2.2) (tw_w o.2.2.2.2 17 (10, 0) tk_any)))
theorem tp_d0 : gs_chk (fun pc => Nat.beq pc 0) tp_q0 300 300 5 45 1 tl_r ts_0 tp_s0 = true := by decide +kernel
theorem tp_d1 : gs_chk (fun pc => Nat.beq pc 0) tp_q1 300 300 5 45 1 tl_r ts_0 tp_s1 = true := by decide +kernel
-- endOperand
noncomputable def te_r (o : sx_P) : Bool := match o.1 with
  | some _ => false
  | none => sx_an (sx_an (Nat.beq o.2.1 5) (tk_sk [] o.2.2.2.1)) (sx_an (tk_lk tl_0 o.2.2.1) (tw [] [15] [] tg_a o.2.2.2.2))
theorem te_c : gs_chk (fun pc => Nat.beq pc 5) te_r 300 300 5 42 0 tl_0 [] tg_a = true := by decide +kernel
theorem te_c0 : gs_chk (fun pc => Nat.beq pc 5) tp_r0 300 300 5 42 6 tl_0 ts_0 tp_0 = true := by decide +kernel
theorem te_c1 : gs_chk (fun pc => Nat.beq pc 5) (tp_r1 5 [10] tl_0) 300 300 5 42 6 tl_0 ts_0 tp_1 = true := by decide +kernel
-- goesOn
noncomputable def tr_g (o : sx_P) : Bool := match o.1 with
  | some _ => false
  | none => bif Nat.beq o.2.1 9 then sx_an (tk_sk ts_1 o.2.2.2.1) (sx_an (tk_lk [] o.2.2.1) (tw [] [] [] tg_a o.2.2.2.2)) else bif Nat.beq o.2.1 22 then sx_an (sx_an (tk_sk ts_1 o.2.2.2.1) (jin o.2.2.2.2 (9, 0) 48 57)) (sx_an (tk_lk [] o.2.2.1) (tw [] [] [] tg_a o.2.2.2.2)) else bif Nat.beq o.2.1 85 then sx_an (tk_sk ts_1 o.2.2.2.1) (sx_an (tk_lk [] o.2.2.1) (tw [] [15] [(12, (0, 0))] tg_a o.2.2.2.2)) else sx_an (bif Nat.beq o.2.1 69 then true else bif Nat.beq o.2.1 74 then true else Nat.beq o.2.1 79) (sx_an (tk_sk ts_0 o.2.2.2.1) (sx_an (tk_lk [] o.2.2.1) (tw [] [15] [(12, (0, 0))] tg_a o.2.2.2.2)))
def tst_g (pc : Nat) : Bool := [9, 22, 69, 74, 79, 85].any (Nat.beq pc)
theorem tc_g : gs_chk tst_g tr_g 300 300 11 35 0 tl_1 [] tg_a = true := by decide +kernel
-- digitGoesOn
noncomputable def td_n (d : Int × Int) : sx_S := tg_s (0, 120) (0, 120) d sx_r32 (-1, 255)
noncomputable def tr_dn (d : Int × Int) (o : sx_P) : Bool := match o.1 with
  | some v => tr_0 (td_n d) v o.2.2.2.2
  | none => false
theorem tc_d0 : gs_chk (fun _ => false) (tr_dn (0, 0)) 300 300 10 43 0 tl_1 [] (td_n (0, 0)) = true := by decide +kernel
theorem tc_d4 : gs_chk (fun _ => false) (tr_dn (4, 4)) 300 300 10 43 0 tl_1 [] (td_n (4, 4)) = true := by decide +kernel
noncomputable def td_y (g m : Int) : sx_S := (sx_frl (tg_t (48, 57) (0, 240) (0, 120) (0, 120) (g, g) (0, 239) (-1, 255)) 17 (14, 0) (0, m)).2
noncomputable def tr_dy (g m : Int) (o : sx_P) : Bool := match o.1 with
  | some v => tr_1 v (sx_an (tw [17] [] [(12, (0, g + 1))] (td_y g m) o.2.2.2.2) (tw_w o.2.2.2.2 17 (14, 0) (fun v => jin o.2.2.2.2 v 0 (10 * m + 9))))
  | none => false
theorem tc_d1 : gs_chk (fun _ => false) (tr_dy 1 9) 300 300 10 43 0 tl_1 [] (td_y 1 9) = true := by decide +kernel
theorem tc_d2 : gs_chk (fun _ => false) (tr_dy 2 99) 300 300 10 43 0 tl_1 [] (td_y 2 99) = true := by decide +kernel
theorem tc_d3 : gs_chk (fun _ => false) (tr_dy 3 999) 300 300 10 43 0 tl_1 [] (td_y 3 999) = true := by decide +kernel
-- operandGoesOn
noncomputable def tr_o (o : sx_P) : Bool := match o.1 with
  | some v => bif tr_0 tg_a v o.2.2.2.2 then true else tr_1 v (bif sx_an (tw [18] [10] [(9, (11, 1)), (11, (12, 1))] tg_a o.2.2.2.2) (tw_w o.2.2.2.2 18 (11, 0) (fun v => jin o.2.2.2.2 v 40 40)) then true else sx_an (tw [18] [10] [(9, (11, 1)), (11, (12, 0))] tg_a o.2.2.2.2) (tw_w o.2.2.2.2 18 (11, 0) tk_any))
  | none => sx_an (sx_an (Nat.beq o.2.1 92) (tk_sk ts_0 o.2.2.2.1)) (sx_an (tk_lk [] o.2.2.1) (bif sx_an (tw [17] [] [(8, (10, 1)), (12, (0, 1)), (13, (10, 0))] tg_a o.2.2.2.2) (tw_w o.2.2.2.2 17 (10, 0) (fun v => jin o.2.2.2.2 v 0 9)) then true else sx_an (tw [17] [] [(8, (10, 1))] tg_a o.2.2.2.2) (tw_w o.2.2.2.2 17 (10, 0) tk_any)))
theorem tc_o : gs_chk (fun pc => Nat.beq pc 92) tr_o 300 300 10 36 0 tl_1 [] tg_a = true := by decide +kernel
-- closeBracket
noncomputable def tr_c1 (o : sx_P) : Bool := match o.1 with
  | some v => tr_0 tg_a v o.2.2.2.2
  | none => sx_an (sx_an (Nat.beq o.2.1 11) (tk_sk ts_2 o.2.2.2.1)) (sx_an (sx_an (tk_lk tl_0 o.2.2.1) (jin o.2.2.2.2 (12, 0) 1 120)) (tw [] [] [] tg_a o.2.2.2.2))
theorem tc_c1 : gs_chk (fun pc => Nat.beq pc 11) tr_c1 300 300 10 44 0 tl_0 [] tg_a = true := by decide +kernel
noncomputable def tg_w : sx_S := tg_s (1, 120) (1, 120) (0, 4) sx_r32 (-1, 255)
noncomputable def tr_c2 (o : sx_P) : Bool := match o.1 with
  | some _ => false
  | none => sx_an (sx_an (Nat.beq o.2.1 45) (tk_sk ts_0 o.2.2.2.1)) (sx_an (tk_lk [] o.2.2.1) (tw [] [10] [(9, (11, -1)), (11, (12, -1))] tg_w o.2.2.2.2))
theorem tc_c2 : gs_chk (fun pc => Nat.beq pc 45) tr_c2 300 300 10 44 14 tl_0 [] tg_w = true := by decide +kernel
-- condition
noncomputable def tr_q1 (p : Nat) (s : List sx_V) (o : sx_P) : Bool := match o.1 with
  | some v => tr_0 tg_a v o.2.2.2.2
  | none => sx_an (sx_an (Nat.beq o.2.1 p) (tk_sk s o.2.2.2.1)) (sx_an (tk_lk tl_0 o.2.2.1) (tw [] [] [] tg_a o.2.2.2.2))
theorem tc_q1 : gs_chk (fun pc => Nat.beq pc 19) (tr_q1 19 ts_2) 300 300 10 47 0 tl_0 [] tg_a = true := by decide +kernel
noncomputable def tr_q2 (o : sx_P) : Bool := match o.1 with
  | some v => tr_1 v (tw [17] [15] [(8, (10, 2)), (14, (10, 1))] tg_a o.2.2.2.2)
  | none => false
theorem tc_q2 : gs_chk (fun _ => false) tr_q2 300 300 10 47 22 tl_0 [] tg_a = true := by decide +kernel
-- nextLine, endLine
theorem tc_n1 : gs_chk (fun pc => Nat.beq pc 10) (tr_q1 10 ts_0) 300 300 10 48 0 tl_0 [] tg_a = true := by decide +kernel
noncomputable def tr_n2 (o : sx_P) : Bool := match o.1 with
  | some v => tr_1 v (tw [] [15] [] tg_a o.2.2.2.2)
  | none => false
theorem tc_n2 : gs_chk (fun _ => false) tr_n2 300 300 10 48 13 tl_0 [] tg_a = true := by decide +kernel
noncomputable def tr_l1 (o : sx_P) : Bool := match o.1 with
  | some _ => false
  | none => sx_an (sx_an (Nat.beq o.2.1 2) (tk_sk ts_2 o.2.2.2.1)) (sx_an (tk_lk tl_0 o.2.2.1) (tw [] [] [] tg_a o.2.2.2.2))
theorem tc_l1 : gs_chk (fun pc => Nat.beq pc 2) tr_l1 300 300 6 49 0 tl_0 [] tg_a = true := by decide +kernel
noncomputable def tr_l2 (o : sx_P) : Bool := match o.1 with
  | some none => tw [17] [] [(8, (10, 1)), (14, (0, -1))] tg_a o.2.2.2.2
  | _ => false
theorem tc_l2 : gs_chk (fun _ => false) tr_l2 300 300 6 49 5 tl_0 [] tg_a = true := by decide +kernel
-- operatorGoesOn
noncomputable def tr_p1 (o : sx_P) : Bool := match o.1 with
  | some v => tr_0 tg_a v o.2.2.2.2
  | none => sx_an (Nat.beq o.2.1 22) (sx_an (tw [] [] [] tg_a o.2.2.2.2) (sx_an (match o.2.2.2.1 with
    | [a, b] => sx_an (sx_an (Nat.beq a.1 0) (jin o.2.2.2.2 a.2 1 5)) (tk_ve b (2, 0, 14))
    | _ => false) (match sx_lv o.2.2.1 2 with
    | some v => sx_an (sx_an (Nat.beq v.1 0) (jin o.2.2.2.2 v.2 1 5)) (tk_lk [(0, 2, 0, 14), (1, 0, 9, 0), (2, v)] o.2.2.1)
    | none => false)))
theorem tc_p1 : gs_chk (fun pc => Nat.beq pc 22) tr_p1 300 300 10 50 0 tl_1 [] tg_a = true := by decide +kernel
def tl_2 : sx_L := [(0, 2, 0, 14), (1, 0, 9, 0), (2, 0, 16, 0)]
noncomputable def tr_p20 (o : sx_P) : Bool := match o.1 with
  | some v => bif tr_0 tp_s0 v o.2.2.2.2 then true else tr_1 v (sx_an (tw [18] [15] [(9, (0, 1))] tp_s0 o.2.2.2.2) (tw_w o.2.2.2.2 18 (0, 0) tk_any))
  | none => false
noncomputable def tr_p21 (o : sx_P) : Bool := match o.1 with
  | some v => bif tr_0 tp_s1 v o.2.2.2.2 then true else tr_1 v (sx_an (tw [18] [15] [(9, (11, 1))] tp_s1 o.2.2.2.2) (tw_w2 o.2.2.2.2 18 (11, 0) tk_any (11, -1) (17, 0)))
  | none => false
theorem tc_p20 : gs_chk (fun _ => false) tr_p20 300 300 10 50 25 tl_2 [] tp_s0 = true := by decide +kernel
theorem tc_p21 : gs_chk (fun _ => false) tr_p21 300 300 10 50 25 tl_2 [] tp_s1 = true := by decide +kernel
-- takeTape
noncomputable def tr_t0 (o : sx_P) : Bool := match o.1 with
  | some _ => false
  | none => sx_an (sx_an (Nat.beq o.2.1 16) (tk_sk [] o.2.2.2.1)) (sx_an (match sx_lv o.2.2.1 1 with
    | some v => sx_an (sx_an (Nat.beq v.1 0) (jin o.2.2.2.2 v.2 0 120)) (tk_lk [(0, 2, 0, 14), (1, v), (2, 0, 0, 0)] o.2.2.1)
    | none => false) (tw [] [10, 15] [(6, (0, 0)), (8, (0, 0)), (9, (0, 0)), (11, (0, 0)), (12, (0, 0)), (14, (0, -1))] (mt_tr []) o.2.2.2.2))
theorem tc_t0 : gs_chk (fun pc => Nat.beq pc 16) tr_t0 300 300 12 33 0 tl_0 [] (mt_tr []) = true := by decide +kernel
-- 9 is i, 10 the length
noncomputable def tt_t : sx_S := (mt_as [(0, (0, 120)), (0, (0, 120))] (mt_tr [])).2
def tt_l : sx_L := [(0, 2, 0, 14), (1, 0, 10, 0), (2, 0, 9, 0)]
noncomputable def tr_t1 (o : sx_P) : Bool := match o.1 with
  | some (some v) => sx_an (tk_ve v (0, 10, 0)) (tw [] [] [] tt_t o.2.2.2.2)
  | some none => false
  | none => bif Nat.beq o.2.1 28 then sx_an (sx_an (rt_kl true 9 10 o.2.2.2.2) (tw [] [] [] tt_t o.2.2.2.2)) (sx_an (tk_lk tt_l o.2.2.1) (match o.2.2.2.1 with
    | [a, b] => sx_an (sx_an (Nat.beq a.1 0) (jin o.2.2.2.2 a.2 0 255)) (tk_ve b (2, 0, 14))
    | _ => false)) else sx_an (sx_an (Nat.beq o.2.1 59) (tk_sk ts_0 o.2.2.2.1)) (sx_an (tk_lk tl_0 o.2.2.1) (tw [] [] [] tt_t o.2.2.2.2))
def tst_t (pc : Nat) : Bool := bif Nat.beq pc 28 then true else Nat.beq pc 59
theorem tc_t1 : gs_chk tst_t tr_t1 300 300 12 33 17 tt_l [(0, 9, 0)] tt_t = true := by decide +kernel
noncomputable def tr_t2 (o : sx_P) : Bool := match o.1 with
  | some _ => false
  | none => sx_an (sx_an (Nat.beq o.2.1 16) (tk_sk [] o.2.2.2.1)) (sx_an (tk_lk [(0, 2, 0, 14), (1, 0, 10, 0), (2, 0, 9, 1)] o.2.2.1) (tw [] [] [] tt_t o.2.2.2.2))
theorem tc_t2 : gs_chk (fun pc => Nat.beq pc 16) tr_t2 300 300 12 33 31 tt_l [(0, 0, 1)] tt_t = true := by decide +kernel
noncomputable def tr_t3 (o : sx_P) : Bool := match o.1 with
  | some (some v) => sx_an (tk_ve v (0, 9, 0)) (tw [] [] [] tt_t o.2.2.2.2)
  | _ => false
theorem tc_t3 : gs_chk (fun _ => false) tr_t3 300 300 12 33 31 tt_l [(0, 0, 0)] tt_t = true := by decide +kernel
noncomputable def tt_e : sx_S := ct_get [(14, 8, 0, 256)] (mt_tr [])
noncomputable def tr_t4 (o : sx_P) : Bool := match o.1 with
  | some (some v) => sx_an (tk_ve v (0, 0, -1)) (tw [16] [] [(7, (9, 0))] tt_e o.2.2.2.2)
  | _ => false
set_option maxRecDepth 1000000 in
theorem tc_t4 : gs_chk (fun _ => false) tr_t4 300 300 12 33 62 tl_0 [] tt_e = true := by decide +kernel
end
