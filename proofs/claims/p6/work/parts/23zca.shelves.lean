/-! Houses, cards, bodies, shelves: the walks. -/
section
def og_mn : Int := -2147483648
def og_mx : Int := 2147483647
/-- sym lies between -/
def og_b (k : Nat) (lo hi : Int) : og_D := (0, (k, 0), (0, 0), lo, hi)
/-- sym a is (isn't) below sym b and c -/
def og_l (a b : Nat) (c : Int) : og_D := (1, (a, 0), (b, 0), c, 0)
def og_nl (a b : Nat) (c : Int) : og_D := (2, (a, 0), (b, 0), c, 0)
def og_r (z : Int) (l : List og_D) : og_T := (none, some (0, 0, z), [], [], [], l)
def ol_1 (c : Int) : sx_L := [(0, 2, 0, c), (1, 0, 9, 0)]
def ol_2 (c : Int) : sx_L := [(0, 2, 0, c), (1, 0, 9, 0), (2, 0, 10, 0)]
def ol_3 (c : Int) : sx_L := [(0, 2, 0, c), (1, 0, 9, 0), (2, 0, 10, 0), (3, 0, 11, 0)]
def og_g1 : List ct_Q := [(0, sx_r32)]
def og_g2 : List ct_Q := [(0, sx_r32), (0, sx_r32)]
def og_g3 : List ct_Q := [(0, sx_r32), (0, sx_r32), (0, sx_r32)]
-- body
def ok_x (c : Nat) : List og_T := [(none, some (0, 0, 1), [], [], [(41 + 2 * c, (0, 1), (0, 0)), (41 + 2 * c, (0, 2), (0, -1)), (41 + 2 * c, (0, 3), (0, -1))], [og_b 9 c c, og_b 10 (-1) (-1)]), (none, some (0, 0, 1), [], [], [(41 + 2 * c, (0, 1), (0, 0)), (41 + 2 * c, (0, 2), (0, -1)), (41 + 2 * c, (0, 3), (10, 0))], [og_b 9 c c, og_b 10 0 og_mx, og_l 10 11 0])]
def ok_Tx : List og_T := [og_r (-1) [og_b 9 og_mn (-1)], og_r (-1) [og_b 9 6 og_mx], og_r (-1) [og_b 9 0 5, og_b 10 og_mn (-2)], og_r (-1) [og_b 9 0 5, og_nl 10 11 0]] ++ (List.range 6).flatMap ok_x
noncomputable def ok_tx : sx_S := og_t og_g2 [(37, 2, (0, 50))]
theorem ok_cx : gs_chk (fun _ => false) (fun o => ok_Tx.any (og_chk ok_tx o)) 300 300 3 138 0 (ol_2 8) [] ok_tx = true := by decide +kernel
def ok_Tm : List og_T := [og_r (-1) [og_b 9 og_mn (-1)], og_r (-1) [og_b 9 6 og_mx], og_r (-1) [og_b 9 0 5, og_b 10 og_mn (-2)], og_r (-1) [og_b 9 0 5, og_l 11 10 1], (none, some (0, 0, 1), [], [], [(87, (9, 0), (0, -1))], [og_b 9 0 5, og_b 10 (-1) (-1)]), (none, some (0, 0, 1), [], [], [(87, (9, 0), (10, 0))], [og_b 9 0 5, og_b 10 0 og_mx, og_nl 11 10 1])]
noncomputable def ok_tm : sx_S := og_t og_g2 [(53, 57, (0, 50))]
theorem ok_cm : gs_chk (fun _ => false) (fun o => ok_Tm.any (og_chk ok_tm o)) 300 300 4 263 0 (ol_2 53) [] ok_tm = true := by decide +kernel
-- feed
def of_Tx : List og_T := [og_r (-1) [og_b 9 og_mn (-1)], og_r (-1) [og_b 9 256 og_mx], og_r (-3) [og_b 9 0 255, og_b 10 120 120], (none, some (0, 10, 1), [], [], [(14, (0, 6), (10, 1)), (15, (10, 0), (9, 0))], [og_b 9 0 255, og_b 10 0 119])]
noncomputable def of_tx : sx_S := og_t og_g1 [(14, 6, (0, 120))]
theorem of_cx : gs_chk (fun _ => false) (fun o => of_Tx.any (og_chk of_tx o)) 300 300 3 30 0 (ol_1 8) [] of_tx = true := by decide +kernel
def of_Tm : List og_T := [og_r (-1) [og_b 9 og_mn (-1)], og_r (-1) [og_b 9 256 og_mx], og_r (-3) [og_b 9 0 255, og_b 10 120 120], (none, some (0, 10, 1), [], [], [(53, (0, 21), (10, 1)), (66, (10, 0), (11, 0))], [og_b 9 0 255, og_b 10 0 119, (5, (9, 0), (0, 0), 65, 11)])]
noncomputable def of_tm : sx_S := og_t og_g1 [(53, 21, (0, 120))]
theorem of_cm : gs_chk (fun _ => false) (fun o => of_Tm.any (og_chk of_tm o)) 300 300 3 172 0 (ol_1 53) [] of_tm = true := by decide +kernel
-- house
def oh_o : List og_D := [og_b 9 0 143, og_b 10 0 5, (5, (0, 1), (10, 0), 8, 12), (5, (11, 0), (12, 0), 4, 13)]
def oh_n : List og_T := [og_r (-1) [og_b 9 og_mn (-1)], og_r (-1) [og_b 9 144 og_mx], og_r (-3) [og_b 9 0 143, og_b 10 6 6]]
def oh_Tx : List og_T := (none, some (0, 10, 0), [], [], [(9, (0, 4), (10, 1)), (9, (0, 6), (13, 0)), (10, (10, 120), (0, 3)), (10, (10, 90), (0, 0)), (10, (10, 60), (0, 5)), (10, (10, 30), (0, 3)), (10, (10, 0), (9, 0))], oh_o) :: oh_n
noncomputable def oh_tx : sx_S := og_t og_g1 [(9, 4, (0, 6)), (9, 6, sx_r32)]
theorem oh_cx : gs_chk (fun _ => false) (fun o => oh_Tx.any (og_chk oh_tx o)) 300 300 4 11 0 (ol_1 8) [] oh_tx = true := by decide +kernel
def oh_Tm : List og_T := (none, some (0, 10, 0), [], [], [(53, (0, 1), (10, 1)), (53, (0, 7), (13, 0)), (58, (10, 0), (0, 3)), (57, (10, 0), (0, 0)), (56, (10, 0), (0, 5)), (55, (10, 0), (0, 3)), (54, (10, 0), (9, 0))], oh_o) :: oh_n
noncomputable def oh_tm : sx_S := og_t og_g1 [(53, 1, (0, 6)), (53, 7, sx_r32)]
theorem oh_cm : gs_chk (fun _ => false) (fun o => oh_Tm.any (og_chk oh_tm o)) 300 300 3 153 0 (ol_1 53) [] oh_tm = true := by decide +kernel
-- card
def oc_Tx : List og_T := [og_r (-1) [og_b 9 og_mn (-1)], og_r (-1) [og_nl 9 11 0], og_r (-1) [og_b 10 og_mn (-2)], og_r (-1) [og_b 10 30 og_mx], og_r (-3) [og_b 9 0 og_mx, og_l 9 11 0, og_b 10 (-1) 29, og_b 12 12 12], (none, some (0, 12, 0), [], [], [(9, (0, 5), (12, 1)), (10, (12, 180), (10, 0)), (11, (12, 0), (9, 0))], [og_b 9 0 og_mx, og_l 9 11 0, og_b 10 (-1) 29, og_b 12 0 11])]
noncomputable def oc_tx : sx_S := og_t og_g2 [(9, 4, (0, 6)), (9, 5, (0, 12))]
theorem oc_cx : gs_chk (fun _ => false) (fun o => oc_Tx.any (og_chk oc_tx o)) 300 300 4 15 0 (ol_2 8) [] oc_tx = true := by decide +kernel
def oc_Tm : List og_T := [og_r (-1) [og_b 9 og_mn (-1)], og_r (-1) [og_l 11 9 1], og_r (-1) [og_b 10 og_mn (-2)], og_r (-1) [og_b 10 30 og_mx], og_r (-3) [og_b 9 0 og_mx, og_nl 11 9 1, og_b 10 (-1) 29, og_b 12 12 12], (none, some (0, 12, 0), [], [], [(53, (0, 8), (12, 1)), (60, (12, 0), (10, 0)), (59, (12, 0), (9, 0))], [og_b 9 0 og_mx, og_nl 11 9 1, og_b 10 (-1) 29, og_b 12 0 11])]
noncomputable def oc_tm : sx_S := og_t og_g2 [(53, 1, (0, 6)), (53, 8, (0, 12))]
theorem oc_cm : gs_chk (fun _ => false) (fun o => oc_Tm.any (og_chk oc_tm o)) 300 300 4 155 0 (ol_2 53) [] oc_tm = true := by decide +kernel
-- row
def or_n : List og_T := [og_r (-1) [og_b 9 og_mn (-1)], og_r (-1) [og_b 9 6 og_mx], og_r (-1) [og_b 9 0 5, og_b 10 og_mn (-1)], og_r (-1) [og_b 9 0 5, og_b 10 5 og_mx], og_r (-1) [og_b 9 0 5, og_b 10 0 4, og_b 11 61 og_mx], og_r (-14) [og_b 9 0 5, og_b 10 0 4, og_b 11 og_mn (-1)]]
def or_x (c : Nat) : og_T := (some 39, none, [(0, 11, 0), (0, 10, 0), (2, 0, 41 + 2 * (c : Int))], [], [], [og_b 9 c c, og_b 10 0 4, og_b 11 0 60])
def or_Tx : List og_T := or_n ++ (List.range 6).map or_x
noncomputable def or_tx : sx_S := og_t og_g3 []
theorem or_cx : gs_chk (fun pc => Nat.beq pc 39) (fun o => or_Tx.any (og_chk or_tx o)) 300 300 4 140 0 (ol_3 8) [] or_tx = true := by decide +kernel
-- holdRow
noncomputable def or_t1 : sx_S := og_t [(0, (0, 4)), (0, (0, 60))] []
def or_T1 (c : Nat) : og_T := (some 17, none, [], [(0, 2, 0, 41 + 2 * (c : Int)), (1, 0, 9, 0), (2, 0, 10, 0), (3, 0, 0, 0)], [(41 + 2 * c, (0, 1), (10, 0)), (41 + 2 * c, (0, 2), (9, 0)), (41 + 2 * c, (0, 3), (0, -1))], [])
theorem or_c1 : ((List.range 6).all fun c => gs_chk (fun pc => Nat.beq pc 17) (fun o => [or_T1 c].any (og_chk or_t1 o)) 300 300 1 141 0 (ol_2 (41 + 2 * (c : Int))) [] or_t1) = true := by decide +kernel
noncomputable def or_t2 : sx_S := og_t [(0, (0, 4)), (0, (0, 60)), (0, (0, 60))] []
def or_T2 (c : Nat) : List og_T := [(some 17, none, [], [(0, 2, 0, 41 + 2 * (c : Int)), (1, 0, 9, 0), (2, 0, 10, 0), (3, 0, 11, 1)], [(42 + 2 * c, (11, 0), (0, 0))], [og_l 11 10 0]), (none, none, [], [], [], [og_nl 11 10 0])]
theorem or_c2 : ((List.range 6).all fun c => gs_chk (fun pc => Nat.beq pc 17) (fun o => (or_T2 c).any (og_chk or_t2 o)) 300 300 1 141 18 (ol_3 (41 + 2 * (c : Int))) [(0, 11, 0)] or_t2) = true := by decide +kernel
noncomputable def or_t0 : sx_S := og_t [] []
theorem or_c4 : gs_chk (fun _ => false) (fun o => [og_r 1 []].any (og_chk or_t0 o)) 300 300 1 140 42 [] [] or_t0 = true := by decide +kernel
-- row of the reference
def or_m : og_T := (some 54, none, [], [(0, 2, 0, 53), (1, 0, 9, 0), (4, 0, 13, 0)], [(88, (9, 0), (11, 0)), (87, (9, 0), (12, 0))], [og_b 9 0 5, og_b 10 0 4, og_b 11 0 60, (5, (0, -2), (10, 0), 1, 12), (5, (0, 60), (9, 0), 2, 13)])
def or_Tm : List og_T := or_m :: or_n
theorem or_cm : gs_chk (fun pc => Nat.beq pc 54) (fun o => or_Tm.any (og_chk or_tx o)) 300 300 4 264 0 (ol_3 53) [] or_tx = true := by decide +kernel
noncomputable def or_t3 (c : Nat) : sx_S := og_t [(0, (c, c)), (0, (0, 360))] []
def or_l3 : sx_L := [(0, 2, 0, 53), (1, 0, 9, 0), (4, 0, 10, 0)]
def or_T3 (c : Nat) : List og_T := [(some 54, none, [], [(0, 2, 0, 53), (1, 0, 9, 0), (4, 0, 10, 1)], [(89, (10, 0), (0, 0))], [og_b 10 0 (60 * (c : Int) + 59)]), (none, some (0, 0, 1), [], [], [], [og_b 10 (60 * (c : Int) + 60) 360])]
theorem or_c3 : ((List.range 6).all fun c => gs_chk (fun pc => Nat.beq pc 54) (fun o => (or_T3 c).any (og_chk (or_t3 c) o)) 300 300 4 264 56 or_l3 [(0, 10, 0)] (or_t3 c)) = true := by decide +kernel
end
section
-- put: 9 the shelf, 10 i, 11 v
def op_g (c : Nat) : List ct_Q := [(0, (c, c)), (0, sx_r32), (1, sx_r64)]
def op_f (c : Nat) : List ct_G := [(41 + 2 * c, 1, (0, 60)), (41 + 2 * c, 2, (-1, 4)), (41 + 2 * c, 3, (-1, 49))]
noncomputable def op_tx (c : Nat) : sx_S := og_t (op_g c) (op_f c)
def op_l (a : Int) : sx_L := [(0, 2, 0, a), (1, 0, 9, 0), (2, 0, 10, 0), (3, 1, 11, 0)]
/-- what is put in, by the row's sort, from symbol m on -/
def op_v (m : Nat) : List (Nat × sx_A × List og_D) := [(0, (m + 1, 0), [(5, (11, 0), (0, 0), 64, (m : Int)), (5, (m, 0), (0, 0), 65, (m : Int) + 1)]), (1, (m + 1, 0), [(5, (11, 0), (0, 0), 64, (m : Int)), (5, (m, 0), (0, 0), 66, (m : Int) + 1)]), (2, (m, 0), [(5, (11, 0), (0, 0), 64, (m : Int))]), (3, (11, 0), []), (4, (0, 0), [og_b 11 0 0]), (4, (0, 1), [og_b 11 (-9223372036854775808) (-1)]), (4, (0, 1), [og_b 11 1 9223372036854775807])]
def op_Tx (c : Nat) : List og_T := [og_r (-11) [og_b 13 (-1) (-1), og_b 14 (-1) (-1)], og_r (-12) [og_b 13 (-1) (-1), og_b 14 0 49], og_r (-13) [og_b 13 0 4, og_b 10 og_mn (-1)], og_r (-13) [og_b 13 0 4, og_nl 10 12 0]] ++ (op_v 15).map fun q => (none, some (0, 0, 1), [], [], [(42 + 2 * c, (10, 0), q.2.1)], og_b 13 (q.1 : Int) (q.1 : Int) :: og_b 10 0 og_mx :: og_l 10 12 0 :: q.2.2)
theorem op_cx : ((List.range 6).all fun c => gs_chk (fun _ => false) (fun o => (op_Tx c).any (og_chk (op_tx c) o)) 300 300 4 142 0 (op_l 8) [] (op_tx c)) = true := by decide +kernel
noncomputable def op_t9 (s : Int × Int) : sx_S := og_t [(0, s), (0, sx_r32), (1, sx_r64)] []
theorem op_cx9 : gs_chk (fun _ => false) (fun o => [og_r (-1) []].any (og_chk (op_t9 (og_mn, -1)) o)) 300 300 4 142 0 (op_l 8) [] (op_t9 (og_mn, -1)) = true := by decide +kernel
theorem op_cx6 : gs_chk (fun _ => false) (fun o => [og_r (-1) []].any (og_chk (op_t9 (6, og_mx)) o)) 300 300 4 142 0 (op_l 8) [] (op_t9 (6, og_mx)) = true := by decide +kernel
theorem op_cm9 : gs_chk (fun _ => false) (fun o => [og_r (-1) []].any (og_chk (op_t9 (og_mn, -1)) o)) 300 300 4 265 0 (op_l 53) [] (op_t9 (og_mn, -1)) = true := by decide +kernel
theorem op_cm6 : gs_chk (fun _ => false) (fun o => [og_r (-1) []].any (og_chk (op_t9 (6, og_mx)) o)) 300 300 4 265 0 (op_l 53) [] (op_t9 (6, og_mx)) = true := by decide +kernel
-- 12 what it holds, 13 its size
noncomputable def op_tm (c : Nat) : sx_S := (sx_frl (sx_frl (og_t (op_g c) []) 87 (9, 0) (-6, 49)).2 88 (9, 0) (0, 60)).2
def op_Tm (c : Nat) : List og_T := [og_r (-11) [og_b 12 (-1) (-1)], og_r (-12) [og_b 12 0 49], og_r (-13) [og_b 12 (-6) (-2), og_b 10 og_mn (-1)], og_r (-13) [og_b 12 (-6) (-2), og_l 13 10 1]] ++ (op_v 15).map fun q => (none, some (0, 0, 1), [], [], [(89, (10, 60 * (c : Int)), q.2.1)], (5, (0, -2), (12, 0), 1, 14) :: og_b 12 (-6) (-2) :: og_b 14 (q.1 : Int) (q.1 : Int) :: og_b 10 0 og_mx :: og_nl 13 10 1 :: q.2.2)
theorem op_cm : ((List.range 6).all fun c => gs_chk (fun _ => false) (fun o => (op_Tm c).any (og_chk (op_tm c) o)) 300 300 4 265 0 (op_l 53) [] (op_tm c)) = true := by decide +kernel
-- element
end
