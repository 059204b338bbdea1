/-! Changes of the reference: the walks. -/
section
-- mend, up to the call of changes()
noncomputable def dm_t : sx_S := og_t [(0, sx_r32), (0, sx_r32), (0, sx_r32)] [(53, 1, (0, 6)), (53, 8, (0, 12))]
def dm_l : sx_L := [(0, 2, 0, 53), (1, 0, 9, 0), (2, 0, 10, 0), (3, 0, 11, 0)]
def dm_n (c : Nat) : List og_D := if c < 5 then [cm_d 0 9 0 2147483647, (2, (12, 0), (9, 0), 1, 0)] else if c = 5 then [cm_d 0 9 0 29] else if c = 6 then [cm_d 0 9 0 2147483647, (2, (13, 0), (9, 0), 1, 0)] else [cm_d 0 9 0 0]
def dm_ok (c : Nat) : List og_D := cm_d 0 10 (c : Int) (c : Int) :: cm_d 0 11 (cm_lo.getD c 0) (cm_hi.getD c 0) :: dm_n c
def dm_TA (c : Nat) : og_T := (some 21, none, [(0, 11, 0), (0, 9, 0), (0, 10, 0), (2, 0, 53)], [], [], dm_ok c)
def dm_bad : List (List og_D) := [[cm_d 0 10 (-2147483648) (-1)], [cm_d 0 10 8 2147483647], [cm_d 0 10 0 6, cm_d 0 9 (-2147483648) (-1)], [cm_d 0 10 5 5, cm_d 0 9 30 2147483647], [cm_d 0 10 7 7, (7, (9, 0), (0, 0), 0, 0)], [cm_d 0 10 6 6, (1, (13, 0), (9, 0), 1, 0)], [cm_d 0 10 0 4, (1, (12, 0), (9, 0), 1, 0)]] ++ (List.range 8).flatMap cm_badc
def dm_Ts : List og_T := (List.range 8).map dm_TA ++ dm_bad.map cm_TV
theorem dm_c : gs_chk (fun pc => Nat.beq pc 21) (fun o => dm_Ts.any (og_chk dm_t o)) 600 600 3 163 0 dm_l [] dm_t = true := by decide +kernel
noncomputable def dm_t2 : sx_S := og_t [(0, sx_r32)] []
def dm_T2 : og_T := (none, some (0, 9, 0), [], [], [], [])
theorem dm_c2 : gs_chk (fun _ => false) (fun o => [dm_T2].any (og_chk dm_t2 o)) 300 300 3 163 24 [] [(0, 9, 0)] dm_t2 = true := by decide +kernel
-- lays: 9 of, 10 at, 11 v
def dl_cell (c : Nat) : Nat := if c < 5 then 54 + c else if c = 5 then 61 else 60
def dl_T (c : Nat) : og_T := (none, none, [], [], [if c = 7 then (53, (0, 13), (11, 0)) else (dl_cell c, (if c = 7 then (0, 0) else (10, 0)), (11, 0))], [(0, (9, 0), (0, 0), (c : Int), (c : Int))])
def dl_Ts : List og_T := (List.range 8).map dl_T
def dl_l : sx_L := [(0, 2, 0, 53), (1, 0, 9, 0), (2, 0, 10, 0), (3, 0, 11, 0)]
noncomputable def dl_t (w n v : Int × Int) : sx_S := og_t [(0, w), (0, n), (0, v)] [(53, 13, (0, 29))]
theorem dl_c0 : gs_chk (fun _ => false) (fun o => dl_Ts.any (og_chk (dl_t (0, 4) (0, 5) (-1, 143)) o)) 300 300 1 161 0 dl_l [] (dl_t (0, 4) (0, 5) (-1, 143)) = true := by decide +kernel
theorem dl_c5 : gs_chk (fun _ => false) (fun o => dl_Ts.any (og_chk (dl_t (5, 5) (0, 29) (-1, 143)) o)) 300 300 1 161 0 dl_l [] (dl_t (5, 5) (0, 29) (-1, 143)) = true := by decide +kernel
theorem dl_c6 : gs_chk (fun _ => false) (fun o => dl_Ts.any (og_chk (dl_t (6, 6) (0, 11) (-1, 143)) o)) 300 300 1 161 0 dl_l [] (dl_t (6, 6) (0, 11) (-1, 143)) = true := by decide +kernel
theorem dl_c7 : gs_chk (fun _ => false) (fun o => dl_Ts.any (og_chk (dl_t (7, 7) (0, 0) (0, 29)) o)) 300 300 1 161 0 dl_l [] (dl_t (7, 7) (0, 0) (0, 29)) = true := by decide +kernel
-- changes: 12 done, 13 undone, 14 today; what it was: 15 (today: 14)
noncomputable def dc_t (w n : Int × Int) : sx_S := og_t [(0, w), (0, n), (0, sx_r32)] [(53, 14, (0, 40)), (53, 15, (0, 40)), (53, 13, (0, 29))]
def dc_w (c : Nat) : sx_A := if c = 7 then (14, 0) else (15, 0)
def dc_ok (c : Nat) : List og_D := (0, (9, 0), (0, 0), (c : Int), (c : Int)) :: (if c = 7 then [] else [(6, (10, 0), (15, 0), ((dl_cell c : Nat) : Int), 0)])
def dc_TE (c : Nat) : og_T := (none, some (0, dc_w c), [], [], [], (3, dc_w c, (11, 0), 0, 0) :: dc_ok c)
def dc_TL (c : Nat) : og_T := (some 34, none, [], [(0, 2, 0, 53), (1, 0, 9, 0), (2, 0, 10, 0), (3, 0, 11, 0), (4, 0, dc_w c), (5, 0, 0, 1)], [(53, (0, 15), (0, 0))], (4, dc_w c, (11, 0), 0, 0) :: (0, (12, 0), (0, 0), 40, 40) :: dc_ok c)
def dc_TN (c : Nat) : og_T := (some 121, none, [], [(0, 2, 0, 53), (1, 0, 9, 0), (2, 0, 10, 0), (3, 0, 11, 0), (4, 0, dc_w c)], [(53, (0, 15), (0, 0))], (4, dc_w c, (11, 0), 0, 0) :: (0, (12, 0), (0, 0), 0, 39) :: dc_ok c)
def dc_Ts : List og_T := (List.range 8).map dc_TE ++ ((List.range 8).map dc_TL ++ (List.range 8).map dc_TN)
def dc_st (pc : Nat) : Bool := bif Nat.beq pc 34 then true else Nat.beq pc 121
theorem dc_c0 : gs_chk dc_st (fun o => dc_Ts.any (og_chk (dc_t (0, 4) (0, 5)) o)) 300 300 2 168 0 dl_l [] (dc_t (0, 4) (0, 5)) = true := by decide +kernel
theorem dc_c5 : gs_chk dc_st (fun o => dc_Ts.any (og_chk (dc_t (5, 5) (0, 29)) o)) 300 300 2 168 0 dl_l [] (dc_t (5, 5) (0, 29)) = true := by decide +kernel
theorem dc_c6 : gs_chk dc_st (fun o => dc_Ts.any (og_chk (dc_t (6, 6) (0, 11)) o)) 300 300 2 168 0 dl_l [] (dc_t (6, 6) (0, 11)) = true := by decide +kernel
theorem dc_c7 : gs_chk dc_st (fun o => dc_Ts.any (og_chk (dc_t (7, 7) (0, 0)) o)) 300 300 2 168 0 dl_l [] (dc_t (7, 7) (0, 0)) = true := by decide +kernel
-- the loop: 9 of, 10 at, 11 v, 12 what it was, 13 k, 14 done; what stands at k: 15 to 18
noncomputable def dk_t (k : Int × Int) : sx_S := og_t [(0, sx_r32), (0, sx_r32), (0, sx_r32), (0, sx_r32), (0, k)] [(53, 14, (0, 40))]
noncomputable def dk_t1 : sx_S := (sx_frl (sx_frl (sx_frl (sx_frl (dk_t (1, 39)) 62 (13, 0) sx_r32).2 63 (13, 0) sx_r32).2 64 (13, 0) sx_r32).2 65 (13, 0) sx_r32).2
def dk_l (k : sx_A) : sx_L := [(0, 2, 0, 53), (1, 0, 9, 0), (2, 0, 10, 0), (3, 0, 11, 0), (4, 0, 12, 0), (5, 0, k)]
def dk_T1 : og_T := (some 34, none, [], dk_l (13, 1), [(65, (13, -1), (18, 0)), (64, (13, -1), (17, 0)), (63, (13, -1), (16, 0)), (62, (13, -1), (15, 0))], [])
theorem dk_c1 : gs_chk dc_st (fun o => [dk_T1].any (og_chk dk_t1 o)) 300 300 2 168 36 (dk_l (13, 0)) [(0, 13, 0)] dk_t1 = true := by decide +kernel
def dk_T2 : og_T := (some 121, none, [], [(0, 2, 0, 53), (1, 0, 9, 0), (2, 0, 10, 0), (3, 0, 11, 0), (4, 0, 12, 0)], [(53, (0, 14), (0, 39))], [])
noncomputable def dk_t2 : sx_S := og_t [(0, sx_r32), (0, sx_r32), (0, sx_r32), (0, sx_r32), (0, (40, 40))] [(53, 14, (40, 40))]
theorem dk_c2 : gs_chk dc_st (fun o => [dk_T2].any (og_chk dk_t2 o)) 300 300 2 168 36 (dk_l (13, 0)) [(0, 13, 0)] dk_t2 = true := by decide +kernel
-- from 121 to the call of lays()
noncomputable def dw_t : sx_S := og_t [(0, sx_r32), (0, sx_r32), (0, sx_r32), (0, sx_r32)] [(53, 14, (0, 39))]
def dw_l : sx_L := [(0, 2, 0, 53), (1, 0, 9, 0), (2, 0, 10, 0), (3, 0, 11, 0), (4, 0, 12, 0)]
def dw_T : og_T := (some 176, none, [(0, 11, 0), (0, 10, 0), (0, 9, 0), (2, 0, 53)], [(4, 0, 12, 0)], [(53, (0, 14), (13, 1)), (65, (13, 0), (11, 0)), (64, (13, 0), (12, 0)), (63, (13, 0), (10, 0)), (62, (13, 0), (9, 0))], [])
theorem dw_c : gs_chk (fun pc => Nat.beq pc 176) (fun o => [dw_T].any (og_chk dw_t o)) 300 300 2 168 121 dw_l [] dw_t = true := by decide +kernel
theorem dw_c2 : gs_chk (fun _ => false) (fun o => [dm_T2].any (og_chk dm_t2 o)) 300 300 2 168 179 [(4, 0, 9, 0)] [] dm_t2 = true := by decide +kernel
-- undo, redo: 9 done, 10 undone
noncomputable def du_t : sx_S := og_t [] [(53, 14, (0, 40)), (53, 15, (0, 40))]
def du_l : sx_L := [(0, 2, 0, 53)]
def du_T0 : og_T := (none, some (0, 0, -5), [], [], [], [(0, (9, 0), (0, 0), 0, 0)])
noncomputable def du_t1 : sx_S := (sx_frl (sx_frl (sx_frl (og_t [] [(53, 14, (1, 40)), (53, 15, (0, 39))]) 62 (9, -1) sx_r32).2 63 (9, -1) sx_r32).2 64 (9, -1) sx_r32).2
def du_T1 : og_T := (some 58, none, [(0, 13, 0), (0, 12, 0), (0, 11, 0), (2, 0, 53)], du_l, [(53, (0, 15), (10, 1)), (53, (0, 14), (9, -1))], [])
theorem du_c0 : gs_chk (fun _ => false) (fun o => [du_T0].any (og_chk (og_t [] [(53, 14, (0, 0)), (53, 15, (0, 40))]) o)) 300 300 2 160 0 du_l [] (og_t [] [(53, 14, (0, 0)), (53, 15, (0, 40))]) = true := by decide +kernel
theorem du_c1 : gs_chk (fun pc => Nat.beq pc 58) (fun o => [du_T1].any (og_chk du_t1 o)) 300 300 2 160 0 du_l [] du_t1 = true := by decide +kernel
def du_T2 : og_T := (none, some (0, 9, 0), [], [], [], [])
theorem du_c2 : gs_chk (fun _ => false) (fun o => [du_T2].any (og_chk du_t o)) 300 300 2 160 61 du_l [] du_t = true := by decide +kernel
def dr_T0 : og_T := (none, some (0, 0, -5), [], [], [], [])
theorem dr_c0 : gs_chk (fun _ => false) (fun o => [dr_T0].any (og_chk (og_t [] [(53, 14, (0, 40)), (53, 15, (0, 0))]) o)) 300 300 2 162 0 du_l [] (og_t [] [(53, 14, (0, 40)), (53, 15, (0, 0))]) = true := by decide +kernel
noncomputable def dr_t1 : sx_S := (sx_frl (sx_frl (sx_frl (og_t [] [(53, 14, (0, 39)), (53, 15, (1, 40))]) 62 (9, 0) sx_r32).2 63 (9, 0) sx_r32).2 65 (9, 0) sx_r32).2
def dr_T1 : og_T := (some 38, none, [(0, 13, 0), (0, 12, 0), (0, 11, 0), (2, 0, 53)], du_l, [], [])
theorem dr_c1 : gs_chk (fun pc => Nat.beq pc 38) (fun o => [dr_T1].any (og_chk dr_t1 o)) 300 300 2 162 0 du_l [] dr_t1 = true := by decide +kernel
noncomputable def dr_t2 : sx_S := og_t [] [(53, 14, (0, 39)), (53, 15, (1, 40))]
def dr_T2 : og_T := (none, some (0, 10, -1), [], [], [(53, (0, 15), (10, -1)), (53, (0, 14), (9, 1))], [])
theorem dr_c2 : gs_chk (fun _ => false) (fun o => [dr_T2].any (og_chk dr_t2 o)) 300 300 2 162 41 du_l [] dr_t2 = true := by decide +kernel
end
