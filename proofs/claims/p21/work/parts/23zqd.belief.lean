/-! belief: the class. -/
section
variable {L : Nat} {xs : Nat → Int32} {M M' N N' : Nat → Nat → Int} {c : Nat} {p x : Int} {Q : Option Value → (Nat → Nat → Int) → Prop}
def be0_i : List qs_I := [(0, 0, (0, 0), (-2147483648, -1)), (0, 0, (0, 0), sx_r32), (0, 0, (0, 0), sx_r32), (0, 0, (0, 0), sx_r32)]
def be0_T : List og_T := [(none, some (1, 0, -9223372036854775808), [], [], [], [])]
theorem be0_c : qs_chk (fun pc => Nat.beq pc 52) be0_i 0 be0_T 400 400 24 96 0 [(0, 2, 0, 8), (1, 0, 9, 0), (2, 0, 10, 0), (3, 0, 11, 0), (4, 0, 12, 0)] [] = true := by decide +kernel
def be9_i : List qs_I := [(0, 0, (0, 0), (6, 2147483647)), (0, 0, (0, 0), sx_r32), (0, 0, (0, 0), sx_r32), (0, 0, (0, 0), sx_r32)]
def be9_T : List og_T := [(none, some (1, 0, -9223372036854775808), [], [], [], [])]
theorem be9_c : qs_chk (fun pc => Nat.beq pc 52) be9_i 0 be9_T 400 400 24 96 0 [(0, 2, 0, 8), (1, 0, 9, 0), (2, 0, 10, 0), (3, 0, 11, 0), (4, 0, 12, 0)] [] = true := by decide +kernel
def be1_i (c : Nat) : List qs_I := [(0, 0, (0, 0), sx_r32), (0, 0, (0, 0), sx_r32), (0, 0, (0, 0), sx_r32), (1, 9, (0, 4), (0, 6)), (1, 41 + 2 * c, (0, 2), (-1, 4))]
def be1_T (c : Nat) : List og_T := [(none, some (1, 0, -9223372036854775808), [], [], [], [(0, (9, 0), (0, 0), -2147483648, -1)]), (none, some (1, 0, -9223372036854775808), [], [], [], [(0, (9, 0), (0, 0), 0, 2147483647), (2, (9, 0), (12, 0), 0, 0)]), (none, some (1, 0, -9223372036854775808), [], [], [], [(0, (9, 0), (0, 0), 0, 5), (0, (10, 0), (0, 0), -2147483648, -1), (0, (12, 0), (0, 0), 1, 6), (1, (9, 0), (12, 0), 0, 0)]), (none, some (1, 0, -9223372036854775808), [], [], [], [(0, (9, 0), (0, 0), 0, 5), (0, (10, 0), (0, 0), 13, 2147483647), (0, (12, 0), (0, 0), 1, 6), (1, (9, 0), (12, 0), 0, 0)]), (some 52, none, [], [(0, 2, 0, 8), (1, 0, 0, (c : Int)), (2, 0, 9, 0), (3, 0, 10, 0), (4, 0, 11, 0)], [], [(0, (9, 0), (0, 0), 0, 5), (0, (10, 0), (0, 0), 0, 12), (0, (11, 0), (0, 0), 0, 0), (0, (12, 0), (0, 0), 1, 6), (0, (13, 0), (0, 0), 0, 0), (1, (9, 0), (12, 0), 0, 0)]), (none, some (1, 0, -9223372036854775808), [], [], [], [(0, (9, 0), (0, 0), 0, 5), (0, (10, 0), (0, 0), 0, 12), (0, (11, 0), (0, 0), 0, 0), (0, (12, 0), (0, 0), 1, 6), (7, (13, 0), (0, 0), 0, 0), (1, (9, 0), (12, 0), 0, 0)]), (none, some (1, 0, -9223372036854775808), [], [], [], [(0, (9, 0), (0, 0), 0, 5), (0, (10, 0), (0, 0), 0, 12), (0, (12, 0), (0, 0), 1, 6), (7, (11, 0), (0, 0), 0, 0), (7, (11, 0), (0, 0), 1, 0), (1, (9, 0), (12, 0), 0, 0)]), (some 52, none, [], [(0, 2, 0, 8), (1, 0, 0, (c : Int)), (2, 0, 9, 0), (3, 0, 10, 0), (4, 0, 11, 0)], [], [(0, (9, 0), (0, 0), 0, 5), (0, (10, 0), (0, 0), 0, 12), (0, (11, 0), (0, 0), 1, 1), (0, (12, 0), (0, 0), 1, 6), (0, (13, 0), (0, 0), 0, 0), (7, (11, 0), (0, 0), 0, 0), (1, (9, 0), (12, 0), 0, 0)]), (none, some (1, 0, -9223372036854775808), [], [], [], [(0, (9, 0), (0, 0), 0, 5), (0, (10, 0), (0, 0), 0, 12), (0, (11, 0), (0, 0), 1, 1), (0, (12, 0), (0, 0), 1, 6), (7, (11, 0), (0, 0), 0, 0), (7, (13, 0), (0, 0), 0, 0), (1, (9, 0), (12, 0), 0, 0)])]
theorem be1_c : ((List.range 6).all fun c => qs_chk (fun pc => Nat.beq pc 52) (be1_i c) 0 (be1_T c) 400 400 24 96 0 [(0, 2, 0, 8), (1, 0, 0, (c : Int)), (2, 0, 9, 0), (3, 0, 10, 0), (4, 0, 11, 0)] []) = true := by decide +kernel
def bea_i (c : Nat) : List qs_I := [(0, 0, (0, 0), (0, 5)), (0, 0, (0, 0), (0, 12)), (0, 0, (0, 0), (0, 1)), (1, 41 + 2 * c, (0, 1), (0, 60)), (1, 10, (0, 210), (0, 29))]
def bea_T (c : Nat) : List og_T := [(some 96, none, [], [(0, 2, 0, 8), (1, 0, 0, (c : Int)), (2, 0, 9, 0), (3, 0, 10, 0), (4, 0, 11, 0), (5, 2, 0, 41 + 2 * (c : Int)), (6, 0, 14, 0), (7, 1, 0, 1), (9, 1, 0, 12), (11, 0, 0, 0)], [], [(0, (12, 0), (0, 0), 13, 60), (0, (14, 0), (0, 0), 1, 11), (5, (0, 30), (13, 0), 1, 14)]), (some 96, none, [], [(0, 2, 0, 8), (1, 0, 0, (c : Int)), (2, 0, 9, 0), (3, 0, 10, 0), (4, 0, 11, 0), (5, 2, 0, 41 + 2 * (c : Int)), (6, 0, 0, 12), (7, 1, 0, 1), (9, 1, 0, 12), (11, 0, 0, 0)], [], [(0, (12, 0), (0, 0), 13, 60), (0, (14, 0), (0, 0), 12, 30), (5, (0, 30), (13, 0), 1, 14)]), (some 96, none, [], [(0, 2, 0, 8), (1, 0, 0, (c : Int)), (2, 0, 9, 0), (3, 0, 10, 0), (4, 0, 11, 0), (5, 2, 0, 41 + 2 * (c : Int)), (6, 0, 14, 0), (7, 1, 0, 1), (9, 1, 0, 12), (11, 0, 0, 0)], [], [(0, (12, 0), (0, 0), 2, 12), (0, (14, 0), (0, 0), 1, 11), (1, (14, 0), (12, 0), 0, 0), (5, (0, 30), (13, 0), 1, 14)]), (some 96, none, [], [(0, 2, 0, 8), (1, 0, 0, (c : Int)), (2, 0, 9, 0), (3, 0, 10, 0), (4, 0, 11, 0), (5, 2, 0, 41 + 2 * (c : Int)), (6, 0, 12, 0), (7, 1, 0, 1), (9, 1, 0, 12), (11, 0, 0, 0)], [], [(0, (12, 0), (0, 0), 0, 12), (0, (14, 0), (0, 0), 1, 30), (2, (14, 0), (12, 0), 0, 0), (5, (0, 30), (13, 0), 1, 14)])]
theorem bea_c : ((List.range 6).all fun c => qs_chk (fun pc => Nat.beq pc 96) (bea_i c) 1 (bea_T c) 400 400 24 96 52 [(0, 2, 0, 8), (1, 0, 0, (c : Int)), (2, 0, 9, 0), (3, 0, 10, 0), (4, 0, 11, 0)] []) = true := by decide +kernel
def be20_i (c : Nat) : List qs_I := [(0, 0, (0, 0), (0, 5)), (0, 0, (0, 0), (0, 12)), (0, 0, (0, 0), (0, 1)), (0, 0, (0, 0), (0, 12)), (0, 0, (0, 0), sx_r64), (0, 0, (0, 0), sx_r64), (0, 0, (0, 0), (0, 11)), (2, 12, (15, 0), (0, 0)), (1, 42 + 2 * c, (15, 0), (0, 0)), (1, 10, (0, 210), (0, 29)), (1, 10, (9, 30), (-1, 143))]
def be20_T (c : Nat) : List og_T := [(some 96, none, [], [(0, 2, 0, 8), (1, 0, 0, (c : Int)), (2, 0, 9, 0), (3, 0, 10, 0), (4, 0, 11, 0), (5, 2, 0, 41 + 2 * (c : Int)), (6, 0, 12, 0), (7, 1, 19, 0), (9, 1, 25, 0), (11, 0, 15, 1)], [], [(0, (20, 0), (0, 0), 0, 40), (0, (21, 0), (0, 0), -1, 143), (5, (13, 0), (0, 12), 34, 19), (5, (17, 0), (15, 0), 0, 20), (5, (18, 0), (21, 0), 2, 22), (5, (22, 0), (0, 9), 6, 23), (5, (0, 12), (23, 0), 1, 24), (5, (14, 0), (24, 0), 34, 25), (6, (20, 150), (21, 0), 10, 0)])]
theorem be20_c : ((List.range 6).all fun c => qs_chk (fun pc => bif Nat.beq pc 96 then true else Nat.beq pc 210) (be20_i c) 7 (be20_T c) 400 400 24 96 96 [(0, 2, 0, 8), (1, 0, 0, (c : Int)), (2, 0, 9, 0), (3, 0, 10, 0), (4, 0, 11, 0), (5, 2, 0, 41 + 2 * (c : Int)), (6, 0, 12, 0), (7, 1, 13, 0), (9, 1, 14, 0), (11, 0, 15, 0)] []) = true := by decide +kernel
def be21_i (c : Nat) : List qs_I := [(0, 0, (0, 0), (0, 5)), (0, 0, (0, 0), (0, 12)), (0, 0, (0, 0), (0, 1)), (0, 0, (0, 0), (0, 12)), (0, 0, (0, 0), sx_r64), (0, 0, (0, 0), sx_r64), (0, 0, (0, 0), (0, 11)), (2, 12, (15, 0), (0, 0)), (1, 42 + 2 * c, (15, 0), (1, 1)), (1, 10, (0, 210), (0, 29)), (1, 10, (9, 30), (-1, 143))]
def be21_T (c : Nat) : List og_T := [(some 96, none, [], [(0, 2, 0, 8), (1, 0, 0, (c : Int)), (2, 0, 9, 0), (3, 0, 10, 0), (4, 0, 11, 0), (5, 2, 0, 41 + 2 * (c : Int)), (6, 0, 12, 0), (7, 1, 19, 0), (9, 1, 24, 0), (11, 0, 15, 1)], [], [(0, (20, 0), (0, 0), 0, 40), (0, (21, 0), (0, 0), -1, 143), (5, (13, 0), (0, 0), 34, 19), (5, (17, 0), (15, 0), 0, 20), (5, (18, 0), (21, 0), 2, 22), (5, (22, 0), (0, 9), 6, 23), (5, (14, 0), (23, 0), 34, 24), (6, (20, 150), (21, 0), 10, 0)])]
theorem be21_c : ((List.range 6).all fun c => qs_chk (fun pc => bif Nat.beq pc 96 then true else Nat.beq pc 210) (be21_i c) 6 (be21_T c) 400 400 24 96 96 [(0, 2, 0, 8), (1, 0, 0, (c : Int)), (2, 0, 9, 0), (3, 0, 10, 0), (4, 0, 11, 0), (5, 2, 0, 41 + 2 * (c : Int)), (6, 0, 12, 0), (7, 1, 13, 0), (9, 1, 14, 0), (11, 0, 15, 0)] []) = true := by decide +kernel
def be22_i (c : Nat) : List qs_I := [(0, 0, (0, 0), (0, 5)), (0, 0, (0, 0), (0, 12)), (0, 0, (0, 0), (0, 1)), (0, 0, (0, 0), (0, 12)), (0, 0, (0, 0), sx_r64), (0, 0, (0, 0), sx_r64), (0, 0, (0, 0), (0, 11)), (2, 12, (15, 0), (0, 0)), (1, 42 + 2 * c, (15, 0), (2, 2)), (1, 10, (0, 210), (0, 29)), (1, 10, (9, 30), (-1, 143))]
def be22_T (c : Nat) : List og_T := [(some 96, none, [], [(0, 2, 0, 8), (1, 0, 0, (c : Int)), (2, 0, 9, 0), (3, 0, 10, 0), (4, 0, 11, 0), (5, 2, 0, 41 + 2 * (c : Int)), (6, 0, 12, 0), (7, 1, 20, 0), (9, 1, 26, 0), (11, 0, 15, 1)], [], [(0, (19, 0), (0, 0), 0, 12), (0, (21, 0), (0, 0), 0, 40), (0, (22, 0), (0, 0), -1, 143), (5, (0, 12), (10, 0), 1, 19), (5, (13, 0), (19, 0), 34, 20), (5, (17, 0), (15, 0), 0, 21), (5, (18, 0), (22, 0), 2, 23), (5, (23, 0), (0, 9), 6, 24), (5, (0, 12), (24, 0), 1, 25), (5, (14, 0), (25, 0), 34, 26), (6, (21, 150), (22, 0), 10, 0)])]
theorem be22_c : ((List.range 6).all fun c => qs_chk (fun pc => bif Nat.beq pc 96 then true else Nat.beq pc 210) (be22_i c) 8 (be22_T c) 400 400 24 96 96 [(0, 2, 0, 8), (1, 0, 0, (c : Int)), (2, 0, 9, 0), (3, 0, 10, 0), (4, 0, 11, 0), (5, 2, 0, 41 + 2 * (c : Int)), (6, 0, 12, 0), (7, 1, 13, 0), (9, 1, 14, 0), (11, 0, 15, 0)] []) = true := by decide +kernel
def be23_i (c : Nat) : List qs_I := [(0, 0, (0, 0), (0, 5)), (0, 0, (0, 0), (0, 12)), (0, 0, (0, 0), (0, 1)), (0, 0, (0, 0), (0, 12)), (0, 0, (0, 0), sx_r64), (0, 0, (0, 0), sx_r64), (0, 0, (0, 0), (0, 11)), (2, 12, (15, 0), (0, 0)), (1, 42 + 2 * c, (15, 0), (3, 3)), (1, 10, (0, 210), (0, 29)), (1, 10, (9, 30), (-1, 143))]
def be23_T (c : Nat) : List og_T := [(some 96, none, [], [(0, 2, 0, 8), (1, 0, 0, (c : Int)), (2, 0, 9, 0), (3, 0, 10, 0), (4, 0, 11, 0), (5, 2, 0, 41 + 2 * (c : Int)), (6, 0, 12, 0), (7, 1, 19, 0), (9, 1, 24, 0), (11, 0, 15, 1)], [], [(0, (20, 0), (0, 0), 0, 40), (0, (21, 0), (0, 0), -1, 143), (5, (13, 0), (10, 0), 34, 19), (5, (17, 0), (15, 0), 0, 20), (5, (18, 0), (21, 0), 2, 22), (5, (22, 0), (0, 9), 6, 23), (5, (14, 0), (23, 0), 34, 24), (6, (20, 150), (21, 0), 10, 0)])]
theorem be23_c : ((List.range 6).all fun c => qs_chk (fun pc => bif Nat.beq pc 96 then true else Nat.beq pc 210) (be23_i c) 6 (be23_T c) 400 400 24 96 96 [(0, 2, 0, 8), (1, 0, 0, (c : Int)), (2, 0, 9, 0), (3, 0, 10, 0), (4, 0, 11, 0), (5, 2, 0, 41 + 2 * (c : Int)), (6, 0, 12, 0), (7, 1, 13, 0), (9, 1, 14, 0), (11, 0, 15, 0)] []) = true := by decide +kernel
def be3_i (c : Nat) : List qs_I := [(0, 0, (0, 0), (0, 5)), (0, 0, (0, 0), (0, 12)), (0, 0, (0, 0), (0, 1)), (0, 0, (0, 0), (0, 12)), (0, 0, (0, 0), sx_r64), (0, 0, (0, 0), sx_r64), (0, 0, (0, 0), (0, 12)), (3, 12, (15, 0), (0, 0))]
def be3_T (c : Nat) : List og_T := [(some 210, none, [], [(4, 0, 11, 0), (7, 1, 13, 0), (9, 1, 14, 0)], [], [])]
theorem be3_c : ((List.range 6).all fun c => qs_chk (fun pc => bif Nat.beq pc 96 then true else Nat.beq pc 210) (be3_i c) 0 (be3_T c) 400 400 24 96 96 [(0, 2, 0, 8), (1, 0, 0, (c : Int)), (2, 0, 9, 0), (3, 0, 10, 0), (4, 0, 11, 0), (5, 2, 0, 41 + 2 * (c : Int)), (6, 0, 12, 0), (7, 1, 13, 0), (9, 1, 14, 0), (11, 0, 15, 0)] []) = true := by decide +kernel
def be4_i (c : Nat) : List qs_I := [(0, 0, (0, 0), (0, 5)), (0, 0, (0, 0), (0, 12)), (0, 0, (0, 0), (0, 1)), (0, 0, (0, 0), (0, 12)), (0, 0, (0, 0), sx_r64), (0, 0, (0, 0), sx_r64), (0, 0, (0, 0), (0, 11)), (2, 12, (15, 0), (0, 0)), (1, 42 + 2 * c, (15, 0), (-128, -1))]
def be4_T (c : Nat) : List og_T := [(some 210, none, [], [(4, 0, 11, 0), (7, 1, 13, 0), (9, 1, 14, 0)], [], [])]
theorem be4_c : ((List.range 6).all fun c => qs_chk (fun pc => bif Nat.beq pc 96 then true else Nat.beq pc 210) (be4_i c) 0 (be4_T c) 400 400 24 96 96 [(0, 2, 0, 8), (1, 0, 0, (c : Int)), (2, 0, 9, 0), (3, 0, 10, 0), (4, 0, 11, 0), (5, 2, 0, 41 + 2 * (c : Int)), (6, 0, 12, 0), (7, 1, 13, 0), (9, 1, 14, 0), (11, 0, 15, 0)] []) = true := by decide +kernel
def be5_i (c : Nat) : List qs_I := [(0, 0, (0, 0), (0, 5)), (0, 0, (0, 0), (0, 12)), (0, 0, (0, 0), (0, 1)), (0, 0, (0, 0), (0, 12)), (0, 0, (0, 0), sx_r64), (0, 0, (0, 0), sx_r64), (0, 0, (0, 0), (0, 11)), (2, 12, (15, 0), (0, 0)), (1, 42 + 2 * c, (15, 0), (4, 127))]
def be5_T (c : Nat) : List og_T := [(some 210, none, [], [(4, 0, 11, 0), (7, 1, 13, 0), (9, 1, 14, 0)], [], [])]
theorem be5_c : ((List.range 6).all fun c => qs_chk (fun pc => bif Nat.beq pc 96 then true else Nat.beq pc 210) (be5_i c) 0 (be5_T c) 400 400 24 96 96 [(0, 2, 0, 8), (1, 0, 0, (c : Int)), (2, 0, 9, 0), (3, 0, 10, 0), (4, 0, 11, 0), (5, 2, 0, 41 + 2 * (c : Int)), (6, 0, 12, 0), (7, 1, 13, 0), (9, 1, 14, 0), (11, 0, 15, 0)] []) = true := by decide +kernel
def be6_i : List qs_I := [(0, 0, (0, 0), (0, 1)), (0, 0, (0, 0), sx_r64), (0, 0, (0, 0), sx_r64)]
def be6_T : List og_T := [(some 242, none, [(0, 9, 0), (1, 12, 0), (1, 10, 0)], [(4, 0, 9, 0), (7, 1, 10, 0), (9, 1, 11, 0)], [], [(0, (12, 0), (0, 0), -9223372036854775808, -1), (5, (10, 0), (11, 0), 32, 12)]), (none, some (1, 0, -2), [], [], [], [(0, (9, 0), (0, 0), 0, 0), (0, (12, 0), (0, 0), 0, 0), (5, (10, 0), (11, 0), 32, 12)]), (none, some (1, 0, 1), [], [], [], [(0, (12, 0), (0, 0), 0, 0), (7, (9, 0), (0, 0), 0, 0), (5, (10, 0), (11, 0), 32, 12)]), (some 242, none, [(0, 9, 0), (1, 12, 0), (1, 10, 0)], [(4, 0, 9, 0), (7, 1, 10, 0), (9, 1, 11, 0)], [], [(0, (12, 0), (0, 0), 1, 9223372036854775807), (5, (10, 0), (11, 0), 32, 12)])]
theorem be6_c : qs_chk (fun pc => Nat.beq pc 242) be6_i 1 be6_T 400 400 24 96 210 [(4, 0, 9, 0), (7, 1, 10, 0), (9, 1, 11, 0)] [] = true := by decide +kernel
def be7_i : List qs_I := [(0, 0, (0, 0), sx_r64)]
def be7_T : List og_T := [(none, some (1, 9, 0), [], [], [], [])]
theorem be7_c : qs_chk (fun _ => false) be7_i 0 be7_T 400 400 24 96 245 [] [(1, 9, 0)] = true := by decide +kernel
-- Euclid's way is no longer than that of Fibonacci's numbers
def fbp : Nat → Nat × Nat
  | 0 => (1, 2)
  | n + 1 => match fbp n with
    | (a, b) => (b, a + b)
def fbn (n : Nat) : Nat := (fbp n).1
theorem fbn_s (n : Nat) : fbn (n + 2) = fbn n + fbn (n + 1) := rfl
theorem eu_lam : ∀ (f : Nat) (x y : Int), y.natAbs < x.natAbs → y.natAbs < fbn f → sx_w sx_r64 x → sx_w sx_r64 y → ∃ g, eu f x y = some g ∧ g ≠ 0 ∧ sx_w sx_r64 g
  | 0, x, y, h1, h2, wx, wy => by
    have h2 : y.natAbs < 1 := h2
    have e : y = 0 := by omega
    subst e
    exact ⟨x, eu_0 0, fun q => by rw [q] at h1; omega, wx⟩
  | 1, x, y, h1, h2, wx, wy => by
    have h2 : y.natAbs < 2 := h2
    by_cases e : y = 0
    · subst e
      exact ⟨x, eu_0 1, fun q => by rw [q] at h1; omega, wx⟩
    · have ez : (sx_mf 39 x y).natAbs = x.natAbs % y.natAbs := by rw [eu_m wx wy e, Int.natAbs_tmod]
      have lz : (sx_mf 39 x y).natAbs < y.natAbs := by rw [ez]; exact Nat.mod_lt _ (by omega)
      have e0 : sx_mf 39 x y = 0 := by omega
      rw [eu_s e, e0]
      exact ⟨y, eu_0 0, e, wy⟩
  | f + 2, x, y, h1, h2, wx, wy => by
    rw [fbn_s] at h2
    by_cases e : y = 0
    · subst e
      exact ⟨x, eu_0 _, fun q => by rw [q] at h1; omega, wx⟩
    · rw [eu_s e]
      have wz := eu_w x y
      have ez : (sx_mf 39 x y).natAbs = x.natAbs % y.natAbs := by rw [eu_m wx wy e, Int.natAbs_tmod]
      have lz : (sx_mf 39 x y).natAbs < y.natAbs := by rw [ez]; exact Nat.mod_lt _ (by omega)
      generalize sx_mf 39 x y = z at wz lz
      by_cases q : z.natAbs < fbn (f + 1)
      · exact eu_lam (f + 1) y z lz q wy wz
      · by_cases e2 : z = 0
        · subst e2
          exact ⟨y, eu_0 _, e, wy⟩
        · rw [eu_s e2]
          have ww := eu_w y z
          have ew : (sx_mf 39 y z).natAbs = y.natAbs % z.natAbs := by rw [eu_m wy wz e2, Int.natAbs_tmod]
          have lw : (sx_mf 39 y z).natAbs < z.natAbs := by rw [ew]; exact Nat.mod_lt _ (by omega)
          have l2 : y.natAbs % z.natAbs ≤ y.natAbs - z.natAbs := by
            rw [Nat.mod_eq_sub_mod (by omega)]
            exact Nat.mod_le _ _
          exact eu_lam f z (sx_mf 39 y z) lw (by omega) wz ww
theorem fbn_98 : Nat.ble (2 ^ 63 + 1) (fbn 98) = true := by decide +kernel
theorem eu_any {a b : Int} (wa : sx_w sx_r64 a) (wb : sx_w sx_r64 b) (hb : b ≠ 0) : ∃ g, eu 99 a b = some g ∧ g ≠ 0 ∧ sx_w sx_r64 g := by
  rw [eu_s hb]
  have wz := eu_w a b
  have ez : (sx_mf 39 a b).natAbs = a.natAbs % b.natAbs := by rw [eu_m wa wb hb, Int.natAbs_tmod]
  have lz : (sx_mf 39 a b).natAbs < b.natAbs := by rw [ez]; exact Nat.mod_lt _ (by omega)
  have h98 := Nat.le_of_ble_eq_true fbn_98
  have wb' := sx_r64_iff.mp wb
  exact eu_lam 98 b _ lz (by omega) wb wz
theorem eu_b1 {b : Int} (hb : sx_w sx_r64 b) (h : b ≠ 0) : sx_mf 38 b b = 1 ∧ sx_mf 38 0 b = 0 := by
  constructor
  · show (Int64.ofInt b / Int64.ofInt b).toInt = 1
    rw [Int64.toInt_div, sx_i64 hb, Int.tdiv_self h]
    decide
  · show (Int64.ofInt 0 / Int64.ofInt b).toInt = 0
    rw [Int64.toInt_div, sx_i64 hb, sx_i64 (show sx_w sx_r64 0 from ⟨by decide, by decide⟩), Int.zero_tdiv]
    decide
theorem lq_b {a b g : Int} (hL : L < 2 ^ 31) (hm : sx_mok cl_ly M) (ha : sx_w sx_r64 a) (hb : sx_w sx_r64 b) (h0 : b ≠ 0) (hp : 0 ≤ p ∧ p ≤ 1) (g0 : g ≠ 0) (he : eu 99 a b = some g) : rz_fin (eu_Q M (eu_v p a b g)) L xs 209 3 0 [(0, .long (Int64.ofInt a)), (2, .long (Int64.ofInt b)), (4, .int (Int32.ofInt p))] [] M := by
  refine qs_use (zs := [a, b, p]) lq1_c hL hm (qs_iw ha (qs_iw hb (qs_in hp (qs_fin rfl)))) (Nat.le_refl _) rfl rfl (qs_c (fun N hN hc hM => ?_) (qs_c (fun N hN hc hM => ?_) (qs_c (fun N hN hc hM => ?_) qs_z)))
  · exact lq_loop (xs := xs) hL ha hb hp g0 99 a b N he ha hb hN hM
  · have c1 : 0 ≤ a ∧ a ≤ 0 := hc.1
    have ea : a = 0 := by omega
    subst ea
    have em : sx_mf 39 0 b = 0 := by rw [eu_m ha hb h0, Int.zero_tmod]
    have eg : b = g := by
      rw [eu_s h0, em, eu_0] at he
      exact Option.some.inj he
    subst eg
    have ev : eu_v p 0 b b = p := by
      unfold eu_v
      by_cases q : p = 0
      · rw [if_pos q, (eu_b1 hb h0).2, q]
      · rw [if_neg q, (eu_b1 hb h0).1]
        omega
    rw [ev]
    exact ⟨rfl, hN, hM⟩
  · exact lq_loop (xs := xs) hL ha hb hp g0 99 a b N he ha hb hN hM
/-- the weights, day by day -/
def bw_o (x e : Int) : Int := if e = 0 then 12 else if e = 1 then 0 else if e = 2 then sx_mf 1 12 x else x
def bw_u (o e : Int) : Int := if e = 0 ∨ e = 2 then sx_mf 1 12 o else o
def bw (E : Nat → Int) (x : Int) (od : Nat → Int) : Nat → Nat → Int × Int → Int × Int
  | 0, _, S => S
  | m + 1, i, S => if E i < 0 ∨ 3 < E i then S else bw E x od m (i + 1) (sx_mf 34 S.1 (bw_o x (E i)), sx_mf 34 S.2 (bw_u (od i) (E i)))
theorem bw_w {E od : Nat → Int} : ∀ (m i : Nat) (S : Int × Int), sx_w sx_r64 S.1 → sx_w sx_r64 S.2 → sx_w sx_r64 (bw E x od m i S).1 ∧ sx_w sx_r64 (bw E x od m i S).2 := by
  intro m
  induction m with
  | zero => intro i S h1 h2; exact ⟨h1, h2⟩
  | succ m ih =>
    intro i S h1 h2
    show sx_w sx_r64 (if E i < 0 ∨ 3 < E i then S else bw E x od m (i + 1) (sx_mf 34 S.1 (bw_o x (E i)), sx_mf 34 S.2 (bw_u (od i) (E i)))).1 ∧ sx_w sx_r64 (if E i < 0 ∨ 3 < E i then S else bw E x od m (i + 1) (sx_mf 34 S.1 (bw_o x (E i)), sx_mf 34 S.2 (bw_u (od i) (E i)))).2
    split
    · exact ⟨h1, h2⟩
    · exact ih (i + 1) _ (mf_w64 34 ⟨by decide, by decide⟩ _ _) (mf_w64 34 ⟨by decide, by decide⟩ _ _)
theorem bw_eq {E E' od od' : Nat → Int} : ∀ (m i : Nat) (S : Int × Int), (∀ j, i ≤ j → j < i + m → E' j = E j ∧ od' j = od j) → bw E' x od' m i S = bw E x od m i S := by
  intro m
  induction m with
  | zero => intro i S _; rfl
  | succ m ih =>
    intro i S h
    obtain ⟨h1, h2⟩ := h i (Nat.le_refl i) (by omega)
    show (if E' i < 0 ∨ 3 < E' i then S else bw E' x od' m (i + 1) (sx_mf 34 S.1 (bw_o x (E' i)), sx_mf 34 S.2 (bw_u (od' i) (E' i)))) = if E i < 0 ∨ 3 < E i then S else bw E x od m (i + 1) (sx_mf 34 S.1 (bw_o x (E i)), sx_mf 34 S.2 (bw_u (od i) (E i)))
    rw [h1, h2, ih (i + 1) _ (fun j a b => h j (by omega) (by omega))]
/-- what to believe -/
def bl_z (p : Int) (S : Int × Int) : Int := if sx_mf 32 S.1 S.2 = 0 then (if p = 0 then -2 else 1) else eu_v p S.1 (sx_mf 32 S.1 S.2) ((eu 99 S.1 (sx_mf 32 S.1 S.2)).getD 1)
theorem bl_w {S : Int × Int} : sx_w sx_r64 (bl_z p S) := by
  unfold bl_z
  split
  · split
    · exact og_w64 (by decide) (by decide)
    · exact og_w64 (by decide) (by decide)
  · exact eu_vw
theorem be_end {o a : Int} (hL : L < 2 ^ 31) (hm : sx_mok cl_ly N) (hf : ∀ q, q < 128 → N q = M q) (hp : 0 ≤ p ∧ p ≤ 1) (wo : sx_w sx_r64 o) (wa : sx_w sx_r64 a) : rz_fin (eu_Q M (bl_z p (o, a))) L xs 96 24 210 [(4, .int (Int32.ofInt p)), (7, .long (Int64.ofInt o)), (9, .long (Int64.ofInt a))] [] N := by
  have ws : sx_w sx_r64 (sx_mf 32 o a) := mf_w64 32 ⟨by decide, by decide⟩ _ _
  have go : ∀ K : Nat → Nat → Int, sx_mok cl_ly K → (∀ q, q < 128 → K q = N q) → sx_mf 32 o a ≠ 0 → rz_fin (eu_Q M (bl_z p (o, a))) L xs 96 24 242 [(4, .int (Int32.ofInt p)), (7, .long (Int64.ofInt o)), (9, .long (Int64.ofInt a))] [.int (Int32.ofInt p), .long (Int64.ofInt (sx_mf 32 o a)), .long (Int64.ofInt o)] K := fun K hK fK ne => by
    obtain ⟨g, eg, g0, gw⟩ := eu_any wo ws ne
    have ez : bl_z p (o, a) = eu_v p o (sx_mf 32 o a) g := by
      unfold bl_z
      rw [if_neg ne]
      show eu_v p o (sx_mf 32 o a) ((eu 99 o (sx_mf 32 o a)).getD 1) = _
      rw [eg]
      rfl
    rw [ez]
    refine qs_sc (k := 75) (d := 23) (d' := 23) (as := [.long (Int64.ofInt o), .long (Int64.ofInt (sx_mf 32 o a)), .int (Int32.ofInt p)]) (rest := []) rfl rfl rfl rfl rfl rfl rfl (Nat.le_refl _) rfl (rz_d (by decide) (fq_x (xs := xs) (p := p) hL hK wo ws hp g0 gw eg)) (fun r9 N4 hr => ?_)
    obtain ⟨rfl, hN4, f4⟩ := hr
    refine qs_nl (by show ([4, 7, 9] : List Nat).Nodup; decide) (qs_use (zs := [eu_v p o (sx_mf 32 o a) g]) be7_c hL hN4 (qs_iw eu_vw (qs_fin rfl)) (Nat.le_refl _) rfl rfl (qs_c (fun N5 hN5 hc hM => ?_) qs_z))
    have f5 : ∀ q, q < 128 → N5 q = N4 q := hM
    exact ⟨rfl, hN5, fun q hq => by rw [f5 q hq, f4 q hq, fK q hq, hf q hq]⟩
  refine qs_use (zs := [p, o, a]) be6_c hL hm (qs_in hp (qs_iw wo (qs_iw wa (qs_fin rfl)))) (Nat.le_refl _) rfl rfl (qs_c (fun u1 K hK hc hM => ?_) (qs_c (fun u1 K hK hc hM => ?_) (qs_c (fun u1 K hK hc hM => ?_) (qs_c (fun u1 K hK hc hM => ?_) qs_z))))
  · obtain ⟨c1, c2, -⟩ := hc
    have c1 : -9223372036854775808 ≤ u1 ∧ u1 ≤ -1 := c1
    have c2 : u1 = sx_mf 32 o a := c2
    have fK : ∀ a, a < 128 → K a = N a := hM
    subst c2
    exact go K hK fK (by omega)
  · obtain ⟨c1, c2, c3, -⟩ := hc
    have c1 : 0 ≤ p ∧ p ≤ 0 := c1
    have c2 : 0 ≤ u1 ∧ u1 ≤ 0 := c2
    have c3 : u1 = sx_mf 32 o a := c3
    have fK : ∀ a, a < 128 → K a = N a := hM
    have ez : bl_z p (o, a) = -2 := by
      unfold bl_z
      rw [if_pos (show sx_mf 32 o a = 0 by omega), if_pos (show p = 0 by omega)]
    rw [ez]
    exact ⟨rfl, hK, fun q hq => (fK q hq).trans (hf q hq)⟩
  · obtain ⟨c1, c2, c3, -⟩ := hc
    have c1 : 0 ≤ u1 ∧ u1 ≤ 0 := c1
    have c2 : p ≠ 0 := c2
    have c3 : u1 = sx_mf 32 o a := c3
    have fK : ∀ a, a < 128 → K a = N a := hM
    have ez : bl_z p (o, a) = 1 := by
      unfold bl_z
      rw [if_pos (show sx_mf 32 o a = 0 by omega), if_neg c2]
    rw [ez]
    exact ⟨rfl, hK, fun q hq => (fK q hq).trans (hf q hq)⟩
  · obtain ⟨c1, c2, -⟩ := hc
    have c1 : 1 ≤ u1 ∧ u1 ≤ 9223372036854775807 := c1
    have c2 : u1 = sx_mf 32 o a := c2
    have fK : ∀ a, a < 128 → K a = N a := hM
    subst c2
    exact go K hK fK (by omega)
theorem bw_o0 {x : Int} : bw_o x 0 = 12 := if_pos rfl
theorem bw_o1 {x : Int} : bw_o x 1 = 0 := by
  unfold bw_o
  rw [if_neg (by decide), if_pos rfl]
theorem bw_o2 {x : Int} : bw_o x 2 = sx_mf 1 12 x := by
  unfold bw_o
  rw [if_neg (by decide), if_neg (by decide), if_pos rfl]
theorem bw_o3 {x : Int} : bw_o x 3 = x := by
  unfold bw_o
  rw [if_neg (by decide), if_neg (by decide), if_neg (by decide)]
theorem bw_u0 {o : Int} : bw_u o 0 = sx_mf 1 12 o := if_pos (Or.inl rfl)
theorem bw_u1 {o : Int} : bw_u o 1 = o := if_neg (by decide)
theorem bw_u2 {o : Int} : bw_u o 2 = sx_mf 1 12 o := if_pos (Or.inr rfl)
theorem bw_u3 {o : Int} : bw_u o 3 = o := if_neg (by decide)
theorem be_s0 {o a r d : Int} {k t h i : Nat} (hL : L < 2 ^ 31) (hm : sx_mok cl_ly M') (hc6 : c < 6) (hh : h < 6) (hx : 0 ≤ x ∧ x ≤ 12) (hp : 0 ≤ p ∧ p ≤ 1) (h29 : t ≤ 29) (hk : k ≤ 12) (hi : i < k) (hk2 : t + k ≤ 30) (w1 : sx_w sx_r64 o) (w2 : sx_w sx_r64 a) (e1 : M' (42 + 2 * c) i = 0) (e210 : M' 10 210 = (t : Int)) (eR : M' 10 ((h : Int) + 30).toNat = r) (wR : -1 ≤ r ∧ r ≤ 143) (eD : M' 10 (150 + (t + i)) = d) (Kf : ∀ (u v : Int) (N' : Nat → Nat → Int), sx_mok cl_ly N' → (∀ q, q < 128 → N' q = M' q) → u = sx_mf 34 o (bw_o x 0) → v = sx_mf 34 a (bw_u (sx_mf 6 (sx_mf 2 r d) 9) 0) → rz_fin Q L xs 96 24 96 [(0, .ref 8), (1, .int (Int32.ofInt (c : Int))), (2, .int (Int32.ofInt (h : Int))), (3, .int (Int32.ofInt x)), (4, .int (Int32.ofInt p)), (5, .ref (41 + 2 * c)), (6, .int (Int32.ofInt (k : Int))), (7, .long (Int64.ofInt u)), (9, .long (Int64.ofInt v)), (11, .int (Int32.ofInt ((i + 1 : Nat) : Int)))] [] N') : rz_fin Q L xs 96 24 96 [(0, .ref 8), (1, .int (Int32.ofInt (c : Int))), (2, .int (Int32.ofInt (h : Int))), (3, .int (Int32.ofInt x)), (4, .int (Int32.ofInt p)), (5, .ref (41 + 2 * c)), (6, .int (Int32.ofInt (k : Int))), (7, .long (Int64.ofInt o)), (9, .long (Int64.ofInt a)), (11, .int (Int32.ofInt (i : Int)))] [] M' := by
  refine qs_use (zs := [(h : Int), x, p, (k : Int), o, a, (i : Int), (0 : Int), (t : Int), r]) (List.all_eq_true.mp be20_c c (List.mem_range.mpr hc6)) hL hm (qs_in (show 0 ≤ (h : Int) ∧ (h : Int) ≤ 5 by omega) (qs_in hx (qs_in hp (qs_in (show 0 ≤ (k : Int) ∧ (k : Int) ≤ 12 by omega) (qs_iw w1 (qs_iw w2 (qs_in (show 0 ≤ (i : Int) ∧ (i : Int) ≤ 11 by omega) (qs_lt (show (i : Int) < (k : Int) by omega) (qs_rd (show 0 ≤ (i : Int) by omega) e1 (show 0 ≤ (0 : Int) ∧ (0 : Int) ≤ 0 by omega) (qs_rd (show (0 : Int) ≤ 210 by decide) e210 (show 0 ≤ (t : Int) ∧ (t : Int) ≤ 29 by omega) (qs_rd (show 0 ≤ (h : Int) + 30 by omega) eR wR (qs_fin rfl)))))))))))) (Nat.le_refl _) rfl rfl (qs_c (fun u1 u2 u3 u4 u5 u6 u7 K hK hc hM => ?_) qs_z)
  obtain ⟨c1, c2, c3, c4, c5, c6, c7, c8, c9, -⟩ := hc
  have c1 : 0 ≤ u2 ∧ u2 ≤ 40 := c1
  have c2 : -1 ≤ u3 ∧ u3 ≤ 143 := c2
  have c3 : u1 = sx_mf 34 o 12 := c3
  have c4 : u2 = sx_mf 0 (t : Int) (i : Int) := c4
  have c5 : u4 = sx_mf 2 r u3 := c5
  have c6 : u5 = sx_mf 6 u4 9 := c6
  have c7 : u6 = sx_mf 1 12 u5 := c7
  have c8 : u7 = sx_mf 34 a u6 := c8
  have c9 : K 10 ((u2 + 150)).toNat = u3 := c9
  have fK : ∀ a, a < 128 → K a = M' a := hM
  rw [mf_add (by omega) (by omega)] at c4
  have d1 : u3 = d := by rw [← c9, fK 10 (by decide), c4, show ((t : Int) + (i : Int) + 150).toNat = 150 + (t + i) by omega]; exact eD
  exact Kf u1 u7 K hK fK (by rw [c3, bw_o0]) (by rw [c8, c7, c6, c5, d1, bw_u0])
theorem be_s1 {o a r d : Int} {k t h i : Nat} (hL : L < 2 ^ 31) (hm : sx_mok cl_ly M') (hc6 : c < 6) (hh : h < 6) (hx : 0 ≤ x ∧ x ≤ 12) (hp : 0 ≤ p ∧ p ≤ 1) (h29 : t ≤ 29) (hk : k ≤ 12) (hi : i < k) (hk2 : t + k ≤ 30) (w1 : sx_w sx_r64 o) (w2 : sx_w sx_r64 a) (e1 : M' (42 + 2 * c) i = 1) (e210 : M' 10 210 = (t : Int)) (eR : M' 10 ((h : Int) + 30).toNat = r) (wR : -1 ≤ r ∧ r ≤ 143) (eD : M' 10 (150 + (t + i)) = d) (Kf : ∀ (u v : Int) (N' : Nat → Nat → Int), sx_mok cl_ly N' → (∀ q, q < 128 → N' q = M' q) → u = sx_mf 34 o (bw_o x 1) → v = sx_mf 34 a (bw_u (sx_mf 6 (sx_mf 2 r d) 9) 1) → rz_fin Q L xs 96 24 96 [(0, .ref 8), (1, .int (Int32.ofInt (c : Int))), (2, .int (Int32.ofInt (h : Int))), (3, .int (Int32.ofInt x)), (4, .int (Int32.ofInt p)), (5, .ref (41 + 2 * c)), (6, .int (Int32.ofInt (k : Int))), (7, .long (Int64.ofInt u)), (9, .long (Int64.ofInt v)), (11, .int (Int32.ofInt ((i + 1 : Nat) : Int)))] [] N') : rz_fin Q L xs 96 24 96 [(0, .ref 8), (1, .int (Int32.ofInt (c : Int))), (2, .int (Int32.ofInt (h : Int))), (3, .int (Int32.ofInt x)), (4, .int (Int32.ofInt p)), (5, .ref (41 + 2 * c)), (6, .int (Int32.ofInt (k : Int))), (7, .long (Int64.ofInt o)), (9, .long (Int64.ofInt a)), (11, .int (Int32.ofInt (i : Int)))] [] M' := by
  refine qs_use (zs := [(h : Int), x, p, (k : Int), o, a, (i : Int), (1 : Int), (t : Int), r]) (List.all_eq_true.mp be21_c c (List.mem_range.mpr hc6)) hL hm (qs_in (show 0 ≤ (h : Int) ∧ (h : Int) ≤ 5 by omega) (qs_in hx (qs_in hp (qs_in (show 0 ≤ (k : Int) ∧ (k : Int) ≤ 12 by omega) (qs_iw w1 (qs_iw w2 (qs_in (show 0 ≤ (i : Int) ∧ (i : Int) ≤ 11 by omega) (qs_lt (show (i : Int) < (k : Int) by omega) (qs_rd (show 0 ≤ (i : Int) by omega) e1 (show 1 ≤ (1 : Int) ∧ (1 : Int) ≤ 1 by omega) (qs_rd (show (0 : Int) ≤ 210 by decide) e210 (show 0 ≤ (t : Int) ∧ (t : Int) ≤ 29 by omega) (qs_rd (show 0 ≤ (h : Int) + 30 by omega) eR wR (qs_fin rfl)))))))))))) (Nat.le_refl _) rfl rfl (qs_c (fun u1 u2 u3 u4 u5 u6 K hK hc hM => ?_) qs_z)
  obtain ⟨c1, c2, c3, c4, c5, c6, c7, c8, -⟩ := hc
  have c1 : 0 ≤ u2 ∧ u2 ≤ 40 := c1
  have c2 : -1 ≤ u3 ∧ u3 ≤ 143 := c2
  have c3 : u1 = sx_mf 34 o 0 := c3
  have c4 : u2 = sx_mf 0 (t : Int) (i : Int) := c4
  have c5 : u4 = sx_mf 2 r u3 := c5
  have c6 : u5 = sx_mf 6 u4 9 := c6
  have c7 : u6 = sx_mf 34 a u5 := c7
  have c8 : K 10 ((u2 + 150)).toNat = u3 := c8
  have fK : ∀ a, a < 128 → K a = M' a := hM
  rw [mf_add (by omega) (by omega)] at c4
  have d1 : u3 = d := by rw [← c8, fK 10 (by decide), c4, show ((t : Int) + (i : Int) + 150).toNat = 150 + (t + i) by omega]; exact eD
  exact Kf u1 u6 K hK fK (by rw [c3, bw_o1]) (by rw [c7, c6, c5, d1, bw_u1])
theorem be_s2 {o a r d : Int} {k t h i : Nat} (hL : L < 2 ^ 31) (hm : sx_mok cl_ly M') (hc6 : c < 6) (hh : h < 6) (hx : 0 ≤ x ∧ x ≤ 12) (hp : 0 ≤ p ∧ p ≤ 1) (h29 : t ≤ 29) (hk : k ≤ 12) (hi : i < k) (hk2 : t + k ≤ 30) (w1 : sx_w sx_r64 o) (w2 : sx_w sx_r64 a) (e1 : M' (42 + 2 * c) i = 2) (e210 : M' 10 210 = (t : Int)) (eR : M' 10 ((h : Int) + 30).toNat = r) (wR : -1 ≤ r ∧ r ≤ 143) (eD : M' 10 (150 + (t + i)) = d) (Kf : ∀ (u v : Int) (N' : Nat → Nat → Int), sx_mok cl_ly N' → (∀ q, q < 128 → N' q = M' q) → u = sx_mf 34 o (bw_o x 2) → v = sx_mf 34 a (bw_u (sx_mf 6 (sx_mf 2 r d) 9) 2) → rz_fin Q L xs 96 24 96 [(0, .ref 8), (1, .int (Int32.ofInt (c : Int))), (2, .int (Int32.ofInt (h : Int))), (3, .int (Int32.ofInt x)), (4, .int (Int32.ofInt p)), (5, .ref (41 + 2 * c)), (6, .int (Int32.ofInt (k : Int))), (7, .long (Int64.ofInt u)), (9, .long (Int64.ofInt v)), (11, .int (Int32.ofInt ((i + 1 : Nat) : Int)))] [] N') : rz_fin Q L xs 96 24 96 [(0, .ref 8), (1, .int (Int32.ofInt (c : Int))), (2, .int (Int32.ofInt (h : Int))), (3, .int (Int32.ofInt x)), (4, .int (Int32.ofInt p)), (5, .ref (41 + 2 * c)), (6, .int (Int32.ofInt (k : Int))), (7, .long (Int64.ofInt o)), (9, .long (Int64.ofInt a)), (11, .int (Int32.ofInt (i : Int)))] [] M' := by
  refine qs_use (zs := [(h : Int), x, p, (k : Int), o, a, (i : Int), (2 : Int), (t : Int), r]) (List.all_eq_true.mp be22_c c (List.mem_range.mpr hc6)) hL hm (qs_in (show 0 ≤ (h : Int) ∧ (h : Int) ≤ 5 by omega) (qs_in hx (qs_in hp (qs_in (show 0 ≤ (k : Int) ∧ (k : Int) ≤ 12 by omega) (qs_iw w1 (qs_iw w2 (qs_in (show 0 ≤ (i : Int) ∧ (i : Int) ≤ 11 by omega) (qs_lt (show (i : Int) < (k : Int) by omega) (qs_rd (show 0 ≤ (i : Int) by omega) e1 (show 2 ≤ (2 : Int) ∧ (2 : Int) ≤ 2 by omega) (qs_rd (show (0 : Int) ≤ 210 by decide) e210 (show 0 ≤ (t : Int) ∧ (t : Int) ≤ 29 by omega) (qs_rd (show 0 ≤ (h : Int) + 30 by omega) eR wR (qs_fin rfl)))))))))))) (Nat.le_refl _) rfl rfl (qs_c (fun u1 u2 u3 u4 u5 u6 u7 u8 K hK hc hM => ?_) qs_z)
  obtain ⟨c1, c2, c3, c4, c5, c6, c7, c8, c9, c10, c11, -⟩ := hc
  have c1 : 0 ≤ u1 ∧ u1 ≤ 12 := c1
  have c2 : 0 ≤ u3 ∧ u3 ≤ 40 := c2
  have c3 : -1 ≤ u4 ∧ u4 ≤ 143 := c3
  have c4 : u1 = sx_mf 1 12 x := c4
  have c5 : u2 = sx_mf 34 o u1 := c5
  have c6 : u3 = sx_mf 0 (t : Int) (i : Int) := c6
  have c7 : u5 = sx_mf 2 r u4 := c7
  have c8 : u6 = sx_mf 6 u5 9 := c8
  have c9 : u7 = sx_mf 1 12 u6 := c9
  have c10 : u8 = sx_mf 34 a u7 := c10
  have c11 : K 10 ((u3 + 150)).toNat = u4 := c11
  have fK : ∀ a, a < 128 → K a = M' a := hM
  rw [mf_add (by omega) (by omega)] at c6
  have d1 : u4 = d := by rw [← c11, fK 10 (by decide), c6, show ((t : Int) + (i : Int) + 150).toNat = 150 + (t + i) by omega]; exact eD
  exact Kf u2 u8 K hK fK (by rw [c5, c4, bw_o2]) (by rw [c10, c9, c8, c7, d1, bw_u2])
theorem be_s3 {o a r d : Int} {k t h i : Nat} (hL : L < 2 ^ 31) (hm : sx_mok cl_ly M') (hc6 : c < 6) (hh : h < 6) (hx : 0 ≤ x ∧ x ≤ 12) (hp : 0 ≤ p ∧ p ≤ 1) (h29 : t ≤ 29) (hk : k ≤ 12) (hi : i < k) (hk2 : t + k ≤ 30) (w1 : sx_w sx_r64 o) (w2 : sx_w sx_r64 a) (e1 : M' (42 + 2 * c) i = 3) (e210 : M' 10 210 = (t : Int)) (eR : M' 10 ((h : Int) + 30).toNat = r) (wR : -1 ≤ r ∧ r ≤ 143) (eD : M' 10 (150 + (t + i)) = d) (Kf : ∀ (u v : Int) (N' : Nat → Nat → Int), sx_mok cl_ly N' → (∀ q, q < 128 → N' q = M' q) → u = sx_mf 34 o (bw_o x 3) → v = sx_mf 34 a (bw_u (sx_mf 6 (sx_mf 2 r d) 9) 3) → rz_fin Q L xs 96 24 96 [(0, .ref 8), (1, .int (Int32.ofInt (c : Int))), (2, .int (Int32.ofInt (h : Int))), (3, .int (Int32.ofInt x)), (4, .int (Int32.ofInt p)), (5, .ref (41 + 2 * c)), (6, .int (Int32.ofInt (k : Int))), (7, .long (Int64.ofInt u)), (9, .long (Int64.ofInt v)), (11, .int (Int32.ofInt ((i + 1 : Nat) : Int)))] [] N') : rz_fin Q L xs 96 24 96 [(0, .ref 8), (1, .int (Int32.ofInt (c : Int))), (2, .int (Int32.ofInt (h : Int))), (3, .int (Int32.ofInt x)), (4, .int (Int32.ofInt p)), (5, .ref (41 + 2 * c)), (6, .int (Int32.ofInt (k : Int))), (7, .long (Int64.ofInt o)), (9, .long (Int64.ofInt a)), (11, .int (Int32.ofInt (i : Int)))] [] M' := by
  refine qs_use (zs := [(h : Int), x, p, (k : Int), o, a, (i : Int), (3 : Int), (t : Int), r]) (List.all_eq_true.mp be23_c c (List.mem_range.mpr hc6)) hL hm (qs_in (show 0 ≤ (h : Int) ∧ (h : Int) ≤ 5 by omega) (qs_in hx (qs_in hp (qs_in (show 0 ≤ (k : Int) ∧ (k : Int) ≤ 12 by omega) (qs_iw w1 (qs_iw w2 (qs_in (show 0 ≤ (i : Int) ∧ (i : Int) ≤ 11 by omega) (qs_lt (show (i : Int) < (k : Int) by omega) (qs_rd (show 0 ≤ (i : Int) by omega) e1 (show 3 ≤ (3 : Int) ∧ (3 : Int) ≤ 3 by omega) (qs_rd (show (0 : Int) ≤ 210 by decide) e210 (show 0 ≤ (t : Int) ∧ (t : Int) ≤ 29 by omega) (qs_rd (show 0 ≤ (h : Int) + 30 by omega) eR wR (qs_fin rfl)))))))))))) (Nat.le_refl _) rfl rfl (qs_c (fun u1 u2 u3 u4 u5 u6 K hK hc hM => ?_) qs_z)
  obtain ⟨c1, c2, c3, c4, c5, c6, c7, c8, -⟩ := hc
  have c1 : 0 ≤ u2 ∧ u2 ≤ 40 := c1
  have c2 : -1 ≤ u3 ∧ u3 ≤ 143 := c2
  have c3 : u1 = sx_mf 34 o x := c3
  have c4 : u2 = sx_mf 0 (t : Int) (i : Int) := c4
  have c5 : u4 = sx_mf 2 r u3 := c5
  have c6 : u5 = sx_mf 6 u4 9 := c6
  have c7 : u6 = sx_mf 34 a u5 := c7
  have c8 : K 10 ((u2 + 150)).toNat = u3 := c8
  have fK : ∀ a, a < 128 → K a = M' a := hM
  rw [mf_add (by omega) (by omega)] at c4
  have d1 : u3 = d := by rw [← c8, fK 10 (by decide), c4, show ((t : Int) + (i : Int) + 150).toNat = 150 + (t + i) by omega]; exact eD
  exact Kf u1 u6 K hK fK (by rw [c3, bw_o3]) (by rw [c7, c6, c5, d1, bw_u3])
theorem be_loop {k t h : Nat} (hL : L < 2 ^ 31) (hm0 : sx_mok cl_ly M) (hc6 : c < 6) (hh : h < 6) (hx : 0 ≤ x ∧ x ≤ 12) (hp : 0 ≤ p ∧ p ≤ 1) (ht : M 10 210 = (t : Int)) (h29 : t ≤ 29) (hk : k ≤ 12) (hk2 : t + k ≤ 30) (hE : ∀ i, i < k → -128 ≤ M (42 + 2 * c) i ∧ M (42 + 2 * c) i ≤ 127) : ∀ (m i : Nat) (S : Int × Int) (M' : Nat → Nat → Int), i + m = k → sx_w sx_r64 S.1 → sx_w sx_r64 S.2 → sx_mok cl_ly M' → (∀ a, a < 128 → M' a = M a) → rz_fin (eu_Q M (bl_z p (bw (M (42 + 2 * c)) x (fun i => sx_mf 6 (sx_mf 2 (M 10 (30 + h)) (M 10 (150 + (t + i)))) 9) m i S))) L xs 96 24 96 [(0, .ref 8), (1, .int (Int32.ofInt (c : Int))), (2, .int (Int32.ofInt (h : Int))), (3, .int (Int32.ofInt x)), (4, .int (Int32.ofInt p)), (5, .ref (41 + 2 * c)), (6, .int (Int32.ofInt (k : Int))), (7, .long (Int64.ofInt S.1)), (9, .long (Int64.ofInt S.2)), (11, .int (Int32.ofInt (i : Int)))] [] M' := by
  intro m
  induction m with
  | zero =>
    intro i S M' hi w1 w2 hm hf
    have ei : i = k := by omega
    subst ei
    refine qs_use (zs := [(h : Int), x, p, (i : Int), S.1, S.2, (i : Int)]) (List.all_eq_true.mp be3_c c (List.mem_range.mpr hc6)) hL hm (qs_in (show 0 ≤ (h : Int) ∧ (h : Int) ≤ 5 by omega) (qs_in hx (qs_in hp (qs_in (show 0 ≤ (i : Int) ∧ (i : Int) ≤ 12 by omega) (qs_iw w1 (qs_iw w2 (qs_in (show 0 ≤ (i : Int) ∧ (i : Int) ≤ 12 by omega) (qs_ge (show ¬ (i : Int) < (i : Int) by omega) (qs_fin rfl))))))))) (Nat.le_refl _) rfl rfl (qs_c (fun K hK hc hM => ?_) qs_z)
    exact be_end (o := S.1) (a := S.2) hL hK (fun q hq => ((show ∀ q, q < 128 → K q = M' q from hM) q hq).trans (hf q hq)) hp w1 w2
  | succ m ih =>
    intro i S M' hi w1 w2 hm hf
    have hb := hE i (by omega)
    have eE : M' (42 + 2 * c) i = M (42 + 2 * c) i := by rw [hf (42 + 2 * c) (by omega)]
    by_cases q1 : M (42 + 2 * c) i < 0
    · have e0 : bw (M (42 + 2 * c)) x (fun i => sx_mf 6 (sx_mf 2 (M 10 (30 + h)) (M 10 (150 + (t + i)))) 9) (m + 1) i S = S := if_pos (Or.inl q1)
      rw [e0]
      have rE : -128 ≤ M (42 + 2 * c) i ∧ M (42 + 2 * c) i ≤ -1 := by omega
      refine qs_use (zs := [(h : Int), x, p, (k : Int), S.1, S.2, (i : Int), M (42 + 2 * c) i]) (List.all_eq_true.mp be4_c c (List.mem_range.mpr hc6)) hL hm (qs_in (show 0 ≤ (h : Int) ∧ (h : Int) ≤ 5 by omega) (qs_in hx (qs_in hp (qs_in (show 0 ≤ (k : Int) ∧ (k : Int) ≤ 12 by omega) (qs_iw w1 (qs_iw w2 (qs_in (show 0 ≤ (i : Int) ∧ (i : Int) ≤ 11 by omega) (qs_lt (show (i : Int) < (k : Int) by omega) (qs_rd (show 0 ≤ (i : Int) by omega) eE rE (qs_fin rfl)))))))))) (Nat.le_refl _) rfl rfl (qs_c (fun K hK hc hM => ?_) qs_z)
      exact be_end (o := S.1) (a := S.2) hL hK (fun q hq => ((show ∀ q, q < 128 → K q = M' q from hM) q hq).trans (hf q hq)) hp w1 w2
    by_cases q2 : 3 < M (42 + 2 * c) i
    · have e0 : bw (M (42 + 2 * c)) x (fun i => sx_mf 6 (sx_mf 2 (M 10 (30 + h)) (M 10 (150 + (t + i)))) 9) (m + 1) i S = S := if_pos (Or.inr q2)
      rw [e0]
      have rE : 4 ≤ M (42 + 2 * c) i ∧ M (42 + 2 * c) i ≤ 127 := by omega
      refine qs_use (zs := [(h : Int), x, p, (k : Int), S.1, S.2, (i : Int), M (42 + 2 * c) i]) (List.all_eq_true.mp be5_c c (List.mem_range.mpr hc6)) hL hm (qs_in (show 0 ≤ (h : Int) ∧ (h : Int) ≤ 5 by omega) (qs_in hx (qs_in hp (qs_in (show 0 ≤ (k : Int) ∧ (k : Int) ≤ 12 by omega) (qs_iw w1 (qs_iw w2 (qs_in (show 0 ≤ (i : Int) ∧ (i : Int) ≤ 11 by omega) (qs_lt (show (i : Int) < (k : Int) by omega) (qs_rd (show 0 ≤ (i : Int) by omega) eE rE (qs_fin rfl)))))))))) (Nat.le_refl _) rfl rfl (qs_c (fun K hK hc hM => ?_) qs_z)
      exact be_end (o := S.1) (a := S.2) hL hK (fun q hq => ((show ∀ q, q < 128 → K q = M' q from hM) q hq).trans (hf q hq)) hp w1 w2
    have e0 : bw (M (42 + 2 * c)) x (fun i => sx_mf 6 (sx_mf 2 (M 10 (30 + h)) (M 10 (150 + (t + i)))) 9) (m + 1) i S = bw (M (42 + 2 * c)) x (fun i => sx_mf 6 (sx_mf 2 (M 10 (30 + h)) (M 10 (150 + (t + i)))) 9) m (i + 1) (sx_mf 34 S.1 (bw_o x (M (42 + 2 * c) i)), sx_mf 34 S.2 (bw_u (sx_mf 6 (sx_mf 2 (M 10 (30 + h)) (M 10 (150 + (t + i)))) 9) (M (42 + 2 * c) i))) := if_neg (by omega)
    rw [e0]
    have wR := cx_m10 hm0 (k := 30 + h) (by omega)
    have e210 : M' 10 210 = (t : Int) := by rw [hf 10 (by decide)]; exact ht
    have eR : M' 10 ((h : Int) + 30).toNat = M 10 (30 + h) := by rw [hf 10 (by decide), show ((h : Int) + 30).toNat = 30 + h by omega]
    have four : M (42 + 2 * c) i = 0 ∨ M (42 + 2 * c) i = 1 ∨ M (42 + 2 * c) i = 2 ∨ M (42 + 2 * c) i = 3 := by omega
    have wo := mf_w64 34 ⟨by decide, by decide⟩ S.1 (bw_o x (M (42 + 2 * c) i))
    have wu := mf_w64 34 ⟨by decide, by decide⟩ S.2 (bw_u (sx_mf 6 (sx_mf 2 (M 10 (30 + h)) (M 10 (150 + (t + i)))) 9) (M (42 + 2 * c) i))
    rcases four with q | q | q | q
    · have e1 : M' (42 + 2 * c) i = 0 := eE.trans q
      rw [q] at wo wu ⊢
      refine be_s0 (xs := xs) (x := x) (p := p) (r := M 10 (30 + h)) (d := M 10 (150 + (t + i))) hL hm hc6 hh hx hp h29 hk (by omega) hk2 w1 w2 e1 e210 eR wR (by rw [hf 10 (by decide)]) (fun u v K hK fK d2 d3 => ?_)
      rw [← d2] at wo
      rw [← d3] at wu
      rw [← d2, ← d3]
      exact ih (i + 1) (u, v) K (by omega) wo wu hK (fun a ha => (fK a ha).trans (hf a ha))
    · have e1 : M' (42 + 2 * c) i = 1 := eE.trans q
      rw [q] at wo wu ⊢
      refine be_s1 (xs := xs) (x := x) (p := p) (r := M 10 (30 + h)) (d := M 10 (150 + (t + i))) hL hm hc6 hh hx hp h29 hk (by omega) hk2 w1 w2 e1 e210 eR wR (by rw [hf 10 (by decide)]) (fun u v K hK fK d2 d3 => ?_)
      rw [← d2] at wo
      rw [← d3] at wu
      rw [← d2, ← d3]
      exact ih (i + 1) (u, v) K (by omega) wo wu hK (fun a ha => (fK a ha).trans (hf a ha))
    · have e1 : M' (42 + 2 * c) i = 2 := eE.trans q
      rw [q] at wo wu ⊢
      refine be_s2 (xs := xs) (x := x) (p := p) (r := M 10 (30 + h)) (d := M 10 (150 + (t + i))) hL hm hc6 hh hx hp h29 hk (by omega) hk2 w1 w2 e1 e210 eR wR (by rw [hf 10 (by decide)]) (fun u v K hK fK d2 d3 => ?_)
      rw [← d2] at wo
      rw [← d3] at wu
      rw [← d2, ← d3]
      exact ih (i + 1) (u, v) K (by omega) wo wu hK (fun a ha => (fK a ha).trans (hf a ha))
    · have e1 : M' (42 + 2 * c) i = 3 := eE.trans q
      rw [q] at wo wu ⊢
      refine be_s3 (xs := xs) (x := x) (p := p) (r := M 10 (30 + h)) (d := M 10 (150 + (t + i))) hL hm hc6 hh hx hp h29 hk (by omega) hk2 w1 w2 e1 e210 eR wR (by rw [hf 10 (by decide)]) (fun u v K hK fK d2 d3 => ?_)
      rw [← d2] at wo
      rw [← d3] at wu
      rw [← d2, ← d3]
      exact ih (i + 1) (u, v) K (by omega) wo wu hK (fun a ha => (fK a ha).trans (hf a ha))

def bl_ok (h x p H : Int) (B : Prop) : Prop := 0 ≤ h ∧ h < H ∧ 0 ≤ x ∧ x ≤ 12 ∧ 0 ≤ p ∧ p ≤ 1 ∧ B
def bl_k (len t : Nat) : Nat := min (min len 12) (30 - t)
theorem be_x {y : Int} {t len : Nat} (hL : L < 2 ^ 31) (hm : sx_mok cl_ly M) (hc6 : c < 6) (ht : M 10 210 = (t : Int)) (h29 : t ≤ 29) (el : M (41 + 2 * c) 1 = (len : Int)) (hE : M (41 + 2 * c) 2 = 0 → ∀ i : Nat, i < len → -128 ≤ M (42 + 2 * c) i ∧ M (42 + 2 * c) i ≤ 127) (wy : sx_w sx_r32 y) (wx : sx_w sx_r32 x) (wp : sx_w sx_r32 p) : rz_fin (fun r N => sx_mok cl_ly N ∧ (∀ a, a < 128 → N a = M a) ∧ ((¬ bl_ok y x p (M 9 4) (M (41 + 2 * c) 2 = 0) ∧ r = some (.long (Int64.ofInt (-9223372036854775808)))) ∨ (bl_ok y x p (M 9 4) (M (41 + 2 * c) 2 = 0) ∧ r = some (.long (Int64.ofInt (bl_z p (bw (M (42 + 2 * c)) x (fun i => sx_mf 6 (sx_mf 2 (M 10 (30 + y.toNat)) (M 10 (150 + (t + i)))) 9) (bl_k len t) 0 (1, 12)))))))) L xs 96 24 0 [(0, .ref 8), (1, .int (Int32.ofInt (c : Int))), (2, .int (Int32.ofInt y)), (3, .int (Int32.ofInt x)), (4, .int (Int32.ofInt p))] [] M := by
  have hH := cx_fld (c := 9) (k := 4) (lo := 0) (hi := 6) hm (by decide +kernel)
  have r2 := (fu_23 hm hc6).1
  have h60 := fu_len hm hc6
  rw [el] at h60
  have go : ∀ K, sx_mok cl_ly K → (∀ a, a < 128 → K a = M a) → bl_ok y x p (M 9 4) (M (41 + 2 * c) 2 = 0) → rz_fin (fun r N => sx_mok cl_ly N ∧ (∀ a, a < 128 → N a = M a) ∧ ((¬ bl_ok y x p (M 9 4) (M (41 + 2 * c) 2 = 0) ∧ r = some (.long (Int64.ofInt (-9223372036854775808)))) ∨ (bl_ok y x p (M 9 4) (M (41 + 2 * c) 2 = 0) ∧ r = some (.long (Int64.ofInt (bl_z p (bw (M (42 + 2 * c)) x (fun i => sx_mf 6 (sx_mf 2 (M 10 (30 + y.toNat)) (M 10 (150 + (t + i)))) 9) (bl_k len t) 0 (1, 12)))))))) L xs 96 24 52 [(0, .ref 8), (1, .int (Int32.ofInt (c : Int))), (2, .int (Int32.ofInt y)), (3, .int (Int32.ofInt x)), (4, .int (Int32.ofInt p))] [] K := fun K hK fK ok => by
    obtain ⟨k1, k2, k3, k4, k5, k6, k7⟩ := id ok
    obtain ⟨h, rfl⟩ := Int.eq_ofNat_of_zero_le k1
    have hx : 0 ≤ x ∧ x ≤ 12 := ⟨k3, k4⟩
    have hp : 0 ≤ p ∧ p ≤ 1 := ⟨k5, k6⟩
    have run : ∀ N : Nat → Nat → Int, sx_mok cl_ly N → (∀ a, a < 128 → N a = K a) → ∀ k : Nat, bl_k len t = k → rz_fin (fun r N => sx_mok cl_ly N ∧ (∀ a, a < 128 → N a = M a) ∧ ((¬ bl_ok (h : Int) x p (M 9 4) (M (41 + 2 * c) 2 = 0) ∧ r = some (.long (Int64.ofInt (-9223372036854775808)))) ∨ (bl_ok (h : Int) x p (M 9 4) (M (41 + 2 * c) 2 = 0) ∧ r = some (.long (Int64.ofInt (bl_z p (bw (M (42 + 2 * c)) x (fun i => sx_mf 6 (sx_mf 2 (M 10 (30 + (h : Int).toNat)) (M 10 (150 + (t + i)))) 9) (bl_k len t) 0 (1, 12)))))))) L xs 96 24 96 [(0, .ref 8), (1, .int (Int32.ofInt (c : Int))), (2, .int (Int32.ofInt (h : Int))), (3, .int (Int32.ofInt x)), (4, .int (Int32.ofInt p)), (5, .ref (41 + 2 * c)), (6, .int (Int32.ofInt (k : Int))), (7, .long (Int64.ofInt (1 : Int))), (9, .long (Int64.ofInt (12 : Int))), (11, .int (Int32.ofInt ((0 : Nat) : Int)))] [] N := fun N hN fN k hk => by
      unfold bl_k at hk
      refine qs_w (be_loop (xs := xs) (M := M) (c := c) (k := k) (t := t) (h := h) (x := x) (p := p) hL hm hc6 (by omega) hx hp ht h29 (by omega) (by omega) (fun i hi => hE k7 i (by omega)) k 0 (1, 12) N (Nat.zero_add k) (og_w64 (by decide) (by decide)) (og_w64 (by decide) (by decide)) hN (fun a ha => (fN a ha).trans (fK a ha))) (fun r N2 g => ?_)
      obtain ⟨rfl, hN2, f2⟩ := g
      refine ⟨hN2, f2, Or.inr ⟨ok, ?_⟩⟩
      unfold bl_k
      rw [hk]
      rfl
    refine qs_use (zs := [(h : Int), x, p, (len : Int), (t : Int)]) (List.all_eq_true.mp bea_c c (List.mem_range.mpr hc6)) hL hK (qs_in (show 0 ≤ (h : Int) ∧ (h : Int) ≤ 5 by omega) (qs_in hx (qs_in hp (qs_rd (show (0 : Int) ≤ 1 by decide) (by rw [fK (41 + 2 * c) (by omega)]; exact el) (show 0 ≤ (len : Int) ∧ (len : Int) ≤ 60 by omega) (qs_rd (show (0 : Int) ≤ 210 by decide) (by rw [fK 10 (by decide)]; exact ht) (show 0 ≤ (t : Int) ∧ (t : Int) ≤ 29 by omega) (qs_fin rfl)))))) (Nat.le_refl _) rfl rfl (qs_c (fun u1 N1 hN1 hc hM => ?_) (qs_c (fun u1 N1 hN1 hc hM => ?_) (qs_c (fun u1 N1 hN1 hc hM => ?_) (qs_c (fun u1 N1 hN1 hc hM => ?_) qs_z))))
    · obtain ⟨c1, c2, c3, -⟩ := hc
      have c1 : 13 ≤ (len : Int) ∧ (len : Int) ≤ 60 := c1
      have c2 : 1 ≤ u1 ∧ u1 ≤ 11 := c2
      have c3 : u1 = sx_mf 1 30 (t : Int) := c3
      have fN1 : ∀ a, a < 128 → N1 a = K a := hM
      rw [mf_sub (by omega) (by omega)] at c3
      have e : u1 = ((30 - t : Nat) : Int) := by omega
      subst e
      exact run N1 hN1 fN1 _ (by unfold bl_k; omega)
    · obtain ⟨c1, c2, c3, -⟩ := hc
      have c1 : 13 ≤ (len : Int) ∧ (len : Int) ≤ 60 := c1
      have c2 : 12 ≤ u1 ∧ u1 ≤ 30 := c2
      have c3 : u1 = sx_mf 1 30 (t : Int) := c3
      have fN1 : ∀ a, a < 128 → N1 a = K a := hM
      rw [mf_sub (by omega) (by omega)] at c3
      exact run N1 hN1 fN1 12 (by unfold bl_k; omega)
    · obtain ⟨c1, c2, c3, c4, -⟩ := hc
      have c1 : 2 ≤ (len : Int) ∧ (len : Int) ≤ 12 := c1
      have c2 : 1 ≤ u1 ∧ u1 ≤ 11 := c2
      have c3 : u1 < (len : Int) := c3
      have c4 : u1 = sx_mf 1 30 (t : Int) := c4
      have fN1 : ∀ a, a < 128 → N1 a = K a := hM
      rw [mf_sub (by omega) (by omega)] at c4
      have e : u1 = ((30 - t : Nat) : Int) := by omega
      subst e
      exact run N1 hN1 fN1 _ (by unfold bl_k; omega)
    · obtain ⟨c1, c2, c3, c4, -⟩ := hc
      have c1 : 0 ≤ (len : Int) ∧ (len : Int) ≤ 12 := c1
      have c2 : 1 ≤ u1 ∧ u1 ≤ 30 := c2
      have c3 : ¬ u1 < (len : Int) := c3
      have c4 : u1 = sx_mf 1 30 (t : Int) := c4
      have fN1 : ∀ a, a < 128 → N1 a = K a := hM
      rw [mf_sub (by omega) (by omega)] at c4
      exact run N1 hN1 fN1 len (by unfold bl_k; omega)
  refine qs_use (zs := [y, x, p, M 9 4, M (41 + 2 * c) 2]) (List.all_eq_true.mp be1_c c (List.mem_range.mpr hc6)) hL hm (qs_iw wy (qs_iw wx (qs_iw wp (qs_rd (show (0 : Int) ≤ 4 by decide) rfl hH (qs_rd (show (0 : Int) ≤ 2 by decide) rfl r2 (qs_fin rfl)))))) (Nat.le_refl _) rfl rfl (qs_c (fun K hK hc hM => ?_) (qs_c (fun K hK hc hM => ?_) (qs_c (fun K hK hc hM => ?_) (qs_c (fun K hK hc hM => ?_) (qs_c (fun K hK hc hM => ?_) (qs_c (fun K hK hc hM => ?_) (qs_c (fun K hK hc hM => ?_) (qs_c (fun K hK hc hM => ?_) (qs_c (fun K hK hc hM => ?_) qs_z)))))))))
  · obtain ⟨c1, -⟩ := hc
    have c1 : -2147483648 ≤ y ∧ y ≤ -1 := c1
    have fK : ∀ a, a < 128 → K a = M a := hM
    exact ⟨hK, fK, Or.inl ⟨fun q => by have := q.1; omega, rfl⟩⟩
  · obtain ⟨c1, c2, -⟩ := hc
    have c1 : 0 ≤ y ∧ y ≤ 2147483647 := c1
    have c2 : ¬ y < M 9 4 := c2
    have fK : ∀ a, a < 128 → K a = M a := hM
    exact ⟨hK, fK, Or.inl ⟨fun q => c2 q.2.1, rfl⟩⟩
  · obtain ⟨c1, c2, c3, c4, -⟩ := hc
    have c1 : 0 ≤ y ∧ y ≤ 5 := c1
    have c2 : -2147483648 ≤ x ∧ x ≤ -1 := c2
    have c3 : 1 ≤ M 9 4 ∧ M 9 4 ≤ 6 := c3
    have c4 : y < M 9 4 := c4
    have fK : ∀ a, a < 128 → K a = M a := hM
    exact ⟨hK, fK, Or.inl ⟨fun q => by have := q.2.2.1; omega, rfl⟩⟩
  · obtain ⟨c1, c2, c3, c4, -⟩ := hc
    have c1 : 0 ≤ y ∧ y ≤ 5 := c1
    have c2 : 13 ≤ x ∧ x ≤ 2147483647 := c2
    have c3 : 1 ≤ M 9 4 ∧ M 9 4 ≤ 6 := c3
    have c4 : y < M 9 4 := c4
    have fK : ∀ a, a < 128 → K a = M a := hM
    exact ⟨hK, fK, Or.inl ⟨fun q => by have := q.2.2.2.1; omega, rfl⟩⟩
  · obtain ⟨c1, c2, c3, c4, c5, c6, -⟩ := hc
    have c1 : 0 ≤ y ∧ y ≤ 5 := c1
    have c2 : 0 ≤ x ∧ x ≤ 12 := c2
    have c3 : 0 ≤ p ∧ p ≤ 0 := c3
    have c4 : 1 ≤ M 9 4 ∧ M 9 4 ≤ 6 := c4
    have c5 : 0 ≤ M (41 + 2 * c) 2 ∧ M (41 + 2 * c) 2 ≤ 0 := c5
    have c6 : y < M 9 4 := c6
    have fK : ∀ a, a < 128 → K a = M a := hM
    exact go K hK fK ⟨c1.1, c6, c2.1, c2.2, c3.1, by omega, by omega⟩
  · obtain ⟨c1, c2, c3, c4, c5, c6, -⟩ := hc
    have c1 : 0 ≤ y ∧ y ≤ 5 := c1
    have c2 : 0 ≤ x ∧ x ≤ 12 := c2
    have c3 : 0 ≤ p ∧ p ≤ 0 := c3
    have c4 : 1 ≤ M 9 4 ∧ M 9 4 ≤ 6 := c4
    have c5 : M (41 + 2 * c) 2 ≠ 0 := c5
    have c6 : y < M 9 4 := c6
    have fK : ∀ a, a < 128 → K a = M a := hM
    exact ⟨hK, fK, Or.inl ⟨fun q => c5 q.2.2.2.2.2.2, rfl⟩⟩
  · obtain ⟨c1, c2, c3, c4, c5, c6, -⟩ := hc
    have c1 : 0 ≤ y ∧ y ≤ 5 := c1
    have c2 : 0 ≤ x ∧ x ≤ 12 := c2
    have c3 : 1 ≤ M 9 4 ∧ M 9 4 ≤ 6 := c3
    have c4 : p ≠ 0 := c4
    have c5 : p ≠ 1 := c5
    have c6 : y < M 9 4 := c6
    have fK : ∀ a, a < 128 → K a = M a := hM
    exact ⟨hK, fK, Or.inl ⟨fun q => by have a := q.2.2.2.2.1; have b := q.2.2.2.2.2.1; omega, rfl⟩⟩
  · obtain ⟨c1, c2, c3, c4, c5, c6, c7, -⟩ := hc
    have c1 : 0 ≤ y ∧ y ≤ 5 := c1
    have c2 : 0 ≤ x ∧ x ≤ 12 := c2
    have c3 : 1 ≤ p ∧ p ≤ 1 := c3
    have c4 : 1 ≤ M 9 4 ∧ M 9 4 ≤ 6 := c4
    have c5 : 0 ≤ M (41 + 2 * c) 2 ∧ M (41 + 2 * c) 2 ≤ 0 := c5
    have c6 : p ≠ 0 := c6
    have c7 : y < M 9 4 := c7
    have fK : ∀ a, a < 128 → K a = M a := hM
    exact go K hK fK ⟨c1.1, by omega, c2.1, c2.2, by omega, by omega, by omega⟩
  · obtain ⟨c1, c2, c3, c4, c5, c6, c7, -⟩ := hc
    have c1 : 0 ≤ y ∧ y ≤ 5 := c1
    have c2 : 0 ≤ x ∧ x ≤ 12 := c2
    have c3 : 1 ≤ p ∧ p ≤ 1 := c3
    have c4 : 1 ≤ M 9 4 ∧ M 9 4 ≤ 6 := c4
    have c5 : p ≠ 0 := c5
    have c6 : M (41 + 2 * c) 2 ≠ 0 := c6
    have c7 : y < M 9 4 := c7
    have fK : ∀ a, a < 128 → K a = M a := hM
    exact ⟨hK, fK, Or.inl ⟨fun q => by have a := q.2.2.2.2.2.2; omega, rfl⟩⟩
end
