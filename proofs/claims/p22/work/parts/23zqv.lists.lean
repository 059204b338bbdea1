/-! Lists: the class. -/
section
variable {L : Nat} {xs : Nat → Int32} {M M' N : Nat → Nat → Int} {nc : Nat}
def lv1_i : List qs_I := [(0, 0, (0, 0), (0, 63)), (0, 0, (0, 0), (0, 63))]
def lv1_T : List og_T := [(some 5, none, [], [(0, 0, 9, 0), (1, 0, 10, 0), (2, 1, 0, 0), (4, 0, 0, 0)], [], [])]
theorem lv1_c : qs_chk (fun pc => Nat.beq pc 5) lv1_i 0 lv1_T 400 400 20 103 0 [(0, 0, 9, 0), (1, 0, 10, 0)] [] = true := by decide +kernel
def lv2_i (h : Nat) : List qs_I := [(0, 0, (0, 0), (0, 63)), (0, 0, (0, 0), (0, 63)), (0, 0, (0, 0), sx_r64)]
def lv2_T (h : Nat) : List og_T := [(some 5, none, [], [(0, 0, 9, 0), (1, 0, 10, 0), (2, 1, 16, 0), (4, 0, 0, (h : Int) + 1)], [], [(0, (13, 0), (0, 0), 1, 1), (5, (10, 0), (0, (h : Int)), 10, 12), (5, (12, 0), (0, 1), 3, 13), (5, (9, 0), (0, ((2 ^ h : Nat) : Int)), 4, 14), (5, (0, 1), (14, 0), 40, 15), (5, (11, 0), (15, 0), 36, 16)]), (some 5, none, [], [(0, 0, 9, 0), (1, 0, 10, 0), (2, 1, 11, 0), (4, 0, 0, (h : Int) + 1)], [], [(7, (13, 0), (0, 0), 1, 0), (5, (10, 0), (0, (h : Int)), 10, 12), (5, (12, 0), (0, 1), 3, 13)])]
theorem lv2_c : ((List.range 6).all fun h => qs_chk (fun pc => Nat.beq pc 5) (lv2_i h) 5 (lv2_T h) 400 400 20 103 5 [(0, 0, 9, 0), (1, 0, 10, 0), (2, 1, 11, 0), (4, 0, 0, (h : Int))] []) = true := by decide +kernel
def lv3_i : List qs_I := [(0, 0, (0, 0), (0, 63)), (0, 0, (0, 0), (0, 63)), (0, 0, (0, 0), sx_r64)]
def lv3_T : List og_T := [(none, some (1, 11, 0), [], [], [], [])]
theorem lv3_c : qs_chk (fun pc => Nat.beq pc 5) lv3_i 0 lv3_T 400 400 20 103 5 [(0, 0, 9, 0), (1, 0, 10, 0), (2, 1, 11, 0), (4, 0, 0, 6)] [] = true := by decide +kernel
def la1_i : List qs_I := [(0, 0, (0, 0), (0, 29))]
def la1_T : List og_T := [(some 4, none, [], [(0, 2, 0, 9), (1, 0, 9, 0), (2, 0, 0, 0), (3, 0, 0, 0)], [], [])]
theorem la1_c : qs_chk (fun pc => Nat.beq pc 4) la1_i 0 la1_T 400 400 21 101 0 [(0, 2, 0, 9), (1, 0, 9, 0)] [] = true := by decide +kernel
def la2_i : List qs_I := [(0, 0, (0, 0), (0, 29)), (0, 0, (0, 0), (0, 63)), (0, 0, (0, 0), (0, 11)), (1, 9, (0, 5), (0, 12)), (2, 12, (11, 0), (0, 0)), (1, 9, (0, 6), sx_r32), (1, 9, (0, 7), sx_r32)]
def la2_T : List og_T := [(some 23, none, [(0, 14, 0), (0, 13, 0), (0, 9, 0), (0, 11, 0), (2, 0, 9)], [(0, 2, 0, 9), (1, 0, 9, 0), (2, 0, 10, 0), (3, 0, 11, 0)], [], [])]
theorem la2_c : qs_chk (fun pc => Nat.beq pc 23) la2_i 0 la2_T 400 400 21 101 4 [(0, 2, 0, 9), (1, 0, 9, 0), (2, 0, 10, 0), (3, 0, 11, 0)] [] = true := by decide +kernel
def la3_i : List qs_I := [(0, 0, (0, 0), (0, 29)), (0, 0, (0, 0), (0, 63)), (0, 0, (0, 0), (0, 11)), (0, 0, (0, 0), (0, 1)), (1, 11, (11, 0), (0, 5))]
def la3_T : List og_T := [(some 4, none, [], [(0, 2, 0, 9), (1, 0, 9, 0), (2, 0, 10, 0), (3, 0, 11, 1)], [], [(0, (12, 0), (0, 0), 0, 0)]), (some 4, none, [], [(0, 2, 0, 9), (1, 0, 9, 0), (2, 0, 15, 0), (3, 0, 11, 1)], [], [(7, (12, 0), (0, 0), 0, 0), (5, (0, 1), (13, 0), 8, 14), (5, (10, 0), (14, 0), 4, 15)])]
theorem la3_c : qs_chk (fun pc => Nat.beq pc 4) la3_i 2 la3_T 400 400 21 101 26 [(0, 2, 0, 9), (1, 0, 9, 0), (2, 0, 10, 0), (3, 0, 11, 0)] [(0, 12, 0)] = true := by decide +kernel
def la4_i : List qs_I := [(0, 0, (0, 0), (0, 29)), (0, 0, (0, 0), (0, 63)), (0, 0, (0, 0), (0, 12)), (1, 9, (0, 5), (0, 12)), (3, 12, (11, 0), (0, 0))]
def la4_T : List og_T := [(none, some (0, 10, 0), [], [], [], [])]
theorem la4_c : qs_chk (fun pc => Nat.beq pc 23) la4_i 0 la4_T 400 400 21 101 4 [(0, 2, 0, 9), (1, 0, 9, 0), (2, 0, 10, 0), (3, 0, 11, 0)] [] = true := by decide +kernel
def lc1_i : List qs_I := []
def lc1_T : List og_T := [(some 4, none, [], [(0, 2, 0, 8), (1, 0, 0, 0), (2, 0, 0, 0)], [], [])]
theorem lc1_c : qs_chk (fun pc => Nat.beq pc 4) lc1_i 0 lc1_T 400 400 22 99 0 [(0, 2, 0, 8)] [] = true := by decide +kernel
def lc2_i : List qs_I := [(0, 0, (0, 0), (0, 1073741823)), (0, 0, (0, 0), (0, 29))]
def lc2_T : List og_T := [(some 15, none, [], [(0, 2, 0, 8), (1, 0, 9, 0), (2, 0, 10, 0), (3, 0, 0, 0), (4, 0, 0, 0)], [], [])]
theorem lc2_c : qs_chk (fun pc => Nat.beq pc 15) lc2_i 0 lc2_T 400 400 22 99 4 [(0, 2, 0, 8), (1, 0, 9, 0), (2, 0, 10, 0)] [] = true := by decide +kernel
def lc3_i : List qs_I := [(0, 0, (0, 0), (0, 1073741823)), (0, 0, (0, 0), (0, 29)), (0, 0, (0, 0), (0, 63)), (0, 0, (0, 0), (0, 11)), (1, 9, (0, 5), (0, 12)), (2, 13, (12, 0), (0, 0)), (1, 10, (12, 180), (-1, 143)), (1, 11, (12, 0), (0, 5))]
def lc3_T : List og_T := [(some 15, none, [], [(0, 2, 0, 8), (1, 0, 9, 0), (2, 0, 10, 0), (3, 0, 17, 0), (4, 0, 12, 1)], [], [(0, (14, 0), (0, 0), 0, 29), (3, (14, 0), (10, 0), 0, 0), (5, (0, 1), (15, 0), 8, 16), (5, (11, 0), (16, 0), 4, 17)]), (some 15, none, [], [(0, 2, 0, 8), (1, 0, 9, 0), (2, 0, 10, 0), (3, 0, 11, 0), (4, 0, 12, 1)], [], [(4, (14, 0), (10, 0), 0, 0)])]
theorem lc3_c : qs_chk (fun pc => Nat.beq pc 15) lc3_i 2 lc3_T 400 400 22 99 15 [(0, 2, 0, 8), (1, 0, 9, 0), (2, 0, 10, 0), (3, 0, 11, 0), (4, 0, 12, 0)] [] = true := by decide +kernel
def lc4_i : List qs_I := [(0, 0, (0, 0), (0, 1073741823)), (0, 0, (0, 0), (0, 29)), (0, 0, (0, 0), (0, 63)), (0, 0, (0, 0), (0, 12)), (1, 9, (0, 5), (0, 12)), (3, 13, (12, 0), (0, 0)), (1, 9, (0, 6), (0, 63))]
def lc4_T : List og_T := [(some 72, none, [(0, 15, 0)], [(0, 2, 0, 8), (1, 0, 9, 0), (2, 0, 10, 0), (3, 0, 11, 0), (4, 0, 12, 0)], [], [(5, (11, 0), (14, 0), 3, 15)])]
theorem lc4_c : qs_chk (fun pc => Nat.beq pc 72) lc4_i 1 lc4_T 400 400 22 99 15 [(0, 2, 0, 8), (1, 0, 9, 0), (2, 0, 10, 0), (3, 0, 11, 0), (4, 0, 12, 0)] [] = true := by decide +kernel
def lc5_i : List qs_I := [(0, 0, (0, 0), (0, 1073741823)), (0, 0, (0, 0), (0, 29)), (0, 0, (0, 0), (0, 63)), (0, 0, (0, 0), (0, 12)), (0, 0, (0, 0), (0, 10))]
def lc5_T : List og_T := [(some 4, none, [], [(0, 2, 0, 8), (1, 0, 9, 0), (2, 0, 10, 1)], [], [(0, (13, 0), (0, 0), 0, 1)]), (some 4, none, [], [(0, 2, 0, 8), (1, 0, 15, 0), (2, 0, 10, 1)], [], [(0, (13, 0), (0, 0), 2, 10), (5, (0, 1), (10, 0), 8, 14), (5, (9, 0), (14, 0), 4, 15)])]
theorem lc5_c : qs_chk (fun pc => Nat.beq pc 4) lc5_i 2 lc5_T 400 400 22 99 75 [(0, 2, 0, 8), (1, 0, 9, 0), (2, 0, 10, 0), (3, 0, 11, 0), (4, 0, 12, 0)] [(0, 13, 0)] = true := by decide +kernel
def lc6_i : List qs_I := [(0, 0, (0, 0), (0, 1073741823))]
def lc6_T : List og_T := [(none, some (0, 9, 0), [], [], [], [])]
theorem lc6_c : qs_chk (fun pc => Nat.beq pc 15) lc6_i 0 lc6_T 400 400 22 99 4 [(0, 2, 0, 8), (1, 0, 9, 0), (2, 0, 0, 30)] [] = true := by decide +kernel
def lx1_i : List qs_I := [(0, 0, (0, 0), sx_r32)]
def lx1_T : List og_T := [(some 5, none, [(2, 0, 8)], [(0, 2, 0, 8), (1, 0, 9, 0)], [], [(0, (9, 0), (0, 0), 0, 0)]), (some 15, none, [(2, 0, 8)], [(0, 2, 0, 8), (1, 0, 9, 0)], [], [(0, (9, 0), (0, 0), 1, 1), (7, (9, 0), (0, 0), 0, 0)]), (some 25, none, [(2, 0, 8)], [(0, 2, 0, 8), (1, 0, 9, 0)], [], [(0, (9, 0), (0, 0), 2, 2), (7, (9, 0), (0, 0), 0, 0), (7, (9, 0), (0, 0), 1, 0)]), (none, some (0, 0, -1), [], [], [], [(7, (9, 0), (0, 0), 0, 0), (7, (9, 0), (0, 0), 1, 0), (7, (9, 0), (0, 0), 2, 0)])]
theorem lx1_c : qs_chk (fun pc => bif Nat.beq pc 5 then true else bif Nat.beq pc 15 then true else Nat.beq pc 25) lx1_i 0 lx1_T 400 400 23 98 0 [(0, 2, 0, 8), (1, 0, 9, 0)] [] = true := by decide +kernel
def lx5_i : List qs_I := [(0, 0, (0, 0), sx_r32)]
def lx5_T : List og_T := [(none, some (0, 9, 0), [], [], [], [])]
theorem lx5_c : qs_chk (fun _ => false) lx5_i 0 lx5_T 400 400 23 98 8 [] [(0, 9, 0)] = true := by decide +kernel
def lx15_i : List qs_I := [(0, 0, (0, 0), sx_r32)]
def lx15_T : List og_T := [(none, some (0, 9, 0), [], [], [], [])]
theorem lx15_c : qs_chk (fun _ => false) lx15_i 0 lx15_T 400 400 23 98 18 [] [(0, 9, 0)] = true := by decide +kernel
def lx25_i : List qs_I := [(0, 0, (0, 0), sx_r32)]
def lx25_T : List og_T := [(none, some (0, 9, 0), [], [], [], [])]
theorem lx25_c : qs_chk (fun _ => false) lx25_i 0 lx25_T 400 400 23 98 28 [] [(0, 9, 0)] = true := by decide +kernel
def lw1_i : List qs_I := [(1, 10, (0, 210), (0, 29))]
def lw1_T : List og_T := [(some 10, none, [], [(0, 2, 0, 8), (1, 0, 0, 0), (2, 0, 9, 0)], [], [])]
theorem lw1_c : qs_chk (fun pc => Nat.beq pc 10) lw1_i 0 lw1_T 400 400 22 100 0 [(0, 2, 0, 8)] [] = true := by decide +kernel
def lw2_i : List qs_I := [(0, 0, (0, 0), (0, 63)), (0, 0, (0, 0), (0, 29))]
def lw2_T : List og_T := [(some 22, none, [(0, 10, 0), (2, 0, 9), (0, 9, 0)], [(0, 2, 0, 8), (1, 0, 9, 0), (2, 0, 10, 0)], [], [])]
theorem lw2_c : qs_chk (fun pc => Nat.beq pc 22) lw2_i 0 lw2_T 400 400 22 100 10 [(0, 2, 0, 8), (1, 0, 9, 0), (2, 0, 10, 0)] [] = true := by decide +kernel
def lw3_i : List qs_I := [(0, 0, (0, 0), (0, 63)), (0, 0, (0, 0), (0, 29)), (0, 0, (0, 0), (0, 63))]
def lw3_T : List og_T := [(some 10, none, [], [(0, 2, 0, 8), (1, 0, 12, 0), (2, 0, 10, 1)], [], [(5, (9, 0), (11, 0), 4, 12)])]
theorem lw3_c : qs_chk (fun pc => Nat.beq pc 10) lw3_i 1 lw3_T 400 400 22 100 25 [(0, 2, 0, 8), (1, 0, 9, 0), (2, 0, 10, 0)] [(0, 11, 0), (0, 9, 0)] = true := by decide +kernel
def lw4_i : List qs_I := [(0, 0, (0, 0), (0, 63)), (1, 9, (0, 6), (0, 63))]
def lw4_T : List og_T := [(none, some (0, 12, 0), [], [], [], [(5, (9, 0), (0, -1), 5, 11), (5, (10, 0), (11, 0), 3, 12)])]
theorem lw4_c : qs_chk (fun pc => Nat.beq pc 22) lw4_i 2 lw4_T 400 400 22 100 10 [(0, 2, 0, 8), (1, 0, 9, 0), (2, 0, 0, 30)] [] = true := by decide +kernel
def lm1_i : List qs_I := [(1, 10, (0, 210), (0, 29))]
def lm1_T : List og_T := [(some 10, none, [], [(0, 2, 0, 8), (1, 1, 0, 1), (3, 0, 9, 0)], [], [])]
theorem lm1_c : qs_chk (fun pc => Nat.beq pc 10) lm1_i 0 lm1_T 400 400 22 102 0 [(0, 2, 0, 8)] [] = true := by decide +kernel
def lm2_i : List qs_I := [(0, 0, (0, 0), sx_r64), (0, 0, (0, 0), (0, 29))]
def lm2_T : List og_T := [(some 21, none, [(0, 10, 0), (2, 0, 9)], [(0, 2, 0, 8), (1, 1, 9, 0), (3, 0, 10, 0)], [], [])]
theorem lm2_c : qs_chk (fun pc => Nat.beq pc 21) lm2_i 0 lm2_T 400 400 22 102 10 [(0, 2, 0, 8), (1, 1, 9, 0), (3, 0, 10, 0)] [] = true := by decide +kernel
def lm3_i : List qs_I := [(0, 0, (0, 0), sx_r64), (0, 0, (0, 0), (0, 29)), (0, 0, (0, 0), (0, 63))]
def lm3_T : List og_T := [(some 32, none, [], [(0, 2, 0, 8), (1, 1, 9, 0), (3, 0, 10, 0), (4, 0, 11, 0), (5, 1, 9, 0), (7, 0, 0, 0)], [], [])]
theorem lm3_c : qs_chk (fun pc => Nat.beq pc 32) lm3_i 0 lm3_T 400 400 22 102 24 [(0, 2, 0, 8), (1, 1, 9, 0), (3, 0, 10, 0)] [(0, 11, 0)] = true := by decide +kernel
def lm4_i : List qs_I := [(0, 0, (0, 0), sx_r64), (0, 0, (0, 0), (0, 29)), (0, 0, (0, 0), (0, 63)), (0, 0, (0, 0), sx_r64), (0, 0, (0, 0), (0, 63))]
def lm4_T : List og_T := [(some 32, none, [], [(0, 2, 0, 8), (1, 1, 9, 0), (3, 0, 10, 0), (4, 0, 11, 0), (5, 1, 12, 0), (7, 0, 13, 1)], [], [(0, (15, 0), (0, 0), -9223372036854775808, 0), (5, (12, 0), (13, 0), 41, 14), (5, (14, 0), (0, 1), 35, 15)]), (some 56, none, [(0, 11, 0), (0, 13, 0), (1, 9, 0)], [(0, 2, 0, 8), (1, 1, 9, 0), (3, 0, 10, 0), (4, 0, 11, 0), (5, 1, 12, 0), (7, 0, 13, 0)], [], [(0, (15, 0), (0, 0), 1, 1), (5, (12, 0), (13, 0), 41, 14), (5, (14, 0), (0, 1), 35, 15)]), (some 32, none, [], [(0, 2, 0, 8), (1, 1, 9, 0), (3, 0, 10, 0), (4, 0, 11, 0), (5, 1, 12, 0), (7, 0, 13, 1)], [], [(0, (15, 0), (0, 0), 2, 9223372036854775807), (5, (12, 0), (13, 0), 41, 14), (5, (14, 0), (0, 1), 35, 15)])]
theorem lm4_c : qs_chk (fun pc => bif Nat.beq pc 32 then true else Nat.beq pc 56) lm4_i 2 lm4_T 400 400 22 102 32 [(0, 2, 0, 8), (1, 1, 9, 0), (3, 0, 10, 0), (4, 0, 11, 0), (5, 1, 12, 0), (7, 0, 13, 0)] [] = true := by decide +kernel
def lm5_i : List qs_I := [(0, 0, (0, 0), sx_r64), (0, 0, (0, 0), (0, 29)), (0, 0, (0, 0), (0, 63)), (0, 0, (0, 0), sx_r64), (0, 0, (0, 0), (0, 63)), (0, 0, (0, 0), sx_r64)]
def lm5_T : List og_T := [(some 32, none, [], [(0, 2, 0, 8), (1, 1, 15, 0), (3, 0, 10, 0), (4, 0, 11, 0), (5, 1, 12, 0), (7, 0, 13, 1)], [], [(5, (9, 0), (14, 0), 36, 15)])]
theorem lm5_c : qs_chk (fun pc => Nat.beq pc 32) lm5_i 1 lm5_T 400 400 22 102 59 [(0, 2, 0, 8), (1, 1, 9, 0), (3, 0, 10, 0), (4, 0, 11, 0), (5, 1, 12, 0), (7, 0, 13, 0)] [(1, 14, 0), (1, 9, 0)] = true := by decide +kernel
def lm6_i : List qs_I := [(0, 0, (0, 0), sx_r64), (0, 0, (0, 0), (0, 29)), (0, 0, (0, 0), (0, 63)), (0, 0, (0, 0), sx_r64)]
def lm6_T : List og_T := [(some 10, none, [], [(0, 2, 0, 8), (1, 1, 9, 0), (3, 0, 10, 1)], [], [])]
theorem lm6_c : qs_chk (fun pc => Nat.beq pc 10) lm6_i 0 lm6_T 400 400 22 102 32 [(0, 2, 0, 8), (1, 1, 9, 0), (3, 0, 10, 0), (4, 0, 11, 0), (5, 1, 12, 0), (7, 0, 0, 64)] [] = true := by decide +kernel
def lm7_i : List qs_I := [(0, 0, (0, 0), sx_r64)]
def lm7_T : List og_T := [(some 78, none, [], [(0, 2, 0, 8), (1, 1, 9, 0), (3, 0, 0, 0), (4, 0, 0, 0)], [], [])]
theorem lm7_c : qs_chk (fun pc => Nat.beq pc 78) lm7_i 0 lm7_T 400 400 22 102 10 [(0, 2, 0, 8), (1, 1, 9, 0), (3, 0, 0, 30)] [] = true := by decide +kernel
def lm8_i : List qs_I := [(0, 0, (0, 0), sx_r64), (0, 0, (0, 0), (0, 6)), (0, 0, (0, 0), (0, 63))]
def lm8_T : List og_T := [(some 78, none, [], [(0, 2, 0, 8), (1, 1, 9, 0), (3, 0, 10, 0), (4, 0, 11, 1)], [], [(0, (13, 0), (0, 0), -9223372036854775808, 0), (5, (9, 0), (11, 0), 41, 12), (5, (12, 0), (0, 1), 35, 13)]), (some 99, none, [(0, 11, 0), (0, 10, 0)], [(0, 2, 0, 8), (1, 1, 9, 0), (3, 0, 10, 0), (4, 0, 11, 0)], [], [(0, (13, 0), (0, 0), 1, 1), (5, (9, 0), (11, 0), 41, 12), (5, (12, 0), (0, 1), 35, 13)]), (some 78, none, [], [(0, 2, 0, 8), (1, 1, 9, 0), (3, 0, 10, 0), (4, 0, 11, 1)], [], [(0, (13, 0), (0, 0), 2, 9223372036854775807), (5, (9, 0), (11, 0), 41, 12), (5, (12, 0), (0, 1), 35, 13)])]
theorem lm8_c : qs_chk (fun pc => bif Nat.beq pc 78 then true else Nat.beq pc 99) lm8_i 2 lm8_T 400 400 22 102 78 [(0, 2, 0, 8), (1, 1, 9, 0), (3, 0, 10, 0), (4, 0, 11, 0)] [] = true := by decide +kernel
def lm9_i : List qs_I := [(0, 0, (0, 0), sx_r64), (0, 0, (0, 0), (0, 63)), (0, 0, (0, 0), (0, 6)), (0, 0, (0, 0), (0, 6))]
def lm9_T : List og_T := [(some 78, none, [], [(0, 2, 0, 8), (1, 1, 9, 0), (3, 0, 12, 0), (4, 0, 10, 1)], [], [(0, (11, 0), (0, 0), 0, 5), (0, (12, 0), (0, 0), 1, 6), (1, (11, 0), (12, 0), 0, 0)]), (some 78, none, [], [(0, 2, 0, 8), (1, 1, 9, 0), (3, 0, 11, 0), (4, 0, 10, 1)], [], [(2, (11, 0), (12, 0), 0, 0)])]
theorem lm9_c : qs_chk (fun pc => Nat.beq pc 78) lm9_i 0 lm9_T 400 400 22 102 102 [(0, 2, 0, 8), (1, 1, 9, 0), (3, 0, 11, 0), (4, 0, 10, 0)] [(0, 12, 0), (0, 11, 0)] = true := by decide +kernel
def lmz_i : List qs_I := [(0, 0, (0, 0), sx_r64), (0, 0, (0, 0), (0, 6))]
def lmz_T : List og_T := [(none, some (0, 10, 0), [], [], [], [])]
theorem lmz_c : qs_chk (fun _ => false) lmz_i 0 lmz_T 400 400 22 102 78 [(0, 2, 0, 8), (1, 1, 9, 0), (3, 0, 10, 0), (4, 0, 0, 64)] [] = true := by decide +kernel
theorem lk_w36 {z w : Int} : sx_w sx_r64 (sx_mf 36 z w) := sx_w64' (Int64.ofInt z ||| Int64.ofInt w)
/-- sets with one house more -/
theorem lv_loop (hL : L < 2 ^ 31) {y a : Nat} (hy : y < 64) (ha : a < 64) : ∀ (k h : Nat) (z : Int) (M' : Nat → Nat → Int), h + k = 6 → sx_w sx_r64 z → (∀ x, x < 64 → (lsb z x = true ↔ ∃ g, g < h ∧ a.testBit g = true ∧ x = mor y g)) → sx_mok cl_ly M' → (∀ a, a < 128 → M' a = M a) → rz_fin (fun r N => (∃ z, r = some (.long (Int64.ofInt z)) ∧ sx_w sx_r64 z ∧ ∀ x, x < 64 → (lsb z x = true ↔ ∃ g, g < 6 ∧ a.testBit g = true ∧ x = mor y g)) ∧ sx_mok cl_ly N ∧ ∀ a, a < 128 → N a = M a) L xs 103 20 5 [(0, .int (Int32.ofInt (y : Int))), (1, .int (Int32.ofInt (a : Int))), (2, .long (Int64.ofInt z)), (4, .int (Int32.ofInt (h : Int)))] [] M' := by
  intro k
  induction k with
  | zero =>
    intro h z M' hk wz hz hm hf
    have e : h = 6 := by omega
    subst e
    refine qs_use (zs := [(y : Int), (a : Int), z]) lv3_c hL hm (qs_in (show 0 ≤ (y : Int) ∧ (y : Int) ≤ 63 by omega) (qs_in (show 0 ≤ (a : Int) ∧ (a : Int) ≤ 63 by omega) (qs_iw wz (qs_fin rfl)))) (Nat.le_refl _) rfl rfl (qs_c (fun K hK hc hM => ?_) qs_z)
    exact ⟨⟨z, rfl, wz, hz⟩, hK, fun a ha => ((show ∀ a, a < 128 → K a = M' a from hM) a ha).trans (hf a ha)⟩
  | succ k ih =>
    intro h z M' hk wz hz hm hf
    have h6 : h < 6 := by omega
    refine qs_use (zs := [(y : Int), (a : Int), z]) (List.all_eq_true.mp lv2_c h (List.mem_range.mpr h6)) hL hm (qs_in (show 0 ≤ (y : Int) ∧ (y : Int) ≤ 63 by omega) (qs_in (show 0 ≤ (a : Int) ∧ (a : Int) ≤ 63 by omega) (qs_iw wz (qs_fin rfl)))) (Nat.le_refl _) rfl rfl (qs_c (fun u1 u2 u3 u4 u5 K hK hc hM => ?_) (qs_c (fun u1 u2 u3 u4 u5 K hK hc hM => ?_) qs_z))
    · obtain ⟨c1, c2, c3, c4, c5, c6, -⟩ := hc
      have c1 : 1 ≤ u2 ∧ u2 ≤ 1 := c1
      have c2 : u1 = sx_mf 10 (a : Int) (h : Int) := c2
      have c3 : u2 = sx_mf 3 u1 1 := c3
      have c4 : u3 = sx_mf 4 (y : Int) ((2 ^ h : Nat) : Int) := c4
      have c5 : u4 = sx_mf 40 1 u3 := c5
      have c6 : u5 = sx_mf 36 z u4 := c6
      have e : vq_bt (a : Int) (h : Int) = 1 := by
        have q : u2 = vq_bt (a : Int) (h : Int) := by rw [c3, c2]; rfl
        omega
      have hb : a.testBit h = true := Decidable.byContradiction fun q => by
        rw [lk_bt (show a < 2 ^ 31 by omega) (by omega), if_neg q] at e
        exact absurd e (by decide)
      obtain ⟨m64, -⟩ := mor_ok hy h6
      refine ih (h + 1) u5 K (by omega) (by rw [c6]; exact lk_w36) (fun x hx => ?_) hK (fun a ha => ((show ∀ a, a < 128 → K a = M' a from hM) a ha).trans (hf a ha))
      rw [c6, c5, c4, mor_e hy h6, lsb_or, lsb_1 m64 hx, Bool.or_eq_true, decide_eq_true_iff, hz x hx]
      constructor
      · rintro (⟨g, g1, g2⟩ | q)
        · exact ⟨g, by omega, g2⟩
        · exact ⟨h, by omega, hb, q⟩
      · rintro ⟨g, g1, g2, g3⟩
        by_cases q : g = h
        · rw [q] at g3
          exact Or.inr g3
        · exact Or.inl ⟨g, by omega, g2, g3⟩
    · obtain ⟨c1, c2, c3, -⟩ := hc
      have c1 : u2 ≠ 1 := c1
      have c2 : u1 = sx_mf 10 (a : Int) (h : Int) := c2
      have c3 : u2 = sx_mf 3 u1 1 := c3
      have e : ¬ vq_bt (a : Int) (h : Int) = 1 := by
        have q : u2 = vq_bt (a : Int) (h : Int) := by rw [c3, c2]; rfl
        omega
      have hb : ¬ a.testBit h = true := fun q => e (by rw [lk_bt (show a < 2 ^ 31 by omega) (by omega), if_pos q])
      refine ih (h + 1) z K (by omega) wz (fun x hx => ?_) hK (fun a ha => ((show ∀ a, a < 128 → K a = M' a from hM) a ha).trans (hf a ha))
      rw [hz x hx]
      constructor
      · rintro ⟨g, g1, g2⟩
        exact ⟨g, by omega, g2⟩
      · rintro ⟨g, g1, g2, g3⟩
        have q : g ≠ h := fun q => hb (by rw [← q]; exact g2)
        exact ⟨g, by omega, g2, g3⟩
theorem lv_x (hL : L < 2 ^ 31) (hm : sx_mok cl_ly M) {y a : Nat} (hy : y < 64) (ha : a < 64) : rz_fin (fun r N => (∃ z, r = some (.long (Int64.ofInt z)) ∧ sx_w sx_r64 z ∧ ∀ x, x < 64 → (lsb z x = true ↔ ∃ g, g < 6 ∧ a.testBit g = true ∧ x = mor y g)) ∧ sx_mok cl_ly N ∧ ∀ a, a < 128 → N a = M a) L xs 103 20 0 [(0, .int (Int32.ofInt (y : Int))), (1, .int (Int32.ofInt (a : Int)))] [] M := by
  refine qs_use (zs := [(y : Int), (a : Int)]) lv1_c hL hm (qs_in (show 0 ≤ (y : Int) ∧ (y : Int) ≤ 63 by omega) (qs_in (show 0 ≤ (a : Int) ∧ (a : Int) ≤ 63 by omega) (qs_fin rfl))) (Nat.le_refl _) rfl rfl (qs_c (fun K hK hc hM => ?_) qs_z)
  exact lv_loop hL hy ha 6 0 0 K (by omega) (og_w64 (by decide) (by decide)) (fun x hx => by
    rw [lsb_0 hx]
    exact ⟨fun q => absurd q (by decide), fun ⟨g, g1, _⟩ => by omega⟩) hK hM
/-- which cards may be accepted on a day, and whose they are -/
def lsP (M : Nat → Nat → Int) (d : Nat) : Nat → Bool := vq_may (fun c => M 10 (c + 180)) (M 11) (M 9 6) (M 9 7) (d : Int)
def lsA (M : Nat → Nat → Int) (nc d : Nat) : Nat := osn (lsP M d) (M 11) nc
theorem ls_11 (hm : sx_mok cl_ly M) {c : Nat} (hc : c < 12) : 0 ≤ M 11 c ∧ M 11 c ≤ 5 := hm 11 _ c _ rfl hc rfl
theorem lsA_lt (hm : sx_mok cl_ly M) (hn : nc ≤ 12) {d : Nat} : lsA M nc d < 64 := osn_lt nc (fun c hc => ls_11 hm (by omega))
theorem la_loop (hL : L < 2 ^ 31) (hm0 : sx_mok cl_ly M) (hn : M 9 5 = (nc : Int)) (h12 : nc ≤ 12) {d : Nat} (hd : d ≤ 29) : ∀ (k c : Nat) (M' : Nat → Nat → Int), c + k = nc → sx_mok cl_ly M' → (∀ a, a < 128 → M' a = M a) → rz_fin (fun r N => r = some (.int (Int32.ofInt ((lsA M nc d : Nat) : Int))) ∧ sx_mok cl_ly N ∧ ∀ a, a < 128 → N a = M a) L xs 101 21 4 [(0, .ref 9), (1, .int (Int32.ofInt (d : Int))), (2, .int (Int32.ofInt ((osn (lsP M d) (M 11) c : Nat) : Int))), (3, .int (Int32.ofInt (c : Int)))] [] M' := by
  intro k
  induction k with
  | zero =>
    intro c M' hk hm hf
    have e : c = nc := by omega
    subst e
    have q := lsA_lt hm0 h12 (d := d)
    refine qs_use (zs := [(d : Int), ((osn (lsP M d) (M 11) c : Nat) : Int), (c : Int), (c : Int)]) la4_c hL hm (qs_in (show 0 ≤ (d : Int) ∧ (d : Int) ≤ 29 by omega) (qs_in (show 0 ≤ ((osn (lsP M d) (M 11) c : Nat) : Int) ∧ ((osn (lsP M d) (M 11) c : Nat) : Int) ≤ 63 by unfold lsA at q; omega) (qs_in (show 0 ≤ (c : Int) ∧ (c : Int) ≤ 12 by omega) (qs_rd (show (0 : Int) ≤ 5 by decide) (by rw [hf 9 (by decide)]; exact hn) (show 0 ≤ (c : Int) ∧ (c : Int) ≤ 12 by omega) (qs_ge (show ¬ (c : Int) < (c : Int) by omega) (qs_fin rfl)))))) (Nat.le_refl _) rfl rfl (qs_c (fun K hK hc hM => ?_) qs_z)
    exact ⟨rfl, hK, fun a ha => ((show ∀ a, a < 128 → K a = M' a from hM) a ha).trans (hf a ha)⟩
  | succ k ih =>
    intro c M' hk hm hf
    have w6 : sx_w sx_r32 (M 9 6) := cv_ly_ok (g := (9, 6, sx_r32)) hm0 (by decide +kernel)
    have w7 : sx_w sx_r32 (M 9 7) := cv_ly_ok (g := (9, 7, sx_r32)) hm0 (by decide +kernel)
    have o64 : osn (lsP M d) (M 11) c < 64 := osn_lt c (fun i hi => ls_11 hm0 (by omega))
    obtain ⟨o, eo⟩ : ∃ o, osn (lsP M d) (M 11) c = o := ⟨_, rfl⟩
    have e1 : osn (lsP M d) (M 11) (c + 1) = if lsP M d c = true then o ||| 2 ^ (M 11 c).toNat else o := by rw [← eo]; rfl
    rw [eo] at o64 ⊢
    refine qs_use (zs := [(d : Int), (o : Int), (c : Int), (nc : Int), M 9 6, M 9 7]) la2_c hL hm (qs_in (show 0 ≤ (d : Int) ∧ (d : Int) ≤ 29 by omega) (qs_in (show 0 ≤ (o : Int) ∧ (o : Int) ≤ 63 by omega) (qs_in (show 0 ≤ (c : Int) ∧ (c : Int) ≤ 11 by omega) (qs_rd (show (0 : Int) ≤ 5 by decide) (by rw [hf 9 (by decide)]; exact hn) (show 0 ≤ (nc : Int) ∧ (nc : Int) ≤ 12 by omega) (qs_lt (show (c : Int) < (nc : Int) by omega) (qs_rd (show (0 : Int) ≤ 6 by decide) (by rw [hf 9 (by decide)]; rfl) w6 (qs_rd (show (0 : Int) ≤ 7 by decide) (by rw [hf 9 (by decide)]; rfl) w7 (qs_fin rfl)))))))) (Nat.le_refl _) rfl rfl (qs_c (fun K hK hc hM => ?_) qs_z)
    have fK : ∀ a, a < 128 → K a = M a := fun a ha => ((show ∀ a, a < 128 → K a = M' a from hM) a ha).trans (hf a ha)
    have li := vl_lies (xs := xs) (c := c) (d := d) (S := M 9 6) (G := M 9 7) hL hK (by omega) hd w6 w7
    rw [fK 10 (by decide), fK 11 (by decide)] at li
    show rz_fin _ L xs 101 21 23 [(0, .ref 9), (1, .int (Int32.ofInt (d : Int))), (2, .int (Int32.ofInt (o : Int))), (3, .int (Int32.ofInt (c : Int)))] [.int (Int32.ofInt (M 9 7)), .int (Int32.ofInt (M 9 6)), .int (Int32.ofInt (d : Int)), .int (Int32.ofInt (c : Int)), .ref 9] K
    refine qs_vc (k := 58) (b := 9) (d := 20) (d' := 20) (rest := []) rfl rfl rfl rfl rfl rfl rfl rfl (Nat.le_refl _) rfl (rz_d (by decide) li) (fun r9 K2 hr => ?_)
    obtain ⟨rfl, hK2, f2⟩ := hr
    have fK2 : ∀ a, a < 128 → K2 a = M a := fun a ha => (f2 a ha).trans (fK a ha)
    have w11 := ls_11 hm0 (show c < 12 by omega)
    have z11 : K2 11 c = M 11 c := by rw [fK2 11 (by decide)]
    obtain ⟨g, eg⟩ := Int.eq_ofNat_of_zero_le w11.1
    rw [eg] at z11 e1
    rw [Int.toNat_natCast] at e1
    have wb : 0 ≤ (if lsP M d c = true then (1 : Int) else 0) ∧ (if lsP M d c = true then (1 : Int) else 0) ≤ 1 := by split <;> decide
    show rz_fin _ L xs 101 21 26 [(0, .ref 9), (1, .int (Int32.ofInt (d : Int))), (2, .int (Int32.ofInt (o : Int))), (3, .int (Int32.ofInt (c : Int)))] [.int (Int32.ofInt (if lsP M d c = true then 1 else 0))] K2
    obtain ⟨b, eb⟩ : ∃ b, (if lsP M d c = true then (1 : Int) else 0) = b := ⟨_, rfl⟩
    rw [eb] at wb ⊢
    refine qs_use (zs := [(d : Int), (o : Int), (c : Int), b, (g : Int)]) la3_c hL hK2 (qs_in (show 0 ≤ (d : Int) ∧ (d : Int) ≤ 29 by omega) (qs_in (show 0 ≤ (o : Int) ∧ (o : Int) ≤ 63 by omega) (qs_in (show 0 ≤ (c : Int) ∧ (c : Int) ≤ 11 by omega) (qs_in wb (qs_rd (show 0 ≤ (c : Int) by omega) z11 (show 0 ≤ (g : Int) ∧ (g : Int) ≤ 5 by omega) (qs_fin rfl)))))) (Nat.le_refl _) rfl rfl (qs_c (fun u1 u2 K3 hK3 hc hM => ?_) (qs_c (fun u1 u2 K3 hK3 hc hM => ?_) qs_z))
    · have b0 : 0 ≤ b ∧ b ≤ 0 := hc.1
      have nb : ¬ lsP M d c = true := fun q => by
        rw [if_pos q] at eb
        omega
      have g := ih (c + 1) K3 (by omega) hK3 (fun a ha => ((show ∀ a, a < 128 → K3 a = K2 a from hM) a ha).trans (fK2 a ha))
      rw [e1, if_neg nb] at g
      exact g
    · obtain ⟨c1, c2, c3, -⟩ := hc
      have c1 : b ≠ 0 := c1
      have c2 : u1 = sx_mf 8 1 (g : Int) := c2
      have c3 : u2 = sx_mf 4 (o : Int) u1 := c3
      have yb : lsP M d c = true := Decidable.byContradiction fun q => by
        rw [if_neg q] at eb
        omega
      have p2 := lk_p (k := g) (by omega)
      have e2 : u2 = ((o ||| 2 ^ g : Nat) : Int) := by rw [c3, c2, lk_s (by omega), fd_or (by omega) p2]
      have g := ih (c + 1) K3 (by omega) hK3 (fun a ha => ((show ∀ a, a < 128 → K3 a = K2 a from hM) a ha).trans (fK2 a ha))
      rw [e1, if_pos yb, ← e2] at g
      exact g
theorem la_x (hL : L < 2 ^ 31) (hm : sx_mok cl_ly M) (hn : M 9 5 = (nc : Int)) (h12 : nc ≤ 12) {d : Nat} (hd : d ≤ 29) : rz_fin (fun r N => r = some (.int (Int32.ofInt ((lsA M nc d : Nat) : Int))) ∧ sx_mok cl_ly N ∧ ∀ a, a < 128 → N a = M a) L xs 101 21 0 [(0, .ref 9), (1, .int (Int32.ofInt (d : Int)))] [] M := by
  refine qs_use (zs := [(d : Int)]) la1_c hL hm (qs_in (show 0 ≤ (d : Int) ∧ (d : Int) ≤ 29 by omega) (qs_fin rfl)) (Nat.le_refl _) rfl rfl (qs_c (fun K hK hc hM => ?_) qs_z)
  exact la_loop hL hm hn h12 hd nc 0 K (by omega) hK hM
/-- clash -/
def lsO (M : Nat → Nat → Int) (nc d : Nat) : Nat := osn (fun c => decide (M 10 (c + 180) = (d : Int))) (M 11) nc
def lsC (M : Nat → Nat → Int) (nc s d : Nat) : Bool := decide (2 ≤ pcn (lsO M nc d &&& s) 10)
theorem lc_own (hL : L < 2 ^ 31) (hm0 : sx_mok cl_ly M) (hn : M 9 5 = (nc : Int)) (h12 : nc ≤ 12) {d n : Nat} (hd : d ≤ 29) (hnn : n < 2 ^ 30) {Q : Option Value → (Nat → Nat → Int) → Prop} (next : ∀ K, sx_mok cl_ly K → (∀ a, a < 128 → K a = M a) → rz_fin Q L xs 99 22 15 [(0, .ref 8), (1, .int (Int32.ofInt (n : Int))), (2, .int (Int32.ofInt (d : Int))), (3, .int (Int32.ofInt ((lsO M nc d : Nat) : Int))), (4, .int (Int32.ofInt (nc : Int)))] [] K) : ∀ (k c : Nat) (M' : Nat → Nat → Int), c + k = nc → sx_mok cl_ly M' → (∀ a, a < 128 → M' a = M a) → rz_fin Q L xs 99 22 15 [(0, .ref 8), (1, .int (Int32.ofInt (n : Int))), (2, .int (Int32.ofInt (d : Int))), (3, .int (Int32.ofInt ((osn (fun c => decide (M 10 (c + 180) = (d : Int))) (M 11) c : Nat) : Int))), (4, .int (Int32.ofInt (c : Int)))] [] M' := by
  intro k
  induction k with
  | zero =>
    intro c M' hk hm hf
    have e : c = nc := by omega
    subst e
    exact next M' hm hf
  | succ k ih =>
    intro c M' hk hm hf
    have o64 : osn (fun c => decide (M 10 (c + 180) = (d : Int))) (M 11) c < 64 := osn_lt c (fun i hi => ls_11 hm0 (by omega))
    obtain ⟨o, eo⟩ : ∃ o, osn (fun c => decide (M 10 (c + 180) = (d : Int))) (M 11) c = o := ⟨_, rfl⟩
    have e1 : osn (fun c => decide (M 10 (c + 180) = (d : Int))) (M 11) (c + 1) = if decide (M 10 (c + 180) = (d : Int)) = true then o ||| 2 ^ (M 11 c).toNat else o := by rw [← eo]; rfl
    have w11 := ls_11 hm0 (show c < 12 by omega)
    have z11 : M' 11 c = M 11 c := by rw [hf 11 (by decide)]
    have z10 : M' 10 ((c : Int) + 180).toNat = M 10 (c + 180) := by rw [hf 10 (by decide), show ((c : Int) + 180).toNat = c + 180 by omega]
    have wD := cx_m10 hm0 (k := c + 180) (by omega)
    obtain ⟨g, eg⟩ := Int.eq_ofNat_of_zero_le w11.1
    rw [eg] at z11 e1
    rw [Int.toNat_natCast] at e1
    rw [eo] at o64 ⊢
    generalize M 10 (c + 180) = v at z10 wD e1
    refine qs_use (zs := [(n : Int), (d : Int), (o : Int), (c : Int), (nc : Int), v, (g : Int)]) lc3_c hL hm (qs_in (show 0 ≤ (n : Int) ∧ (n : Int) ≤ 1073741823 by omega) (qs_in (show 0 ≤ (d : Int) ∧ (d : Int) ≤ 29 by omega) (qs_in (show 0 ≤ (o : Int) ∧ (o : Int) ≤ 63 by omega) (qs_in (show 0 ≤ (c : Int) ∧ (c : Int) ≤ 11 by omega) (qs_rd (show (0 : Int) ≤ 5 by decide) (by rw [hf 9 (by decide)]; exact hn) (show 0 ≤ (nc : Int) ∧ (nc : Int) ≤ 12 by omega) (qs_lt (show (c : Int) < (nc : Int) by omega) (qs_rd (show 0 ≤ (c : Int) + 180 by omega) z10 wD (qs_rd (show 0 ≤ (c : Int) by omega) z11 (show 0 ≤ (g : Int) ∧ (g : Int) ≤ 5 by omega) (qs_fin rfl))))))))) (Nat.le_refl _) rfl rfl (qs_c (fun u1 u2 K hK hc hM => ?_) (qs_c (fun u1 u2 K hK hc hM => ?_) qs_z))
    · obtain ⟨c1, c2, c3, c4, -⟩ := hc
      have c2 : v = (d : Int) := c2
      have c3 : u1 = sx_mf 8 1 (g : Int) := c3
      have c4 : u2 = sx_mf 4 (o : Int) u1 := c4
      have p2 := lk_p (k := g) (by omega)
      have e2 : u2 = ((o ||| 2 ^ g : Nat) : Int) := by rw [c4, c3, lk_s (by omega), fd_or (by omega) p2]
      have g := ih (c + 1) K (by omega) hK (fun a ha => ((show ∀ a, a < 128 → K a = M' a from hM) a ha).trans (hf a ha))
      rw [e1, if_pos (decide_eq_true c2), ← e2] at g
      exact g
    · have c2 : ¬ v = (d : Int) := hc.1
      have g := ih (c + 1) K (by omega) hK (fun a ha => ((show ∀ a, a < 128 → K a = M' a from hM) a ha).trans (hf a ha))
      rw [e1, if_neg (fun q => c2 (of_decide_eq_true q))] at g
      exact g
theorem lc_loop (hL : L < 2 ^ 31) (hm0 : sx_mok cl_ly M) (hn : M 9 5 = (nc : Int)) (h12 : nc ≤ 12) {s : Nat} (hs : M 9 6 = (s : Int)) (s64 : s < 64) : ∀ (k d : Nat) (M' : Nat → Nat → Int), d + k = 30 → sx_mok cl_ly M' → (∀ a, a < 128 → M' a = M a) → rz_fin (fun r N => r = some (.int (Int32.ofInt ((dsn (lsC M nc s) 30 : Nat) : Int))) ∧ sx_mok cl_ly N ∧ ∀ a, a < 128 → N a = M a) L xs 99 22 4 [(0, .ref 8), (1, .int (Int32.ofInt ((dsn (lsC M nc s) d : Nat) : Int))), (2, .int (Int32.ofInt (d : Int)))] [] M' := by
  intro k
  induction k with
  | zero =>
    intro d M' hk hm hf
    have e : d = 30 := by omega
    subst e
    have lt : dsn (lsC M nc s) 30 < 2 ^ 30 := dsn_lt 30
    refine qs_use (zs := [((dsn (lsC M nc s) 30 : Nat) : Int)]) lc6_c hL hm (qs_in (show 0 ≤ ((dsn (lsC M nc s) 30 : Nat) : Int) ∧ ((dsn (lsC M nc s) 30 : Nat) : Int) ≤ 1073741823 by omega) (qs_fin rfl)) (Nat.le_refl _) rfl rfl (qs_c (fun K hK hc hM => ?_) qs_z)
    exact ⟨rfl, hK, fun a ha => ((show ∀ a, a < 128 → K a = M' a from hM) a ha).trans (hf a ha)⟩
  | succ k ih =>
    intro d M' hk hm hf
    have lt0 : dsn (lsC M nc s) d < 2 ^ d := dsn_lt d
    have pd : 2 ^ d < 2 ^ 30 := Nat.pow_lt_pow_right (by decide) (by omega)
    obtain ⟨n, en⟩ : ∃ n, dsn (lsC M nc s) d = n := ⟨_, rfl⟩
    have e1 : dsn (lsC M nc s) (d + 1) = if lsC M nc s d = true then n ||| 2 ^ d else n := by rw [← en]; rfl
    rw [en] at lt0 ⊢
    have n30 : n < 2 ^ 30 := by omega
    refine qs_use (zs := [(n : Int), (d : Int)]) lc2_c hL hm (qs_in (show 0 ≤ (n : Int) ∧ (n : Int) ≤ 1073741823 by omega) (qs_in (show 0 ≤ (d : Int) ∧ (d : Int) ≤ 29 by omega) (qs_fin rfl))) (Nat.le_refl _) rfl rfl (qs_c (fun K hK hc hM => ?_) qs_z)
    refine lc_own (xs := xs) (n := n) (d := d) hL hm0 hn h12 (by omega) n30 (fun K2 hK2 f2 => ?_) nc 0 K (by omega) hK (fun a ha => ((show ∀ a, a < 128 → K a = M' a from hM) a ha).trans (hf a ha))
    have o64 : lsO M nc d < 64 := osn_lt nc (fun i hi => ls_11 hm0 (by omega))
    obtain ⟨o, eo⟩ : ∃ o, lsO M nc d = o := ⟨_, rfl⟩
    have eC : lsC M nc s d = decide (2 ≤ pcn (o &&& s) 10) := by rw [← eo]; rfl
    rw [eo] at o64 ⊢
    refine qs_use (zs := [(n : Int), (d : Int), (o : Int), (nc : Int), (nc : Int), (s : Int)]) lc4_c hL hK2 (qs_in (show 0 ≤ (n : Int) ∧ (n : Int) ≤ 1073741823 by omega) (qs_in (show 0 ≤ (d : Int) ∧ (d : Int) ≤ 29 by omega) (qs_in (show 0 ≤ (o : Int) ∧ (o : Int) ≤ 63 by omega) (qs_in (show 0 ≤ (nc : Int) ∧ (nc : Int) ≤ 12 by omega) (qs_rd (show (0 : Int) ≤ 5 by decide) (by rw [f2 9 (by decide)]; exact hn) (show 0 ≤ (nc : Int) ∧ (nc : Int) ≤ 12 by omega) (qs_ge (show ¬ (nc : Int) < (nc : Int) by omega) (qs_rd (show (0 : Int) ≤ 6 by decide) (by rw [f2 9 (by decide)]; exact hs) (show 0 ≤ (s : Int) ∧ (s : Int) ≤ 63 by omega) (qs_fin rfl)))))))) (Nat.le_refl _) rfl rfl (qs_c (fun u1 K3 hK3 hc hM => ?_) qs_z)
    have c1 : u1 = sx_mf 3 (o : Int) (s : Int) := hc.1
    rw [lk_an (by omega) (by omega)] at c1
    have a64 : o &&& s < 64 := Nat.lt_of_le_of_lt Nat.and_le_left o64
    have f3 : ∀ a, a < 128 → K3 a = M a := fun a ha => ((show ∀ a, a < 128 → K3 a = K2 a from hM) a ha).trans (f2 a ha)
    have bc := bc_x (xs := xs) (n := o &&& s) hL hK3 (by omega)
    subst c1
    show rz_fin _ L xs 99 22 72 [(0, .ref 8), (1, .int (Int32.ofInt (n : Int))), (2, .int (Int32.ofInt (d : Int))), (3, .int (Int32.ofInt (o : Int))), (4, .int (Int32.ofInt (nc : Int)))] [.int (Int32.ofInt ((o &&& s : Nat) : Int))] K3
    refine qs_sc (k := 93) (d := 21) (d' := 21) (as := [.int (Int32.ofInt ((o &&& s : Nat) : Int))]) (rest := []) rfl rfl rfl rfl rfl rfl rfl (Nat.le_refl _) rfl (rz_d (by decide) bc) (fun r9 K4 hr => ?_)
    obtain ⟨rfl, hK4, f4⟩ := hr
    have p10 : pcn (o &&& s) 10 ≤ 10 := pcn_kle 10
    generalize pcn (o &&& s) 10 = p at p10 eC ⊢
    show rz_fin _ L xs 99 22 75 [(0, .ref 8), (1, .int (Int32.ofInt (n : Int))), (2, .int (Int32.ofInt (d : Int))), (3, .int (Int32.ofInt (o : Int))), (4, .int (Int32.ofInt (nc : Int)))] [.int (Int32.ofInt (p : Int))] K4
    have f4' : ∀ a, a < 128 → K4 a = M a := fun a ha => (f4 a ha).trans (f3 a ha)
    refine qs_use (zs := [(n : Int), (d : Int), (o : Int), (nc : Int), (p : Int)]) lc5_c hL hK4 (qs_in (show 0 ≤ (n : Int) ∧ (n : Int) ≤ 1073741823 by omega) (qs_in (show 0 ≤ (d : Int) ∧ (d : Int) ≤ 29 by omega) (qs_in (show 0 ≤ (o : Int) ∧ (o : Int) ≤ 63 by omega) (qs_in (show 0 ≤ (nc : Int) ∧ (nc : Int) ≤ 12 by omega) (qs_in (show 0 ≤ (p : Int) ∧ (p : Int) ≤ 10 by omega) (qs_fin rfl)))))) (Nat.le_refl _) rfl rfl (qs_c (fun u1 u2 K5 hK5 hc hM => ?_) (qs_c (fun u1 u2 K5 hK5 hc hM => ?_) qs_z))
    · have c1 : 0 ≤ (p : Int) ∧ (p : Int) ≤ 1 := hc.1
      have g := ih (d + 1) K5 (by omega) hK5 (fun a ha => ((show ∀ a, a < 128 → K5 a = K4 a from hM) a ha).trans (f4' a ha))
      rw [e1, eC, if_neg (fun q => by have := of_decide_eq_true q; omega)] at g
      exact g
    · obtain ⟨c1, c2, c3, -⟩ := hc
      have c1 : 2 ≤ (p : Int) ∧ (p : Int) ≤ 10 := c1
      have c2 : u1 = sx_mf 8 1 (d : Int) := c2
      have c3 : u2 = sx_mf 4 (n : Int) u1 := c3
      have e2 : u2 = ((n ||| 2 ^ d : Nat) : Int) := by rw [c3, c2, lk_s (by omega), fd_or (by omega) (lk_p (by omega))]
      have g := ih (d + 1) K5 (by omega) hK5 (fun a ha => ((show ∀ a, a < 128 → K5 a = K4 a from hM) a ha).trans (f4' a ha))
      rw [e1, eC, if_pos (decide_eq_true (show 2 ≤ p by omega)), ← e2] at g
      exact g
/-- without -/
def lwA (f : Nat → Nat) (t : Nat) : Nat → Nat
  | 0 => 0
  | k + 1 => lwA f t k ||| f (t + k)
theorem lwA_lt {f : Nat → Nat} {t : Nat} (h : ∀ d, f d < 64) : ∀ k, lwA f t k < 64 := by
  intro k
  induction k with
  | zero => exact (by decide : 0 < 64)
  | succ k ih => exact Nat.or_lt_two_pow (n := 6) ih (h (t + k))
theorem lwA_b {f : Nat → Nat} {t g : Nat} : ∀ k, ((lwA f t k).testBit g = true ↔ ∃ e, t ≤ e ∧ e < t + k ∧ (f e).testBit g = true) := by
  intro k
  induction k with
  | zero => exact ⟨fun q => by rw [show lwA f t 0 = 0 from rfl, Nat.zero_testBit] at q; exact absurd q (by decide), fun ⟨e, e1, e2, _⟩ => by omega⟩
  | succ k ih =>
    show ((lwA f t k ||| f (t + k)).testBit g = true ↔ _)
    rw [Nat.testBit_or, Bool.or_eq_true, ih]
    constructor
    · rintro (⟨e, e1, e2, e3⟩ | q)
      · exact ⟨e, e1, by omega, e3⟩
      · exact ⟨t + k, by omega, by omega, q⟩
    · rintro ⟨e, e1, e2, e3⟩
      by_cases q : e = t + k
      · rw [q] at e3
        exact Or.inr e3
      · exact Or.inl ⟨e, e1, by omega, e3⟩
theorem lw_loop (hL : L < 2 ^ 31) (hm0 : sx_mok cl_ly M) (hn : M 9 5 = (nc : Int)) (h12 : nc ≤ 12) {s t : Nat} (hs : M 9 6 = (s : Int)) (s64 : s < 64) : ∀ (k j : Nat) (M' : Nat → Nat → Int), t + j + k = 30 → sx_mok cl_ly M' → (∀ a, a < 128 → M' a = M a) → rz_fin (fun r N => r = some (.int (Int32.ofInt (sx_mf 3 (s : Int) (sx_mf 5 ((lwA (lsA M nc) t (30 - t) : Nat) : Int) (-1))))) ∧ sx_mok cl_ly N ∧ ∀ a, a < 128 → N a = M a) L xs 100 22 10 [(0, .ref 8), (1, .int (Int32.ofInt ((lwA (lsA M nc) t j : Nat) : Int))), (2, .int (Int32.ofInt ((t + j : Nat) : Int)))] [] M' := by
  intro k
  induction k with
  | zero =>
    intro j M' hk hm hf
    have e : j = 30 - t := by omega
    have e30 : t + (30 - t) = 30 := by omega
    subst e
    rw [e30]
    have lt := lwA_lt (f := lsA M nc) (t := t) (fun d => lsA_lt hm0 h12) (30 - t)
    generalize lwA (lsA M nc) t (30 - t) = a at lt ⊢
    refine qs_use (zs := [(a : Int), (s : Int)]) lw4_c hL hm (qs_in (show 0 ≤ (a : Int) ∧ (a : Int) ≤ 63 by omega) (qs_rd (show (0 : Int) ≤ 6 by decide) (by rw [hf 9 (by decide)]; exact hs) (show 0 ≤ (s : Int) ∧ (s : Int) ≤ 63 by omega) (qs_fin rfl))) (Nat.le_refl _) rfl rfl (qs_c (fun u1 u2 K hK hc hM => ?_) qs_z)
    obtain ⟨c1, c2, -⟩ := hc
    have c1 : u1 = sx_mf 5 (a : Int) (-1) := c1
    have c2 : u2 = sx_mf 3 (s : Int) u1 := c2
    have fK : ∀ a, a < 128 → K a = M a := fun a ha => ((show ∀ a, a < 128 → K a = M' a from hM) a ha).trans (hf a ha)
    rw [← c1, ← c2]
    exact ⟨rfl, hK, fK⟩
  | succ k ih =>
    intro j M' hk hm hf
    have lt := lwA_lt (f := lsA M nc) (t := t) (fun d => lsA_lt hm0 h12) j
    obtain ⟨a, ea⟩ : ∃ a, lwA (lsA M nc) t j = a := ⟨_, rfl⟩
    have e1 : lwA (lsA M nc) t (j + 1) = a ||| lsA M nc (t + j) := by rw [← ea]; rfl
    rw [ea] at lt ⊢
    refine qs_use (zs := [(a : Int), ((t + j : Nat) : Int)]) lw2_c hL hm (qs_in (show 0 ≤ (a : Int) ∧ (a : Int) ≤ 63 by omega) (qs_in (show 0 ≤ ((t + j : Nat) : Int) ∧ ((t + j : Nat) : Int) ≤ 29 by omega) (qs_fin rfl))) (Nat.le_refl _) rfl rfl (qs_c (fun K hK hc hM => ?_) qs_z)
    have fK : ∀ a, a < 128 → K a = M a := fun a ha => ((show ∀ a, a < 128 → K a = M' a from hM) a ha).trans (hf a ha)
    have la := la_x (xs := xs) (nc := nc) (d := t + j) hL hK (by rw [fK 9 (by decide)]; exact hn) h12 (by omega)
    have eA : lsA K nc (t + j) = lsA M nc (t + j) := by
      unfold lsA lsP
      rw [fK 9 (by decide), fK 10 (by decide), fK 11 (by decide)]
    rw [eA] at la
    show rz_fin _ L xs 100 22 22 [(0, .ref 8), (1, .int (Int32.ofInt (a : Int))), (2, .int (Int32.ofInt ((t + j : Nat) : Int)))] [.int (Int32.ofInt ((t + j : Nat) : Int)), .ref 9, .int (Int32.ofInt (a : Int))] K
    refine qs_vc (k := 101) (b := 9) (d := 21) (d' := 21) (rest := [.int (Int32.ofInt (a : Int))]) rfl rfl rfl rfl rfl rfl rfl rfl (Nat.le_refl _) rfl la (fun r9 K2 hr => ?_)
    obtain ⟨rfl, hK2, f2⟩ := hr
    have b64 := lsA_lt (nc := nc) hm0 h12 (d := t + j)
    generalize lsA M nc (t + j) = b at b64 e1 ⊢
    refine qs_use (zs := [(a : Int), ((t + j : Nat) : Int), (b : Int)]) lw3_c hL hK2 (qs_in (show 0 ≤ (a : Int) ∧ (a : Int) ≤ 63 by omega) (qs_in (show 0 ≤ ((t + j : Nat) : Int) ∧ ((t + j : Nat) : Int) ≤ 29 by omega) (qs_in (show 0 ≤ (b : Int) ∧ (b : Int) ≤ 63 by omega) (qs_fin rfl)))) (Nat.le_refl _) rfl rfl (qs_c (fun u1 K3 hK3 hc hM => ?_) qs_z)
    have c1 : u1 = sx_mf 4 (a : Int) (b : Int) := hc.1
    rw [fd_or (by omega) (by omega)] at c1
    have g := ih (j + 1) K3 (by omega) hK3 (fun a ha => ((show ∀ a, a < 128 → K3 a = K2 a from hM) a ha).trans ((f2 a ha).trans (fK a ha)))
    rw [e1, ← c1] at g
    exact g
/-- match -/
def lsD (M : Nat → Nat → Int) (nc t h d : Nat) : Bool := decide (t ≤ d ∧ d < 30) && (lsA M nc d).testBit h
theorem lm_in (hL : L < 2 ^ 31) {a d : Nat} {b : Int} (ha : a < 64) (hd : d ≤ 29) (wb : sx_w sx_r64 b) {Q : Option Value → (Nat → Nat → Int) → Prop} (next : ∀ z K, sx_w sx_r64 z → (∀ x, x < 64 → (lsb z x = true ↔ lsb b x = true ∨ ∃ y g, y < 64 ∧ lsb b y = true ∧ g < 6 ∧ a.testBit g = true ∧ x = mor y g)) → sx_mok cl_ly K → (∀ a, a < 128 → K a = M a) → rz_fin Q L xs 102 22 10 [(0, .ref 8), (1, .long (Int64.ofInt z)), (3, .int (Int32.ofInt ((d + 1 : Nat) : Int)))] [] K) : ∀ (k s : Nat) (z : Int) (M' : Nat → Nat → Int), s + k = 64 → sx_w sx_r64 z → (∀ x, x < 64 → (lsb z x = true ↔ lsb b x = true ∨ ∃ y g, y < s ∧ lsb b y = true ∧ g < 6 ∧ a.testBit g = true ∧ x = mor y g)) → sx_mok cl_ly M' → (∀ a, a < 128 → M' a = M a) → rz_fin Q L xs 102 22 32 [(0, .ref 8), (1, .long (Int64.ofInt z)), (3, .int (Int32.ofInt (d : Int))), (4, .int (Int32.ofInt (a : Int))), (5, .long (Int64.ofInt b)), (7, .int (Int32.ofInt (s : Int)))] [] M' := by
  intro k
  induction k with
  | zero =>
    intro s z M' hk wz hz hm hf
    have e : s = 64 := by omega
    subst e
    refine qs_use (zs := [z, (d : Int), (a : Int), b]) lm6_c hL hm (qs_iw wz (qs_in (show 0 ≤ (d : Int) ∧ (d : Int) ≤ 29 by omega) (qs_in (show 0 ≤ (a : Int) ∧ (a : Int) ≤ 63 by omega) (qs_iw wb (qs_fin rfl))))) (Nat.le_refl _) rfl rfl (qs_c (fun K hK hc hM => ?_) qs_z)
    exact next z K wz hz hK (fun a ha => ((show ∀ a, a < 128 → K a = M' a from hM) a ha).trans (hf a ha))
  | succ k ih =>
    intro s z M' hk wz hz hm hf
    have no : ∀ K, lsb b s ≠ true → sx_mok cl_ly K → (∀ a, a < 128 → K a = M' a) → rz_fin Q L xs 102 22 32 [(0, .ref 8), (1, .long (Int64.ofInt z)), (3, .int (Int32.ofInt (d : Int))), (4, .int (Int32.ofInt (a : Int))), (5, .long (Int64.ofInt b)), (7, .int (Int32.ofInt (((s + 1 : Nat)) : Int)))] [] K := fun K nb hK fK => ih (s + 1) z K (by omega) wz (fun x hx => by
      rw [hz x hx]
      constructor
      · rintro (q | ⟨y, g, y1, y2⟩)
        · exact Or.inl q
        · exact Or.inr ⟨y, g, by omega, y2⟩
      · rintro (q | ⟨y, g, y1, y2, y3⟩)
        · exact Or.inl q
        · have q : y ≠ s := fun q => nb (by rw [← q]; exact y2)
          exact Or.inr ⟨y, g, by omega, y2, y3⟩) hK (fun a ha => (fK a ha).trans (hf a ha))
    refine qs_use (zs := [z, (d : Int), (a : Int), b, (s : Int)]) lm4_c hL hm (qs_iw wz (qs_in (show 0 ≤ (d : Int) ∧ (d : Int) ≤ 29 by omega) (qs_in (show 0 ≤ (a : Int) ∧ (a : Int) ≤ 63 by omega) (qs_iw wb (qs_in (show 0 ≤ (s : Int) ∧ (s : Int) ≤ 63 by omega) (qs_fin rfl)))))) (Nat.le_refl _) rfl rfl (qs_c (fun u1 u2 K hK hc hM => ?_) (qs_c (fun u1 u2 K hK hc hM => ?_) (qs_c (fun u1 u2 K hK hc hM => ?_) qs_z)))
    · obtain ⟨c1, c2, c3, -⟩ := hc
      have c1 : -9223372036854775808 ≤ u2 ∧ u2 ≤ 0 := c1
      have c2 : u1 = sx_mf 41 b (s : Int) := c2
      have c3 : u2 = sx_mf 35 u1 1 := c3
      rw [c2, lsb_at (show s < 64 by omega)] at c3
      exact no K (fun q => by rw [if_pos q] at c3; omega) hK hM
    · obtain ⟨c1, c2, c3, -⟩ := hc
      have c1 : 1 ≤ u2 ∧ u2 ≤ 1 := c1
      have c2 : u1 = sx_mf 41 b (s : Int) := c2
      have c3 : u2 = sx_mf 35 u1 1 := c3
      rw [c2, lsb_at (show s < 64 by omega)] at c3
      have yb : lsb b s = true := Decidable.byContradiction fun q => by
        rw [if_neg q] at c3
        omega
      have fK : ∀ a, a < 128 → K a = M' a := hM
      show rz_fin _ L xs 102 22 56 [(0, .ref 8), (1, .long (Int64.ofInt z)), (3, .int (Int32.ofInt (d : Int))), (4, .int (Int32.ofInt (a : Int))), (5, .long (Int64.ofInt b)), (7, .int (Int32.ofInt (s : Int)))] [.int (Int32.ofInt (a : Int)), .int (Int32.ofInt (s : Int)), .long (Int64.ofInt z)] K
      refine qs_sc (k := 103) (d := 21) (d' := 21) (as := [.int (Int32.ofInt (s : Int)), .int (Int32.ofInt (a : Int))]) (rest := [.long (Int64.ofInt z)]) rfl rfl rfl rfl rfl rfl rfl (Nat.le_refl _) rfl (rz_d (by decide) (lv_x (xs := xs) (y := s) (a := a) hL hK (by omega) ha)) (fun r9 K2 hr => ?_)
      obtain ⟨⟨w, rfl, ww, hw⟩, hK2, f2⟩ := hr
      refine qs_use (zs := [z, (d : Int), (a : Int), b, (s : Int), w]) lm5_c hL hK2 (qs_iw wz (qs_in (show 0 ≤ (d : Int) ∧ (d : Int) ≤ 29 by omega) (qs_in (show 0 ≤ (a : Int) ∧ (a : Int) ≤ 63 by omega) (qs_iw wb (qs_in (show 0 ≤ (s : Int) ∧ (s : Int) ≤ 63 by omega) (qs_iw ww (qs_fin rfl))))))) (Nat.le_refl _) rfl rfl (qs_c (fun u1 K3 hK3 hc hM => ?_) qs_z)
      have c4 : u1 = sx_mf 36 z w := hc.1
      refine ih (s + 1) u1 K3 (by omega) (by rw [c4]; exact lk_w36) (fun x hx => ?_) hK3 (fun a ha => ((show ∀ a, a < 128 → K3 a = K2 a from hM) a ha).trans ((f2 a ha).trans ((fK a ha).trans (hf a ha))))
      rw [c4, lsb_or, Bool.or_eq_true, hz x hx, hw x hx]
      constructor
      · rintro ((q | ⟨y, g, y1, y2⟩) | ⟨g, g1, g2, g3⟩)
        · exact Or.inl q
        · exact Or.inr ⟨y, g, by omega, y2⟩
        · exact Or.inr ⟨s, g, by omega, yb, g1, g2, g3⟩
      · rintro (q | ⟨y, g, y1, y2, y3, y4, y5⟩)
        · exact Or.inl (Or.inl q)
        · by_cases q : y = s
          · rw [q] at y5
            exact Or.inr ⟨g, y3, y4, y5⟩
          · exact Or.inl (Or.inr ⟨y, g, by omega, y2, y3, y4, y5⟩)
    · obtain ⟨c1, c2, c3, -⟩ := hc
      have c1 : 2 ≤ u2 ∧ u2 ≤ 9223372036854775807 := c1
      have c2 : u1 = sx_mf 41 b (s : Int) := c2
      have c3 : u2 = sx_mf 35 u1 1 := c3
      rw [c2, lsb_at (show s < 64 by omega)] at c3
      exact no K (fun q => by rw [if_pos q] at c3; omega) hK hM
theorem pcn_6T : ((List.range 64).all fun x => Nat.ble (pcn x 10) 6) = true := by decide +kernel
theorem pcn_6 {x : Nat} (hx : x < 64) : pcn x 10 ≤ 6 := Nat.le_of_ble_eq_true (List.all_eq_true.mp pcn_6T x (List.mem_range.mpr hx))
theorem lm_most (hL : L < 2 ^ 31) {z : Int} (wz : sx_w sx_r64 z) : ∀ (k s m : Nat) (M' : Nat → Nat → Int), s + k = 64 → m ≤ 6 → (∀ x, x < s → lsb z x = true → pcn x 10 ≤ m) → (m = 0 ∨ ∃ x, x < s ∧ lsb z x = true ∧ pcn x 10 = m) → sx_mok cl_ly M' → (∀ a, a < 128 → M' a = M a) → rz_fin (fun r N => (∃ m : Nat, r = some (.int (Int32.ofInt (m : Int))) ∧ (∀ x, x < 64 → lsb z x = true → pcn x 10 ≤ m) ∧ (m = 0 ∨ ∃ x, x < 64 ∧ lsb z x = true ∧ pcn x 10 = m)) ∧ sx_mok cl_ly N ∧ ∀ a, a < 128 → N a = M a) L xs 102 22 78 [(0, .ref 8), (1, .long (Int64.ofInt z)), (3, .int (Int32.ofInt (m : Int))), (4, .int (Int32.ofInt (s : Int)))] [] M' := by
  intro k
  induction k with
  | zero =>
    intro s m M' hk h6 hu hx hm hf
    have e : s = 64 := by omega
    subst e
    refine qs_use (zs := [z, (m : Int)]) lmz_c hL hm (qs_iw wz (qs_in (show 0 ≤ (m : Int) ∧ (m : Int) ≤ 6 by omega) (qs_fin rfl))) (Nat.le_refl _) rfl rfl (qs_c (fun K hK hc hM => ?_) qs_z)
    exact ⟨⟨m, rfl, hu, hx⟩, hK, fun a ha => ((show ∀ a, a < 128 → K a = M' a from hM) a ha).trans (hf a ha)⟩
  | succ k ih =>
    intro s m M' hk h6 hu hx hm hf
    have no : ∀ K, lsb z s ≠ true → sx_mok cl_ly K → (∀ a, a < 128 → K a = M' a) → rz_fin (fun r N => (∃ m : Nat, r = some (.int (Int32.ofInt (m : Int))) ∧ (∀ x, x < 64 → lsb z x = true → pcn x 10 ≤ m) ∧ (m = 0 ∨ ∃ x, x < 64 ∧ lsb z x = true ∧ pcn x 10 = m)) ∧ sx_mok cl_ly N ∧ ∀ a, a < 128 → N a = M a) L xs 102 22 78 [(0, .ref 8), (1, .long (Int64.ofInt z)), (3, .int (Int32.ofInt (m : Int))), (4, .int (Int32.ofInt ((s + 1 : Nat) : Int)))] [] K := fun K nb hK fK => ih (s + 1) m K (by omega) h6 (fun x x1 x2 => by
      have q : x ≠ s := fun q => nb (by rw [← q]; exact x2)
      exact hu x (by omega) x2) (hx.elim Or.inl (fun ⟨x, x1, x2⟩ => Or.inr ⟨x, by omega, x2⟩)) hK (fun a ha => (fK a ha).trans (hf a ha))
    refine qs_use (zs := [z, (m : Int), (s : Int)]) lm8_c hL hm (qs_iw wz (qs_in (show 0 ≤ (m : Int) ∧ (m : Int) ≤ 6 by omega) (qs_in (show 0 ≤ (s : Int) ∧ (s : Int) ≤ 63 by omega) (qs_fin rfl)))) (Nat.le_refl _) rfl rfl (qs_c (fun u1 u2 K hK hc hM => ?_) (qs_c (fun u1 u2 K hK hc hM => ?_) (qs_c (fun u1 u2 K hK hc hM => ?_) qs_z)))
    · obtain ⟨c1, c2, c3, -⟩ := hc
      have c1 : -9223372036854775808 ≤ u2 ∧ u2 ≤ 0 := c1
      have c2 : u1 = sx_mf 41 z (s : Int) := c2
      have c3 : u2 = sx_mf 35 u1 1 := c3
      rw [c2, lsb_at (show s < 64 by omega)] at c3
      exact no K (fun q => by rw [if_pos q] at c3; omega) hK hM
    · obtain ⟨c1, c2, c3, -⟩ := hc
      have c1 : 1 ≤ u2 ∧ u2 ≤ 1 := c1
      have c2 : u1 = sx_mf 41 z (s : Int) := c2
      have c3 : u2 = sx_mf 35 u1 1 := c3
      rw [c2, lsb_at (show s < 64 by omega)] at c3
      have yb : lsb z s = true := Decidable.byContradiction fun q => by
        rw [if_neg q] at c3
        omega
      have fK : ∀ a, a < 128 → K a = M' a := hM
      have p6 := pcn_6 (show s < 64 by omega)
      obtain ⟨p, ep⟩ : ∃ p, pcn s 10 = p := ⟨_, rfl⟩
      have bc := bc_x (xs := xs) (n := s) hL hK (by omega)
      rw [ep] at bc p6
      show rz_fin _ L xs 102 22 99 [(0, .ref 8), (1, .long (Int64.ofInt z)), (3, .int (Int32.ofInt (m : Int))), (4, .int (Int32.ofInt (s : Int)))] [.int (Int32.ofInt (s : Int)), .int (Int32.ofInt (m : Int))] K
      refine qs_sc (k := 93) (d := 21) (d' := 21) (as := [.int (Int32.ofInt (s : Int))]) (rest := [.int (Int32.ofInt (m : Int))]) rfl rfl rfl rfl rfl rfl rfl (Nat.le_refl _) rfl (rz_d (by decide) bc) (fun r9 K2 hr => ?_)
      obtain ⟨rfl, hK2, f2⟩ := hr
      refine qs_use (zs := [z, (s : Int), (m : Int), (p : Int)]) lm9_c hL hK2 (qs_iw wz (qs_in (show 0 ≤ (s : Int) ∧ (s : Int) ≤ 63 by omega) (qs_in (show 0 ≤ (m : Int) ∧ (m : Int) ≤ 6 by omega) (qs_in (show 0 ≤ (p : Int) ∧ (p : Int) ≤ 6 by omega) (qs_fin rfl))))) (Nat.le_refl _) rfl rfl (qs_c (fun K3 hK3 hc hM => ?_) (qs_c (fun K3 hK3 hc hM => ?_) qs_z))
      · have c5 : (m : Int) < (p : Int) := hc.2.2.1
        exact ih (s + 1) p K3 (by omega) p6 (fun x x1 x2 => by
          by_cases q : x = s
          · rw [q, ep]
            exact Nat.le_refl p
          · have := hu x (by omega) x2
            omega) (Or.inr ⟨s, by omega, yb, ep⟩) hK3 (fun a ha => ((show ∀ a, a < 128 → K3 a = K2 a from hM) a ha).trans ((f2 a ha).trans ((fK a ha).trans (hf a ha))))
      · have c5 : ¬ (m : Int) < (p : Int) := hc.1
        exact ih (s + 1) m K3 (by omega) h6 (fun x x1 x2 => by
          by_cases q : x = s
          · rw [q, ep]
            omega
          · exact hu x (by omega) x2) (hx.elim Or.inl (fun ⟨x, x1, x2⟩ => Or.inr ⟨x, by omega, x2⟩)) hK3 (fun a ha => ((show ∀ a, a < 128 → K3 a = K2 a from hM) a ha).trans ((f2 a ha).trans ((fK a ha).trans (hf a ha))))
    · obtain ⟨c1, c2, c3, -⟩ := hc
      have c1 : 2 ≤ u2 ∧ u2 ≤ 9223372036854775807 := c1
      have c2 : u1 = sx_mf 41 z (s : Int) := c2
      have c3 : u2 = sx_mf 35 u1 1 := c3
      rw [c2, lsb_at (show s < 64 by omega)] at c3
      exact no K (fun q => by rw [if_pos q] at c3; omega) hK hM
theorem lsD_r {t h d : Nat} (q : lsD M nc t h d = true) : t ≤ d ∧ d < 30 := by
  unfold lsD at q
  rw [Bool.and_eq_true] at q
  exact of_decide_eq_true q.1
theorem lm_loop (hL : L < 2 ^ 31) (hm0 : sx_mok cl_ly M) (hn : M 9 5 = (nc : Int)) (h12 : nc ≤ 12) {t : Nat} (h29 : t ≤ 29) : ∀ (k j : Nat) (z : Int) (M' : Nat → Nat → Int), t + j + k = 30 → sx_w sx_r64 z → (∀ x, x < 64 → (lsb z x = true ↔ mdp (lsD M nc t) t j x)) → sx_mok cl_ly M' → (∀ a, a < 128 → M' a = M a) → rz_fin (fun r N => r = some (.int (Int32.ofInt ((mgr (lsD M nc t) 6 0 (fun _ => false) : Nat) : Int))) ∧ sx_mok cl_ly N ∧ ∀ a, a < 128 → N a = M a) L xs 102 22 10 [(0, .ref 8), (1, .long (Int64.ofInt z)), (3, .int (Int32.ofInt ((t + j : Nat) : Int)))] [] M' := by
  intro k
  induction k with
  | zero =>
    intro j z M' hk wz hz hm hf
    have e : j = 30 - t := by omega
    have e30 : t + (30 - t) = 30 := by omega
    subst e
    rw [e30]
    refine qs_use (zs := [z]) lm7_c hL hm (qs_iw wz (qs_fin rfl)) (Nat.le_refl _) rfl rfl (qs_c (fun K hK hc hM => ?_) qs_z)
    have fK : ∀ a, a < 128 → K a = M a := fun a ha => ((show ∀ a, a < 128 → K a = M' a from hM) a ha).trans (hf a ha)
    obtain ⟨x1, x2, x3, x4, x5⟩ := mdp_max (t := t) (D := lsD M nc t) (by omega) (fun h d q => lsD_r q)
    refine qs_w (lm_most (xs := xs) (M := M) hL wz 64 0 0 K (by omega) (by omega) (fun x h0 _ => by omega) (Or.inl rfl) hK fK) (fun r N q => ?_)
    obtain ⟨⟨m, m1, m2, m3⟩, q2, q3⟩ := q
    refine ⟨?_, q2, q3⟩
    have le := m2 x2 x4 ((hz x2 x4).mpr x3)
    rw [← (bcn_p x4).2, x5] at le
    have ge : m ≤ mgr (lsD M nc t) 6 0 (fun _ => false) := by
      rcases m3 with m3 | ⟨x, y1, y2, y3⟩
      · omega
      · rw [← y3, ← (bcn_p y1).2]
        exact x1 x ((hz x y1).mp y2)
    rw [m1, Nat.le_antisymm ge le]
  | succ k ih =>
    intro j z M' hk wz hz hm hf
    refine qs_use (zs := [z, ((t + j : Nat) : Int)]) lm2_c hL hm (qs_iw wz (qs_in (show 0 ≤ ((t + j : Nat) : Int) ∧ ((t + j : Nat) : Int) ≤ 29 by omega) (qs_fin rfl))) (Nat.le_refl _) rfl rfl (qs_c (fun K hK hc hM => ?_) qs_z)
    have fK : ∀ a, a < 128 → K a = M a := fun a ha => ((show ∀ a, a < 128 → K a = M' a from hM) a ha).trans (hf a ha)
    have la := la_x (xs := xs) (nc := nc) (d := t + j) hL hK (by rw [fK 9 (by decide)]; exact hn) h12 (by omega)
    have eA : lsA K nc (t + j) = lsA M nc (t + j) := by
      unfold lsA lsP
      rw [fK 9 (by decide), fK 10 (by decide), fK 11 (by decide)]
    rw [eA] at la
    show rz_fin _ L xs 102 22 21 [(0, .ref 8), (1, .long (Int64.ofInt z)), (3, .int (Int32.ofInt ((t + j : Nat) : Int)))] [.int (Int32.ofInt ((t + j : Nat) : Int)), .ref 9] K
    refine qs_vc (k := 101) (b := 9) (d := 21) (d' := 21) (rest := []) rfl rfl rfl rfl rfl rfl rfl rfl (Nat.le_refl _) rfl la (fun r9 K2 hr => ?_)
    obtain ⟨rfl, hK2, f2⟩ := hr
    have b64 := lsA_lt (nc := nc) hm0 h12 (d := t + j)
    obtain ⟨a, ea⟩ : ∃ a, lsA M nc (t + j) = a := ⟨_, rfl⟩
    rw [ea] at b64 ⊢
    refine qs_use (zs := [z, ((t + j : Nat) : Int), (a : Int)]) lm3_c hL hK2 (qs_iw wz (qs_in (show 0 ≤ ((t + j : Nat) : Int) ∧ ((t + j : Nat) : Int) ≤ 29 by omega) (qs_in (show 0 ≤ (a : Int) ∧ (a : Int) ≤ 63 by omega) (qs_fin rfl)))) (Nat.le_refl _) rfl rfl (qs_c (fun K3 hK3 hc hM => ?_) qs_z)
    refine lm_in (xs := xs) (M := M) (a := a) (d := t + j) (b := z) hL b64 (by omega) wz (fun z' K4 wz' hz' hK4 f4 => ?_) 64 0 z K3 (by omega) wz (fun x hx => ⟨Or.inl, fun q => q.elim id (fun ⟨y, g, y1, _⟩ => by omega)⟩) hK3 (fun a ha => ((show ∀ a, a < 128 → K3 a = K2 a from hM) a ha).trans ((f2 a ha).trans (fK a ha)))
    refine ih (j + 1) z' K4 (by omega) wz' (fun x hx => ?_) hK4 f4
    rw [hz' x hx, hz x hx]
    have eD : ∀ g, (lsD M nc t g (t + j) = true ↔ a.testBit g = true) := fun g => by
      unfold lsD
      rw [ea, decide_eq_true (show t ≤ t + j ∧ t + j < 30 by omega), Bool.true_and]
    constructor
    · rintro (q | ⟨y, g, y1, y2, y3, y4, y5⟩)
      · exact Or.inl q
      · exact Or.inr ⟨y, g, y3, (hz y y1).mp y2, (eD g).mpr y4, y5⟩
    · rintro (q | ⟨y, g, y1, y2, y3, y4⟩)
      · exact Or.inl q
      · have y64 := (mdp_mat j y y2).1
        exact Or.inr ⟨y, g, y64, (hz y y64).mpr y2, y1, (eD g).mp y3, y4⟩
/-- lists: the class -/
def lsV (M : Nat → Nat → Int) (nc s t : Nat) (c : Int) : Int := if c = 0 then ((dsn (lsC M nc s) 30 : Nat) : Int) else if c = 1 then sx_mf 3 (s : Int) (sx_mf 5 ((lwA (lsA M nc) t (30 - t) : Nat) : Int) (-1)) else if c = 2 then ((mgr (lsD M nc t) 6 0 (fun _ => false) : Nat) : Int) else -1
theorem lx_x {c : Int} (hL : L < 2 ^ 31) (hm : sx_mok cl_ly M) (hn : M 9 5 = (nc : Int)) (h12 : nc ≤ 12) {s t : Nat} (hs : M 9 6 = (s : Int)) (s64 : s < 64) (ht : M 10 210 = (t : Int)) (h29 : t ≤ 29) (wc : sx_w sx_r32 c) : rz_fin (fun r N => r = some (.int (Int32.ofInt (lsV M nc s t c))) ∧ sx_mok cl_ly N ∧ ∀ a, a < 128 → N a = M a) L xs 98 23 0 [(0, .ref 8), (1, .int (Int32.ofInt c))] [] M := by
  refine qs_use (zs := [c]) lx1_c hL hm (qs_iw wc (qs_fin rfl)) (Nat.le_refl _) rfl rfl (qs_c (fun K hK hc hM => ?_) (qs_c (fun K hK hc hM => ?_) (qs_c (fun K hK hc hM => ?_) (qs_c (fun K hK hc hM => ?_) qs_z))))
  · have c1 : 0 ≤ c ∧ c ≤ 0 := hc.1
    have fK : ∀ a, a < 128 → K a = M a := hM
    have e : lsV M nc s t c = ((dsn (lsC M nc s) 30 : Nat) : Int) := if_pos (by omega)
    have lt : dsn (lsC M nc s) 30 < 2 ^ 30 := dsn_lt 30
    rw [e]
    show rz_fin _ L xs 98 23 5 [(0, .ref 8), (1, .int (Int32.ofInt c))] [.ref 8] K
    have g : rz_fin (fun r N => r = some (.int (Int32.ofInt ((dsn (lsC M nc s) 30 : Nat) : Int))) ∧ sx_mok cl_ly N ∧ ∀ a, a < 128 → N a = M a) L xs 99 22 0 [(0, .ref 8)] [] K := by
      refine qs_use (zs := []) lc1_c hL hK (qs_fin rfl) (Nat.le_refl _) rfl rfl (qs_c (fun K2 hK2 hc hM => ?_) qs_z)
      exact lc_loop (xs := xs) (nc := nc) hL hm hn h12 hs s64 30 0 K2 (by omega) hK2 (fun a ha => ((show ∀ a, a < 128 → K2 a = K a from hM) a ha).trans (fK a ha))
    refine qs_vc (k := 99) (b := 8) (d := 22) (d' := 22) (rest := []) rfl rfl rfl rfl rfl rfl rfl rfl (Nat.le_refl _) rfl g (fun r9 K3 hr => ?_)
    obtain ⟨rfl, hK3, f3⟩ := hr
    generalize dsn (lsC M nc s) 30 = n at lt ⊢
    have wn : sx_w sx_r32 (n : Int) := og_w32 (by omega) (by omega)
    refine qs_nl (by show ([0, 1] : List Nat).Nodup; decide) (qs_use (zs := [(n : Int)]) lx5_c hL hK3 (qs_iw wn (qs_fin rfl)) (Nat.le_refl _) rfl rfl (qs_c (fun K4 hK4 hc hM => ?_) qs_z))
    exact ⟨rfl, hK4, fun a ha => ((show ∀ a, a < 128 → K4 a = K3 a from hM) a ha).trans (f3 a ha)⟩
  · have c1 : 1 ≤ c ∧ c ≤ 1 := hc.1
    have fK : ∀ a, a < 128 → K a = M a := hM
    have e : lsV M nc s t c = sx_mf 3 (s : Int) (sx_mf 5 ((lwA (lsA M nc) t (30 - t) : Nat) : Int) (-1)) := (if_neg (by omega)).trans (if_pos (by omega))
    have lt := lwA_lt (f := lsA M nc) (t := t) (fun d => lsA_lt hm h12) (30 - t)
    obtain ⟨n, n1, n2, -⟩ := lk_andn (a := s) (b := lwA (lsA M nc) t (30 - t)) (by omega) (by omega)
    rw [e]
    show rz_fin _ L xs 98 23 15 [(0, .ref 8), (1, .int (Int32.ofInt c))] [.ref 8] K
    have g : rz_fin (fun r N => r = some (.int (Int32.ofInt (sx_mf 3 (s : Int) (sx_mf 5 ((lwA (lsA M nc) t (30 - t) : Nat) : Int) (-1))))) ∧ sx_mok cl_ly N ∧ ∀ a, a < 128 → N a = M a) L xs 100 22 0 [(0, .ref 8)] [] K := by
      refine qs_use (zs := [(t : Int)]) lw1_c hL hK (qs_rd (show (0 : Int) ≤ 210 by decide) (by rw [fK 10 (by decide)]; exact ht) (show 0 ≤ (t : Int) ∧ (t : Int) ≤ 29 by omega) (qs_fin rfl)) (Nat.le_refl _) rfl rfl (qs_c (fun K2 hK2 hc hM => ?_) qs_z)
      exact lw_loop (xs := xs) (nc := nc) (t := t) hL hm hn h12 hs s64 (30 - t) 0 K2 (by omega) hK2 (fun a ha => ((show ∀ a, a < 128 → K2 a = K a from hM) a ha).trans (fK a ha))
    refine qs_vc (k := 100) (b := 8) (d := 22) (d' := 22) (rest := []) rfl rfl rfl rfl rfl rfl rfl rfl (Nat.le_refl _) rfl g (fun r9 K3 hr => ?_)
    obtain ⟨rfl, hK3, f3⟩ := hr
    rw [n1]
    have wn : sx_w sx_r32 (n : Int) := og_w32 (by omega) (by omega)
    refine qs_nl (by show ([0, 1] : List Nat).Nodup; decide) (qs_use (zs := [(n : Int)]) lx15_c hL hK3 (qs_iw wn (qs_fin rfl)) (Nat.le_refl _) rfl rfl (qs_c (fun K4 hK4 hc hM => ?_) qs_z))
    exact ⟨rfl, hK4, fun a ha => ((show ∀ a, a < 128 → K4 a = K3 a from hM) a ha).trans (f3 a ha)⟩
  · have c1 : 2 ≤ c ∧ c ≤ 2 := hc.1
    have fK : ∀ a, a < 128 → K a = M a := hM
    have e : lsV M nc s t c = ((mgr (lsD M nc t) 6 0 (fun _ => false) : Nat) : Int) := (if_neg (by omega)).trans ((if_neg (by omega)).trans (if_pos (by omega)))
    have lt : mgr (lsD M nc t) 6 0 (fun _ => false) ≤ 6 := by
      obtain ⟨A, f, -, es⟩ := mgr_at (D := lsD M nc t) 6 0 (fun _ => false)
      rw [← es]
      exact msz_le 6 0
    rw [e]
    show rz_fin _ L xs 98 23 25 [(0, .ref 8), (1, .int (Int32.ofInt c))] [.ref 8] K
    have g : rz_fin (fun r N => r = some (.int (Int32.ofInt ((mgr (lsD M nc t) 6 0 (fun _ => false) : Nat) : Int))) ∧ sx_mok cl_ly N ∧ ∀ a, a < 128 → N a = M a) L xs 102 22 0 [(0, .ref 8)] [] K := by
      refine qs_use (zs := [(t : Int)]) lm1_c hL hK (qs_rd (show (0 : Int) ≤ 210 by decide) (by rw [fK 10 (by decide)]; exact ht) (show 0 ≤ (t : Int) ∧ (t : Int) ≤ 29 by omega) (qs_fin rfl)) (Nat.le_refl _) rfl rfl (qs_c (fun K2 hK2 hc hM => ?_) qs_z)
      exact lm_loop (xs := xs) (nc := nc) (t := t) hL hm hn h12 h29 (30 - t) 0 1 K2 (by omega) (og_w64 (by decide) (by decide)) (fun x hx => by
        rw [lsb_10 hx, decide_eq_true_iff]
        exact Iff.rfl) hK2 (fun a ha => ((show ∀ a, a < 128 → K2 a = K a from hM) a ha).trans (fK a ha))
    refine qs_vc (k := 102) (b := 8) (d := 22) (d' := 22) (rest := []) rfl rfl rfl rfl rfl rfl rfl rfl (Nat.le_refl _) rfl g (fun r9 K3 hr => ?_)
    obtain ⟨rfl, hK3, f3⟩ := hr
    generalize mgr (lsD M nc t) 6 0 (fun _ => false) = n at lt ⊢
    have wn : sx_w sx_r32 (n : Int) := og_w32 (by omega) (by omega)
    refine qs_nl (by show ([0, 1] : List Nat).Nodup; decide) (qs_use (zs := [(n : Int)]) lx25_c hL hK3 (qs_iw wn (qs_fin rfl)) (Nat.le_refl _) rfl rfl (qs_c (fun K4 hK4 hc hM => ?_) qs_z))
    exact ⟨rfl, hK4, fun a ha => ((show ∀ a, a < 128 → K4 a = K3 a from hM) a ha).trans (f3 a ha)⟩
  · obtain ⟨c1, c2, c3, -⟩ := hc
    have c1 : c ≠ 0 := c1
    have c2 : c ≠ 1 := c2
    have c3 : c ≠ 2 := c3
    have e : lsV M nc s t c = -1 := (if_neg c1).trans ((if_neg c2).trans (if_neg c3))
    rw [e]
    exact ⟨rfl, hK, hM⟩
end
