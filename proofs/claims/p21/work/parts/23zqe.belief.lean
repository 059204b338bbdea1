/-! belief: the reference; the pair. -/
section
variable {L : Nat} {xs : Nat → Int32} {M M' N N' : Nat → Nat → Int} {c : Nat} {p x : Int} {Q : Option Value → (Nat → Nat → Int) → Prop}
def bf0_i : List qs_I := [(0, 0, (0, 0), (-2147483648, -1)), (0, 0, (0, 0), sx_r32), (0, 0, (0, 0), sx_r32), (0, 0, (0, 0), sx_r32)]
def bf0_T : List og_T := [(none, some (1, 0, -9223372036854775808), [], [], [], [])]
theorem bf0_c : qs_chk (fun pc => Nat.beq pc 58) bf0_i 0 bf0_T 400 400 24 226 0 [(0, 2, 0, 53), (1, 0, 9, 0), (2, 0, 10, 0), (3, 0, 11, 0), (4, 0, 12, 0)] [] = true := by decide +kernel
def bf9_i : List qs_I := [(0, 0, (0, 0), (6, 2147483647)), (0, 0, (0, 0), sx_r32), (0, 0, (0, 0), sx_r32), (0, 0, (0, 0), sx_r32)]
def bf9_T : List og_T := [(none, some (1, 0, -9223372036854775808), [], [], [], [])]
theorem bf9_c : qs_chk (fun pc => Nat.beq pc 58) bf9_i 0 bf9_T 400 400 24 226 0 [(0, 2, 0, 53), (1, 0, 9, 0), (2, 0, 10, 0), (3, 0, 11, 0), (4, 0, 12, 0)] [] = true := by decide +kernel
def bf1_i (c : Nat) : List qs_I := [(0, 0, (0, 0), sx_r32), (0, 0, (0, 0), sx_r32), (0, 0, (0, 0), sx_r32), (1, 53, (0, 1), (0, 6)), (1, 87, (0, (c : Int)), (-6, 49))]
def bf1_T (c : Nat) : List og_T := [(none, some (1, 0, -9223372036854775808), [], [], [], [(0, (9, 0), (0, 0), -2147483648, -1)]), (none, some (1, 0, -9223372036854775808), [], [], [], [(0, (9, 0), (0, 0), 0, 2147483647), (1, (12, 0), (9, 0), 1, 0)]), (none, some (1, 0, -9223372036854775808), [], [], [], [(0, (9, 0), (0, 0), 0, 5), (0, (10, 0), (0, 0), -2147483648, -1), (0, (12, 0), (0, 0), 1, 6), (2, (12, 0), (9, 0), 1, 0)]), (none, some (1, 0, -9223372036854775808), [], [], [], [(0, (9, 0), (0, 0), 0, 5), (0, (10, 0), (0, 0), 0, 12), (0, (11, 0), (0, 0), -2147483648, -1), (0, (12, 0), (0, 0), 1, 6), (2, (12, 0), (9, 0), 1, 0)]), (none, some (1, 0, -9223372036854775808), [], [], [], [(0, (9, 0), (0, 0), 0, 5), (0, (10, 0), (0, 0), 0, 12), (0, (11, 0), (0, 0), 0, 1), (0, (12, 0), (0, 0), 1, 6), (0, (13, 0), (0, 0), -1, -1), (2, (12, 0), (9, 0), 1, 0)]), (none, some (1, 0, -9223372036854775808), [], [], [], [(0, (9, 0), (0, 0), 0, 5), (0, (10, 0), (0, 0), 0, 12), (0, (11, 0), (0, 0), 0, 1), (0, (12, 0), (0, 0), 1, 6), (7, (13, 0), (0, 0), -2, 0), (7, (13, 0), (0, 0), -1, 0), (2, (12, 0), (9, 0), 1, 0)]), (some 58, none, [], [(0, 2, 0, 53), (1, 0, 0, (c : Int)), (2, 0, 9, 0), (3, 0, 10, 0), (4, 0, 11, 0), (5, 1, 0, 1), (7, 1, 0, 12), (9, 0, 0, 0)], [], [(0, (9, 0), (0, 0), 0, 5), (0, (10, 0), (0, 0), 0, 12), (0, (11, 0), (0, 0), 0, 1), (0, (12, 0), (0, 0), 1, 6), (0, (13, 0), (0, 0), -2, -2), (7, (13, 0), (0, 0), -1, 0), (2, (12, 0), (9, 0), 1, 0)]), (none, some (1, 0, -9223372036854775808), [], [], [], [(0, (9, 0), (0, 0), 0, 5), (0, (10, 0), (0, 0), 0, 12), (0, (11, 0), (0, 0), 2, 2147483647), (0, (12, 0), (0, 0), 1, 6), (2, (12, 0), (9, 0), 1, 0)]), (none, some (1, 0, -9223372036854775808), [], [], [], [(0, (9, 0), (0, 0), 0, 5), (0, (10, 0), (0, 0), 13, 2147483647), (0, (12, 0), (0, 0), 1, 6), (2, (12, 0), (9, 0), 1, 0)])]
theorem bf1_c : ((List.range 6).all fun c => qs_chk (fun pc => Nat.beq pc 58) (bf1_i c) 0 (bf1_T c) 400 400 24 226 0 [(0, 2, 0, 53), (1, 0, 0, (c : Int)), (2, 0, 9, 0), (3, 0, 10, 0), (4, 0, 11, 0)] []) = true := by decide +kernel
def bf30_i (c : Nat) : List qs_I := [(0, 0, (0, 0), (0, 5)), (0, 0, (0, 0), (0, 12)), (0, 0, (0, 0), (0, 1)), (0, 0, (0, 0), sx_r64), (0, 0, (0, 0), sx_r64), (0, 0, (0, 0), (0, 11)), (1, 88, (0, (c : Int)), (0, 60)), (2, 15, (14, 0), (0, 0)), (1, 53, (0, 13), (0, 29)), (1, 89, (14, 60 * (c : Int)), (0, 0)), (1, 55, (9, 0), (-1, 143))]
def bf30_T (c : Nat) : List og_T := [(some 205, none, [], [(0, 2, 0, 53), (1, 0, 0, (c : Int)), (2, 0, 9, 0), (3, 0, 10, 0), (4, 0, 11, 0), (5, 1, 12, 0), (7, 1, 13, 0), (9, 0, 14, 0)], [], [(0, (19, 0), (0, 0), 30, 40), (5, (16, 0), (14, 0), 0, 19)]), (some 58, none, [], [(0, 2, 0, 53), (1, 0, 0, (c : Int)), (2, 0, 9, 0), (3, 0, 10, 0), (4, 0, 11, 0), (5, 1, 23, 0), (7, 1, 25, 0), (9, 0, 14, 1)], [], [(0, (19, 0), (0, 0), 0, 29), (0, (20, 0), (0, 0), -1, 143), (5, (16, 0), (14, 0), 0, 19), (5, (18, 0), (20, 0), 2, 21), (5, (21, 0), (0, 9), 6, 22), (5, (12, 0), (0, 12), 34, 23), (5, (0, 12), (22, 0), 1, 24), (5, (13, 0), (24, 0), 34, 25), (6, (19, 0), (20, 0), 61, 0)])]
theorem bf30_c : ((List.range 6).all fun c => qs_chk (fun pc => bif Nat.beq pc 58 then true else Nat.beq pc 205) (bf30_i c) 7 (bf30_T c) 400 400 24 226 58 [(0, 2, 0, 53), (1, 0, 0, (c : Int)), (2, 0, 9, 0), (3, 0, 10, 0), (4, 0, 11, 0), (5, 1, 12, 0), (7, 1, 13, 0), (9, 0, 14, 0)] []) = true := by decide +kernel
def bf31_i (c : Nat) : List qs_I := [(0, 0, (0, 0), (0, 5)), (0, 0, (0, 0), (0, 12)), (0, 0, (0, 0), (0, 1)), (0, 0, (0, 0), sx_r64), (0, 0, (0, 0), sx_r64), (0, 0, (0, 0), (0, 11)), (1, 88, (0, (c : Int)), (0, 60)), (2, 15, (14, 0), (0, 0)), (1, 53, (0, 13), (0, 29)), (1, 89, (14, 60 * (c : Int)), (1, 1)), (1, 55, (9, 0), (-1, 143))]
def bf31_T (c : Nat) : List og_T := [(some 205, none, [], [(0, 2, 0, 53), (1, 0, 0, (c : Int)), (2, 0, 9, 0), (3, 0, 10, 0), (4, 0, 11, 0), (5, 1, 12, 0), (7, 1, 13, 0), (9, 0, 14, 0)], [], [(0, (19, 0), (0, 0), 30, 40), (5, (16, 0), (14, 0), 0, 19)]), (some 58, none, [], [(0, 2, 0, 53), (1, 0, 0, (c : Int)), (2, 0, 9, 0), (3, 0, 10, 0), (4, 0, 11, 0), (5, 1, 23, 0), (7, 1, 24, 0), (9, 0, 14, 1)], [], [(0, (19, 0), (0, 0), 0, 29), (0, (20, 0), (0, 0), -1, 143), (5, (16, 0), (14, 0), 0, 19), (5, (18, 0), (20, 0), 2, 21), (5, (21, 0), (0, 9), 6, 22), (5, (12, 0), (0, 0), 34, 23), (5, (13, 0), (22, 0), 34, 24), (6, (19, 0), (20, 0), 61, 0)])]
theorem bf31_c : ((List.range 6).all fun c => qs_chk (fun pc => bif Nat.beq pc 58 then true else Nat.beq pc 205) (bf31_i c) 6 (bf31_T c) 400 400 24 226 58 [(0, 2, 0, 53), (1, 0, 0, (c : Int)), (2, 0, 9, 0), (3, 0, 10, 0), (4, 0, 11, 0), (5, 1, 12, 0), (7, 1, 13, 0), (9, 0, 14, 0)] []) = true := by decide +kernel
def bf32_i (c : Nat) : List qs_I := [(0, 0, (0, 0), (0, 5)), (0, 0, (0, 0), (0, 12)), (0, 0, (0, 0), (0, 1)), (0, 0, (0, 0), sx_r64), (0, 0, (0, 0), sx_r64), (0, 0, (0, 0), (0, 11)), (1, 88, (0, (c : Int)), (0, 60)), (2, 15, (14, 0), (0, 0)), (1, 53, (0, 13), (0, 29)), (1, 89, (14, 60 * (c : Int)), (2, 2)), (1, 55, (9, 0), (-1, 143))]
def bf32_T (c : Nat) : List og_T := [(some 205, none, [], [(0, 2, 0, 53), (1, 0, 0, (c : Int)), (2, 0, 9, 0), (3, 0, 10, 0), (4, 0, 11, 0), (5, 1, 12, 0), (7, 1, 13, 0), (9, 0, 14, 0)], [], [(0, (19, 0), (0, 0), 30, 40), (5, (16, 0), (14, 0), 0, 19)]), (some 58, none, [], [(0, 2, 0, 53), (1, 0, 0, (c : Int)), (2, 0, 9, 0), (3, 0, 10, 0), (4, 0, 11, 0), (5, 1, 24, 0), (7, 1, 26, 0), (9, 0, 14, 1)], [], [(0, (19, 0), (0, 0), 0, 29), (0, (20, 0), (0, 0), -1, 143), (0, (23, 0), (0, 0), 0, 12), (5, (16, 0), (14, 0), 0, 19), (5, (18, 0), (20, 0), 2, 21), (5, (21, 0), (0, 9), 6, 22), (5, (0, 12), (10, 0), 1, 23), (5, (12, 0), (23, 0), 34, 24), (5, (0, 12), (22, 0), 1, 25), (5, (13, 0), (25, 0), 34, 26), (6, (19, 0), (20, 0), 61, 0)])]
theorem bf32_c : ((List.range 6).all fun c => qs_chk (fun pc => bif Nat.beq pc 58 then true else Nat.beq pc 205) (bf32_i c) 8 (bf32_T c) 400 400 24 226 58 [(0, 2, 0, 53), (1, 0, 0, (c : Int)), (2, 0, 9, 0), (3, 0, 10, 0), (4, 0, 11, 0), (5, 1, 12, 0), (7, 1, 13, 0), (9, 0, 14, 0)] []) = true := by decide +kernel
def bf33_i (c : Nat) : List qs_I := [(0, 0, (0, 0), (0, 5)), (0, 0, (0, 0), (0, 12)), (0, 0, (0, 0), (0, 1)), (0, 0, (0, 0), sx_r64), (0, 0, (0, 0), sx_r64), (0, 0, (0, 0), (0, 11)), (1, 88, (0, (c : Int)), (0, 60)), (2, 15, (14, 0), (0, 0)), (1, 53, (0, 13), (0, 29)), (1, 89, (14, 60 * (c : Int)), (3, 3)), (1, 55, (9, 0), (-1, 143))]
def bf33_T (c : Nat) : List og_T := [(some 205, none, [], [(0, 2, 0, 53), (1, 0, 0, (c : Int)), (2, 0, 9, 0), (3, 0, 10, 0), (4, 0, 11, 0), (5, 1, 12, 0), (7, 1, 13, 0), (9, 0, 14, 0)], [], [(0, (19, 0), (0, 0), 30, 40), (5, (16, 0), (14, 0), 0, 19)]), (some 58, none, [], [(0, 2, 0, 53), (1, 0, 0, (c : Int)), (2, 0, 9, 0), (3, 0, 10, 0), (4, 0, 11, 0), (5, 1, 23, 0), (7, 1, 24, 0), (9, 0, 14, 1)], [], [(0, (19, 0), (0, 0), 0, 29), (0, (20, 0), (0, 0), -1, 143), (5, (16, 0), (14, 0), 0, 19), (5, (18, 0), (20, 0), 2, 21), (5, (21, 0), (0, 9), 6, 22), (5, (12, 0), (10, 0), 34, 23), (5, (13, 0), (22, 0), 34, 24), (6, (19, 0), (20, 0), 61, 0)])]
theorem bf33_c : ((List.range 6).all fun c => qs_chk (fun pc => bif Nat.beq pc 58 then true else Nat.beq pc 205) (bf33_i c) 6 (bf33_T c) 400 400 24 226 58 [(0, 2, 0, 53), (1, 0, 0, (c : Int)), (2, 0, 9, 0), (3, 0, 10, 0), (4, 0, 11, 0), (5, 1, 12, 0), (7, 1, 13, 0), (9, 0, 14, 0)] []) = true := by decide +kernel
def bf4_i (c : Nat) : List qs_I := [(0, 0, (0, 0), (0, 5)), (0, 0, (0, 0), (0, 12)), (0, 0, (0, 0), (0, 1)), (0, 0, (0, 0), sx_r64), (0, 0, (0, 0), sx_r64), (0, 0, (0, 0), (0, 11)), (1, 88, (0, (c : Int)), (0, 60)), (2, 15, (14, 0), (0, 0)), (1, 53, (0, 13), (0, 29)), (1, 89, (14, 60 * (c : Int)), (-128, -1))]
def bf4_T (c : Nat) : List og_T := [(some 205, none, [], [(4, 0, 11, 0), (5, 1, 12, 0), (7, 1, 13, 0)], [], [(0, (18, 0), (0, 0), 30, 40), (5, (16, 0), (14, 0), 0, 18)]), (some 205, none, [], [(4, 0, 11, 0), (5, 1, 12, 0), (7, 1, 13, 0)], [], [(0, (18, 0), (0, 0), 0, 29), (5, (16, 0), (14, 0), 0, 18)])]
theorem bf4_c : ((List.range 6).all fun c => qs_chk (fun pc => bif Nat.beq pc 58 then true else Nat.beq pc 205) (bf4_i c) 1 (bf4_T c) 400 400 24 226 58 [(0, 2, 0, 53), (1, 0, 0, (c : Int)), (2, 0, 9, 0), (3, 0, 10, 0), (4, 0, 11, 0), (5, 1, 12, 0), (7, 1, 13, 0), (9, 0, 14, 0)] []) = true := by decide +kernel
def bf5_i (c : Nat) : List qs_I := [(0, 0, (0, 0), (0, 5)), (0, 0, (0, 0), (0, 12)), (0, 0, (0, 0), (0, 1)), (0, 0, (0, 0), sx_r64), (0, 0, (0, 0), sx_r64), (0, 0, (0, 0), (0, 11)), (1, 88, (0, (c : Int)), (0, 60)), (2, 15, (14, 0), (0, 0)), (1, 53, (0, 13), (0, 29)), (1, 89, (14, 60 * (c : Int)), (4, 127))]
def bf5_T (c : Nat) : List og_T := [(some 205, none, [], [(4, 0, 11, 0), (5, 1, 12, 0), (7, 1, 13, 0)], [], [(0, (18, 0), (0, 0), 30, 40), (5, (16, 0), (14, 0), 0, 18)]), (some 205, none, [], [(4, 0, 11, 0), (5, 1, 12, 0), (7, 1, 13, 0)], [], [(0, (18, 0), (0, 0), 0, 29), (5, (16, 0), (14, 0), 0, 18)])]
theorem bf5_c : ((List.range 6).all fun c => qs_chk (fun pc => bif Nat.beq pc 58 then true else Nat.beq pc 205) (bf5_i c) 1 (bf5_T c) 400 400 24 226 58 [(0, 2, 0, 53), (1, 0, 0, (c : Int)), (2, 0, 9, 0), (3, 0, 10, 0), (4, 0, 11, 0), (5, 1, 12, 0), (7, 1, 13, 0), (9, 0, 14, 0)] []) = true := by decide +kernel
def bf6_i (c : Nat) : List qs_I := [(0, 0, (0, 0), (0, 5)), (0, 0, (0, 0), (0, 12)), (0, 0, (0, 0), (0, 1)), (0, 0, (0, 0), sx_r64), (0, 0, (0, 0), sx_r64), (0, 0, (0, 0), (0, 12)), (1, 88, (0, (c : Int)), (0, 60)), (1, 53, (0, 13), (0, 29))]
def bf6_T (c : Nat) : List og_T := [(some 205, none, [], [(4, 0, 11, 0), (5, 1, 12, 0), (7, 1, 13, 0)], [], [(0, (14, 0), (0, 0), 0, 11), (0, (15, 0), (0, 0), 1, 60), (0, (17, 0), (0, 0), 30, 40), (1, (14, 0), (15, 0), 0, 0), (5, (16, 0), (14, 0), 0, 17)]), (some 88, none, [], [(4, 0, 11, 0), (5, 1, 12, 0), (7, 1, 13, 0)], [], [(0, (14, 0), (0, 0), 0, 11), (0, (15, 0), (0, 0), 1, 60), (0, (17, 0), (0, 0), 0, 29), (1, (14, 0), (15, 0), 0, 0), (5, (16, 0), (14, 0), 0, 17)]), (some 205, none, [], [(4, 0, 11, 0), (5, 1, 12, 0), (7, 1, 13, 0)], [], [(0, (14, 0), (0, 0), 0, 11), (0, (15, 0), (0, 0), 0, 11), (2, (14, 0), (15, 0), 0, 0)]), (some 205, none, [], [(4, 0, 11, 0), (5, 1, 12, 0), (7, 1, 13, 0)], [], [(0, (14, 0), (0, 0), 12, 12)])]
theorem bf6_c : ((List.range 6).all fun c => qs_chk (fun pc => bif Nat.beq pc 88 then true else Nat.beq pc 205) (bf6_i c) 1 (bf6_T c) 400 400 24 226 58 [(0, 2, 0, 53), (1, 0, 0, (c : Int)), (2, 0, 9, 0), (3, 0, 10, 0), (4, 0, 11, 0), (5, 1, 12, 0), (7, 1, 13, 0), (9, 0, 14, 0)] []) = true := by decide +kernel
def bf7_i : List qs_I := [(0, 0, (0, 0), (0, 1)), (0, 0, (0, 0), sx_r64), (0, 0, (0, 0), sx_r64)]
def bf7_T : List og_T := [(some 237, none, [(0, 9, 0), (1, 12, 0), (1, 10, 0)], [(4, 0, 9, 0), (5, 1, 10, 0), (7, 1, 11, 0)], [], [(0, (12, 0), (0, 0), -9223372036854775808, -1), (5, (10, 0), (11, 0), 32, 12)]), (none, some (1, 0, -2), [], [], [], [(0, (9, 0), (0, 0), 0, 0), (0, (12, 0), (0, 0), 0, 0), (5, (10, 0), (11, 0), 32, 12)]), (none, some (1, 0, 1), [], [], [], [(0, (12, 0), (0, 0), 0, 0), (7, (9, 0), (0, 0), 0, 0), (5, (10, 0), (11, 0), 32, 12)]), (some 237, none, [(0, 9, 0), (1, 12, 0), (1, 10, 0)], [(4, 0, 9, 0), (5, 1, 10, 0), (7, 1, 11, 0)], [], [(0, (12, 0), (0, 0), 1, 9223372036854775807), (5, (10, 0), (11, 0), 32, 12)])]
theorem bf7_c : qs_chk (fun pc => Nat.beq pc 237) bf7_i 1 bf7_T 400 400 24 226 205 [(4, 0, 9, 0), (5, 1, 10, 0), (7, 1, 11, 0)] [] = true := by decide +kernel
def bf8_i : List qs_I := [(0, 0, (0, 0), sx_r64)]
def bf8_T : List og_T := [(none, some (1, 9, 0), [], [], [], [])]
theorem bf8_c : qs_chk (fun _ => false) bf8_i 0 bf8_T 400 400 24 226 240 [] [(1, 9, 0)] = true := by decide +kernel
theorem bf_end {o a : Int} (hL : L < 2 ^ 31) (hm : sx_mok cl_ly N) (hf : ∀ q, q < 128 → N q = M q) (hp : 0 ≤ p ∧ p ≤ 1) (wo : sx_w sx_r64 o) (wa : sx_w sx_r64 a) : rz_fin (eu_Q M (bl_z p (o, a))) L xs 226 24 205 [(4, .int (Int32.ofInt p)), (5, .long (Int64.ofInt o)), (7, .long (Int64.ofInt a))] [] N := by
  have ws : sx_w sx_r64 (sx_mf 32 o a) := mf_w64 32 ⟨by decide, by decide⟩ _ _
  have go : ∀ K : Nat → Nat → Int, sx_mok cl_ly K → (∀ q, q < 128 → K q = N q) → sx_mf 32 o a ≠ 0 → rz_fin (eu_Q M (bl_z p (o, a))) L xs 226 24 237 [(4, .int (Int32.ofInt p)), (5, .long (Int64.ofInt o)), (7, .long (Int64.ofInt a))] [.int (Int32.ofInt p), .long (Int64.ofInt (sx_mf 32 o a)), .long (Int64.ofInt o)] K := fun K hK fK ne => by
    obtain ⟨g, eg, g0, gw⟩ := eu_any wo ws ne
    have ez : bl_z p (o, a) = eu_v p o (sx_mf 32 o a) g := by
      unfold bl_z
      rw [if_neg ne]
      show eu_v p o (sx_mf 32 o a) ((eu 99 o (sx_mf 32 o a)).getD 1) = _
      rw [eg]
      rfl
    rw [ez]
    refine qs_sc (k := 209) (d := 23) (d' := 23) (as := [.long (Int64.ofInt o), .long (Int64.ofInt (sx_mf 32 o a)), .int (Int32.ofInt p)]) (rest := []) rfl rfl rfl rfl rfl rfl rfl (Nat.le_refl _) rfl (rz_d (by decide) (lq_b (xs := xs) (p := p) hL hK wo ws ne hp g0 eg)) (fun r9 N4 hr => ?_)
    obtain ⟨rfl, hN4, f4⟩ := hr
    refine qs_nl (by show ([4, 5, 7] : List Nat).Nodup; decide) (qs_use (zs := [eu_v p o (sx_mf 32 o a) g]) bf8_c hL hN4 (qs_iw eu_vw (qs_fin rfl)) (Nat.le_refl _) rfl rfl (qs_c (fun N5 hN5 hc hM => ?_) qs_z))
    have f5 : ∀ q, q < 128 → N5 q = N4 q := hM
    exact ⟨rfl, hN5, fun q hq => by rw [f5 q hq, f4 q hq, fK q hq, hf q hq]⟩
  refine qs_use (zs := [p, o, a]) bf7_c hL hm (qs_in hp (qs_iw wo (qs_iw wa (qs_fin rfl)))) (Nat.le_refl _) rfl rfl (qs_c (fun u1 K hK hc hM => ?_) (qs_c (fun u1 K hK hc hM => ?_) (qs_c (fun u1 K hK hc hM => ?_) (qs_c (fun u1 K hK hc hM => ?_) qs_z))))
  · obtain ⟨c1, c2, -⟩ := hc
    have c1 : -9223372036854775808 ≤ u1 ∧ u1 ≤ -1 := c1
    have c2 : u1 = sx_mf 32 o a := c2
    have fK : ∀ a, a < 128 → K a = N a := hM
    subst c2
    exact go K hK fK (by omega)
  · obtain ⟨c1, c2, c3, -⟩ := hc
    have c1 : 0 ≤ p ∧ p ≤ 0 := c1
    have c2 : 0 ≤ u1 ∧ u1 ≤ 0 := c2
    have c3 : u1 = sx_mf 32 o a := c3
    have fK : ∀ a, a < 128 → K a = N a := hM
    have ez : bl_z p (o, a) = -2 := by
      unfold bl_z
      rw [if_pos (show sx_mf 32 o a = 0 by omega), if_pos (show p = 0 by omega)]
    rw [ez]
    exact ⟨rfl, hK, fun q hq => (fK q hq).trans (hf q hq)⟩
  · obtain ⟨c1, c2, c3, -⟩ := hc
    have c1 : 0 ≤ u1 ∧ u1 ≤ 0 := c1
    have c2 : p ≠ 0 := c2
    have c3 : u1 = sx_mf 32 o a := c3
    have fK : ∀ a, a < 128 → K a = N a := hM
    have ez : bl_z p (o, a) = 1 := by
      unfold bl_z
      rw [if_pos (show sx_mf 32 o a = 0 by omega), if_neg c2]
    rw [ez]
    exact ⟨rfl, hK, fun q hq => (fK q hq).trans (hf q hq)⟩
  · obtain ⟨c1, c2, -⟩ := hc
    have c1 : 1 ≤ u1 ∧ u1 ≤ 9223372036854775807 := c1
    have c2 : u1 = sx_mf 32 o a := c2
    have fK : ∀ a, a < 128 → K a = N a := hM
    subst c2
    exact go K hK fK (by omega)
theorem bf_s0 {o a r d : Int} {t h i len : Nat} (hL : L < 2 ^ 31) (hm : sx_mok cl_ly M') (hc6 : c < 6) (hh : h < 6) (hx : 0 ≤ x ∧ x ≤ 12) (hp : 0 ≤ p ∧ p ≤ 1) (hi : i < len) (hi12 : i < 12) (hti : t + i < 30) (h60 : len ≤ 60) (w1 : sx_w sx_r64 o) (w2 : sx_w sx_r64 a) (e88 : M' 88 (c : Int).toNat = (len : Int)) (e13 : M' 53 13 = (t : Int)) (e89 : M' 89 (qs_add (i : Int) (60 * (c : Int))).toNat = 0) (eR : M' 55 h = r) (wR : -1 ≤ r ∧ r ≤ 143) (eD : M' 61 (t + i) = d) (Kf : ∀ (u v : Int) (N' : Nat → Nat → Int), sx_mok cl_ly N' → (∀ q, q < 128 → N' q = M' q) → u = sx_mf 34 o (bw_o x 0) → v = sx_mf 34 a (bw_u (sx_mf 6 (sx_mf 2 r d) 9) 0) → rz_fin Q L xs 226 24 58 [(0, .ref 53), (1, .int (Int32.ofInt (c : Int))), (2, .int (Int32.ofInt (h : Int))), (3, .int (Int32.ofInt x)), (4, .int (Int32.ofInt p)), (5, .long (Int64.ofInt u)), (7, .long (Int64.ofInt v)), (9, .int (Int32.ofInt ((i + 1 : Nat) : Int)))] [] N') : rz_fin Q L xs 226 24 58 [(0, .ref 53), (1, .int (Int32.ofInt (c : Int))), (2, .int (Int32.ofInt (h : Int))), (3, .int (Int32.ofInt x)), (4, .int (Int32.ofInt p)), (5, .long (Int64.ofInt o)), (7, .long (Int64.ofInt a)), (9, .int (Int32.ofInt (i : Int)))] [] M' := by
  refine qs_use (zs := [(h : Int), x, p, o, a, (i : Int), (len : Int), (t : Int), (0 : Int), r]) (List.all_eq_true.mp bf30_c c (List.mem_range.mpr hc6)) hL hm (qs_in (show 0 ≤ (h : Int) ∧ (h : Int) ≤ 5 by omega) (qs_in hx (qs_in hp (qs_iw w1 (qs_iw w2 (qs_in (show 0 ≤ (i : Int) ∧ (i : Int) ≤ 11 by omega) (qs_rd (show 0 ≤ (c : Int) by omega) e88 (show 0 ≤ (len : Int) ∧ (len : Int) ≤ 60 by omega) (qs_lt (show (i : Int) < (len : Int) by omega) (qs_rd (show (0 : Int) ≤ 13 by decide) e13 (show 0 ≤ (t : Int) ∧ (t : Int) ≤ 29 by omega) (qs_rd (by show 0 ≤ qs_add (i : Int) (60 * (c : Int)); rw [qs_add_eq]; omega) e89 (show 0 ≤ (0 : Int) ∧ (0 : Int) ≤ 0 by omega) (qs_rd (show 0 ≤ (h : Int) by omega) eR wR (qs_fin rfl)))))))))))) (Nat.le_refl _) rfl rfl (qs_c (fun u1 u2 u3 u4 u5 u6 u7 K hK hc hM => ?_) (qs_c (fun u1 u2 u3 u4 u5 u6 u7 K hK hc hM => ?_) qs_z))
  · exfalso
    obtain ⟨c1, c2, -⟩ := hc
    have c1 : 30 ≤ u1 ∧ u1 ≤ 40 := c1
    have c2 : u1 = sx_mf 0 (t : Int) (i : Int) := c2
    have fK : ∀ a, a < 128 → K a = M' a := hM
    rw [mf_add (by omega) (by omega)] at c2
    omega
  obtain ⟨c1, c2, c3, c4, c5, c6, c7, c8, c9, -⟩ := hc
  have c1 : 0 ≤ u1 ∧ u1 ≤ 29 := c1
  have c2 : -1 ≤ u2 ∧ u2 ≤ 143 := c2
  have c3 : u1 = sx_mf 0 (t : Int) (i : Int) := c3
  have c4 : u3 = sx_mf 2 r u2 := c4
  have c5 : u4 = sx_mf 6 u3 9 := c5
  have c6 : u5 = sx_mf 34 o 12 := c6
  have c7 : u6 = sx_mf 1 12 u4 := c7
  have c8 : u7 = sx_mf 34 a u6 := c8
  have c9 : K 61 (u1).toNat = u2 := c9
  have fK : ∀ a, a < 128 → K a = M' a := hM
  rw [mf_add (by omega) (by omega)] at c3
  have d1 : u2 = d := by rw [← c9, fK 61 (by decide), c3, show ((t : Int) + (i : Int)).toNat = t + i by omega]; exact eD
  exact Kf u5 u7 K hK fK (by rw [c6, bw_o0]) (by rw [c8, c7, c5, c4, d1, bw_u0])
theorem bf_s1 {o a r d : Int} {t h i len : Nat} (hL : L < 2 ^ 31) (hm : sx_mok cl_ly M') (hc6 : c < 6) (hh : h < 6) (hx : 0 ≤ x ∧ x ≤ 12) (hp : 0 ≤ p ∧ p ≤ 1) (hi : i < len) (hi12 : i < 12) (hti : t + i < 30) (h60 : len ≤ 60) (w1 : sx_w sx_r64 o) (w2 : sx_w sx_r64 a) (e88 : M' 88 (c : Int).toNat = (len : Int)) (e13 : M' 53 13 = (t : Int)) (e89 : M' 89 (qs_add (i : Int) (60 * (c : Int))).toNat = 1) (eR : M' 55 h = r) (wR : -1 ≤ r ∧ r ≤ 143) (eD : M' 61 (t + i) = d) (Kf : ∀ (u v : Int) (N' : Nat → Nat → Int), sx_mok cl_ly N' → (∀ q, q < 128 → N' q = M' q) → u = sx_mf 34 o (bw_o x 1) → v = sx_mf 34 a (bw_u (sx_mf 6 (sx_mf 2 r d) 9) 1) → rz_fin Q L xs 226 24 58 [(0, .ref 53), (1, .int (Int32.ofInt (c : Int))), (2, .int (Int32.ofInt (h : Int))), (3, .int (Int32.ofInt x)), (4, .int (Int32.ofInt p)), (5, .long (Int64.ofInt u)), (7, .long (Int64.ofInt v)), (9, .int (Int32.ofInt ((i + 1 : Nat) : Int)))] [] N') : rz_fin Q L xs 226 24 58 [(0, .ref 53), (1, .int (Int32.ofInt (c : Int))), (2, .int (Int32.ofInt (h : Int))), (3, .int (Int32.ofInt x)), (4, .int (Int32.ofInt p)), (5, .long (Int64.ofInt o)), (7, .long (Int64.ofInt a)), (9, .int (Int32.ofInt (i : Int)))] [] M' := by
  refine qs_use (zs := [(h : Int), x, p, o, a, (i : Int), (len : Int), (t : Int), (1 : Int), r]) (List.all_eq_true.mp bf31_c c (List.mem_range.mpr hc6)) hL hm (qs_in (show 0 ≤ (h : Int) ∧ (h : Int) ≤ 5 by omega) (qs_in hx (qs_in hp (qs_iw w1 (qs_iw w2 (qs_in (show 0 ≤ (i : Int) ∧ (i : Int) ≤ 11 by omega) (qs_rd (show 0 ≤ (c : Int) by omega) e88 (show 0 ≤ (len : Int) ∧ (len : Int) ≤ 60 by omega) (qs_lt (show (i : Int) < (len : Int) by omega) (qs_rd (show (0 : Int) ≤ 13 by decide) e13 (show 0 ≤ (t : Int) ∧ (t : Int) ≤ 29 by omega) (qs_rd (by show 0 ≤ qs_add (i : Int) (60 * (c : Int)); rw [qs_add_eq]; omega) e89 (show 1 ≤ (1 : Int) ∧ (1 : Int) ≤ 1 by omega) (qs_rd (show 0 ≤ (h : Int) by omega) eR wR (qs_fin rfl)))))))))))) (Nat.le_refl _) rfl rfl (qs_c (fun u1 u2 u3 u4 u5 u6 K hK hc hM => ?_) (qs_c (fun u1 u2 u3 u4 u5 u6 K hK hc hM => ?_) qs_z))
  · exfalso
    obtain ⟨c1, c2, -⟩ := hc
    have c1 : 30 ≤ u1 ∧ u1 ≤ 40 := c1
    have c2 : u1 = sx_mf 0 (t : Int) (i : Int) := c2
    have fK : ∀ a, a < 128 → K a = M' a := hM
    rw [mf_add (by omega) (by omega)] at c2
    omega
  obtain ⟨c1, c2, c3, c4, c5, c6, c7, c8, -⟩ := hc
  have c1 : 0 ≤ u1 ∧ u1 ≤ 29 := c1
  have c2 : -1 ≤ u2 ∧ u2 ≤ 143 := c2
  have c3 : u1 = sx_mf 0 (t : Int) (i : Int) := c3
  have c4 : u3 = sx_mf 2 r u2 := c4
  have c5 : u4 = sx_mf 6 u3 9 := c5
  have c6 : u5 = sx_mf 34 o 0 := c6
  have c7 : u6 = sx_mf 34 a u4 := c7
  have c8 : K 61 (u1).toNat = u2 := c8
  have fK : ∀ a, a < 128 → K a = M' a := hM
  rw [mf_add (by omega) (by omega)] at c3
  have d1 : u2 = d := by rw [← c8, fK 61 (by decide), c3, show ((t : Int) + (i : Int)).toNat = t + i by omega]; exact eD
  exact Kf u5 u6 K hK fK (by rw [c6, bw_o1]) (by rw [c7, c5, c4, d1, bw_u1])
theorem bf_s2 {o a r d : Int} {t h i len : Nat} (hL : L < 2 ^ 31) (hm : sx_mok cl_ly M') (hc6 : c < 6) (hh : h < 6) (hx : 0 ≤ x ∧ x ≤ 12) (hp : 0 ≤ p ∧ p ≤ 1) (hi : i < len) (hi12 : i < 12) (hti : t + i < 30) (h60 : len ≤ 60) (w1 : sx_w sx_r64 o) (w2 : sx_w sx_r64 a) (e88 : M' 88 (c : Int).toNat = (len : Int)) (e13 : M' 53 13 = (t : Int)) (e89 : M' 89 (qs_add (i : Int) (60 * (c : Int))).toNat = 2) (eR : M' 55 h = r) (wR : -1 ≤ r ∧ r ≤ 143) (eD : M' 61 (t + i) = d) (Kf : ∀ (u v : Int) (N' : Nat → Nat → Int), sx_mok cl_ly N' → (∀ q, q < 128 → N' q = M' q) → u = sx_mf 34 o (bw_o x 2) → v = sx_mf 34 a (bw_u (sx_mf 6 (sx_mf 2 r d) 9) 2) → rz_fin Q L xs 226 24 58 [(0, .ref 53), (1, .int (Int32.ofInt (c : Int))), (2, .int (Int32.ofInt (h : Int))), (3, .int (Int32.ofInt x)), (4, .int (Int32.ofInt p)), (5, .long (Int64.ofInt u)), (7, .long (Int64.ofInt v)), (9, .int (Int32.ofInt ((i + 1 : Nat) : Int)))] [] N') : rz_fin Q L xs 226 24 58 [(0, .ref 53), (1, .int (Int32.ofInt (c : Int))), (2, .int (Int32.ofInt (h : Int))), (3, .int (Int32.ofInt x)), (4, .int (Int32.ofInt p)), (5, .long (Int64.ofInt o)), (7, .long (Int64.ofInt a)), (9, .int (Int32.ofInt (i : Int)))] [] M' := by
  refine qs_use (zs := [(h : Int), x, p, o, a, (i : Int), (len : Int), (t : Int), (2 : Int), r]) (List.all_eq_true.mp bf32_c c (List.mem_range.mpr hc6)) hL hm (qs_in (show 0 ≤ (h : Int) ∧ (h : Int) ≤ 5 by omega) (qs_in hx (qs_in hp (qs_iw w1 (qs_iw w2 (qs_in (show 0 ≤ (i : Int) ∧ (i : Int) ≤ 11 by omega) (qs_rd (show 0 ≤ (c : Int) by omega) e88 (show 0 ≤ (len : Int) ∧ (len : Int) ≤ 60 by omega) (qs_lt (show (i : Int) < (len : Int) by omega) (qs_rd (show (0 : Int) ≤ 13 by decide) e13 (show 0 ≤ (t : Int) ∧ (t : Int) ≤ 29 by omega) (qs_rd (by show 0 ≤ qs_add (i : Int) (60 * (c : Int)); rw [qs_add_eq]; omega) e89 (show 2 ≤ (2 : Int) ∧ (2 : Int) ≤ 2 by omega) (qs_rd (show 0 ≤ (h : Int) by omega) eR wR (qs_fin rfl)))))))))))) (Nat.le_refl _) rfl rfl (qs_c (fun u1 u2 u3 u4 u5 u6 u7 u8 K hK hc hM => ?_) (qs_c (fun u1 u2 u3 u4 u5 u6 u7 u8 K hK hc hM => ?_) qs_z))
  · exfalso
    obtain ⟨c1, c2, -⟩ := hc
    have c1 : 30 ≤ u1 ∧ u1 ≤ 40 := c1
    have c2 : u1 = sx_mf 0 (t : Int) (i : Int) := c2
    have fK : ∀ a, a < 128 → K a = M' a := hM
    rw [mf_add (by omega) (by omega)] at c2
    omega
  obtain ⟨c1, c2, c3, c4, c5, c6, c7, c8, c9, c10, c11, -⟩ := hc
  have c1 : 0 ≤ u1 ∧ u1 ≤ 29 := c1
  have c2 : -1 ≤ u2 ∧ u2 ≤ 143 := c2
  have c3 : 0 ≤ u5 ∧ u5 ≤ 12 := c3
  have c4 : u1 = sx_mf 0 (t : Int) (i : Int) := c4
  have c5 : u3 = sx_mf 2 r u2 := c5
  have c6 : u4 = sx_mf 6 u3 9 := c6
  have c7 : u5 = sx_mf 1 12 x := c7
  have c8 : u6 = sx_mf 34 o u5 := c8
  have c9 : u7 = sx_mf 1 12 u4 := c9
  have c10 : u8 = sx_mf 34 a u7 := c10
  have c11 : K 61 (u1).toNat = u2 := c11
  have fK : ∀ a, a < 128 → K a = M' a := hM
  rw [mf_add (by omega) (by omega)] at c4
  have d1 : u2 = d := by rw [← c11, fK 61 (by decide), c4, show ((t : Int) + (i : Int)).toNat = t + i by omega]; exact eD
  exact Kf u6 u8 K hK fK (by rw [c8, c7, bw_o2]) (by rw [c10, c9, c6, c5, d1, bw_u2])
theorem bf_s3 {o a r d : Int} {t h i len : Nat} (hL : L < 2 ^ 31) (hm : sx_mok cl_ly M') (hc6 : c < 6) (hh : h < 6) (hx : 0 ≤ x ∧ x ≤ 12) (hp : 0 ≤ p ∧ p ≤ 1) (hi : i < len) (hi12 : i < 12) (hti : t + i < 30) (h60 : len ≤ 60) (w1 : sx_w sx_r64 o) (w2 : sx_w sx_r64 a) (e88 : M' 88 (c : Int).toNat = (len : Int)) (e13 : M' 53 13 = (t : Int)) (e89 : M' 89 (qs_add (i : Int) (60 * (c : Int))).toNat = 3) (eR : M' 55 h = r) (wR : -1 ≤ r ∧ r ≤ 143) (eD : M' 61 (t + i) = d) (Kf : ∀ (u v : Int) (N' : Nat → Nat → Int), sx_mok cl_ly N' → (∀ q, q < 128 → N' q = M' q) → u = sx_mf 34 o (bw_o x 3) → v = sx_mf 34 a (bw_u (sx_mf 6 (sx_mf 2 r d) 9) 3) → rz_fin Q L xs 226 24 58 [(0, .ref 53), (1, .int (Int32.ofInt (c : Int))), (2, .int (Int32.ofInt (h : Int))), (3, .int (Int32.ofInt x)), (4, .int (Int32.ofInt p)), (5, .long (Int64.ofInt u)), (7, .long (Int64.ofInt v)), (9, .int (Int32.ofInt ((i + 1 : Nat) : Int)))] [] N') : rz_fin Q L xs 226 24 58 [(0, .ref 53), (1, .int (Int32.ofInt (c : Int))), (2, .int (Int32.ofInt (h : Int))), (3, .int (Int32.ofInt x)), (4, .int (Int32.ofInt p)), (5, .long (Int64.ofInt o)), (7, .long (Int64.ofInt a)), (9, .int (Int32.ofInt (i : Int)))] [] M' := by
  refine qs_use (zs := [(h : Int), x, p, o, a, (i : Int), (len : Int), (t : Int), (3 : Int), r]) (List.all_eq_true.mp bf33_c c (List.mem_range.mpr hc6)) hL hm (qs_in (show 0 ≤ (h : Int) ∧ (h : Int) ≤ 5 by omega) (qs_in hx (qs_in hp (qs_iw w1 (qs_iw w2 (qs_in (show 0 ≤ (i : Int) ∧ (i : Int) ≤ 11 by omega) (qs_rd (show 0 ≤ (c : Int) by omega) e88 (show 0 ≤ (len : Int) ∧ (len : Int) ≤ 60 by omega) (qs_lt (show (i : Int) < (len : Int) by omega) (qs_rd (show (0 : Int) ≤ 13 by decide) e13 (show 0 ≤ (t : Int) ∧ (t : Int) ≤ 29 by omega) (qs_rd (by show 0 ≤ qs_add (i : Int) (60 * (c : Int)); rw [qs_add_eq]; omega) e89 (show 3 ≤ (3 : Int) ∧ (3 : Int) ≤ 3 by omega) (qs_rd (show 0 ≤ (h : Int) by omega) eR wR (qs_fin rfl)))))))))))) (Nat.le_refl _) rfl rfl (qs_c (fun u1 u2 u3 u4 u5 u6 K hK hc hM => ?_) (qs_c (fun u1 u2 u3 u4 u5 u6 K hK hc hM => ?_) qs_z))
  · exfalso
    obtain ⟨c1, c2, -⟩ := hc
    have c1 : 30 ≤ u1 ∧ u1 ≤ 40 := c1
    have c2 : u1 = sx_mf 0 (t : Int) (i : Int) := c2
    have fK : ∀ a, a < 128 → K a = M' a := hM
    rw [mf_add (by omega) (by omega)] at c2
    omega
  obtain ⟨c1, c2, c3, c4, c5, c6, c7, c8, -⟩ := hc
  have c1 : 0 ≤ u1 ∧ u1 ≤ 29 := c1
  have c2 : -1 ≤ u2 ∧ u2 ≤ 143 := c2
  have c3 : u1 = sx_mf 0 (t : Int) (i : Int) := c3
  have c4 : u3 = sx_mf 2 r u2 := c4
  have c5 : u4 = sx_mf 6 u3 9 := c5
  have c6 : u5 = sx_mf 34 o x := c6
  have c7 : u6 = sx_mf 34 a u4 := c7
  have c8 : K 61 (u1).toNat = u2 := c8
  have fK : ∀ a, a < 128 → K a = M' a := hM
  rw [mf_add (by omega) (by omega)] at c3
  have d1 : u2 = d := by rw [← c8, fK 61 (by decide), c3, show ((t : Int) + (i : Int)).toNat = t + i by omega]; exact eD
  exact Kf u5 u6 K hK fK (by rw [c6, bw_o3]) (by rw [c7, c5, c4, d1, bw_u3])
theorem bf_loop {k t h len : Nat} (hL : L < 2 ^ 31) (hm0 : sx_mok cl_ly M) (hc6 : c < 6) (hh : h < 6) (hx : 0 ≤ x ∧ x ≤ 12) (hp : 0 ≤ p ∧ p ≤ 1) (ht : M 53 13 = (t : Int)) (h29 : t ≤ 29) (el : M 88 c = (len : Int)) (h60 : len ≤ 60) (hk : k = bl_k len t) (hE : ∀ i, i < len → -128 ≤ M 89 (60 * c + i) ∧ M 89 (60 * c + i) ≤ 127) : ∀ (m i : Nat) (S : Int × Int) (M' : Nat → Nat → Int), i + m = k → sx_w sx_r64 S.1 → sx_w sx_r64 S.2 → sx_mok cl_ly M' → (∀ a, a < 128 → M' a = M a) → rz_fin (eu_Q M (bl_z p (bw (fun i => M 89 (60 * c + i)) x (fun i => sx_mf 6 (sx_mf 2 (M 55 h) (M 61 (t + i))) 9) m i S))) L xs 226 24 58 [(0, .ref 53), (1, .int (Int32.ofInt (c : Int))), (2, .int (Int32.ofInt (h : Int))), (3, .int (Int32.ofInt x)), (4, .int (Int32.ofInt p)), (5, .long (Int64.ofInt S.1)), (7, .long (Int64.ofInt S.2)), (9, .int (Int32.ofInt (i : Int)))] [] M' := by
  unfold bl_k at hk
  intro m
  induction m with
  | zero =>
    intro i S M' hi w1 w2 hm hf
    have ei : i = k := by omega
    have e88 : M' 88 (c : Int).toNat = (len : Int) := by rw [hf 88 (by decide), Int.toNat_natCast, el]
    have e13 : M' 53 13 = (t : Int) := by rw [hf 53 (by decide)]; exact ht
    refine qs_use (zs := [(h : Int), x, p, S.1, S.2, (i : Int), (len : Int), (t : Int)]) (List.all_eq_true.mp bf6_c c (List.mem_range.mpr hc6)) hL hm (qs_in (show 0 ≤ (h : Int) ∧ (h : Int) ≤ 5 by omega) (qs_in hx (qs_in hp (qs_iw w1 (qs_iw w2 (qs_in (show 0 ≤ (i : Int) ∧ (i : Int) ≤ 12 by omega) (qs_rd (show 0 ≤ (c : Int) by omega) e88 (show 0 ≤ (len : Int) ∧ (len : Int) ≤ 60 by omega) (qs_rd (show (0 : Int) ≤ 13 by decide) e13 (show 0 ≤ (t : Int) ∧ (t : Int) ≤ 29 by omega) (qs_fin rfl))))))))) (Nat.le_refl _) rfl rfl (qs_c (fun u1 K hK hc hM => ?_) (qs_c (fun u1 K hK hc hM => ?_) (qs_c (fun u1 K hK hc hM => ?_) (qs_c (fun u1 K hK hc hM => ?_) qs_z))))
    · exact bf_end (o := S.1) (a := S.2) hL hK (fun q hq => ((show ∀ q, q < 128 → K q = M' q from hM) q hq).trans (hf q hq)) hp w1 w2
    · exfalso
      obtain ⟨c1, c2, c3, c4, c5, -⟩ := hc
      have c1 : 0 ≤ (i : Int) ∧ (i : Int) ≤ 11 := c1
      have c2 : 1 ≤ (len : Int) ∧ (len : Int) ≤ 60 := c2
      have c3 : 0 ≤ u1 ∧ u1 ≤ 29 := c3
      have c4 : (i : Int) < (len : Int) := c4
      have c5 : u1 = sx_mf 0 (t : Int) (i : Int) := c5
      have fK : ∀ a, a < 128 → K a = M' a := hM
      rw [mf_add (by omega) (by omega)] at c5
      omega
    · exact bf_end (o := S.1) (a := S.2) hL hK (fun q hq => ((show ∀ q, q < 128 → K q = M' q from hM) q hq).trans (hf q hq)) hp w1 w2
    · exact bf_end (o := S.1) (a := S.2) hL hK (fun q hq => ((show ∀ q, q < 128 → K q = M' q from hM) q hq).trans (hf q hq)) hp w1 w2
  | succ m ih =>
    intro i S M' hi w1 w2 hm hf
    have hb := hE i (by omega)
    have e88 : M' 88 (c : Int).toNat = (len : Int) := by rw [hf 88 (by decide), Int.toNat_natCast, el]
    have e13 : M' 53 13 = (t : Int) := by rw [hf 53 (by decide)]; exact ht
    have eE : M' 89 (qs_add (i : Int) (60 * (c : Int))).toNat = M 89 (60 * c + i) := by rw [hf 89 (by decide), qs_add_eq, show ((i : Int) + 60 * (c : Int)).toNat = 60 * c + i by omega]
    by_cases q1 : M 89 (60 * c + i) < 0
    · have e0 : bw (fun i => M 89 (60 * c + i)) x (fun i => sx_mf 6 (sx_mf 2 (M 55 h) (M 61 (t + i))) 9) (m + 1) i S = S := if_pos (Or.inl q1)
      rw [e0]
      have rE : -128 ≤ M 89 (60 * c + i) ∧ M 89 (60 * c + i) ≤ -1 := by omega
      have e89 := eE
      refine qs_use (zs := [(h : Int), x, p, S.1, S.2, (i : Int), (len : Int), (t : Int), M 89 (60 * c + i)]) (List.all_eq_true.mp bf4_c c (List.mem_range.mpr hc6)) hL hm (qs_in (show 0 ≤ (h : Int) ∧ (h : Int) ≤ 5 by omega) (qs_in hx (qs_in hp (qs_iw w1 (qs_iw w2 (qs_in (show 0 ≤ (i : Int) ∧ (i : Int) ≤ 11 by omega) (qs_rd (show 0 ≤ (c : Int) by omega) e88 (show 0 ≤ (len : Int) ∧ (len : Int) ≤ 60 by omega) (qs_lt (show (i : Int) < (len : Int) by omega) (qs_rd (show (0 : Int) ≤ 13 by decide) e13 (show 0 ≤ (t : Int) ∧ (t : Int) ≤ 29 by omega) (qs_rd (by show 0 ≤ qs_add (i : Int) (60 * (c : Int)); rw [qs_add_eq]; omega) e89 rE (qs_fin rfl))))))))))) (Nat.le_refl _) rfl rfl (qs_c (fun u1 K hK hc hM => ?_) (qs_c (fun u1 K hK hc hM => ?_) qs_z))
      · exact bf_end (o := S.1) (a := S.2) hL hK (fun q hq => ((show ∀ q, q < 128 → K q = M' q from hM) q hq).trans (hf q hq)) hp w1 w2
      · exact bf_end (o := S.1) (a := S.2) hL hK (fun q hq => ((show ∀ q, q < 128 → K q = M' q from hM) q hq).trans (hf q hq)) hp w1 w2
    by_cases q2 : 3 < M 89 (60 * c + i)
    · have e0 : bw (fun i => M 89 (60 * c + i)) x (fun i => sx_mf 6 (sx_mf 2 (M 55 h) (M 61 (t + i))) 9) (m + 1) i S = S := if_pos (Or.inr q2)
      rw [e0]
      have rE : 4 ≤ M 89 (60 * c + i) ∧ M 89 (60 * c + i) ≤ 127 := by omega
      have e89 := eE
      refine qs_use (zs := [(h : Int), x, p, S.1, S.2, (i : Int), (len : Int), (t : Int), M 89 (60 * c + i)]) (List.all_eq_true.mp bf5_c c (List.mem_range.mpr hc6)) hL hm (qs_in (show 0 ≤ (h : Int) ∧ (h : Int) ≤ 5 by omega) (qs_in hx (qs_in hp (qs_iw w1 (qs_iw w2 (qs_in (show 0 ≤ (i : Int) ∧ (i : Int) ≤ 11 by omega) (qs_rd (show 0 ≤ (c : Int) by omega) e88 (show 0 ≤ (len : Int) ∧ (len : Int) ≤ 60 by omega) (qs_lt (show (i : Int) < (len : Int) by omega) (qs_rd (show (0 : Int) ≤ 13 by decide) e13 (show 0 ≤ (t : Int) ∧ (t : Int) ≤ 29 by omega) (qs_rd (by show 0 ≤ qs_add (i : Int) (60 * (c : Int)); rw [qs_add_eq]; omega) e89 rE (qs_fin rfl))))))))))) (Nat.le_refl _) rfl rfl (qs_c (fun u1 K hK hc hM => ?_) (qs_c (fun u1 K hK hc hM => ?_) qs_z))
      · exact bf_end (o := S.1) (a := S.2) hL hK (fun q hq => ((show ∀ q, q < 128 → K q = M' q from hM) q hq).trans (hf q hq)) hp w1 w2
      · exact bf_end (o := S.1) (a := S.2) hL hK (fun q hq => ((show ∀ q, q < 128 → K q = M' q from hM) q hq).trans (hf q hq)) hp w1 w2
    have e0 : bw (fun i => M 89 (60 * c + i)) x (fun i => sx_mf 6 (sx_mf 2 (M 55 h) (M 61 (t + i))) 9) (m + 1) i S = bw (fun i => M 89 (60 * c + i)) x (fun i => sx_mf 6 (sx_mf 2 (M 55 h) (M 61 (t + i))) 9) m (i + 1) (sx_mf 34 S.1 (bw_o x (M 89 (60 * c + i))), sx_mf 34 S.2 (bw_u (sx_mf 6 (sx_mf 2 (M 55 h) (M 61 (t + i))) 9) (M 89 (60 * c + i)))) := if_neg (show ¬ (M 89 (60 * c + i) < 0 ∨ 3 < M 89 (60 * c + i)) by omega)
    rw [e0]
    have wR : -1 ≤ M 55 h ∧ M 55 h ≤ 143 := hm0 55 _ h _ rfl hh rfl
    have eR : M' 55 h = M 55 h := by rw [hf 55 (by decide)]
    have four : M 89 (60 * c + i) = 0 ∨ M 89 (60 * c + i) = 1 ∨ M 89 (60 * c + i) = 2 ∨ M 89 (60 * c + i) = 3 := by omega
    have wo := mf_w64 34 ⟨by decide, by decide⟩ S.1 (bw_o x (M 89 (60 * c + i)))
    have wu := mf_w64 34 ⟨by decide, by decide⟩ S.2 (bw_u (sx_mf 6 (sx_mf 2 (M 55 h) (M 61 (t + i))) 9) (M 89 (60 * c + i)))
    rcases four with q | q | q | q
    · have e89 : M' 89 (qs_add (i : Int) (60 * (c : Int))).toNat = 0 := eE.trans q
      rw [q] at wo wu ⊢
      refine bf_s0 (xs := xs) (x := x) (p := p) (r := M 55 h) (d := M 61 (t + i)) hL hm hc6 hh hx hp (by omega) (by omega) (by omega) h60 w1 w2 e88 e13 e89 eR wR (by rw [hf 61 (by decide)]) (fun u v K hK fK d2 d3 => ?_)
      rw [← d2] at wo
      rw [← d3] at wu
      rw [← d2, ← d3]
      exact ih (i + 1) (u, v) K (by omega) wo wu hK (fun a ha => (fK a ha).trans (hf a ha))
    · have e89 : M' 89 (qs_add (i : Int) (60 * (c : Int))).toNat = 1 := eE.trans q
      rw [q] at wo wu ⊢
      refine bf_s1 (xs := xs) (x := x) (p := p) (r := M 55 h) (d := M 61 (t + i)) hL hm hc6 hh hx hp (by omega) (by omega) (by omega) h60 w1 w2 e88 e13 e89 eR wR (by rw [hf 61 (by decide)]) (fun u v K hK fK d2 d3 => ?_)
      rw [← d2] at wo
      rw [← d3] at wu
      rw [← d2, ← d3]
      exact ih (i + 1) (u, v) K (by omega) wo wu hK (fun a ha => (fK a ha).trans (hf a ha))
    · have e89 : M' 89 (qs_add (i : Int) (60 * (c : Int))).toNat = 2 := eE.trans q
      rw [q] at wo wu ⊢
      refine bf_s2 (xs := xs) (x := x) (p := p) (r := M 55 h) (d := M 61 (t + i)) hL hm hc6 hh hx hp (by omega) (by omega) (by omega) h60 w1 w2 e88 e13 e89 eR wR (by rw [hf 61 (by decide)]) (fun u v K hK fK d2 d3 => ?_)
      rw [← d2] at wo
      rw [← d3] at wu
      rw [← d2, ← d3]
      exact ih (i + 1) (u, v) K (by omega) wo wu hK (fun a ha => (fK a ha).trans (hf a ha))
    · have e89 : M' 89 (qs_add (i : Int) (60 * (c : Int))).toNat = 3 := eE.trans q
      rw [q] at wo wu ⊢
      refine bf_s3 (xs := xs) (x := x) (p := p) (r := M 55 h) (d := M 61 (t + i)) hL hm hc6 hh hx hp (by omega) (by omega) (by omega) h60 w1 w2 e88 e13 e89 eR wR (by rw [hf 61 (by decide)]) (fun u v K hK fK d2 d3 => ?_)
      rw [← d2] at wo
      rw [← d3] at wu
      rw [← d2, ← d3]
      exact ih (i + 1) (u, v) K (by omega) wo wu hK (fun a ha => (fK a ha).trans (hf a ha))

theorem bf_y {y : Int} {t len : Nat} (hL : L < 2 ^ 31) (hm : sx_mok cl_ly M) (hc6 : c < 6) (ht : M 53 13 = (t : Int)) (h29 : t ≤ 29) (el : M 88 c = (len : Int)) (hE : M 87 c = -2 → ∀ i : Nat, i < len → -128 ≤ M 89 (60 * c + i) ∧ M 89 (60 * c + i) ≤ 127) (wy : sx_w sx_r32 y) (wx : sx_w sx_r32 x) (wp : sx_w sx_r32 p) : rz_fin (fun r N => sx_mok cl_ly N ∧ (∀ a, a < 128 → N a = M a) ∧ ((¬ bl_ok y x p (M 53 1) (M 87 c = -2) ∧ r = some (.long (Int64.ofInt (-9223372036854775808)))) ∨ (bl_ok y x p (M 53 1) (M 87 c = -2) ∧ r = some (.long (Int64.ofInt (bl_z p (bw (fun i => M 89 (60 * c + i)) x (fun i => sx_mf 6 (sx_mf 2 (M 55 y.toNat) (M 61 (t + i))) 9) (bl_k len t) 0 (1, 12)))))))) L xs 226 24 0 [(0, .ref 53), (1, .int (Int32.ofInt (c : Int))), (2, .int (Int32.ofInt y)), (3, .int (Int32.ofInt x)), (4, .int (Int32.ofInt p))] [] M := by
  have hH := cx_fld (c := 53) (k := 1) (lo := 0) (hi := 6) hm (by decide +kernel)
  have m87 : -6 ≤ M 87 c ∧ M 87 c ≤ 49 := hm 87 _ c _ rfl hc6 rfl
  have h60 : 0 ≤ M 88 c ∧ M 88 c ≤ 60 := hm 88 _ c _ rfl hc6 rfl
  have e87 : M 87 (c : Int).toNat = M 87 c := by rw [Int.toNat_natCast]
  refine qs_use (zs := [y, x, p, M 53 1, M 87 c]) (List.all_eq_true.mp bf1_c c (List.mem_range.mpr hc6)) hL hm (qs_iw wy (qs_iw wx (qs_iw wp (qs_rd (show (0 : Int) ≤ 1 by decide) rfl hH (qs_rd (show 0 ≤ (c : Int) by omega) e87 m87 (qs_fin rfl)))))) (Nat.le_refl _) rfl rfl (qs_c (fun K hK hc hM => ?_) (qs_c (fun K hK hc hM => ?_) (qs_c (fun K hK hc hM => ?_) (qs_c (fun K hK hc hM => ?_) (qs_c (fun K hK hc hM => ?_) (qs_c (fun K hK hc hM => ?_) (qs_c (fun K hK hc hM => ?_) (qs_c (fun K hK hc hM => ?_) (qs_c (fun K hK hc hM => ?_) qs_z)))))))))
  · obtain ⟨c1, -⟩ := hc
    have c1 : -2147483648 ≤ y ∧ y ≤ -1 := c1
    have fK : ∀ a, a < 128 → K a = M a := hM
    exact ⟨hK, fK, Or.inl ⟨fun q => by have := q.1; omega, rfl⟩⟩
  · obtain ⟨c1, c2, -⟩ := hc
    have c1 : 0 ≤ y ∧ y ≤ 2147483647 := c1
    have c2 : M 53 1 < y + 1 := c2
    have fK : ∀ a, a < 128 → K a = M a := hM
    exact ⟨hK, fK, Or.inl ⟨fun q => by have := q.2.1; omega, rfl⟩⟩
  · obtain ⟨c1, c2, c3, c4, -⟩ := hc
    have c1 : 0 ≤ y ∧ y ≤ 5 := c1
    have c2 : -2147483648 ≤ x ∧ x ≤ -1 := c2
    have c3 : 1 ≤ M 53 1 ∧ M 53 1 ≤ 6 := c3
    have c4 : ¬ M 53 1 < y + 1 := c4
    have fK : ∀ a, a < 128 → K a = M a := hM
    exact ⟨hK, fK, Or.inl ⟨fun q => by have := q.2.2.1; omega, rfl⟩⟩
  · obtain ⟨c1, c2, c3, c4, c5, -⟩ := hc
    have c1 : 0 ≤ y ∧ y ≤ 5 := c1
    have c2 : 0 ≤ x ∧ x ≤ 12 := c2
    have c3 : -2147483648 ≤ p ∧ p ≤ -1 := c3
    have c4 : 1 ≤ M 53 1 ∧ M 53 1 ≤ 6 := c4
    have c5 : ¬ M 53 1 < y + 1 := c5
    have fK : ∀ a, a < 128 → K a = M a := hM
    exact ⟨hK, fK, Or.inl ⟨fun q => by have := q.2.2.2.2.1; omega, rfl⟩⟩
  · obtain ⟨c1, c2, c3, c4, c5, c6, -⟩ := hc
    have c1 : 0 ≤ y ∧ y ≤ 5 := c1
    have c2 : 0 ≤ x ∧ x ≤ 12 := c2
    have c3 : 0 ≤ p ∧ p ≤ 1 := c3
    have c4 : 1 ≤ M 53 1 ∧ M 53 1 ≤ 6 := c4
    have c5 : -1 ≤ M 87 c ∧ M 87 c ≤ -1 := c5
    have c6 : ¬ M 53 1 < y + 1 := c6
    have fK : ∀ a, a < 128 → K a = M a := hM
    exact ⟨hK, fK, Or.inl ⟨fun q => by have a := q.2.2.2.2.2.2; omega, rfl⟩⟩
  · obtain ⟨c1, c2, c3, c4, c5, c6, c7, -⟩ := hc
    have c1 : 0 ≤ y ∧ y ≤ 5 := c1
    have c2 : 0 ≤ x ∧ x ≤ 12 := c2
    have c3 : 0 ≤ p ∧ p ≤ 1 := c3
    have c4 : 1 ≤ M 53 1 ∧ M 53 1 ≤ 6 := c4
    have c5 : M 87 c ≠ -2 := c5
    have c6 : M 87 c ≠ -1 := c6
    have c7 : ¬ M 53 1 < y + 1 := c7
    have fK : ∀ a, a < 128 → K a = M a := hM
    exact ⟨hK, fK, Or.inl ⟨fun q => by have a := q.2.2.2.2.2.2; omega, rfl⟩⟩
  · obtain ⟨c1, c2, c3, c4, c5, c6, c7, -⟩ := hc
    have c1 : 0 ≤ y ∧ y ≤ 5 := c1
    have c2 : 0 ≤ x ∧ x ≤ 12 := c2
    have c3 : 0 ≤ p ∧ p ≤ 1 := c3
    have c4 : 1 ≤ M 53 1 ∧ M 53 1 ≤ 6 := c4
    have c5 : -2 ≤ M 87 c ∧ M 87 c ≤ -2 := c5
    have c6 : M 87 c ≠ -1 := c6
    have c7 : ¬ M 53 1 < y + 1 := c7
    have fK : ∀ a, a < 128 → K a = M a := hM
    have ok : bl_ok y x p (M 53 1) (M 87 c = -2) := ⟨c1.1, by omega, c2.1, c2.2, c3.1, c3.2, by omega⟩
    obtain ⟨h, rfl⟩ := Int.eq_ofNat_of_zero_le c1.1
    refine qs_w (bf_loop (xs := xs) (M := M) (c := c) (k := bl_k len t) (t := t) (h := h) (len := len) (x := x) (p := p) hL hm hc6 (by omega) c2 c3 ht h29 el (by omega) rfl (fun i hi => hE (by omega) i hi) (bl_k len t) 0 (1, 12) K (Nat.zero_add _) (og_w64 (by decide) (by decide)) (og_w64 (by decide) (by decide)) hK fK) (fun r N2 g => ?_)
    obtain ⟨rfl, hN2, f2⟩ := g
    exact ⟨hN2, f2, Or.inr ⟨ok, rfl⟩⟩
  · obtain ⟨c1, c2, c3, c4, c5, -⟩ := hc
    have c1 : 0 ≤ y ∧ y ≤ 5 := c1
    have c2 : 0 ≤ x ∧ x ≤ 12 := c2
    have c3 : 2 ≤ p ∧ p ≤ 2147483647 := c3
    have c4 : 1 ≤ M 53 1 ∧ M 53 1 ≤ 6 := c4
    have c5 : ¬ M 53 1 < y + 1 := c5
    have fK : ∀ a, a < 128 → K a = M a := hM
    exact ⟨hK, fK, Or.inl ⟨fun q => by have := q.2.2.2.2.2.1; omega, rfl⟩⟩
  · obtain ⟨c1, c2, c3, c4, -⟩ := hc
    have c1 : 0 ≤ y ∧ y ≤ 5 := c1
    have c2 : 13 ≤ x ∧ x ≤ 2147483647 := c2
    have c3 : 1 ≤ M 53 1 ∧ M 53 1 ≤ 6 := c3
    have c4 : ¬ M 53 1 < y + 1 := c4
    have fK : ∀ a, a < 128 → K a = M a := hM
    exact ⟨hK, fK, Or.inl ⟨fun q => by have := q.2.2.2.1; omega, rfl⟩⟩
/-- belief of both sides -/
theorem gs_be {s y : Int} (hL : L < 2 ^ 31) (hI : la_I WF bs_cps M) (hS : gs_SS M) (ws : sx_w sx_r32 s) (wy : sx_w sx_r32 y) (wx : sx_w sx_r32 x) (wp : sx_w sx_r32 p) : gs_P WF L xs 1 96 226 [.ref 8, .int (Int32.ofInt s), .int (Int32.ofInt y), .int (Int32.ofInt x), .int (Int32.ofInt p)] [.ref 53, .int (Int32.ofInt s), .int (Int32.ofInt y), .int (Int32.ofInt x), .int (Int32.ofInt p)] (-9223372036854775808, 9223372036854775807) M := by
  obtain ⟨nc, H, hA⟩ := fs_toA hI hS.1
  obtain ⟨e1, -, -, e4, -, -, -⟩ := bs_eq hI
  have h29 : 0 ≤ M 10 210 ∧ M 10 210 ≤ 29 := hI.2.2.2.1
  have hm := hI.1
  obtain ⟨t, et⟩ := Int.eq_ofNat_of_zero_le h29.1
  have ws' := sx_r32_iff.mp ws
  obtain ⟨⟨a1, a2, a3, a4, a5⟩, b1, b2, b3, -⟩ := id hA
  have go : ∀ z : Int, sx_w sx_r64 z → (∃ F1 M1, sm_run sm_MT sm_LK (sm_RO L xs) sm_NV sm_cq F1 99 96 0 (lv_args 0 [.ref 8, .int (Int32.ofInt s), .int (Int32.ofInt y), .int (Int32.ofInt x), .int (Int32.ofInt p)]) [] (sx_HH cl_lay cl_rf M) = some (some (lb_val 1 z), sx_HH cl_lay cl_rf M1) ∧ sx_mok cl_ly M1 ∧ (∀ a, a < 128 → M1 a = M a) ∧ ∃ F2 M2, sm_run sm_MT sm_LK (sm_RO L xs) sm_NV sm_cq F2 99 226 0 (lv_args 0 [.ref 53, .int (Int32.ofInt s), .int (Int32.ofInt y), .int (Int32.ofInt x), .int (Int32.ofInt p)]) [] (sx_HH cl_lay cl_rf M1) = some (some (lb_val 1 z), sx_HH cl_lay cl_rf M2) ∧ sx_mok cl_ly M2 ∧ ∀ a, a < 128 → M2 a = M1 a) → gs_P WF L xs 1 96 226 [.ref 8, .int (Int32.ofInt s), .int (Int32.ofInt y), .int (Int32.ofInt x), .int (Int32.ofInt p)] [.ref 53, .int (Int32.ofInt s), .int (Int32.ofInt y), .int (Int32.ofInt x), .int (Int32.ofInt p)] (-9223372036854775808, 9223372036854775807) M := fun z hz h => by
    obtain ⟨F1, M1, f1, m1, x1, F2, M2, f2, m2, x2⟩ := h
    have ee : ∀ a, a < 128 → M2 a = M a := fun a ha => (x2 a ha).trans (x1 a ha)
    have ff : fs_F M M2 := ⟨fun a ha _ => ee a ha, fun j _ => by rw [ee 53 (by decide)]⟩
    obtain ⟨g1, g2⟩ := fs_q WF_zs hI hS.1 m2 ff
    exact ⟨z, M1, M2, hz, Or.inr ⟨rfl, hz⟩, ⟨F1, f1⟩, m1, ⟨F2, f2⟩, m2, g1, g2, gs_qb ff hS.2⟩
  by_cases s0 : s < 0
  · obtain ⟨F1, v1, M1, f1, rfl, m1, x1⟩ := rz_d (show 24 ≤ 99 by decide) (show rz_fin (fun r N => r = some (.long (Int64.ofInt (-9223372036854775808))) ∧ sx_mok cl_ly N ∧ ∀ a, a < 128 → N a = M a) L xs 96 24 0 (lv_args 0 [.ref 8, .int (Int32.ofInt s), .int (Int32.ofInt y), .int (Int32.ofInt x), .int (Int32.ofInt p)]) [] M from qs_use (zs := [s, y, x, p]) be0_c hL hm (qs_in (show -2147483648 ≤ s ∧ s ≤ -1 by omega) (qs_iw wy (qs_iw wx (qs_iw wp (qs_fin rfl))))) (Nat.le_refl _) rfl rfl (qs_c (fun K hK hc hM => ⟨rfl, hK, hM⟩) qs_z))
    obtain ⟨F2, v2, M2, f2, rfl, m2, x2⟩ := rz_d (show 24 ≤ 99 by decide) (show rz_fin (fun r N => r = some (.long (Int64.ofInt (-9223372036854775808))) ∧ sx_mok cl_ly N ∧ ∀ a, a < 128 → N a = M1 a) L xs 226 24 0 (lv_args 0 [.ref 53, .int (Int32.ofInt s), .int (Int32.ofInt y), .int (Int32.ofInt x), .int (Int32.ofInt p)]) [] M1 from qs_use (zs := [s, y, x, p]) bf0_c hL m1 (qs_in (show -2147483648 ≤ s ∧ s ≤ -1 by omega) (qs_iw wy (qs_iw wx (qs_iw wp (qs_fin rfl))))) (Nat.le_refl _) rfl rfl (qs_c (fun K hK hc hM => ⟨rfl, hK, hM⟩) qs_z))
    exact go _ ⟨by decide, by decide⟩ ⟨F1, M1, f1, m1, x1, F2, M2, f2, m2, x2⟩
  by_cases s6 : 6 ≤ s
  · obtain ⟨F1, v1, M1, f1, rfl, m1, x1⟩ := rz_d (show 24 ≤ 99 by decide) (show rz_fin (fun r N => r = some (.long (Int64.ofInt (-9223372036854775808))) ∧ sx_mok cl_ly N ∧ ∀ a, a < 128 → N a = M a) L xs 96 24 0 (lv_args 0 [.ref 8, .int (Int32.ofInt s), .int (Int32.ofInt y), .int (Int32.ofInt x), .int (Int32.ofInt p)]) [] M from qs_use (zs := [s, y, x, p]) be9_c hL hm (qs_in (show 6 ≤ s ∧ s ≤ 2147483647 by omega) (qs_iw wy (qs_iw wx (qs_iw wp (qs_fin rfl))))) (Nat.le_refl _) rfl rfl (qs_c (fun K hK hc hM => ⟨rfl, hK, hM⟩) qs_z))
    obtain ⟨F2, v2, M2, f2, rfl, m2, x2⟩ := rz_d (show 24 ≤ 99 by decide) (show rz_fin (fun r N => r = some (.long (Int64.ofInt (-9223372036854775808))) ∧ sx_mok cl_ly N ∧ ∀ a, a < 128 → N a = M1 a) L xs 226 24 0 (lv_args 0 [.ref 53, .int (Int32.ofInt s), .int (Int32.ofInt y), .int (Int32.ofInt x), .int (Int32.ofInt p)]) [] M1 from qs_use (zs := [s, y, x, p]) bf9_c hL m1 (qs_in (show 6 ≤ s ∧ s ≤ 2147483647 by omega) (qs_iw wy (qs_iw wx (qs_iw wp (qs_fin rfl))))) (Nat.le_refl _) rfl rfl (qs_c (fun K hK hc hM => ⟨rfl, hK, hM⟩) qs_z))
    exact go _ ⟨by decide, by decide⟩ ⟨F1, M1, f1, m1, x1, F2, M2, f2, m2, x2⟩
  obtain ⟨c, rfl⟩ := Int.eq_ofNat_of_zero_le (show 0 ≤ s by omega)
  have hc6 : c < 6 := by omega
  have hSc := hS.1.1.1 c hc6
  unfold sh_S at hSc
  have l60 := fu_len hm hc6
  have h60 : 0 ≤ M 88 c ∧ M 88 c ≤ 60 := hm 88 _ c _ rfl hc6 rfl
  obtain ⟨len, el⟩ := Int.eq_ofNat_of_zero_le h60.1
  obtain ⟨len2, el2⟩ := Int.eq_ofNat_of_zero_le l60.1
  have row : M (41 + 2 * c) 2 = 0 → M 87 c = -2 ∧ len2 = len ∧ ∀ i : Nat, i < len → M (42 + 2 * c) i = M 89 (60 * c + i) := fun q => by
    rcases hSc with h | h | ⟨h1, h2, h3, h4, h5, h6⟩
    · omega
    · omega
    · exact ⟨by omega, by omega, fun i hi => h6 i (by omega)⟩
  have iff2 : M 87 c = -2 → M (41 + 2 * c) 2 = 0 := fun q => by omega
  obtain ⟨F1, v1, M1, f1, m1, x1, h1⟩ := rz_d (show 24 ≤ 99 by decide) (be_x (xs := xs) (t := t) (c := c) (len := len2) hL hm hc6 et (by omega) el2 (fun q i hi => by
    obtain ⟨q1, q2, q3⟩ := row q
    rw [q3 i (by omega)]
    exact hS.2 c hc6 q1 i (by omega)) wy wx wp)
  have o53 : M1 53 = M 53 := x1 53 (by decide)
  obtain ⟨F2, v2, M2, f2, m2, x2, h2⟩ := rz_d (show 24 ≤ 99 by decide) (bf_y (xs := xs) (t := t) (c := c) (len := len) hL m1 hc6 (by rw [o53, ← e4]; exact et) (by omega) (by rw [x1 88 (by decide)]; exact el) (fun q i hi => by
    rw [x1 87 (by decide)] at q
    rw [x1 89 (by decide)]
    exact hS.2 c hc6 q i (by omega)) wy wx wp)
  rw [o53, ← e1, x1 87 (by decide), x1 89 (by decide), x1 55 (by decide), x1 61 (by decide)] at h2
  rcases h1 with ⟨k, rv⟩ | ⟨k, rv⟩
  · rcases h2 with ⟨-, rv2⟩ | ⟨k2, -⟩
    · subst rv rv2
      exact go _ ⟨by decide, by decide⟩ ⟨F1, M1, f1, m1, x1, F2, M2, f2, m2, x2⟩
    · obtain ⟨q1, q2, q3, q4, q5, q6, q7⟩ := k2
      exact absurd ⟨q1, q2, q3, q4, q5, q6, iff2 q7⟩ k
  · obtain ⟨q1, q2, q3, q4, q5, q6, q7⟩ := id k
    obtain ⟨r1, r2, r3⟩ := row q7
    rcases h2 with ⟨k2, -⟩ | ⟨-, rv2⟩
    · exact absurd ⟨q1, q2, q3, q4, q5, q6, r1⟩ k2
    · have ee : bw (fun i => M 89 (60 * c + i)) x (fun i => sx_mf 6 (sx_mf 2 (M 55 y.toNat) (M 61 (t + i))) 9) (bl_k len t) 0 (1, 12) = bw (M (42 + 2 * c)) x (fun i => sx_mf 6 (sx_mf 2 (M 10 (30 + y.toNat)) (M 10 (150 + (t + i)))) 9) (bl_k len2 t) 0 (1, 12) := by
        rw [r2]
        refine bw_eq _ 0 _ (fun j _ hj => ?_)
        have hj : j < 0 + min (min len 12) (30 - t) := hj
        refine ⟨(r3 j (by omega)).symm, ?_⟩
        show sx_mf 6 (sx_mf 2 (M 55 y.toNat) (M 61 (t + j))) 9 = sx_mf 6 (sx_mf 2 (M 10 (30 + y.toNat)) (M 10 (150 + (t + j)))) 9
        rw [(b2 y.toNat (by omega)).2.2.1, b3 (t + j) (by omega), Nat.add_comm y.toNat 30, Nat.add_comm (t + j) 150]
      rw [ee] at rv2
      subst rv rv2
      exact go _ bl_w ⟨F1, M1, f1, m1, x1, F2, M2, f2, m2, x2⟩
end
