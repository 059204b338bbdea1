/-! Lists: the reference, all three. -/
section
variable {L : Nat} {xs : Nat → Int32} {M M' N : Nat → Nat → Int} {nc : Nat}
def lqq1_i : List qs_I := []
def lqq1_T : List og_T := [(some 4, none, [], [(0, 2, 0, 53), (1, 0, 0, 0), (2, 0, 0, 0)], [], [])]
theorem lqq1_c : qs_chk (fun pc => Nat.beq pc 4) lqq1_i 0 lqq1_T 400 400 22 230 0 [(0, 2, 0, 53)] [] = true := by decide +kernel
def lqq2_i : List qs_I := [(0, 0, (0, 0), (0, 1073741823)), (0, 0, (0, 0), (0, 29))]
def lqq2_T : List og_T := [(some 15, none, [], [(0, 2, 0, 53), (1, 0, 9, 0), (2, 0, 10, 0), (3, 0, 0, 0), (4, 0, 0, 0)], [], [])]
theorem lqq2_c : qs_chk (fun pc => Nat.beq pc 15) lqq2_i 0 lqq2_T 400 400 22 230 4 [(0, 2, 0, 53), (1, 0, 9, 0), (2, 0, 10, 0)] [] = true := by decide +kernel
def lqq3_i : List qs_I := [(0, 0, (0, 0), (0, 1073741823)), (0, 0, (0, 0), (0, 29)), (0, 0, (0, 0), (0, 63)), (0, 0, (0, 0), (0, 11)), (1, 53, (0, 8), (0, 12)), (2, 13, (12, 0), (0, 0)), (1, 60, (12, 0), (-1, 29)), (1, 59, (12, 0), (0, 5)), (1, 53, (0, 7), (0, 63))]
def lqq3_T : List og_T := [(some 15, none, [], [(0, 2, 0, 53), (1, 0, 9, 0), (2, 0, 10, 0), (3, 0, 20, 0), (4, 0, 12, 1)], [], [(0, (14, 0), (0, 0), 0, 29), (0, (18, 0), (0, 0), 1, 1), (3, (14, 0), (10, 0), 0, 0), (5, (16, 0), (15, 0), 9, 17), (5, (17, 0), (0, 1), 3, 18), (5, (0, 1), (15, 0), 8, 19), (5, (11, 0), (19, 0), 4, 20)]), (some 15, none, [], [(0, 2, 0, 53), (1, 0, 9, 0), (2, 0, 10, 0), (3, 0, 11, 0), (4, 0, 12, 1)], [], [(0, (14, 0), (0, 0), 0, 29), (7, (18, 0), (0, 0), 1, 0), (3, (14, 0), (10, 0), 0, 0), (5, (16, 0), (15, 0), 9, 17), (5, (17, 0), (0, 1), 3, 18)]), (some 15, none, [], [(0, 2, 0, 53), (1, 0, 9, 0), (2, 0, 10, 0), (3, 0, 11, 0), (4, 0, 12, 1)], [], [(4, (14, 0), (10, 0), 0, 0)])]
theorem lqq3_c : qs_chk (fun pc => Nat.beq pc 15) lqq3_i 4 lqq3_T 400 400 22 230 15 [(0, 2, 0, 53), (1, 0, 9, 0), (2, 0, 10, 0), (3, 0, 11, 0), (4, 0, 12, 0)] [] = true := by decide +kernel
def lqq4_i : List qs_I := [(0, 0, (0, 0), (0, 1073741823)), (0, 0, (0, 0), (0, 29)), (0, 0, (0, 0), (0, 63)), (0, 0, (0, 0), (0, 12)), (1, 53, (0, 8), (0, 12)), (3, 13, (12, 0), (0, 0))]
def lqq4_T : List og_T := [(some 71, none, [(0, 11, 0)], [(0, 2, 0, 53), (1, 0, 9, 0), (2, 0, 10, 0), (3, 0, 11, 0), (4, 0, 12, 0)], [], [])]
theorem lqq4_c : qs_chk (fun pc => Nat.beq pc 71) lqq4_i 0 lqq4_T 400 400 22 230 15 [(0, 2, 0, 53), (1, 0, 9, 0), (2, 0, 10, 0), (3, 0, 11, 0), (4, 0, 12, 0)] [] = true := by decide +kernel
def lqq5_i : List qs_I := [(0, 0, (0, 0), (0, 1073741823)), (0, 0, (0, 0), (0, 29)), (0, 0, (0, 0), (0, 63)), (0, 0, (0, 0), (0, 12)), (0, 0, (0, 0), (0, 31))]
def lqq5_T : List og_T := [(some 4, none, [], [(0, 2, 0, 53), (1, 0, 15, 0), (2, 0, 10, 1)], [], [(0, (13, 0), (0, 0), 2, 31), (5, (0, 1), (10, 0), 8, 14), (5, (9, 0), (14, 0), 4, 15)]), (some 4, none, [], [(0, 2, 0, 53), (1, 0, 9, 0), (2, 0, 10, 1)], [], [(0, (13, 0), (0, 0), 0, 1)])]
theorem lqq5_c : qs_chk (fun pc => Nat.beq pc 4) lqq5_i 2 lqq5_T 400 400 22 230 74 [(0, 2, 0, 53), (1, 0, 9, 0), (2, 0, 10, 0), (3, 0, 11, 0), (4, 0, 12, 0)] [(0, 13, 0)] = true := by decide +kernel
def lqq6_i : List qs_I := [(0, 0, (0, 0), (0, 1073741823))]
def lqq6_T : List og_T := [(none, some (0, 9, 0), [], [], [], [])]
theorem lqq6_c : qs_chk (fun pc => Nat.beq pc 15) lqq6_i 0 lqq6_T 400 400 22 230 4 [(0, 2, 0, 53), (1, 0, 9, 0), (2, 0, 0, 30)] [] = true := by decide +kernel
def ln1_i : List qs_I := []
def ln1_T : List og_T := [(some 4, none, [], [(0, 2, 0, 53), (1, 0, 0, 0), (2, 0, 0, 0)], [], [])]
theorem ln1_c : qs_chk (fun pc => Nat.beq pc 4) ln1_i 0 ln1_T 400 400 22 231 0 [(0, 2, 0, 53)] [] = true := by decide +kernel
def ln2_i : List qs_I := [(0, 0, (0, 0), (0, 63)), (0, 0, (0, 0), (0, 5)), (1, 53, (0, 1), (0, 6)), (2, 11, (10, 0), (0, 0)), (1, 53, (0, 7), (0, 63))]
def ln2_T : List og_T := [(some 25, none, [(0, 10, 0), (2, 0, 53)], [(0, 2, 0, 53), (1, 0, 9, 0), (2, 0, 10, 0)], [], [(0, (14, 0), (0, 0), 1, 1), (5, (12, 0), (10, 0), 9, 13), (5, (13, 0), (0, 1), 3, 14)]), (some 4, none, [], [(0, 2, 0, 53), (1, 0, 9, 0), (2, 0, 10, 1)], [], [(7, (14, 0), (0, 0), 1, 0), (5, (12, 0), (10, 0), 9, 13), (5, (13, 0), (0, 1), 3, 14)])]
theorem ln2_c : qs_chk (fun pc => bif Nat.beq pc 4 then true else Nat.beq pc 25) ln2_i 2 ln2_T 400 400 22 231 4 [(0, 2, 0, 53), (1, 0, 9, 0), (2, 0, 10, 0)] [] = true := by decide +kernel
def ln3_i : List qs_I := [(0, 0, (0, 0), (0, 63)), (0, 0, (0, 0), (0, 5)), (0, 0, (0, 0), (0, 1073741823))]
def ln3_T : List og_T := [(some 4, none, [], [(0, 2, 0, 53), (1, 0, 13, 0), (2, 0, 10, 1)], [], [(0, (11, 0), (0, 0), 0, 0), (5, (0, 1), (10, 0), 8, 12), (5, (9, 0), (12, 0), 4, 13)]), (some 4, none, [], [(0, 2, 0, 53), (1, 0, 9, 0), (2, 0, 10, 1)], [], [(7, (11, 0), (0, 0), 0, 0)])]
theorem ln3_c : qs_chk (fun pc => Nat.beq pc 4) ln3_i 2 ln3_T 400 400 22 231 28 [(0, 2, 0, 53), (1, 0, 9, 0), (2, 0, 10, 0)] [(0, 11, 0)] = true := by decide +kernel
def ln4_i : List qs_I := [(0, 0, (0, 0), (0, 63)), (0, 0, (0, 0), (0, 6)), (1, 53, (0, 1), (0, 6)), (3, 11, (10, 0), (0, 0))]
def ln4_T : List og_T := [(none, some (0, 9, 0), [], [], [], [])]
theorem ln4_c : qs_chk (fun pc => Nat.beq pc 25) ln4_i 0 ln4_T 400 400 22 231 4 [(0, 2, 0, 53), (1, 0, 9, 0), (2, 0, 10, 0)] [] = true := by decide +kernel
def lf0_i : List qs_I := [(0, 0, (0, 0), (0, 6)), (0, 0, (0, 0), (0, 1073741823)), (1, 53, (0, 1), (0, 6)), (4, 11, (9, 0), (0, 0))]
def lf0_T : List og_T := [(none, some (0, 0, 0), [], [], [], [])]
theorem lf0_c : qs_chk (fun pc => Nat.beq pc 15) lf0_i 0 lf0_T 400 400 3 233 0 [(0, 2, 0, 53), (1, 0, 9, 0), (2, 0, 10, 0)] [] = true := by decide +kernel
def lf1_i (e : Nat) : List qs_I := [(0, 0, (0, 0), (0, 5)), (0, 0, (0, 0), (0, 1073741823)), (1, 53, (0, 1), (0, 6)), (5, 11, (9, 0), (0, 0))]
def lf1_T (e : Nat) : List og_T := [(some 15, none, [(0, 10, 0), (0, 9, 1), (2, 0, 53)], [(0, 2, 0, 53), (1, 0, 9, 0), (2, 0, 10, 0)], [], [])]
theorem lf1_c : ((List.range 6).all fun e => qs_chk (fun pc => Nat.beq pc 15) (lf1_i e) 0 (lf1_T e) 400 400 (e + 4) 233 0 [(0, 2, 0, 53), (1, 0, 9, 0), (2, 0, 10, 0)] []) = true := by decide +kernel
def lf2_i (e : Nat) : List qs_I := [(0, 0, (0, 0), (0, 5)), (0, 0, (0, 0), (0, 1073741823)), (0, 0, (0, 0), (0, 6))]
def lf2_T (e : Nat) : List og_T := [(some 21, none, [(0, 9, 0), (2, 0, 53)], [(0, 2, 0, 53), (1, 0, 9, 0), (2, 0, 10, 0), (3, 0, 11, 0)], [], [])]
theorem lf2_c : ((List.range 6).all fun e => qs_chk (fun pc => Nat.beq pc 21) (lf2_i e) 0 (lf2_T e) 400 400 (e + 4) 233 18 [(0, 2, 0, 53), (1, 0, 9, 0), (2, 0, 10, 0)] [(0, 11, 0)]) = true := by decide +kernel
def lf3_i (e : Nat) : List qs_I := [(0, 0, (0, 0), (0, 5)), (0, 0, (0, 0), (0, 1073741823)), (0, 0, (0, 0), (0, 6)), (0, 0, (0, 0), (0, 1073741823))]
def lf3_T (e : Nat) : List og_T := [(some 32, none, [(0, 9, 0), (2, 0, 53)], [(0, 2, 0, 53), (1, 0, 9, 0), (2, 0, 10, 0), (3, 0, 11, 0), (4, 0, 14, 0)], [], [(5, (10, 0), (0, -1), 5, 13), (5, (12, 0), (13, 0), 3, 14)])]
theorem lf3_c : ((List.range 6).all fun e => qs_chk (fun pc => Nat.beq pc 32) (lf3_i e) 2 (lf3_T e) 400 400 (e + 4) 233 24 [(0, 2, 0, 53), (1, 0, 9, 0), (2, 0, 10, 0), (3, 0, 11, 0)] [(0, 12, 0)]) = true := by decide +kernel
def lf4_i (e : Nat) : List qs_I := [(0, 0, (0, 0), (0, 5)), (0, 0, (0, 0), (0, 1073741823)), (0, 0, (0, 0), (0, 6)), (0, 0, (0, 0), (0, 1073741823)), (0, 0, (0, 0), (0, 31))]
def lf4_T (e : Nat) : List og_T := [(some 56, none, [], [(0, 2, 0, 53), (1, 0, 9, 0), (2, 0, 10, 0), (3, 0, 11, 0), (4, 0, 12, 0), (5, 0, 12, 0)], [], [(0, (12, 0), (0, 0), 0, 0), (0, (13, 0), (0, 0), 7, 31)]), (none, some (0, 11, 1), [], [], [], [(0, (13, 0), (0, 0), 7, 31), (7, (12, 0), (0, 0), 0, 0)]), (some 56, none, [], [(0, 2, 0, 53), (1, 0, 9, 0), (2, 0, 10, 0), (3, 0, 11, 0), (4, 0, 12, 0), (5, 0, 12, 0)], [], [(0, (13, 0), (0, 0), 0, 6)])]
theorem lf4_c : ((List.range 6).all fun e => qs_chk (fun pc => Nat.beq pc 56) (lf4_i e) 0 (lf4_T e) 400 400 (e + 4) 233 38 [(0, 2, 0, 53), (1, 0, 9, 0), (2, 0, 10, 0), (3, 0, 11, 0), (4, 0, 12, 0)] [(0, 13, 0)]) = true := by decide +kernel
def lf5_i (e : Nat) : List qs_I := [(0, 0, (0, 0), (0, 5)), (0, 0, (0, 0), (0, 1073741823)), (0, 0, (0, 0), (0, 6)), (0, 0, (0, 0), (0, 1073741823)), (0, 0, (0, 0), (1, 1073741823))]
def lf5_T (e : Nat) : List og_T := [(some 74, none, [(0, 16, 0), (0, 9, 1), (2, 0, 53), (0, 0, 1)], [(0, 2, 0, 53), (1, 0, 9, 0), (2, 0, 10, 0), (3, 0, 11, 0), (4, 0, 12, 0), (5, 0, 13, 0)], [], [(0, (14, 0), (0, 0), -1073741823, -1), (5, (0, 0), (13, 0), 1, 14), (5, (13, 0), (14, 0), 3, 15), (5, (10, 0), (15, 0), 4, 16)])]
theorem lf5_c : ((List.range 6).all fun e => qs_chk (fun pc => Nat.beq pc 74) (lf5_i e) 3 (lf5_T e) 400 400 (e + 4) 233 56 [(0, 2, 0, 53), (1, 0, 9, 0), (2, 0, 10, 0), (3, 0, 11, 0), (4, 0, 12, 0), (5, 0, 13, 0)] []) = true := by decide +kernel
def lf6_i (e : Nat) : List qs_I := [(0, 0, (0, 0), (0, 5)), (0, 0, (0, 0), (0, 1073741823)), (0, 0, (0, 0), (0, 6)), (0, 0, (0, 0), (0, 1073741823)), (0, 0, (0, 0), (1, 1073741823)), (0, 0, (0, 0), (0, 6))]
def lf6_T (e : Nat) : List og_T := [(some 56, none, [], [(0, 2, 0, 53), (1, 0, 9, 0), (2, 0, 10, 0), (3, 0, 14, 1), (4, 0, 12, 0), (5, 0, 15, 0)], [], [(1, (11, 0), (14, 0), 1, 0), (5, (13, 0), (13, -1), 3, 15)]), (some 56, none, [], [(0, 2, 0, 53), (1, 0, 9, 0), (2, 0, 10, 0), (3, 0, 11, 0), (4, 0, 12, 0), (5, 0, 15, 0)], [], [(0, (11, 0), (0, 0), 1, 6), (0, (14, 0), (0, 0), 0, 5), (2, (11, 0), (14, 0), 1, 0), (5, (13, 0), (13, -1), 3, 15)])]
theorem lf6_c : ((List.range 6).all fun e => qs_chk (fun pc => Nat.beq pc 56) (lf6_i e) 1 (lf6_T e) 400 400 (e + 4) 233 77 [(0, 2, 0, 53), (1, 0, 9, 0), (2, 0, 10, 0), (3, 0, 11, 0), (4, 0, 12, 0), (5, 0, 13, 0)] [(0, 14, 0), (0, 0, 1)]) = true := by decide +kernel
def lf7_i (e : Nat) : List qs_I := [(0, 0, (0, 0), (0, 5)), (0, 0, (0, 0), (0, 1073741823)), (0, 0, (0, 0), (0, 6)), (0, 0, (0, 0), (0, 1073741823))]
def lf7_T (e : Nat) : List og_T := [(none, some (0, 11, 0), [], [], [], [])]
theorem lf7_c : ((List.range 6).all fun e => qs_chk (fun pc => Nat.beq pc 74) (lf7_i e) 0 (lf7_T e) 400 400 (e + 4) 233 56 [(0, 2, 0, 53), (1, 0, 9, 0), (2, 0, 10, 0), (3, 0, 11, 0), (4, 0, 12, 0), (5, 0, 0, 0)] []) = true := by decide +kernel
def lg1_i : List qs_I := [(0, 0, (0, 0), sx_r32)]
def lg1_T : List og_T := [(none, some (0, 0, -1), [], [], [], [(0, (9, 0), (0, 0), -2147483648, -1)]), (some 16, none, [(2, 0, 53)], [(0, 2, 0, 53), (1, 0, 9, 0)], [], [(0, (9, 0), (0, 0), 0, 0)]), (some 28, none, [(2, 0, 53)], [(0, 2, 0, 53), (1, 0, 9, 0)], [], [(0, (9, 0), (0, 0), 1, 1), (7, (9, 0), (0, 0), 0, 0)]), (some 37, none, [(0, 0, 0), (0, 0, 0), (2, 0, 53)], [(0, 2, 0, 53), (1, 0, 9, 0)], [], [(0, (9, 0), (0, 0), 0, 2), (7, (9, 0), (0, 0), 0, 0), (7, (9, 0), (0, 0), 1, 0)]), (none, some (0, 0, -1), [], [], [], [(0, (9, 0), (0, 0), 3, 2147483647)])]
theorem lg1_c : qs_chk (fun pc => bif Nat.beq pc 16 then true else bif Nat.beq pc 28 then true else Nat.beq pc 37) lg1_i 0 lg1_T 400 400 23 229 0 [(0, 2, 0, 53), (1, 0, 9, 0)] [] = true := by decide +kernel
def lg2_i : List qs_I := [(0, 0, (0, 0), sx_r32)]
def lg2_T : List og_T := [(none, some (0, 9, 0), [], [], [], [])]
theorem lg2_c : qs_chk (fun _ => false) lg2_i 0 lg2_T 400 400 23 229 19 [] [(0, 9, 0)] = true := by decide +kernel
def lg3_i : List qs_I := [(0, 0, (0, 0), sx_r32)]
def lg3_T : List og_T := [(none, some (0, 9, 0), [], [], [], [])]
theorem lg3_c : qs_chk (fun _ => false) lg3_i 0 lg3_T 400 400 23 229 31 [] [(0, 9, 0)] = true := by decide +kernel
def lg4_i : List qs_I := [(0, 0, (0, 0), sx_r32)]
def lg4_T : List og_T := [(none, some (0, 9, 0), [], [], [], [])]
theorem lg4_c : qs_chk (fun _ => false) lg4_i 0 lg4_T 400 400 23 229 40 [] [(0, 9, 0)] = true := by decide +kernel
/-- clashes -/
def lrO (M : Nat → Nat → Int) (nc s d : Nat) : Nat := osn (fun c => decide (M 60 c = (d : Int)) && decide (vq_bt (s : Int) (M 59 c) = 1)) (M 59) nc
def lrC (M : Nat → Nat → Int) (nc s d : Nat) : Bool := decide (1 < bcn (lrO M nc s d))
theorem lqq_own {H s g t : Nat} (hL : L < 2 ^ 31) (hh : lrH M H s nc g t) {d n : Nat} (hd : d ≤ 29) (hnn : n < 2 ^ 30) {Q : Option Value → (Nat → Nat → Int) → Prop} (next : ∀ K, sx_mok cl_ly K → (∀ a, a < 128 → K a = M a) → rz_fin Q L xs 230 22 15 [(0, .ref 53), (1, .int (Int32.ofInt (n : Int))), (2, .int (Int32.ofInt (d : Int))), (3, .int (Int32.ofInt ((lrO M nc s d : Nat) : Int))), (4, .int (Int32.ofInt (nc : Int)))] [] K) : ∀ (k c : Nat) (M' : Nat → Nat → Int), c + k = nc → sx_mok cl_ly M' → (∀ a, a < 128 → M' a = M a) → rz_fin Q L xs 230 22 15 [(0, .ref 53), (1, .int (Int32.ofInt (n : Int))), (2, .int (Int32.ofInt (d : Int))), (3, .int (Int32.ofInt ((osn (fun c => decide (M 60 c = (d : Int)) && decide (vq_bt (s : Int) (M 59 c) = 1)) (M 59) c : Nat) : Int))), (4, .int (Int32.ofInt (c : Int)))] [] M' := by
  obtain ⟨h1, h2, h3, h4, h6, h7, h8, h9, h10, h11, h12⟩ := hh
  intro k
  induction k with
  | zero =>
    intro c M' hk hm hf
    have e : c = nc := by omega
    subst e
    exact next M' hm hf
  | succ k ih =>
    intro c M' hk hm hf
    have o64 : osn (fun c => decide (M 60 c = (d : Int)) && decide (vq_bt (s : Int) (M 59 c) = 1)) (M 59) c < 64 := osn_lt c (fun i hi => (h12 i (by omega)).1)
    obtain ⟨o, eo⟩ : ∃ o, osn (fun c => decide (M 60 c = (d : Int)) && decide (vq_bt (s : Int) (M 59 c) = 1)) (M 59) c = o := ⟨_, rfl⟩
    have e1 : osn (fun c => decide (M 60 c = (d : Int)) && decide (vq_bt (s : Int) (M 59 c) = 1)) (M 59) (c + 1) = if (decide (M 60 c = (d : Int)) && decide (vq_bt (s : Int) (M 59 c) = 1)) = true then o ||| 2 ^ (M 59 c).toNat else o := by rw [← eo]; rfl
    obtain ⟨⟨o1, o2⟩, o3, o4⟩ := h12 c (by omega)
    obtain ⟨w, ew⟩ := Int.eq_ofNat_of_zero_le o1
    have b9 := vq_b9 (s : Int) (show w < 32 by omega)
    have z59 : M' 59 c = (w : Int) := by rw [hf 59 (by decide)]; exact ew
    have z60 : M' 60 c = M 60 c := by rw [hf 60 (by decide)]
    rw [ew, Int.toNat_natCast] at e1
    rw [eo] at o64 ⊢
    generalize M 60 c = v at o3 o4 z60 e1
    have o34 : -1 ≤ v ∧ v ≤ 29 := ⟨o3, o4⟩
    refine qs_use (zs := [(n : Int), (d : Int), (o : Int), (c : Int), (nc : Int), v, (w : Int), (s : Int)]) lqq3_c hL hm (qs_in (show 0 ≤ (n : Int) ∧ (n : Int) ≤ 1073741823 by omega) (qs_in (show 0 ≤ (d : Int) ∧ (d : Int) ≤ 29 by omega) (qs_in (show 0 ≤ (o : Int) ∧ (o : Int) ≤ 63 by omega) (qs_in (show 0 ≤ (c : Int) ∧ (c : Int) ≤ 11 by omega) (qs_rd (show (0 : Int) ≤ 8 by decide) (by rw [hf 53 (by decide)]; exact h6) (show 0 ≤ (nc : Int) ∧ (nc : Int) ≤ 12 by omega) (qs_lt (show (c : Int) < (nc : Int) by omega) (qs_rd (show 0 ≤ (c : Int) by omega) z60 o34 (qs_rd (show 0 ≤ (c : Int) by omega) z59 (show 0 ≤ (w : Int) ∧ (w : Int) ≤ 5 by omega) (qs_rd (show (0 : Int) ≤ 7 by decide) (by rw [hf 53 (by decide)]; exact h3) (show 0 ≤ (s : Int) ∧ (s : Int) ≤ 63 by omega) (qs_fin rfl)))))))))) (Nat.le_refl _) rfl rfl (qs_c (fun u1 u2 u3 u4 K hK hc hM => ?_) (qs_c (fun u1 u2 u3 u4 K hK hc hM => ?_) (qs_c (fun u1 u2 u3 u4 K hK hc hM => ?_) qs_z)))
    · obtain ⟨c1, c2, c3, c4, c5, c6, c7, -⟩ := hc
      have c1 : 0 ≤ v ∧ v ≤ 29 := c1
      have c2 : 1 ≤ u2 ∧ u2 ≤ 1 := c2
      have c3 : v = (d : Int) := c3
      have c4 : u1 = sx_mf 9 (s : Int) (w : Int) := c4
      have c5 : u2 = sx_mf 3 u1 1 := c5
      have c6 : u3 = sx_mf 8 1 (w : Int) := c6
      have c7 : u4 = sx_mf 4 (o : Int) u3 := c7
      have fK : ∀ a, a < 128 → K a = M' a := hM
      rw [c4, b9] at c5
      have bs : vq_bt (s : Int) (w : Int) = 1 := by omega
      have p2 := lk_p (k := w) (by omega)
      have e2 : u4 = ((o ||| 2 ^ w : Nat) : Int) := by rw [c7, c6, lk_s (by omega), fd_or (by omega) p2]
      have g := ih (c + 1) K (by omega) hK (fun a ha => (fK a ha).trans (hf a ha))
      rw [e1, if_pos (by rw [decide_eq_true c3, decide_eq_true bs]; rfl), ← e2] at g
      exact g
    · obtain ⟨c1, c2, c3, c4, c5, -⟩ := hc
      have c1 : 0 ≤ v ∧ v ≤ 29 := c1
      have c2 : u2 ≠ 1 := c2
      have c3 : v = (d : Int) := c3
      have c4 : u1 = sx_mf 9 (s : Int) (w : Int) := c4
      have c5 : u2 = sx_mf 3 u1 1 := c5
      have fK : ∀ a, a < 128 → K a = M' a := hM
      rw [c4, b9] at c5
      have bs : ¬ vq_bt (s : Int) (w : Int) = 1 := by omega
      have g := ih (c + 1) K (by omega) hK (fun a ha => (fK a ha).trans (hf a ha))
      rw [e1, if_neg (by rw [decide_eq_false bs, Bool.and_false]; decide)] at g
      exact g
    · obtain ⟨c1, -⟩ := hc
      have c1 : ¬ v = (d : Int) := c1
      have fK : ∀ a, a < 128 → K a = M' a := hM
      have g := ih (c + 1) K (by omega) hK (fun a ha => (fK a ha).trans (hf a ha))
      rw [e1, if_neg (by rw [decide_eq_false c1, Bool.false_and]; decide)] at g
      exact g
theorem lqq_loop {H s g t : Nat} (hL : L < 2 ^ 31) (hh : lrH M H s nc g t) : ∀ (k d : Nat) (M' : Nat → Nat → Int), d + k = 30 → sx_mok cl_ly M' → (∀ a, a < 128 → M' a = M a) → rz_fin (fun r N => r = some (.int (Int32.ofInt ((dsn (lrC M nc s) 30 : Nat) : Int))) ∧ sx_mok cl_ly N ∧ ∀ a, a < 128 → N a = M a) L xs 230 22 4 [(0, .ref 53), (1, .int (Int32.ofInt ((dsn (lrC M nc s) d : Nat) : Int))), (2, .int (Int32.ofInt (d : Int)))] [] M' := by
  intro k
  induction k with
  | zero =>
    intro d M' hk hm hf
    have e : d = 30 := by omega
    subst e
    have lt : dsn (lrC M nc s) 30 < 2 ^ 30 := dsn_lt 30
    refine qs_use (zs := [((dsn (lrC M nc s) 30 : Nat) : Int)]) lqq6_c hL hm (qs_in (show 0 ≤ ((dsn (lrC M nc s) 30 : Nat) : Int) ∧ ((dsn (lrC M nc s) 30 : Nat) : Int) ≤ 1073741823 by omega) (qs_fin rfl)) (Nat.le_refl _) rfl rfl (qs_c (fun K hK hc hM => ?_) qs_z)
    exact ⟨rfl, hK, (fun a ha => ((show ∀ a, a < 128 → K a = M' a from hM) a ha).trans (hf a ha))⟩
  | succ k ih =>
    intro d M' hk hm hf
    have lt0 : dsn (lrC M nc s) d < 2 ^ d := dsn_lt d
    have pd : 2 ^ d < 2 ^ 30 := Nat.pow_lt_pow_right (by decide) (by omega)
    obtain ⟨n, en⟩ : ∃ n, dsn (lrC M nc s) d = n := ⟨_, rfl⟩
    have e1 : dsn (lrC M nc s) (d + 1) = if lrC M nc s d = true then n ||| 2 ^ d else n := by rw [← en]; rfl
    rw [en] at lt0 ⊢
    have n30 : n < 2 ^ 30 := by omega
    refine qs_use (zs := [(n : Int), (d : Int)]) lqq2_c hL hm (qs_in (show 0 ≤ (n : Int) ∧ (n : Int) ≤ 1073741823 by omega) (qs_in (show 0 ≤ (d : Int) ∧ (d : Int) ≤ 29 by omega) (qs_fin rfl))) (Nat.le_refl _) rfl rfl (qs_c (fun K hK hc hM => ?_) qs_z)
    refine lqq_own (xs := xs) (n := n) (d := d) hL hh (by omega) n30 (fun K2 hK2 f2 => ?_) nc 0 K (by omega) hK (fun a ha => ((show ∀ a, a < 128 → K a = M' a from hM) a ha).trans (hf a ha))
    obtain ⟨h1, h2, h3, h4, h6, h7, h8, h9, h10, h11, h12⟩ := id hh
    have o64 : lrO M nc s d < 64 := osn_lt nc (fun i hi => (h12 i hi).1)
    obtain ⟨o, eo⟩ : ∃ o, lrO M nc s d = o := ⟨_, rfl⟩
    have eC : lrC M nc s d = decide (1 < bcn o) := by rw [← eo]; rfl
    rw [eo] at o64 ⊢
    refine qs_use (zs := [(n : Int), (d : Int), (o : Int), (nc : Int), (nc : Int)]) lqq4_c hL hK2 (qs_in (show 0 ≤ (n : Int) ∧ (n : Int) ≤ 1073741823 by omega) (qs_in (show 0 ≤ (d : Int) ∧ (d : Int) ≤ 29 by omega) (qs_in (show 0 ≤ (o : Int) ∧ (o : Int) ≤ 63 by omega) (qs_in (show 0 ≤ (nc : Int) ∧ (nc : Int) ≤ 12 by omega) (qs_rd (show (0 : Int) ≤ 8 by decide) (by rw [f2 53 (by decide)]; exact h6) (show 0 ≤ (nc : Int) ∧ (nc : Int) ≤ 12 by omega) (qs_ge (show ¬ (nc : Int) < (nc : Int) by omega) (qs_fin rfl))))))) (Nat.le_refl _) rfl rfl (qs_c (fun K3 hK3 hc hM => ?_) qs_z)
    have f3 : ∀ a, a < 128 → K3 a = M a := (fun a ha => ((show ∀ a, a < 128 → K3 a = K2 a from hM) a ha).trans (f2 a ha))
    have bc := lb_x (xs := xs) (n := o) hL hK3 (by omega)
    show rz_fin _ L xs 230 22 71 [(0, .ref 53), (1, .int (Int32.ofInt (n : Int))), (2, .int (Int32.ofInt (d : Int))), (3, .int (Int32.ofInt (o : Int))), (4, .int (Int32.ofInt (nc : Int)))] [.int (Int32.ofInt (o : Int))] K3
    refine qs_sc (k := 222) (d := 21) (d' := 21) (as := [.int (Int32.ofInt (o : Int))]) (rest := []) rfl rfl rfl rfl rfl rfl rfl (Nat.le_refl _) rfl (rz_d (by decide) bc) (fun r9 K4 hr => ?_)
    obtain ⟨rfl, hK4, f4⟩ := hr
    have p31 : bcn o ≤ 31 := mcn_n 31
    generalize bcn o = p at p31 eC ⊢
    show rz_fin _ L xs 230 22 74 [(0, .ref 53), (1, .int (Int32.ofInt (n : Int))), (2, .int (Int32.ofInt (d : Int))), (3, .int (Int32.ofInt (o : Int))), (4, .int (Int32.ofInt (nc : Int)))] [.int (Int32.ofInt (p : Int))] K4
    have f4' : ∀ a, a < 128 → K4 a = M a := fun a ha => (f4 a ha).trans (f3 a ha)
    refine qs_use (zs := [(n : Int), (d : Int), (o : Int), (nc : Int), (p : Int)]) lqq5_c hL hK4 (qs_in (show 0 ≤ (n : Int) ∧ (n : Int) ≤ 1073741823 by omega) (qs_in (show 0 ≤ (d : Int) ∧ (d : Int) ≤ 29 by omega) (qs_in (show 0 ≤ (o : Int) ∧ (o : Int) ≤ 63 by omega) (qs_in (show 0 ≤ (nc : Int) ∧ (nc : Int) ≤ 12 by omega) (qs_in (show 0 ≤ (p : Int) ∧ (p : Int) ≤ 31 by omega) (qs_fin rfl)))))) (Nat.le_refl _) rfl rfl (qs_c (fun u1 u2 K5 hK5 hc hM => ?_) (qs_c (fun u1 u2 K5 hK5 hc hM => ?_) qs_z))
    · obtain ⟨c1, c2, c3, -⟩ := hc
      have c1 : 2 ≤ (p : Int) ∧ (p : Int) ≤ 31 := c1
      have c2 : u1 = sx_mf 8 1 (d : Int) := c2
      have c3 : u2 = sx_mf 4 (n : Int) u1 := c3
      have fK5 : ∀ a, a < 128 → K5 a = K4 a := hM
      have e2 : u2 = ((n ||| 2 ^ d : Nat) : Int) := by rw [c3, c2, lk_s (by omega), fd_or (by omega) (lk_p (by omega))]
      have g := ih (d + 1) K5 (by omega) hK5 (fun a ha => (fK5 a ha).trans (f4' a ha))
      rw [e1, eC, if_pos (decide_eq_true (show 1 < p by omega)), ← e2] at g
      exact g
    · obtain ⟨c1, -⟩ := hc
      have c1 : 0 ≤ (p : Int) ∧ (p : Int) ≤ 1 := c1
      have fK5 : ∀ a, a < 128 → K5 a = K4 a := hM
      have g := ih (d + 1) K5 (by omega) hK5 (fun a ha => (fK5 a ha).trans (f4' a ha))
      rw [e1, eC, if_neg (fun q => by have := of_decide_eq_true q; omega)] at g
      exact g
/-- without -/
def lrW (M : Nat → Nat → Int) (s nc g t h : Nat) : Bool := decide (vq_bt (s : Int) (h : Int) = 1) && decide (dsn (lrE M s nc g t h) 30 = 0)
theorem ln_loop {H s g t : Nat} (hL : L < 2 ^ 31) (hh : lrH M H s nc g t) : ∀ (k h : Nat) (M' : Nat → Nat → Int), h + k = H → sx_mok cl_ly M' → (∀ a, a < 128 → M' a = M a) → rz_fin (fun r N => r = some (.int (Int32.ofInt ((dsn (lrW M s nc g t) H : Nat) : Int))) ∧ sx_mok cl_ly N ∧ ∀ a, a < 128 → N a = M a) L xs 231 22 4 [(0, .ref 53), (1, .int (Int32.ofInt ((dsn (lrW M s nc g t) h : Nat) : Int))), (2, .int (Int32.ofInt (h : Int)))] [] M' := by
  obtain ⟨h1, h2, h3, h4, h6, h7, h8, h9, h10, h11, h12⟩ := id hh
  intro k
  induction k with
  | zero =>
    intro h M' hk hm hf
    have e : h = H := by omega
    subst e
    have lt0 : dsn (lrW M s nc g t) h < 2 ^ h := dsn_lt h
    have pd : 2 ^ h ≤ 2 ^ 6 := Nat.pow_le_pow_right (by decide) (by omega)
    generalize dsn (lrW M s nc g t) h = n at lt0 ⊢
    refine qs_use (zs := [(n : Int), (h : Int), (h : Int)]) ln4_c hL hm (qs_in (show 0 ≤ (n : Int) ∧ (n : Int) ≤ 63 by omega) (qs_in (show 0 ≤ (h : Int) ∧ (h : Int) ≤ 6 by omega) (qs_rd (show (0 : Int) ≤ 1 by decide) (by rw [hf 53 (by decide)]; exact h1) (show 0 ≤ (h : Int) ∧ (h : Int) ≤ 6 by omega) (qs_ge (show ¬ (h : Int) < (h : Int) by omega) (qs_fin rfl))))) (Nat.le_refl _) rfl rfl (qs_c (fun K hK hc hM => ?_) qs_z)
    exact ⟨rfl, hK, (fun a ha => ((show ∀ a, a < 128 → K a = M' a from hM) a ha).trans (hf a ha))⟩
  | succ k ih =>
    intro h M' hk hm hf
    have lt0 : dsn (lrW M s nc g t) h < 2 ^ h := dsn_lt h
    have pd : 2 ^ h < 2 ^ 6 := Nat.pow_lt_pow_right (by decide) (by omega)
    obtain ⟨n, en⟩ : ∃ n, dsn (lrW M s nc g t) h = n := ⟨_, rfl⟩
    have e1 : dsn (lrW M s nc g t) (h + 1) = if lrW M s nc g t h = true then n ||| 2 ^ h else n := by rw [← en]; rfl
    rw [en] at lt0 ⊢
    have b9 := vq_b9 (s : Int) (show h < 32 by omega)
    refine qs_use (zs := [(n : Int), (h : Int), (H : Int), (s : Int)]) ln2_c hL hm (qs_in (show 0 ≤ (n : Int) ∧ (n : Int) ≤ 63 by omega) (qs_in (show 0 ≤ (h : Int) ∧ (h : Int) ≤ 5 by omega) (qs_rd (show (0 : Int) ≤ 1 by decide) (by rw [hf 53 (by decide)]; exact h1) (show 0 ≤ (H : Int) ∧ (H : Int) ≤ 6 by omega) (qs_lt (show (h : Int) < (H : Int) by omega) (qs_rd (show (0 : Int) ≤ 7 by decide) (by rw [hf 53 (by decide)]; exact h3) (show 0 ≤ (s : Int) ∧ (s : Int) ≤ 63 by omega) (qs_fin rfl)))))) (Nat.le_refl _) rfl rfl (qs_c (fun u1 u2 K hK hc hM => ?_) (qs_c (fun u1 u2 K hK hc hM => ?_) qs_z))
    · obtain ⟨c1, c2, c3, -⟩ := hc
      have c1 : 1 ≤ u2 ∧ u2 ≤ 1 := c1
      have c2 : u1 = sx_mf 9 (s : Int) (h : Int) := c2
      have c3 : u2 = sx_mf 3 u1 1 := c3
      have fK : ∀ a, a < 128 → K a = M' a := hM
      rw [c2, b9] at c3
      have bs : vq_bt (s : Int) (h : Int) = 1 := by omega
      have fK' : ∀ a, a < 128 → K a = M a := fun a ha => (fK a ha).trans (hf a ha)
      have hhK : lrH K H s nc g t := by
        unfold lrH
        rw [fK' 53 (by decide), fK' 59 (by decide), fK' 60 (by decide)]
        exact hh
      have dx := ld_x (xs := xs) (M := K) (h := h) hL hK hhK (by omega)
      have eE : lrE K s nc g t h = lrE M s nc g t h := by
        unfold lrE
        rw [fK' 59 (by decide), fK' 60 (by decide)]
      rw [eE] at dx
      show rz_fin _ L xs 231 22 25 [(0, .ref 53), (1, .int (Int32.ofInt (n : Int))), (2, .int (Int32.ofInt (h : Int)))] [.int (Int32.ofInt (h : Int)), .ref 53] K
      refine qs_vc (k := 232) (b := 53) (d := 21) (d' := 21) (rest := []) rfl rfl rfl rfl rfl rfl rfl rfl (Nat.le_refl _) rfl (rz_d (by decide) dx) (fun r9 K2 hr => ?_)
      obtain ⟨rfl, hK2, f2⟩ := hr
      have f2' : ∀ a, a < 128 → K2 a = M a := fun a ha => (f2 a ha).trans (fK' a ha)
      have x30 : dsn (lrE M s nc g t h) 30 < 2 ^ 30 := dsn_lt 30
      obtain ⟨x, ex⟩ : ∃ x, dsn (lrE M s nc g t h) 30 = x := ⟨_, rfl⟩
      have eW : lrW M s nc g t h = decide (x = 0) := by
        unfold lrW
        rw [decide_eq_true bs, ex]
        all_goals rfl
      rw [ex] at x30 ⊢
      refine qs_use (zs := [(n : Int), (h : Int), (x : Int)]) ln3_c hL hK2 (qs_in (show 0 ≤ (n : Int) ∧ (n : Int) ≤ 63 by omega) (qs_in (show 0 ≤ (h : Int) ∧ (h : Int) ≤ 5 by omega) (qs_in (show 0 ≤ (x : Int) ∧ (x : Int) ≤ 1073741823 by omega) (qs_fin rfl)))) (Nat.le_refl _) rfl rfl (qs_c (fun u1 u2 K3 hK3 hc hM => ?_) (qs_c (fun u1 u2 K3 hK3 hc hM => ?_) qs_z))
      · obtain ⟨c1, c2, c3, -⟩ := hc
        have c1 : 0 ≤ (x : Int) ∧ (x : Int) ≤ 0 := c1
        have c2 : u1 = sx_mf 8 1 (h : Int) := c2
        have c3 : u2 = sx_mf 4 (n : Int) u1 := c3
        have fK3 : ∀ a, a < 128 → K3 a = K2 a := hM
        have e2 : u2 = ((n ||| 2 ^ h : Nat) : Int) := by rw [c3, c2, lk_s (by omega), fd_or (by omega) (lk_p (by omega))]
        have g := ih (h + 1) K3 (by omega) hK3 (fun a ha => (fK3 a ha).trans (f2' a ha))
        rw [e1, eW, if_pos (decide_eq_true (show x = 0 by omega)), ← e2] at g
        exact g
      · obtain ⟨c1, -⟩ := hc
        have c1 : (x : Int) ≠ 0 := c1
        have fK3 : ∀ a, a < 128 → K3 a = K2 a := hM
        have g := ih (h + 1) K3 (by omega) hK3 (fun a ha => (fK3 a ha).trans (f2' a ha))
        rw [e1, eW, if_neg (fun q => by have := of_decide_eq_true q; omega)] at g
        exact g
    · obtain ⟨c1, c2, c3, -⟩ := hc
      have c1 : u2 ≠ 1 := c1
      have c2 : u1 = sx_mf 9 (s : Int) (h : Int) := c2
      have c3 : u2 = sx_mf 3 u1 1 := c3
      have fK : ∀ a, a < 128 → K a = M' a := hM
      rw [c2, b9] at c3
      have bs : ¬ vq_bt (s : Int) (h : Int) = 1 := by omega
      have eW : lrW M s nc g t h = false := by
        unfold lrW
        rw [decide_eq_false bs]
        all_goals rfl
      have g := ih (h + 1) K (by omega) hK (fun a ha => (fK a ha).trans (hf a ha))
      rw [e1, eW, if_neg (by decide)] at g
      exact g
/-- the greatest of what days give, day by day -/
theorem mfd_q {g : Nat → Nat} {p q : Nat → Bool} {r : Nat} : ∀ n, (∀ i, i < n → q i = p i) → mfd g q n r = mfd g p n r := by
  intro n
  induction n with
  | zero => intro _; rfl
  | succ n ih =>
    intro e
    show max (mfd g q n r) (if q n = true then 1 + g n else 0) = max (mfd g p n r) (if p n = true then 1 + g n else 0)
    rw [ih (fun i hi => e i (by omega)), e n (Nat.lt_succ_self n)]
theorem mfd_max {g : Nat → Nat} {p : Nat → Bool} {r v : Nat} : ∀ n, mfd g p n (max r v) = max (mfd g p n r) v := by
  intro n
  induction n with
  | zero => rfl
  | succ n ih =>
    show max (mfd g p n (max r v)) (if p n = true then 1 + g n else 0) = max (max (mfd g p n r) (if p n = true then 1 + g n else 0)) v
    rw [ih, Nat.max_assoc, Nat.max_comm v, ← Nat.max_assoc]
theorem mfd_rm {g : Nat → Nat} {p q : Nat → Bool} {r j : Nat} (hj : p j = true) : ∀ n, j < n → (∀ i, i < n → q i = (p i && !decide (i = j))) → mfd g p n r = mfd g q n (max r (1 + g j)) := by
  intro n
  induction n with
  | zero => intro h0; omega
  | succ n ih =>
    intro h0 e
    show max (mfd g p n r) (if p n = true then 1 + g n else 0) = max (mfd g q n (max r (1 + g j))) (if q n = true then 1 + g n else 0)
    by_cases c : n = j
    · have qn : q n = false := by
        rw [e n (Nat.lt_succ_self n), decide_eq_true c]
        cases p n <;> rfl
      have s : mfd g q n r = mfd g p n r := mfd_q n (fun d hd => by
        rw [e d (by omega), decide_eq_false (show ¬ d = j by omega)]
        cases p d <;> rfl)
      rw [qn, mfd_max, s, show p n = true by rw [c]; exact hj, if_pos rfl, if_neg (by decide), c]
      exact (Nat.max_eq_left (Nat.zero_le _)).symm
    · have qn : q n = p n := by
        rw [e n (Nat.lt_succ_self n), decide_eq_false c]
        cases p n <;> rfl
      rw [qn, ih (by omega) (fun i hi => e i (by omega))]
theorem mfd_0 {g : Nat → Nat} {p : Nat → Bool} {r : Nat} : ∀ n, (∀ i, i < n → p i = false) → mfd g p n r = r := by
  intro n
  induction n with
  | zero => intro _; rfl
  | succ n ih =>
    intro e
    show max (mfd g p n r) (if p n = true then 1 + g n else 0) = r
    rw [ih (fun i hi => e i (by omega)), e n (Nat.lt_succ_self n), if_neg (by decide)]
    exact Nat.max_eq_left (Nat.zero_le r)
theorem mgr_m {D : Nat → Nat → Bool} {m h : Nat} {U : Nat → Bool} : mgr D m h U ≤ m := by
  obtain ⟨A, f, -, es⟩ := mgr_at (D := D) m h U
  rw [← es]
  exact msz_le m h
def lfG (L : Nat) (xs : Nat → Int32) (M : Nat → Nat → Int) (H s nc g t e : Nat) : Prop := ∀ (h u : Nat) (M' : Nat → Nat → Int), h + e = H → u < 2 ^ 30 → mcn u.testBit 30 + e ≤ 6 → sx_mok cl_ly M' → (∀ a, a < 128 → M' a = M a) → rz_fin (fun r N => r = some (.int (Int32.ofInt ((mgr (lrE M s nc g t) e h u.testBit : Nat) : Int))) ∧ sx_mok cl_ly N ∧ ∀ a, a < 128 → N a = M a) L xs 233 (e + 3) 0 [(0, .ref 53), (1, .int (Int32.ofInt (h : Int))), (2, .int (Int32.ofInt (u : Int)))] [] M'
theorem lf_leaf {H s g t : Nat} (hL : L < 2 ^ 31) (hh : lrH M H s nc g t) : lfG L xs M H s nc g t 0 := fun h u M' hk hu _ hm hf => by
  obtain ⟨h1, h2, -⟩ := hh
  have e : h = H := by omega
  subst e
  refine qs_use (zs := [(h : Int), (u : Int), (h : Int)]) lf0_c hL hm (qs_in (show 0 ≤ (h : Int) ∧ (h : Int) ≤ 6 by omega) (qs_in (show 0 ≤ (u : Int) ∧ (u : Int) ≤ 1073741823 by omega) (qs_rd (show (0 : Int) ≤ 1 by decide) (by rw [hf 53 (by decide)]; exact h1) (show 0 ≤ (h : Int) ∧ (h : Int) ≤ 6 by omega) (qs_eq (show (h : Int) = (h : Int) by omega) (qs_fin rfl))))) (Nat.le_refl _) rfl rfl (qs_c (fun K hK hc hM => ?_) qs_z)
  exact ⟨rfl, hK, (fun a ha => ((show ∀ a, a < 128 → K a = M' a from hM) a ha).trans (hf a ha))⟩
theorem lf_loop {H s g t e h u y : Nat} (hL : L < 2 ^ 31) (h6 : e < 6) (ih : lfG L xs M H s nc g t e) (hk : h + 1 + e = H) (hH : H ≤ 6) (hu : u < 2 ^ 30) (hcu : mcn u.testBit 30 + (e + 1) ≤ 6) (hy : y < 2 ^ 30) : ∀ (n b : Nat) (M' : Nat → Nat → Int), n < 2 ^ 30 → b ≤ e + 1 → sx_mok cl_ly M' → (∀ a, a < 128 → M' a = M a) → rz_fin (fun r N => r = some (.int (Int32.ofInt ((mfd (fun d => mgr (lrE M s nc g t) e (h + 1) (mup u.testBit d)) n.testBit 30 b : Nat) : Int))) ∧ sx_mok cl_ly N ∧ ∀ a, a < 128 → N a = M a) L xs 233 (e + 4) 56 [(0, .ref 53), (1, .int (Int32.ofInt (h : Int))), (2, .int (Int32.ofInt (u : Int))), (3, .int (Int32.ofInt (b : Int))), (4, .int (Int32.ofInt (y : Int))), (5, .int (Int32.ofInt (n : Int)))] [] M' := by
  intro n
  induction n using Nat.strongRecOn with
  | _ n jh =>
    intro b M' hn hb hm hf
    by_cases z : n = 0
    · subst z
      rw [mfd_0 30 (fun i _ => Nat.zero_testBit i)]
      refine qs_use (zs := [(h : Int), (u : Int), (b : Int), (y : Int)]) (List.all_eq_true.mp lf7_c e (List.mem_range.mpr h6)) hL hm (qs_in (show 0 ≤ (h : Int) ∧ (h : Int) ≤ 5 by omega) (qs_in (show 0 ≤ (u : Int) ∧ (u : Int) ≤ 1073741823 by omega) (qs_in (show 0 ≤ (b : Int) ∧ (b : Int) ≤ 6 by omega) (qs_in (show 0 ≤ (y : Int) ∧ (y : Int) ≤ 1073741823 by omega) (qs_fin rfl))))) (Nat.le_refl _) rfl rfl (qs_c (fun K hK hc hM => ?_) qs_z)
      exact ⟨rfl, hK, (fun a ha => ((show ∀ a, a < 128 → K a = M' a from hM) a ha).trans (hf a ha))⟩
    · obtain ⟨j, k, j1, j2, j3, j4, j5, j6⟩ := lk_low (n := n) (by omega) (by omega)
      have j30 : j < 30 := Decidable.byContradiction fun c => by
        rw [lk_b0 hn (show 30 ≤ j by omega)] at j2
        exact absurd j2 (by decide)
      have pj : 2 ^ j < 2 ^ 30 := Nat.pow_lt_pow_right (by decide) j30
      have o30 : u ||| 2 ^ j < 2 ^ 30 := Nat.or_lt_two_pow hu pj
      have eU : (u ||| 2 ^ j).testBit = mup u.testBit j := by
        funext x
        show (u ||| 2 ^ j).testBit x = (u.testBit x || decide (x = j))
        rw [Nat.testBit_or, Nat.testBit_two_pow]
        by_cases c : j = x
        · rw [decide_eq_true c, decide_eq_true c.symm]
        · rw [decide_eq_false c, decide_eq_false (fun q => c q.symm)]
      have cU : mcn (u ||| 2 ^ j).testBit 30 + e ≤ 6 := by
        rw [eU]
        have q1 := mcn_or (p := u.testBit) (q := fun d => decide (d = j)) 30
        have q2 := mcn_one j 30
        rw [if_pos j30] at q2
        have q3 : mcn (mup u.testBit j) 30 = mcn (fun d => u.testBit d || decide (d = j)) 30 := rfl
        omega
      refine qs_use (zs := [(h : Int), (u : Int), (b : Int), (y : Int), (n : Int)]) (List.all_eq_true.mp lf5_c e (List.mem_range.mpr h6)) hL hm (qs_in (show 0 ≤ (h : Int) ∧ (h : Int) ≤ 5 by omega) (qs_in (show 0 ≤ (u : Int) ∧ (u : Int) ≤ 1073741823 by omega) (qs_in (show 0 ≤ (b : Int) ∧ (b : Int) ≤ 6 by omega) (qs_in (show 0 ≤ (y : Int) ∧ (y : Int) ≤ 1073741823 by omega) (qs_in (show 1 ≤ (n : Int) ∧ (n : Int) ≤ 1073741823 by omega) (qs_fin rfl)))))) (Nat.le_refl _) rfl rfl (qs_c (fun u1 u2 u3 K hK hc hM => ?_) qs_z)
      obtain ⟨c1, c2, c3, c4, -⟩ := hc
      have c1 : -1073741823 ≤ u1 ∧ u1 ≤ -1 := c1
      have c2 : u1 = sx_mf 1 0 (n : Int) := c2
      have c3 : u2 = sx_mf 3 (n : Int) u1 := c3
      have c4 : u3 = sx_mf 4 (u : Int) u2 := c4
      have fK : ∀ a, a < 128 → K a = M' a := hM
      rw [c2, j3] at c3
      rw [c3, fd_or (by omega) (by omega)] at c4
      subst c4
      have call := ih (h + 1) (u ||| 2 ^ j) K (by omega) o30 cU hK (fun a ha => (fK a ha).trans (hf a ha))
      rw [eU] at call
      have gm : mgr (lrE M s nc g t) e (h + 1) (mup u.testBit j) ≤ e := mgr_m
      have step : mfd (fun d => mgr (lrE M s nc g t) e (h + 1) (mup u.testBit d)) n.testBit 30 b = mfd (fun d => mgr (lrE M s nc g t) e (h + 1) (mup u.testBit d)) k.testBit 30 (max b (1 + mgr (lrE M s nc g t) e (h + 1) (mup u.testBit j))) := mfd_rm j2 30 j30 (fun i _ => j6 i)
      rw [step]
      generalize mgr (lrE M s nc g t) e (h + 1) (mup u.testBit j) = w at gm call ⊢
      show rz_fin _ L xs 233 (e + 4) 74 [(0, .ref 53), (1, .int (Int32.ofInt (h : Int))), (2, .int (Int32.ofInt (u : Int))), (3, .int (Int32.ofInt (b : Int))), (4, .int (Int32.ofInt (y : Int))), (5, .int (Int32.ofInt (n : Int)))] [.int (Int32.ofInt ((u ||| 2 ^ j : Nat) : Int)), .int (Int32.ofInt ((h + 1 : Nat) : Int)), .ref 53, .int (Int32.ofInt 1)] K
      refine qs_vc (k := 233) (b := 53) (d := e + 3) (d' := e + 3) (rest := [.int (Int32.ofInt 1)]) rfl rfl rfl rfl rfl rfl rfl rfl (Nat.le_refl _) rfl call (fun r9 K2 hr => ?_)
      obtain ⟨rfl, hK2, f2⟩ := hr
      have f2' : ∀ a, a < 128 → K2 a = M a := f2
      refine qs_use (zs := [(h : Int), (u : Int), (b : Int), (y : Int), (n : Int), (w : Int)]) (List.all_eq_true.mp lf6_c e (List.mem_range.mpr h6)) hL hK2 (qs_in (show 0 ≤ (h : Int) ∧ (h : Int) ≤ 5 by omega) (qs_in (show 0 ≤ (u : Int) ∧ (u : Int) ≤ 1073741823 by omega) (qs_in (show 0 ≤ (b : Int) ∧ (b : Int) ≤ 6 by omega) (qs_in (show 0 ≤ (y : Int) ∧ (y : Int) ≤ 1073741823 by omega) (qs_in (show 1 ≤ (n : Int) ∧ (n : Int) ≤ 1073741823 by omega) (qs_in (show 0 ≤ (w : Int) ∧ (w : Int) ≤ 6 by omega) (qs_fin rfl))))))) (Nat.le_refl _) rfl rfl (qs_c (fun u1 K3 hK3 hc hM => ?_) (qs_c (fun u1 K3 hK3 hc hM => ?_) qs_z))
      · obtain ⟨d1, d2, -⟩ := hc
        have d1 : (b : Int) < (w : Int) + 1 := d1
        have d2 : u1 = sx_mf 3 (n : Int) ((n : Int) + -1) := d2
        rw [j4] at d2
        subst d2
        rw [Nat.max_eq_right (show b ≤ 1 + w by omega), Nat.add_comm 1 w]
        exact jh k j5 (w + 1) K3 (by omega) (by omega) hK3 (fun a ha => ((show ∀ a, a < 128 → K3 a = K2 a from hM) a ha).trans (f2' a ha))
      · obtain ⟨d0, d0', d1, d2, -⟩ := hc
        have d1 : ¬ (b : Int) < (w : Int) + 1 := d1
        have d2 : u1 = sx_mf 3 (n : Int) ((n : Int) + -1) := d2
        rw [j4] at d2
        subst d2
        rw [Nat.max_eq_left (show 1 + w ≤ b by omega)]
        exact jh k j5 b K3 (by omega) hb hK3 (fun a ha => ((show ∀ a, a < 128 → K3 a = K2 a from hM) a ha).trans (f2' a ha))
theorem lf_step {H s g t e : Nat} (hL : L < 2 ^ 31) (hh : lrH M H s nc g t) (h6 : e < 6) (ih : lfG L xs M H s nc g t e) : lfG L xs M H s nc g t (e + 1) := fun h u M' hk hu hcu hm hf => by
  obtain ⟨h1, h2, h3, h4, h66, h7, h8, h9, h10, h11, h12⟩ := id hh
  have hu31 : u < 2 ^ 31 := by omega
  refine qs_use (zs := [(h : Int), (u : Int), (H : Int)]) (List.all_eq_true.mp lf1_c e (List.mem_range.mpr h6)) hL hm (qs_in (show 0 ≤ (h : Int) ∧ (h : Int) ≤ 5 by omega) (qs_in (show 0 ≤ (u : Int) ∧ (u : Int) ≤ 1073741823 by omega) (qs_rd (show (0 : Int) ≤ 1 by decide) (by rw [hf 53 (by decide)]; exact h1) (show 0 ≤ (H : Int) ∧ (H : Int) ≤ 6 by omega) (qs_ne (show ¬ (h : Int) = (H : Int) by omega) (qs_fin rfl))))) (Nat.le_refl _) rfl rfl (qs_c (fun K hK hc hM => ?_) qs_z)
  have fK : ∀ a, a < 128 → K a = M a := (fun a ha => ((show ∀ a, a < 128 → K a = M' a from hM) a ha).trans (hf a ha))
  have call := ih (h + 1) u K (by omega) hu (by omega) hK fK
  have gm : mgr (lrE M s nc g t) e (h + 1) u.testBit ≤ e := mgr_m
  obtain ⟨b, eb⟩ : ∃ b, mgr (lrE M s nc g t) e (h + 1) u.testBit = b := ⟨_, rfl⟩
  have e0 : mgr (lrE M s nc g t) (e + 1) h u.testBit = mfd (fun d => mgr (lrE M s nc g t) e (h + 1) (mup u.testBit d)) (fun d => lrE M s nc g t h d && !u.testBit d) 30 b := by rw [← eb]; rfl
  have cut := mgr_cut (D := lrE M s nc g t) (U := u.testBit) (m := e) (h := h)
  rw [eb] at call gm cut
  show rz_fin _ L xs 233 (e + 4) 15 [(0, .ref 53), (1, .int (Int32.ofInt (h : Int))), (2, .int (Int32.ofInt (u : Int)))] [.int (Int32.ofInt (u : Int)), .int (Int32.ofInt ((h + 1 : Nat) : Int)), .ref 53] K
  refine qs_vc (k := 233) (b := 53) (d := e + 3) (d' := e + 3) (rest := []) rfl rfl rfl rfl rfl rfl rfl rfl (Nat.le_refl _) rfl call (fun r9 K2 hr => ?_)
  obtain ⟨rfl, hK2, f2⟩ := hr
  have f2' : ∀ a, a < 128 → K2 a = M a := f2
  refine qs_use (zs := [(h : Int), (u : Int), (b : Int)]) (List.all_eq_true.mp lf2_c e (List.mem_range.mpr h6)) hL hK2 (qs_in (show 0 ≤ (h : Int) ∧ (h : Int) ≤ 5 by omega) (qs_in (show 0 ≤ (u : Int) ∧ (u : Int) ≤ 1073741823 by omega) (qs_in (show 0 ≤ (b : Int) ∧ (b : Int) ≤ 6 by omega) (qs_fin rfl)))) (Nat.le_refl _) rfl rfl (qs_c (fun K3 hK3 hc hM => ?_) qs_z)
  have f3 : ∀ a, a < 128 → K3 a = M a := (fun a ha => ((show ∀ a, a < 128 → K3 a = K2 a from hM) a ha).trans (f2' a ha))
  have days : ∀ K : Nat → Nat → Int, sx_mok cl_ly K → (∀ a, a < 128 → K a = M a) → rz_fin (fun r N => r = some (.int (Int32.ofInt ((dsn (lrE M s nc g t h) 30 : Nat) : Int))) ∧ sx_mok cl_ly N ∧ ∀ a, a < 128 → N a = K a) L xs 232 2 0 [(0, .ref 53), (1, .int (Int32.ofInt (h : Int)))] [] K := fun K hK fK => by
    have hhK : lrH K H s nc g t := by
      unfold lrH
      rw [fK 53 (by decide), fK 59 (by decide), fK 60 (by decide)]
      exact hh
    have dx := ld_x (xs := xs) (M := K) (h := h) hL hK hhK (by omega)
    have eE : lrE K s nc g t h = lrE M s nc g t h := by
      unfold lrE
      rw [fK 59 (by decide), fK 60 (by decide)]
    rw [eE] at dx
    exact dx
  have x30 : dsn (lrE M s nc g t h) 30 < 2 ^ 30 := dsn_lt 30
  have xb : ∀ d, ((dsn (lrE M s nc g t h) 30).testBit d = true ↔ d < 30 ∧ lrE M s nc g t h d = true) := fun d => dsn_b 30
  have xc : bcn (dsn (lrE M s nc g t h) 30) = mcn (lrE M s nc g t h) 30 := by
    have q1 : bcn (dsn (lrE M s nc g t h) 30) = mcn (dsn (lrE M s nc g t h) 30).testBit 30 + (if (dsn (lrE M s nc g t h) 30).testBit 30 = true then 1 else 0) := rfl
    rw [q1, lk_b0 x30 (Nat.le_refl 30), if_neg (by decide), Nat.add_zero]
    refine mcn_q 30 (fun d hd => ?_)
    have q := xb d
    cases c : lrE M s nc g t h d with
    | true => exact q.mpr ⟨hd, c⟩
    | false =>
      rw [← Bool.not_eq_true]
      intro x
      rw [(q.mp x).2] at c
      exact absurd c (by decide)
  obtain ⟨x, ex⟩ : ∃ x, dsn (lrE M s nc g t h) 30 = x := ⟨_, rfl⟩
  rw [ex] at days x30 xb xc
  show rz_fin _ L xs 233 (e + 4) 21 [(0, .ref 53), (1, .int (Int32.ofInt (h : Int))), (2, .int (Int32.ofInt (u : Int))), (3, .int (Int32.ofInt (b : Int)))] [.int (Int32.ofInt (h : Int)), .ref 53] K3
  refine qs_vc (k := 232) (b := 53) (d := e + 3) (d' := e + 3) (rest := []) rfl rfl rfl rfl rfl rfl rfl rfl (Nat.le_refl _) rfl (rz_d (by omega) (days K3 hK3 f3)) (fun r9 K4 hr => ?_)
  obtain ⟨rfl, hK4, f4⟩ := hr
  have f4' : ∀ a, a < 128 → K4 a = M a := fun a ha => (f4 a ha).trans (f3 a ha)
  obtain ⟨y, y1, y2, y3⟩ := lk_andn (a := x) (b := u) (by omega) hu31
  refine qs_use (zs := [(h : Int), (u : Int), (b : Int), (x : Int)]) (List.all_eq_true.mp lf3_c e (List.mem_range.mpr h6)) hL hK4 (qs_in (show 0 ≤ (h : Int) ∧ (h : Int) ≤ 5 by omega) (qs_in (show 0 ≤ (u : Int) ∧ (u : Int) ≤ 1073741823 by omega) (qs_in (show 0 ≤ (b : Int) ∧ (b : Int) ≤ 6 by omega) (qs_in (show 0 ≤ (x : Int) ∧ (x : Int) ≤ 1073741823 by omega) (qs_fin rfl))))) (Nat.le_refl _) rfl rfl (qs_c (fun u1 u2 K5 hK5 hc hM => ?_) qs_z)
  obtain ⟨c1, c2, -⟩ := hc
  have c1 : u1 = sx_mf 5 (u : Int) (-1) := c1
  have c2 : u2 = sx_mf 3 (x : Int) u1 := c2
  have fK5 : ∀ a, a < 128 → K5 a = K4 a := hM
  rw [c1] at c2
  rw [y1] at c2
  subst c2
  have f5 : ∀ a, a < 128 → K5 a = M a := fun a ha => (fK5 a ha).trans (f4' a ha)
  show rz_fin _ L xs 233 (e + 4) 32 [(0, .ref 53), (1, .int (Int32.ofInt (h : Int))), (2, .int (Int32.ofInt (u : Int))), (3, .int (Int32.ofInt (b : Int))), (4, .int (Int32.ofInt (y : Int)))] [.int (Int32.ofInt (h : Int)), .ref 53] K5
  refine qs_vc (k := 232) (b := 53) (d := e + 3) (d' := e + 3) (rest := []) rfl rfl rfl rfl rfl rfl rfl rfl (Nat.le_refl _) rfl (rz_d (by omega) (days K5 hK5 f5)) (fun r9 K6 hr => ?_)
  obtain ⟨rfl, hK6, f6⟩ := hr
  have f6' : ∀ a, a < 128 → K6 a = M a := fun a ha => (f6 a ha).trans (f5 a ha)
  show rz_fin _ L xs 233 (e + 4) 35 [(0, .ref 53), (1, .int (Int32.ofInt (h : Int))), (2, .int (Int32.ofInt (u : Int))), (3, .int (Int32.ofInt (b : Int))), (4, .int (Int32.ofInt (y : Int)))] [.int (Int32.ofInt (x : Int))] K6
  refine qs_sc (k := 222) (d := e + 3) (d' := e + 3) (as := [.int (Int32.ofInt (x : Int))]) (rest := []) rfl rfl rfl rfl rfl rfl rfl (Nat.le_refl _) rfl (rz_d (by omega) (lb_x (xs := xs) (n := x) hL hK6 (by omega))) (fun r9 K7 hr => ?_)
  obtain ⟨rfl, hK7, f7⟩ := hr
  have f7' : ∀ a, a < 128 → K7 a = M a := fun a ha => (f7 a ha).trans (f6' a ha)
  have p31 : bcn x ≤ 31 := mcn_n 31
  have y30 : y < 2 ^ 30 := by omega
  have eP : ∀ i, i < 30 → y.testBit i = (lrE M s nc g t h i && !u.testBit i) := fun i hi => by
    rw [y3 i]
    have q := xb i
    cases c : lrE M s nc g t h i with
    | true => rw [q.mpr ⟨hi, c⟩]
    | false =>
      have q2 : x.testBit i = false := by
        rw [← Bool.not_eq_true]
        intro w
        rw [(q.mp w).2] at c
        exact absurd c (by decide)
      rw [q2]
  have fin : ∀ K, sx_mok cl_ly K → (∀ a, a < 128 → K a = M a) → rz_fin (fun r N => r = some (.int (Int32.ofInt ((mgr (lrE M s nc g t) (e + 1) h u.testBit : Nat) : Int))) ∧ sx_mok cl_ly N ∧ ∀ a, a < 128 → N a = M a) L xs 233 (e + 4) 56 [(0, .ref 53), (1, .int (Int32.ofInt (h : Int))), (2, .int (Int32.ofInt (u : Int))), (3, .int (Int32.ofInt (b : Int))), (4, .int (Int32.ofInt (y : Int))), (5, .int (Int32.ofInt (y : Int)))] [] K := fun K hK fK => by
    have gl := lf_loop (xs := xs) (h := h) (u := u) (y := y) hL h6 ih (by omega) h2 hu hcu y30 y b K y30 (Nat.le_succ_of_le gm) hK fK
    rw [mfd_q (p := fun d => lrE M s nc g t h d && !u.testBit d) 30 eP, ← e0] at gl
    exact gl
  rw [xc] at p31
  obtain ⟨p, ep⟩ : ∃ p, mcn (lrE M s nc g t h) 30 = p := ⟨_, rfl⟩
  rw [xc, ep]
  rw [ep] at p31 cut
  show rz_fin _ L xs 233 (e + 4) 38 [(0, .ref 53), (1, .int (Int32.ofInt (h : Int))), (2, .int (Int32.ofInt (u : Int))), (3, .int (Int32.ofInt (b : Int))), (4, .int (Int32.ofInt (y : Int)))] [.int (Int32.ofInt (p : Int))] K7
  refine qs_use (zs := [(h : Int), (u : Int), (b : Int), (y : Int), (p : Int)]) (List.all_eq_true.mp lf4_c e (List.mem_range.mpr h6)) hL hK7 (qs_in (show 0 ≤ (h : Int) ∧ (h : Int) ≤ 5 by omega) (qs_in (show 0 ≤ (u : Int) ∧ (u : Int) ≤ 1073741823 by omega) (qs_in (show 0 ≤ (b : Int) ∧ (b : Int) ≤ 6 by omega) (qs_in (show 0 ≤ (y : Int) ∧ (y : Int) ≤ 1073741823 by omega) (qs_in (show 0 ≤ (p : Int) ∧ (p : Int) ≤ 31 by omega) (qs_fin rfl)))))) (Nat.le_refl _) rfl rfl (qs_c (fun K8 hK8 hc hM => ?_) (qs_c (fun K8 hK8 hc hM => ?_) (qs_c (fun K8 hK8 hc hM => ?_) qs_z)))
  · exact fin K8 hK8 (fun a ha => ((show ∀ a, a < 128 → K8 a = K7 a from hM) a ha).trans (f7' a ha))
  · obtain ⟨d1, -⟩ := hc
    have d1 : 7 ≤ (p : Int) ∧ (p : Int) ≤ 31 := d1
    have q := cut (by omega) (by omega)
    rw [q]
    refine ⟨?_, hK8, (fun a ha => ((show ∀ a, a < 128 → K8 a = K7 a from hM) a ha).trans (f7' a ha))⟩
    exact congrArg (fun z : Int => some (Value.int (Int32.ofInt z))) (show (b : Int) + 1 = ((1 + b : Nat) : Int) by omega)
  · exact fin K8 hK8 (fun a ha => ((show ∀ a, a < 128 → K8 a = K7 a from hM) a ha).trans (f7' a ha))
theorem lf_all {H s g t : Nat} (hL : L < 2 ^ 31) (hh : lrH M H s nc g t) : ∀ e, e ≤ 6 → lfG L xs M H s nc g t e := by
  intro e
  induction e with
  | zero => exact fun _ => lf_leaf hL hh
  | succ e ih => exact fun h => lf_step hL hh (by omega) (ih (by omega))
/-- lists: the reference -/
def lrV (M : Nat → Nat → Int) (H nc s g t : Nat) (c : Int) : Int := if c = 0 then ((dsn (lrC M nc s) 30 : Nat) : Int) else if c = 1 then ((dsn (lrW M s nc g t) H : Nat) : Int) else if c = 2 then ((mgr (lrE M s nc g t) H 0 (fun _ => false) : Nat) : Int) else -1
theorem lg_x {H s g t : Nat} {c : Int} (hL : L < 2 ^ 31) (hm : sx_mok cl_ly M) (hh : lrH M H s nc g t) (wc : sx_w sx_r32 c) : rz_fin (fun r N => r = some (.int (Int32.ofInt (lrV M H nc s g t c))) ∧ sx_mok cl_ly N ∧ ∀ a, a < 128 → N a = M a) L xs 229 23 0 [(0, .ref 53), (1, .int (Int32.ofInt c))] [] M := by
  have bad : (c ≠ 0 ∧ c ≠ 1 ∧ c ≠ 2) → lrV M H nc s g t c = -1 := fun q => (if_neg q.1).trans ((if_neg q.2.1).trans (if_neg q.2.2))
  have H6 := hh.2.1
  refine qs_use (zs := [c]) lg1_c hL hm (qs_iw wc (qs_fin rfl)) (Nat.le_refl _) rfl rfl (qs_c (fun K hK hc hM => ?_) (qs_c (fun K hK hc hM => ?_) (qs_c (fun K hK hc hM => ?_) (qs_c (fun K hK hc hM => ?_) (qs_c (fun K hK hc hM => ?_) qs_z)))))
  · have c1 : -2147483648 ≤ c ∧ c ≤ -1 := hc.1
    rw [bad (by omega)]
    exact ⟨rfl, hK, hM⟩
  · have c1 : 0 ≤ c ∧ c ≤ 0 := hc.1
    have fK : ∀ a, a < 128 → K a = M a := hM
    have e : lrV M H nc s g t c = ((dsn (lrC M nc s) 30 : Nat) : Int) := if_pos (by omega)
    have lt : dsn (lrC M nc s) 30 < 2 ^ 30 := dsn_lt 30
    rw [e]
    have g1 : rz_fin (fun r N => r = some (.int (Int32.ofInt ((dsn (lrC M nc s) 30 : Nat) : Int))) ∧ sx_mok cl_ly N ∧ ∀ a, a < 128 → N a = M a) L xs 230 22 0 [(0, .ref 53)] [] K := by
      refine qs_use (zs := []) lqq1_c hL hK (qs_fin rfl) (Nat.le_refl _) rfl rfl (qs_c (fun K2 hK2 hc hM => ?_) qs_z)
      exact lqq_loop (xs := xs) hL hh 30 0 K2 (by omega) hK2 (fun a ha => ((show ∀ a, a < 128 → K2 a = K a from hM) a ha).trans (fK a ha))
    show rz_fin _ L xs 229 23 16 [(0, .ref 53), (1, .int (Int32.ofInt c))] [.ref 53] K
    refine qs_vc (k := 230) (b := 53) (d := 22) (d' := 22) (rest := []) rfl rfl rfl rfl rfl rfl rfl rfl (Nat.le_refl _) rfl g1 (fun r9 K3 hr => ?_)
    obtain ⟨rfl, hK3, f3⟩ := hr
    generalize dsn (lrC M nc s) 30 = n at lt ⊢
    have wn : sx_w sx_r32 (n : Int) := og_w32 (by omega) (by omega)
    refine qs_nl (by show ([0, 1] : List Nat).Nodup; decide) (qs_use (zs := [(n : Int)]) lg2_c hL hK3 (qs_iw wn (qs_fin rfl)) (Nat.le_refl _) rfl rfl (qs_c (fun K4 hK4 hc hM => ?_) qs_z))
    exact ⟨rfl, hK4, (fun a ha => ((show ∀ a, a < 128 → K4 a = K3 a from hM) a ha).trans (f3 a ha))⟩
  · have c1 : 1 ≤ c ∧ c ≤ 1 := hc.1
    have fK : ∀ a, a < 128 → K a = M a := hM
    have e : lrV M H nc s g t c = ((dsn (lrW M s nc g t) H : Nat) : Int) := (if_neg (by omega)).trans (if_pos (by omega))
    have lt : dsn (lrW M s nc g t) H < 2 ^ H := dsn_lt H
    have pd : 2 ^ H ≤ 2 ^ 6 := Nat.pow_le_pow_right (by decide) H6
    rw [e]
    have g1 : rz_fin (fun r N => r = some (.int (Int32.ofInt ((dsn (lrW M s nc g t) H : Nat) : Int))) ∧ sx_mok cl_ly N ∧ ∀ a, a < 128 → N a = M a) L xs 231 22 0 [(0, .ref 53)] [] K := by
      refine qs_use (zs := []) ln1_c hL hK (qs_fin rfl) (Nat.le_refl _) rfl rfl (qs_c (fun K2 hK2 hc hM => ?_) qs_z)
      exact ln_loop (xs := xs) hL hh H 0 K2 (by omega) hK2 (fun a ha => ((show ∀ a, a < 128 → K2 a = K a from hM) a ha).trans (fK a ha))
    show rz_fin _ L xs 229 23 28 [(0, .ref 53), (1, .int (Int32.ofInt c))] [.ref 53] K
    refine qs_vc (k := 231) (b := 53) (d := 22) (d' := 22) (rest := []) rfl rfl rfl rfl rfl rfl rfl rfl (Nat.le_refl _) rfl g1 (fun r9 K3 hr => ?_)
    obtain ⟨rfl, hK3, f3⟩ := hr
    generalize dsn (lrW M s nc g t) H = n at lt ⊢
    have wn : sx_w sx_r32 (n : Int) := og_w32 (by omega) (by omega)
    refine qs_nl (by show ([0, 1] : List Nat).Nodup; decide) (qs_use (zs := [(n : Int)]) lg3_c hL hK3 (qs_iw wn (qs_fin rfl)) (Nat.le_refl _) rfl rfl (qs_c (fun K4 hK4 hc hM => ?_) qs_z))
    exact ⟨rfl, hK4, (fun a ha => ((show ∀ a, a < 128 → K4 a = K3 a from hM) a ha).trans (f3 a ha))⟩
  · obtain ⟨c1, c2, c3, -⟩ := hc
    have c1 : 0 ≤ c ∧ c ≤ 2 := c1
    have c2 : c ≠ 0 := c2
    have c3 : c ≠ 1 := c3
    have fK : ∀ a, a < 128 → K a = M a := hM
    have e : lrV M H nc s g t c = ((mgr (lrE M s nc g t) H 0 (fun _ => false) : Nat) : Int) := (if_neg (by omega)).trans ((if_neg (by omega)).trans (if_pos (by omega)))
    have lt : mgr (lrE M s nc g t) H 0 (fun _ => false) ≤ H := mgr_m
    have z0 : (0 : Nat).testBit = fun _ => false := funext fun i => Nat.zero_testBit i
    have m0 : mcn (0 : Nat).testBit 30 = 0 := mcn_0 30 (fun i _ => Nat.zero_testBit i)
    have g1 := lf_all (xs := xs) hL hh H H6 0 0 K (by omega) (by decide) (by rw [m0]; omega) hK fK
    rw [z0] at g1
    rw [e]
    show rz_fin _ L xs 229 23 37 [(0, .ref 53), (1, .int (Int32.ofInt c))] [.int (Int32.ofInt 0), .int (Int32.ofInt 0), .ref 53] K
    refine qs_vc (k := 233) (b := 53) (d := 22) (d' := 22) (rest := []) rfl rfl rfl rfl rfl rfl rfl rfl (Nat.le_refl _) rfl (rz_d (by omega) g1) (fun r9 K3 hr => ?_)
    obtain ⟨rfl, hK3, f3⟩ := hr
    generalize mgr (lrE M s nc g t) H 0 (fun _ => false) = n at lt ⊢
    have wn : sx_w sx_r32 (n : Int) := og_w32 (by omega) (by omega)
    refine qs_nl (by show ([0, 1] : List Nat).Nodup; decide) (qs_use (zs := [(n : Int)]) lg4_c hL hK3 (qs_iw wn (qs_fin rfl)) (Nat.le_refl _) rfl rfl (qs_c (fun K4 hK4 hc hM => ?_) qs_z))
    exact ⟨rfl, hK4, (fun a ha => ((show ∀ a, a < 128 → K4 a = K3 a from hM) a ha).trans (f3 a ha))⟩
  · have c1 : 3 ≤ c ∧ c ≤ 2147483647 := hc.1
    rw [bad (by omega)]
    exact ⟨rfl, hK, hM⟩
end
