/-! read: the reference; the pair. -/
section
variable {L : Nat} {xs : Nat → Int32} {M M' N N' B X Y : Nat → Nat → Int} {c t h nc H : Nat} {g : Int}
def rk01_i (c : Nat) : List qs_I := [(0, 0, (0, 0), (0, 5)), (0, 0, (0, 0), (0, 1)), (1, 56, (9, 0), (-1, 143))]
def rk01_T (c : Nat) : List og_T := [(some 18, none, [], [(0, 2, 0, 53), (1, 0, 0, (c : Int)), (2, 0, 9, 0), (3, 0, 10, 0), (4, 0, 11, 0), (5, 0, 0, 0), (6, 0, 0, -2), (7, 0, 0, 0)], [], [])]
theorem rk01_c : ((List.range 6).all fun c => qs_chk (fun pc => Nat.beq pc 18) (rk01_i c) 0 (rk01_T c) 400 400 23 237 0 [(0, 2, 0, 53), (1, 0, 0, (c : Int)), (2, 0, 9, 0), (3, 0, 10, 0)] []) = true := by decide +kernel
def rk02_i (c : Nat) : List qs_I := [(0, 0, (0, 0), (0, 5)), (0, 0, (0, 0), (0, 1)), (0, 0, (0, 0), (-1, 143)), (0, 0, (0, 0), (0, 10)), (0, 0, (0, 0), (-2, 9)), (0, 0, (0, 0), (0, 9))]
def rk02_T (c : Nat) : List og_T := [(some 35, none, [(0, 0, (c : Int)), (2, 0, 53)], [(0, 2, 0, 53), (1, 0, 0, (c : Int)), (2, 0, 9, 0), (3, 0, 10, 0), (4, 0, 11, 0), (5, 0, 12, 0), (6, 0, 13, 0), (7, 0, 14, 0)], [(56, (9, 0), (14, 0))], [])]
theorem rk02_c : ((List.range 6).all fun c => qs_chk (fun pc => Nat.beq pc 35) (rk02_i c) 0 (rk02_T c) 400 400 23 237 18 [(0, 2, 0, 53), (1, 0, 0, (c : Int)), (2, 0, 9, 0), (3, 0, 10, 0), (4, 0, 11, 0), (5, 0, 12, 0), (6, 0, 13, 0), (7, 0, 14, 0)] []) = true := by decide +kernel
def rk03_i (c : Nat) : List qs_I := [(0, 0, (0, 0), (0, 5)), (0, 0, (0, 0), (0, 1)), (0, 0, (0, 0), (-1, 143)), (0, 0, (0, 0), (0, 9)), (0, 0, (0, 0), (-2, 9)), (0, 0, (0, 0), (0, 9)), (0, 0, (0, 0), (-2, 60))]
def rk03_T (c : Nat) : List og_T := [(some 18, none, [], [(0, 2, 0, 53), (1, 0, 0, (c : Int)), (2, 0, 9, 0), (3, 0, 10, 0), (4, 0, 11, 0), (5, 0, 0, 1), (6, 0, 14, 0), (7, 0, 14, 1)], [], [(0, (12, 0), (0, 0), 0, 0), (0, (15, 0), (0, 0), -2, -1)]), (some 18, none, [], [(0, 2, 0, 53), (1, 0, 0, (c : Int)), (2, 0, 9, 0), (3, 0, 10, 0), (4, 0, 11, 0), (5, 0, 12, 1), (6, 0, 13, 0), (7, 0, 14, 1)], [], [(0, (15, 0), (0, 0), -2, -1), (7, (12, 0), (0, 0), 0, 0)]), (some 18, none, [], [(0, 2, 0, 53), (1, 0, 0, (c : Int)), (2, 0, 9, 0), (3, 0, 10, 0), (4, 0, 11, 0), (5, 0, 12, 0), (6, 0, 13, 0), (7, 0, 14, 1)], [], [(0, (15, 0), (0, 0), 0, 60)])]
theorem rk03_c : ((List.range 6).all fun c => qs_chk (fun pc => Nat.beq pc 18) (rk03_i c) 0 (rk03_T c) 400 400 23 237 38 [(0, 2, 0, 53), (1, 0, 0, (c : Int)), (2, 0, 9, 0), (3, 0, 10, 0), (4, 0, 11, 0), (5, 0, 12, 0), (6, 0, 13, 0), (7, 0, 14, 0)] [(0, 15, 0)]) = true := by decide +kernel
def rk04_i (c : Nat) : List qs_I := [(0, 0, (0, 0), (0, 5)), (0, 0, (0, 0), (0, 1)), (0, 0, (0, 0), (-1, 143)), (0, 0, (0, 0), (0, 10)), (0, 0, (0, 0), (-2, 9))]
def rk04_T (c : Nat) : List og_T := [(none, some (0, 12, 0), [], [], [(56, (9, 0), (11, 0))], [(0, (10, 0), (0, 0), 0, 0)]), (none, some (0, 13, 0), [], [], [(56, (9, 0), (11, 0))], [(7, (10, 0), (0, 0), 0, 0)])]
theorem rk04_c : ((List.range 6).all fun c => qs_chk (fun pc => Nat.beq pc 35) (rk04_i c) 0 (rk04_T c) 400 400 23 237 18 [(0, 2, 0, 53), (1, 0, 0, (c : Int)), (2, 0, 9, 0), (3, 0, 10, 0), (4, 0, 11, 0), (5, 0, 12, 0), (6, 0, 13, 0), (7, 0, 0, 10)] []) = true := by decide +kernel
def rk11_i (c : Nat) : List qs_I := [(0, 0, (0, 0), (0, 5)), (0, 0, (0, 0), (0, 1)), (1, 57, (9, 0), (-1, 143))]
def rk11_T (c : Nat) : List og_T := [(some 18, none, [], [(0, 2, 0, 53), (1, 0, 0, (c : Int)), (2, 0, 9, 0), (3, 0, 10, 0), (4, 0, 11, 0), (5, 0, 0, 0), (6, 0, 0, -2), (7, 0, 0, 0)], [], [])]
theorem rk11_c : ((List.range 6).all fun c => qs_chk (fun pc => Nat.beq pc 18) (rk11_i c) 0 (rk11_T c) 400 400 23 238 0 [(0, 2, 0, 53), (1, 0, 0, (c : Int)), (2, 0, 9, 0), (3, 0, 10, 0)] []) = true := by decide +kernel
def rk12_i (c : Nat) : List qs_I := [(0, 0, (0, 0), (0, 5)), (0, 0, (0, 0), (0, 1)), (0, 0, (0, 0), (-1, 143)), (0, 0, (0, 0), (0, 10)), (0, 0, (0, 0), (-2, 9)), (0, 0, (0, 0), (0, 9))]
def rk12_T (c : Nat) : List og_T := [(some 35, none, [(0, 0, (c : Int)), (2, 0, 53)], [(0, 2, 0, 53), (1, 0, 0, (c : Int)), (2, 0, 9, 0), (3, 0, 10, 0), (4, 0, 11, 0), (5, 0, 12, 0), (6, 0, 13, 0), (7, 0, 14, 0)], [(57, (9, 0), (14, 0))], [])]
theorem rk12_c : ((List.range 6).all fun c => qs_chk (fun pc => Nat.beq pc 35) (rk12_i c) 0 (rk12_T c) 400 400 23 238 18 [(0, 2, 0, 53), (1, 0, 0, (c : Int)), (2, 0, 9, 0), (3, 0, 10, 0), (4, 0, 11, 0), (5, 0, 12, 0), (6, 0, 13, 0), (7, 0, 14, 0)] []) = true := by decide +kernel
def rk13_i (c : Nat) : List qs_I := [(0, 0, (0, 0), (0, 5)), (0, 0, (0, 0), (0, 1)), (0, 0, (0, 0), (-1, 143)), (0, 0, (0, 0), (0, 9)), (0, 0, (0, 0), (-2, 9)), (0, 0, (0, 0), (0, 9)), (0, 0, (0, 0), (-2, 60))]
def rk13_T (c : Nat) : List og_T := [(some 18, none, [], [(0, 2, 0, 53), (1, 0, 0, (c : Int)), (2, 0, 9, 0), (3, 0, 10, 0), (4, 0, 11, 0), (5, 0, 12, 1), (6, 0, 14, 0), (7, 0, 14, 1)], [], [(0, (15, 0), (0, 0), -2, -1)]), (some 18, none, [], [(0, 2, 0, 53), (1, 0, 0, (c : Int)), (2, 0, 9, 0), (3, 0, 10, 0), (4, 0, 11, 0), (5, 0, 12, 0), (6, 0, 13, 0), (7, 0, 14, 1)], [], [(0, (15, 0), (0, 0), 0, 60)])]
theorem rk13_c : ((List.range 6).all fun c => qs_chk (fun pc => Nat.beq pc 18) (rk13_i c) 0 (rk13_T c) 400 400 23 238 38 [(0, 2, 0, 53), (1, 0, 0, (c : Int)), (2, 0, 9, 0), (3, 0, 10, 0), (4, 0, 11, 0), (5, 0, 12, 0), (6, 0, 13, 0), (7, 0, 14, 0)] [(0, 15, 0)]) = true := by decide +kernel
def rk14_i (c : Nat) : List qs_I := [(0, 0, (0, 0), (0, 5)), (0, 0, (0, 0), (0, 1)), (0, 0, (0, 0), (-1, 143)), (0, 0, (0, 0), (0, 10)), (0, 0, (0, 0), (-2, 9))]
def rk14_T (c : Nat) : List og_T := [(none, some (0, 12, 0), [], [], [(57, (9, 0), (11, 0))], [(0, (10, 0), (0, 0), 0, 0)]), (none, some (0, 13, 0), [], [], [(57, (9, 0), (11, 0))], [(7, (10, 0), (0, 0), 0, 0)])]
theorem rk14_c : ((List.range 6).all fun c => qs_chk (fun pc => Nat.beq pc 35) (rk14_i c) 0 (rk14_T c) 400 400 23 238 18 [(0, 2, 0, 53), (1, 0, 0, (c : Int)), (2, 0, 9, 0), (3, 0, 10, 0), (4, 0, 11, 0), (5, 0, 12, 0), (6, 0, 13, 0), (7, 0, 0, 10)] []) = true := by decide +kernel
def rq1_i (c : Nat) : List qs_I := [(0, 0, (0, 0), sx_r32), (0, 0, (0, 0), sx_r32), (1, 53, (0, 1), (0, 6)), (1, 87, (0, (c : Int)), (-6, 49))]
def rq1_T (c : Nat) : List og_T := [(none, some (0, 0, -1), [], [], [], [(0, (9, 0), (0, 0), -2147483648, -1)]), (none, some (0, 0, -1), [], [], [], [(0, (9, 0), (0, 0), 0, 2147483647), (1, (11, 0), (9, 0), 1, 0)]), (none, some (0, 0, -1), [], [], [], [(0, (9, 0), (0, 0), 0, 5), (0, (10, 0), (0, 0), -2147483648, -1), (0, (11, 0), (0, 0), 1, 6), (2, (11, 0), (9, 0), 1, 0)]), (none, some (0, 0, -11), [], [], [], [(0, (9, 0), (0, 0), 0, 5), (0, (10, 0), (0, 0), 0, 3), (0, (11, 0), (0, 0), 1, 6), (0, (12, 0), (0, 0), -1, -1), (2, (11, 0), (9, 0), 1, 0)]), (none, some (0, 0, -12), [], [], [], [(0, (9, 0), (0, 0), 0, 5), (0, (10, 0), (0, 0), 0, 3), (0, (11, 0), (0, 0), 1, 6), (7, (12, 0), (0, 0), -2, 0), (7, (12, 0), (0, 0), -1, 0), (2, (11, 0), (9, 0), 1, 0)]), (some 58, none, [(0, 0, 1), (0, 9, 0), (0, 0, (c : Int)), (2, 0, 53)], [(0, 2, 0, 53)], [], [(0, (9, 0), (0, 0), 0, 5), (0, (10, 0), (0, 0), 1, 1), (0, (11, 0), (0, 0), 1, 6), (0, (12, 0), (0, 0), -2, -2), (7, (12, 0), (0, 0), -1, 0), (2, (11, 0), (9, 0), 1, 0)]), (some 58, none, [(0, 0, 0), (0, 9, 0), (0, 0, (c : Int)), (2, 0, 53)], [(0, 2, 0, 53)], [], [(0, (9, 0), (0, 0), 0, 5), (0, (10, 0), (0, 0), 0, 1), (0, (11, 0), (0, 0), 1, 6), (0, (12, 0), (0, 0), -2, -2), (7, (10, 0), (0, 0), 1, 0), (7, (12, 0), (0, 0), -1, 0), (2, (11, 0), (9, 0), 1, 0)]), (some 77, none, [(0, 0, 1), (0, 9, 0), (0, 0, (c : Int)), (2, 0, 53)], [(0, 2, 0, 53)], [], [(0, (9, 0), (0, 0), 0, 5), (0, (10, 0), (0, 0), 3, 3), (0, (11, 0), (0, 0), 1, 6), (0, (12, 0), (0, 0), -2, -2), (7, (12, 0), (0, 0), -1, 0), (2, (11, 0), (9, 0), 1, 0)]), (some 77, none, [(0, 0, 0), (0, 9, 0), (0, 0, (c : Int)), (2, 0, 53)], [(0, 2, 0, 53)], [], [(0, (9, 0), (0, 0), 0, 5), (0, (10, 0), (0, 0), 2, 3), (0, (11, 0), (0, 0), 1, 6), (0, (12, 0), (0, 0), -2, -2), (7, (10, 0), (0, 0), 3, 0), (7, (12, 0), (0, 0), -1, 0), (2, (11, 0), (9, 0), 1, 0)]), (none, some (0, 0, -1), [], [], [], [(0, (9, 0), (0, 0), 0, 5), (0, (10, 0), (0, 0), 4, 2147483647), (0, (11, 0), (0, 0), 1, 6), (2, (11, 0), (9, 0), 1, 0)])]
theorem rq1_c : ((List.range 6).all fun c => qs_chk (fun pc => bif Nat.beq pc 58 then true else Nat.beq pc 77) (rq1_i c) 0 (rq1_T c) 400 400 24 236 0 [(0, 2, 0, 53), (1, 0, 0, (c : Int)), (2, 0, 9, 0), (3, 0, 10, 0)] []) = true := by decide +kernel
def rq2_i : List qs_I := [(0, 0, (0, 0), sx_r32)]
def rq2_T : List og_T := [(none, some (0, 9, 0), [], [], [], [])]
theorem rq2_c : qs_chk (fun _ => false) rq2_i 0 rq2_T 400 400 24 236 61 [] [(0, 9, 0)] = true := by decide +kernel
def rq3_i : List qs_I := [(0, 0, (0, 0), sx_r32)]
def rq3_T : List og_T := [(none, some (0, 9, 0), [], [], [], [])]
theorem rq3_c : qs_chk (fun _ => false) rq3_i 0 rq3_T 400 400 24 236 80 [] [(0, 9, 0)] = true := by decide +kernel
def rd6_i : List qs_I := [(0, 0, (0, 0), (-2147483648, -1)), (0, 0, (0, 0), sx_r32), (0, 0, (0, 0), sx_r32)]
def rd6_T : List og_T := [(none, some (0, 0, -1), [], [], [], [])]
theorem rd6_c : qs_chk (fun pc => Nat.beq pc 66) rd6_i 0 rd6_T 400 400 24 107 0 [(0, 2, 0, 8), (1, 0, 9, 0), (2, 0, 10, 0), (3, 0, 11, 0)] [] = true := by decide +kernel
def rd7_i : List qs_I := [(0, 0, (0, 0), (6, 2147483647)), (0, 0, (0, 0), sx_r32), (0, 0, (0, 0), sx_r32)]
def rd7_T : List og_T := [(none, some (0, 0, -1), [], [], [], [])]
theorem rd7_c : qs_chk (fun pc => Nat.beq pc 66) rd7_i 0 rd7_T 400 400 24 107 0 [(0, 2, 0, 8), (1, 0, 9, 0), (2, 0, 10, 0), (3, 0, 11, 0)] [] = true := by decide +kernel
def rq6_i : List qs_I := [(0, 0, (0, 0), (-2147483648, -1)), (0, 0, (0, 0), sx_r32), (0, 0, (0, 0), sx_r32)]
def rq6_T : List og_T := [(none, some (0, 0, -1), [], [], [], [])]
theorem rq6_c : qs_chk (fun pc => Nat.beq pc 58) rq6_i 0 rq6_T 400 400 24 236 0 [(0, 2, 0, 53), (1, 0, 9, 0), (2, 0, 10, 0), (3, 0, 11, 0)] [] = true := by decide +kernel
def rq7_i : List qs_I := [(0, 0, (0, 0), (6, 2147483647)), (0, 0, (0, 0), sx_r32), (0, 0, (0, 0), sx_r32)]
def rq7_T : List og_T := [(none, some (0, 0, -1), [], [], [], [])]
theorem rq7_c : qs_chk (fun pc => Nat.beq pc 58) rq7_i 0 rq7_T 400 400 24 236 0 [(0, 2, 0, 53), (1, 0, 9, 0), (2, 0, 10, 0), (3, 0, 11, 0)] [] = true := by decide +kernel
/-- values that fit a row: the reference (0) -/
theorem rk_loop0 {len : Nat} (hL : L < 2 ^ 31) (hm0 : sx_mok cl_ly B) (hw : WF B) (hR : vu_R B) (hA : fs_A M nc H) (fB : ∀ a, a < 128 → 53 ≤ a → B a = M a) (hbb : bb M) (hc6 : c < 6) (h87 : M 87 c = -2) (hh : h < H) (ht : M 53 13 = (t : Int)) (h29 : t ≤ 29) (el : M 88 c = (len : Int)) (hg : 0 ≤ g ∧ g ≤ 1) : ∀ (k i : Nat) (f : Int) (M' : Nat → Nat → Int), i + k = 10 → (-2 ≤ f ∧ f ≤ 9) → (fcn (rf_0 M nc t h (fun i => M 89 (60 * c + i)) len) i = 0 → f = -2) → sx_mok cl_ly M' → sq_J B 56 h M' → rz_fin (fun r N => r = some (.int (Int32.ofInt (if g = 0 then ((fcn (rf_0 M nc t h (fun i => M 89 (60 * c + i)) len) 10 : Nat) : Int) else (if fcn (rf_0 M nc t h (fun i => M 89 (60 * c + i)) len) i = 0 then sw (fun j => if (rf_0 M nc t h (fun i => M 89 (60 * c + i)) len) j < 0 then 1 else 0) (fun j => (j : Int)) 1 k i else f)))) ∧ sx_mok cl_ly N ∧ fs_y B N) L xs 237 23 18 [(0, .ref 53), (1, .int (Int32.ofInt (c : Int))), (2, .int (Int32.ofInt (h : Int))), (3, .int (Int32.ofInt g)), (4, .int (Int32.ofInt (B 56 h))), (5, .int (Int32.ofInt ((fcn (rf_0 M nc t h (fun i => M 89 (60 * c + i)) len) i : Nat) : Int))), (6, .int (Int32.ofInt f)), (7, .int (Int32.ofInt (i : Int)))] [] M' := by
  obtain ⟨⟨a1, a2, a3, a4, a5⟩, -⟩ := id hA
  have wb : -1 ≤ B 56 h ∧ B 56 h ≤ 143 := hm0 56 _ h _ rfl (by show h < 6; omega) rfl
  have h60 : 0 ≤ M 88 c ∧ M 88 c ≤ 60 := by rw [← fB 88 (by decide) (by decide)]; exact hm0 88 _ c _ rfl hc6 rfl
  have rest : ∀ (M' N : Nat → Nat → Int), sq_J B 56 h M' → (∀ a, a < 128 → N a = sx_up M' 56 h (B 56 h) a) → fs_y B N := fun M' N hI f => by
    refine ⟨fun a ha x1 x2 x3 x4 => ?_, fun j hj => ?_⟩
    · rw [f a ha]
      by_cases x : a = 56
      · rw [x]
        funext j
        by_cases y : j = h
        · rw [y, sh_uat]
        · rw [sh_unj y, hI.2.2 j y]
      · rw [sh_une x]
        exact hI.1 a ha x x1 x2 x3 x4
    · rw [f 53 (by decide), sh_une (by decide)]
      exact hI.2.1 j hj
  intro k
  induction k with
  | zero =>
    intro i f M' hi hf hv hm hI
    have ei : i = 10 := by omega
    subst ei
    have f10 := fcn_le (F := (rf_0 M nc t h (fun i => M 89 (60 * c + i)) len)) 10
    have fr : 0 ≤ ((fcn (rf_0 M nc t h (fun i => M 89 (60 * c + i)) len) 10 : Nat) : Int) ∧ ((fcn (rf_0 M nc t h (fun i => M 89 (60 * c + i)) len) 10 : Nat) : Int) ≤ 10 := by omega
    refine qs_use (zs := [(h : Int), g, B 56 h, ((fcn (rf_0 M nc t h (fun i => M 89 (60 * c + i)) len) 10 : Nat) : Int), f]) (List.all_eq_true.mp rk04_c c (List.mem_range.mpr hc6)) hL hm (qs_in (show 0 ≤ (h : Int) ∧ (h : Int) ≤ 5 by omega) (qs_in hg (qs_in wb (qs_in fr (qs_in hf (qs_fin rfl)))))) (Nat.le_refl _) rfl rfl (qs_c (fun N1 hN1 hc hM => ?_) (qs_c (fun N1 hN1 hc hM => ?_) qs_z))
    · have c1 : 0 ≤ g ∧ g ≤ 0 := hc.1
      rw [if_pos (show g = 0 by omega)]
      exact ⟨rfl, hN1, rest M' N1 hI hM⟩
    · have c1 : g ≠ 0 := hc.1
      rw [if_neg c1]
      by_cases n0 : fcn (rf_0 M nc t h (fun i => M 89 (60 * c + i)) len) 10 = 0
      · rw [if_pos n0, hv n0]
        exact ⟨rfl, hN1, rest M' N1 hI hM⟩
      · rw [if_neg n0]
        exact ⟨rfl, hN1, rest M' N1 hI hM⟩
  | succ k ih =>
    intro i f M' hi hf hv hm hI
    have fi := fcn_le (F := (rf_0 M nc t h (fun i => M 89 (60 * c + i)) len)) i
    have fr : 0 ≤ ((fcn (rf_0 M nc t h (fun i => M 89 (60 * c + i)) len) i : Nat) : Int) ∧ ((fcn (rf_0 M nc t h (fun i => M 89 (60 * c + i)) len) i : Nat) : Int) ≤ 10 := by omega
    have fr9 : 0 ≤ ((fcn (rf_0 M nc t h (fun i => M 89 (60 * c + i)) len) i : Nat) : Int) ∧ ((fcn (rf_0 M nc t h (fun i => M 89 (60 * c + i)) len) i : Nat) : Int) ≤ 9 := by omega
    refine qs_use (zs := [(h : Int), g, B 56 h, ((fcn (rf_0 M nc t h (fun i => M 89 (60 * c + i)) len) i : Nat) : Int), f, (i : Int)]) (List.all_eq_true.mp rk02_c c (List.mem_range.mpr hc6)) hL hm (qs_in (show 0 ≤ (h : Int) ∧ (h : Int) ≤ 5 by omega) (qs_in hg (qs_in wb (qs_in fr (qs_in hf (qs_in (show 0 ≤ (i : Int) ∧ (i : Int) ≤ 9 by omega) (qs_fin rfl))))))) (Nat.le_refl _) rfl rfl (qs_c (fun N1 hN1 hc hM => ?_) qs_z)
    have f1 : ∀ a, a < 128 → N1 a = sx_up M' 56 h (i : Int) a := hM
    have J1 : sq_J B 56 h N1 := ⟨fun a ha x x1 x2 x3 x4 => by rw [f1 a ha, sh_une x]; exact hI.1 a ha x x1 x2 x3 x4, fun j hj => by rw [f1 53 (by decide), sh_une (by decide)]; exact hI.2.1 j hj, fun j y => by rw [f1 56 (by decide), sh_unj y]; exact hI.2.2 j y⟩
    have z53 : ∀ j, fs_m j → N1 53 j = M 53 j := fun j hj => by rw [J1.2.1 j hj, fB 53 (by decide) (by decide)]
    have z88 : N1 88 = M 88 := by rw [J1.1 88 (by decide) (by decide) (by decide) (by decide) (by decide) (by decide), fB 88 (by decide) (by decide)]
    have z89 : N1 89 = M 89 := by rw [J1.1 89 (by decide) (by decide) (by decide) (by decide) (by decide) (by decide), fB 89 (by decide) (by decide)]
    obtain ⟨w1, r1⟩ := wr_ref hw hR (fun a q => J1.1 a (by omega) (by omega) (by omega) (by omega) (by omega) (by omega)) (J1.2.1 33 (by unfold fs_m; decide))
    obtain ⟨se, -, -, sc, sch⟩ := sw_e0 (M := M) (h := h) (v := (i : Int))
    show rz_fin _ L xs 237 23 35 [(0, .ref 53), (1, .int (Int32.ofInt (c : Int))), (2, .int (Int32.ofInt (h : Int))), (3, .int (Int32.ofInt g)), (4, .int (Int32.ofInt (B 56 h))), (5, .int (Int32.ofInt ((fcn (rf_0 M nc t h (fun i => M 89 (60 * c + i)) len) i : Nat) : Int))), (6, .int (Int32.ofInt f)), (7, .int (Int32.ofInt (i : Int)))] [.int (Int32.ofInt (c : Int)), .ref 53] N1
    refine qs_vc (k := 235) (b := 53) (d := 22) (d' := 22) (rest := []) rfl rfl rfl rfl rfl rfl rfl rfl (Nat.le_refl _) rfl (rz_d (by decide) (jw_y (xs := xs) (nc := nc) (H := H) (t := t) (c := c) (len := len) hL hN1 w1 r1 (by rw [z53 1 (by unfold fs_m; decide)]; exact a4) (by rw [z53 8 (by unfold fs_m; decide)]; exact a2) hc6 (by rw [z53 13 (by unfold fs_m; decide)]; exact ht) h29 (by rw [z88]; exact el) (fun j hj => by rw [z89]; exact hbb c hc6 h87 j (by omega)))) (fun r9 N2 hr => ?_)
    obtain ⟨Y, hY, F2, hN2, rfl⟩ := hr
    have mY : mv (sw_0 M h (i : Int)) H Y := mv_of (fun a q => by
      by_cases x : a = 56
      · rw [x, f1 56 (by decide)]
        funext j
        by_cases y : j = h
        · rw [y, sh_uat, sch]
        · rw [sh_unj y, hI.2.2 j y, fB 56 (by decide) (by decide), sc j y]
      · rw [J1.1 a (by omega) x (by omega) (by omega) (by omega) (by omega), fB a (by omega) (by omega)]
        exact (se a (by omega) x).symm) (fun j q => by
      rw [z53 j (by unfold fs_m; omega), se 53 (by decide) (by decide)]) hY
    have eF : fu (vj Y nc t) (fun i => N1 89 (60 * c + i)) t len 0 = (rf_0 M nc t h (fun i => M 89 (60 * c + i)) len) i := by
      rw [z89]
      exact fu_eq len 0 (fun d h1 h2 => vi_y (sw_A0 (v := (i : Int)) (by omega) hA) mY (by omega) h2) (fun _ _ _ => rfl)
    rw [eF]
    have rF : -2 ≤ (rf_0 M nc t h (fun i => M 89 (60 * c + i)) len) i ∧ (rf_0 M nc t h (fun i => M 89 (60 * c + i)) len) i ≤ 60 := by
      have q := fu_r (g := vi (sw_0 M h (i : Int)) nc t) (E := fun i => M 89 (60 * c + i)) (t := t) len 0
      unfold rf_0
      omega
    have J2 : sq_J B 56 h N2 := by
      have y2 := ms_y hY F2
      refine ⟨fun a ha x x1 x2 x3 x4 => ?_, fun j hj => ?_, fun j y => ?_⟩
      · rw [y2.1 a ha x1 x2 x3 x4]
        exact J1.1 a ha x x1 x2 x3 x4
      · rw [y2.2 j hj]
        exact J1.2.1 j hj
      · rw [y2.1 56 (by decide) (by decide) (by decide) (by decide) (by decide)]
        exact J1.2.2 j y
    have J3 : ∀ N3 : Nat → Nat → Int, (∀ a, a < 128 → N3 a = N2 a) → sq_J B 56 h N3 := fun N3 f3 => ⟨fun a ha x x1 x2 x3 x4 => (f3 a ha).trans (J2.1 a ha x x1 x2 x3 x4), fun j hj => by rw [f3 53 (by decide)]; exact J2.2.1 j hj, fun j y => by rw [f3 56 (by decide)]; exact J2.2.2 j y⟩
    refine qs_use (zs := [(h : Int), g, B 56 h, ((fcn (rf_0 M nc t h (fun i => M 89 (60 * c + i)) len) i : Nat) : Int), f, (i : Int), (rf_0 M nc t h (fun i => M 89 (60 * c + i)) len) i]) (List.all_eq_true.mp rk03_c c (List.mem_range.mpr hc6)) hL hN2 (qs_in (show 0 ≤ (h : Int) ∧ (h : Int) ≤ 5 by omega) (qs_in hg (qs_in wb (qs_in fr9 (qs_in hf (qs_in (show 0 ≤ (i : Int) ∧ (i : Int) ≤ 9 by omega) (qs_in rF (qs_fin rfl)))))))) (Nat.le_refl _) rfl rfl (qs_c (fun N3 hN3 hc hM => ?_) (qs_c (fun N3 hN3 hc hM => ?_) (qs_c (fun N3 hN3 hc hM => ?_) qs_z)))
    · obtain ⟨c1, c2, -⟩ := hc
      have c1 : 0 ≤ ((fcn (rf_0 M nc t h (fun i => M 89 (60 * c + i)) len) i : Nat) : Int) ∧ ((fcn (rf_0 M nc t h (fun i => M 89 (60 * c + i)) len) i : Nat) : Int) ≤ 0 := c1
      have c2 : -2 ≤ (rf_0 M nc t h (fun i => M 89 (60 * c + i)) len) i ∧ (rf_0 M nc t h (fun i => M 89 (60 * c + i)) len) i ≤ -1 := c2
      have fN3 : ∀ a, a < 128 → N3 a = N2 a := hM
      have n0 : fcn (rf_0 M nc t h (fun i => M 89 (60 * c + i)) len) i = 0 := by omega
      have e1 : fcn (rf_0 M nc t h (fun i => M 89 (60 * c + i)) len) (i + 1) = 1 := by
        show (if (rf_0 M nc t h (fun i => M 89 (60 * c + i)) len) i < 0 then fcn (rf_0 M nc t h (fun i => M 89 (60 * c + i)) len) i + 1 else fcn (rf_0 M nc t h (fun i => M 89 (60 * c + i)) len) i) = 1
        rw [if_pos (by omega), n0]
      have e2 : sw (fun j => if (rf_0 M nc t h (fun i => M 89 (60 * c + i)) len) j < 0 then 1 else 0) (fun j => (j : Int)) 1 (k + 1) i = (i : Int) := if_pos (if_pos (by omega))
      have gg := ih (i + 1) (i : Int) N3 (by omega) (by omega) (fun q => by rw [e1] at q; exact absurd q (by decide)) hN3 (J3 N3 fN3)
      rw [e1, if_neg (show ¬ 1 = 0 by decide)] at gg
      rw [n0, if_pos rfl, e2]
      exact gg
    · obtain ⟨c1, c2, -⟩ := hc
      have c1 : -2 ≤ (rf_0 M nc t h (fun i => M 89 (60 * c + i)) len) i ∧ (rf_0 M nc t h (fun i => M 89 (60 * c + i)) len) i ≤ -1 := c1
      have c2 : ((fcn (rf_0 M nc t h (fun i => M 89 (60 * c + i)) len) i : Nat) : Int) ≠ 0 := c2
      have fN3 : ∀ a, a < 128 → N3 a = N2 a := hM
      have n0 : ¬ fcn (rf_0 M nc t h (fun i => M 89 (60 * c + i)) len) i = 0 := by omega
      have e1 : fcn (rf_0 M nc t h (fun i => M 89 (60 * c + i)) len) (i + 1) = fcn (rf_0 M nc t h (fun i => M 89 (60 * c + i)) len) i + 1 := if_pos (by omega)
      have gg := ih (i + 1) f N3 (by omega) hf (fun q => by rw [e1] at q; omega) hN3 (J3 N3 fN3)
      rw [e1, if_neg (show ¬ fcn (rf_0 M nc t h (fun i => M 89 (60 * c + i)) len) i + 1 = 0 by omega)] at gg
      rw [if_neg n0]
      exact gg
    · obtain ⟨c1, -⟩ := hc
      have c1 : 0 ≤ (rf_0 M nc t h (fun i => M 89 (60 * c + i)) len) i ∧ (rf_0 M nc t h (fun i => M 89 (60 * c + i)) len) i ≤ 60 := c1
      have fN3 : ∀ a, a < 128 → N3 a = N2 a := hM
      have e1 : fcn (rf_0 M nc t h (fun i => M 89 (60 * c + i)) len) (i + 1) = fcn (rf_0 M nc t h (fun i => M 89 (60 * c + i)) len) i := if_neg (by omega)
      have e2 : sw (fun j => if (rf_0 M nc t h (fun i => M 89 (60 * c + i)) len) j < 0 then 1 else 0) (fun j => (j : Int)) 1 (k + 1) i = sw (fun j => if (rf_0 M nc t h (fun i => M 89 (60 * c + i)) len) j < 0 then 1 else 0) (fun j => (j : Int)) 1 k (i + 1) := by
        show (if (if (rf_0 M nc t h (fun i => M 89 (60 * c + i)) len) i < 0 then (1 : Int) else 0) = 1 then (i : Int) else sw (fun j => if (rf_0 M nc t h (fun i => M 89 (60 * c + i)) len) j < 0 then 1 else 0) (fun j => (j : Int)) 1 k (i + 1)) = _
        rw [if_neg (show ¬ (rf_0 M nc t h (fun i => M 89 (60 * c + i)) len) i < 0 by omega), if_neg (show ¬ (0 : Int) = 1 by decide)]
      have gg := ih (i + 1) f N3 (by omega) hf (fun q => hv (by rw [e1] at q; exact q)) hN3 (J3 N3 fN3)
      rw [e1] at gg
      rw [e2]
      exact gg
theorem rk_x0 {len : Nat} (hL : L < 2 ^ 31) (hm : sx_mok cl_ly B) (hw : WF B) (hR : vu_R B) (hA : fs_A M nc H) (fB : ∀ a, a < 128 → 53 ≤ a → B a = M a) (hbb : bb M) (hc6 : c < 6) (h87 : M 87 c = -2) (hh : h < H) (ht : M 53 13 = (t : Int)) (h29 : t ≤ 29) (el : M 88 c = (len : Int)) (hg : 0 ≤ g ∧ g ≤ 1) : rz_fin (fun r N => r = some (.int (Int32.ofInt (if g = 0 then ((fcn (rf_0 M nc t h (fun i => M 89 (60 * c + i)) len) 10 : Nat) : Int) else sw (fun j => if (rf_0 M nc t h (fun i => M 89 (60 * c + i)) len) j < 0 then 1 else 0) (fun j => (j : Int)) 1 10 0))) ∧ sx_mok cl_ly N ∧ fs_y B N) L xs 237 23 0 [(0, .ref 53), (1, .int (Int32.ofInt (c : Int))), (2, .int (Int32.ofInt (h : Int))), (3, .int (Int32.ofInt g))] [] B := by
  obtain ⟨⟨a1, a2, a3, a4, a5⟩, -⟩ := id hA
  have wb : -1 ≤ B 56 h ∧ B 56 h ≤ 143 := hm 56 _ h _ rfl (by show h < 6; omega) rfl
  refine qs_use (zs := [(h : Int), g, B 56 h]) (List.all_eq_true.mp rk01_c c (List.mem_range.mpr hc6)) hL hm (qs_in (show 0 ≤ (h : Int) ∧ (h : Int) ≤ 5 by omega) (qs_in hg (qs_rd (show 0 ≤ (h : Int) by omega) rfl wb (qs_fin rfl)))) (Nat.le_refl _) rfl rfl (qs_c (fun N1 hN1 hc hM => ?_) qs_z)
  have f1 : ∀ a, a < 128 → N1 a = B a := hM
  exact rk_loop0 (xs := xs) hL hm hw hR hA fB hbb hc6 h87 hh ht h29 el hg 10 0 (-2) N1 rfl (by decide) (fun _ => rfl) hN1 ⟨fun a ha _ _ _ _ _ => f1 a ha, fun j _ => by rw [f1 53 (by decide)], fun j _ => by rw [f1 56 (by decide)]⟩

/-- values that fit a row: the reference (1) -/
theorem rk_loop1 {len : Nat} (hL : L < 2 ^ 31) (hm0 : sx_mok cl_ly B) (hw : WF B) (hR : vu_R B) (hA : fs_A M nc H) (fB : ∀ a, a < 128 → 53 ≤ a → B a = M a) (hbb : bb M) (hc6 : c < 6) (h87 : M 87 c = -2) (hh : h < H) (ht : M 53 13 = (t : Int)) (h29 : t ≤ 29) (el : M 88 c = (len : Int)) (hg : 0 ≤ g ∧ g ≤ 1) : ∀ (k i : Nat) (f : Int) (M' : Nat → Nat → Int), i + k = 10 → (-2 ≤ f ∧ f ≤ 9) → f = fls (rf_1 M nc t h (fun i => M 89 (60 * c + i)) len) i → sx_mok cl_ly M' → sq_J B 57 h M' → rz_fin (fun r N => r = some (.int (Int32.ofInt (if g = 0 then ((fcn (rf_1 M nc t h (fun i => M 89 (60 * c + i)) len) 10 : Nat) : Int) else fls (rf_1 M nc t h (fun i => M 89 (60 * c + i)) len) 10))) ∧ sx_mok cl_ly N ∧ fs_y B N) L xs 238 23 18 [(0, .ref 53), (1, .int (Int32.ofInt (c : Int))), (2, .int (Int32.ofInt (h : Int))), (3, .int (Int32.ofInt g)), (4, .int (Int32.ofInt (B 57 h))), (5, .int (Int32.ofInt ((fcn (rf_1 M nc t h (fun i => M 89 (60 * c + i)) len) i : Nat) : Int))), (6, .int (Int32.ofInt f)), (7, .int (Int32.ofInt (i : Int)))] [] M' := by
  obtain ⟨⟨a1, a2, a3, a4, a5⟩, -⟩ := id hA
  have wb : -1 ≤ B 57 h ∧ B 57 h ≤ 143 := hm0 57 _ h _ rfl (by show h < 6; omega) rfl
  have h60 : 0 ≤ M 88 c ∧ M 88 c ≤ 60 := by rw [← fB 88 (by decide) (by decide)]; exact hm0 88 _ c _ rfl hc6 rfl
  have rest : ∀ (M' N : Nat → Nat → Int), sq_J B 57 h M' → (∀ a, a < 128 → N a = sx_up M' 57 h (B 57 h) a) → fs_y B N := fun M' N hI f => by
    refine ⟨fun a ha x1 x2 x3 x4 => ?_, fun j hj => ?_⟩
    · rw [f a ha]
      by_cases x : a = 57
      · rw [x]
        funext j
        by_cases y : j = h
        · rw [y, sh_uat]
        · rw [sh_unj y, hI.2.2 j y]
      · rw [sh_une x]
        exact hI.1 a ha x x1 x2 x3 x4
    · rw [f 53 (by decide), sh_une (by decide)]
      exact hI.2.1 j hj
  intro k
  induction k with
  | zero =>
    intro i f M' hi hf hv hm hI
    have ei : i = 10 := by omega
    subst ei
    have f10 := fcn_le (F := (rf_1 M nc t h (fun i => M 89 (60 * c + i)) len)) 10
    have fr : 0 ≤ ((fcn (rf_1 M nc t h (fun i => M 89 (60 * c + i)) len) 10 : Nat) : Int) ∧ ((fcn (rf_1 M nc t h (fun i => M 89 (60 * c + i)) len) 10 : Nat) : Int) ≤ 10 := by omega
    refine qs_use (zs := [(h : Int), g, B 57 h, ((fcn (rf_1 M nc t h (fun i => M 89 (60 * c + i)) len) 10 : Nat) : Int), f]) (List.all_eq_true.mp rk14_c c (List.mem_range.mpr hc6)) hL hm (qs_in (show 0 ≤ (h : Int) ∧ (h : Int) ≤ 5 by omega) (qs_in hg (qs_in wb (qs_in fr (qs_in hf (qs_fin rfl)))))) (Nat.le_refl _) rfl rfl (qs_c (fun N1 hN1 hc hM => ?_) (qs_c (fun N1 hN1 hc hM => ?_) qs_z))
    · have c1 : 0 ≤ g ∧ g ≤ 0 := hc.1
      rw [if_pos (show g = 0 by omega)]
      exact ⟨rfl, hN1, rest M' N1 hI hM⟩
    · have c1 : g ≠ 0 := hc.1
      rw [if_neg c1]
      rw [← hv]
      exact ⟨rfl, hN1, rest M' N1 hI hM⟩
  | succ k ih =>
    intro i f M' hi hf hv hm hI
    have fi := fcn_le (F := (rf_1 M nc t h (fun i => M 89 (60 * c + i)) len)) i
    have fr : 0 ≤ ((fcn (rf_1 M nc t h (fun i => M 89 (60 * c + i)) len) i : Nat) : Int) ∧ ((fcn (rf_1 M nc t h (fun i => M 89 (60 * c + i)) len) i : Nat) : Int) ≤ 10 := by omega
    have fr9 : 0 ≤ ((fcn (rf_1 M nc t h (fun i => M 89 (60 * c + i)) len) i : Nat) : Int) ∧ ((fcn (rf_1 M nc t h (fun i => M 89 (60 * c + i)) len) i : Nat) : Int) ≤ 9 := by omega
    refine qs_use (zs := [(h : Int), g, B 57 h, ((fcn (rf_1 M nc t h (fun i => M 89 (60 * c + i)) len) i : Nat) : Int), f, (i : Int)]) (List.all_eq_true.mp rk12_c c (List.mem_range.mpr hc6)) hL hm (qs_in (show 0 ≤ (h : Int) ∧ (h : Int) ≤ 5 by omega) (qs_in hg (qs_in wb (qs_in fr (qs_in hf (qs_in (show 0 ≤ (i : Int) ∧ (i : Int) ≤ 9 by omega) (qs_fin rfl))))))) (Nat.le_refl _) rfl rfl (qs_c (fun N1 hN1 hc hM => ?_) qs_z)
    have f1 : ∀ a, a < 128 → N1 a = sx_up M' 57 h (i : Int) a := hM
    have J1 : sq_J B 57 h N1 := ⟨fun a ha x x1 x2 x3 x4 => by rw [f1 a ha, sh_une x]; exact hI.1 a ha x x1 x2 x3 x4, fun j hj => by rw [f1 53 (by decide), sh_une (by decide)]; exact hI.2.1 j hj, fun j y => by rw [f1 57 (by decide), sh_unj y]; exact hI.2.2 j y⟩
    have z53 : ∀ j, fs_m j → N1 53 j = M 53 j := fun j hj => by rw [J1.2.1 j hj, fB 53 (by decide) (by decide)]
    have z88 : N1 88 = M 88 := by rw [J1.1 88 (by decide) (by decide) (by decide) (by decide) (by decide) (by decide), fB 88 (by decide) (by decide)]
    have z89 : N1 89 = M 89 := by rw [J1.1 89 (by decide) (by decide) (by decide) (by decide) (by decide) (by decide), fB 89 (by decide) (by decide)]
    obtain ⟨w1, r1⟩ := wr_ref hw hR (fun a q => J1.1 a (by omega) (by omega) (by omega) (by omega) (by omega) (by omega)) (J1.2.1 33 (by unfold fs_m; decide))
    obtain ⟨se, -, -, sc, sch⟩ := sw_e1 (M := M) (h := h) (v := (i : Int))
    show rz_fin _ L xs 238 23 35 [(0, .ref 53), (1, .int (Int32.ofInt (c : Int))), (2, .int (Int32.ofInt (h : Int))), (3, .int (Int32.ofInt g)), (4, .int (Int32.ofInt (B 57 h))), (5, .int (Int32.ofInt ((fcn (rf_1 M nc t h (fun i => M 89 (60 * c + i)) len) i : Nat) : Int))), (6, .int (Int32.ofInt f)), (7, .int (Int32.ofInt (i : Int)))] [.int (Int32.ofInt (c : Int)), .ref 53] N1
    refine qs_vc (k := 235) (b := 53) (d := 22) (d' := 22) (rest := []) rfl rfl rfl rfl rfl rfl rfl rfl (Nat.le_refl _) rfl (rz_d (by decide) (jw_y (xs := xs) (nc := nc) (H := H) (t := t) (c := c) (len := len) hL hN1 w1 r1 (by rw [z53 1 (by unfold fs_m; decide)]; exact a4) (by rw [z53 8 (by unfold fs_m; decide)]; exact a2) hc6 (by rw [z53 13 (by unfold fs_m; decide)]; exact ht) h29 (by rw [z88]; exact el) (fun j hj => by rw [z89]; exact hbb c hc6 h87 j (by omega)))) (fun r9 N2 hr => ?_)
    obtain ⟨Y, hY, F2, hN2, rfl⟩ := hr
    have mY : mv (sw_1 M h (i : Int)) H Y := mv_of (fun a q => by
      by_cases x : a = 57
      · rw [x, f1 57 (by decide)]
        funext j
        by_cases y : j = h
        · rw [y, sh_uat, sch]
        · rw [sh_unj y, hI.2.2 j y, fB 57 (by decide) (by decide), sc j y]
      · rw [J1.1 a (by omega) x (by omega) (by omega) (by omega) (by omega), fB a (by omega) (by omega)]
        exact (se a (by omega) x).symm) (fun j q => by
      rw [z53 j (by unfold fs_m; omega), se 53 (by decide) (by decide)]) hY
    have eF : fu (vj Y nc t) (fun i => N1 89 (60 * c + i)) t len 0 = (rf_1 M nc t h (fun i => M 89 (60 * c + i)) len) i := by
      rw [z89]
      exact fu_eq len 0 (fun d h1 h2 => vi_y (sw_A1 (v := (i : Int)) (by omega) hA) mY (by omega) h2) (fun _ _ _ => rfl)
    rw [eF]
    have rF : -2 ≤ (rf_1 M nc t h (fun i => M 89 (60 * c + i)) len) i ∧ (rf_1 M nc t h (fun i => M 89 (60 * c + i)) len) i ≤ 60 := by
      have q := fu_r (g := vi (sw_1 M h (i : Int)) nc t) (E := fun i => M 89 (60 * c + i)) (t := t) len 0
      unfold rf_1
      omega
    have J2 : sq_J B 57 h N2 := by
      have y2 := ms_y hY F2
      refine ⟨fun a ha x x1 x2 x3 x4 => ?_, fun j hj => ?_, fun j y => ?_⟩
      · rw [y2.1 a ha x1 x2 x3 x4]
        exact J1.1 a ha x x1 x2 x3 x4
      · rw [y2.2 j hj]
        exact J1.2.1 j hj
      · rw [y2.1 57 (by decide) (by decide) (by decide) (by decide) (by decide)]
        exact J1.2.2 j y
    have J3 : ∀ N3 : Nat → Nat → Int, (∀ a, a < 128 → N3 a = N2 a) → sq_J B 57 h N3 := fun N3 f3 => ⟨fun a ha x x1 x2 x3 x4 => (f3 a ha).trans (J2.1 a ha x x1 x2 x3 x4), fun j hj => by rw [f3 53 (by decide)]; exact J2.2.1 j hj, fun j y => by rw [f3 57 (by decide)]; exact J2.2.2 j y⟩
    refine qs_use (zs := [(h : Int), g, B 57 h, ((fcn (rf_1 M nc t h (fun i => M 89 (60 * c + i)) len) i : Nat) : Int), f, (i : Int), (rf_1 M nc t h (fun i => M 89 (60 * c + i)) len) i]) (List.all_eq_true.mp rk13_c c (List.mem_range.mpr hc6)) hL hN2 (qs_in (show 0 ≤ (h : Int) ∧ (h : Int) ≤ 5 by omega) (qs_in hg (qs_in wb (qs_in fr9 (qs_in hf (qs_in (show 0 ≤ (i : Int) ∧ (i : Int) ≤ 9 by omega) (qs_in rF (qs_fin rfl)))))))) (Nat.le_refl _) rfl rfl (qs_c (fun N3 hN3 hc hM => ?_) (qs_c (fun N3 hN3 hc hM => ?_) qs_z))
    · obtain ⟨c1, -⟩ := hc
      have c1 : -2 ≤ (rf_1 M nc t h (fun i => M 89 (60 * c + i)) len) i ∧ (rf_1 M nc t h (fun i => M 89 (60 * c + i)) len) i ≤ -1 := c1
      have fN3 : ∀ a, a < 128 → N3 a = N2 a := hM
      have e1 : fcn (rf_1 M nc t h (fun i => M 89 (60 * c + i)) len) (i + 1) = fcn (rf_1 M nc t h (fun i => M 89 (60 * c + i)) len) i + 1 := if_pos (by omega)
      have e2 : (i : Int) = fls (rf_1 M nc t h (fun i => M 89 (60 * c + i)) len) (i + 1) := (if_pos (show (rf_1 M nc t h (fun i => M 89 (60 * c + i)) len) i < 0 by omega)).symm
      have gg := ih (i + 1) (i : Int) N3 (by omega) (by omega) e2 hN3 (J3 N3 fN3)
      rw [e1] at gg
      exact gg
    · obtain ⟨c1, -⟩ := hc
      have c1 : 0 ≤ (rf_1 M nc t h (fun i => M 89 (60 * c + i)) len) i ∧ (rf_1 M nc t h (fun i => M 89 (60 * c + i)) len) i ≤ 60 := c1
      have fN3 : ∀ a, a < 128 → N3 a = N2 a := hM
      have e1 : fcn (rf_1 M nc t h (fun i => M 89 (60 * c + i)) len) (i + 1) = fcn (rf_1 M nc t h (fun i => M 89 (60 * c + i)) len) i := if_neg (by omega)
      have e2 : f = fls (rf_1 M nc t h (fun i => M 89 (60 * c + i)) len) (i + 1) := hv.trans (if_neg (show ¬ (rf_1 M nc t h (fun i => M 89 (60 * c + i)) len) i < 0 by omega)).symm
      have gg := ih (i + 1) f N3 (by omega) hf e2 hN3 (J3 N3 fN3)
      rw [e1] at gg
      exact gg
theorem rk_x1 {len : Nat} (hL : L < 2 ^ 31) (hm : sx_mok cl_ly B) (hw : WF B) (hR : vu_R B) (hA : fs_A M nc H) (fB : ∀ a, a < 128 → 53 ≤ a → B a = M a) (hbb : bb M) (hc6 : c < 6) (h87 : M 87 c = -2) (hh : h < H) (ht : M 53 13 = (t : Int)) (h29 : t ≤ 29) (el : M 88 c = (len : Int)) (hg : 0 ≤ g ∧ g ≤ 1) : rz_fin (fun r N => r = some (.int (Int32.ofInt (if g = 0 then ((fcn (rf_1 M nc t h (fun i => M 89 (60 * c + i)) len) 10 : Nat) : Int) else fls (rf_1 M nc t h (fun i => M 89 (60 * c + i)) len) 10))) ∧ sx_mok cl_ly N ∧ fs_y B N) L xs 238 23 0 [(0, .ref 53), (1, .int (Int32.ofInt (c : Int))), (2, .int (Int32.ofInt (h : Int))), (3, .int (Int32.ofInt g))] [] B := by
  obtain ⟨⟨a1, a2, a3, a4, a5⟩, -⟩ := id hA
  have wb : -1 ≤ B 57 h ∧ B 57 h ≤ 143 := hm 57 _ h _ rfl (by show h < 6; omega) rfl
  refine qs_use (zs := [(h : Int), g, B 57 h]) (List.all_eq_true.mp rk11_c c (List.mem_range.mpr hc6)) hL hm (qs_in (show 0 ≤ (h : Int) ∧ (h : Int) ≤ 5 by omega) (qs_in hg (qs_rd (show 0 ≤ (h : Int) by omega) rfl wb (qs_fin rfl)))) (Nat.le_refl _) rfl rfl (qs_c (fun N1 hN1 hc hM => ?_) qs_z)
  have f1 : ∀ a, a < 128 → N1 a = B a := hM
  exact rk_loop1 (xs := xs) hL hm hw hR hA fB hbb hc6 h87 hh ht h29 el hg 10 0 (-2) N1 rfl (by decide) rfl hN1 ⟨fun a ha _ _ _ _ _ => f1 a ha, fun j _ => by rw [f1 53 (by decide)], fun j _ => by rw [f1 57 (by decide)]⟩

theorem rq_y {y w : Int} (hL : L < 2 ^ 31) (hm : sx_mok cl_ly B) (hw : WF B) (hR : vu_R B) (hA : fs_A M nc H) (fB : ∀ a, a < 128 → 53 ≤ a → B a = M a) (hbb : bb M) (hc6 : c < 6) (ht : M 53 13 = (t : Int)) (h29 : t ≤ 29) (wy : sx_w sx_r32 y) (ww : sx_w sx_r32 w) : rz_fin (fun r N => sx_mok cl_ly N ∧ fs_y B N ∧ ((¬ rd_ok y w (M 53 1) ∧ r = some (.int (Int32.ofInt (-1)))) ∨ (rd_ok y w (M 53 1) ∧ r = some (.int (Int32.ofInt (rd_v M nc t c y.toNat w)))))) L xs 236 24 0 [(0, .ref 53), (1, .int (Int32.ofInt (c : Int))), (2, .int (Int32.ofInt y)), (3, .int (Int32.ofInt w))] [] B := by
  obtain ⟨⟨a1, a2, a3, a4, a5⟩, -⟩ := id hA
  have b53 : B 53 = M 53 := fB 53 (by decide) (by decide)
  have b87 : B 87 = M 87 := fB 87 (by decide) (by decide)
  have b88 : B 88 = M 88 := fB 88 (by decide) (by decide)
  have hH : 0 ≤ M 53 1 ∧ M 53 1 ≤ 6 := by omega
  have m87 : -6 ≤ M 87 c ∧ M 87 c ≤ 49 := by rw [← b87]; exact hm 87 _ c _ rfl hc6 rfl
  have h60 : 0 ≤ M 88 c ∧ M 88 c ≤ 60 := by rw [← b88]; exact hm 88 _ c _ rfl hc6 rfl
  obtain ⟨len, el⟩ := Int.eq_ofNat_of_zero_le h60.1
  have yy : ∀ K : Nat → Nat → Int, (∀ a, a < 128 → K a = B a) → fs_y B K := fun K f => ⟨fun a ha _ _ _ _ => f a ha, fun j _ => by rw [f 53 (by decide)]⟩
  have y3 : ∀ K N2 N3 : Nat → Nat → Int, (∀ a, a < 128 → K a = B a) → fs_y K N2 → (∀ a, a < 128 → N3 a = N2 a) → fs_y B N3 := fun K N2 N3 fK y2 f3 => ⟨fun a ha x1 x2 x3 x4 => (f3 a ha).trans ((y2.1 a ha x1 x2 x3 x4).trans (fK a ha)), fun j hj => by rw [f3 53 (by decide), y2.2 j hj, fK 53 (by decide)]⟩
  have rr := rd_r (M := M) (nc := nc) (t := t) (c := c) (h := y.toNat) (w := w)
  have wr : sx_w sx_r32 (rd_v M nc t c y.toNat w) := og_w32 (by omega) (by omega)
  refine qs_use (zs := [y, w, M 53 1, M 87 c]) (List.all_eq_true.mp rq1_c c (List.mem_range.mpr hc6)) hL hm (qs_iw wy (qs_iw ww (qs_rd (show (0 : Int) ≤ 1 by decide) (by rw [b53]; rfl) hH (qs_rd (show 0 ≤ (c : Int) by omega) (by show B 87 (c : Int).toNat = M 87 c; rw [Int.toNat_natCast, b87]) m87 (qs_fin rfl))))) (Nat.le_refl _) rfl rfl (qs_c (fun K hK hc hM => ?_) (qs_c (fun K hK hc hM => ?_) (qs_c (fun K hK hc hM => ?_) (qs_c (fun K hK hc hM => ?_) (qs_c (fun K hK hc hM => ?_) (qs_c (fun K hK hc hM => ?_) (qs_c (fun K hK hc hM => ?_) (qs_c (fun K hK hc hM => ?_) (qs_c (fun K hK hc hM => ?_) (qs_c (fun K hK hc hM => ?_) qs_z))))))))))
  · obtain ⟨c1, -⟩ := hc
    have c1 : -2147483648 ≤ y ∧ y ≤ -1 := c1
    have fK : ∀ a, a < 128 → K a = B a := hM
    exact ⟨hK, yy K fK, Or.inl ⟨fun q => by have := q.1; omega, rfl⟩⟩
  · obtain ⟨c1, c2, -⟩ := hc
    have c1 : 0 ≤ y ∧ y ≤ 2147483647 := c1
    have c2 : M 53 1 < y + 1 := c2
    have fK : ∀ a, a < 128 → K a = B a := hM
    exact ⟨hK, yy K fK, Or.inl ⟨fun q => by have := q.2.1; omega, rfl⟩⟩
  · obtain ⟨c1, c2, c3, c4, -⟩ := hc
    have c1 : 0 ≤ y ∧ y ≤ 5 := c1
    have c2 : -2147483648 ≤ w ∧ w ≤ -1 := c2
    have c3 : 1 ≤ M 53 1 ∧ M 53 1 ≤ 6 := c3
    have c4 : ¬ M 53 1 < y + 1 := c4
    have fK : ∀ a, a < 128 → K a = B a := hM
    exact ⟨hK, yy K fK, Or.inl ⟨fun q => by have := q.2.2.1; omega, rfl⟩⟩
  · obtain ⟨c1, c2, c3, c4, c5, -⟩ := hc
    have c1 : 0 ≤ y ∧ y ≤ 5 := c1
    have c2 : 0 ≤ w ∧ w ≤ 3 := c2
    have c3 : 1 ≤ M 53 1 ∧ M 53 1 ≤ 6 := c3
    have c4 : -1 ≤ M 87 c ∧ M 87 c ≤ -1 := c4
    have c5 : ¬ M 53 1 < y + 1 := c5
    have fK : ∀ a, a < 128 → K a = B a := hM
    have e : rd_v M nc t c y.toNat w = -11 := if_pos (by omega)
    refine ⟨hK, yy K fK, Or.inr ⟨⟨c1.1, by omega, c2.1, c2.2⟩, ?_⟩⟩
    rw [e]
    rfl
  · obtain ⟨c1, c2, c3, c4, c5, c6, -⟩ := hc
    have c1 : 0 ≤ y ∧ y ≤ 5 := c1
    have c2 : 0 ≤ w ∧ w ≤ 3 := c2
    have c3 : 1 ≤ M 53 1 ∧ M 53 1 ≤ 6 := c3
    have c4 : M 87 c ≠ -2 := c4
    have c5 : M 87 c ≠ -1 := c5
    have c6 : ¬ M 53 1 < y + 1 := c6
    have fK : ∀ a, a < 128 → K a = B a := hM
    have e : rd_v M nc t c y.toNat w = -12 := by
      unfold rd_v
      rw [if_neg (by omega), if_neg (by omega)]
    refine ⟨hK, yy K fK, Or.inr ⟨⟨c1.1, by omega, c2.1, c2.2⟩, ?_⟩⟩
    rw [e]
    rfl
  · obtain ⟨c1, c2, c3, c4, c5, c6, -⟩ := hc
    have c1 : 0 ≤ y ∧ y ≤ 5 := c1
    have c2 : 1 ≤ w ∧ w ≤ 1 := c2
    have c3 : 1 ≤ M 53 1 ∧ M 53 1 ≤ 6 := c3
    have c4 : -2 ≤ M 87 c ∧ M 87 c ≤ -2 := c4
    have c5 : M 87 c ≠ -1 := c5
    have c6 : ¬ M 53 1 < y + 1 := c6
    have fK : ∀ a, a < 128 → K a = B a := hM
    obtain ⟨h, rfl⟩ := Int.eq_ofNat_of_zero_le c1.1
    have ok : rd_ok (h : Int) w (M 53 1) := ⟨c1.1, by omega, by omega, by omega⟩
    obtain ⟨w1, r1⟩ := wr_same hw hR fK
    have q87 : M 87 c = -2 := by omega
    have ev : rd_v M nc t c (h : Int).toNat w = sw (fun j => if rf_0 M nc t h (fun i => M 89 (60 * c + i)) len j < 0 then 1 else 0) (fun j => (j : Int)) 1 10 0 := by
      unfold rd_v rd_a
      rw [if_neg (by omega), if_pos q87, el, Int.toNat_natCast, Int.toNat_natCast]
      rw [if_neg (by omega), if_pos (by omega)]
    rw [ev] at wr ⊢
    show rz_fin _ L xs 236 24 58 [(0, .ref 53)] [.int (Int32.ofInt 1), .int (Int32.ofInt (h : Int)), .int (Int32.ofInt (c : Int)), .ref 53] K
    refine qs_vc (k := 237) (b := 53) (d := 23) (d' := 23) (rest := []) rfl rfl rfl rfl rfl rfl rfl rfl (Nat.le_refl _) rfl (rk_x0 (xs := xs) (M := M) (B := K) (nc := nc) (H := H) (t := t) (h := h) (c := c) (len := len) (g := 1) hL hK w1 r1 hA (fun a ha g => (fK a ha).trans (fB a ha g)) hbb hc6 q87 (by omega) ht h29 el (by decide)) (fun r9 N2 hr => ?_)
    obtain ⟨rfl, hN2, y2⟩ := hr
    rw [if_neg (by decide)]
    refine qs_nl (by show ([0] : List Nat).Nodup; decide) (qs_use (zs := [sw (fun j => if rf_0 M nc t h (fun i => M 89 (60 * c + i)) len j < 0 then 1 else 0) (fun j => (j : Int)) 1 10 0]) rq2_c hL hN2 (qs_iw wr (qs_fin rfl)) (Nat.le_refl _) rfl rfl (qs_c (fun N3 hN3 hc hM => ?_) qs_z))
    exact ⟨hN3, y3 K N2 N3 fK y2 hM, Or.inr ⟨ok, rfl⟩⟩
  · obtain ⟨c1, c2, c3, c4, c5, c6, c7, -⟩ := hc
    have c1 : 0 ≤ y ∧ y ≤ 5 := c1
    have c2 : 0 ≤ w ∧ w ≤ 1 := c2
    have c3 : 1 ≤ M 53 1 ∧ M 53 1 ≤ 6 := c3
    have c4 : -2 ≤ M 87 c ∧ M 87 c ≤ -2 := c4
    have c5 : w ≠ 1 := c5
    have c6 : M 87 c ≠ -1 := c6
    have c7 : ¬ M 53 1 < y + 1 := c7
    have fK : ∀ a, a < 128 → K a = B a := hM
    obtain ⟨h, rfl⟩ := Int.eq_ofNat_of_zero_le c1.1
    have ok : rd_ok (h : Int) w (M 53 1) := ⟨c1.1, by omega, by omega, by omega⟩
    obtain ⟨w1, r1⟩ := wr_same hw hR fK
    have q87 : M 87 c = -2 := by omega
    have ev : rd_v M nc t c (h : Int).toNat w = ((fcn (rf_0 M nc t h (fun i => M 89 (60 * c + i)) len) 10 : Nat) : Int) := by
      unfold rd_v rd_a
      rw [if_neg (by omega), if_pos q87, el, Int.toNat_natCast, Int.toNat_natCast]
      rw [if_pos (by omega)]
    rw [ev] at wr ⊢
    show rz_fin _ L xs 236 24 58 [(0, .ref 53)] [.int (Int32.ofInt 0), .int (Int32.ofInt (h : Int)), .int (Int32.ofInt (c : Int)), .ref 53] K
    refine qs_vc (k := 237) (b := 53) (d := 23) (d' := 23) (rest := []) rfl rfl rfl rfl rfl rfl rfl rfl (Nat.le_refl _) rfl (rk_x0 (xs := xs) (M := M) (B := K) (nc := nc) (H := H) (t := t) (h := h) (c := c) (len := len) (g := 0) hL hK w1 r1 hA (fun a ha g => (fK a ha).trans (fB a ha g)) hbb hc6 q87 (by omega) ht h29 el (by decide)) (fun r9 N2 hr => ?_)
    obtain ⟨rfl, hN2, y2⟩ := hr
    rw [if_pos (by decide)]
    refine qs_nl (by show ([0] : List Nat).Nodup; decide) (qs_use (zs := [((fcn (rf_0 M nc t h (fun i => M 89 (60 * c + i)) len) 10 : Nat) : Int)]) rq2_c hL hN2 (qs_iw wr (qs_fin rfl)) (Nat.le_refl _) rfl rfl (qs_c (fun N3 hN3 hc hM => ?_) qs_z))
    exact ⟨hN3, y3 K N2 N3 fK y2 hM, Or.inr ⟨ok, rfl⟩⟩
  · obtain ⟨c1, c2, c3, c4, c5, c6, -⟩ := hc
    have c1 : 0 ≤ y ∧ y ≤ 5 := c1
    have c2 : 3 ≤ w ∧ w ≤ 3 := c2
    have c3 : 1 ≤ M 53 1 ∧ M 53 1 ≤ 6 := c3
    have c4 : -2 ≤ M 87 c ∧ M 87 c ≤ -2 := c4
    have c5 : M 87 c ≠ -1 := c5
    have c6 : ¬ M 53 1 < y + 1 := c6
    have fK : ∀ a, a < 128 → K a = B a := hM
    obtain ⟨h, rfl⟩ := Int.eq_ofNat_of_zero_le c1.1
    have ok : rd_ok (h : Int) w (M 53 1) := ⟨c1.1, by omega, by omega, by omega⟩
    obtain ⟨w1, r1⟩ := wr_same hw hR fK
    have q87 : M 87 c = -2 := by omega
    have ev : rd_v M nc t c (h : Int).toNat w = fls (rf_1 M nc t h (fun i => M 89 (60 * c + i)) len) 10 := by
      unfold rd_v rd_a
      rw [if_neg (by omega), if_pos q87, el, Int.toNat_natCast, Int.toNat_natCast]
      rw [if_neg (by omega), if_neg (by omega), if_neg (by omega)]
    rw [ev] at wr ⊢
    show rz_fin _ L xs 236 24 77 [(0, .ref 53)] [.int (Int32.ofInt 1), .int (Int32.ofInt (h : Int)), .int (Int32.ofInt (c : Int)), .ref 53] K
    refine qs_vc (k := 238) (b := 53) (d := 23) (d' := 23) (rest := []) rfl rfl rfl rfl rfl rfl rfl rfl (Nat.le_refl _) rfl (rk_x1 (xs := xs) (M := M) (B := K) (nc := nc) (H := H) (t := t) (h := h) (c := c) (len := len) (g := 1) hL hK w1 r1 hA (fun a ha g => (fK a ha).trans (fB a ha g)) hbb hc6 q87 (by omega) ht h29 el (by decide)) (fun r9 N2 hr => ?_)
    obtain ⟨rfl, hN2, y2⟩ := hr
    rw [if_neg (by decide)]
    refine qs_nl (by show ([0] : List Nat).Nodup; decide) (qs_use (zs := [fls (rf_1 M nc t h (fun i => M 89 (60 * c + i)) len) 10]) rq3_c hL hN2 (qs_iw wr (qs_fin rfl)) (Nat.le_refl _) rfl rfl (qs_c (fun N3 hN3 hc hM => ?_) qs_z))
    exact ⟨hN3, y3 K N2 N3 fK y2 hM, Or.inr ⟨ok, rfl⟩⟩
  · obtain ⟨c1, c2, c3, c4, c5, c6, c7, -⟩ := hc
    have c1 : 0 ≤ y ∧ y ≤ 5 := c1
    have c2 : 2 ≤ w ∧ w ≤ 3 := c2
    have c3 : 1 ≤ M 53 1 ∧ M 53 1 ≤ 6 := c3
    have c4 : -2 ≤ M 87 c ∧ M 87 c ≤ -2 := c4
    have c5 : w ≠ 3 := c5
    have c6 : M 87 c ≠ -1 := c6
    have c7 : ¬ M 53 1 < y + 1 := c7
    have fK : ∀ a, a < 128 → K a = B a := hM
    obtain ⟨h, rfl⟩ := Int.eq_ofNat_of_zero_le c1.1
    have ok : rd_ok (h : Int) w (M 53 1) := ⟨c1.1, by omega, by omega, by omega⟩
    obtain ⟨w1, r1⟩ := wr_same hw hR fK
    have q87 : M 87 c = -2 := by omega
    have ev : rd_v M nc t c (h : Int).toNat w = ((fcn (rf_1 M nc t h (fun i => M 89 (60 * c + i)) len) 10 : Nat) : Int) := by
      unfold rd_v rd_a
      rw [if_neg (by omega), if_pos q87, el, Int.toNat_natCast, Int.toNat_natCast]
      rw [if_neg (by omega), if_neg (by omega), if_pos (by omega)]
    rw [ev] at wr ⊢
    show rz_fin _ L xs 236 24 77 [(0, .ref 53)] [.int (Int32.ofInt 0), .int (Int32.ofInt (h : Int)), .int (Int32.ofInt (c : Int)), .ref 53] K
    refine qs_vc (k := 238) (b := 53) (d := 23) (d' := 23) (rest := []) rfl rfl rfl rfl rfl rfl rfl rfl (Nat.le_refl _) rfl (rk_x1 (xs := xs) (M := M) (B := K) (nc := nc) (H := H) (t := t) (h := h) (c := c) (len := len) (g := 0) hL hK w1 r1 hA (fun a ha g => (fK a ha).trans (fB a ha g)) hbb hc6 q87 (by omega) ht h29 el (by decide)) (fun r9 N2 hr => ?_)
    obtain ⟨rfl, hN2, y2⟩ := hr
    rw [if_pos (by decide)]
    refine qs_nl (by show ([0] : List Nat).Nodup; decide) (qs_use (zs := [((fcn (rf_1 M nc t h (fun i => M 89 (60 * c + i)) len) 10 : Nat) : Int)]) rq3_c hL hN2 (qs_iw wr (qs_fin rfl)) (Nat.le_refl _) rfl rfl (qs_c (fun N3 hN3 hc hM => ?_) qs_z))
    exact ⟨hN3, y3 K N2 N3 fK y2 hM, Or.inr ⟨ok, rfl⟩⟩
  · obtain ⟨c1, c2, c3, c4, -⟩ := hc
    have c1 : 0 ≤ y ∧ y ≤ 5 := c1
    have c2 : 4 ≤ w ∧ w ≤ 2147483647 := c2
    have c3 : 1 ≤ M 53 1 ∧ M 53 1 ≤ 6 := c3
    have c4 : ¬ M 53 1 < y + 1 := c4
    have fK : ∀ a, a < 128 → K a = B a := hM
    exact ⟨hK, yy K fK, Or.inl ⟨fun q => by have := q.2.2.2; omega, rfl⟩⟩
/-- read of both sides -/
theorem gs_rd {s y w : Int} (hL : L < 2 ^ 31) (hI : la_I WF bs_cps M) (hS : gs_SS M) (ws : sx_w sx_r32 s) (wy : sx_w sx_r32 y) (ww : sx_w sx_r32 w) : gs_P WF L xs 0 107 236 [.ref 8, .int (Int32.ofInt s), .int (Int32.ofInt y), .int (Int32.ofInt w)] [.ref 53, .int (Int32.ofInt s), .int (Int32.ofInt y), .int (Int32.ofInt w)] (-12, 10) M := by
  obtain ⟨nc, H, hA⟩ := fs_toA hI hS.1
  obtain ⟨e1, -, -, e4, -, -, -⟩ := bs_eq hI
  have h29 : 0 ≤ M 10 210 ∧ M 10 210 ≤ 29 := hI.2.2.2.1
  have hm := hI.1
  have hw := hI.2.2.1
  have hR : vu_R M := hS.1.2.2.2.2.2.2.2.2
  obtain ⟨t, et⟩ := Int.eq_ofNat_of_zero_le h29.1
  have ws' := sx_r32_iff.mp ws
  have a4 := hA.1.2.2.2.1
  have go : ∀ z : Int, (-12 ≤ z ∧ z ≤ 10) → (∃ F1 M1, sm_run sm_MT sm_LK (sm_RO L xs) sm_NV sm_cq F1 99 107 0 (lv_args 0 [.ref 8, .int (Int32.ofInt s), .int (Int32.ofInt y), .int (Int32.ofInt w)]) [] (sx_HH cl_lay cl_rf M) = some (some (lb_val 0 z), sx_HH cl_lay cl_rf M1) ∧ sx_mok cl_ly M1 ∧ fs_x M M1 ∧ ∃ F2 M2, sm_run sm_MT sm_LK (sm_RO L xs) sm_NV sm_cq F2 99 236 0 (lv_args 0 [.ref 53, .int (Int32.ofInt s), .int (Int32.ofInt y), .int (Int32.ofInt w)]) [] (sx_HH cl_lay cl_rf M1) = some (some (lb_val 0 z), sx_HH cl_lay cl_rf M2) ∧ sx_mok cl_ly M2 ∧ fs_y M1 M2) → gs_P WF L xs 0 107 236 [.ref 8, .int (Int32.ofInt s), .int (Int32.ofInt y), .int (Int32.ofInt w)] [.ref 53, .int (Int32.ofInt s), .int (Int32.ofInt y), .int (Int32.ofInt w)] (-12, 10) M := fun z hz h => by
    obtain ⟨F1, M1, f1, m1, x1, F2, M2, f2, m2, y2⟩ := h
    have ff := fs_xy x1 y2
    obtain ⟨g1, g2⟩ := fs_q WF_zs hI hS.1 m2 ff
    exact ⟨z, M1, M2, hz, Or.inl ⟨rfl, og_w32 (by omega) (by omega)⟩, ⟨F1, f1⟩, m1, ⟨F2, f2⟩, m2, g1, g2, gs_qb ff hS.2⟩
  by_cases s0 : s < 0
  · obtain ⟨F1, v1, M1, f1, rfl, m1, x1⟩ := rz_d (show 24 ≤ 99 by decide) (show rz_fin (fun r N => r = some (.int (Int32.ofInt (-1))) ∧ sx_mok cl_ly N ∧ ∀ a, a < 128 → N a = M a) L xs 107 24 0 (lv_args 0 [.ref 8, .int (Int32.ofInt s), .int (Int32.ofInt y), .int (Int32.ofInt w)]) [] M from qs_use (zs := [s, y, w]) rd6_c hL hm (qs_in (show -2147483648 ≤ s ∧ s ≤ -1 by omega) (qs_iw wy (qs_iw ww (qs_fin rfl)))) (Nat.le_refl _) rfl rfl (qs_c (fun K hK hc hM => ⟨rfl, hK, hM⟩) qs_z))
    obtain ⟨F2, v2, M2, f2, rfl, m2, x2⟩ := rz_d (show 24 ≤ 99 by decide) (show rz_fin (fun r N => r = some (.int (Int32.ofInt (-1))) ∧ sx_mok cl_ly N ∧ ∀ a, a < 128 → N a = M1 a) L xs 236 24 0 (lv_args 0 [.ref 53, .int (Int32.ofInt s), .int (Int32.ofInt y), .int (Int32.ofInt w)]) [] M1 from qs_use (zs := [s, y, w]) rq6_c hL m1 (qs_in (show -2147483648 ≤ s ∧ s ≤ -1 by omega) (qs_iw wy (qs_iw ww (qs_fin rfl)))) (Nat.le_refl _) rfl rfl (qs_c (fun K hK hc hM => ⟨rfl, hK, hM⟩) qs_z))
    exact go (-1) (by decide) ⟨F1, M1, f1, m1, fun a ha _ => x1 a ha, F2, M2, f2, m2, fun a ha _ _ _ _ => x2 a ha, fun j _ => by rw [x2 53 (by decide)]⟩
  by_cases s6 : 6 ≤ s
  · obtain ⟨F1, v1, M1, f1, rfl, m1, x1⟩ := rz_d (show 24 ≤ 99 by decide) (show rz_fin (fun r N => r = some (.int (Int32.ofInt (-1))) ∧ sx_mok cl_ly N ∧ ∀ a, a < 128 → N a = M a) L xs 107 24 0 (lv_args 0 [.ref 8, .int (Int32.ofInt s), .int (Int32.ofInt y), .int (Int32.ofInt w)]) [] M from qs_use (zs := [s, y, w]) rd7_c hL hm (qs_in (show 6 ≤ s ∧ s ≤ 2147483647 by omega) (qs_iw wy (qs_iw ww (qs_fin rfl)))) (Nat.le_refl _) rfl rfl (qs_c (fun K hK hc hM => ⟨rfl, hK, hM⟩) qs_z))
    obtain ⟨F2, v2, M2, f2, rfl, m2, x2⟩ := rz_d (show 24 ≤ 99 by decide) (show rz_fin (fun r N => r = some (.int (Int32.ofInt (-1))) ∧ sx_mok cl_ly N ∧ ∀ a, a < 128 → N a = M1 a) L xs 236 24 0 (lv_args 0 [.ref 53, .int (Int32.ofInt s), .int (Int32.ofInt y), .int (Int32.ofInt w)]) [] M1 from qs_use (zs := [s, y, w]) rq7_c hL m1 (qs_in (show 6 ≤ s ∧ s ≤ 2147483647 by omega) (qs_iw wy (qs_iw ww (qs_fin rfl)))) (Nat.le_refl _) rfl rfl (qs_c (fun K hK hc hM => ⟨rfl, hK, hM⟩) qs_z))
    exact go (-1) (by decide) ⟨F1, M1, f1, m1, fun a ha _ => x1 a ha, F2, M2, f2, m2, fun a ha _ _ _ _ => x2 a ha, fun j _ => by rw [x2 53 (by decide)]⟩
  obtain ⟨c, rfl⟩ := Int.eq_ofNat_of_zero_le (show 0 ≤ s by omega)
  have hc6 : c < 6 := by omega
  obtain ⟨F1, v1, M1, f1, m1, x1, h1⟩ := rz_d (show 24 ≤ 99 by decide) (rd_x (xs := xs) (nc := nc) (H := H) (t := t) (c := c) (y := y) (w := w) hL hm hw hR hA (e1.trans a4) (hS.1.1.1 c hc6) hc6 et (by omega) wy ww)
  obtain ⟨w1, r1⟩ := fs_same hw hR x1
  have hf : ∀ a, a < 128 → 53 ≤ a → M1 a = M a := fun a ha g => x1 a ha (by omega)
  obtain ⟨F2, v2, M2, f2, m2, y2, h2⟩ := rz_d (show 24 ≤ 99 by decide) (rq_y (xs := xs) (M := M) (B := M1) (nc := nc) (H := H) (t := t) (c := c) (y := y) (w := w) hL m1 w1 r1 hA hf hS.2 hc6 (by rw [← e4]; exact et) (by omega) wy ww)
  rw [← e1] at h2
  rcases h1 with ⟨k, rv⟩ | ⟨k, rv⟩
  · rcases h2 with ⟨-, rv2⟩ | ⟨k2, -⟩
    · subst rv rv2
      exact go _ (by decide) ⟨F1, M1, f1, m1, x1, F2, M2, f2, m2, y2⟩
    · exact absurd k2 k
  · rcases h2 with ⟨k2, -⟩ | ⟨-, rv2⟩
    · exact absurd k k2
    · subst rv rv2
      exact go _ rd_r ⟨F1, M1, f1, m1, x1, F2, M2, f2, m2, y2⟩
end
