/-! sweeten: the class. -/
section
variable {L : Nat} {xs : Nat → Int32} {M M' N N' X Y : Nat → Nat → Int} {k t h d e nc H : Nat} {b c v w : Int}
def sp1_i : List qs_I := [(0, 0, (0, 0), sx_r32), (0, 0, (0, 0), sx_r32), (0, 0, (0, 0), sx_r32), (1, 9, (0, 4), (0, 6)), (1, 10, (0, 210), (0, 29))]
def sp1_T : List og_T := [(none, some (0, 0, -1), [], [], [], [(0, (9, 0), (0, 0), -2147483648, -1)]), (none, some (0, 0, -1), [], [], [], [(0, (9, 0), (0, 0), 0, 2147483647), (2, (9, 0), (12, 0), 0, 0)]), (none, some (0, 0, -1), [], [], [], [(0, (9, 0), (0, 0), 0, 5), (0, (10, 0), (0, 0), -2147483648, 28), (0, (12, 0), (0, 0), 1, 6), (1, (9, 0), (12, 0), 0, 0), (1, (10, 0), (13, 0), 0, 0)]), (none, some (0, 0, -1), [], [], [], [(0, (9, 0), (0, 0), 0, 5), (0, (10, 0), (0, 0), 0, 29), (0, (11, 0), (0, 0), -2147483648, -1), (0, (12, 0), (0, 0), 1, 6), (1, (9, 0), (12, 0), 0, 0), (2, (10, 0), (13, 0), 0, 0)]), (none, some (0, 0, -1), [], [], [], [(0, (9, 0), (0, 0), 0, 5), (0, (10, 0), (0, 0), 0, 29), (0, (11, 0), (0, 0), 2, 2147483647), (0, (12, 0), (0, 0), 1, 6), (1, (9, 0), (12, 0), 0, 0), (2, (10, 0), (13, 0), 0, 0)]), (some 43, none, [(0, 0, 1), (0, 0, 0), (0, 0, 2), (0, 10, 0), (0, 9, 0), (2, 0, 8)], [(0, 2, 0, 8), (1, 0, 9, 0), (2, 0, 10, 0), (3, 0, 11, 0)], [], [(0, (9, 0), (0, 0), 0, 5), (0, (10, 0), (0, 0), 0, 29), (0, (11, 0), (0, 0), 0, 0), (0, (12, 0), (0, 0), 1, 6), (1, (9, 0), (12, 0), 0, 0), (2, (10, 0), (13, 0), 0, 0)]), (some 56, none, [(0, 0, -1), (0, 0, 9), (0, 0, 3), (0, 10, 0), (0, 9, 0), (2, 0, 8)], [(0, 2, 0, 8), (1, 0, 9, 0), (2, 0, 10, 0), (3, 0, 11, 0)], [], [(0, (9, 0), (0, 0), 0, 5), (0, (10, 0), (0, 0), 0, 29), (0, (11, 0), (0, 0), 0, 1), (0, (12, 0), (0, 0), 1, 6), (7, (11, 0), (0, 0), 0, 0), (1, (9, 0), (12, 0), 0, 0), (2, (10, 0), (13, 0), 0, 0)]), (none, some (0, 0, -1), [], [], [], [(0, (9, 0), (0, 0), 0, 5), (0, (10, 0), (0, 0), 30, 2147483647), (0, (12, 0), (0, 0), 1, 6), (1, (9, 0), (12, 0), 0, 0), (2, (10, 0), (13, 0), 0, 0)])]
theorem sp1_c : qs_chk (fun pc => bif Nat.beq pc 43 then true else Nat.beq pc 56) sp1_i 0 sp1_T 400 400 23 87 0 [(0, 2, 0, 8), (1, 0, 9, 0), (2, 0, 10, 0), (3, 0, 11, 0)] [] = true := by decide +kernel
def sp2_i : List qs_I := [(0, 0, (0, 0), sx_r32)]
def sp2_T : List og_T := [(none, some (0, 9, 0), [], [], [], [])]
theorem sp2_c : qs_chk (fun _ => false) sp2_i 0 sp2_T 400 400 23 87 46 [] [(0, 9, 0)] = true := by decide +kernel
def sp3_i : List qs_I := [(0, 0, (0, 0), sx_r32)]
def sp3_T : List og_T := [(none, some (0, 9, 0), [], [], [], [])]
theorem sp3_c : qs_chk (fun _ => false) sp3_i 0 sp3_T 400 400 23 87 59 [] [(0, 9, 0)] = true := by decide +kernel
def fb01_i : List qs_I := [(0, 0, (0, 0), (0, 5)), (0, 0, (0, 0), (0, 29)), (1, 10, (9, 60), (-1, 143))]
def fb01_T : List og_T := [(some 18, none, [], [(0, 2, 0, 8), (1, 0, 9, 0), (2, 0, 10, 0), (3, 0, 0, 2), (4, 0, 0, 0), (5, 0, 0, 1), (6, 0, 11, 0), (7, 0, 0, -2), (8, 0, 0, 0)], [], [])]
theorem fb01_c : qs_chk (fun pc => Nat.beq pc 18) fb01_i 0 fb01_T 400 400 22 88 0 [(0, 2, 0, 8), (1, 0, 9, 0), (2, 0, 10, 0), (3, 0, 0, 2), (4, 0, 0, 0), (5, 0, 0, 1)] [] = true := by decide +kernel
def fb02_i : List qs_I := [(0, 0, (0, 0), (0, 5)), (0, 0, (0, 0), (0, 29)), (0, 0, (0, 0), (-1, 143))]
def fb02_T (i : Nat) : List og_T := [(some 56, none, [(0, 10, 0), (2, 0, 21)], [(0, 2, 0, 8), (1, 0, 9, 0), (2, 0, 10, 0), (3, 0, 0, 2), (4, 0, 0, 0), (5, 0, 0, 1), (6, 0, 11, 0), (7, 0, 0, -2), (8, 0, 0, (i : Int)), (9, 0, 0, (i : Int))], [(10, (9, 60), (0, (i : Int)))], [])]
theorem fb02_c : ((List.range 10).all fun i => qs_chk (fun pc => Nat.beq pc 56) fb02_i 0 (fb02_T i) 400 400 22 88 18 [(0, 2, 0, 8), (1, 0, 9, 0), (2, 0, 10, 0), (3, 0, 0, 2), (4, 0, 0, 0), (5, 0, 0, 1), (6, 0, 11, 0), (7, 0, 0, -2), (8, 0, 0, (i : Int))] []) = true := by decide +kernel
def fb03_i : List qs_I := [(0, 0, (0, 0), (0, 5)), (0, 0, (0, 0), (0, 29)), (0, 0, (0, 0), (-1, 143)), (0, 0, (0, 0), (0, 9)), (0, 0, (0, 0), (0, 9)), (0, 0, (0, 0), sx_r32)]
def fb03_T : List og_T := [(some 18, none, [], [(0, 2, 0, 8), (1, 0, 9, 0), (2, 0, 10, 0), (3, 0, 0, 2), (4, 0, 0, 0), (5, 0, 0, 1), (6, 0, 11, 0), (7, 0, 13, 0), (8, 0, 12, 1)], [], [(0, (14, 0), (0, 0), 0, 5), (3, (14, 0), (9, 0), 0, 0)]), (some 18, none, [], [(0, 2, 0, 8), (1, 0, 9, 0), (2, 0, 10, 0), (3, 0, 0, 2), (4, 0, 0, 0), (5, 0, 0, 1), (6, 0, 11, 0), (7, 0, 0, -2), (8, 0, 12, 1)], [], [(4, (14, 0), (9, 0), 0, 0)])]
theorem fb03_c : qs_chk (fun pc => Nat.beq pc 18) fb03_i 0 fb03_T 400 400 22 88 59 [(0, 2, 0, 8), (1, 0, 9, 0), (2, 0, 10, 0), (3, 0, 0, 2), (4, 0, 0, 0), (5, 0, 0, 1), (6, 0, 11, 0), (7, 0, 0, -2), (8, 0, 12, 0), (9, 0, 13, 0)] [(0, 14, 0)] = true := by decide +kernel
def fb04_i : List qs_I := [(0, 0, (0, 0), (0, 5)), (0, 0, (0, 0), (0, 29)), (0, 0, (0, 0), (-1, 143))]
def fb04_T : List og_T := [(none, some (0, 0, -2), [], [], [(10, (9, 60), (11, 0))], [])]
theorem fb04_c : qs_chk (fun _ => false) fb04_i 0 fb04_T 400 400 22 88 18 [(0, 2, 0, 8), (1, 0, 9, 0), (2, 0, 10, 0), (3, 0, 0, 2), (4, 0, 0, 0), (5, 0, 0, 1), (6, 0, 11, 0), (7, 0, 0, -2), (8, 0, 0, 10)] [] = true := by decide +kernel
def fb05_i : List qs_I := [(0, 0, (0, 0), (0, 5)), (0, 0, (0, 0), (0, 29)), (0, 0, (0, 0), (-1, 143)), (0, 0, (0, 0), (0, 9)), (0, 0, (0, 0), (1, 10))]
def fb05_T : List og_T := [(none, some (0, 12, 0), [], [], [(10, (9, 60), (11, 0))], [(0, (13, 0), (0, 0), 10, 10)]), (none, some (0, 12, 0), [], [], [(10, (9, 60), (11, 0))], [(0, (13, 0), (0, 0), 1, 9)])]
theorem fb05_c : qs_chk (fun _ => false) fb05_i 0 fb05_T 400 400 22 88 18 [(0, 2, 0, 8), (1, 0, 9, 0), (2, 0, 10, 0), (3, 0, 0, 2), (4, 0, 0, 0), (5, 0, 0, 1), (6, 0, 11, 0), (7, 0, 12, 0), (8, 0, 13, 0)] [] = true := by decide +kernel
def fb11_i : List qs_I := [(0, 0, (0, 0), (0, 5)), (0, 0, (0, 0), (0, 29)), (1, 10, (9, 90), (-1, 143))]
def fb11_T : List og_T := [(some 18, none, [], [(0, 2, 0, 8), (1, 0, 9, 0), (2, 0, 10, 0), (3, 0, 0, 3), (4, 0, 0, 9), (5, 0, 0, -1), (6, 0, 11, 0), (7, 0, 0, -2), (8, 0, 0, 0)], [], [])]
theorem fb11_c : qs_chk (fun pc => Nat.beq pc 18) fb11_i 0 fb11_T 400 400 22 88 0 [(0, 2, 0, 8), (1, 0, 9, 0), (2, 0, 10, 0), (3, 0, 0, 3), (4, 0, 0, 9), (5, 0, 0, -1)] [] = true := by decide +kernel
def fb12_i : List qs_I := [(0, 0, (0, 0), (0, 5)), (0, 0, (0, 0), (0, 29)), (0, 0, (0, 0), (-1, 143))]
def fb12_T (i : Nat) : List og_T := [(some 56, none, [(0, 10, 0), (2, 0, 21)], [(0, 2, 0, 8), (1, 0, 9, 0), (2, 0, 10, 0), (3, 0, 0, 3), (4, 0, 0, 9), (5, 0, 0, (-1)), (6, 0, 11, 0), (7, 0, 0, -2), (8, 0, 0, (i : Int)), (9, 0, 0, (9 - (i : Int)))], [(10, (9, 90), (0, (9 - (i : Int))))], [])]
theorem fb12_c : ((List.range 10).all fun i => qs_chk (fun pc => Nat.beq pc 56) fb12_i 0 (fb12_T i) 400 400 22 88 18 [(0, 2, 0, 8), (1, 0, 9, 0), (2, 0, 10, 0), (3, 0, 0, 3), (4, 0, 0, 9), (5, 0, 0, (-1)), (6, 0, 11, 0), (7, 0, 0, -2), (8, 0, 0, (i : Int))] []) = true := by decide +kernel
def fb13_i : List qs_I := [(0, 0, (0, 0), (0, 5)), (0, 0, (0, 0), (0, 29)), (0, 0, (0, 0), (-1, 143)), (0, 0, (0, 0), (0, 9)), (0, 0, (0, 0), (0, 9)), (0, 0, (0, 0), sx_r32)]
def fb13_T : List og_T := [(some 18, none, [], [(0, 2, 0, 8), (1, 0, 9, 0), (2, 0, 10, 0), (3, 0, 0, 3), (4, 0, 0, 9), (5, 0, 0, -1), (6, 0, 11, 0), (7, 0, 13, 0), (8, 0, 12, 1)], [], [(0, (14, 0), (0, 0), 0, 5), (3, (14, 0), (9, 0), 0, 0)]), (some 18, none, [], [(0, 2, 0, 8), (1, 0, 9, 0), (2, 0, 10, 0), (3, 0, 0, 3), (4, 0, 0, 9), (5, 0, 0, -1), (6, 0, 11, 0), (7, 0, 0, -2), (8, 0, 12, 1)], [], [(4, (14, 0), (9, 0), 0, 0)])]
theorem fb13_c : qs_chk (fun pc => Nat.beq pc 18) fb13_i 0 fb13_T 400 400 22 88 59 [(0, 2, 0, 8), (1, 0, 9, 0), (2, 0, 10, 0), (3, 0, 0, 3), (4, 0, 0, 9), (5, 0, 0, -1), (6, 0, 11, 0), (7, 0, 0, -2), (8, 0, 12, 0), (9, 0, 13, 0)] [(0, 14, 0)] = true := by decide +kernel
def fb14_i : List qs_I := [(0, 0, (0, 0), (0, 5)), (0, 0, (0, 0), (0, 29)), (0, 0, (0, 0), (-1, 143))]
def fb14_T : List og_T := [(none, some (0, 0, -2), [], [], [(10, (9, 90), (11, 0))], [])]
theorem fb14_c : qs_chk (fun _ => false) fb14_i 0 fb14_T 400 400 22 88 18 [(0, 2, 0, 8), (1, 0, 9, 0), (2, 0, 10, 0), (3, 0, 0, 3), (4, 0, 0, 9), (5, 0, 0, -1), (6, 0, 11, 0), (7, 0, 0, -2), (8, 0, 0, 10)] [] = true := by decide +kernel
def fb15_i : List qs_I := [(0, 0, (0, 0), (0, 5)), (0, 0, (0, 0), (0, 29)), (0, 0, (0, 0), (-1, 143)), (0, 0, (0, 0), (0, 9)), (0, 0, (0, 0), (1, 10))]
def fb15_T : List og_T := [(none, some (0, 12, 0), [], [], [(10, (9, 90), (11, 0))], [(0, (13, 0), (0, 0), 10, 10)]), (none, some (0, 12, 0), [], [], [(10, (9, 90), (11, 0))], [(0, (13, 0), (0, 0), 1, 9)])]
theorem fb15_c : qs_chk (fun _ => false) fb15_i 0 fb15_T 400 400 22 88 18 [(0, 2, 0, 8), (1, 0, 9, 0), (2, 0, 10, 0), (3, 0, 0, 3), (4, 0, 0, 9), (5, 0, 0, -1), (6, 0, 11, 0), (7, 0, 12, 0), (8, 0, 13, 0)] [] = true := by decide +kernel
/-- the first value by which it is so -/
def sw (f val : Nat → Int) (g : Int) : Nat → Nat → Int
  | 0, _ => -2
  | k + 1, i => if f i = g then val i else sw f val g k (i + 1)
theorem sw_eq {f f' val : Nat → Int} {g : Int} : ∀ (k i : Nat), (∀ j, i ≤ j → j < i + k → f' j = f j) → sw f' val g k i = sw f val g k i := by
  intro k
  induction k with
  | zero => intro i _; rfl
  | succ k ih =>
    intro i h
    show (if f' i = g then val i else sw f' val g k (i + 1)) = if f i = g then val i else sw f val g k (i + 1)
    rw [h i (Nat.le_refl i) (by omega), ih (i + 1) (fun j a b => h j (by omega) (by omega))]
theorem sw_r {f val : Nat → Int} {g lo hi : Int} (h0 : lo ≤ -2 ∧ -2 ≤ hi) : ∀ (k i : Nat), (∀ j, i ≤ j → j < i + k → lo ≤ val j ∧ val j ≤ hi) → lo ≤ sw f val g k i ∧ sw f val g k i ≤ hi := by
  intro k
  induction k with
  | zero => intro i _; exact h0
  | succ k ih =>
    intro i h
    show lo ≤ (if f i = g then val i else sw f val g k (i + 1)) ∧ (if f i = g then val i else sw f val g k (i + 1)) ≤ hi
    split
    · exact h i (Nat.le_refl i) (by omega)
    · exact ih (i + 1) (fun j a b => h j (by omega) (by omega))
theorem su_same {K : Nat → Nat → Int} {c i : Nat} {v : Int} (f : ∀ a, a < 128 → K a = M a) : ∀ a, a < 128 → sx_up K c i v a = sx_up M c i v a := fun a ha => by
  funext j
  show (if a = c then (if j = i then v else K a j) else K a j) = (if a = c then (if j = i then v else M a j) else M a j)
  rw [f a ha]
theorem vi_same {V V' : Nat → Nat → Int} (hA : fs_A V nc H) (f : ∀ a, a < 128 → V' a = V a) (h1 : t ≤ e) (h2 : e < 30) : vi V' nc t e = vi V nc t e := by
  refine vi_x (X := pv_0 V') hA ⟨⟨f 10 (by decide), f 11 (by decide), ?_, f 67 (by decide), f 68 (by decide), ?_, f 70 (by decide), f 71 (by decide)⟩, ?_, ?_, fun g _ => ?_⟩ h1 h2
  · show V' 53 33 = V 53 33
    rw [f 53 (by decide)]
  · show V' 69 0 = V 69 0
    rw [f 69 (by decide)]
  · show V' 9 7 = V 9 7
    rw [f 9 (by decide)]
  · show V' 9 6 = V 9 6
    rw [f 9 (by decide)]
  · show V' 12 g = V 12 g
    rw [f 12 (by decide)]
theorem fs_As {K : Nat → Nat → Int} (f : ∀ a, a < 128 → K a = M a) (hA : fs_A M nc H) : fs_A K nc H := by
  unfold fs_A
  rw [f 9 (by decide), f 53 (by decide), f 60 (by decide), f 59 (by decide), f 10 (by decide), f 11 (by decide), f 56 (by decide), f 57 (by decide), f 55 (by decide), f 12 (by decide), f 74 (by decide), f 61 (by decide)]
  exact hA
/-- numbers but one, and nothing of what isn't thought's own, are as they were -/
def sw_I (M : Nat → Nat → Int) (q : Nat) (N : Nat → Nat → Int) : Prop := (∀ a, a < 128 → a ≠ 10 → ¬ (19 ≤ a ∧ a ≤ 31) → N a = M a) ∧ ∀ j, j ≠ q → N 10 j = M 10 j

def sw_0 (M : Nat → Nat → Int) (h : Nat) (v : Int) : Nat → Nat → Int := sx_up (sx_up M 10 (h + 60) v) 56 h v
theorem sw_e0 : (∀ a, a ≠ 10 → a ≠ 56 → sw_0 M h v a = M a) ∧ (∀ j, j ≠ h + 60 → sw_0 M h v 10 j = M 10 j) ∧ sw_0 M h v 10 (h + 60) = v ∧ (∀ j, j ≠ h → sw_0 M h v 56 j = M 56 j) ∧ sw_0 M h v 56 h = v := by
  refine ⟨fun a x y => ?_, fun j x => ?_, ?_, fun j x => ?_, ?_⟩
  · show sx_up _ _ _ _ a = _
    rw [sh_une y, sh_une x]
  · show sx_up _ _ _ _ 10 j = _
    rw [sh_une (by decide), sh_unj x]
  · show sx_up _ _ _ _ 10 _ = _
    rw [sh_une (by decide), sh_uat]
  · show sx_up _ _ _ _ 56 j = _
    rw [sh_unj x, sh_une (by decide)]
  · show sx_up _ _ _ _ 56 h = _
    rw [sh_uat]
theorem sw_A0 (hh : h < 6) (hA : fs_A M nc H) : fs_A (sw_0 M h v) nc H := by
  obtain ⟨e, e10, e10h, ec, ech⟩ := sw_e0 (M := M) (h := h) (v := v)
  obtain ⟨⟨a1, a2, a3, a4, a5⟩, b1, b2, b3, b4, b5⟩ := hA
  refine ⟨⟨by rw [e 9 (by decide) (by decide)]; exact a1, by rw [e 53 (by decide) (by decide)]; exact a2, a3, by rw [e 53 (by decide) (by decide)]; exact a4, a5⟩, fun c hc => ?_, fun g hg => ⟨?_, ?_, ?_, ?_⟩, fun d hd => ?_, ?_, ?_⟩
  · rw [e 60 (by decide) (by decide), e10 (c + 180) (by omega), e 59 (by decide) (by decide), e 11 (by decide) (by decide)]
    exact b1 c hc
  · by_cases x : g = h
    · rw [x, ech, e10h]
    · rw [ec g x, e10 (g + 60) (by omega)]
      exact (b2 g hg).1
  · rw [e 57 (by decide) (by decide), e10 (g + 90) (by omega)]
    exact (b2 g hg).2.1
  · rw [e 55 (by decide) (by decide), e10 (g + 30) (by omega)]
    exact (b2 g hg).2.2.1
  · rw [e 12 (by decide) (by decide), e 74 (by decide) (by decide)]
    exact (b2 g hg).2.2.2
  · rw [e 61 (by decide) (by decide), e10 (d + 150) (by omega)]
    exact b3 d hd
  · rw [e 9 (by decide) (by decide), e 53 (by decide) (by decide)]
    exact b4
  · rw [e 9 (by decide) (by decide), e 53 (by decide) (by decide)]
    exact b5

/-- the class: value by value (0) -/
theorem fb_loop0 (hL : L < 2 ^ 31) (hm0 : sx_mok cl_ly M) (hw : WF M) (hR : vu_R M) (hA : fs_A M nc H) (hh : h < H) (ht : M 10 210 = (t : Int)) (hte : t ≤ e) (he : e ≤ 29) : ∀ (k i : Nat) (M' : Nat → Nat → Int), i + k = 10 → sx_mok cl_ly M' → sw_I M (h + 60) M' → rz_fin (fun r N => r = some (.int (Int32.ofInt (sw (fun i => vi (sw_0 M h (i : Int)) nc t e) (fun i => (i : Int)) (h : Int) k i))) ∧ sx_mok cl_ly N ∧ fs_x M N) L xs 88 22 18 [(0, .ref 8), (1, .int (Int32.ofInt (h : Int))), (2, .int (Int32.ofInt (e : Int))), (3, .int (Int32.ofInt 2)), (4, .int (Int32.ofInt 0)), (5, .int (Int32.ofInt 1)), (6, .int (Int32.ofInt (M 10 (h + 60)))), (7, .int (Int32.ofInt (-2))), (8, .int (Int32.ofInt (i : Int)))] [] M' := by
  obtain ⟨⟨a1, a2, a3, a4, a5⟩, -⟩ := id hA
  have wb := cx_m10 hm0 (k := h + 60) (by omega)
  have nq : ((h : Int) + 60).toNat = h + 60 := by omega
  -- what was is laid again
  have rest : ∀ (M' N : Nat → Nat → Int), sw_I M (h + 60) M' → (∀ a, a < 128 → N a = sx_up M' 10 ((h : Int) + 60).toNat (M 10 (h + 60)) a) → fs_x M N := fun M' N hI f a ha hn => by
    rw [f a ha, nq]
    by_cases x : a = 10
    · rw [x]
      funext j
      by_cases y : j = h + 60
      · rw [y, sh_uat]
      · rw [sh_unj y, hI.2 j y]
    · rw [sh_une x]
      exact hI.1 a ha x hn
  intro k
  induction k with
  | zero =>
    intro i M' hi hm hI
    have ei : i = 10 := by omega
    subst ei
    refine qs_use (zs := [(h : Int), (e : Int), M 10 (h + 60)]) fb04_c hL hm (qs_in (show 0 ≤ (h : Int) ∧ (h : Int) ≤ 5 by omega) (qs_in (show 0 ≤ (e : Int) ∧ (e : Int) ≤ 29 by omega) (qs_in wb (qs_fin rfl)))) (Nat.le_refl _) rfl rfl (qs_c (fun N1 hN1 hc hM => ?_) qs_z)
    have f1 : ∀ a, a < 128 → N1 a = sx_up M' 10 ((h : Int) + 60).toNat (M 10 (h + 60)) a := hM
    exact ⟨rfl, hN1, rest M' N1 hI f1⟩
  | succ k ih =>
    intro i M' hi hm hI
    refine qs_use (zs := [(h : Int), (e : Int), M 10 (h + 60)]) (List.all_eq_true.mp fb02_c i (List.mem_range.mpr (by omega))) hL hm (qs_in (show 0 ≤ (h : Int) ∧ (h : Int) ≤ 5 by omega) (qs_in (show 0 ≤ (e : Int) ∧ (e : Int) ≤ 29 by omega) (qs_in wb (qs_fin rfl)))) (Nat.le_refl _) rfl rfl (qs_c (fun N1 hN1 hc hM => ?_) qs_z)
    have f1 : ∀ a, a < 128 → N1 a = sx_up M' 10 ((h : Int) + 60).toNat (i : Int) a := hM
    rw [nq] at f1
    have I1 : ∀ a, a < 128 → a ≠ 10 → ¬ (19 ≤ a ∧ a ≤ 31) → N1 a = M a := fun a ha x y => by rw [f1 a ha, sh_une x]; exact hI.1 a ha x y
    obtain ⟨w1, r1⟩ := wr_ten hw hR I1
    obtain ⟨se, s10, s10h, -, -⟩ := sw_e0 (M := M) (h := h) (v := (i : Int))
    have e10 : N1 10 = sw_0 M h (i : Int) 10 := by
      rw [f1 10 (by decide)]
      funext j
      by_cases y : j = h + 60
      · rw [y, sh_uat, s10h]
      · rw [sh_unj y, hI.2 j y, s10 j y]
    have i210 : N1 10 210 = (t : Int) := by rw [e10, s10 210 (by omega)]; exact ht
    have vv : 0 ≤ (i : Int) ∧ (i : Int) ≤ 9 := by omega
    show rz_fin _ L xs 88 22 56 [(0, .ref 8), (1, .int (Int32.ofInt (h : Int))), (2, .int (Int32.ofInt (e : Int))), (3, .int (Int32.ofInt 2)), (4, .int (Int32.ofInt 0)), (5, .int (Int32.ofInt 1)), (6, .int (Int32.ofInt (M 10 (h + 60)))), (7, .int (Int32.ofInt (-2))), (8, .int (Int32.ofInt (i : Int))), (9, .int (Int32.ofInt (i : Int)))] [.int (Int32.ofInt (e : Int)), .ref 21] N1
    refine qs_vc (k := 89) (b := 21) (d := 21) (d' := 21) (rest := []) rfl rfl rfl rfl rfl rfl rfl rfl (Nat.le_refl _) rfl (rz_d (by decide) (vo_x (xs := xs) (nc := nc) (t := t) (e := e) hL hN1 w1 r1 (by rw [I1 9 (by decide) (by decide) (by decide)]; exact a1) a3 i210 hte he)) (fun r9 N2 hr => ?_)
    obtain ⟨X, hX, F2, hN2, rfl⟩ := hr
    have pX : pv (sw_0 M h (i : Int)) X := pv_of (fun a q => by
      by_cases x : a = 10
      · rw [x]; exact e10
      · rw [I1 a (by omega) x (by omega)]
        exact (se a x (by omega)).symm) hX
    have eg := vi_x (sw_A0 (v := (i : Int)) (by omega) hA) pX hte (by omega)
    have rg := vi_r (t := t) (d := e) (sw_A0 (h := h) (v := (i : Int)) (by omega) hA)
    rw [eg]
    have I2 : sw_I M (h + 60) N2 := by
      refine ⟨fun a ha x y => ?_, fun j y => ?_⟩
      · rw [F2.1 a ha (by omega), hX.2.2.1 a ha (by omega) (by omega)]
        exact I1 a ha x y
      · rw [F2.1 10 (by decide) (by decide), hX.2.2.1 10 (by decide) (by decide) (by decide), f1 10 (by decide), sh_unj y]
        exact hI.2 j y
    have wv : sx_w sx_r32 (vq_or (vi (sw_0 M h (i : Int)) nc t e)) := by
      unfold vq_or
      split
      · exact og_w32 (by decide) (by decide)
      · exact og_w32 (by omega) (by omega)
    refine qs_use (zs := [(h : Int), (e : Int), M 10 (h + 60), (i : Int), (i : Int), vq_or (vi (sw_0 M h (i : Int)) nc t e)]) fb03_c hL hN2 (qs_in (show 0 ≤ (h : Int) ∧ (h : Int) ≤ 5 by omega) (qs_in (show 0 ≤ (e : Int) ∧ (e : Int) ≤ 29 by omega) (qs_in wb (qs_in (show 0 ≤ (i : Int) ∧ (i : Int) ≤ 9 by omega) (qs_in vv (qs_iw wv (qs_fin rfl))))))) (Nat.le_refl _) rfl rfl (qs_c (fun N3 hN3 hc hM => ?_) (qs_c (fun N3 hN3 hc hM => ?_) qs_z))
    · obtain ⟨c1, c2, -⟩ := hc
      have c1 : 0 ≤ vq_or (vi (sw_0 M h (i : Int)) nc t e) ∧ vq_or (vi (sw_0 M h (i : Int)) nc t e) ≤ 5 := c1
      have c2 : vq_or (vi (sw_0 M h (i : Int)) nc t e) = (h : Int) := c2
      have fN3 : ∀ a, a < 128 → N3 a = N2 a := hM
      have e0 : sw (fun i => vi (sw_0 M h (i : Int)) nc t e) (fun i => (i : Int)) (h : Int) (k + 1) i = (i : Int) := if_pos (vq_or_n.mp c2)
      rw [e0]
      have I3 : sw_I M (h + 60) N3 := ⟨fun a ha x y => (fN3 a ha).trans (I2.1 a ha x y), fun j y => by rw [fN3 10 (by decide)]; exact I2.2 j y⟩
      refine qs_use (zs := [(h : Int), (e : Int), M 10 (h + 60), (i : Int), (i : Int) + 1]) fb05_c hL hN3 (qs_in (show 0 ≤ (h : Int) ∧ (h : Int) ≤ 5 by omega) (qs_in (show 0 ≤ (e : Int) ∧ (e : Int) ≤ 29 by omega) (qs_in wb (qs_in vv (qs_in (show 1 ≤ (i : Int) + 1 ∧ (i : Int) + 1 ≤ 10 by omega) (qs_fin rfl)))))) (Nat.le_refl _) rfl rfl (qs_c (fun N4 hN4 hc hM => ?_) (qs_c (fun N4 hN4 hc hM => ?_) qs_z))
      · have f4 : ∀ a, a < 128 → N4 a = sx_up N3 10 ((h : Int) + 60).toNat (M 10 (h + 60)) a := hM
        exact ⟨rfl, hN4, rest N3 N4 I3 f4⟩
      · have f4 : ∀ a, a < 128 → N4 a = sx_up N3 10 ((h : Int) + 60).toNat (M 10 (h + 60)) a := hM
        exact ⟨rfl, hN4, rest N3 N4 I3 f4⟩
    · obtain ⟨c1, -⟩ := hc
      have c1 : ¬ vq_or (vi (sw_0 M h (i : Int)) nc t e) = (h : Int) := c1
      have fN3 : ∀ a, a < 128 → N3 a = N2 a := hM
      have e0 : sw (fun i => vi (sw_0 M h (i : Int)) nc t e) (fun i => (i : Int)) (h : Int) (k + 1) i = sw (fun i => vi (sw_0 M h (i : Int)) nc t e) (fun i => (i : Int)) (h : Int) k (i + 1) := if_neg (fun q => c1 (vq_or_n.mpr q))
      rw [e0]
      have I3 : sw_I M (h + 60) N3 := ⟨fun a ha x y => (fN3 a ha).trans (I2.1 a ha x y), fun j y => by rw [fN3 10 (by decide)]; exact I2.2 j y⟩
      exact (ih (i + 1) N3 (by omega) hN3 I3)
theorem fb_x0 (hL : L < 2 ^ 31) (hm : sx_mok cl_ly M) (hw : WF M) (hR : vu_R M) (hA : fs_A M nc H) (hh : h < H) (ht : M 10 210 = (t : Int)) (hte : t ≤ e) (he : e ≤ 29) : rz_fin (fun r N => r = some (.int (Int32.ofInt (sw (fun i => vi (sw_0 M h (i : Int)) nc t e) (fun i => (i : Int)) (h : Int) 10 0))) ∧ sx_mok cl_ly N ∧ fs_x M N) L xs 88 22 0 [(0, .ref 8), (1, .int (Int32.ofInt (h : Int))), (2, .int (Int32.ofInt (e : Int))), (3, .int (Int32.ofInt 2)), (4, .int (Int32.ofInt 0)), (5, .int (Int32.ofInt 1))] [] M := by
  obtain ⟨⟨a1, a2, a3, a4, a5⟩, -⟩ := id hA
  have wb := cx_m10 hm (k := h + 60) (by omega)
  have nq : ((h : Int) + 60).toNat = h + 60 := by omega
  refine qs_use (zs := [(h : Int), (e : Int), M 10 (h + 60)]) fb01_c hL hm (qs_in (show 0 ≤ (h : Int) ∧ (h : Int) ≤ 5 by omega) (qs_in (show 0 ≤ (e : Int) ∧ (e : Int) ≤ 29 by omega) (qs_rd (show 0 ≤ (h : Int) + 60 by omega) (show M 10 ((h : Int) + 60).toNat = _ by rw [nq]; rfl) wb (qs_fin rfl)))) (Nat.le_refl _) rfl rfl (qs_c (fun N1 hN1 hc hM => ?_) qs_z)
  have f1 : ∀ a, a < 128 → N1 a = M a := hM
  exact fb_loop0 (xs := xs) hL hm hw hR hA hh ht hte he 10 0 N1 rfl hN1 ⟨fun a ha _ _ => f1 a ha, fun j _ => by rw [f1 10 (by decide)]⟩

def sw_1 (M : Nat → Nat → Int) (h : Nat) (v : Int) : Nat → Nat → Int := sx_up (sx_up M 10 (h + 90) v) 57 h v
theorem sw_e1 : (∀ a, a ≠ 10 → a ≠ 57 → sw_1 M h v a = M a) ∧ (∀ j, j ≠ h + 90 → sw_1 M h v 10 j = M 10 j) ∧ sw_1 M h v 10 (h + 90) = v ∧ (∀ j, j ≠ h → sw_1 M h v 57 j = M 57 j) ∧ sw_1 M h v 57 h = v := by
  refine ⟨fun a x y => ?_, fun j x => ?_, ?_, fun j x => ?_, ?_⟩
  · show sx_up _ _ _ _ a = _
    rw [sh_une y, sh_une x]
  · show sx_up _ _ _ _ 10 j = _
    rw [sh_une (by decide), sh_unj x]
  · show sx_up _ _ _ _ 10 _ = _
    rw [sh_une (by decide), sh_uat]
  · show sx_up _ _ _ _ 57 j = _
    rw [sh_unj x, sh_une (by decide)]
  · show sx_up _ _ _ _ 57 h = _
    rw [sh_uat]
theorem sw_A1 (hh : h < 6) (hA : fs_A M nc H) : fs_A (sw_1 M h v) nc H := by
  obtain ⟨e, e10, e10h, ec, ech⟩ := sw_e1 (M := M) (h := h) (v := v)
  obtain ⟨⟨a1, a2, a3, a4, a5⟩, b1, b2, b3, b4, b5⟩ := hA
  refine ⟨⟨by rw [e 9 (by decide) (by decide)]; exact a1, by rw [e 53 (by decide) (by decide)]; exact a2, a3, by rw [e 53 (by decide) (by decide)]; exact a4, a5⟩, fun c hc => ?_, fun g hg => ⟨?_, ?_, ?_, ?_⟩, fun d hd => ?_, ?_, ?_⟩
  · rw [e 60 (by decide) (by decide), e10 (c + 180) (by omega), e 59 (by decide) (by decide), e 11 (by decide) (by decide)]
    exact b1 c hc
  · rw [e 56 (by decide) (by decide), e10 (g + 60) (by omega)]
    exact (b2 g hg).1
  · by_cases x : g = h
    · rw [x, ech, e10h]
    · rw [ec g x, e10 (g + 90) (by omega)]
      exact (b2 g hg).2.1
  · rw [e 55 (by decide) (by decide), e10 (g + 30) (by omega)]
    exact (b2 g hg).2.2.1
  · rw [e 12 (by decide) (by decide), e 74 (by decide) (by decide)]
    exact (b2 g hg).2.2.2
  · rw [e 61 (by decide) (by decide), e10 (d + 150) (by omega)]
    exact b3 d hd
  · rw [e 9 (by decide) (by decide), e 53 (by decide) (by decide)]
    exact b4
  · rw [e 9 (by decide) (by decide), e 53 (by decide) (by decide)]
    exact b5

/-- the class: value by value (1) -/
theorem fb_loop1 (hL : L < 2 ^ 31) (hm0 : sx_mok cl_ly M) (hw : WF M) (hR : vu_R M) (hA : fs_A M nc H) (hh : h < H) (ht : M 10 210 = (t : Int)) (hte : t ≤ e) (he : e ≤ 29) : ∀ (k i : Nat) (M' : Nat → Nat → Int), i + k = 10 → sx_mok cl_ly M' → sw_I M (h + 90) M' → rz_fin (fun r N => r = some (.int (Int32.ofInt (sw (fun i => vi (sw_1 M h (9 - (i : Int))) nc t e) (fun i => (9 - (i : Int))) (h : Int) k i))) ∧ sx_mok cl_ly N ∧ fs_x M N) L xs 88 22 18 [(0, .ref 8), (1, .int (Int32.ofInt (h : Int))), (2, .int (Int32.ofInt (e : Int))), (3, .int (Int32.ofInt 3)), (4, .int (Int32.ofInt 9)), (5, .int (Int32.ofInt (-1))), (6, .int (Int32.ofInt (M 10 (h + 90)))), (7, .int (Int32.ofInt (-2))), (8, .int (Int32.ofInt (i : Int)))] [] M' := by
  obtain ⟨⟨a1, a2, a3, a4, a5⟩, -⟩ := id hA
  have wb := cx_m10 hm0 (k := h + 90) (by omega)
  have nq : ((h : Int) + 90).toNat = h + 90 := by omega
  -- what was is laid again
  have rest : ∀ (M' N : Nat → Nat → Int), sw_I M (h + 90) M' → (∀ a, a < 128 → N a = sx_up M' 10 ((h : Int) + 90).toNat (M 10 (h + 90)) a) → fs_x M N := fun M' N hI f a ha hn => by
    rw [f a ha, nq]
    by_cases x : a = 10
    · rw [x]
      funext j
      by_cases y : j = h + 90
      · rw [y, sh_uat]
      · rw [sh_unj y, hI.2 j y]
    · rw [sh_une x]
      exact hI.1 a ha x hn
  intro k
  induction k with
  | zero =>
    intro i M' hi hm hI
    have ei : i = 10 := by omega
    subst ei
    refine qs_use (zs := [(h : Int), (e : Int), M 10 (h + 90)]) fb14_c hL hm (qs_in (show 0 ≤ (h : Int) ∧ (h : Int) ≤ 5 by omega) (qs_in (show 0 ≤ (e : Int) ∧ (e : Int) ≤ 29 by omega) (qs_in wb (qs_fin rfl)))) (Nat.le_refl _) rfl rfl (qs_c (fun N1 hN1 hc hM => ?_) qs_z)
    have f1 : ∀ a, a < 128 → N1 a = sx_up M' 10 ((h : Int) + 90).toNat (M 10 (h + 90)) a := hM
    exact ⟨rfl, hN1, rest M' N1 hI f1⟩
  | succ k ih =>
    intro i M' hi hm hI
    refine qs_use (zs := [(h : Int), (e : Int), M 10 (h + 90)]) (List.all_eq_true.mp fb12_c i (List.mem_range.mpr (by omega))) hL hm (qs_in (show 0 ≤ (h : Int) ∧ (h : Int) ≤ 5 by omega) (qs_in (show 0 ≤ (e : Int) ∧ (e : Int) ≤ 29 by omega) (qs_in wb (qs_fin rfl)))) (Nat.le_refl _) rfl rfl (qs_c (fun N1 hN1 hc hM => ?_) qs_z)
    have f1 : ∀ a, a < 128 → N1 a = sx_up M' 10 ((h : Int) + 90).toNat (9 - (i : Int)) a := hM
    rw [nq] at f1
    have I1 : ∀ a, a < 128 → a ≠ 10 → ¬ (19 ≤ a ∧ a ≤ 31) → N1 a = M a := fun a ha x y => by rw [f1 a ha, sh_une x]; exact hI.1 a ha x y
    obtain ⟨w1, r1⟩ := wr_ten hw hR I1
    obtain ⟨se, s10, s10h, -, -⟩ := sw_e1 (M := M) (h := h) (v := (9 - (i : Int)))
    have e10 : N1 10 = sw_1 M h (9 - (i : Int)) 10 := by
      rw [f1 10 (by decide)]
      funext j
      by_cases y : j = h + 90
      · rw [y, sh_uat, s10h]
      · rw [sh_unj y, hI.2 j y, s10 j y]
    have i210 : N1 10 210 = (t : Int) := by rw [e10, s10 210 (by omega)]; exact ht
    have vv : 0 ≤ (9 - (i : Int)) ∧ (9 - (i : Int)) ≤ 9 := by omega
    show rz_fin _ L xs 88 22 56 [(0, .ref 8), (1, .int (Int32.ofInt (h : Int))), (2, .int (Int32.ofInt (e : Int))), (3, .int (Int32.ofInt 3)), (4, .int (Int32.ofInt 9)), (5, .int (Int32.ofInt (-1))), (6, .int (Int32.ofInt (M 10 (h + 90)))), (7, .int (Int32.ofInt (-2))), (8, .int (Int32.ofInt (i : Int))), (9, .int (Int32.ofInt (9 - (i : Int))))] [.int (Int32.ofInt (e : Int)), .ref 21] N1
    refine qs_vc (k := 89) (b := 21) (d := 21) (d' := 21) (rest := []) rfl rfl rfl rfl rfl rfl rfl rfl (Nat.le_refl _) rfl (rz_d (by decide) (vo_x (xs := xs) (nc := nc) (t := t) (e := e) hL hN1 w1 r1 (by rw [I1 9 (by decide) (by decide) (by decide)]; exact a1) a3 i210 hte he)) (fun r9 N2 hr => ?_)
    obtain ⟨X, hX, F2, hN2, rfl⟩ := hr
    have pX : pv (sw_1 M h (9 - (i : Int))) X := pv_of (fun a q => by
      by_cases x : a = 10
      · rw [x]; exact e10
      · rw [I1 a (by omega) x (by omega)]
        exact (se a x (by omega)).symm) hX
    have eg := vi_x (sw_A1 (v := (9 - (i : Int))) (by omega) hA) pX hte (by omega)
    have rg := vi_r (t := t) (d := e) (sw_A1 (h := h) (v := (9 - (i : Int))) (by omega) hA)
    rw [eg]
    have I2 : sw_I M (h + 90) N2 := by
      refine ⟨fun a ha x y => ?_, fun j y => ?_⟩
      · rw [F2.1 a ha (by omega), hX.2.2.1 a ha (by omega) (by omega)]
        exact I1 a ha x y
      · rw [F2.1 10 (by decide) (by decide), hX.2.2.1 10 (by decide) (by decide) (by decide), f1 10 (by decide), sh_unj y]
        exact hI.2 j y
    have wv : sx_w sx_r32 (vq_or (vi (sw_1 M h (9 - (i : Int))) nc t e)) := by
      unfold vq_or
      split
      · exact og_w32 (by decide) (by decide)
      · exact og_w32 (by omega) (by omega)
    refine qs_use (zs := [(h : Int), (e : Int), M 10 (h + 90), (i : Int), (9 - (i : Int)), vq_or (vi (sw_1 M h (9 - (i : Int))) nc t e)]) fb13_c hL hN2 (qs_in (show 0 ≤ (h : Int) ∧ (h : Int) ≤ 5 by omega) (qs_in (show 0 ≤ (e : Int) ∧ (e : Int) ≤ 29 by omega) (qs_in wb (qs_in (show 0 ≤ (i : Int) ∧ (i : Int) ≤ 9 by omega) (qs_in vv (qs_iw wv (qs_fin rfl))))))) (Nat.le_refl _) rfl rfl (qs_c (fun N3 hN3 hc hM => ?_) (qs_c (fun N3 hN3 hc hM => ?_) qs_z))
    · obtain ⟨c1, c2, -⟩ := hc
      have c1 : 0 ≤ vq_or (vi (sw_1 M h (9 - (i : Int))) nc t e) ∧ vq_or (vi (sw_1 M h (9 - (i : Int))) nc t e) ≤ 5 := c1
      have c2 : vq_or (vi (sw_1 M h (9 - (i : Int))) nc t e) = (h : Int) := c2
      have fN3 : ∀ a, a < 128 → N3 a = N2 a := hM
      have e0 : sw (fun i => vi (sw_1 M h (9 - (i : Int))) nc t e) (fun i => (9 - (i : Int))) (h : Int) (k + 1) i = (9 - (i : Int)) := if_pos (vq_or_n.mp c2)
      rw [e0]
      have I3 : sw_I M (h + 90) N3 := ⟨fun a ha x y => (fN3 a ha).trans (I2.1 a ha x y), fun j y => by rw [fN3 10 (by decide)]; exact I2.2 j y⟩
      refine qs_use (zs := [(h : Int), (e : Int), M 10 (h + 90), (9 - (i : Int)), (i : Int) + 1]) fb15_c hL hN3 (qs_in (show 0 ≤ (h : Int) ∧ (h : Int) ≤ 5 by omega) (qs_in (show 0 ≤ (e : Int) ∧ (e : Int) ≤ 29 by omega) (qs_in wb (qs_in vv (qs_in (show 1 ≤ (i : Int) + 1 ∧ (i : Int) + 1 ≤ 10 by omega) (qs_fin rfl)))))) (Nat.le_refl _) rfl rfl (qs_c (fun N4 hN4 hc hM => ?_) (qs_c (fun N4 hN4 hc hM => ?_) qs_z))
      · have f4 : ∀ a, a < 128 → N4 a = sx_up N3 10 ((h : Int) + 90).toNat (M 10 (h + 90)) a := hM
        exact ⟨rfl, hN4, rest N3 N4 I3 f4⟩
      · have f4 : ∀ a, a < 128 → N4 a = sx_up N3 10 ((h : Int) + 90).toNat (M 10 (h + 90)) a := hM
        exact ⟨rfl, hN4, rest N3 N4 I3 f4⟩
    · obtain ⟨c1, -⟩ := hc
      have c1 : ¬ vq_or (vi (sw_1 M h (9 - (i : Int))) nc t e) = (h : Int) := c1
      have fN3 : ∀ a, a < 128 → N3 a = N2 a := hM
      have e0 : sw (fun i => vi (sw_1 M h (9 - (i : Int))) nc t e) (fun i => (9 - (i : Int))) (h : Int) (k + 1) i = sw (fun i => vi (sw_1 M h (9 - (i : Int))) nc t e) (fun i => (9 - (i : Int))) (h : Int) k (i + 1) := if_neg (fun q => c1 (vq_or_n.mpr q))
      rw [e0]
      have I3 : sw_I M (h + 90) N3 := ⟨fun a ha x y => (fN3 a ha).trans (I2.1 a ha x y), fun j y => by rw [fN3 10 (by decide)]; exact I2.2 j y⟩
      exact (ih (i + 1) N3 (by omega) hN3 I3)
theorem fb_x1 (hL : L < 2 ^ 31) (hm : sx_mok cl_ly M) (hw : WF M) (hR : vu_R M) (hA : fs_A M nc H) (hh : h < H) (ht : M 10 210 = (t : Int)) (hte : t ≤ e) (he : e ≤ 29) : rz_fin (fun r N => r = some (.int (Int32.ofInt (sw (fun i => vi (sw_1 M h (9 - (i : Int))) nc t e) (fun i => (9 - (i : Int))) (h : Int) 10 0))) ∧ sx_mok cl_ly N ∧ fs_x M N) L xs 88 22 0 [(0, .ref 8), (1, .int (Int32.ofInt (h : Int))), (2, .int (Int32.ofInt (e : Int))), (3, .int (Int32.ofInt 3)), (4, .int (Int32.ofInt 9)), (5, .int (Int32.ofInt (-1)))] [] M := by
  obtain ⟨⟨a1, a2, a3, a4, a5⟩, -⟩ := id hA
  have wb := cx_m10 hm (k := h + 90) (by omega)
  have nq : ((h : Int) + 90).toNat = h + 90 := by omega
  refine qs_use (zs := [(h : Int), (e : Int), M 10 (h + 90)]) fb11_c hL hm (qs_in (show 0 ≤ (h : Int) ∧ (h : Int) ≤ 5 by omega) (qs_in (show 0 ≤ (e : Int) ∧ (e : Int) ≤ 29 by omega) (qs_rd (show 0 ≤ (h : Int) + 90 by omega) (show M 10 ((h : Int) + 90).toNat = _ by rw [nq]; rfl) wb (qs_fin rfl)))) (Nat.le_refl _) rfl rfl (qs_c (fun N1 hN1 hc hM => ?_) qs_z)
  have f1 : ∀ a, a < 128 → N1 a = M a := hM
  exact fb_loop1 (xs := xs) hL hm hw hR hA hh ht hte he 10 0 N1 rfl hN1 ⟨fun a ha _ _ => f1 a ha, fun j _ => by rw [f1 10 (by decide)]⟩

def sp_ok (c b w H t : Int) : Prop := 0 ≤ c ∧ c < H ∧ t ≤ b ∧ b ≤ 29 ∧ 0 ≤ w ∧ w ≤ 1
def sp_v (M : Nat → Nat → Int) (nc t h e : Nat) (w : Int) : Int := if w = 0 then sw (fun i => vi (sw_0 M h (i : Int)) nc t e) (fun i => (i : Int)) (h : Int) 10 0 else sw (fun i => vi (sw_1 M h (9 - (i : Int))) nc t e) (fun i => (9 - (i : Int))) (h : Int) 10 0
theorem sp_r : -2 ≤ sp_v M nc t h e w ∧ sp_v M nc t h e w ≤ 9 := by
  unfold sp_v
  split
  · exact sw_r (by decide) 10 0 (fun j _ hj => by omega)
  · exact sw_r (by decide) 10 0 (fun j _ hj => by omega)
theorem sp_x (hL : L < 2 ^ 31) (hm : sx_mok cl_ly M) (hw : WF M) (hR : vu_R M) (hA : fs_A M nc H) (h4 : M 9 4 = (H : Int)) (ht : M 10 210 = (t : Int)) (h29 : t ≤ 29) (wc : sx_w sx_r32 c) (wb : sx_w sx_r32 b) (ww : sx_w sx_r32 w) : rz_fin (fun r N => sx_mok cl_ly N ∧ fs_x M N ∧ ((¬ sp_ok c b w (M 9 4) (M 10 210) ∧ r = some (.int (Int32.ofInt (-1)))) ∨ (sp_ok c b w (M 9 4) (M 10 210) ∧ r = some (.int (Int32.ofInt (sp_v M nc t c.toNat b.toNat w)))))) L xs 87 23 0 [(0, .ref 8), (1, .int (Int32.ofInt c)), (2, .int (Int32.ofInt b)), (3, .int (Int32.ofInt w))] [] M := by
  have hH := cx_fld (c := 9) (k := 4) (lo := 0) (hi := 6) hm (by decide +kernel)
  have t29 : 0 ≤ M 10 210 ∧ M 10 210 ≤ 29 := by omega
  have rg := sp_r (M := M) (nc := nc) (t := t) (h := c.toNat) (e := b.toNat) (w := w)
  have wr : sx_w sx_r32 (sp_v M nc t c.toNat b.toNat w) := og_w32 (by omega) (by omega)
  refine qs_use (zs := [c, b, w, M 9 4, M 10 210]) sp1_c hL hm (qs_iw wc (qs_iw wb (qs_iw ww (qs_rd (show (0 : Int) ≤ 4 by decide) rfl hH (qs_rd (show (0 : Int) ≤ 210 by decide) rfl t29 (qs_fin rfl)))))) (Nat.le_refl _) rfl rfl (qs_c (fun K hK hc hM => ?_) (qs_c (fun K hK hc hM => ?_) (qs_c (fun K hK hc hM => ?_) (qs_c (fun K hK hc hM => ?_) (qs_c (fun K hK hc hM => ?_) (qs_c (fun K hK hc hM => ?_) (qs_c (fun K hK hc hM => ?_) (qs_c (fun K hK hc hM => ?_) qs_z))))))))
  · obtain ⟨c1, -⟩ := hc
    have c1 : -2147483648 ≤ c ∧ c ≤ -1 := c1
    have fK : ∀ a, a < 128 → K a = M a := hM
    exact ⟨hK, fun a ha _ => fK a ha, Or.inl ⟨fun q => by have := q.1; omega, rfl⟩⟩
  · obtain ⟨c1, c2, -⟩ := hc
    have c1 : 0 ≤ c ∧ c ≤ 2147483647 := c1
    have c2 : ¬ c < M 9 4 := c2
    have fK : ∀ a, a < 128 → K a = M a := hM
    exact ⟨hK, fun a ha _ => fK a ha, Or.inl ⟨fun q => c2 q.2.1, rfl⟩⟩
  · obtain ⟨c1, c2, c3, c4, c5, -⟩ := hc
    have c1 : 0 ≤ c ∧ c ≤ 5 := c1
    have c2 : -2147483648 ≤ b ∧ b ≤ 28 := c2
    have c3 : 1 ≤ M 9 4 ∧ M 9 4 ≤ 6 := c3
    have c4 : c < M 9 4 := c4
    have c5 : b < M 10 210 := c5
    have fK : ∀ a, a < 128 → K a = M a := hM
    exact ⟨hK, fun a ha _ => fK a ha, Or.inl ⟨fun q => by have := q.2.2.1; omega, rfl⟩⟩
  · obtain ⟨c1, c2, c3, c4, c5, c6, -⟩ := hc
    have c1 : 0 ≤ c ∧ c ≤ 5 := c1
    have c2 : 0 ≤ b ∧ b ≤ 29 := c2
    have c3 : -2147483648 ≤ w ∧ w ≤ -1 := c3
    have c4 : 1 ≤ M 9 4 ∧ M 9 4 ≤ 6 := c4
    have c5 : c < M 9 4 := c5
    have c6 : ¬ b < M 10 210 := c6
    have fK : ∀ a, a < 128 → K a = M a := hM
    exact ⟨hK, fun a ha _ => fK a ha, Or.inl ⟨fun q => by have := q.2.2.2.2.1; omega, rfl⟩⟩
  · obtain ⟨c1, c2, c3, c4, c5, c6, -⟩ := hc
    have c1 : 0 ≤ c ∧ c ≤ 5 := c1
    have c2 : 0 ≤ b ∧ b ≤ 29 := c2
    have c3 : 2 ≤ w ∧ w ≤ 2147483647 := c3
    have c4 : 1 ≤ M 9 4 ∧ M 9 4 ≤ 6 := c4
    have c5 : c < M 9 4 := c5
    have c6 : ¬ b < M 10 210 := c6
    have fK : ∀ a, a < 128 → K a = M a := hM
    exact ⟨hK, fun a ha _ => fK a ha, Or.inl ⟨fun q => by have := q.2.2.2.2.2; omega, rfl⟩⟩
  · obtain ⟨c1, c2, c3, c4, c5, c6, -⟩ := hc
    have c1 : 0 ≤ c ∧ c ≤ 5 := c1
    have c2 : 0 ≤ b ∧ b ≤ 29 := c2
    have c3 : 0 ≤ w ∧ w ≤ 0 := c3
    have c4 : 1 ≤ M 9 4 ∧ M 9 4 ≤ 6 := c4
    have c5 : c < M 9 4 := c5
    have c6 : ¬ b < M 10 210 := c6
    have fK : ∀ a, a < 128 → K a = M a := hM
    have ok : sp_ok c b w (M 9 4) (M 10 210) := ⟨c1.1, c5, by omega, c2.2, c3.1, by omega⟩
    obtain ⟨h, rfl⟩ := Int.eq_ofNat_of_zero_le c1.1
    obtain ⟨e, rfl⟩ := Int.eq_ofNat_of_zero_le c2.1
    obtain ⟨w1, r1⟩ := wr_same hw hR fK
    have eV : sp_v M nc t h e w = sw (fun i => vi (sw_0 M h (i : Int)) nc t e) (fun i => (i : Int)) (h : Int) 10 0 := if_pos (by omega)
    refine qs_vc (k := 88) (b := 8) (d := 22) (d' := 22) (rest := []) rfl rfl rfl rfl rfl rfl rfl rfl (Nat.le_refl _) rfl (fb_x0 (xs := xs) (M := K) (nc := nc) (H := H) (t := t) (h := h) (e := e) hL hK w1 r1 (fs_As fK hA) (by omega) (by rw [fK 10 (by decide)]; exact ht) (by omega) (by omega)) (fun r9 N2 hr => ?_)
    obtain ⟨rfl, hN2, x2⟩ := hr
    have eK : sw (fun i => vi (sw_0 K h (i : Int)) nc t e) (fun i => (i : Int)) (h : Int) 10 0 = sp_v M nc t h e w := by
      rw [eV]
      exact sw_eq 10 0 (fun j _ _ => vi_same (sw_A0 (by omega) hA) (su_same (su_same fK)) (by omega) (by omega))
    rw [eK]
    refine qs_nl (by show ([0, 1, 2, 3] : List Nat).Nodup; decide) (qs_use (zs := [sp_v M nc t h e w]) sp2_c hL hN2 (qs_iw wr (qs_fin rfl)) (Nat.le_refl _) rfl rfl (qs_c (fun N3 hN3 hc hM => ?_) qs_z))
    have f3 : ∀ a, a < 128 → N3 a = N2 a := hM
    exact ⟨hN3, fun a ha hn => (f3 a ha).trans ((x2 a ha hn).trans (fK a ha)), Or.inr ⟨ok, rfl⟩⟩
  · obtain ⟨c1, c2, c3, c4, c5, c6, c7, -⟩ := hc
    have c1 : 0 ≤ c ∧ c ≤ 5 := c1
    have c2 : 0 ≤ b ∧ b ≤ 29 := c2
    have c3 : 0 ≤ w ∧ w ≤ 1 := c3
    have c4 : 1 ≤ M 9 4 ∧ M 9 4 ≤ 6 := c4
    have c5 : w ≠ 0 := c5
    have c6 : c < M 9 4 := c6
    have c7 : ¬ b < M 10 210 := c7
    have fK : ∀ a, a < 128 → K a = M a := hM
    have ok : sp_ok c b w (M 9 4) (M 10 210) := ⟨c1.1, c6, by omega, c2.2, c3.1, c3.2⟩
    obtain ⟨h, rfl⟩ := Int.eq_ofNat_of_zero_le c1.1
    obtain ⟨e, rfl⟩ := Int.eq_ofNat_of_zero_le c2.1
    obtain ⟨w1, r1⟩ := wr_same hw hR fK
    have eV : sp_v M nc t h e w = sw (fun i => vi (sw_1 M h (9 - (i : Int))) nc t e) (fun i => (9 - (i : Int))) (h : Int) 10 0 := if_neg c5
    refine qs_vc (k := 88) (b := 8) (d := 22) (d' := 22) (rest := []) rfl rfl rfl rfl rfl rfl rfl rfl (Nat.le_refl _) rfl (fb_x1 (xs := xs) (M := K) (nc := nc) (H := H) (t := t) (h := h) (e := e) hL hK w1 r1 (fs_As fK hA) (by omega) (by rw [fK 10 (by decide)]; exact ht) (by omega) (by omega)) (fun r9 N2 hr => ?_)
    obtain ⟨rfl, hN2, x2⟩ := hr
    have eK : sw (fun i => vi (sw_1 K h (9 - (i : Int))) nc t e) (fun i => (9 - (i : Int))) (h : Int) 10 0 = sp_v M nc t h e w := by
      rw [eV]
      exact sw_eq 10 0 (fun j _ _ => vi_same (sw_A1 (by omega) hA) (su_same (su_same fK)) (by omega) (by omega))
    rw [eK]
    refine qs_nl (by show ([0, 1, 2, 3] : List Nat).Nodup; decide) (qs_use (zs := [sp_v M nc t h e w]) sp3_c hL hN2 (qs_iw wr (qs_fin rfl)) (Nat.le_refl _) rfl rfl (qs_c (fun N3 hN3 hc hM => ?_) qs_z))
    have f3 : ∀ a, a < 128 → N3 a = N2 a := hM
    exact ⟨hN3, fun a ha hn => (f3 a ha).trans ((x2 a ha hn).trans (fK a ha)), Or.inr ⟨ok, rfl⟩⟩
  · obtain ⟨c1, c2, c3, c4, c5, -⟩ := hc
    have c1 : 0 ≤ c ∧ c ≤ 5 := c1
    have c2 : 30 ≤ b ∧ b ≤ 2147483647 := c2
    have c3 : 1 ≤ M 9 4 ∧ M 9 4 ≤ 6 := c3
    have c4 : c < M 9 4 := c4
    have c5 : ¬ b < M 10 210 := c5
    have fK : ∀ a, a < 128 → K a = M a := hM
    exact ⟨hK, fun a ha _ => fK a ha, Or.inl ⟨fun q => by have := q.2.2.2.1; omega, rfl⟩⟩
end
