/-! read: the class. -/
section
variable {L : Nat} {xs : Nat → Int32} {M M' N N' X Y : Nat → Nat → Int} {c t h nc H : Nat}
def rc01_i (c : Nat) : List qs_I := [(0, 0, (0, 0), (0, 5)), (1, 10, (9, 60), (-1, 143))]
def rc01_T (c : Nat) : List og_T := [(some 17, none, [], [(0, 2, 0, 8), (1, 2, 0, 41 + 2 * (c : Int)), (2, 0, 9, 0), (3, 0, 0, 2), (4, 0, 10, 0), (5, 0, 0, 0), (6, 0, 0, 0)], [], [])]
theorem rc01_c : ((List.range 6).all fun c => qs_chk (fun pc => Nat.beq pc 17) (rc01_i c) 0 (rc01_T c) 400 400 23 108 0 [(0, 2, 0, 8), (1, 2, 0, 41 + 2 * (c : Int)), (2, 0, 9, 0), (3, 0, 0, 2)] []) = true := by decide +kernel
def rc02_i (c : Nat) : List qs_I := [(0, 0, (0, 0), (0, 5)), (0, 0, (0, 0), (-1, 143)), (0, 0, (0, 0), (0, 1023)), (0, 0, (0, 0), (0, 9))]
def rc02_T (c : Nat) : List og_T := [(some 40, none, [(2, 0, 41 + 2 * (c : Int)), (2, 0, 21)], [(0, 2, 0, 8), (1, 2, 0, 41 + 2 * (c : Int)), (2, 0, 9, 0), (3, 0, 0, 2), (4, 0, 10, 0), (5, 0, 11, 0), (6, 0, 12, 0)], [(10, (9, 60), (12, 0))], [])]
theorem rc02_c : ((List.range 6).all fun c => qs_chk (fun pc => Nat.beq pc 40) (rc02_i c) 0 (rc02_T c) 400 400 23 108 17 [(0, 2, 0, 8), (1, 2, 0, 41 + 2 * (c : Int)), (2, 0, 9, 0), (3, 0, 0, 2), (4, 0, 10, 0), (5, 0, 11, 0), (6, 0, 12, 0)] []) = true := by decide +kernel
def rc03_i (c : Nat) : List qs_I := [(0, 0, (0, 0), (0, 5)), (0, 0, (0, 0), (-1, 143)), (0, 0, (0, 0), (0, 1023)), (0, 0, (0, 0), (0, 9)), (0, 0, (0, 0), (-2, 60))]
def rc03_T (c : Nat) : List og_T := [(some 17, none, [], [(0, 2, 0, 8), (1, 2, 0, 41 + 2 * (c : Int)), (2, 0, 9, 0), (3, 0, 0, 2), (4, 0, 10, 0), (5, 0, 15, 0), (6, 0, 12, 1)], [], [(0, (13, 0), (0, 0), -2, -1), (5, (0, 1), (12, 0), 8, 14), (5, (11, 0), (14, 0), 4, 15)]), (some 17, none, [], [(0, 2, 0, 8), (1, 2, 0, 41 + 2 * (c : Int)), (2, 0, 9, 0), (3, 0, 0, 2), (4, 0, 10, 0), (5, 0, 11, 0), (6, 0, 12, 1)], [], [(0, (13, 0), (0, 0), 0, 60)])]
theorem rc03_c : ((List.range 6).all fun c => qs_chk (fun pc => Nat.beq pc 17) (rc03_i c) 2 (rc03_T c) 400 400 23 108 43 [(0, 2, 0, 8), (1, 2, 0, 41 + 2 * (c : Int)), (2, 0, 9, 0), (3, 0, 0, 2), (4, 0, 10, 0), (5, 0, 11, 0), (6, 0, 12, 0)] [(0, 13, 0)]) = true := by decide +kernel
def rc04_i (c : Nat) : List qs_I := [(0, 0, (0, 0), (0, 5)), (0, 0, (0, 0), (-1, 143)), (0, 0, (0, 0), (0, 1023))]
def rc04_T (c : Nat) : List og_T := [(none, some (0, 11, 0), [], [], [(10, (9, 60), (10, 0))], [])]
theorem rc04_c : ((List.range 6).all fun c => qs_chk (fun pc => Nat.beq pc 40) (rc04_i c) 0 (rc04_T c) 400 400 23 108 17 [(0, 2, 0, 8), (1, 2, 0, 41 + 2 * (c : Int)), (2, 0, 9, 0), (3, 0, 0, 2), (4, 0, 10, 0), (5, 0, 11, 0), (6, 0, 0, 10)] []) = true := by decide +kernel
def rc11_i (c : Nat) : List qs_I := [(0, 0, (0, 0), (0, 5)), (1, 10, (9, 90), (-1, 143))]
def rc11_T (c : Nat) : List og_T := [(some 17, none, [], [(0, 2, 0, 8), (1, 2, 0, 41 + 2 * (c : Int)), (2, 0, 9, 0), (3, 0, 0, 3), (4, 0, 10, 0), (5, 0, 0, 0), (6, 0, 0, 0)], [], [])]
theorem rc11_c : ((List.range 6).all fun c => qs_chk (fun pc => Nat.beq pc 17) (rc11_i c) 0 (rc11_T c) 400 400 23 108 0 [(0, 2, 0, 8), (1, 2, 0, 41 + 2 * (c : Int)), (2, 0, 9, 0), (3, 0, 0, 3)] []) = true := by decide +kernel
def rc12_i (c : Nat) : List qs_I := [(0, 0, (0, 0), (0, 5)), (0, 0, (0, 0), (-1, 143)), (0, 0, (0, 0), (0, 1023)), (0, 0, (0, 0), (0, 9))]
def rc12_T (c : Nat) : List og_T := [(some 40, none, [(2, 0, 41 + 2 * (c : Int)), (2, 0, 21)], [(0, 2, 0, 8), (1, 2, 0, 41 + 2 * (c : Int)), (2, 0, 9, 0), (3, 0, 0, 3), (4, 0, 10, 0), (5, 0, 11, 0), (6, 0, 12, 0)], [(10, (9, 90), (12, 0))], [])]
theorem rc12_c : ((List.range 6).all fun c => qs_chk (fun pc => Nat.beq pc 40) (rc12_i c) 0 (rc12_T c) 400 400 23 108 17 [(0, 2, 0, 8), (1, 2, 0, 41 + 2 * (c : Int)), (2, 0, 9, 0), (3, 0, 0, 3), (4, 0, 10, 0), (5, 0, 11, 0), (6, 0, 12, 0)] []) = true := by decide +kernel
def rc13_i (c : Nat) : List qs_I := [(0, 0, (0, 0), (0, 5)), (0, 0, (0, 0), (-1, 143)), (0, 0, (0, 0), (0, 1023)), (0, 0, (0, 0), (0, 9)), (0, 0, (0, 0), (-2, 60))]
def rc13_T (c : Nat) : List og_T := [(some 17, none, [], [(0, 2, 0, 8), (1, 2, 0, 41 + 2 * (c : Int)), (2, 0, 9, 0), (3, 0, 0, 3), (4, 0, 10, 0), (5, 0, 15, 0), (6, 0, 12, 1)], [], [(0, (13, 0), (0, 0), -2, -1), (5, (0, 1), (12, 0), 8, 14), (5, (11, 0), (14, 0), 4, 15)]), (some 17, none, [], [(0, 2, 0, 8), (1, 2, 0, 41 + 2 * (c : Int)), (2, 0, 9, 0), (3, 0, 0, 3), (4, 0, 10, 0), (5, 0, 11, 0), (6, 0, 12, 1)], [], [(0, (13, 0), (0, 0), 0, 60)])]
theorem rc13_c : ((List.range 6).all fun c => qs_chk (fun pc => Nat.beq pc 17) (rc13_i c) 2 (rc13_T c) 400 400 23 108 43 [(0, 2, 0, 8), (1, 2, 0, 41 + 2 * (c : Int)), (2, 0, 9, 0), (3, 0, 0, 3), (4, 0, 10, 0), (5, 0, 11, 0), (6, 0, 12, 0)] [(0, 13, 0)]) = true := by decide +kernel
def rc14_i (c : Nat) : List qs_I := [(0, 0, (0, 0), (0, 5)), (0, 0, (0, 0), (-1, 143)), (0, 0, (0, 0), (0, 1023))]
def rc14_T (c : Nat) : List og_T := [(none, some (0, 11, 0), [], [], [(10, (9, 90), (10, 0))], [])]
theorem rc14_c : ((List.range 6).all fun c => qs_chk (fun pc => Nat.beq pc 40) (rc14_i c) 0 (rc14_T c) 400 400 23 108 17 [(0, 2, 0, 8), (1, 2, 0, 41 + 2 * (c : Int)), (2, 0, 9, 0), (3, 0, 0, 3), (4, 0, 10, 0), (5, 0, 11, 0), (6, 0, 0, 10)] []) = true := by decide +kernel
def rd1_i (c : Nat) : List qs_I := [(0, 0, (0, 0), sx_r32), (0, 0, (0, 0), sx_r32), (1, 9, (0, 4), (0, 6)), (1, 41 + 2 * c, (0, 2), (-1, 4)), (1, 41 + 2 * c, (0, 3), (-1, 49))]
def rd1_T (c : Nat) : List og_T := [(none, some (0, 0, -1), [], [], [], [(0, (9, 0), (0, 0), -2147483648, -1)]), (none, some (0, 0, -1), [], [], [], [(0, (9, 0), (0, 0), 0, 2147483647), (2, (9, 0), (11, 0), 0, 0)]), (none, some (0, 0, -1), [], [], [], [(0, (9, 0), (0, 0), 0, 5), (0, (10, 0), (0, 0), -2147483648, -1), (0, (11, 0), (0, 0), 1, 6), (1, (9, 0), (11, 0), 0, 0)]), (none, some (0, 0, -1), [], [], [], [(0, (9, 0), (0, 0), 0, 5), (0, (10, 0), (0, 0), 4, 2147483647), (0, (11, 0), (0, 0), 1, 6), (1, (9, 0), (11, 0), 0, 0)]), (none, some (0, 0, -11), [], [], [], [(0, (9, 0), (0, 0), 0, 5), (0, (10, 0), (0, 0), 0, 3), (0, (11, 0), (0, 0), 1, 6), (0, (12, 0), (0, 0), -1, -1), (0, (13, 0), (0, 0), -1, -1), (1, (9, 0), (11, 0), 0, 0)]), (none, some (0, 0, -12), [], [], [], [(0, (9, 0), (0, 0), 0, 5), (0, (10, 0), (0, 0), 0, 3), (0, (11, 0), (0, 0), 1, 6), (0, (12, 0), (0, 0), -1, -1), (7, (13, 0), (0, 0), -1, 0), (1, (9, 0), (11, 0), 0, 0)]), (none, some (0, 0, -12), [], [], [], [(0, (9, 0), (0, 0), 0, 5), (0, (10, 0), (0, 0), 0, 3), (0, (11, 0), (0, 0), 1, 6), (7, (12, 0), (0, 0), -1, 0), (7, (12, 0), (0, 0), 0, 0), (1, (9, 0), (11, 0), 0, 0)]), (some 66, none, [(0, 0, 2), (0, 9, 0), (2, 0, 41 + 2 * (c : Int)), (2, 0, 8)], [(0, 2, 0, 8), (1, 0, 0, (c : Int)), (2, 0, 9, 0), (3, 0, 10, 0), (4, 0, 0, 0)], [], [(0, (9, 0), (0, 0), 0, 5), (0, (10, 0), (0, 0), 0, 1), (0, (11, 0), (0, 0), 1, 6), (0, (12, 0), (0, 0), 0, 0), (7, (12, 0), (0, 0), -1, 0), (1, (9, 0), (11, 0), 0, 0)]), (some 66, none, [(0, 0, 3), (0, 9, 0), (2, 0, 41 + 2 * (c : Int)), (2, 0, 8)], [(0, 2, 0, 8), (1, 0, 0, (c : Int)), (2, 0, 9, 0), (3, 0, 10, 0), (4, 0, 0, 0)], [], [(0, (9, 0), (0, 0), 0, 5), (0, (10, 0), (0, 0), 2, 3), (0, (11, 0), (0, 0), 1, 6), (0, (12, 0), (0, 0), 0, 0), (7, (12, 0), (0, 0), -1, 0), (1, (9, 0), (11, 0), 0, 0)])]
theorem rd1_c : ((List.range 6).all fun c => qs_chk (fun pc => Nat.beq pc 66) (rd1_i c) 0 (rd1_T c) 400 400 24 107 0 [(0, 2, 0, 8), (1, 0, 0, (c : Int)), (2, 0, 9, 0), (3, 0, 10, 0)] []) = true := by decide +kernel
def rd2_i (c : Nat) : List qs_I := [(0, 0, (0, 0), (0, 5)), (0, 0, (0, 0), (0, 3)), (0, 0, (0, 0), (0, 1023))]
def rd2_T (c : Nat) : List og_T := [(some 82, none, [(0, 11, 0)], [(0, 2, 0, 8)], [], [(0, (10, 0), (0, 0), 0, 0)]), (some 82, none, [(0, 11, 0)], [(0, 2, 0, 8)], [], [(0, (10, 0), (0, 0), 2, 2), (7, (10, 0), (0, 0), 0, 0)]), (some 95, none, [(0, 0, 1), (0, 0, 0), (0, 11, 0)], [(0, 2, 0, 8)], [], [(0, (10, 0), (0, 0), 1, 1), (7, (10, 0), (0, 0), 0, 0), (7, (10, 0), (0, 0), 2, 0)]), (some 106, none, [(0, 0, -1), (0, 0, 9), (0, 11, 0)], [(0, 2, 0, 8)], [], [(7, (10, 0), (0, 0), 0, 0), (7, (10, 0), (0, 0), 1, 0), (7, (10, 0), (0, 0), 2, 0)])]
theorem rd2_c : ((List.range 6).all fun c => qs_chk (fun pc => bif Nat.beq pc 82 then true else bif Nat.beq pc 95 then true else Nat.beq pc 106) (rd2_i c) 0 (rd2_T c) 400 400 24 107 69 [(0, 2, 0, 8), (1, 0, 0, (c : Int)), (2, 0, 9, 0), (3, 0, 10, 0), (4, 0, 0, 0)] [(0, 11, 0)]) = true := by decide +kernel
def rd3_i : List qs_I := [(0, 0, (0, 0), sx_r32)]
def rd3_T : List og_T := [(none, some (0, 9, 0), [], [], [], [])]
theorem rd3_c : qs_chk (fun _ => false) rd3_i 0 rd3_T 400 400 24 107 98 [] [(0, 9, 0)] = true := by decide +kernel
def rd4_i : List qs_I := [(0, 0, (0, 0), sx_r32)]
def rd4_T : List og_T := [(none, some (0, 9, 0), [], [], [], [])]
theorem rd4_c : qs_chk (fun _ => false) rd4_i 0 rd4_T 400 400 24 107 109 [] [(0, 9, 0)] = true := by decide +kernel
def rd5_i : List qs_I := [(0, 0, (0, 0), sx_r32)]
def rd5_T : List og_T := [(none, some (0, 9, 0), [], [], [], [])]
theorem rd5_c : qs_chk (fun _ => false) rd5_i 0 rd5_T 400 400 24 107 85 [] [(0, 9, 0)] = true := by decide +kernel
/-- values that fit a row: the class (0) -/
def rf_0 (M : Nat → Nat → Int) (nc t h : Nat) (E : Nat → Int) (len : Nat) (v : Nat) : Int := fu (vi (sw_0 M h (v : Int)) nc t) E t len 0
theorem rc_loop0 {len : Nat} (hL : L < 2 ^ 31) (hm0 : sx_mok cl_ly M) (hw : WF M) (hR : vu_R M) (hA : fs_A M nc H) (hc6 : c < 6) (hh : h < H) (ht : M 10 210 = (t : Int)) (h29 : t ≤ 29) (el : M (41 + 2 * c) 1 = (len : Int)) : ∀ (k i : Nat) (M' : Nat → Nat → Int), i + k = 10 → sx_mok cl_ly M' → sw_I M (h + 60) M' → rz_fin (fun r N => r = some (.int (Int32.ofInt ((ftn (rf_0 M nc t h (M (42 + 2 * c)) len) 10 : Nat) : Int))) ∧ sx_mok cl_ly N ∧ fs_x M N) L xs 108 23 17 [(0, .ref 8), (1, .ref (41 + 2 * c)), (2, .int (Int32.ofInt (h : Int))), (3, .int (Int32.ofInt 2)), (4, .int (Int32.ofInt (M 10 (h + 60)))), (5, .int (Int32.ofInt ((ftn (rf_0 M nc t h (M (42 + 2 * c)) len) i : Nat) : Int))), (6, .int (Int32.ofInt (i : Int)))] [] M' := by
  obtain ⟨⟨a1, a2, a3, a4, a5⟩, -⟩ := id hA
  have wb := cx_m10 hm0 (k := h + 60) (by omega)
  have nq : ((h : Int) + 60).toNat = h + 60 := by omega
  have rest : ∀ (M' N : Nat → Nat → Int), sw_I M (h + 60) M' → (∀ a, a < 128 → N a = sx_up M' 10 ((h : Int) + 60).toNat (M 10 (h + 60)) a) → fs_x M N := fun M' N hI f a ha hn => by
    rw [f a ha, nq]
    by_cases x : a = 10
    · rw [x]
      funext j
      by_cases y : j = h + 60
      · rw [y, sh_uat]
      · rw [sh_unj y, hI.2 j y]
    · rw [sh_une x]
      exact hI.1 a ha x hn
  intro k
  induction k with
  | zero =>
    intro i M' hi hm hI
    have ei : i = 10 := by omega
    subst ei
    have f10 : ftn (rf_0 M nc t h (M (42 + 2 * c)) len) 10 < 1024 := ftn_lt 10
    refine qs_use (zs := [(h : Int), M 10 (h + 60), ((ftn (rf_0 M nc t h (M (42 + 2 * c)) len) 10 : Nat) : Int)]) (List.all_eq_true.mp rc04_c c (List.mem_range.mpr hc6)) hL hm (qs_in (show 0 ≤ (h : Int) ∧ (h : Int) ≤ 5 by omega) (qs_in wb (qs_in (show 0 ≤ ((ftn (rf_0 M nc t h (M (42 + 2 * c)) len) 10 : Nat) : Int) ∧ ((ftn (rf_0 M nc t h (M (42 + 2 * c)) len) 10 : Nat) : Int) ≤ 1023 by omega) (qs_fin rfl)))) (Nat.le_refl _) rfl rfl (qs_c (fun N1 hN1 hc hM => ?_) qs_z)
    have f1 : ∀ a, a < 128 → N1 a = sx_up M' 10 ((h : Int) + 60).toNat (M 10 (h + 60)) a := hM
    exact ⟨rfl, hN1, rest M' N1 hI f1⟩
  | succ k ih =>
    intro i M' hi hm hI
    have f0 : ftn (rf_0 M nc t h (M (42 + 2 * c)) len) i < 2 ^ i := ftn_lt i
    have p10 : 2 ^ i ≤ 2 ^ 10 := Nat.pow_le_pow_right (by decide) (by omega)
    have fr : 0 ≤ ((ftn (rf_0 M nc t h (M (42 + 2 * c)) len) i : Nat) : Int) ∧ ((ftn (rf_0 M nc t h (M (42 + 2 * c)) len) i : Nat) : Int) ≤ 1023 := by omega
    refine qs_use (zs := [(h : Int), M 10 (h + 60), ((ftn (rf_0 M nc t h (M (42 + 2 * c)) len) i : Nat) : Int), (i : Int)]) (List.all_eq_true.mp rc02_c c (List.mem_range.mpr hc6)) hL hm (qs_in (show 0 ≤ (h : Int) ∧ (h : Int) ≤ 5 by omega) (qs_in wb (qs_in fr (qs_in (show 0 ≤ (i : Int) ∧ (i : Int) ≤ 9 by omega) (qs_fin rfl))))) (Nat.le_refl _) rfl rfl (qs_c (fun N1 hN1 hc hM => ?_) qs_z)
    have f1 : ∀ a, a < 128 → N1 a = sx_up M' 10 ((h : Int) + 60).toNat (i : Int) a := hM
    rw [nq] at f1
    have I1 : ∀ a, a < 128 → a ≠ 10 → ¬ (19 ≤ a ∧ a ≤ 31) → N1 a = M a := fun a ha x y => by rw [f1 a ha, sh_une x]; exact hI.1 a ha x y
    obtain ⟨w1, r1⟩ := wr_ten hw hR I1
    obtain ⟨se, s10, s10h, -, -⟩ := sw_e0 (M := M) (h := h) (v := (i : Int))
    have e10 : N1 10 = sw_0 M h (i : Int) 10 := by
      rw [f1 10 (by decide)]
      funext j
      by_cases y : j = h + 60
      · rw [y, sh_uat, s10h]
      · rw [sh_unj y, hI.2 j y, s10 j y]
    have i210 : N1 10 210 = (t : Int) := by rw [e10, s10 210 (by omega)]; exact ht
    have i1 : N1 (41 + 2 * c) 1 = (len : Int) := by rw [I1 (41 + 2 * c) (by omega) (by omega) (by omega)]; exact el
    show rz_fin _ L xs 108 23 40 [(0, .ref 8), (1, .ref (41 + 2 * c)), (2, .int (Int32.ofInt (h : Int))), (3, .int (Int32.ofInt 2)), (4, .int (Int32.ofInt (M 10 (h + 60)))), (5, .int (Int32.ofInt ((ftn (rf_0 M nc t h (M (42 + 2 * c)) len) i : Nat) : Int))), (6, .int (Int32.ofInt (i : Int)))] [.ref (41 + 2 * c), .ref 21] N1
    refine qs_vc (k := 106) (b := 21) (d := 22) (d' := 22) (rest := []) rfl rfl rfl rfl rfl rfl rfl rfl (Nat.le_refl _) rfl (rz_d (by decide) (fu_x (xs := xs) (nc := nc) (t := t) (c := c) (len := len) hL hN1 w1 r1 (by rw [I1 9 (by decide) (by decide) (by decide)]; exact a1) a3 hc6 i210 h29 i1)) (fun r9 N2 hr => ?_)
    obtain ⟨X, hX, F2, hN2, rfl⟩ := hr
    have pX : pv (sw_0 M h (i : Int)) X := pv_of (fun a q => by
      by_cases x : a = 10
      · rw [x]; exact e10
      · rw [I1 a (by omega) x (by omega)]
        exact (se a x (by omega)).symm) hX
    have eF : fu (fa_h X nc t) (N1 (42 + 2 * c)) t len 0 = rf_0 M nc t h (M (42 + 2 * c)) len i := by
      rw [I1 (42 + 2 * c) (by omega) (by omega) (by omega)]
      exact fu_eq len 0 (fun d h1 h2 => vi_x (sw_A0 (v := (i : Int)) (by omega) hA) pX (by omega) h2) (fun _ _ _ => rfl)
    rw [eF]
    have rF : -2 ≤ rf_0 M nc t h (M (42 + 2 * c)) len i ∧ rf_0 M nc t h (M (42 + 2 * c)) len i ≤ 60 := by
      have h60 := fu_len hm0 hc6
      rw [el] at h60
      have q := fu_r (g := vi (sw_0 M h (i : Int)) nc t) (E := M (42 + 2 * c)) (t := t) len 0
      unfold rf_0
      omega
    have I2 : sw_I M (h + 60) N2 := by
      refine ⟨fun a ha x y => ?_, fun j y => ?_⟩
      · rw [F2.1 a ha (by omega), hX.2.2.1 a ha (by omega) (by omega)]
        exact I1 a ha x y
      · rw [F2.1 10 (by decide) (by decide), hX.2.2.1 10 (by decide) (by decide) (by decide), f1 10 (by decide), sh_unj y]
        exact hI.2 j y
    refine qs_use (zs := [(h : Int), M 10 (h + 60), ((ftn (rf_0 M nc t h (M (42 + 2 * c)) len) i : Nat) : Int), (i : Int), rf_0 M nc t h (M (42 + 2 * c)) len i]) (List.all_eq_true.mp rc03_c c (List.mem_range.mpr hc6)) hL hN2 (qs_in (show 0 ≤ (h : Int) ∧ (h : Int) ≤ 5 by omega) (qs_in wb (qs_in fr (qs_in (show 0 ≤ (i : Int) ∧ (i : Int) ≤ 9 by omega) (qs_in rF (qs_fin rfl)))))) (Nat.le_refl _) rfl rfl (qs_c (fun u1 u2 N3 hN3 hc hM => ?_) (qs_c (fun u1 u2 N3 hN3 hc hM => ?_) qs_z))
    · obtain ⟨c1, c2, c3, -⟩ := hc
      have c1 : -2 ≤ rf_0 M nc t h (M (42 + 2 * c)) len i ∧ rf_0 M nc t h (M (42 + 2 * c)) len i ≤ -1 := c1
      have c2 : u1 = sx_mf 8 1 (i : Int) := c2
      have c3 : u2 = sx_mf 4 (((ftn (rf_0 M nc t h (M (42 + 2 * c)) len) i : Nat) : Int)) u1 := c3
      have fN3 : ∀ a, a < 128 → N3 a = N2 a := hM
      have I3 : sw_I M (h + 60) N3 := ⟨fun a ha x y => (fN3 a ha).trans (I2.1 a ha x y), fun j y => by rw [fN3 10 (by decide)]; exact I2.2 j y⟩
      rw [c2, ft_A_ok (by omega) f0] at c3
      have e0 : ftn (rf_0 M nc t h (M (42 + 2 * c)) len) (i + 1) = ftn (rf_0 M nc t h (M (42 + 2 * c)) len) i + 2 ^ i := if_pos (by omega)
      rw [← e0] at c3
      subst c3
      exact ih (i + 1) N3 (by omega) hN3 I3
    · obtain ⟨c1, -⟩ := hc
      have c1 : 0 ≤ rf_0 M nc t h (M (42 + 2 * c)) len i ∧ rf_0 M nc t h (M (42 + 2 * c)) len i ≤ 60 := c1
      have fN3 : ∀ a, a < 128 → N3 a = N2 a := hM
      have I3 : sw_I M (h + 60) N3 := ⟨fun a ha x y => (fN3 a ha).trans (I2.1 a ha x y), fun j y => by rw [fN3 10 (by decide)]; exact I2.2 j y⟩
      have e0 : ftn (rf_0 M nc t h (M (42 + 2 * c)) len) (i + 1) = ftn (rf_0 M nc t h (M (42 + 2 * c)) len) i := if_neg (by omega)
      have g := ih (i + 1) N3 (by omega) hN3 I3
      rw [e0] at g
      exact g
theorem rcv_0 {len : Nat} (hL : L < 2 ^ 31) (hm : sx_mok cl_ly M) (hw : WF M) (hR : vu_R M) (hA : fs_A M nc H) (hc6 : c < 6) (hh : h < H) (ht : M 10 210 = (t : Int)) (h29 : t ≤ 29) (el : M (41 + 2 * c) 1 = (len : Int)) : rz_fin (fun r N => r = some (.int (Int32.ofInt ((ftn (rf_0 M nc t h (M (42 + 2 * c)) len) 10 : Nat) : Int))) ∧ sx_mok cl_ly N ∧ fs_x M N) L xs 108 23 0 [(0, .ref 8), (1, .ref (41 + 2 * c)), (2, .int (Int32.ofInt (h : Int))), (3, .int (Int32.ofInt 2))] [] M := by
  obtain ⟨⟨a1, a2, a3, a4, a5⟩, -⟩ := id hA
  have wb := cx_m10 hm (k := h + 60) (by omega)
  have nq : ((h : Int) + 60).toNat = h + 60 := by omega
  refine qs_use (zs := [(h : Int), M 10 (h + 60)]) (List.all_eq_true.mp rc01_c c (List.mem_range.mpr hc6)) hL hm (qs_in (show 0 ≤ (h : Int) ∧ (h : Int) ≤ 5 by omega) (qs_rd (show 0 ≤ (h : Int) + 60 by omega) (show M 10 ((h : Int) + 60).toNat = _ by rw [nq]; rfl) wb (qs_fin rfl))) (Nat.le_refl _) rfl rfl (qs_c (fun N1 hN1 hc hM => ?_) qs_z)
  have f1 : ∀ a, a < 128 → N1 a = M a := hM
  exact rc_loop0 (xs := xs) hL hm hw hR hA hc6 hh ht h29 el 10 0 N1 rfl hN1 ⟨fun a ha _ _ => f1 a ha, fun j _ => by rw [f1 10 (by decide)]⟩

/-- values that fit a row: the class (1) -/
def rf_1 (M : Nat → Nat → Int) (nc t h : Nat) (E : Nat → Int) (len : Nat) (v : Nat) : Int := fu (vi (sw_1 M h (v : Int)) nc t) E t len 0
theorem rc_loop1 {len : Nat} (hL : L < 2 ^ 31) (hm0 : sx_mok cl_ly M) (hw : WF M) (hR : vu_R M) (hA : fs_A M nc H) (hc6 : c < 6) (hh : h < H) (ht : M 10 210 = (t : Int)) (h29 : t ≤ 29) (el : M (41 + 2 * c) 1 = (len : Int)) : ∀ (k i : Nat) (M' : Nat → Nat → Int), i + k = 10 → sx_mok cl_ly M' → sw_I M (h + 90) M' → rz_fin (fun r N => r = some (.int (Int32.ofInt ((ftn (rf_1 M nc t h (M (42 + 2 * c)) len) 10 : Nat) : Int))) ∧ sx_mok cl_ly N ∧ fs_x M N) L xs 108 23 17 [(0, .ref 8), (1, .ref (41 + 2 * c)), (2, .int (Int32.ofInt (h : Int))), (3, .int (Int32.ofInt 3)), (4, .int (Int32.ofInt (M 10 (h + 90)))), (5, .int (Int32.ofInt ((ftn (rf_1 M nc t h (M (42 + 2 * c)) len) i : Nat) : Int))), (6, .int (Int32.ofInt (i : Int)))] [] M' := by
  obtain ⟨⟨a1, a2, a3, a4, a5⟩, -⟩ := id hA
  have wb := cx_m10 hm0 (k := h + 90) (by omega)
  have nq : ((h : Int) + 90).toNat = h + 90 := by omega
  have rest : ∀ (M' N : Nat → Nat → Int), sw_I M (h + 90) M' → (∀ a, a < 128 → N a = sx_up M' 10 ((h : Int) + 90).toNat (M 10 (h + 90)) a) → fs_x M N := fun M' N hI f a ha hn => by
    rw [f a ha, nq]
    by_cases x : a = 10
    · rw [x]
      funext j
      by_cases y : j = h + 90
      · rw [y, sh_uat]
      · rw [sh_unj y, hI.2 j y]
    · rw [sh_une x]
      exact hI.1 a ha x hn
  intro k
  induction k with
  | zero =>
    intro i M' hi hm hI
    have ei : i = 10 := by omega
    subst ei
    have f10 : ftn (rf_1 M nc t h (M (42 + 2 * c)) len) 10 < 1024 := ftn_lt 10
    refine qs_use (zs := [(h : Int), M 10 (h + 90), ((ftn (rf_1 M nc t h (M (42 + 2 * c)) len) 10 : Nat) : Int)]) (List.all_eq_true.mp rc14_c c (List.mem_range.mpr hc6)) hL hm (qs_in (show 0 ≤ (h : Int) ∧ (h : Int) ≤ 5 by omega) (qs_in wb (qs_in (show 0 ≤ ((ftn (rf_1 M nc t h (M (42 + 2 * c)) len) 10 : Nat) : Int) ∧ ((ftn (rf_1 M nc t h (M (42 + 2 * c)) len) 10 : Nat) : Int) ≤ 1023 by omega) (qs_fin rfl)))) (Nat.le_refl _) rfl rfl (qs_c (fun N1 hN1 hc hM => ?_) qs_z)
    have f1 : ∀ a, a < 128 → N1 a = sx_up M' 10 ((h : Int) + 90).toNat (M 10 (h + 90)) a := hM
    exact ⟨rfl, hN1, rest M' N1 hI f1⟩
  | succ k ih =>
    intro i M' hi hm hI
    have f0 : ftn (rf_1 M nc t h (M (42 + 2 * c)) len) i < 2 ^ i := ftn_lt i
    have p10 : 2 ^ i ≤ 2 ^ 10 := Nat.pow_le_pow_right (by decide) (by omega)
    have fr : 0 ≤ ((ftn (rf_1 M nc t h (M (42 + 2 * c)) len) i : Nat) : Int) ∧ ((ftn (rf_1 M nc t h (M (42 + 2 * c)) len) i : Nat) : Int) ≤ 1023 := by omega
    refine qs_use (zs := [(h : Int), M 10 (h + 90), ((ftn (rf_1 M nc t h (M (42 + 2 * c)) len) i : Nat) : Int), (i : Int)]) (List.all_eq_true.mp rc12_c c (List.mem_range.mpr hc6)) hL hm (qs_in (show 0 ≤ (h : Int) ∧ (h : Int) ≤ 5 by omega) (qs_in wb (qs_in fr (qs_in (show 0 ≤ (i : Int) ∧ (i : Int) ≤ 9 by omega) (qs_fin rfl))))) (Nat.le_refl _) rfl rfl (qs_c (fun N1 hN1 hc hM => ?_) qs_z)
    have f1 : ∀ a, a < 128 → N1 a = sx_up M' 10 ((h : Int) + 90).toNat (i : Int) a := hM
    rw [nq] at f1
    have I1 : ∀ a, a < 128 → a ≠ 10 → ¬ (19 ≤ a ∧ a ≤ 31) → N1 a = M a := fun a ha x y => by rw [f1 a ha, sh_une x]; exact hI.1 a ha x y
    obtain ⟨w1, r1⟩ := wr_ten hw hR I1
    obtain ⟨se, s10, s10h, -, -⟩ := sw_e1 (M := M) (h := h) (v := (i : Int))
    have e10 : N1 10 = sw_1 M h (i : Int) 10 := by
      rw [f1 10 (by decide)]
      funext j
      by_cases y : j = h + 90
      · rw [y, sh_uat, s10h]
      · rw [sh_unj y, hI.2 j y, s10 j y]
    have i210 : N1 10 210 = (t : Int) := by rw [e10, s10 210 (by omega)]; exact ht
    have i1 : N1 (41 + 2 * c) 1 = (len : Int) := by rw [I1 (41 + 2 * c) (by omega) (by omega) (by omega)]; exact el
    show rz_fin _ L xs 108 23 40 [(0, .ref 8), (1, .ref (41 + 2 * c)), (2, .int (Int32.ofInt (h : Int))), (3, .int (Int32.ofInt 3)), (4, .int (Int32.ofInt (M 10 (h + 90)))), (5, .int (Int32.ofInt ((ftn (rf_1 M nc t h (M (42 + 2 * c)) len) i : Nat) : Int))), (6, .int (Int32.ofInt (i : Int)))] [.ref (41 + 2 * c), .ref 21] N1
    refine qs_vc (k := 106) (b := 21) (d := 22) (d' := 22) (rest := []) rfl rfl rfl rfl rfl rfl rfl rfl (Nat.le_refl _) rfl (rz_d (by decide) (fu_x (xs := xs) (nc := nc) (t := t) (c := c) (len := len) hL hN1 w1 r1 (by rw [I1 9 (by decide) (by decide) (by decide)]; exact a1) a3 hc6 i210 h29 i1)) (fun r9 N2 hr => ?_)
    obtain ⟨X, hX, F2, hN2, rfl⟩ := hr
    have pX : pv (sw_1 M h (i : Int)) X := pv_of (fun a q => by
      by_cases x : a = 10
      · rw [x]; exact e10
      · rw [I1 a (by omega) x (by omega)]
        exact (se a x (by omega)).symm) hX
    have eF : fu (fa_h X nc t) (N1 (42 + 2 * c)) t len 0 = rf_1 M nc t h (M (42 + 2 * c)) len i := by
      rw [I1 (42 + 2 * c) (by omega) (by omega) (by omega)]
      exact fu_eq len 0 (fun d h1 h2 => vi_x (sw_A1 (v := (i : Int)) (by omega) hA) pX (by omega) h2) (fun _ _ _ => rfl)
    rw [eF]
    have rF : -2 ≤ rf_1 M nc t h (M (42 + 2 * c)) len i ∧ rf_1 M nc t h (M (42 + 2 * c)) len i ≤ 60 := by
      have h60 := fu_len hm0 hc6
      rw [el] at h60
      have q := fu_r (g := vi (sw_1 M h (i : Int)) nc t) (E := M (42 + 2 * c)) (t := t) len 0
      unfold rf_1
      omega
    have I2 : sw_I M (h + 90) N2 := by
      refine ⟨fun a ha x y => ?_, fun j y => ?_⟩
      · rw [F2.1 a ha (by omega), hX.2.2.1 a ha (by omega) (by omega)]
        exact I1 a ha x y
      · rw [F2.1 10 (by decide) (by decide), hX.2.2.1 10 (by decide) (by decide) (by decide), f1 10 (by decide), sh_unj y]
        exact hI.2 j y
    refine qs_use (zs := [(h : Int), M 10 (h + 90), ((ftn (rf_1 M nc t h (M (42 + 2 * c)) len) i : Nat) : Int), (i : Int), rf_1 M nc t h (M (42 + 2 * c)) len i]) (List.all_eq_true.mp rc13_c c (List.mem_range.mpr hc6)) hL hN2 (qs_in (show 0 ≤ (h : Int) ∧ (h : Int) ≤ 5 by omega) (qs_in wb (qs_in fr (qs_in (show 0 ≤ (i : Int) ∧ (i : Int) ≤ 9 by omega) (qs_in rF (qs_fin rfl)))))) (Nat.le_refl _) rfl rfl (qs_c (fun u1 u2 N3 hN3 hc hM => ?_) (qs_c (fun u1 u2 N3 hN3 hc hM => ?_) qs_z))
    · obtain ⟨c1, c2, c3, -⟩ := hc
      have c1 : -2 ≤ rf_1 M nc t h (M (42 + 2 * c)) len i ∧ rf_1 M nc t h (M (42 + 2 * c)) len i ≤ -1 := c1
      have c2 : u1 = sx_mf 8 1 (i : Int) := c2
      have c3 : u2 = sx_mf 4 (((ftn (rf_1 M nc t h (M (42 + 2 * c)) len) i : Nat) : Int)) u1 := c3
      have fN3 : ∀ a, a < 128 → N3 a = N2 a := hM
      have I3 : sw_I M (h + 90) N3 := ⟨fun a ha x y => (fN3 a ha).trans (I2.1 a ha x y), fun j y => by rw [fN3 10 (by decide)]; exact I2.2 j y⟩
      rw [c2, ft_A_ok (by omega) f0] at c3
      have e0 : ftn (rf_1 M nc t h (M (42 + 2 * c)) len) (i + 1) = ftn (rf_1 M nc t h (M (42 + 2 * c)) len) i + 2 ^ i := if_pos (by omega)
      rw [← e0] at c3
      subst c3
      exact ih (i + 1) N3 (by omega) hN3 I3
    · obtain ⟨c1, -⟩ := hc
      have c1 : 0 ≤ rf_1 M nc t h (M (42 + 2 * c)) len i ∧ rf_1 M nc t h (M (42 + 2 * c)) len i ≤ 60 := c1
      have fN3 : ∀ a, a < 128 → N3 a = N2 a := hM
      have I3 : sw_I M (h + 90) N3 := ⟨fun a ha x y => (fN3 a ha).trans (I2.1 a ha x y), fun j y => by rw [fN3 10 (by decide)]; exact I2.2 j y⟩
      have e0 : ftn (rf_1 M nc t h (M (42 + 2 * c)) len) (i + 1) = ftn (rf_1 M nc t h (M (42 + 2 * c)) len) i := if_neg (by omega)
      have g := ih (i + 1) N3 (by omega) hN3 I3
      rw [e0] at g
      exact g
theorem rcv_1 {len : Nat} (hL : L < 2 ^ 31) (hm : sx_mok cl_ly M) (hw : WF M) (hR : vu_R M) (hA : fs_A M nc H) (hc6 : c < 6) (hh : h < H) (ht : M 10 210 = (t : Int)) (h29 : t ≤ 29) (el : M (41 + 2 * c) 1 = (len : Int)) : rz_fin (fun r N => r = some (.int (Int32.ofInt ((ftn (rf_1 M nc t h (M (42 + 2 * c)) len) 10 : Nat) : Int))) ∧ sx_mok cl_ly N ∧ fs_x M N) L xs 108 23 0 [(0, .ref 8), (1, .ref (41 + 2 * c)), (2, .int (Int32.ofInt (h : Int))), (3, .int (Int32.ofInt 3))] [] M := by
  obtain ⟨⟨a1, a2, a3, a4, a5⟩, -⟩ := id hA
  have wb := cx_m10 hm (k := h + 90) (by omega)
  have nq : ((h : Int) + 90).toNat = h + 90 := by omega
  refine qs_use (zs := [(h : Int), M 10 (h + 90)]) (List.all_eq_true.mp rc11_c c (List.mem_range.mpr hc6)) hL hm (qs_in (show 0 ≤ (h : Int) ∧ (h : Int) ≤ 5 by omega) (qs_rd (show 0 ≤ (h : Int) + 90 by omega) (show M 10 ((h : Int) + 90).toNat = _ by rw [nq]; rfl) wb (qs_fin rfl))) (Nat.le_refl _) rfl rfl (qs_c (fun N1 hN1 hc hM => ?_) qs_z)
  have f1 : ∀ a, a < 128 → N1 a = M a := hM
  exact rc_loop1 (xs := xs) hL hm hw hR hA hc6 hh ht h29 el 10 0 N1 rfl hN1 ⟨fun a ha _ _ => f1 a ha, fun j _ => by rw [f1 10 (by decide)]⟩

def rd_ok (y w H : Int) : Prop := 0 ≤ y ∧ y < H ∧ 0 ≤ w ∧ w ≤ 3
/-- what is told -/
def rd_a (F : Nat → Int) (G : Nat → Int) (w : Int) : Int := if w = 0 then ((fcn F 10 : Nat) : Int) else if w = 1 then sw (fun j => if F j < 0 then 1 else 0) (fun j => (j : Int)) 1 10 0 else if w = 2 then ((fcn G 10 : Nat) : Int) else fls G 10
theorem rd_ar {F G : Nat → Int} {w : Int} : -2 ≤ rd_a F G w ∧ rd_a F G w ≤ 10 := by
  have h1 := fcn_le (F := F) 10
  have h2 := fcn_le (F := G) 10
  have h3 := fls_r (F := G) 10
  have h4 := sw_r (f := fun j => if F j < 0 then 1 else 0) (val := fun j => (j : Int)) (g := 1) (lo := -2) (hi := 10) (by decide) 10 0 (fun j _ hj => by omega)
  unfold rd_a
  split
  · omega
  · split
    · omega
    · split <;> omega
theorem rd_aeq {F F' G G' : Nat → Int} {w : Int} (h1 : ∀ j, j < 10 → F' j = F j) (h2 : ∀ j, j < 10 → G' j = G j) : rd_a F' G' w = rd_a F G w := by
  have c : ∀ (F F' : Nat → Int) (k : Nat), (∀ j, j < k → F' j = F j) → fcn F' k = fcn F k ∧ fls F' k = fls F k := fun F F' k => by
    induction k with
    | zero => intro _; exact ⟨rfl, rfl⟩
    | succ k ih =>
      intro h
      obtain ⟨i1, i2⟩ := ih (fun j hj => h j (by omega))
      constructor
      · show (if F' k < 0 then fcn F' k + 1 else fcn F' k) = if F k < 0 then fcn F k + 1 else fcn F k
        rw [h k (Nat.lt_succ_self k), i1]
      · show (if F' k < 0 then (k : Int) else fls F' k) = if F k < 0 then (k : Int) else fls F k
        rw [h k (Nat.lt_succ_self k), i2]
  unfold rd_a
  rw [(c F F' 10 h1).1, (c G G' 10 h2).1, (c G G' 10 h2).2, sw_eq (f := fun j => if F j < 0 then 1 else 0) (f' := fun j => if F' j < 0 then 1 else 0) 10 0 (fun j _ hj => by
    show (if F' j < 0 then (1 : Int) else 0) = if F j < 0 then 1 else 0
    rw [h1 j (by omega)])]
def rd_v (M : Nat → Nat → Int) (nc t c h : Nat) (w : Int) : Int := if M 87 c = -1 then -11 else if M 87 c = -2 then rd_a (rf_0 M nc t h (fun i => M 89 (60 * c + i)) (M 88 c).toNat) (rf_1 M nc t h (fun i => M 89 (60 * c + i)) (M 88 c).toNat) w else -12
theorem rd_r {w : Int} : -12 ≤ rd_v M nc t c h w ∧ rd_v M nc t c h w ≤ 10 := by
  unfold rd_v
  split
  · decide
  · split
    · have := rd_ar (F := rf_0 M nc t h (fun i => M 89 (60 * c + i)) (M 88 c).toNat) (G := rf_1 M nc t h (fun i => M 89 (60 * c + i)) (M 88 c).toNat) (w := w)
      omega
    · decide
theorem rf_same {E E' : Nat → Int} {len v : Nat} {K : Nat → Nat → Int} (hA : fs_A M nc H) (hh : h < 6) (f : ∀ a, a < 128 → K a = M a) (hE : ∀ j, j < len → E' j = E j) : rf_0 K nc t h E' len v = rf_0 M nc t h E len v ∧ rf_1 K nc t h E' len v = rf_1 M nc t h E len v :=
  ⟨fu_eq len 0 (fun d h1 h2 => vi_same (sw_A0 hh hA) (su_same (su_same f)) (by omega) h2) (fun j _ hj => hE j (by omega)), fu_eq len 0 (fun d h1 h2 => vi_same (sw_A1 hh hA) (su_same (su_same f)) (by omega) h2) (fun j _ hj => hE j (by omega))⟩
theorem rd_x {y w : Int} (hL : L < 2 ^ 31) (hm : sx_mok cl_ly M) (hw : WF M) (hR : vu_R M) (hA : fs_A M nc H) (h4 : M 9 4 = (H : Int)) (hS : sh_S M c) (hc6 : c < 6) (ht : M 10 210 = (t : Int)) (h29 : t ≤ 29) (wy : sx_w sx_r32 y) (ww : sx_w sx_r32 w) : rz_fin (fun r N => sx_mok cl_ly N ∧ fs_x M N ∧ ((¬ rd_ok y w (M 9 4) ∧ r = some (.int (Int32.ofInt (-1)))) ∨ (rd_ok y w (M 9 4) ∧ r = some (.int (Int32.ofInt (rd_v M nc t c y.toNat w)))))) L xs 107 24 0 [(0, .ref 8), (1, .int (Int32.ofInt (c : Int))), (2, .int (Int32.ofInt y)), (3, .int (Int32.ofInt w))] [] M := by
  obtain ⟨⟨a1, a2, a3, a4, a5⟩, -⟩ := id hA
  have hH := cx_fld (c := 9) (k := 4) (lo := 0) (hi := 6) hm (by decide +kernel)
  obtain ⟨r2, r3⟩ := fu_23 hm hc6
  unfold sh_S at hS
  -- a row of bytes
  have row : M (41 + 2 * c) 2 = 0 → M 87 c = -2 ∧ M (41 + 2 * c) 1 = M 88 c ∧ ∀ i : Nat, (i : Int) < M 88 c → M (42 + 2 * c) i = M 89 (60 * c + i) := fun q => by
    rcases hS with h | h | ⟨h1, h2, h3, h4, h5, h6⟩
    · omega
    · omega
    · exact ⟨by omega, h5, h6⟩
  have h60 : 0 ≤ M 88 c ∧ M 88 c ≤ 60 := hm 88 _ c _ rfl hc6 rfl
  obtain ⟨len, el⟩ := Int.eq_ofNat_of_zero_le h60.1
  have fin : ∀ (h : Nat) (K N2 : Nat → Nat → Int), y = (h : Int) → rd_ok y w (M 9 4) → M (41 + 2 * c) 2 = 0 → (∀ a, a < 128 → K a = M a) → sx_mok cl_ly N2 → fs_x K N2 → (w ≤ 1 → rz_fin (fun r N => sx_mok cl_ly N ∧ fs_x M N ∧ ((¬ rd_ok y w (M 9 4) ∧ r = some (.int (Int32.ofInt (-1)))) ∨ (rd_ok y w (M 9 4) ∧ r = some (.int (Int32.ofInt (rd_v M nc t c y.toNat w)))))) L xs 107 24 69 [(0, .ref 8), (1, .int (Int32.ofInt (c : Int))), (2, .int (Int32.ofInt (h : Int))), (3, .int (Int32.ofInt w)), (4, .int (Int32.ofInt 0))] [.int (Int32.ofInt ((ftn (rf_0 K nc t h (K (42 + 2 * c)) len) 10 : Nat) : Int))] N2) ∧ (2 ≤ w → rz_fin (fun r N => sx_mok cl_ly N ∧ fs_x M N ∧ ((¬ rd_ok y w (M 9 4) ∧ r = some (.int (Int32.ofInt (-1)))) ∨ (rd_ok y w (M 9 4) ∧ r = some (.int (Int32.ofInt (rd_v M nc t c y.toNat w)))))) L xs 107 24 69 [(0, .ref 8), (1, .int (Int32.ofInt (c : Int))), (2, .int (Int32.ofInt (h : Int))), (3, .int (Int32.ofInt w)), (4, .int (Int32.ofInt 0))] [.int (Int32.ofInt ((ftn (rf_1 K nc t h (K (42 + 2 * c)) len) 10 : Nat) : Int))] N2) := fun h K N2 ey ok q fK hN2 x2 => by
    obtain ⟨k1, k2, k3, k4⟩ := id ok
    obtain ⟨q87, q1, qE⟩ := row q
    have eR : ∀ j, j < 10 → rf_0 K nc t h (K (42 + 2 * c)) len j = rf_0 M nc t h (fun i => M 89 (60 * c + i)) len j ∧ rf_1 K nc t h (K (42 + 2 * c)) len j = rf_1 M nc t h (fun i => M 89 (60 * c + i)) len j := fun j _ => rf_same hA (by omega) fK (fun i hi => by rw [fK (42 + 2 * c) (by omega)]; exact qE i (by omega))
    have ev : rd_v M nc t c y.toNat w = rd_a (rf_0 K nc t h (K (42 + 2 * c)) len) (rf_1 K nc t h (K (42 + 2 * c)) len) w := by
      unfold rd_v
      rw [if_neg (by omega), if_pos q87, el, Int.toNat_natCast, ey, Int.toNat_natCast]
      exact (rd_aeq (fun j hj => (eR j hj).1) (fun j hj => (eR j hj).2)).symm
    have xx : ∀ N : Nat → Nat → Int, (∀ a, a < 128 → N a = N2 a) → fs_x M N := fun N f a ha hn => (f a ha).trans ((x2 a ha hn).trans (fK a ha))
    have f10 : ∀ F : Nat → Int, 0 ≤ ((ftn F 10 : Nat) : Int) ∧ ((ftn F 10 : Nat) : Int) ≤ 1023 := fun F => by
      have := ftn_lt (F := F) 10
      omega
    have rw_ := rd_ar (F := rf_0 K nc t h (K (42 + 2 * c)) len) (G := rf_1 K nc t h (K (42 + 2 * c)) len) (w := w)
    have wz : sx_w sx_r32 (rd_a (rf_0 K nc t h (K (42 + 2 * c)) len) (rf_1 K nc t h (K (42 + 2 * c)) len) w) := og_w32 (by omega) (by omega)
    have h3 : 0 ≤ w ∧ w ≤ 3 := ⟨k3, k4⟩
    rw [ev]
    constructor
    · intro w1
      generalize hF : rf_0 K nc t h (K (42 + 2 * c)) len = F
      rw [hF] at wz
      refine qs_use (zs := [(h : Int), w, ((ftn F 10 : Nat) : Int)]) (List.all_eq_true.mp rd2_c c (List.mem_range.mpr hc6)) hL hN2 (qs_in (show 0 ≤ (h : Int) ∧ (h : Int) ≤ 5 by omega) (qs_in h3 (qs_in (f10 F) (qs_fin rfl)))) (Nat.le_refl _) rfl rfl (qs_c (fun N3 hN3 hc hM => ?_) (qs_c (fun N3 hN3 hc hM => ?_) (qs_c (fun N3 hN3 hc hM => ?_) (qs_c (fun N3 hN3 hc hM => ?_) qs_z))))
      · obtain ⟨c1, -⟩ := hc
        have c1 : 0 ≤ w ∧ w ≤ 0 := c1
        have fN3 : ∀ a, a < 128 → N3 a = N2 a := hM
        have ea : rd_a F (rf_1 K nc t h (K (42 + 2 * c)) len) w = ((fcn F 10 : Nat) : Int) := if_pos (by omega)
        rw [ea] at wz ⊢
        show rz_fin _ L xs 107 24 82 [(0, .ref 8)] [.int (Int32.ofInt ((ftn F 10 : Nat) : Int))] N3
        refine qs_sc (k := 93) (d := 23) (d' := 23) (as := [.int (Int32.ofInt ((ftn F 10 : Nat) : Int))]) (rest := []) rfl rfl rfl rfl rfl rfl rfl (Nat.le_refl _) rfl (rz_d (by decide) (bc_F (xs := xs) (F := F) hL hN3)) (fun r9 N4 hr => ?_)
        obtain ⟨rfl, hN4, f4⟩ := hr
        refine qs_nl (by show ([0] : List Nat).Nodup; decide) (qs_use (zs := [((fcn F 10 : Nat) : Int)]) rd5_c hL hN4 (qs_iw wz (qs_fin rfl)) (Nat.le_refl _) rfl rfl (qs_c (fun N5 hN5 hc hM => ?_) qs_z))
        exact ⟨hN5, xx N5 (fun a ha => ((show ∀ a, a < 128 → N5 a = N4 a from hM) a ha).trans ((f4 a ha).trans (fN3 a ha))), Or.inr ⟨ok, rfl⟩⟩
      · exfalso
        obtain ⟨c1, c2, -⟩ := hc
        have c1 : 2 ≤ w ∧ w ≤ 2 := c1
        have c2 : w ≠ 0 := c2
        have fN3 : ∀ a, a < 128 → N3 a = N2 a := hM
        omega
      · obtain ⟨c1, c2, c3, -⟩ := hc
        have c1 : 1 ≤ w ∧ w ≤ 1 := c1
        have c2 : w ≠ 0 := c2
        have c3 : w ≠ 2 := c3
        have fN3 : ∀ a, a < 128 → N3 a = N2 a := hM
        have ea : rd_a F (rf_1 K nc t h (K (42 + 2 * c)) len) w = sw (fun j => if F j < 0 then 1 else 0) (fun j => (j : Int)) 1 10 0 := by
          unfold rd_a
          rw [if_neg (by omega), if_pos (by omega)]
        rw [ea] at wz ⊢
        show rz_fin _ L xs 107 24 95 [(0, .ref 8)] [.int (Int32.ofInt 1), .int (Int32.ofInt 0), .int (Int32.ofInt ((ftn F 10 : Nat) : Int))] N3
        refine qs_sc (k := 109) (d := 23) (d' := 23) (as := [.int (Int32.ofInt ((ftn F 10 : Nat) : Int)), .int (Int32.ofInt 0), .int (Int32.ofInt 1)]) (rest := []) rfl rfl rfl rfl rfl rfl rfl (Nat.le_refl _) rfl (rz_d (by decide) (fbu_x (xs := xs) (F := F) hL hN3)) (fun r9 N4 hr => ?_)
        obtain ⟨rfl, hN4, f4⟩ := hr
        refine qs_nl (by show ([0] : List Nat).Nodup; decide) (qs_use (zs := [sw (fun j => if F j < 0 then 1 else 0) (fun j => (j : Int)) 1 10 0]) rd3_c hL hN4 (qs_iw wz (qs_fin rfl)) (Nat.le_refl _) rfl rfl (qs_c (fun N5 hN5 hc hM => ?_) qs_z))
        exact ⟨hN5, xx N5 (fun a ha => ((show ∀ a, a < 128 → N5 a = N4 a from hM) a ha).trans ((f4 a ha).trans (fN3 a ha))), Or.inr ⟨ok, rfl⟩⟩
      · exfalso
        obtain ⟨c1, c2, c3, -⟩ := hc
        have c1 : w ≠ 0 := c1
        have c2 : w ≠ 1 := c2
        have c3 : w ≠ 2 := c3
        have fN3 : ∀ a, a < 128 → N3 a = N2 a := hM
        omega
    · intro w2
      generalize hF : rf_1 K nc t h (K (42 + 2 * c)) len = F
      rw [hF] at wz
      refine qs_use (zs := [(h : Int), w, ((ftn F 10 : Nat) : Int)]) (List.all_eq_true.mp rd2_c c (List.mem_range.mpr hc6)) hL hN2 (qs_in (show 0 ≤ (h : Int) ∧ (h : Int) ≤ 5 by omega) (qs_in h3 (qs_in (f10 F) (qs_fin rfl)))) (Nat.le_refl _) rfl rfl (qs_c (fun N3 hN3 hc hM => ?_) (qs_c (fun N3 hN3 hc hM => ?_) (qs_c (fun N3 hN3 hc hM => ?_) (qs_c (fun N3 hN3 hc hM => ?_) qs_z))))
      · exfalso
        obtain ⟨c1, -⟩ := hc
        have c1 : 0 ≤ w ∧ w ≤ 0 := c1
        have fN3 : ∀ a, a < 128 → N3 a = N2 a := hM
        omega
      · obtain ⟨c1, c2, -⟩ := hc
        have c1 : 2 ≤ w ∧ w ≤ 2 := c1
        have c2 : w ≠ 0 := c2
        have fN3 : ∀ a, a < 128 → N3 a = N2 a := hM
        have ea : rd_a (rf_0 K nc t h (K (42 + 2 * c)) len) F w = ((fcn F 10 : Nat) : Int) := by
          unfold rd_a
          rw [if_neg (by omega), if_neg (by omega), if_pos (by omega)]
        rw [ea] at wz ⊢
        show rz_fin _ L xs 107 24 82 [(0, .ref 8)] [.int (Int32.ofInt ((ftn F 10 : Nat) : Int))] N3
        refine qs_sc (k := 93) (d := 23) (d' := 23) (as := [.int (Int32.ofInt ((ftn F 10 : Nat) : Int))]) (rest := []) rfl rfl rfl rfl rfl rfl rfl (Nat.le_refl _) rfl (rz_d (by decide) (bc_F (xs := xs) (F := F) hL hN3)) (fun r9 N4 hr => ?_)
        obtain ⟨rfl, hN4, f4⟩ := hr
        refine qs_nl (by show ([0] : List Nat).Nodup; decide) (qs_use (zs := [((fcn F 10 : Nat) : Int)]) rd5_c hL hN4 (qs_iw wz (qs_fin rfl)) (Nat.le_refl _) rfl rfl (qs_c (fun N5 hN5 hc hM => ?_) qs_z))
        exact ⟨hN5, xx N5 (fun a ha => ((show ∀ a, a < 128 → N5 a = N4 a from hM) a ha).trans ((f4 a ha).trans (fN3 a ha))), Or.inr ⟨ok, rfl⟩⟩
      · exfalso
        obtain ⟨c1, c2, c3, -⟩ := hc
        have c1 : 1 ≤ w ∧ w ≤ 1 := c1
        have c2 : w ≠ 0 := c2
        have c3 : w ≠ 2 := c3
        have fN3 : ∀ a, a < 128 → N3 a = N2 a := hM
        omega
      · obtain ⟨c1, c2, c3, -⟩ := hc
        have c1 : w ≠ 0 := c1
        have c2 : w ≠ 1 := c2
        have c3 : w ≠ 2 := c3
        have fN3 : ∀ a, a < 128 → N3 a = N2 a := hM
        have ea : rd_a (rf_0 K nc t h (K (42 + 2 * c)) len) F w = fls F 10 := by
          unfold rd_a
          rw [if_neg (by omega), if_neg (by omega), if_neg (by omega)]
        rw [ea] at wz ⊢
        show rz_fin _ L xs 107 24 106 [(0, .ref 8)] [.int (Int32.ofInt (-1)), .int (Int32.ofInt 9), .int (Int32.ofInt ((ftn F 10 : Nat) : Int))] N3
        refine qs_sc (k := 109) (d := 23) (d' := 23) (as := [.int (Int32.ofInt ((ftn F 10 : Nat) : Int)), .int (Int32.ofInt 9), .int (Int32.ofInt (-1))]) (rest := []) rfl rfl rfl rfl rfl rfl rfl (Nat.le_refl _) rfl (rz_d (by decide) (fbd_x (xs := xs) (F := F) hL hN3)) (fun r9 N4 hr => ?_)
        obtain ⟨rfl, hN4, f4⟩ := hr
        refine qs_nl (by show ([0] : List Nat).Nodup; decide) (qs_use (zs := [fls F 10]) rd4_c hL hN4 (qs_iw wz (qs_fin rfl)) (Nat.le_refl _) rfl rfl (qs_c (fun N5 hN5 hc hM => ?_) qs_z))
        exact ⟨hN5, xx N5 (fun a ha => ((show ∀ a, a < 128 → N5 a = N4 a from hM) a ha).trans ((f4 a ha).trans (fN3 a ha))), Or.inr ⟨ok, rfl⟩⟩
  refine qs_use (zs := [y, w, M 9 4, M (41 + 2 * c) 2, M (41 + 2 * c) 3]) (List.all_eq_true.mp rd1_c c (List.mem_range.mpr hc6)) hL hm (qs_iw wy (qs_iw ww (qs_rd (show (0 : Int) ≤ 4 by decide) rfl hH (qs_rd (show (0 : Int) ≤ 2 by decide) rfl r2 (qs_rd (show (0 : Int) ≤ 3 by decide) rfl r3 (qs_fin rfl)))))) (Nat.le_refl _) rfl rfl (qs_c (fun K hK hc hM => ?_) (qs_c (fun K hK hc hM => ?_) (qs_c (fun K hK hc hM => ?_) (qs_c (fun K hK hc hM => ?_) (qs_c (fun K hK hc hM => ?_) (qs_c (fun K hK hc hM => ?_) (qs_c (fun K hK hc hM => ?_) (qs_c (fun K hK hc hM => ?_) (qs_c (fun K hK hc hM => ?_) qs_z)))))))))
  · obtain ⟨c1, -⟩ := hc
    have c1 : -2147483648 ≤ y ∧ y ≤ -1 := c1
    have fK : ∀ a, a < 128 → K a = M a := hM
    exact ⟨hK, fun a ha _ => fK a ha, Or.inl ⟨fun q => by have := q.1; omega, rfl⟩⟩
  · obtain ⟨c1, c2, -⟩ := hc
    have c1 : 0 ≤ y ∧ y ≤ 2147483647 := c1
    have c2 : ¬ y < M 9 4 := c2
    have fK : ∀ a, a < 128 → K a = M a := hM
    exact ⟨hK, fun a ha _ => fK a ha, Or.inl ⟨fun q => c2 q.2.1, rfl⟩⟩
  · obtain ⟨c1, c2, c3, c4, -⟩ := hc
    have c1 : 0 ≤ y ∧ y ≤ 5 := c1
    have c2 : -2147483648 ≤ w ∧ w ≤ -1 := c2
    have c3 : 1 ≤ M 9 4 ∧ M 9 4 ≤ 6 := c3
    have c4 : y < M 9 4 := c4
    have fK : ∀ a, a < 128 → K a = M a := hM
    exact ⟨hK, fun a ha _ => fK a ha, Or.inl ⟨fun q => by have := q.2.2.1; omega, rfl⟩⟩
  · obtain ⟨c1, c2, c3, c4, -⟩ := hc
    have c1 : 0 ≤ y ∧ y ≤ 5 := c1
    have c2 : 4 ≤ w ∧ w ≤ 2147483647 := c2
    have c3 : 1 ≤ M 9 4 ∧ M 9 4 ≤ 6 := c3
    have c4 : y < M 9 4 := c4
    have fK : ∀ a, a < 128 → K a = M a := hM
    exact ⟨hK, fun a ha _ => fK a ha, Or.inl ⟨fun q => by have := q.2.2.2; omega, rfl⟩⟩
  · obtain ⟨c1, c2, c3, c4, c5, c6, -⟩ := hc
    have c1 : 0 ≤ y ∧ y ≤ 5 := c1
    have c2 : 0 ≤ w ∧ w ≤ 3 := c2
    have c3 : 1 ≤ M 9 4 ∧ M 9 4 ≤ 6 := c3
    have c4 : -1 ≤ M (41 + 2 * c) 2 ∧ M (41 + 2 * c) 2 ≤ -1 := c4
    have c5 : -1 ≤ M (41 + 2 * c) 3 ∧ M (41 + 2 * c) 3 ≤ -1 := c5
    have c6 : y < M 9 4 := c6
    have fK : ∀ a, a < 128 → K a = M a := hM
    have e : rd_v M nc t c y.toNat w = -11 := if_pos (by omega)
    refine ⟨hK, fun a ha _ => fK a ha, Or.inr ⟨⟨c1.1, c6, c2.1, c2.2⟩, ?_⟩⟩
    rw [e]
    rfl
  · obtain ⟨c1, c2, c3, c4, c5, c6, -⟩ := hc
    have c1 : 0 ≤ y ∧ y ≤ 5 := c1
    have c2 : 0 ≤ w ∧ w ≤ 3 := c2
    have c3 : 1 ≤ M 9 4 ∧ M 9 4 ≤ 6 := c3
    have c4 : -1 ≤ M (41 + 2 * c) 2 ∧ M (41 + 2 * c) 2 ≤ -1 := c4
    have c5 : M (41 + 2 * c) 3 ≠ -1 := c5
    have c6 : y < M 9 4 := c6
    have fK : ∀ a, a < 128 → K a = M a := hM
    have e : rd_v M nc t c y.toNat w = -12 := by
      unfold rd_v
      rw [if_neg (by omega), if_neg (by omega)]
    refine ⟨hK, fun a ha _ => fK a ha, Or.inr ⟨⟨c1.1, by omega, c2.1, c2.2⟩, ?_⟩⟩
    rw [e]
    rfl
  · obtain ⟨c1, c2, c3, c4, c5, c6, -⟩ := hc
    have c1 : 0 ≤ y ∧ y ≤ 5 := c1
    have c2 : 0 ≤ w ∧ w ≤ 3 := c2
    have c3 : 1 ≤ M 9 4 ∧ M 9 4 ≤ 6 := c3
    have c4 : M (41 + 2 * c) 2 ≠ -1 := c4
    have c5 : M (41 + 2 * c) 2 ≠ 0 := c5
    have c6 : y < M 9 4 := c6
    have fK : ∀ a, a < 128 → K a = M a := hM
    have e : rd_v M nc t c y.toNat w = -12 := by
      unfold rd_v
      rw [if_neg (by omega), if_neg (by omega)]
    refine ⟨hK, fun a ha _ => fK a ha, Or.inr ⟨⟨c1.1, by omega, c2.1, c2.2⟩, ?_⟩⟩
    rw [e]
    rfl
  · obtain ⟨c1, c2, c3, c4, c5, c6, -⟩ := hc
    have c1 : 0 ≤ y ∧ y ≤ 5 := c1
    have c2 : 0 ≤ w ∧ w ≤ 1 := c2
    have c3 : 1 ≤ M 9 4 ∧ M 9 4 ≤ 6 := c3
    have c4 : 0 ≤ M (41 + 2 * c) 2 ∧ M (41 + 2 * c) 2 ≤ 0 := c4
    have c5 : M (41 + 2 * c) 2 ≠ -1 := c5
    have c6 : y < M 9 4 := c6
    have fK : ∀ a, a < 128 → K a = M a := hM
    have ok : rd_ok y w (M 9 4) := ⟨c1.1, by omega, c2.1, by omega⟩
    have q0 : M (41 + 2 * c) 2 = 0 := by omega
    obtain ⟨h, ey⟩ := Int.eq_ofNat_of_zero_le c1.1
    obtain ⟨w1, r1⟩ := wr_same hw hR fK
    obtain ⟨q87, q1, qE⟩ := row q0
    show rz_fin _ L xs 107 24 66 [(0, .ref 8), (1, .int (Int32.ofInt (c : Int))), (2, .int (Int32.ofInt y)), (3, .int (Int32.ofInt w)), (4, .int (Int32.ofInt 0))] [.int (Int32.ofInt 2), .int (Int32.ofInt y), .ref (41 + 2 * c), .ref 8] K
    have e0 : (Int32.ofInt y) = Int32.ofInt (h : Int) := by rw [ey]
    rw [e0]
    refine qs_vc (k := 108) (b := 8) (d := 23) (d' := 23) (rest := []) rfl rfl rfl rfl rfl rfl rfl rfl (Nat.le_refl _) rfl (rcv_0 (xs := xs) (M := K) (nc := nc) (H := H) (t := t) (h := h) (c := c) (len := len) hL hK w1 r1 (fs_As fK hA) hc6 (by omega) (by rw [fK 10 (by decide)]; exact ht) h29 (by rw [fK (41 + 2 * c) (by omega), q1, el])) (fun r9 N2 hr => ?_)
    obtain ⟨rfl, hN2, x2⟩ := hr
    exact (fin h K N2 ey ok q0 fK hN2 x2).1 (by omega)
  · obtain ⟨c1, c2, c3, c4, c5, c6, -⟩ := hc
    have c1 : 0 ≤ y ∧ y ≤ 5 := c1
    have c2 : 2 ≤ w ∧ w ≤ 3 := c2
    have c3 : 1 ≤ M 9 4 ∧ M 9 4 ≤ 6 := c3
    have c4 : 0 ≤ M (41 + 2 * c) 2 ∧ M (41 + 2 * c) 2 ≤ 0 := c4
    have c5 : M (41 + 2 * c) 2 ≠ -1 := c5
    have c6 : y < M 9 4 := c6
    have fK : ∀ a, a < 128 → K a = M a := hM
    have ok : rd_ok y w (M 9 4) := ⟨c1.1, by omega, by omega, c2.2⟩
    have q0 : M (41 + 2 * c) 2 = 0 := by omega
    obtain ⟨h, ey⟩ := Int.eq_ofNat_of_zero_le c1.1
    obtain ⟨w1, r1⟩ := wr_same hw hR fK
    obtain ⟨q87, q1, qE⟩ := row q0
    show rz_fin _ L xs 107 24 66 [(0, .ref 8), (1, .int (Int32.ofInt (c : Int))), (2, .int (Int32.ofInt y)), (3, .int (Int32.ofInt w)), (4, .int (Int32.ofInt 0))] [.int (Int32.ofInt 3), .int (Int32.ofInt y), .ref (41 + 2 * c), .ref 8] K
    have e0 : (Int32.ofInt y) = Int32.ofInt (h : Int) := by rw [ey]
    rw [e0]
    refine qs_vc (k := 108) (b := 8) (d := 23) (d' := 23) (rest := []) rfl rfl rfl rfl rfl rfl rfl rfl (Nat.le_refl _) rfl (rcv_1 (xs := xs) (M := K) (nc := nc) (H := H) (t := t) (h := h) (c := c) (len := len) hL hK w1 r1 (fs_As fK hA) hc6 (by omega) (by rw [fK 10 (by decide)]; exact ht) h29 (by rw [fK (41 + 2 * c) (by omega), q1, el])) (fun r9 N2 hr => ?_)
    obtain ⟨rfl, hN2, x2⟩ := hr
    exact (fin h K N2 ey ok q0 fK hN2 x2).2 (by omega)
end
