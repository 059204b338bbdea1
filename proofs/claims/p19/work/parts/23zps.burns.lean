/-! burns: the class. -/
section
variable {L : Nat} {xs : Nat → Int32} {M M' N N' M1 X Y : Nat → Nat → Int} {k n t h d nc H i : Nat} {b c p r : Int}
def nb1_i : List qs_I := [(0, 0, (0, 0), sx_r32), (0, 0, (0, 0), sx_r32), (0, 0, (0, 0), sx_r32), (1, 9, (0, 4), (0, 6)), (1, 9, (0, 6), sx_r32)]
def nb1_T : List og_T := [(none, some (1, 0, -9223372036854775808), [], [], [], [(0, (9, 0), (0, 0), -2147483648, -1)]), (none, some (1, 0, -9223372036854775808), [], [], [], [(0, (9, 0), (0, 0), 0, 2147483647), (2, (9, 0), (12, 0), 0, 0)]), (none, some (1, 0, -9223372036854775808), [], [], [], [(0, (9, 0), (0, 0), 0, 5), (0, (10, 0), (0, 0), -2147483648, -1), (0, (12, 0), (0, 0), 1, 6), (1, (9, 0), (12, 0), 0, 0)]), (none, some (1, 0, -9223372036854775808), [], [], [], [(0, (9, 0), (0, 0), 0, 5), (0, (10, 0), (0, 0), 9, 2147483647), (0, (12, 0), (0, 0), 1, 6), (1, (9, 0), (12, 0), 0, 0)]), (none, some (1, 0, 1), [], [], [], [(0, (9, 0), (0, 0), 0, 5), (0, (10, 0), (0, 0), 0, 8), (0, (11, 0), (0, 0), 0, 0), (0, (12, 0), (0, 0), 1, 6), (0, (15, 0), (0, 0), 0, 0), (1, (9, 0), (12, 0), 0, 0), (5, (13, 0), (9, 0), 10, 14), (5, (14, 0), (0, 1), 3, 15)]), (some 53, none, [(0, 10, 0), (2, 0, 21)], [(0, 2, 0, 8), (1, 0, 9, 0), (2, 0, 10, 0), (3, 0, 11, 0)], [], [(0, (9, 0), (0, 0), 0, 5), (0, (10, 0), (0, 0), 0, 8), (0, (11, 0), (0, 0), 0, 0), (0, (12, 0), (0, 0), 1, 6), (7, (15, 0), (0, 0), 0, 0), (1, (9, 0), (12, 0), 0, 0), (5, (13, 0), (9, 0), 10, 14), (5, (14, 0), (0, 1), 3, 15)]), (none, some (1, 0, -9223372036854775808), [], [], [], [(0, (9, 0), (0, 0), 0, 5), (0, (10, 0), (0, 0), 0, 8), (0, (12, 0), (0, 0), 1, 6), (7, (11, 0), (0, 0), 0, 0), (7, (11, 0), (0, 0), 1, 0), (1, (9, 0), (12, 0), 0, 0)]), (none, some (1, 0, 1), [], [], [], [(0, (9, 0), (0, 0), 0, 5), (0, (10, 0), (0, 0), 0, 8), (0, (11, 0), (0, 0), 1, 1), (0, (12, 0), (0, 0), 1, 6), (0, (15, 0), (0, 0), 0, 0), (7, (11, 0), (0, 0), 0, 0), (1, (9, 0), (12, 0), 0, 0), (5, (13, 0), (9, 0), 10, 14), (5, (14, 0), (0, 1), 3, 15)]), (some 53, none, [(0, 10, 0), (2, 0, 21)], [(0, 2, 0, 8), (1, 0, 9, 0), (2, 0, 10, 0), (3, 0, 11, 0)], [], [(0, (9, 0), (0, 0), 0, 5), (0, (10, 0), (0, 0), 0, 8), (0, (11, 0), (0, 0), 1, 1), (0, (12, 0), (0, 0), 1, 6), (7, (11, 0), (0, 0), 0, 0), (7, (15, 0), (0, 0), 0, 0), (1, (9, 0), (12, 0), 0, 0), (5, (13, 0), (9, 0), 10, 14), (5, (14, 0), (0, 1), 3, 15)])]
theorem nb1_c : qs_chk (fun pc => Nat.beq pc 53) nb1_i 2 nb1_T 400 400 21 72 0 [(0, 2, 0, 8), (1, 0, 9, 0), (2, 0, 10, 0), (3, 0, 11, 0)] [] = true := by decide +kernel
def nb2_i : List qs_I := [(0, 0, (0, 0), (0, 5)), (0, 0, (0, 0), (0, 8)), (0, 0, (0, 0), (0, 1)), (1, 21, (0, 5), sx_r64), (1, 24, (9, 0), sx_r64)]
def nb2_T : List og_T := [(some 81, none, [(0, 11, 0), (1, 12, 0), (1, 14, 0)], [(0, 2, 0, 8), (1, 0, 9, 0), (2, 0, 10, 0), (3, 0, 11, 0)], [], [(5, (12, 0), (13, 0), 33, 14)])]
theorem nb2_c : qs_chk (fun pc => Nat.beq pc 81) nb2_i 1 nb2_T 400 400 21 72 56 [(0, 2, 0, 8), (1, 0, 9, 0), (2, 0, 10, 0), (3, 0, 11, 0)] [] = true := by decide +kernel
def nb3_i : List qs_I := [(0, 0, (0, 0), sx_r64)]
def nb3_T : List og_T := [(none, some (1, 9, 0), [], [], [], [])]
theorem nb3_c : qs_chk (fun _ => false) nb3_i 0 nb3_T 400 400 21 72 84 [] [(1, 9, 0)] = true := by decide +kernel
def nc1_i : List qs_I := [(0, 0, (0, 0), sx_r32), (0, 0, (0, 0), sx_r32), (0, 0, (0, 0), sx_r32), (1, 53, (0, 1), (0, 6)), (1, 53, (0, 7), sx_r32)]
def nc1_T : List og_T := [(none, some (1, 0, -9223372036854775808), [], [], [], [(0, (9, 0), (0, 0), -2147483648, -1)]), (none, some (1, 0, -9223372036854775808), [], [], [], [(0, (9, 0), (0, 0), 0, 2147483647), (1, (12, 0), (9, 0), 1, 0)]), (none, some (1, 0, -9223372036854775808), [], [], [], [(0, (9, 0), (0, 0), 0, 5), (0, (10, 0), (0, 0), -2147483648, -1), (0, (12, 0), (0, 0), 1, 6), (2, (12, 0), (9, 0), 1, 0)]), (none, some (1, 0, -9223372036854775808), [], [], [], [(0, (9, 0), (0, 0), 0, 5), (0, (10, 0), (0, 0), 0, 8), (0, (11, 0), (0, 0), -2147483648, -1), (0, (12, 0), (0, 0), 1, 6), (2, (12, 0), (9, 0), 1, 0)]), (some 47, none, [(0, 0, 29), (2, 0, 53)], [(0, 2, 0, 53), (1, 0, 9, 0), (2, 0, 10, 0), (3, 0, 11, 0)], [], [(0, (9, 0), (0, 0), 0, 5), (0, (10, 0), (0, 0), 0, 8), (0, (11, 0), (0, 0), 0, 1), (0, (12, 0), (0, 0), 1, 6), (0, (15, 0), (0, 0), 1, 1), (2, (12, 0), (9, 0), 1, 0), (5, (13, 0), (9, 0), 9, 14), (5, (14, 0), (0, 1), 3, 15)]), (none, some (1, 0, 1), [], [], [], [(0, (9, 0), (0, 0), 0, 5), (0, (10, 0), (0, 0), 0, 8), (0, (11, 0), (0, 0), 0, 1), (0, (12, 0), (0, 0), 1, 6), (7, (15, 0), (0, 0), 1, 0), (2, (12, 0), (9, 0), 1, 0), (5, (13, 0), (9, 0), 9, 14), (5, (14, 0), (0, 1), 3, 15)]), (none, some (1, 0, -9223372036854775808), [], [], [], [(0, (9, 0), (0, 0), 0, 5), (0, (10, 0), (0, 0), 0, 8), (0, (11, 0), (0, 0), 2, 2147483647), (0, (12, 0), (0, 0), 1, 6), (2, (12, 0), (9, 0), 1, 0)]), (none, some (1, 0, -9223372036854775808), [], [], [], [(0, (9, 0), (0, 0), 0, 5), (0, (10, 0), (0, 0), 9, 2147483647), (0, (12, 0), (0, 0), 1, 6), (2, (12, 0), (9, 0), 1, 0)])]
theorem nc1_c : qs_chk (fun pc => Nat.beq pc 47) nc1_i 2 nc1_T 400 400 21 205 0 [(0, 2, 0, 53), (1, 0, 9, 0), (2, 0, 10, 0), (3, 0, 11, 0)] [] = true := by decide +kernel
def nc2_i : List qs_I := [(0, 0, (0, 0), (0, 5)), (0, 0, (0, 0), (0, 8)), (0, 0, (0, 0), (0, 1))]
def nc2_T : List og_T := [(some 54, none, [(0, 10, 0), (2, 0, 53), (0, 9, 0), (2, 0, 53)], [(0, 2, 0, 53), (1, 0, 9, 0), (2, 0, 10, 0), (3, 0, 11, 0)], [], [])]
theorem nc2_c : qs_chk (fun pc => Nat.beq pc 54) nc2_i 0 nc2_T 400 400 21 205 50 [(0, 2, 0, 53), (1, 0, 9, 0), (2, 0, 10, 0), (3, 0, 11, 0)] [] = true := by decide +kernel
def nc4_i : List qs_I := [(0, 0, (0, 0), (0, 5)), (0, 0, (0, 0), (0, 8)), (0, 0, (0, 0), (0, 1)), (0, 0, (0, 0), sx_r64)]
def nc4_T : List og_T := [(some 62, none, [(0, 10, 0), (2, 0, 53), (1, 12, 0)], [(0, 2, 0, 53), (1, 0, 9, 0), (2, 0, 10, 0), (3, 0, 11, 0)], [], [])]
theorem nc4_c : qs_chk (fun pc => Nat.beq pc 62) nc4_i 0 nc4_T 400 400 21 205 60 [(0, 2, 0, 53), (1, 0, 9, 0), (2, 0, 10, 0), (3, 0, 11, 0)] [(1, 12, 0)] = true := by decide +kernel
def nc5_i : List qs_I := [(0, 0, (0, 0), (0, 5)), (0, 0, (0, 0), (0, 8)), (0, 0, (0, 0), (0, 1)), (0, 0, (0, 0), sx_r64), (0, 0, (0, 0), sx_r64)]
def nc5_T : List og_T := [(some 69, none, [(0, 11, 0), (1, 13, 0), (1, 12, 0)], [(0, 2, 0, 53), (1, 0, 9, 0), (2, 0, 10, 0), (3, 0, 11, 0)], [], [])]
theorem nc5_c : qs_chk (fun pc => Nat.beq pc 69) nc5_i 0 nc5_T 400 400 21 205 68 [(0, 2, 0, 53), (1, 0, 9, 0), (2, 0, 10, 0), (3, 0, 11, 0)] [(1, 13, 0), (1, 12, 0)] = true := by decide +kernel
def nc6_i : List qs_I := [(0, 0, (0, 0), sx_r64)]
def nc6_T : List og_T := [(none, some (1, 9, 0), [], [], [], [])]
theorem nc6_c : qs_chk (fun _ => false) nc6_i 0 nc6_T 400 400 21 205 72 [] [(1, 9, 0)] = true := by decide +kernel
/-- weighing days, from the beginning -/
theorem wd_all (hL : L < 2 ^ 31) (hm : sx_mok cl_ly M) (hw : WF M) (hR : vu_R M) (h5 : M 9 5 = (nc : Int)) (h12 : nc ≤ 12) (h4 : M 9 4 = (H : Int)) (h6 : H ≤ 6) (ht : M 10 210 = (t : Int)) (h29 : t ≤ 29) (hn : n ≤ 8) : rz_fin (fun r N => r = none ∧ sx_mok cl_ly N ∧ ∃ M1 X, (∀ a, a < 128 → a ≠ 21 → a ≠ 24 → M1 a = M a) ∧ pb_Q M1 none X ∧ wd_S X nc H t (dn t n) N) L xs 74 20 0 [(0, .ref 21), (1, .int (Int32.ofInt (n : Int)))] [] M := by
  refine qs_use (zs := [(n : Int)]) wd1_c hL hm (qs_in (show 0 ≤ (n : Int) ∧ (n : Int) ≤ 8 by omega) (qs_fin rfl)) (Nat.le_refl _) rfl rfl (qs_c (fun M1 hm1 hc hM => ?_) qs_z)
  have f1 : ∀ a, a < 128 → M1 a = sx_up (sx_up (sx_up (sx_up (sx_up (sx_up (sx_up M 21 5 1) 24 0 1) 24 1 1) 24 2 1) 24 3 1) 24 4 1) 24 5 1 a := hM
  have e24 : ∀ g, g < 6 → M1 24 g = 1 := fun g hg => by
    rw [f1 24 (by decide)]
    match g, hg with
    | 0, _ => rw [sh_unj (by decide), sh_unj (by decide), sh_unj (by decide), sh_unj (by decide), sh_unj (by decide), sh_uat]
    | 1, _ => rw [sh_unj (by decide), sh_unj (by decide), sh_unj (by decide), sh_unj (by decide), sh_uat]
    | 2, _ => rw [sh_unj (by decide), sh_unj (by decide), sh_unj (by decide), sh_uat]
    | 3, _ => rw [sh_unj (by decide), sh_unj (by decide), sh_uat]
    | 4, _ => rw [sh_unj (by decide), sh_uat]
    | 5, _ => rw [sh_uat]
  have e21 : M1 21 5 = 1 := by rw [f1 21 (by decide), sh_une (by decide), sh_une (by decide), sh_une (by decide), sh_une (by decide), sh_une (by decide), sh_une (by decide), sh_uat]
  have o1 : ∀ a, a < 128 → a ≠ 21 → a ≠ 24 → M1 a = M a := fun a ha x1 x2 => by rw [f1 a ha, sh_une x2, sh_une x2, sh_une x2, sh_une x2, sh_une x2, sh_une x2, sh_une x1]
  obtain ⟨w1, r1⟩ := fs_same hw hR (show fs_x M M1 from fun a ha q => o1 a ha (by omega) (by omega))
  show rz_fin _ L xs 74 20 27 [(0, .ref 21), (1, .int (Int32.ofInt (n : Int)))] [.ref 21] M1
  refine qs_vc (k := 54) (b := 21) (d := 19) (d' := 19) (rest := []) rfl rfl rfl rfl rfl rfl rfl rfl (Nat.le_refl _) rfl (rz_d (by decide) (pb_begin (xs := xs) hL hm1)) (fun r9 X hX => ?_)
  have hr : r9 = none := hX.1
  subst hr
  have xe : ∀ a, a < 128 → a ≠ 21 → a ≠ 23 → X a = M1 a := hX.2.2.1
  have x10 : X 10 = M 10 := (xe 10 (by decide) (by decide) (by decide)).trans (o1 10 (by decide) (by decide) (by decide))
  have x9 : X 9 = M 9 := (xe 9 (by decide) (by decide) (by decide)).trans (o1 9 (by decide) (by decide) (by decide))
  obtain ⟨wX, rX⟩ := pb_keep w1 r1 hX
  have go : ∀ (K : Nat → Nat → Int), sx_mok cl_ly K → (∀ a, a < 128 → K a = X a) → rz_fin (fun r N => r = none ∧ sx_mok cl_ly N ∧ ∃ M1 X, (∀ a, a < 128 → a ≠ 21 → a ≠ 24 → M1 a = M a) ∧ pb_Q M1 none X ∧ wd_S X nc H t (dn t n) N) L xs 74 20 47 [(0, .ref 21), (1, .int (Int32.ofInt (n : Int))), (2, .int (Int32.ofInt ((dn t n : Nat) : Int))), (3, .int (Int32.ofInt ((0 : Nat) : Int)))] [] K := fun K hK fK => by
    obtain ⟨d8, d30⟩ := dn_r h29 hn
    refine qs_w (wd_loop (xs := xs) (X := X) (nc := nc) (H := H) (t := t) (n := n) (k := dn t n) hL wX rX (by rw [x9]; exact h5) h12 (by rw [x9]; exact h4) h6 (by rw [x10]; exact ht) hn d8 d30 (dn t n) 0 K (Nat.zero_add _) hK ⟨⟨fun a ha _ => fK a ha, fun j _ _ => by rw [fK 21 (by decide)]⟩, ⟨by rw [fK 21 (by decide)]; rfl, fun h => by rw [fK 23 (by decide)]; rfl⟩, ?_, fun g hg => ?_⟩) (fun r N q => ?_)
    · rw [fK 21 (by decide), hX.2.2.2.1 5 (by decide) (by decide), e21]
      rfl
    · rw [fK 24 (by decide), xe 24 (by decide) (by decide) (by decide), e24 g (by omega)]
      rfl
    · obtain ⟨q1, q2, q3⟩ := q
      exact ⟨q1, q2, M1, X, o1, hX, q3⟩
  refine qs_use (zs := [(n : Int), (t : Int)]) wd2_c hL hX.2.1 (qs_in (show 0 ≤ (n : Int) ∧ (n : Int) ≤ 8 by omega) (qs_rd (show (0 : Int) ≤ 210 by decide) (by rw [x10]; exact ht) (show 0 ≤ (t : Int) ∧ (t : Int) ≤ 29 by omega) (qs_fin rfl))) (Nat.le_refl _) rfl rfl (qs_c (fun u1 K hK hc hM => ?_) (qs_c (fun u1 K hK hc hM => ?_) qs_z))
  · obtain ⟨c1, c2, c3, c4, -⟩ := hc
    have c3 : u1 < (n : Int) := c3
    have c4 : u1 = sx_mf 1 30 (t : Int) := c4
    rw [mf_sub (by omega) (by omega)] at c4
    have e : u1 = ((dn t n : Nat) : Int) := by
      unfold dn
      rw [if_neg (by omega)]
      omega
    subst e
    exact go K hK hM
  · obtain ⟨c1, c3, c4, -⟩ := hc
    have c3 : ¬ u1 < (n : Int) := c3
    have c4 : u1 = sx_mf 1 30 (t : Int) := c4
    rw [mf_sub (by omega) (by omega)] at c4
    have e : dn t n = n := if_pos (by omega)
    have g := go K hK hM
    rw [show ((dn t n : Nat) : Int) = (n : Int) by rw [e]] at g
    exact g
/-- what is asked is as it should be -/
def nb_ok (c b p H m : Int) : Prop := 0 ≤ c ∧ c < H ∧ 0 ≤ b ∧ b ≤ m ∧ 0 ≤ p ∧ p ≤ 1
def nb_R (O : Prop) (S c : Int) (M : Nat → Nat → Int) (Z : Option Value → (Nat → Nat → Int) → Prop) (r : Option Value) (N : Nat → Nat → Int) : Prop := sx_mok cl_ly N ∧ ((¬ O ∧ r = some (.long (Int64.ofInt (-9223372036854775808))) ∧ ∀ a, a < 128 → N a = M a) ∨ (O ∧ vq_bt S c = 0 ∧ r = some (.long (Int64.ofInt 1)) ∧ ∀ a, a < 128 → N a = M a) ∨ (O ∧ vq_bt S c = 1 ∧ Z r N))
/-- how many of twelve times twelve .. it is -/
def nb_a (X : Nat → Nat → Int) (nc t n c : Nat) : Int := sx_mf 33 (xii (dn t n)) (pr (fun i => bk (fun h => X 10 (30 + h)) (fun d => X 10 (150 + d)) (fa_h X nc t) c (t + i)) (dn t n))
def nb_Z (M : Nat → Nat → Int) (nc t : Nat) (c n p : Int) (r : Option Value) (N : Nat → Nat → Int) : Prop := ∃ M1 X g, (∀ a, a < 128 → a ≠ 21 → a ≠ 24 → M1 a = M a) ∧ pb_Q M1 none X ∧ eu 99 (nb_a X nc t n.toNat c.toNat) (xii (dn t n.toNat)) = some g ∧ g ≠ 0 ∧ r = some (.long (Int64.ofInt (eu_v p (nb_a X nc t n.toNat c.toNat) (xii (dn t n.toNat)) g))) ∧ fs_x M N
theorem nb_x (hL : L < 2 ^ 31) (hm : sx_mok cl_ly M) (hw : WF M) (hR : vu_R M) (h5 : M 9 5 = (nc : Int)) (h12 : nc ≤ 12) (h4 : M 9 4 = (H : Int)) (h6 : H ≤ 6) (ht : M 10 210 = (t : Int)) (h29 : t ≤ 29) (wc : sx_w sx_r32 c) (wb : sx_w sx_r32 b) (wp : sx_w sx_r32 p) : rz_fin (nb_R (nb_ok c b p (M 9 4) 8) (M 9 6) c M (nb_Z M nc t c b p)) L xs 72 21 0 [(0, .ref 8), (1, .int (Int32.ofInt c)), (2, .int (Int32.ofInt b)), (3, .int (Int32.ofInt p))] [] M := by
  have hH := cx_fld (c := 9) (k := 4) (lo := 0) (hi := 6) hm (by decide +kernel)
  have w6 : sx_w sx_r32 (M 9 6) := cv_ly_ok (g := (9, 6, sx_r32)) hm (by decide +kernel)
  have bt := vq_bt_r (M 9 6) c
  -- the days are weighed
  have go : ∀ K, sx_mok cl_ly K → (∀ a, a < 128 → K a = M a) → nb_ok c b p (M 9 4) 8 → vq_bt (M 9 6) c = 1 → rz_fin (nb_R (nb_ok c b p (M 9 4) 8) (M 9 6) c M (nb_Z M nc t c b p)) L xs 72 21 53 [(0, .ref 8), (1, .int (Int32.ofInt c)), (2, .int (Int32.ofInt b)), (3, .int (Int32.ofInt p))] [.int (Int32.ofInt b), .ref 21] K := fun K hK fK ok e1 => by
    obtain ⟨k1, k2, k3, k4, k5, k6⟩ := id ok
    obtain ⟨h, rfl⟩ := Int.eq_ofNat_of_zero_le k1
    obtain ⟨n, rfl⟩ := Int.eq_ofNat_of_zero_le k3
    obtain ⟨w1, r1⟩ := wr_same hw hR fK
    refine qs_vc (k := 74) (b := 21) (d := 20) (d' := 20) (rest := []) rfl rfl rfl rfl rfl rfl rfl rfl (Nat.le_refl _) rfl (wd_all (xs := xs) (nc := nc) (H := H) (t := t) (n := n) hL hK w1 r1 (by rw [fK 9 (by decide)]; exact h5) h12 (by rw [fK 9 (by decide)]; exact h4) h6 (by rw [fK 10 (by decide)]; exact ht) h29 (by omega)) (fun r9 N1 hr => ?_)
    obtain ⟨rfl, hN1, M1, X, o1, hX, wS⟩ := hr
    obtain ⟨⟨F1, F2⟩, P, q5, q24⟩ := wS
    have q24 := q24 h (by omega)
    obtain ⟨d8, d30⟩ := dn_r h29 (show n ≤ 8 by omega)
    have wx := xii_w d8
    have wp2 := pr_w (f := fun i => bk (fun h => X 10 (30 + h)) (fun d => X 10 (150 + d)) (fa_h X nc t) h (t + i)) (dn t n)
    refine qs_use (zs := [(h : Int), (n : Int), p, xii (dn t n), pr (fun i => bk (fun h => X 10 (30 + h)) (fun d => X 10 (150 + d)) (fa_h X nc t) h (t + i)) (dn t n)]) nb2_c hL hN1 (qs_in (show 0 ≤ (h : Int) ∧ (h : Int) ≤ 5 by omega) (qs_in (show 0 ≤ (n : Int) ∧ (n : Int) ≤ 8 by omega) (qs_in (show 0 ≤ p ∧ p ≤ 1 by omega) (qs_rd (show (0 : Int) ≤ 5 by decide) q5 wx (qs_rd (show 0 ≤ (h : Int) by omega) q24 wp2 (qs_fin rfl)))))) (Nat.le_refl _) rfl rfl (qs_c (fun u1 N2 hN2 hc hM => ?_) qs_z)
    obtain ⟨c1, -⟩ := hc
    have c1 : u1 = sx_mf 33 (xii (dn t n)) (pr (fun i => bk (fun h => X 10 (30 + h)) (fun d => X 10 (150 + d)) (fa_h X nc t) h (t + i)) (dn t n)) := c1
    have fN2 : ∀ a, a < 128 → N2 a = N1 a := hM
    have ea : u1 = nb_a X nc t n h := c1
    have wa : sx_w sx_r64 (nb_a X nc t n h) := mf_w64 33 ⟨by decide, by decide⟩ _ _
    have xr := xii_r d8
    obtain ⟨g, eg, g0, gw⟩ := eu_ok 29 99 (nb_a X nc t n h) (xii (dn t n)) (by decide) (by omega) (Or.inr (by omega)) wa wx
    subst ea
    show rz_fin _ L xs 72 21 81 [(0, .ref 8), (1, .int (Int32.ofInt (h : Int))), (2, .int (Int32.ofInt (n : Int))), (3, .int (Int32.ofInt p))] [.int (Int32.ofInt p), .long (Int64.ofInt (xii (dn t n))), .long (Int64.ofInt (nb_a X nc t n h))] N2
    refine qs_sc (k := 75) (d := 20) (d' := 20) (as := [.long (Int64.ofInt (nb_a X nc t n h)), .long (Int64.ofInt (xii (dn t n))), .int (Int32.ofInt p)]) (rest := []) rfl rfl rfl rfl rfl rfl rfl (Nat.le_refl _) rfl (rz_d (by decide) (fq_x (xs := xs) (p := p) hL hN2 wa wx ⟨k5, k6⟩ g0 gw eg)) (fun r9 N3 hr => ?_)
    obtain ⟨rfl, hN3, f3⟩ := hr
    have wv : sx_w sx_r64 (eu_v p (nb_a X nc t n h) (xii (dn t n)) g) := by
      unfold eu_v
      split
      · exact mf_w64 38 ⟨by decide, by decide⟩ _ _
      · exact mf_w64 38 ⟨by decide, by decide⟩ _ _
    refine qs_nl (by show ([0, 1, 2, 3] : List Nat).Nodup; decide) (qs_use (zs := [eu_v p (nb_a X nc t n h) (xii (dn t n)) g]) nb3_c hL hN3 (qs_iw wv (qs_fin rfl)) (Nat.le_refl _) rfl rfl (qs_c (fun N4 hN4 hc hM => ?_) qs_z))
    have f4 : ∀ a, a < 128 → N4 a = N3 a := hM
    refine ⟨hN4, Or.inr (Or.inr ⟨ok, e1, M1, X, g, fun a ha x1 x2 => (o1 a ha x1 x2).trans (fK a ha), hX, eg, g0, rfl, fun a ha hn => ?_⟩)⟩
    rw [f4 a ha, f3 a ha, fN2 a ha, F1 a ha (by omega), hX.2.2.1 a ha (by omega) (by omega), o1 a ha (by omega) (by omega), fK a ha]
  refine qs_use (zs := [c, b, p, M 9 4, M 9 6]) nb1_c hL hm (qs_iw wc (qs_iw wb (qs_iw wp (qs_rd (show (0 : Int) ≤ 4 by decide) rfl hH (qs_rd (show (0 : Int) ≤ 6 by decide) rfl w6 (qs_fin rfl)))))) (Nat.le_refl _) rfl rfl (qs_c (fun u1 u2 K hK hc hM => ?_) (qs_c (fun u1 u2 K hK hc hM => ?_) (qs_c (fun u1 u2 K hK hc hM => ?_) (qs_c (fun u1 u2 K hK hc hM => ?_) (qs_c (fun u1 u2 K hK hc hM => ?_) (qs_c (fun u1 u2 K hK hc hM => ?_) (qs_c (fun u1 u2 K hK hc hM => ?_) (qs_c (fun u1 u2 K hK hc hM => ?_) (qs_c (fun u1 u2 K hK hc hM => ?_) qs_z)))))))))
  · obtain ⟨c1, -⟩ := hc
    have c1 : -2147483648 ≤ c ∧ c ≤ -1 := c1
    have fK : ∀ a, a < 128 → K a = M a := hM
    exact ⟨hK, Or.inl ⟨fun q => by have := q.1; omega, rfl, fK⟩⟩
  · obtain ⟨c1, c2, -⟩ := hc
    have c1 : 0 ≤ c ∧ c ≤ 2147483647 := c1
    have c2 : ¬ c < M 9 4 := c2
    have fK : ∀ a, a < 128 → K a = M a := hM
    exact ⟨hK, Or.inl ⟨fun q => c2 q.2.1, rfl, fK⟩⟩
  · obtain ⟨c1, c2, c3, c4, -⟩ := hc
    have c1 : 0 ≤ c ∧ c ≤ 5 := c1
    have c2 : -2147483648 ≤ b ∧ b ≤ -1 := c2
    have c3 : 1 ≤ M 9 4 ∧ M 9 4 ≤ 6 := c3
    have c4 : c < M 9 4 := c4
    have fK : ∀ a, a < 128 → K a = M a := hM
    exact ⟨hK, Or.inl ⟨fun q => by have := q.2.2.1; omega, rfl, fK⟩⟩
  · obtain ⟨c1, c2, c3, c4, -⟩ := hc
    have c1 : 0 ≤ c ∧ c ≤ 5 := c1
    have c2 : 9 ≤ b ∧ b ≤ 2147483647 := c2
    have c3 : 1 ≤ M 9 4 ∧ M 9 4 ≤ 6 := c3
    have c4 : c < M 9 4 := c4
    have fK : ∀ a, a < 128 → K a = M a := hM
    exact ⟨hK, Or.inl ⟨fun q => by have := q.2.2.2.1; omega, rfl, fK⟩⟩
  · obtain ⟨c1, c2, c3, c4, c5, c6, c7, c8, -⟩ := hc
    have c1 : 0 ≤ c ∧ c ≤ 5 := c1
    have c2 : 0 ≤ b ∧ b ≤ 8 := c2
    have c3 : 0 ≤ p ∧ p ≤ 0 := c3
    have c4 : 1 ≤ M 9 4 ∧ M 9 4 ≤ 6 := c4
    have c5 : 0 ≤ u2 ∧ u2 ≤ 0 := c5
    have c6 : c < M 9 4 := c6
    have c7 : u1 = sx_mf 10 (M 9 6) c := c7
    have c8 : u2 = sx_mf 3 u1 1 := c8
    have fK : ∀ a, a < 128 → K a = M a := hM
    have e : u2 = vq_bt (M 9 6) c := by rw [c8, c7]; rfl
    exact ⟨hK, Or.inr (Or.inl ⟨⟨c1.1, c6, c2.1, c2.2, c3.1, by omega⟩, by omega, rfl, fK⟩)⟩
  · obtain ⟨c1, c2, c3, c4, c5, c6, c7, c8, -⟩ := hc
    have c1 : 0 ≤ c ∧ c ≤ 5 := c1
    have c2 : 0 ≤ b ∧ b ≤ 8 := c2
    have c3 : 0 ≤ p ∧ p ≤ 0 := c3
    have c4 : 1 ≤ M 9 4 ∧ M 9 4 ≤ 6 := c4
    have c5 : u2 ≠ 0 := c5
    have c6 : c < M 9 4 := c6
    have c7 : u1 = sx_mf 10 (M 9 6) c := c7
    have c8 : u2 = sx_mf 3 u1 1 := c8
    have fK : ∀ a, a < 128 → K a = M a := hM
    have e : u2 = vq_bt (M 9 6) c := by rw [c8, c7]; rfl
    exact go K hK fK ⟨c1.1, c6, c2.1, c2.2, c3.1, by omega⟩ (by omega)
  · obtain ⟨c1, c2, c3, c4, c5, c6, -⟩ := hc
    have c1 : 0 ≤ c ∧ c ≤ 5 := c1
    have c2 : 0 ≤ b ∧ b ≤ 8 := c2
    have c3 : 1 ≤ M 9 4 ∧ M 9 4 ≤ 6 := c3
    have c4 : p ≠ 0 := c4
    have c5 : p ≠ 1 := c5
    have c6 : c < M 9 4 := c6
    have fK : ∀ a, a < 128 → K a = M a := hM
    exact ⟨hK, Or.inl ⟨fun q => by have := q.2.2.2.2; omega, rfl, fK⟩⟩
  · obtain ⟨c1, c2, c3, c4, c5, c6, c7, c8, c9, -⟩ := hc
    have c1 : 0 ≤ c ∧ c ≤ 5 := c1
    have c2 : 0 ≤ b ∧ b ≤ 8 := c2
    have c3 : 1 ≤ p ∧ p ≤ 1 := c3
    have c4 : 1 ≤ M 9 4 ∧ M 9 4 ≤ 6 := c4
    have c5 : 0 ≤ u2 ∧ u2 ≤ 0 := c5
    have c6 : p ≠ 0 := c6
    have c7 : c < M 9 4 := c7
    have c8 : u1 = sx_mf 10 (M 9 6) c := c8
    have c9 : u2 = sx_mf 3 u1 1 := c9
    have fK : ∀ a, a < 128 → K a = M a := hM
    have e : u2 = vq_bt (M 9 6) c := by rw [c9, c8]; rfl
    exact ⟨hK, Or.inr (Or.inl ⟨⟨c1.1, c7, c2.1, c2.2, by omega, c3.2⟩, by omega, rfl, fK⟩)⟩
  · obtain ⟨c1, c2, c3, c4, c5, c6, c7, c8, c9, -⟩ := hc
    have c1 : 0 ≤ c ∧ c ≤ 5 := c1
    have c2 : 0 ≤ b ∧ b ≤ 8 := c2
    have c3 : 1 ≤ p ∧ p ≤ 1 := c3
    have c4 : 1 ≤ M 9 4 ∧ M 9 4 ≤ 6 := c4
    have c5 : p ≠ 0 := c5
    have c6 : u2 ≠ 0 := c6
    have c7 : c < M 9 4 := c7
    have c8 : u1 = sx_mf 10 (M 9 6) c := c8
    have c9 : u2 = sx_mf 3 u1 1 := c9
    have fK : ∀ a, a < 128 → K a = M a := hM
    have e : u2 = vq_bt (M 9 6) c := by rw [c9, c8]; rfl
    exact go K hK fK ⟨c1.1, c7, c2.1, c2.2, by omega, c3.2⟩ (by omega)

def nb_b (N : Nat → Nat → Int) (t n h : Nat) : Int := sx_mf 33 (xii (dn t n)) (pr (fun i => bk (N 55) (N 61) (N 77) h (t + i)) (dn t n))
def nb_W (M : Nat → Nat → Int) (H nc t : Nat) (c n p : Int) (r : Option Value) (N : Nat → Nat → Int) : Prop := ∃ Y N1, my_Q M H none Y ∧ ms_F Y N1 ∧ mt_on Y nc (30 - t) t N1 ∧ fs_y M N ∧ ∀ g, eu 99 (nb_b N1 t n.toNat c.toNat) (xii (dn t n.toNat)) = some g → g ≠ 0 → r = some (.long (Int64.ofInt (eu_v p (nb_b N1 t n.toNat c.toNat) (xii (dn t n.toNat)) g)))
theorem nb_t2 {v : Int} (hL : L < 2 ^ 31) (hm : sx_mok cl_ly N) (h13 : N 53 13 = (t : Int)) (h29 : t ≤ 29) (hn : n ≤ 8) (hh : h ≤ 5) (hp : 0 ≤ p ∧ p ≤ 1) (wa : sx_w sx_r64 v) : rz_fin (fun r K => sx_mok cl_ly K ∧ (∀ a, a < 128 → K a = N a) ∧ ∀ g, eu 99 v (xii (dn t n)) = some g → g ≠ 0 → r = some (.long (Int64.ofInt (eu_v p v (xii (dn t n)) g)))) L xs 205 21 60 [(0, .ref 53), (1, .int (Int32.ofInt (h : Int))), (2, .int (Int32.ofInt (n : Int))), (3, .int (Int32.ofInt p))] [.long (Int64.ofInt v)] N := by
  obtain ⟨d8, d30⟩ := dn_r h29 hn
  have wx := xii_w d8
  have xr := xii_r d8
  refine qs_use (zs := [(h : Int), (n : Int), p, v]) nc4_c hL hm (qs_in (show 0 ≤ (h : Int) ∧ (h : Int) ≤ 5 by omega) (qs_in (show 0 ≤ (n : Int) ∧ (n : Int) ≤ 8 by omega) (qs_in (show 0 ≤ p ∧ p ≤ 1 by omega) (qs_iw wa (qs_fin rfl))))) (Nat.le_refl _) rfl rfl (qs_c (fun N5 hN5 hc hM => ?_) qs_z)
  have fN5 : ∀ a, a < 128 → N5 a = N a := hM
  show rz_fin _ L xs 205 21 62 [(0, .ref 53), (1, .int (Int32.ofInt (h : Int))), (2, .int (Int32.ofInt (n : Int))), (3, .int (Int32.ofInt p))] [.int (Int32.ofInt (n : Int)), .ref 53, .long (Int64.ofInt v)] N5
  refine qs_vc (k := 206) (b := 53) (d := 20) (d' := 20) (rest := [.long (Int64.ofInt v)]) rfl rfl rfl rfl rfl rfl rfl rfl (Nat.le_refl _) rfl (rz_d (by decide) (bd_y (xs := xs) (t := t) (n := n) hL hN5 (by rw [fN5 53 (by decide)]; exact h13) h29 (by omega))) (fun r9 N6 hr => ?_)
  obtain ⟨rfl, hN6, f6⟩ := hr
  show rz_fin _ L xs 205 21 65 [(0, .ref 53), (1, .int (Int32.ofInt (h : Int))), (2, .int (Int32.ofInt (n : Int))), (3, .int (Int32.ofInt p))] [.int (Int32.ofInt ((dn t n : Nat) : Int)), .long (Int64.ofInt v)] N6
  refine qs_sc (k := 208) (d := 20) (d' := 20) (as := [.int (Int32.ofInt ((dn t n : Nat) : Int))]) (rest := [.long (Int64.ofInt v)]) rfl rfl rfl rfl rfl rfl rfl (Nat.le_refl _) rfl (rz_d (by decide) (xii_y (xs := xs) hL hN6 d8)) (fun r9 N7 hr => ?_)
  obtain ⟨rfl, hN7, f7⟩ := hr
  show rz_fin _ L xs 205 21 68 [(0, .ref 53), (1, .int (Int32.ofInt (h : Int))), (2, .int (Int32.ofInt (n : Int))), (3, .int (Int32.ofInt p))] [.long (Int64.ofInt (xii (dn t n))), .long (Int64.ofInt v)] N7
  refine qs_use (zs := [(h : Int), (n : Int), p, v, xii (dn t n)]) nc5_c hL hN7 (qs_in (show 0 ≤ (h : Int) ∧ (h : Int) ≤ 5 by omega) (qs_in (show 0 ≤ (n : Int) ∧ (n : Int) ≤ 8 by omega) (qs_in (show 0 ≤ p ∧ p ≤ 1 by omega) (qs_iw wa (qs_iw wx (qs_fin rfl)))))) (Nat.le_refl _) rfl rfl (qs_c (fun N8 hN8 hc hM => ?_) qs_z)
  have fN8 : ∀ a, a < 128 → N8 a = N7 a := hM
  obtain ⟨g, eg, g0, gw⟩ := eu_ok 29 99 v (xii (dn t n)) (by decide) (by omega) (Or.inr (by omega)) wa wx
  show rz_fin _ L xs 205 21 69 [(0, .ref 53), (1, .int (Int32.ofInt (h : Int))), (2, .int (Int32.ofInt (n : Int))), (3, .int (Int32.ofInt p))] [.int (Int32.ofInt p), .long (Int64.ofInt (xii (dn t n))), .long (Int64.ofInt v)] N8
  refine qs_sc (k := 209) (d := 20) (d' := 20) (as := [.long (Int64.ofInt v), .long (Int64.ofInt (xii (dn t n))), .int (Int32.ofInt p)]) (rest := []) rfl rfl rfl rfl rfl rfl rfl (Nat.le_refl _) rfl (rz_d (by decide) (lq_y (xs := xs) (p := p) hL hN8 wa wx (by omega) hp g0 eg)) (fun r9 N9 hr => ?_)
  obtain ⟨rfl, hN9, f9⟩ := hr
  have wv : sx_w sx_r64 (eu_v p v (xii (dn t n)) g) := by
    unfold eu_v
    split
    · exact mf_w64 38 ⟨by decide, by decide⟩ _ _
    · exact mf_w64 38 ⟨by decide, by decide⟩ _ _
  refine qs_nl (by show ([0, 1, 2, 3] : List Nat).Nodup; decide) (qs_use (zs := [eu_v p v (xii (dn t n)) g]) nc6_c hL hN9 (qs_iw wv (qs_fin rfl)) (Nat.le_refl _) rfl rfl (qs_c (fun NA hNA hc hM => ?_) qs_z))
  have fNA : ∀ a, a < 128 → NA a = N9 a := hM
  have eA : ∀ a, a < 128 → NA a = N a := fun a ha => by rw [fNA a ha, f9 a ha, fN8 a ha, f7 a ha, f6 a ha, fN5 a ha]
  refine ⟨hNA, eA, fun g' eg' _ => ?_⟩
  have e : some g = some g' := eg.symm.trans eg'
  rw [← Option.some.inj e]
  rfl
theorem nb_t (hL : L < 2 ^ 31) (hm : sx_mok cl_ly N) (h13 : N 53 13 = (t : Int)) (h29 : t ≤ 29) (hn : n ≤ 8) (hh : h ≤ 5) (hp : 0 ≤ p ∧ p ≤ 1) : rz_fin (fun r K => sx_mok cl_ly K ∧ (∀ a, a < 128 → K a = N a) ∧ ∀ g, eu 99 (nb_b N t n h) (xii (dn t n)) = some g → g ≠ 0 → r = some (.long (Int64.ofInt (eu_v p (nb_b N t n h) (xii (dn t n)) g)))) L xs 205 21 50 [(0, .ref 53), (1, .int (Int32.ofInt (h : Int))), (2, .int (Int32.ofInt (n : Int))), (3, .int (Int32.ofInt p))] [] N := by
  obtain ⟨d8, d30⟩ := dn_r h29 hn
  refine qs_use (zs := [(h : Int), (n : Int), p]) nc2_c hL hm (qs_in (show 0 ≤ (h : Int) ∧ (h : Int) ≤ 5 by omega) (qs_in (show 0 ≤ (n : Int) ∧ (n : Int) ≤ 8 by omega) (qs_in (show 0 ≤ p ∧ p ≤ 1 by omega) (qs_fin rfl)))) (Nat.le_refl _) rfl rfl (qs_c (fun N2 hN2 hc hM => ?_) qs_z)
  have fN2 : ∀ a, a < 128 → N2 a = N a := hM
  show rz_fin _ L xs 205 21 54 [(0, .ref 53), (1, .int (Int32.ofInt (h : Int))), (2, .int (Int32.ofInt (n : Int))), (3, .int (Int32.ofInt p))] [.int (Int32.ofInt (n : Int)), .ref 53, .int (Int32.ofInt (h : Int)), .ref 53] N2
  refine qs_vc (k := 206) (b := 53) (d := 20) (d' := 20) (rest := [.int (Int32.ofInt (h : Int)), .ref 53]) rfl rfl rfl rfl rfl rfl rfl rfl (Nat.le_refl _) rfl (rz_d (by decide) (bd_y (xs := xs) (t := t) (n := n) hL hN2 (by rw [fN2 53 (by decide)]; exact h13) h29 (by omega))) (fun r9 N3 hr => ?_)
  obtain ⟨rfl, hN3, f3⟩ := hr
  have e3 : ∀ a, a < 128 → N3 a = N a := fun a ha => (f3 a ha).trans (fN2 a ha)
  show rz_fin _ L xs 205 21 57 [(0, .ref 53), (1, .int (Int32.ofInt (h : Int))), (2, .int (Int32.ofInt (n : Int))), (3, .int (Int32.ofInt p))] [.int (Int32.ofInt ((dn t n : Nat) : Int)), .int (Int32.ofInt (h : Int)), .ref 53] N3
  refine qs_vc (k := 207) (b := 53) (d := 20) (d' := 20) (rest := []) rfl rfl rfl rfl rfl rfl rfl rfl (Nat.le_refl _) rfl (rz_d (by decide) (bn_y (xs := xs) (t := t) (k := dn t n) (h := h) hL hN3 (by rw [e3 53 (by decide)]; exact h13) h29 d8 d30 (by omega))) (fun r9 N4 hr => ?_)
  obtain ⟨rfl, hN4, f4⟩ := hr
  have e4 : ∀ a, a < 128 → N4 a = N a := fun a ha => (f4 a ha).trans (e3 a ha)
  have eb : sx_mf 33 (xii (dn t n)) (pr (fun i => bk (N3 55) (N3 61) (N3 77) h (t + i)) (dn t n)) = nb_b N t n h := by
    unfold nb_b
    rw [e3 55 (by decide), e3 61 (by decide), e3 77 (by decide)]
  rw [eb]
  have wa : sx_w sx_r64 (nb_b N t n h) := mf_w64 33 ⟨by decide, by decide⟩ _ _
  refine qs_w (nb_t2 (xs := xs) (t := t) (n := n) (h := h) (p := p) hL hN4 (by rw [e4 53 (by decide)]; exact h13) h29 hn hh hp wa) (fun r K q => ?_)
  obtain ⟨q1, q2, q3⟩ := q
  exact ⟨q1, fun a ha => (q2 a ha).trans (e4 a ha), q3⟩
theorem nb_y (hL : L < 2 ^ 31) (hm : sx_mok cl_ly M) (hw : WF M) (hR : vu_R M) (h5 : M 53 8 = (nc : Int)) (h4 : M 53 1 = (H : Int)) (h6 : H ≤ 6) (ht : M 53 13 = (t : Int)) (h29 : t ≤ 29) (wc : sx_w sx_r32 c) (wb : sx_w sx_r32 b) (wp : sx_w sx_r32 p) : rz_fin (nb_R (nb_ok c b p (M 53 1) 8) (M 53 7) c M (nb_W M H nc t c b p)) L xs 205 21 0 [(0, .ref 53), (1, .int (Int32.ofInt c)), (2, .int (Int32.ofInt b)), (3, .int (Int32.ofInt p))] [] M := by
  have hH := cx_fld (c := 53) (k := 1) (lo := 0) (hi := 6) hm (by decide +kernel)
  have w6 : sx_w sx_r32 (M 53 7) := cv_ly_ok (g := (53, 7, sx_r32)) hm (by decide +kernel)
  have bt := vq_bt_r (M 53 7) c
  have be : ∀ u1 u2 : Int, 0 ≤ c → c ≤ 5 → u1 = sx_mf 9 (M 53 7) c → u2 = sx_mf 3 u1 1 → u2 = vq_bt (M 53 7) c := fun u1 u2 k1 k2 k3 k4 => by
    obtain ⟨k, rfl⟩ := Int.eq_ofNat_of_zero_le k1
    rw [k4, k3]
    exact vq_b9 _ (by omega)
  have go : ∀ K, sx_mok cl_ly K → (∀ a, a < 128 → K a = M a) → nb_ok c b p (M 53 1) 8 → vq_bt (M 53 7) c = 1 → rz_fin (nb_R (nb_ok c b p (M 53 1) 8) (M 53 7) c M (nb_W M H nc t c b p)) L xs 205 21 47 [(0, .ref 53), (1, .int (Int32.ofInt c)), (2, .int (Int32.ofInt b)), (3, .int (Int32.ofInt p))] [.int (Int32.ofInt 29), .ref 53] K := fun K hK fK ok e1 => by
    obtain ⟨k1, k2, k3, k4, k5, k6⟩ := id ok
    obtain ⟨h, rfl⟩ := Int.eq_ofNat_of_zero_le k1
    obtain ⟨n, rfl⟩ := Int.eq_ofNat_of_zero_le k3
    obtain ⟨w1, r1⟩ := wr_same hw hR fK
    have o53 : K 53 = M 53 := fK 53 (by decide)
    obtain ⟨d8, d30⟩ := dn_r h29 (show n ≤ 8 by omega)
    refine qs_vc (k := 190) (b := 53) (d := 20) (d' := 20) (rest := []) rfl rfl rfl rfl rfl rfl rfl rfl (Nat.le_refl _) rfl (rz_d (by decide) (mt_goto (xs := xs) (H := H) (nc := nc) (t := t) (k := 30 - t) (e := 29) hL hK (by decide) w1 r1 (by rw [o53]; exact h4) (by rw [o53]; exact h5) (by rw [o53]; exact ht) (by omega))) (fun r9 N1 hr => ?_)
    obtain ⟨rfl, hN1, Y, hY, wY, rY, F1, P1, O1⟩ := hr
    have hY := my_tr fK hY
    have z13 : ∀ a, a = N1 → a 53 13 = (t : Int) := fun a e => by rw [e, F1.2 13 (by decide), hY.2.2.2.1 13 (by decide) (by decide)]; exact ht
    refine qs_w (nb_t (xs := xs) (n := n) (h := h) (p := p) hL hN1 (z13 N1 rfl) h29 (by omega) (by omega) ⟨k5, k6⟩) (fun r N q => ?_)
    obtain ⟨hN, eA, q⟩ := q
    have y1 := ms_y hY F1
    exact ⟨hN, Or.inr (Or.inr ⟨ok, e1, Y, N1, hY, F1, O1, ⟨fun a ha x1 x2 x3 x4 => (eA a ha).trans (y1.1 a ha x1 x2 x3 x4), fun j hj => by rw [eA 53 (by decide)]; exact y1.2 j hj⟩, q⟩)⟩
  refine qs_use (zs := [c, b, p, M 53 1, M 53 7]) nc1_c hL hm (qs_iw wc (qs_iw wb (qs_iw wp (qs_rd (show (0 : Int) ≤ 1 by decide) rfl hH (qs_rd (show (0 : Int) ≤ 7 by decide) rfl w6 (qs_fin rfl)))))) (Nat.le_refl _) rfl rfl (qs_c (fun u1 u2 K hK hc hM => ?_) (qs_c (fun u1 u2 K hK hc hM => ?_) (qs_c (fun u1 u2 K hK hc hM => ?_) (qs_c (fun u1 u2 K hK hc hM => ?_) (qs_c (fun u1 u2 K hK hc hM => ?_) (qs_c (fun u1 u2 K hK hc hM => ?_) (qs_c (fun u1 u2 K hK hc hM => ?_) (qs_c (fun u1 u2 K hK hc hM => ?_) qs_z))))))))
  · obtain ⟨c1, -⟩ := hc
    have c1 : -2147483648 ≤ c ∧ c ≤ -1 := c1
    have fK : ∀ a, a < 128 → K a = M a := hM
    exact ⟨hK, Or.inl ⟨fun q => by have := q.1; omega, rfl, fK⟩⟩
  · obtain ⟨c1, c2, -⟩ := hc
    have c1 : 0 ≤ c ∧ c ≤ 2147483647 := c1
    have c2 : M 53 1 < c + 1 := c2
    have fK : ∀ a, a < 128 → K a = M a := hM
    exact ⟨hK, Or.inl ⟨fun q => by have := q.2.1; omega, rfl, fK⟩⟩
  · obtain ⟨c1, c2, c3, c4, -⟩ := hc
    have c1 : 0 ≤ c ∧ c ≤ 5 := c1
    have c2 : -2147483648 ≤ b ∧ b ≤ -1 := c2
    have c3 : 1 ≤ M 53 1 ∧ M 53 1 ≤ 6 := c3
    have c4 : ¬ M 53 1 < c + 1 := c4
    have fK : ∀ a, a < 128 → K a = M a := hM
    exact ⟨hK, Or.inl ⟨fun q => by have := q.2.2.1; omega, rfl, fK⟩⟩
  · obtain ⟨c1, c2, c3, c4, c5, -⟩ := hc
    have c1 : 0 ≤ c ∧ c ≤ 5 := c1
    have c2 : 0 ≤ b ∧ b ≤ 8 := c2
    have c3 : -2147483648 ≤ p ∧ p ≤ -1 := c3
    have c4 : 1 ≤ M 53 1 ∧ M 53 1 ≤ 6 := c4
    have c5 : ¬ M 53 1 < c + 1 := c5
    have fK : ∀ a, a < 128 → K a = M a := hM
    exact ⟨hK, Or.inl ⟨fun q => by have := q.2.2.2.2.1; omega, rfl, fK⟩⟩
  · obtain ⟨c1, c2, c3, c4, c5, c6, c7, c8, -⟩ := hc
    have c1 : 0 ≤ c ∧ c ≤ 5 := c1
    have c2 : 0 ≤ b ∧ b ≤ 8 := c2
    have c3 : 0 ≤ p ∧ p ≤ 1 := c3
    have c4 : 1 ≤ M 53 1 ∧ M 53 1 ≤ 6 := c4
    have c5 : 1 ≤ u2 ∧ u2 ≤ 1 := c5
    have c6 : ¬ M 53 1 < c + 1 := c6
    have c7 : u1 = sx_mf 9 (M 53 7) c := c7
    have c8 : u2 = sx_mf 3 u1 1 := c8
    have fK : ∀ a, a < 128 → K a = M a := hM
    have e := be u1 u2 c1.1 c1.2 c7 c8
    exact go K hK fK ⟨c1.1, by omega, c2.1, c2.2, c3.1, c3.2⟩ (by omega)
  · obtain ⟨c1, c2, c3, c4, c5, c6, c7, c8, -⟩ := hc
    have c1 : 0 ≤ c ∧ c ≤ 5 := c1
    have c2 : 0 ≤ b ∧ b ≤ 8 := c2
    have c3 : 0 ≤ p ∧ p ≤ 1 := c3
    have c4 : 1 ≤ M 53 1 ∧ M 53 1 ≤ 6 := c4
    have c5 : u2 ≠ 1 := c5
    have c6 : ¬ M 53 1 < c + 1 := c6
    have c7 : u1 = sx_mf 9 (M 53 7) c := c7
    have c8 : u2 = sx_mf 3 u1 1 := c8
    have fK : ∀ a, a < 128 → K a = M a := hM
    have e := be u1 u2 c1.1 c1.2 c7 c8
    exact ⟨hK, Or.inr (Or.inl ⟨⟨c1.1, by omega, c2.1, c2.2, c3.1, c3.2⟩, by omega, rfl, fK⟩)⟩
  · obtain ⟨c1, c2, c3, c4, c5, -⟩ := hc
    have c1 : 0 ≤ c ∧ c ≤ 5 := c1
    have c2 : 0 ≤ b ∧ b ≤ 8 := c2
    have c3 : 2 ≤ p ∧ p ≤ 2147483647 := c3
    have c4 : 1 ≤ M 53 1 ∧ M 53 1 ≤ 6 := c4
    have c5 : ¬ M 53 1 < c + 1 := c5
    have fK : ∀ a, a < 128 → K a = M a := hM
    exact ⟨hK, Or.inl ⟨fun q => by have := q.2.2.2.2.2; omega, rfl, fK⟩⟩
  · obtain ⟨c1, c2, c3, c4, -⟩ := hc
    have c1 : 0 ≤ c ∧ c ≤ 5 := c1
    have c2 : 9 ≤ b ∧ b ≤ 2147483647 := c2
    have c3 : 1 ≤ M 53 1 ∧ M 53 1 ≤ 6 := c3
    have c4 : ¬ M 53 1 < c + 1 := c4
    have fK : ∀ a, a < 128 → K a = M a := hM
    exact ⟨hK, Or.inl ⟨fun q => by have := q.2.2.2.1; omega, rfl, fK⟩⟩

theorem nb_eq (hA : fs_A M nc H) (o1 : ∀ a, a < 128 → a ≠ 21 → a ≠ 24 → M1 a = M a) (hX : pb_Q M1 none X) (hf : ∀ a, a < 128 → 53 ≤ a → M' a = M a) (hY : my_Q M' H none Y) (hF : ms_F Y N) (hO : mt_on Y nc (30 - t) t N) (hh : h < 6) (hd : t + dn t n ≤ 30) : nb_b N t n h = nb_a X nc t n h := by
  have hA1 : fs_A M1 nc H := by
    unfold fs_A
    rw [o1 9 (by decide) (by decide) (by decide), o1 53 (by decide) (by decide) (by decide), o1 60 (by decide) (by decide) (by decide), o1 59 (by decide) (by decide) (by decide), o1 10 (by decide) (by decide) (by decide), o1 11 (by decide) (by decide) (by decide), o1 56 (by decide) (by decide) (by decide), o1 57 (by decide) (by decide) (by decide), o1 55 (by decide) (by decide) (by decide), o1 12 (by decide) (by decide) (by decide), o1 74 (by decide) (by decide) (by decide), o1 61 (by decide) (by decide) (by decide)]
    exact hA
  have hf1 : ∀ a, a < 128 → 53 ≤ a → M' a = M1 a := fun a ha h => (hf a ha h).trans (o1 a ha (by omega) (by omega)).symm
  obtain ⟨-, b1, b2, b3, -⟩ := id hA
  have n55 : N 55 h = X 10 (30 + h) := by
    rw [hF.1 55 (by decide) (by decide) (by decide) (by decide) (by decide), hY.2.2.1 55 (by decide) (by decide) (by decide), hf 55 (by decide) (by decide), (b2 h hh).2.2.1, hX.2.2.1 10 (by decide) (by decide) (by decide), o1 10 (by decide) (by decide) (by decide), Nat.add_comm]
  unfold nb_a nb_b
  rw [pr_eq (f := fun i => bk (fun h => X 10 (30 + h)) (fun d => X 10 (150 + d)) (fa_h X nc t) h (t + i)) (f' := fun i => bk (N 55) (N 61) (N 77) h (t + i)) (dn t n) (fun i hi => ?_)]
  have n61 : N 61 (t + i) = X 10 (150 + (t + i)) := by
    rw [hF.1 61 (by decide) (by decide) (by decide) (by decide) (by decide), hY.2.2.1 61 (by decide) (by decide) (by decide), hf 61 (by decide) (by decide), b3 (t + i) (by omega), hX.2.2.1 10 (by decide) (by decide) (by decide), o1 10 (by decide) (by decide) (by decide), Nat.add_comm (t + i) 150]
  have n77 : N 77 (t + i) = fa_h X nc t (t + i) := by
    have E := (fs_T hA1 hX hf1 hY i t (by omega)).2 (by omega)
    rw [(hO i (by omega)).2, E.1]
    unfold fa_h
    rw [Nat.add_sub_cancel_left]
    exact E.2
  show bk (N 55) (N 61) (N 77) h (t + i) = bk (fun h => X 10 (30 + h)) (fun d => X 10 (150 + d)) (fa_h X nc t) h (t + i)
  unfold bk
  rw [n55, n61, n77]
/-- burns of both sides -/
theorem fs_nb (hL : L < 2 ^ 31) (hI : la_I WF bs_cps M) (hS : fs_SS M) (wc : sx_w sx_r32 c) (wb : sx_w sx_r32 b) (wp : sx_w sx_r32 p) : fs_P WF L xs 1 72 205 [.ref 8, .int (Int32.ofInt c), .int (Int32.ofInt b), .int (Int32.ofInt p)] [.ref 53, .int (Int32.ofInt c), .int (Int32.ofInt b), .int (Int32.ofInt p)] (-9223372036854775808, 9223372036854775807) M := by
  obtain ⟨nc, H, hA⟩ := fs_toA hI hS
  obtain ⟨e1, -, -, e4, -, -, -⟩ := bs_eq hI
  have h29 : 0 ≤ M 10 210 ∧ M 10 210 ≤ 29 := hI.2.2.2.1
  have hm := hI.1
  have hw := hI.2.2.1
  have hR : vu_R M := hS.2.2.2.2.2.2.2.2
  obtain ⟨⟨a1, a2, a3, a4, a5⟩, b1, b2, b3, b4, -⟩ := id hA
  obtain ⟨t, et⟩ := Int.eq_ofNat_of_zero_le h29.1
  have eH : M 9 4 = (H : Int) := e1.trans a4
  obtain ⟨F1, v1, M1, f1, m1, h1⟩ := rz_d (show 21 ≤ 99 by decide) (nb_x (xs := xs) (nc := nc) (H := H) (t := t) hL hm hw hR a1 a3 eH a5 et (by omega) wc wb wp)
  have x1 : fs_x M M1 := by
    rcases h1 with ⟨-, -, fN⟩ | ⟨-, -, -, fN⟩ | ⟨-, -, -, -, -, -, -, -, -, -, fN⟩
    · exact fun a ha _ => fN a ha
    · exact fun a ha _ => fN a ha
    · exact fN
  obtain ⟨w1, r1⟩ := fs_same hw hR x1
  have o53 : M1 53 = M 53 := x1 53 (by decide) (by decide)
  have hf : ∀ a, a < 128 → 53 ≤ a → M1 a = M a := fun a ha g => x1 a ha (by omega)
  obtain ⟨F2, v2, M2, f2, m2, h2⟩ := rz_d (show 21 ≤ 99 by decide) (nb_y (xs := xs) (nc := nc) (H := H) (t := t) hL m1 w1 r1 (by rw [o53]; exact a2) (by rw [o53]; exact a4) a5 (by rw [o53, ← e4]; exact et) (by omega) wc wb wp)
  rw [o53, ← e1, ← b4] at h2
  have same : (∀ a, a < 128 → M2 a = M1 a) → fs_F M M2 := fun g => fs_xy x1 ⟨fun a ha _ _ _ _ => g a ha, fun j _ => by rw [g 53 (by decide)]⟩
  rcases h1 with ⟨n1, rv, -⟩ | ⟨k1, k2, rv, -⟩ | ⟨k1, k2, X1, X, g, o1, hX, eg, g0, rv, -⟩
  · rcases h2 with ⟨-, rv2, fN2⟩ | ⟨k, -⟩ | ⟨k, -⟩
    · subst rv rv2
      obtain ⟨g1, g2⟩ := fs_q WF_zs hI hS m2 (same fN2)
      exact ⟨_, M1, M2, ⟨by decide, by decide⟩, Or.inr ⟨rfl, by decide, by decide⟩, ⟨F1, f1⟩, m1, ⟨F2, f2⟩, m2, g1, g2⟩
    · exact absurd k n1
    · exact absurd k n1
  · rcases h2 with ⟨k, -⟩ | ⟨-, -, rv2, fN2⟩ | ⟨-, k, -⟩
    · exact absurd k1 k
    · subst rv rv2
      obtain ⟨g1, g2⟩ := fs_q WF_zs hI hS m2 (same fN2)
      exact ⟨_, M1, M2, ⟨by decide, by decide⟩, Or.inr ⟨rfl, by decide, by decide⟩, ⟨F1, f1⟩, m1, ⟨F2, f2⟩, m2, g1, g2⟩
    · omega
  · rcases h2 with ⟨k, -⟩ | ⟨-, k, -⟩ | ⟨-, -, Y, N1, hY, FY, OY, yN, rv2⟩
    · exact absurd k1 k
    · omega
    · obtain ⟨q1, q2, q3, q4, q5, q6⟩ := id k1
      have dd := dn_r (show t ≤ 29 by omega) (show b.toNat ≤ 8 by omega)
      have ee := nb_eq (n := b.toNat) (h := c.toNat) hA o1 hX hf hY FY OY (by omega) dd.2
      rw [ee] at rv2
      have rv2 := rv2 g eg g0
      subst rv rv2
      obtain ⟨g1, g2⟩ := fs_q WF_zs hI hS m2 (fs_xy x1 yN)
      have wv : sx_w sx_r64 (eu_v p (nb_a X nc t b.toNat c.toNat) (xii (dn t b.toNat)) g) := by
        unfold eu_v
        split
        · exact mf_w64 38 ⟨by decide, by decide⟩ _ _
        · exact mf_w64 38 ⟨by decide, by decide⟩ _ _
      exact ⟨_, M1, M2, wv, Or.inr ⟨rfl, wv⟩, ⟨F1, f1⟩, m1, ⟨F2, f2⟩, m2, g1, g2⟩
end
