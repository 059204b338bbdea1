/-! Seasons: the reference. -/
section
variable {L : Nat} {xs : Nat → Int32} {M M' N N' B X : Nat → Nat → Int} {t nc H : Nat} {ZZ : Nat → Int → Int} {Q : Option Value → (Nat → Nat → Int) → Prop}
def dz5_i : List qs_I := [(0, 0, (0, 0), sx_r32), (0, 0, (0, 0), (1, 30)), (0, 0, (0, 0), (-1, 5)), (0, 0, (0, 0), sx_r32), (0, 0, (0, 0), (0, 5400)), (0, 0, (0, 0), (0, 5400)), (0, 0, (0, 0), (0, 30)), (0, 0, (0, 0), (0, 29))]
def dz5_T : List og_T := [(some 64, none, [(0, 16, 0), (2, 0, 53)], [(0, 2, 0, 53), (1, 0, 9, 0), (2, 0, 10, 0), (3, 0, 11, 0), (4, 0, 12, 0), (5, 0, 13, 0), (6, 0, 14, 0), (7, 0, 15, 0), (8, 0, 16, 0)], [], [])]
theorem dz5_c : qs_chk (fun pc => bif Nat.beq pc 38 then true else Nat.beq pc 64) dz5_i 0 dz5_T 400 400 22 239 54 [(0, 2, 0, 53), (1, 0, 9, 0), (2, 0, 10, 0), (3, 0, 11, 0), (4, 0, 12, 0), (5, 0, 13, 0), (6, 0, 14, 0), (7, 0, 15, 0), (8, 0, 16, 0)] [] = true := by decide +kernel
def dz6_i : List qs_I := [(0, 0, (0, 0), sx_r32), (0, 0, (0, 0), (1, 30)), (0, 0, (0, 0), (-1, 5)), (0, 0, (0, 0), sx_r32), (0, 0, (0, 0), (0, 5400)), (0, 0, (0, 0), (0, 5400)), (0, 0, (0, 0), (0, 30))]
def dz6_T : List og_T := [(some 38, none, [], [(0, 2, 0, 53), (1, 0, 9, 0), (2, 0, 10, 0), (3, 0, 11, 0), (4, 0, 12, 0), (5, 0, 13, 0), (6, 0, 14, 0), (7, 0, 15, 1)], [], [])]
theorem dz6_c : qs_chk (fun pc => bif Nat.beq pc 38 then true else Nat.beq pc 64) dz6_i 0 dz6_T 400 400 22 239 54 [(0, 2, 0, 53), (1, 0, 9, 0), (2, 0, 10, 0), (3, 0, 11, 0), (4, 0, 12, 0), (5, 0, 13, 0), (6, 0, 14, 0), (7, 0, 15, 0), (8, 0, 0, 30)] [] = true := by decide +kernel
def dz7_i : List qs_I := [(0, 0, (0, 0), sx_r32), (0, 0, (0, 0), (1, 30)), (0, 0, (0, 0), (-1, 5)), (0, 0, (0, 0), sx_r32), (0, 0, (0, 0), (0, 5400)), (0, 0, (0, 0), (0, 5400)), (0, 0, (0, 0), (0, 30)), (0, 0, (0, 0), (0, 29)), (0, 0, (0, 0), (-1, 5)), (1, 53, (0, 35), sx_r32)]
def dz7_T : List og_T := [(some 78, none, [], [(0, 2, 0, 53), (1, 0, 9, 0), (2, 0, 10, 0), (3, 0, 11, 0), (4, 0, 12, 0), (5, 0, 13, 0), (6, 0, 14, 0), (7, 0, 15, 0), (8, 0, 16, 0), (9, 0, 17, 0), (10, 0, 18, 0), (11, 0, 0, 0)], [], [])]
theorem dz7_c : qs_chk (fun pc => Nat.beq pc 78) dz7_i 0 dz7_T 400 400 22 239 67 [(0, 2, 0, 53), (1, 0, 9, 0), (2, 0, 10, 0), (3, 0, 11, 0), (4, 0, 12, 0), (5, 0, 13, 0), (6, 0, 14, 0), (7, 0, 15, 0), (8, 0, 16, 0)] [(0, 17, 0)] = true := by decide +kernel
def dz8_i : List qs_I := [(0, 0, (0, 0), sx_r32), (0, 0, (0, 0), (1, 30)), (0, 0, (0, 0), (-1, 5)), (0, 0, (0, 0), sx_r32), (0, 0, (0, 0), (0, 5400)), (0, 0, (0, 0), (0, 5400)), (0, 0, (0, 0), (0, 30)), (0, 0, (0, 0), (0, 29)), (0, 0, (0, 0), (-1, 5)), (0, 0, (0, 0), (0, 63)), (0, 0, (0, 0), (0, 5)), (1, 53, (0, 1), (0, 6)), (2, 20, (19, 0), (0, 0)), (1, 55, (19, 0), (-1, 143)), (1, 61, (16, 0), (-1, 143)), (1, 53, (0, 35), sx_r32)]
def dz8_T : List og_T := [(some 78, none, [], [(0, 2, 0, 53), (1, 0, 9, 0), (2, 0, 10, 0), (3, 0, 11, 0), (4, 0, 27, 0), (5, 0, 13, 0), (6, 0, 14, 0), (7, 0, 15, 0), (8, 0, 16, 0), (9, 0, 17, 0), (10, 0, 18, 0), (11, 0, 19, 1)], [], [(0, (17, 0), (0, 0), 0, 5), (0, (25, 0), (0, 0), 1, 1), (0, (29, 0), (0, 0), -2147483648, 2147483646), (0, (31, 0), (0, 0), -2147483647, 2147483647), (1, (29, 0), (31, 0), 0, 0), (3, (19, 0), (17, 0), 0, 0), (5, (18, 0), (19, 0), 9, 24), (5, (24, 0), (0, 1), 3, 25), (5, (12, 0), (0, 1103515245), 2, 26), (5, (26, 0), (0, 12345), 0, 27), (5, (27, 0), (0, 8), 10, 28), (5, (28, 0), (0, 12), 7, 29), (5, (21, 0), (22, 0), 2, 30), (5, (30, 0), (0, 9), 6, 31)]), (some 78, none, [], [(0, 2, 0, 53), (1, 0, 9, 0), (2, 0, 10, 0), (3, 0, 11, 0), (4, 0, 27, 0), (5, 0, 13, 1), (6, 0, 14, 1), (7, 0, 15, 0), (8, 0, 16, 0), (9, 0, 17, 0), (10, 0, 18, 0), (11, 0, 19, 1)], [(53, (0, 35), (34, 0))], [(0, (11, 0), (0, 0), 0, 5), (0, (25, 0), (0, 0), 1, 1), (0, (29, 0), (0, 0), -2147483648, 2147483646), (0, (31, 0), (0, 0), -2147483647, 2147483647), (1, (29, 0), (31, 0), 0, 0), (4, (19, 0), (17, 0), 0, 0), (3, (19, 0), (11, 0), 0, 0), (5, (18, 0), (19, 0), 9, 24), (5, (24, 0), (0, 1), 3, 25), (5, (12, 0), (0, 1103515245), 2, 26), (5, (26, 0), (0, 12345), 0, 27), (5, (27, 0), (0, 8), 10, 28), (5, (28, 0), (0, 12), 7, 29), (5, (21, 0), (22, 0), 2, 30), (5, (30, 0), (0, 9), 6, 31), (5, (0, 1), (19, 0), 8, 32), (5, (32, 0), (0, -1), 5, 33), (5, (23, 0), (33, 0), 3, 34)]), (some 78, none, [], [(0, 2, 0, 53), (1, 0, 9, 0), (2, 0, 10, 0), (3, 0, 11, 0), (4, 0, 27, 0), (5, 0, 13, 1), (6, 0, 14, 0), (7, 0, 15, 0), (8, 0, 16, 0), (9, 0, 17, 0), (10, 0, 18, 0), (11, 0, 19, 1)], [(53, (0, 35), (34, 0))], [(0, (25, 0), (0, 0), 1, 1), (0, (29, 0), (0, 0), -2147483648, 2147483646), (0, (31, 0), (0, 0), -2147483647, 2147483647), (1, (29, 0), (31, 0), 0, 0), (4, (19, 0), (17, 0), 0, 0), (4, (19, 0), (11, 0), 0, 0), (5, (18, 0), (19, 0), 9, 24), (5, (24, 0), (0, 1), 3, 25), (5, (12, 0), (0, 1103515245), 2, 26), (5, (26, 0), (0, 12345), 0, 27), (5, (27, 0), (0, 8), 10, 28), (5, (28, 0), (0, 12), 7, 29), (5, (21, 0), (22, 0), 2, 30), (5, (30, 0), (0, 9), 6, 31), (5, (0, 1), (19, 0), 8, 32), (5, (32, 0), (0, -1), 5, 33), (5, (23, 0), (33, 0), 3, 34)]), (some 78, none, [], [(0, 2, 0, 53), (1, 0, 9, 0), (2, 0, 10, 0), (3, 0, 11, 0), (4, 0, 27, 0), (5, 0, 13, 0), (6, 0, 14, 0), (7, 0, 15, 0), (8, 0, 16, 0), (9, 0, 17, 0), (10, 0, 18, 0), (11, 0, 19, 1)], [], [(0, (25, 0), (0, 0), 1, 1), (2, (29, 0), (31, 0), 0, 0), (5, (18, 0), (19, 0), 9, 24), (5, (24, 0), (0, 1), 3, 25), (5, (12, 0), (0, 1103515245), 2, 26), (5, (26, 0), (0, 12345), 0, 27), (5, (27, 0), (0, 8), 10, 28), (5, (28, 0), (0, 12), 7, 29), (5, (21, 0), (22, 0), 2, 30), (5, (30, 0), (0, 9), 6, 31)]), (some 78, none, [], [(0, 2, 0, 53), (1, 0, 9, 0), (2, 0, 10, 0), (3, 0, 11, 0), (4, 0, 12, 0), (5, 0, 13, 0), (6, 0, 14, 0), (7, 0, 15, 0), (8, 0, 16, 0), (9, 0, 17, 0), (10, 0, 18, 0), (11, 0, 19, 1)], [], [(7, (25, 0), (0, 0), 1, 0), (5, (18, 0), (19, 0), 9, 24), (5, (24, 0), (0, 1), 3, 25)])]
theorem dz8_c : qs_chk (fun pc => Nat.beq pc 78) dz8_i 11 dz8_T 400 400 22 239 78 [(0, 2, 0, 53), (1, 0, 9, 0), (2, 0, 10, 0), (3, 0, 11, 0), (4, 0, 12, 0), (5, 0, 13, 0), (6, 0, 14, 0), (7, 0, 15, 0), (8, 0, 16, 0), (9, 0, 17, 0), (10, 0, 18, 0), (11, 0, 19, 0)] [] = true := by decide +kernel
def dz9_i : List qs_I := [(0, 0, (0, 0), sx_r32), (0, 0, (0, 0), (1, 30)), (0, 0, (0, 0), (-1, 5)), (0, 0, (0, 0), sx_r32), (0, 0, (0, 0), (0, 5400)), (0, 0, (0, 0), (0, 5400)), (0, 0, (0, 0), (0, 30)), (0, 0, (0, 0), (0, 29)), (0, 0, (0, 0), (-1, 5)), (0, 0, (0, 0), (0, 63)), (0, 0, (0, 0), (0, 6)), (1, 53, (0, 1), (0, 6)), (3, 20, (19, 0), (0, 0))]
def dz9_T : List og_T := [(some 54, none, [], [(0, 2, 0, 53), (1, 0, 9, 0), (2, 0, 10, 0), (3, 0, 11, 0), (4, 0, 12, 0), (5, 0, 13, 0), (6, 0, 14, 0), (7, 0, 15, 0), (8, 0, 16, 1)], [], [])]
theorem dz9_c : qs_chk (fun pc => Nat.beq pc 54) dz9_i 0 dz9_T 400 400 22 239 78 [(0, 2, 0, 53), (1, 0, 9, 0), (2, 0, 10, 0), (3, 0, 11, 0), (4, 0, 12, 0), (5, 0, 13, 0), (6, 0, 14, 0), (7, 0, 15, 0), (8, 0, 16, 0), (9, 0, 17, 0), (10, 0, 18, 0), (11, 0, 19, 0)] [] = true := by decide +kernel
/-- one house's -/
def dho (y : Int) (x : Nat) : Nat := if y < 0 then 0 else x / 2 ^ y.toNat % 2
theorem dho_le {y : Int} {x : Nat} : dho y x ≤ 1 := by
  unfold dho
  split
  · exact Nat.zero_le 1
  · have := Nat.mod_lt (x / 2 ^ y.toNat) (show 0 < 2 by decide)
    omega
theorem dho_s {y : Int} {x e : Nat} (h : x < 2 ^ e) : dho y (x + 2 ^ e) = if (e : Int) = y then dho y x + 1 else dho y x := by
  unfold dho
  by_cases q : y < 0
  · rw [if_pos q, if_pos q, if_neg (by omega)]
  · rw [if_neg q, if_neg q]
    obtain ⟨k, rfl⟩ := Int.eq_ofNat_of_zero_le (show 0 ≤ y by omega)
    rw [Int.toNat_natCast]
    by_cases x1 : (e : Int) = (k : Int)
    · have x2 : e = k := by omega
      subst x2
      rw [if_pos rfl, ft_at h, ft_hi h (Nat.le_refl e)]
    · rw [if_neg x1]
      by_cases w : k < e
      · exact ft_lo w
      · rw [ft_hi h (by omega), ft_hi (show x + 2 ^ e < 2 ^ (e + 1) by rw [pw_s]; omega) (by omega)]
/-- days of a season change this alone -/
def sy_F (B N : Nat → Nat → Int) : Prop := (∀ a, a < 128 → a ≠ 53 → a ≠ 72 → a ≠ 73 → ¬ (75 ≤ a ∧ a ≤ 77) → N a = B a) ∧ ∀ j, j ≠ 35 → j ≠ 36 → N 53 j = B 53 j
theorem sy_y (h : sy_F B N) : fs_y B N := ⟨fun a ha x1 x2 x3 x4 => h.1 a ha x1 x2 x3 (by omega), fun j hj => by
  unfold fs_m at hj
  exact h.2 j (by omega) (by omega)⟩
theorem sy_on (h : sy_F B N) : N 60 = B 60 ∧ N 59 = B 59 ∧ ∀ d g b, ms_lk N d g b = ms_lk B d g b := by
  have z : ∀ a, a < 128 → a ≠ 53 → a ≠ 72 → a ≠ 73 → ¬ (75 ≤ a ∧ a ≤ 77) → N a = B a := h.1
  refine ⟨z 60 (by decide) (by decide) (by decide) (by decide) (by decide), z 59 (by decide) (by decide) (by decide) (by decide) (by decide), fun d g b => ?_⟩
  unfold ms_lk vq_Y
  rw [z 55 (by decide) (by decide) (by decide) (by decide) (by decide), z 56 (by decide) (by decide) (by decide) (by decide) (by decide), z 57 (by decide) (by decide) (by decide) (by decide) (by decide), z 61 (by decide) (by decide) (by decide) (by decide) (by decide)]
  exact vq_like_M (h.2 33 (by decide) (by decide)) (by rw [z 69 (by decide) (by decide) (by decide) (by decide) (by decide)]) (z 67 (by decide) (by decide) (by decide) (by decide) (by decide)) (z 68 (by decide) (by decide) (by decide) (by decide) (by decide)) (z 70 (by decide) (by decide) (by decide) (by decide) (by decide)) (z 71 (by decide) (by decide) (by decide) (by decide) (by decide))
/-- house by house -/
theorem dz_in {n d i a0 o0 : Nat} {s w y V z0 : Int} (hL : L < 2 ^ 31) (hm0 : sx_mok cl_ly B) (h4 : B 53 1 = (H : Int)) (h6 : H ≤ 6) (hn : n < 64) (hd : d ≤ 29) (ws : sx_w sx_r32 s) (hw1 : 1 ≤ w ∧ w ≤ 30) (hy : -1 ≤ y ∧ y ≤ 5) (hi : i ≤ 30) (hV : -1 ≤ V ∧ V ≤ 5) (ha0 : a0 ≤ 5300) (ho0 : o0 ≤ 5300) (N1 : Nat → Nat → Int) (hF1 : sy_F B N1) (K : ∀ (N : Nat → Nat → Int), sx_mok cl_ly N → (∀ q, q < 128 → q ≠ 53 → N q = N1 q) → (∀ j, j ≠ 35 → N 53 j = N1 53 j) → N 53 35 = ((n - (dfb n (fun h => sx_mf 6 (sx_mf 2 (B 55 h) (B 61 d)) 9) V H 0 (0, z0)).1 : Nat) : Int) → sx_w sx_r32 (dfb n (fun h => sx_mf 6 (sx_mf 2 (B 55 h) (B 61 d)) 9) V H 0 (0, z0)).2 → rz_fin Q L xs 239 22 54 [(0, .ref 53), (1, .int (Int32.ofInt s)), (2, .int (Int32.ofInt w)), (3, .int (Int32.ofInt y)), (4, .int (Int32.ofInt (dfb n (fun h => sx_mf 6 (sx_mf 2 (B 55 h) (B 61 d)) 9) V H 0 (0, z0)).2)), (5, .int (Int32.ofInt ((a0 + pcn (dfb n (fun h => sx_mf 6 (sx_mf 2 (B 55 h) (B 61 d)) 9) V H 0 (0, z0)).1 10 : Nat) : Int))), (6, .int (Int32.ofInt ((o0 + dho y (dfb n (fun h => sx_mf 6 (sx_mf 2 (B 55 h) (B 61 d)) 9) V H 0 (0, z0)).1 : Nat) : Int))), (7, .int (Int32.ofInt (i : Int))), (8, .int (Int32.ofInt ((d : Int) + 1)))] [] N) : ∀ (m e : Nat) (σ : Nat × Int) (M' : Nat → Nat → Int), e + m = H → σ.1 < 2 ^ e → sbs σ.1 n → sx_w sx_r32 σ.2 → dfb n (fun h => sx_mf 6 (sx_mf 2 (B 55 h) (B 61 d)) 9) V m e σ = dfb n (fun h => sx_mf 6 (sx_mf 2 (B 55 h) (B 61 d)) 9) V H 0 (0, z0) → sx_mok cl_ly M' → (∀ q, q < 128 → q ≠ 53 → M' q = N1 q) → (∀ j, j ≠ 35 → M' 53 j = N1 53 j) → M' 53 35 = ((n - σ.1 : Nat) : Int) → rz_fin Q L xs 239 22 78 [(0, .ref 53), (1, .int (Int32.ofInt s)), (2, .int (Int32.ofInt w)), (3, .int (Int32.ofInt y)), (4, .int (Int32.ofInt σ.2)), (5, .int (Int32.ofInt ((a0 + pcn σ.1 10 : Nat) : Int))), (6, .int (Int32.ofInt ((o0 + dho y σ.1 : Nat) : Int))), (7, .int (Int32.ofInt (i : Int))), (8, .int (Int32.ofInt (d : Int))), (9, .int (Int32.ofInt V)), (10, .int (Int32.ofInt (n : Int))), (11, .int (Int32.ofInt (e : Int)))] [] M' := by
  intro m
  induction m with
  | zero =>
    intro e σ M' he hb hs wz hD hm f1 f2 f35
    have ee : e = H := by omega
    subst ee
    have hD : σ = dfb n (fun h => sx_mf 6 (sx_mf 2 (B 55 h) (B 61 d)) 9) V e 0 (0, z0) := hD
    rw [← hD] at K
    have b1 := pcn_le (x := σ.1) 10
    have b2 := dho_le (y := y) (x := σ.1)
    have rn : 0 ≤ (n : Int) ∧ (n : Int) ≤ 63 := by omega
    refine qs_use (zs := [s, w, y, σ.2, ((a0 + pcn σ.1 10 : Nat) : Int), ((o0 + dho y σ.1 : Nat) : Int), (i : Int), (d : Int), V, (n : Int), (e : Int), (e : Int)]) dz9_c hL hm (qs_iw ws (qs_in hw1 (qs_in hy (qs_iw wz (qs_in (show 0 ≤ ((a0 + pcn σ.1 10 : Nat) : Int) ∧ ((a0 + pcn σ.1 10 : Nat) : Int) ≤ 5400 by omega) (qs_in (show 0 ≤ ((o0 + dho y σ.1 : Nat) : Int) ∧ ((o0 + dho y σ.1 : Nat) : Int) ≤ 5400 by omega) (qs_in (show 0 ≤ (i : Int) ∧ (i : Int) ≤ 30 by omega) (qs_in (show 0 ≤ (d : Int) ∧ (d : Int) ≤ 29 by omega) (qs_in hV (qs_in rn (qs_in (show 0 ≤ (e : Int) ∧ (e : Int) ≤ 6 by omega) (qs_rd (show (0 : Int) ≤ 1 by decide) (show M' 53 1 = _ by rw [f2 1 (by decide), hF1.2 1 (by decide) (by decide)]; exact h4) (show 0 ≤ (e : Int) ∧ (e : Int) ≤ 6 by omega) (qs_ge (show ¬ (e : Int) < (e : Int) by omega) (qs_fin rfl)))))))))))))) (Nat.le_refl _) rfl rfl (qs_c (fun X hX hc hM => ?_) qs_z)
    have fX : ∀ q, q < 128 → X q = M' q := hM
    exact K X hX (fun q hq x => (fX q hq).trans (f1 q hq x)) (fun j x => by rw [fX 53 (by decide)]; exact f2 j x) (by rw [fX 53 (by decide)]; exact f35) wz
  | succ m ih =>
    intro e σ M' he hb hs wz hD hm f1 f2 f35
    have es := pw_s e
    have p6 : 2 ^ e ≤ 2 ^ 5 := Nat.pow_le_pow_right (by decide) (by omega)
    have b1 := pcn_le (x := σ.1) 10
    have b2 := dho_le (y := y) (x := σ.1)
    have rn : 0 ≤ (n : Int) ∧ (n : Int) ≤ 63 := by omega
    have wc : sx_w sx_r32 ((n - σ.1 : Nat) : Int) := og_w32 (by omega) (by omega)
    have z55 : M' 55 = B 55 := by rw [f1 55 (by decide) (by decide), hF1.1 55 (by decide) (by decide) (by decide) (by decide) (by decide)]
    have z61 : M' 61 = B 61 := by rw [f1 61 (by decide) (by decide), hF1.1 61 (by decide) (by decide) (by decide) (by decide) (by decide)]
    have wR : -1 ≤ B 55 e ∧ B 55 e ≤ 143 := hm0 55 _ e _ rfl (by show e < 6; omega) rfl
    have wD : -1 ≤ B 61 d ∧ B 61 d ≤ 143 := hm0 61 _ d _ rfl (by show d < 30; omega) rfl
    have wl : sx_w sx_r32 (lcg σ.2) := mf_w32 0 (by decide) _ _
    have bit := ft_B_ok (n := n) (g := e) (by omega) (by omega)
    have b9 := vq_b9 (n : Int) (show e < 32 by omega)
    have mod2 := Nat.mod_lt (n / 2 ^ e) (show 0 < 2 by decide)
    obtain ⟨t1, t2, t3⟩ := sb_ok hn (show σ.1 < 64 by omega) hs
    -- the fold's step
    have st : n / 2 ^ e % 2 = 1 → dfb n (fun h => sx_mf 6 (sx_mf 2 (B 55 h) (B 61 d)) 9) V (m + 1) e σ = dfb n (fun h => sx_mf 6 (sx_mf 2 (B 55 h) (B 61 d)) 9) V m (e + 1) (if drw (lcg σ.2) < sx_mf 6 (sx_mf 2 (B 55 e) (B 61 d)) 9 ∧ ¬ (e : Int) = V then σ.1 + 2 ^ e else σ.1, lcg σ.2) := fun q => if_pos q
    have sz : ¬ n / 2 ^ e % 2 = 1 → dfb n (fun h => sx_mf 6 (sx_mf 2 (B 55 h) (B 61 d)) 9) V (m + 1) e σ = dfb n (fun h => sx_mf 6 (sx_mf 2 (B 55 h) (B 61 d)) 9) V m (e + 1) σ := fun q => if_neg q
    -- one that burns
    have burn : n / 2 ^ e % 2 = 1 → (sbs (σ.1 + 2 ^ e) n ∧ sx_mf 3 ((n - σ.1 : Nat) : Int) (sx_mf 5 (sx_mf 8 1 (e : Int)) (-1)) = ((n - (σ.1 + 2 ^ e) : Nat) : Int)) := fun q => by
      have s2 : sbs (σ.1 + 2 ^ e) n := fun g => by
        by_cases x : g < e
        · rw [ft_lo x]
          exact hs g
        · by_cases x2 : g = e
          · rw [x2, ft_at hb, q]
            exact Nat.le_refl 1
          · rw [ft_hi (show σ.1 + 2 ^ e < 2 ^ (e + 1) by omega) (by omega)]
            exact Nat.zero_le _
      refine ⟨s2, ?_⟩
      rw [sb_r (show n - σ.1 < 64 by omega) (show e < 6 by omega)]
      have q3 := t3 e
      rw [ft_hi hb (Nat.le_refl e), q] at q3
      rw [show (n - σ.1) / 2 ^ e % 2 = 1 by omega, Nat.one_mul, Nat.sub_sub]
    refine qs_use (zs := [s, w, y, σ.2, ((a0 + pcn σ.1 10 : Nat) : Int), ((o0 + dho y σ.1 : Nat) : Int), (i : Int), (d : Int), V, (n : Int), (e : Int), (H : Int), B 55 e, B 61 d, ((n - σ.1 : Nat) : Int)]) dz8_c hL hm (qs_iw ws (qs_in hw1 (qs_in hy (qs_iw wz (qs_in (show 0 ≤ ((a0 + pcn σ.1 10 : Nat) : Int) ∧ ((a0 + pcn σ.1 10 : Nat) : Int) ≤ 5400 by omega) (qs_in (show 0 ≤ ((o0 + dho y σ.1 : Nat) : Int) ∧ ((o0 + dho y σ.1 : Nat) : Int) ≤ 5400 by omega) (qs_in (show 0 ≤ (i : Int) ∧ (i : Int) ≤ 30 by omega) (qs_in (show 0 ≤ (d : Int) ∧ (d : Int) ≤ 29 by omega) (qs_in hV (qs_in rn (qs_in (show 0 ≤ (e : Int) ∧ (e : Int) ≤ 5 by omega) (qs_rd (show (0 : Int) ≤ 1 by decide) (show M' 53 1 = _ by rw [f2 1 (by decide), hF1.2 1 (by decide) (by decide)]; exact h4) (show 0 ≤ (H : Int) ∧ (H : Int) ≤ 6 by omega) (qs_lt (show (e : Int) < (H : Int) by omega) (qs_rd (show 0 ≤ (e : Int) by omega) (show M' 55 e = B 55 e by rw [z55]) wR (qs_rd (show 0 ≤ (d : Int) by omega) (show M' 61 d = B 61 d by rw [z61]) wD (qs_rd (show (0 : Int) ≤ 35 by decide) f35 wc (qs_fin rfl))))))))))))))))) (Nat.le_refl _) rfl rfl (qs_c (fun u1 u2 u3 u4 u5 u6 u7 u8 u9 u10 u11 X hX hc hM => ?_) (qs_c (fun u1 u2 u3 u4 u5 u6 u7 u8 u9 u10 u11 X hX hc hM => ?_) (qs_c (fun u1 u2 u3 u4 u5 u6 u7 u8 u9 u10 u11 X hX hc hM => ?_) (qs_c (fun u1 u2 u3 u4 u5 u6 u7 u8 u9 u10 u11 X hX hc hM => ?_) (qs_c (fun u1 u2 u3 u4 u5 u6 u7 u8 u9 u10 u11 X hX hc hM => ?_) qs_z)))))
    · obtain ⟨c1, c2, c3, c4, c5, c6, c7, c8, c9, c10, c11, c12, c13, c14, -⟩ := hc
      have c1 : 0 ≤ V ∧ V ≤ 5 := c1
      have c2 : 1 ≤ u2 ∧ u2 ≤ 1 := c2
      have c3 : -2147483648 ≤ u6 ∧ u6 ≤ 2147483646 := c3
      have c4 : -2147483647 ≤ u8 ∧ u8 ≤ 2147483647 := c4
      have c5 : u6 < u8 := c5
      have c6 : (e : Int) = V := c6
      have c7 : u1 = sx_mf 9 (n : Int) (e : Int) := c7
      have c8 : u2 = sx_mf 3 u1 1 := c8
      have c9 : u3 = sx_mf 2 σ.2 1103515245 := c9
      have c10 : u4 = sx_mf 0 u3 12345 := c10
      have c11 : u5 = sx_mf 10 u4 8 := c11
      have c12 : u6 = sx_mf 7 u5 12 := c12
      have c13 : u7 = sx_mf 2 (B 55 e) (B 61 d) := c13
      have c14 : u8 = sx_mf 6 u7 9 := c14
      have fX : ∀ a, a < 128 → X a = M' a := hM
      have e2 : u2 = ((n / 2 ^ e % 2 : Nat) : Int) := by rw [← bit, c8, c7]; exact b9
      have l1 : u4 = lcg σ.2 := by rw [c10, c9]; rfl
      have l2 : u6 = drw (lcg σ.2) := by rw [c12, c11, l1]; rfl
      have l3 : u8 = sx_mf 6 (sx_mf 2 (B 55 e) (B 61 d)) 9 := by rw [c14, c13]
      have q1 : n / 2 ^ e % 2 = 1 := by omega
      rw [l2, l3] at c5
      have e0 := st q1
      rw [if_neg (fun p => p.2 (by omega)), ← l1] at e0
      have wl : sx_w sx_r32 u4 := by rw [l1]; exact wl
      exact ih (e + 1) (σ.1, u4) X (by omega) (by show σ.1 < 2 ^ (e + 1); omega) hs wl (e0.symm.trans hD) hX (fun q hq x => (fX q hq).trans (f1 q hq x)) (fun j x => by rw [fX 53 (by decide)]; exact f2 j x) (by rw [fX 53 (by decide)]; exact f35)
    · obtain ⟨c1, c2, c3, c4, c5, c6, c7, c8, c9, c10, c11, c12, c13, c14, c15, c16, c17, c18, -⟩ := hc
      have c1 : 0 ≤ y ∧ y ≤ 5 := c1
      have c2 : 1 ≤ u2 ∧ u2 ≤ 1 := c2
      have c3 : -2147483648 ≤ u6 ∧ u6 ≤ 2147483646 := c3
      have c4 : -2147483647 ≤ u8 ∧ u8 ≤ 2147483647 := c4
      have c5 : u6 < u8 := c5
      have c6 : ¬ (e : Int) = V := c6
      have c7 : (e : Int) = y := c7
      have c8 : u1 = sx_mf 9 (n : Int) (e : Int) := c8
      have c9 : u2 = sx_mf 3 u1 1 := c9
      have c10 : u3 = sx_mf 2 σ.2 1103515245 := c10
      have c11 : u4 = sx_mf 0 u3 12345 := c11
      have c12 : u5 = sx_mf 10 u4 8 := c12
      have c13 : u6 = sx_mf 7 u5 12 := c13
      have c14 : u7 = sx_mf 2 (B 55 e) (B 61 d) := c14
      have c15 : u8 = sx_mf 6 u7 9 := c15
      have c16 : u9 = sx_mf 8 1 (e : Int) := c16
      have c17 : u10 = sx_mf 5 u9 (-1) := c17
      have c18 : u11 = sx_mf 3 (((n - σ.1 : Nat) : Int)) u10 := c18
      have fX : ∀ a, a < 128 → X a = sx_up M' 53 35 u11 a := hM
      have e2 : u2 = ((n / 2 ^ e % 2 : Nat) : Int) := by rw [← bit, c9, c8]; exact b9
      have l1 : u4 = lcg σ.2 := by rw [c11, c10]; rfl
      have l2 : u6 = drw (lcg σ.2) := by rw [c13, c12, l1]; rfl
      have l3 : u8 = sx_mf 6 (sx_mf 2 (B 55 e) (B 61 d)) 9 := by rw [c15, c14]
      have q1 : n / 2 ^ e % 2 = 1 := by omega
      rw [l2, l3] at c5
      have e0 := st q1
      rw [if_pos ⟨c5, c6⟩, ← l1] at e0
      have wl : sx_w sx_r32 u4 := by rw [l1]; exact wl
      obtain ⟨s2, w2⟩ := burn q1
      rw [c18, c17, c16, w2] at fX
      have p1 : ((a0 + pcn (σ.1 + 2 ^ e) 10 : Nat) : Int) = ((a0 + pcn σ.1 10 : Nat) : Int) + 1 := by rw [pcn_s (by omega) hb]; omega
      have p2 : ((o0 + dho y (σ.1 + 2 ^ e) : Nat) : Int) = ((o0 + dho y σ.1 : Nat) : Int) + 1 := by rw [dho_s hb, if_pos c7]; omega
      have gg := ih (e + 1) (σ.1 + 2 ^ e, u4) X (by omega) (by show σ.1 + 2 ^ e < 2 ^ (e + 1); omega) s2 wl (e0.symm.trans hD) hX (fun q hq x => by rw [fX q hq, sh_une x]; exact f1 q hq x) (fun j x => by rw [fX 53 (by decide), sh_unj x]; exact f2 j x) (by rw [fX 53 (by decide), sh_uat])
      rw [show ((σ.1 + 2 ^ e, u4) : Nat × Int).1 = σ.1 + 2 ^ e from rfl, p1, p2] at gg
      exact gg
    · obtain ⟨c1, c2, c3, c4, c5, c6, c7, c8, c9, c10, c11, c12, c13, c14, c15, c16, c17, -⟩ := hc
      have c1 : 1 ≤ u2 ∧ u2 ≤ 1 := c1
      have c2 : -2147483648 ≤ u6 ∧ u6 ≤ 2147483646 := c2
      have c3 : -2147483647 ≤ u8 ∧ u8 ≤ 2147483647 := c3
      have c4 : u6 < u8 := c4
      have c5 : ¬ (e : Int) = V := c5
      have c6 : ¬ (e : Int) = y := c6
      have c7 : u1 = sx_mf 9 (n : Int) (e : Int) := c7
      have c8 : u2 = sx_mf 3 u1 1 := c8
      have c9 : u3 = sx_mf 2 σ.2 1103515245 := c9
      have c10 : u4 = sx_mf 0 u3 12345 := c10
      have c11 : u5 = sx_mf 10 u4 8 := c11
      have c12 : u6 = sx_mf 7 u5 12 := c12
      have c13 : u7 = sx_mf 2 (B 55 e) (B 61 d) := c13
      have c14 : u8 = sx_mf 6 u7 9 := c14
      have c15 : u9 = sx_mf 8 1 (e : Int) := c15
      have c16 : u10 = sx_mf 5 u9 (-1) := c16
      have c17 : u11 = sx_mf 3 (((n - σ.1 : Nat) : Int)) u10 := c17
      have fX : ∀ a, a < 128 → X a = sx_up M' 53 35 u11 a := hM
      have e2 : u2 = ((n / 2 ^ e % 2 : Nat) : Int) := by rw [← bit, c8, c7]; exact b9
      have l1 : u4 = lcg σ.2 := by rw [c10, c9]; rfl
      have l2 : u6 = drw (lcg σ.2) := by rw [c12, c11, l1]; rfl
      have l3 : u8 = sx_mf 6 (sx_mf 2 (B 55 e) (B 61 d)) 9 := by rw [c14, c13]
      have q1 : n / 2 ^ e % 2 = 1 := by omega
      rw [l2, l3] at c4
      have e0 := st q1
      rw [if_pos ⟨c4, c5⟩, ← l1] at e0
      have wl : sx_w sx_r32 u4 := by rw [l1]; exact wl
      obtain ⟨s2, w2⟩ := burn q1
      rw [c17, c16, c15, w2] at fX
      have p1 : ((a0 + pcn (σ.1 + 2 ^ e) 10 : Nat) : Int) = ((a0 + pcn σ.1 10 : Nat) : Int) + 1 := by rw [pcn_s (by omega) hb]; omega
      have p2 : ((o0 + dho y (σ.1 + 2 ^ e) : Nat) : Int) = ((o0 + dho y σ.1 : Nat) : Int) := by rw [dho_s hb, if_neg c6]
      have gg := ih (e + 1) (σ.1 + 2 ^ e, u4) X (by omega) (by show σ.1 + 2 ^ e < 2 ^ (e + 1); omega) s2 wl (e0.symm.trans hD) hX (fun q hq x => by rw [fX q hq, sh_une x]; exact f1 q hq x) (fun j x => by rw [fX 53 (by decide), sh_unj x]; exact f2 j x) (by rw [fX 53 (by decide), sh_uat])
      rw [show ((σ.1 + 2 ^ e, u4) : Nat × Int).1 = σ.1 + 2 ^ e from rfl, p1, p2] at gg
      exact gg
    · obtain ⟨c1, c2, c3, c4, c5, c6, c7, c8, c9, c10, -⟩ := hc
      have c1 : 1 ≤ u2 ∧ u2 ≤ 1 := c1
      have c2 : ¬ u6 < u8 := c2
      have c3 : u1 = sx_mf 9 (n : Int) (e : Int) := c3
      have c4 : u2 = sx_mf 3 u1 1 := c4
      have c5 : u3 = sx_mf 2 σ.2 1103515245 := c5
      have c6 : u4 = sx_mf 0 u3 12345 := c6
      have c7 : u5 = sx_mf 10 u4 8 := c7
      have c8 : u6 = sx_mf 7 u5 12 := c8
      have c9 : u7 = sx_mf 2 (B 55 e) (B 61 d) := c9
      have c10 : u8 = sx_mf 6 u7 9 := c10
      have fX : ∀ a, a < 128 → X a = M' a := hM
      have e2 : u2 = ((n / 2 ^ e % 2 : Nat) : Int) := by rw [← bit, c4, c3]; exact b9
      have l1 : u4 = lcg σ.2 := by rw [c6, c5]; rfl
      have l2 : u6 = drw (lcg σ.2) := by rw [c8, c7, l1]; rfl
      have l3 : u8 = sx_mf 6 (sx_mf 2 (B 55 e) (B 61 d)) 9 := by rw [c10, c9]
      have q1 : n / 2 ^ e % 2 = 1 := by omega
      rw [l2, l3] at c2
      have e0 := st q1
      rw [if_neg (fun p => c2 p.1), ← l1] at e0
      have wl : sx_w sx_r32 u4 := by rw [l1]; exact wl
      exact ih (e + 1) (σ.1, u4) X (by omega) (by show σ.1 < 2 ^ (e + 1); omega) hs wl (e0.symm.trans hD) hX (fun q hq x => (fX q hq).trans (f1 q hq x)) (fun j x => by rw [fX 53 (by decide)]; exact f2 j x) (by rw [fX 53 (by decide)]; exact f35)
    · obtain ⟨c1, c2, c3, -⟩ := hc
      have c1 : u2 ≠ 1 := c1
      have c2 : u1 = sx_mf 9 (n : Int) (e : Int) := c2
      have c3 : u2 = sx_mf 3 u1 1 := c3
      have fX : ∀ a, a < 128 → X a = M' a := hM
      have e2 : u2 = ((n / 2 ^ e % 2 : Nat) : Int) := by rw [← bit, c3, c2]; exact b9
      have e0 := sz (by omega)
      exact ih (e + 1) σ X (by omega) (by omega) hs wz (e0.symm.trans hD) hX (fun q hq x => (fX q hq).trans (f1 q hq x)) (fun j x => by rw [fX 53 (by decide)]; exact f2 j x) (by rw [fX 53 (by decide)]; exact f35)

/-- day by day -/
theorem dz_days {n0 i a0 o0 : Nat} {s w y : Int} (hL : L < 2 ^ 31) (hm0 : sx_mok cl_ly B) (hw : WF B) (hR : vu_R B) (h4 : B 53 1 = (H : Int)) (h6 : H ≤ 6) (h8 : B 53 8 = (nc : Int)) (h12 : nc ≤ 12) (hn64 : n0 < 64) (ws : sx_w sx_r32 s) (hw1 : 1 ≤ w ∧ w ≤ 30) (hy : -1 ≤ y ∧ y ≤ 5) (hi : i ≤ 30) (ha0 : a0 ≤ 5200) (ho0 : o0 ≤ 5200) (K : ∀ (N : Nat → Nat → Int) (x : Nat) (z' : Int), sx_mok cl_ly N → sy_F B N → sx_w sx_r32 z' → rz_fin (fun r N' => r = some (.int (Int32.ofInt (ZZ x z'))) ∧ sx_mok cl_ly N' ∧ sy_F B N') L xs 239 22 38 [(0, .ref 53), (1, .int (Int32.ofInt s)), (2, .int (Int32.ofInt w)), (3, .int (Int32.ofInt y)), (4, .int (Int32.ofInt z')), (5, .int (Int32.ofInt ((a0 + pcn x 10 : Nat) : Int))), (6, .int (Int32.ofInt ((o0 + dho y x : Nat) : Int))), (7, .int (Int32.ofInt ((i : Int) + 1)))] [] N) : ∀ (k d n : Nat) (T : Int × (Nat → Int)) (z : Int) (M' : Nat → Nat → Int), d + k = 30 → n < 64 → sbs n n0 → sx_w sx_r32 z → sx_mok cl_ly M' → sy_F B M' → M' 53 35 = (n : Int) → ms_P T M' → rz_fin (fun r N' => r = some (.int (Int32.ofInt (ZZ (n0 - (dws (B 60) (B 59) (ms_lk B) nc H (fun h d => sx_mf 6 (sx_mf 2 (B 55 h) (B 61 d)) 9) k d n T z).1) (dws (B 60) (B 59) (ms_lk B) nc H (fun h d => sx_mf 6 (sx_mf 2 (B 55 h) (B 61 d)) 9) k d n T z).2))) ∧ sx_mok cl_ly N' ∧ sy_F B N') L xs 239 22 54 [(0, .ref 53), (1, .int (Int32.ofInt s)), (2, .int (Int32.ofInt w)), (3, .int (Int32.ofInt y)), (4, .int (Int32.ofInt z)), (5, .int (Int32.ofInt ((a0 + pcn (n0 - n) 10 : Nat) : Int))), (6, .int (Int32.ofInt ((o0 + dho y (n0 - n) : Nat) : Int))), (7, .int (Int32.ofInt (i : Int))), (8, .int (Int32.ofInt (d : Int)))] [] M' := by
  intro k
  induction k with
  | zero =>
    intro d n T z M' hd hn hs wz hm hF h35 hP
    have e : d = 30 := by omega
    subst e
    have b1 := pcn_le (x := n0 - n) 10
    have b2 := dho_le (y := y) (x := n0 - n)
    refine qs_use (zs := [s, w, y, z, ((a0 + pcn (n0 - n) 10 : Nat) : Int), ((o0 + dho y (n0 - n) : Nat) : Int), (i : Int)]) dz6_c hL hm (qs_iw ws (qs_in hw1 (qs_in hy (qs_iw wz (qs_in (show 0 ≤ ((a0 + pcn (n0 - n) 10 : Nat) : Int) ∧ ((a0 + pcn (n0 - n) 10 : Nat) : Int) ≤ 5400 by omega) (qs_in (show 0 ≤ ((o0 + dho y (n0 - n) : Nat) : Int) ∧ ((o0 + dho y (n0 - n) : Nat) : Int) ≤ 5400 by omega) (qs_in (show 0 ≤ (i : Int) ∧ (i : Int) ≤ 30 by omega) (qs_fin rfl)))))))) (Nat.le_refl _) rfl rfl (qs_c (fun X hX hc hM => ?_) qs_z)
    have fX : ∀ q, q < 128 → X q = M' q := hM
    exact K X (n0 - n) z hX ⟨fun a ha x1 x2 x3 x4 => (fX a ha).trans (hF.1 a ha x1 x2 x3 x4), fun j x1 x2 => by rw [fX 53 (by decide)]; exact hF.2 j x1 x2⟩ wz
  | succ k ih =>
    intro d n T z M' hd hn hs wz hm hF h35 hP
    have b1 := pcn_le (x := n0 - n) 10
    have b2 := dho_le (y := y) (x := n0 - n)
    refine qs_use (zs := [s, w, y, z, ((a0 + pcn (n0 - n) 10 : Nat) : Int), ((o0 + dho y (n0 - n) : Nat) : Int), (i : Int), (d : Int)]) dz5_c hL hm (qs_iw ws (qs_in hw1 (qs_in hy (qs_iw wz (qs_in (show 0 ≤ ((a0 + pcn (n0 - n) 10 : Nat) : Int) ∧ ((a0 + pcn (n0 - n) 10 : Nat) : Int) ≤ 5400 by omega) (qs_in (show 0 ≤ ((o0 + dho y (n0 - n) : Nat) : Int) ∧ ((o0 + dho y (n0 - n) : Nat) : Int) ≤ 5400 by omega) (qs_in (show 0 ≤ (i : Int) ∧ (i : Int) ≤ 30 by omega) (qs_in (show 0 ≤ (d : Int) ∧ (d : Int) ≤ 29 by omega) (qs_fin rfl))))))))) (Nat.le_refl _) rfl rfl (qs_c (fun N1 hN1 hc hM => ?_) qs_z)
    have f1 : ∀ q, q < 128 → N1 q = M' q := hM
    have F1 : sy_F B N1 := ⟨fun a ha x1 x2 x3 x4 => (f1 a ha).trans (hF.1 a ha x1 x2 x3 x4), fun j x1 x2 => by rw [f1 53 (by decide)]; exact hF.2 j x1 x2⟩
    have P1 : ms_P T N1 := ⟨by rw [f1 53 (by decide)]; exact hP.1, fun h => by rw [f1 75 (by decide)]; exact hP.2 h⟩
    have s35 : N1 53 35 = (n : Int) := by rw [f1 53 (by decide)]; exact h35
    obtain ⟨w1, r1⟩ := wr_ref hw hR (fun a q => F1.1 a (by omega) (by omega) (by omega) (by omega) (by omega)) (F1.2 33 (by decide) (by decide))
    obtain ⟨q60, q59, qlk⟩ := sy_on F1
    have eC : ms_cd N1 nc d T = vq_cd (B 60) (B 59) (ms_lk B) (n : Int) nc d T := by
      unfold ms_cd
      rw [q60, q59, s35, show ms_lk N1 = ms_lk B from funext fun d => funext fun g => funext fun b => qlk d g b]
    show rz_fin _ L xs 239 22 64 [(0, .ref 53), (1, .int (Int32.ofInt s)), (2, .int (Int32.ofInt w)), (3, .int (Int32.ofInt y)), (4, .int (Int32.ofInt z)), (5, .int (Int32.ofInt ((a0 + pcn (n0 - n) 10 : Nat) : Int))), (6, .int (Int32.ofInt ((o0 + dho y (n0 - n) : Nat) : Int))), (7, .int (Int32.ofInt (i : Int))), (8, .int (Int32.ofInt (d : Int)))] [.int (Int32.ofInt (d : Int)), .ref 53] N1
    refine qs_vc (k := 192) (b := 53) (d := 21) (d' := 21) (rest := []) rfl rfl rfl rfl rfl rfl rfl rfl (Nat.le_refl _) rfl (rz_d (by decide) (ms_day (xs := xs) (M := N1) (M0 := N1) (nc := nc) (d := d) (T := T) hL hN1 (by omega) w1 r1 (by rw [F1.2 8 (by decide) (by decide)]; exact h8) ⟨fun _ _ _ _ _ _ => rfl, fun _ _ => rfl⟩ P1)) (fun r9 N2 hr => ?_)
    obtain ⟨rfl, hN2, F2, P2, -⟩ := hr
    rw [eC, q60, q59] at P2
    rw [eC, q59]
    obtain ⟨C, hC⟩ : ∃ C, vq_cd (B 60) (B 59) (ms_lk B) (n : Int) nc d T = C := ⟨_, rfl⟩
    have rC := vq_cd_r (D := B 60) (W := B 59) (lk := ms_lk B) (S := (n : Int)) (nc := nc) (d := d) (T := T) (fun d h b => (vq_held_r _).2)
    rw [hC] at P2 rC
    rw [hC]
    have rV : -1 ≤ vq_hs (B 59) C ∧ vq_hs (B 59) C ≤ 5 := by
      unfold vq_hs
      by_cases q : C < 0
      · rw [if_pos q]
        decide
      · rw [if_neg q]
        have w59 : 0 ≤ B 59 C.toNat ∧ B 59 C.toNat ≤ 5 := hm0 59 _ _ _ rfl (by show C.toNat < 12; omega) rfl
        omega
    have e0 : dws (B 60) (B 59) (ms_lk B) nc H (fun h d => sx_mf 6 (sx_mf 2 (B 55 h) (B 61 d)) 9) (k + 1) d n T z = dws (B 60) (B 59) (ms_lk B) nc H (fun h d => sx_mf 6 (sx_mf 2 (B 55 h) (B 61 d)) 9) k (d + 1) (n - (dfb n (fun h => sx_mf 6 (sx_mf 2 (B 55 h) (B 61 d)) 9) (vq_hs (B 59) C) H 0 (0, z)).1) (vq_nx (B 60) (B 59) T C) (dfb n (fun h => sx_mf 6 (sx_mf 2 (B 55 h) (B 61 d)) 9) (vq_hs (B 59) C) H 0 (0, z)).2 := by
      rw [← hC]
      rfl
    rw [e0]
    generalize vq_hs (B 59) C = V at rV ⊢
    have F3 : sy_F B N2 := ⟨fun a ha x1 x2 x3 x4 => (F2.1 a ha x1 x2 x3 x4).trans (F1.1 a ha x1 x2 x3 x4), fun j x1 x2 => (F2.2 j x2).trans (F1.2 j x1 x2)⟩
    have t35 : N2 53 35 = (n : Int) := (F2.2 35 (by decide)).trans s35
    have wn : sx_w sx_r32 (n : Int) := og_w32 (by omega) (by omega)
    refine qs_use (zs := [s, w, y, z, ((a0 + pcn (n0 - n) 10 : Nat) : Int), ((o0 + dho y (n0 - n) : Nat) : Int), (i : Int), (d : Int), V, (n : Int)]) dz7_c hL hN2 (qs_iw ws (qs_in hw1 (qs_in hy (qs_iw wz (qs_in (show 0 ≤ ((a0 + pcn (n0 - n) 10 : Nat) : Int) ∧ ((a0 + pcn (n0 - n) 10 : Nat) : Int) ≤ 5400 by omega) (qs_in (show 0 ≤ ((o0 + dho y (n0 - n) : Nat) : Int) ∧ ((o0 + dho y (n0 - n) : Nat) : Int) ≤ 5400 by omega) (qs_in (show 0 ≤ (i : Int) ∧ (i : Int) ≤ 30 by omega) (qs_in (show 0 ≤ (d : Int) ∧ (d : Int) ≤ 29 by omega) (qs_in rV (qs_rd (show (0 : Int) ≤ 35 by decide) t35 wn (qs_fin rfl))))))))))) (Nat.le_refl _) rfl rfl (qs_c (fun N3 hN3 hc hM => ?_) qs_z)
    have f3 : ∀ q, q < 128 → N3 q = N2 q := hM
    have F4 : sy_F B N3 := ⟨fun a ha x1 x2 x3 x4 => (f3 a ha).trans (F3.1 a ha x1 x2 x3 x4), fun j x1 x2 => by rw [f3 53 (by decide)]; exact F3.2 j x1 x2⟩
    have zp : pcn 0 10 = 0 := by decide
    have zo : dho y 0 = 0 := by
      unfold dho
      split
      · rfl
      · rw [Nat.zero_div]
    show rz_fin _ L xs 239 22 78 [(0, .ref 53), (1, .int (Int32.ofInt s)), (2, .int (Int32.ofInt w)), (3, .int (Int32.ofInt y)), (4, .int (Int32.ofInt z)), (5, .int (Int32.ofInt ((a0 + pcn (n0 - n) 10 : Nat) : Int))), (6, .int (Int32.ofInt ((o0 + dho y (n0 - n) : Nat) : Int))), (7, .int (Int32.ofInt (i : Int))), (8, .int (Int32.ofInt (d : Int))), (9, .int (Int32.ofInt V)), (10, .int (Int32.ofInt (n : Int))), (11, .int (Int32.ofInt ((0 : Nat) : Int)))] [] N3
    rw [show ((a0 + pcn (n0 - n) 10 : Nat) : Int) = ((a0 + pcn (n0 - n) 10 + pcn ((0, z) : Nat × Int).1 10 : Nat) : Int) by rw [show ((0, z) : Nat × Int).1 = 0 from rfl, zp, Nat.add_zero], show ((o0 + dho y (n0 - n) : Nat) : Int) = ((o0 + dho y (n0 - n) + dho y ((0, z) : Nat × Int).1 : Nat) : Int) by rw [show ((0, z) : Nat × Int).1 = 0 from rfl, zo, Nat.add_zero]]
    refine dz_in (xs := xs) (B := B) (H := H) (n := n) (d := d) (i := i) (a0 := a0 + pcn (n0 - n) 10) (o0 := o0 + dho y (n0 - n)) (s := s) (w := w) (y := y) (V := V) (z0 := z) hL hm0 h4 h6 hn (by omega) ws hw1 hy hi rV (by omega) (by omega) N3 F4 (fun N hN g1 g2 g35 wz2 => ?_) H 0 (0, z) N3 (Nat.zero_add H) (show (0 : Nat) < 2 ^ 0 by decide) (fun g => by
      show 0 / 2 ^ g % 2 ≤ _
      rw [Nat.zero_div]
      exact Nat.zero_le _) wz rfl hN3 (fun _ _ _ => rfl) (fun _ _ => rfl) (by rw [f3 53 (by decide), t35]; rfl)
    obtain ⟨bs, bs2⟩ := dfb_sub (n := n) (od := fun h => sx_mf 6 (sx_mf 2 (B 55 h) (B 61 d)) 9) (V := V) H 0 (0, z) (show (0 : Nat) < 2 ^ 0 by decide) (fun g => by
      show 0 / 2 ^ g % 2 ≤ _
      rw [Nat.zero_div]
      exact Nat.zero_le _)
    have p6 : 2 ^ (0 + H) ≤ 2 ^ 6 := Nat.pow_le_pow_right (by decide) (by omega)
    generalize dfb n (fun h => sx_mf 6 (sx_mf 2 (B 55 h) (B 61 d)) 9) V H 0 (0, z) = σ at bs bs2 g35 wz2 ⊢
    obtain ⟨-, u2, u3⟩ := sb_ok hn (show σ.1 < 64 by omega) bs
    have sub2 : sbs (n - σ.1) n0 := fun g => by
      have x1 := u3 g
      have x2 := hs g
      omega
    obtain ⟨-, v2, v3⟩ := sb_ok hn64 hn hs
    obtain ⟨-, v4, v5⟩ := sb_ok hn64 (show n - σ.1 < 64 by omega) sub2
    have bits : ∀ g, (n0 - n) / 2 ^ g % 2 + σ.1 / 2 ^ g % 2 = (n0 - (n - σ.1)) / 2 ^ g % 2 := fun g => by
      have x1 := u3 g
      have x2 := v3 g
      have x3 := v5 g
      omega
    have pe : a0 + pcn (n0 - n) 10 + pcn σ.1 10 = a0 + pcn (n0 - (n - σ.1)) 10 := by
      rw [← pcn_add (x := n0 - n) (y := σ.1) (w := n0 - (n - σ.1)) 10 (fun g _ => bits g)]
      omega
    have oe : o0 + dho y (n0 - n) + dho y σ.1 = o0 + dho y (n0 - (n - σ.1)) := by
      unfold dho
      split
      · rfl
      · rw [← bits y.toNat]
        omega
    rw [pe, oe]
    have F5 : sy_F B N := ⟨fun a ha x1 x2 x3 x4 => (g1 a ha x1).trans (F4.1 a ha x1 x2 x3 x4), fun j x1 x2 => (g2 j x1).trans (F4.2 j x1 x2)⟩
    exact ih (d + 1) (n - σ.1) (vq_nx (B 60) (B 59) T C) σ.2 N (by omega) (by omega) sub2 wz2 hN F5 g35 ⟨by rw [g2 36 (by decide), f3 53 (by decide)]; exact P2.1, fun h => by rw [g1 75 (by decide) (by decide), f3 75 (by decide)]; exact P2.2 h⟩
end
