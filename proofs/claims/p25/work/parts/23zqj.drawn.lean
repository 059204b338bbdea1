/-! A season: the class. -/
section
variable {L : Nat} {xs : Nat → Int32} {M M' N N' X : Nat → Nat → Int} {t d nc H : Nat} {z : Int}
def df1_i : List qs_I := [(0, 0, (0, 0), (0, 29))]
def df1_T : List og_T := [(some 4, none, [], [(0, 2, 0, 21), (1, 0, 9, 0), (2, 0, 0, 0), (3, 0, 0, 0)], [], [])]
theorem df1_c : qs_chk (fun pc => Nat.beq pc 4) df1_i 0 df1_T 400 400 20 112 0 [(0, 2, 0, 21), (1, 0, 9, 0)] [] = true := by decide +kernel
def df2_i : List qs_I := [(0, 0, (0, 0), (0, 29)), (0, 0, (0, 0), (0, 63)), (0, 0, (0, 0), (0, 5)), (1, 9, (0, 4), (0, 6)), (2, 12, (11, 0), (0, 0)), (1, 21, (0, 8), sx_r32), (1, 21, (0, 7), sx_r32), (1, 10, (11, 30), (-1, 143)), (1, 10, (9, 150), (-1, 143))]
def df2_T : List og_T := [(some 4, none, [], [(0, 2, 0, 21), (1, 0, 9, 0), (2, 0, 26, 0), (3, 0, 11, 1)], [(21, (0, 7), (20, 0))], [(0, (18, 0), (0, 0), 1, 1), (0, (22, 0), (0, 0), -2147483648, 2147483646), (0, (24, 0), (0, 0), -2147483647, 2147483647), (1, (22, 0), (24, 0), 0, 0), (5, (13, 0), (11, 0), 10, 17), (5, (17, 0), (0, 1), 3, 18), (5, (14, 0), (0, 1103515245), 2, 19), (5, (19, 0), (0, 12345), 0, 20), (5, (20, 0), (0, 8), 10, 21), (5, (21, 0), (0, 12), 7, 22), (5, (15, 0), (16, 0), 2, 23), (5, (23, 0), (0, 9), 6, 24), (5, (0, 1), (11, 0), 8, 25), (5, (10, 0), (25, 0), 4, 26)]), (some 4, none, [], [(0, 2, 0, 21), (1, 0, 9, 0), (2, 0, 10, 0), (3, 0, 11, 1)], [(21, (0, 7), (20, 0))], [(0, (18, 0), (0, 0), 1, 1), (2, (22, 0), (24, 0), 0, 0), (5, (13, 0), (11, 0), 10, 17), (5, (17, 0), (0, 1), 3, 18), (5, (14, 0), (0, 1103515245), 2, 19), (5, (19, 0), (0, 12345), 0, 20), (5, (20, 0), (0, 8), 10, 21), (5, (21, 0), (0, 12), 7, 22), (5, (15, 0), (16, 0), 2, 23), (5, (23, 0), (0, 9), 6, 24)]), (some 4, none, [], [(0, 2, 0, 21), (1, 0, 9, 0), (2, 0, 10, 0), (3, 0, 11, 1)], [], [(7, (18, 0), (0, 0), 1, 0), (5, (13, 0), (11, 0), 10, 17), (5, (17, 0), (0, 1), 3, 18)])]
theorem df2_c : qs_chk (fun pc => Nat.beq pc 4) df2_i 10 df2_T 400 400 20 112 4 [(0, 2, 0, 21), (1, 0, 9, 0), (2, 0, 10, 0), (3, 0, 11, 0)] [] = true := by decide +kernel
def df3_i : List qs_I := [(0, 0, (0, 0), (0, 29)), (0, 0, (0, 0), (0, 63)), (0, 0, (0, 0), (0, 6)), (1, 9, (0, 4), (0, 6)), (3, 12, (11, 0), (0, 0))]
def df3_T : List og_T := [(none, some (0, 10, 0), [], [], [], [])]
theorem df3_c : qs_chk (fun _ => false) df3_i 0 df3_T 400 400 20 112 4 [(0, 2, 0, 21), (1, 0, 9, 0), (2, 0, 10, 0), (3, 0, 11, 0)] [] = true := by decide +kernel
def sn1_i : List qs_I := []
def sn1_T : List og_T := [(some 1, none, [(2, 0, 21)], [(0, 2, 0, 21)], [], [])]
theorem sn1_c : qs_chk (fun pc => Nat.beq pc 1) sn1_i 0 sn1_T 400 400 21 111 0 [(0, 2, 0, 21)] [] = true := by decide +kernel
def sn2_i : List qs_I := [(1, 10, (0, 210), (0, 29))]
def sn2_T : List og_T := [(some 12, none, [], [(0, 2, 0, 21), (1, 0, 9, 0)], [], [])]
theorem sn2_c : qs_chk (fun pc => Nat.beq pc 12) sn2_i 0 sn2_T 400 400 21 111 4 [(0, 2, 0, 21)] [] = true := by decide +kernel
def sn3_i : List qs_I := [(0, 0, (0, 0), (0, 29))]
def sn3_T : List og_T := [(some 20, none, [(0, 9, 0), (2, 0, 21)], [(0, 2, 0, 21), (1, 0, 9, 0)], [], [])]
theorem sn3_c : qs_chk (fun pc => Nat.beq pc 20) sn3_i 0 sn3_T 400 400 21 111 12 [(0, 2, 0, 21), (1, 0, 9, 0)] [] = true := by decide +kernel
def sn4_i : List qs_I := [(0, 0, (0, 0), (0, 29)), (0, 0, (0, 0), (-2, 5))]
def sn4_T : List og_T := [(some 26, none, [(0, 9, 0), (2, 0, 21)], [(0, 2, 0, 21), (1, 0, 9, 0), (2, 0, 10, 0)], [], [])]
theorem sn4_c : qs_chk (fun pc => Nat.beq pc 26) sn4_i 0 sn4_T 400 400 21 111 23 [(0, 2, 0, 21), (1, 0, 9, 0)] [(0, 10, 0)] = true := by decide +kernel
def sn5_i : List qs_I := [(0, 0, (0, 0), (0, 29)), (0, 0, (0, 0), (-2, 5)), (0, 0, (0, 0), (0, 63)), (1, 21, (0, 8), sx_r32)]
def sn5_T : List og_T := [(some 12, none, [], [(0, 2, 0, 21), (1, 0, 9, 1)], [(21, (0, 8), (14, 0))], [(0, (10, 0), (0, 0), -2, -1), (5, (11, 0), (0, -1), 5, 13), (5, (12, 0), (13, 0), 3, 14)]), (some 12, none, [], [(0, 2, 0, 21), (1, 0, 9, 1)], [(21, (0, 8), (17, 0))], [(0, (10, 0), (0, 0), 0, 5), (5, (0, 1), (10, 0), 8, 13), (5, (13, 0), (0, -1), 5, 14), (5, (11, 0), (14, 0), 3, 15), (5, (15, 0), (0, -1), 5, 16), (5, (12, 0), (16, 0), 3, 17)])]
theorem sn5_c : qs_chk (fun pc => Nat.beq pc 12) sn5_i 5 sn5_T 400 400 21 111 29 [(0, 2, 0, 21), (1, 0, 9, 0), (2, 0, 10, 0)] [(0, 11, 0)] = true := by decide +kernel
def sn6_i : List qs_I := [(1, 9, (0, 6), sx_r32), (1, 21, (0, 8), sx_r32)]
def sn6_T : List og_T := [(none, some (0, 12, 0), [], [], [], [(5, (10, 0), (0, -1), 5, 11), (5, (9, 0), (11, 0), 3, 12)])]
theorem sn6_c : qs_chk (fun pc => Nat.beq pc 20) sn6_i 2 sn6_T 400 400 21 111 12 [(0, 2, 0, 21), (1, 0, 0, 30)] [] = true := by decide +kernel
/-- thinking from M on: other memories alike but for thought's own -/
theorem vx_on (x : fs_x M N) : vs_D N = vs_D M ∧ N 11 = M 11 ∧ N 9 = M 9 ∧ N 10 = M 10 ∧ ∀ g d b, vq_X N g d b = vq_X M g d b := by
  have e10 : N 10 = M 10 := x 10 (by decide) (by decide)
  refine ⟨?_, x 11 (by decide) (by decide), x 9 (by decide) (by decide), e10, fun g d b => ?_⟩
  · funext c
    unfold vs_D
    rw [e10]
  · unfold vq_X
    rw [e10]
    exact vq_like_M (by rw [x 53 (by decide) (by decide)]) (by rw [x 69 (by decide) (by decide)]) (x 67 (by decide) (by decide)) (x 68 (by decide) (by decide)) (x 70 (by decide) (by decide)) (x 71 (by decide) (by decide))
/-- a day: whatever stands now -/
theorem dw_spend {T : Int × (Nat → Int)} {S : Int} (hL : L < 2 ^ 31) (hm : sx_mok cl_ly N) (hd : d ≤ 29) (hw : WF M) (hR : vu_R M) (hn : M 9 5 = (nc : Int)) (x : fs_x M N) (hS : N 21 8 = S) (hP : vs_P T N) : rz_fin (fun r N' => r = some (.int (Int32.ofInt (vq_or (vq_hs (M 11) (vq_cd (vs_D M) (M 11) (vs_lk M) S nc d T))))) ∧ sx_mok cl_ly N' ∧ vs_F N N' ∧ vs_P (vq_nx (vs_D M) (M 11) T (vq_cd (vs_D M) (M 11) (vs_lk M) S nc d T)) N') L xs 56 8 0 [(0, .ref 21), (1, .int (Int32.ofInt (d : Int)))] [] N := by
  obtain ⟨w1, r1⟩ := fs_same hw hR x
  obtain ⟨eD, e11, e9, e10, eX⟩ := vx_on x
  have g := vp_spend (xs := xs) (nc := nc) hL hm hd w1 r1 (by rw [e9]; exact hn)
  have ec : (vr_ch N d nc).1 = vq_cd (vs_D M) (M 11) (vs_lk M) S nc d T := by
    have e5 : vr_lk N d = fun g => vs_lk M d g (T.2 g) := by
      funext g
      unfold vr_lk vs_lk
      rw [eX, hP.2 g]
    have e6 : (fun c => N 10 (c + 180)) = vs_D M := by
      funext c
      unfold vs_D
      rw [e10]
    unfold vr_ch vq_cd
    rw [e5, e6, e11, hS, hP.1]
  rw [ec] at g
  refine qs_w g (fun r N' q => ?_)
  obtain ⟨q1, q2, q3, q4⟩ := q
  rw [e11] at q1
  refine ⟨q1, q2, q3, ?_⟩
  rw [eD, e11, hP.1, show N 23 = T.2 from funext hP.2] at q4
  exact q4
theorem mf_w32 (g : Nat) (hg : g < 32) (x y : Int) : sx_w sx_r32 (sx_mf g x y) := by
  have e : sx_mf g x y = (sx_sem32 g (Int32.ofInt x) (Int32.ofInt y)).toInt := by
    unfold sx_mf
    rw [if_pos hg]
  rw [e, sx_r32_iff]
  have h1 := Int32.le_toInt (sx_sem32 g (Int32.ofInt x) (Int32.ofInt y))
  have h2 := Int32.toInt_lt (sx_sem32 g (Int32.ofInt x) (Int32.ofInt y))
  omega
/-- who burns on a day -/
theorem df_loop {n : Nat} (hL : L < 2 ^ 31) (h4 : M 9 4 = (H : Int)) (h6 : H ≤ 6) (hd : d ≤ 29) (hn : n < 64) (hm0 : sx_mok cl_ly M) (hS : M 21 8 = (n : Int)) : ∀ (m h : Nat) (σ : Nat × Int) (M' : Nat → Nat → Int), h + m = H → σ.1 < 2 ^ h → sx_w sx_r32 σ.2 → sx_mok cl_ly M' → (∀ a, a < 128 → a ≠ 21 → M' a = M a) → (∀ j, j ≠ 7 → M' 21 j = M 21 j) → M' 21 7 = σ.2 → rz_fin (fun r N => r = some (.int (Int32.ofInt (((dfr n (fun h => sx_mf 6 (sx_mf 2 (M 10 (30 + h)) (M 10 (150 + d))) 9) m h σ).1 : Nat) : Int))) ∧ sx_mok cl_ly N ∧ (∀ a, a < 128 → a ≠ 21 → N a = M a) ∧ (∀ j, j ≠ 7 → N 21 j = M 21 j) ∧ N 21 7 = (dfr n (fun h => sx_mf 6 (sx_mf 2 (M 10 (30 + h)) (M 10 (150 + d))) 9) m h σ).2) L xs 112 20 4 [(0, .ref 21), (1, .int (Int32.ofInt (d : Int))), (2, .int (Int32.ofInt (σ.1 : Int))), (3, .int (Int32.ofInt (h : Int)))] [] M' := by
  intro m
  induction m with
  | zero =>
    intro h σ M' hh hb wz hm f1 f2 f7
    have e : h = H := by omega
    subst e
    have p6 : 2 ^ h ≤ 2 ^ 6 := Nat.pow_le_pow_right (by decide) h6
    have rb : 0 ≤ (σ.1 : Int) ∧ (σ.1 : Int) ≤ 63 := by omega
    refine qs_use (zs := [(d : Int), (σ.1 : Int), (h : Int), (h : Int)]) df3_c hL hm (qs_in (show 0 ≤ (d : Int) ∧ (d : Int) ≤ 29 by omega) (qs_in rb (qs_in (show 0 ≤ (h : Int) ∧ (h : Int) ≤ 6 by omega) (qs_rd (show (0 : Int) ≤ 4 by decide) (by rw [f1 9 (by decide) (by decide)]; exact h4) (show 0 ≤ (h : Int) ∧ (h : Int) ≤ 6 by omega) (qs_ge (show ¬ (h : Int) < (h : Int) by omega) (qs_fin rfl)))))) (Nat.le_refl _) rfl rfl (qs_c (fun K hK hc hM => ?_) qs_z)
    have fK : ∀ a, a < 128 → K a = M' a := hM
    exact ⟨rfl, hK, fun a ha x => (fK a ha).trans (f1 a ha x), fun j x => by rw [fK 21 (by decide)]; exact f2 j x, by rw [fK 21 (by decide)]; exact f7⟩
  | succ m ih =>
    intro h σ M' hh hb wz hm f1 f2 f7
    have p6 : 2 ^ h ≤ 2 ^ 6 := Nat.pow_le_pow_right (by decide) (by omega)
    have es := pw_s h
    have rb : 0 ≤ (σ.1 : Int) ∧ (σ.1 : Int) ≤ 63 := by omega
    have wn : sx_w sx_r32 (n : Int) := og_w32 (by omega) (by omega)
    have wR := cx_m10 hm0 (k := 30 + h) (by omega)
    have wD := cx_m10 hm0 (k := 150 + d) (by omega)
    have z10 : M' 10 = M 10 := f1 10 (by decide) (by decide)
    have wl : sx_w sx_r32 (lcg σ.2) := mf_w32 0 (by decide) _ _
    have bit := ft_B_ok (n := n) (g := h) (by omega) (by omega)
    have mod2 := Nat.mod_lt (n / 2 ^ h) (show 0 < 2 by decide)
    refine qs_use (zs := [(d : Int), (σ.1 : Int), (h : Int), (H : Int), (n : Int), σ.2, M 10 (30 + h), M 10 (150 + d)]) df2_c hL hm (qs_in (show 0 ≤ (d : Int) ∧ (d : Int) ≤ 29 by omega) (qs_in rb (qs_in (show 0 ≤ (h : Int) ∧ (h : Int) ≤ 5 by omega) (qs_rd (show (0 : Int) ≤ 4 by decide) (by rw [f1 9 (by decide) (by decide)]; exact h4) (show 0 ≤ (H : Int) ∧ (H : Int) ≤ 6 by omega) (qs_lt (show (h : Int) < (H : Int) by omega) (qs_rd (show (0 : Int) ≤ 8 by decide) (show M' 21 8 = (n : Int) by rw [f2 8 (by decide)]; exact hS) wn (qs_rd (show (0 : Int) ≤ 7 by decide) f7 wz (qs_rd (show 0 ≤ (h : Int) + 30 by omega) (show M' 10 ((h : Int) + 30).toNat = M 10 (30 + h) by rw [z10, show ((h : Int) + 30).toNat = 30 + h by omega]) wR (qs_rd (show 0 ≤ (d : Int) + 150 by omega) (show M' 10 ((d : Int) + 150).toNat = M 10 (150 + d) by rw [z10, show ((d : Int) + 150).toNat = 150 + d by omega]) wD (qs_fin rfl)))))))))) (Nat.le_refl _) rfl rfl (qs_c (fun u1 u2 u3 u4 u5 u6 u7 u8 u9 u10 K hK hc hM => ?_) (qs_c (fun u1 u2 u3 u4 u5 u6 u7 u8 u9 u10 K hK hc hM => ?_) (qs_c (fun u1 u2 u3 u4 u5 u6 u7 u8 u9 u10 K hK hc hM => ?_) qs_z)))
    · obtain ⟨c1, c2, c3, c4, c5, c6, c7, c8, c9, c10, c11, c12, c13, c14, -⟩ := hc
      have c1 : 1 ≤ u2 ∧ u2 ≤ 1 := c1
      have c2 : -2147483648 ≤ u6 ∧ u6 ≤ 2147483646 := c2
      have c3 : -2147483647 ≤ u8 ∧ u8 ≤ 2147483647 := c3
      have c4 : u6 < u8 := c4
      have c5 : u1 = sx_mf 10 (n : Int) (h : Int) := c5
      have c6 : u2 = sx_mf 3 u1 1 := c6
      have c7 : u3 = sx_mf 2 σ.2 1103515245 := c7
      have c8 : u4 = sx_mf 0 u3 12345 := c8
      have c9 : u5 = sx_mf 10 u4 8 := c9
      have c10 : u6 = sx_mf 7 u5 12 := c10
      have c11 : u7 = sx_mf 2 (M 10 (30 + h)) (M 10 (150 + d)) := c11
      have c12 : u8 = sx_mf 6 u7 9 := c12
      have c13 : u9 = sx_mf 8 1 (h : Int) := c13
      have c14 : u10 = sx_mf 4 (σ.1 : Int) u9 := c14
      have fK : ∀ a, a < 128 → K a = sx_up M' 21 7 u4 a := hM
      have e2 : u2 = ((n / 2 ^ h % 2 : Nat) : Int) := by rw [← bit, c6, c5]; rfl
      have l1 : u4 = lcg σ.2 := by rw [c8, c7]; rfl
      have l2 : u6 = drw (lcg σ.2) := by rw [c10, c9, l1]; rfl
      have l3 : u8 = sx_mf 6 (sx_mf 2 (M 10 (30 + h)) (M 10 (150 + d))) 9 := by rw [c12, c11]
      have l4 : u10 = ((σ.1 + 2 ^ h : Nat) : Int) := by rw [c14, c13]; exact ft_A_ok (by omega) hb
      have e0 : dfr n (fun h => sx_mf 6 (sx_mf 2 (M 10 (30 + h)) (M 10 (150 + d))) 9) (m + 1) h σ = dfr n (fun h => sx_mf 6 (sx_mf 2 (M 10 (30 + h)) (M 10 (150 + d))) 9) m (h + 1) (σ.1 + 2 ^ h, lcg σ.2) := by
        show (if n / 2 ^ h % 2 = 1 then dfr n (fun h => sx_mf 6 (sx_mf 2 (M 10 (30 + h)) (M 10 (150 + d))) 9) m (h + 1) (if drw (lcg σ.2) < sx_mf 6 (sx_mf 2 (M 10 (30 + h)) (M 10 (150 + d))) 9 then σ.1 + 2 ^ h else σ.1, lcg σ.2) else _) = _
        rw [if_pos (by omega), if_pos (by rw [← l2, ← l3]; exact c4)]
      rw [e0, ← l1]
      rw [← l1] at wl
      subst l4
      refine ih (h + 1) (σ.1 + 2 ^ h, u4) K (by omega) (by show σ.1 + 2 ^ h < 2 ^ (h + 1); omega) wl hK (fun a ha x => by rw [fK a ha, sh_une x]; exact f1 a ha x) (fun j x => by rw [fK 21 (by decide), sh_unj x]; exact f2 j x) ?_
      rw [fK 21 (by decide), sh_uat]
    · obtain ⟨c1, c2, c3, c4, c5, c6, c7, c8, c9, c10, -⟩ := hc
      have c1 : 1 ≤ u2 ∧ u2 ≤ 1 := c1
      have c2 : ¬ u6 < u8 := c2
      have c3 : u1 = sx_mf 10 (n : Int) (h : Int) := c3
      have c4 : u2 = sx_mf 3 u1 1 := c4
      have c5 : u3 = sx_mf 2 σ.2 1103515245 := c5
      have c6 : u4 = sx_mf 0 u3 12345 := c6
      have c7 : u5 = sx_mf 10 u4 8 := c7
      have c8 : u6 = sx_mf 7 u5 12 := c8
      have c9 : u7 = sx_mf 2 (M 10 (30 + h)) (M 10 (150 + d)) := c9
      have c10 : u8 = sx_mf 6 u7 9 := c10
      have fK : ∀ a, a < 128 → K a = sx_up M' 21 7 u4 a := hM
      have e2 : u2 = ((n / 2 ^ h % 2 : Nat) : Int) := by rw [← bit, c4, c3]; rfl
      have l1 : u4 = lcg σ.2 := by rw [c6, c5]; rfl
      have l2 : u6 = drw (lcg σ.2) := by rw [c8, c7, l1]; rfl
      have l3 : u8 = sx_mf 6 (sx_mf 2 (M 10 (30 + h)) (M 10 (150 + d))) 9 := by rw [c10, c9]
      have e0 : dfr n (fun h => sx_mf 6 (sx_mf 2 (M 10 (30 + h)) (M 10 (150 + d))) 9) (m + 1) h σ = dfr n (fun h => sx_mf 6 (sx_mf 2 (M 10 (30 + h)) (M 10 (150 + d))) 9) m (h + 1) (σ.1, lcg σ.2) := by
        show (if n / 2 ^ h % 2 = 1 then dfr n (fun h => sx_mf 6 (sx_mf 2 (M 10 (30 + h)) (M 10 (150 + d))) 9) m (h + 1) (if drw (lcg σ.2) < sx_mf 6 (sx_mf 2 (M 10 (30 + h)) (M 10 (150 + d))) 9 then σ.1 + 2 ^ h else σ.1, lcg σ.2) else _) = _
        rw [if_pos (by omega), if_neg (by rw [← l2, ← l3]; exact c2)]
      rw [e0, ← l1]
      rw [← l1] at wl
      refine ih (h + 1) (σ.1, u4) K (by omega) (by show σ.1 < 2 ^ (h + 1); omega) wl hK (fun a ha x => by rw [fK a ha, sh_une x]; exact f1 a ha x) (fun j x => by rw [fK 21 (by decide), sh_unj x]; exact f2 j x) ?_
      rw [fK 21 (by decide), sh_uat]
    · obtain ⟨c1, c2, c3, -⟩ := hc
      have c1 : u2 ≠ 1 := c1
      have c2 : u1 = sx_mf 10 (n : Int) (h : Int) := c2
      have c3 : u2 = sx_mf 3 u1 1 := c3
      have fK : ∀ a, a < 128 → K a = M' a := hM
      have e2 : u2 = ((n / 2 ^ h % 2 : Nat) : Int) := by rw [← bit, c3, c2]; rfl
      have e0 : dfr n (fun h => sx_mf 6 (sx_mf 2 (M 10 (30 + h)) (M 10 (150 + d))) 9) (m + 1) h σ = dfr n (fun h => sx_mf 6 (sx_mf 2 (M 10 (30 + h)) (M 10 (150 + d))) 9) m (h + 1) σ := if_neg (by omega)
      rw [e0]
      exact ih (h + 1) σ K (by omega) (by omega) wz hK (fun a ha x => (fK a ha).trans (f1 a ha x)) (fun j x => by rw [fK 21 (by decide)]; exact f2 j x) (by rw [fK 21 (by decide)]; exact f7)
theorem df_x {n : Nat} (hL : L < 2 ^ 31) (hm : sx_mok cl_ly M) (h4 : M 9 4 = (H : Int)) (h6 : H ≤ 6) (hd : d ≤ 29) (hn : n < 64) (hS : M 21 8 = (n : Int)) (h7 : M 21 7 = z) (wz : sx_w sx_r32 z) : rz_fin (fun r N => r = some (.int (Int32.ofInt (((dfr n (fun h => sx_mf 6 (sx_mf 2 (M 10 (30 + h)) (M 10 (150 + d))) 9) H 0 (0, z)).1 : Nat) : Int))) ∧ sx_mok cl_ly N ∧ (∀ a, a < 128 → a ≠ 21 → N a = M a) ∧ (∀ j, j ≠ 7 → N 21 j = M 21 j) ∧ N 21 7 = (dfr n (fun h => sx_mf 6 (sx_mf 2 (M 10 (30 + h)) (M 10 (150 + d))) 9) H 0 (0, z)).2) L xs 112 20 0 [(0, .ref 21), (1, .int (Int32.ofInt (d : Int)))] [] M := by
  refine qs_use (zs := [(d : Int)]) df1_c hL hm (qs_in (show 0 ≤ (d : Int) ∧ (d : Int) ≤ 29 by omega) (qs_fin rfl)) (Nat.le_refl _) rfl rfl (qs_c (fun K hK hc hM => ?_) qs_z)
  have fK : ∀ a, a < 128 → K a = M a := hM
  exact df_loop (xs := xs) hL h4 h6 hd hn hm hS H 0 (0, z) K (Nat.zero_add H) (show (0 : Nat) < 2 ^ 0 by decide) wz hK (fun a ha _ => fK a ha) (fun j _ => by rw [fK 21 (by decide)]) (by rw [fK 21 (by decide)]; exact h7)
/-- a season's days -/
theorem sn_loop {n0 : Nat} (hL : L < 2 ^ 31) (hw : WF M) (hR : vu_R M) (hn : M 9 5 = (nc : Int)) (h12 : nc ≤ 12) (h4 : M 9 4 = (H : Int)) (h6 : H ≤ 6) (hn0 : M 9 6 = (n0 : Int)) (hn64 : n0 < 64) : ∀ (k d n : Nat) (T : Int × (Nat → Int)) (z : Int) (M' : Nat → Nat → Int), d + k = 30 → n < 64 → sbs n n0 → sx_w sx_r32 z → sx_mok cl_ly M' → fs_x M M' → M' 21 8 = (n : Int) → vs_P T M' → M' 21 7 = z → rz_fin (fun r N => r = some (.int (Int32.ofInt ((n0 - (dws (vs_D M) (M 11) (vs_lk M) nc H (fun h d => sx_mf 6 (sx_mf 2 (M 10 (30 + h)) (M 10 (150 + d))) 9) k d n T z).1 : Nat) : Int))) ∧ sx_mok cl_ly N ∧ fs_x M N ∧ N 21 7 = (dws (vs_D M) (M 11) (vs_lk M) nc H (fun h d => sx_mf 6 (sx_mf 2 (M 10 (30 + h)) (M 10 (150 + d))) 9) k d n T z).2) L xs 111 21 12 [(0, .ref 21), (1, .int (Int32.ofInt (d : Int)))] [] M' := by
  intro k
  induction k with
  | zero =>
    intro d n T z M' hd hn6 hs wz hm x h8 hP h7
    have e : d = 30 := by omega
    subst e
    have w0 : sx_w sx_r32 (n0 : Int) := og_w32 (by omega) (by omega)
    have wn : sx_w sx_r32 (n : Int) := og_w32 (by omega) (by omega)
    refine qs_use (zs := [(n0 : Int), (n : Int)]) sn6_c hL hm (qs_rd (show (0 : Int) ≤ 6 by decide) (by rw [x 9 (by decide) (by decide)]; exact hn0) w0 (qs_rd (show (0 : Int) ≤ 8 by decide) h8 wn (qs_fin rfl))) (Nat.le_refl _) rfl rfl (qs_c (fun u1 u2 K hK hc hM => ?_) qs_z)
    obtain ⟨c1, c2, -⟩ := hc
    have c1 : u1 = sx_mf 5 (n : Int) (-1) := c1
    have c2 : u2 = sx_mf 3 (n0 : Int) u1 := c2
    have fK : ∀ a, a < 128 → K a = M' a := hM
    have e1 : u2 = ((n0 - n : Nat) : Int) := by rw [c2, c1]; exact (sb_ok hn64 hn6 hs).1
    subst e1
    exact ⟨rfl, hK, fun a ha q => (fK a ha).trans (x a ha q), by rw [fK 21 (by decide)]; exact h7⟩
  | succ k ih =>
    intro d n T z M' hd hn6 hs wz hm x h8 hP h7
    refine qs_use (zs := [(d : Int)]) sn3_c hL hm (qs_in (show 0 ≤ (d : Int) ∧ (d : Int) ≤ 29 by omega) (qs_fin rfl)) (Nat.le_refl _) rfl rfl (qs_c (fun N1 hN1 hc hM => ?_) qs_z)
    have f1 : ∀ a, a < 128 → N1 a = M' a := hM
    have x1 : fs_x M N1 := fun a ha q => (f1 a ha).trans (x a ha q)
    show rz_fin _ L xs 111 21 20 [(0, .ref 21), (1, .int (Int32.ofInt (d : Int)))] [.int (Int32.ofInt (d : Int)), .ref 21] N1
    refine qs_vc (k := 56) (b := 21) (d := 20) (d' := 20) (rest := []) rfl rfl rfl rfl rfl rfl rfl rfl (Nat.le_refl _) rfl (rz_d (by decide) (dw_spend (xs := xs) (nc := nc) (d := d) (T := T) (S := (n : Int)) hL hN1 (by omega) hw hR hn x1 (by rw [f1 21 (by decide)]; exact h8) ⟨by rw [f1 21 (by decide)]; exact hP.1, fun h => by rw [f1 23 (by decide)]; exact hP.2 h⟩)) (fun r9 N2 hr => ?_)
    obtain ⟨rfl, hN2, F2, P2⟩ := hr
    obtain ⟨C, hC⟩ : ∃ C, vq_cd (vs_D M) (M 11) (vs_lk M) (n : Int) nc d T = C := ⟨_, rfl⟩
    have rC := vq_cd_r (D := vs_D M) (W := M 11) (lk := vs_lk M) (S := (n : Int)) (nc := nc) (d := d) (T := T) (fun d h b => (vq_held_r _).2)
    rw [hC] at P2 rC
    have x2 : fs_x M N2 := fun a ha q => (F2.1 a ha (by omega)).trans (x1 a ha q)
    have rV : -1 ≤ vq_hs (M 11) C ∧ vq_hs (M 11) C ≤ 5 := by
      unfold vq_hs
      by_cases q : C < 0
      · rw [if_pos q]
        decide
      · rw [if_neg q]
        have w11 : 0 ≤ M 11 C.toNat ∧ M 11 C.toNat ≤ 5 := by
          rw [← x2 11 (by decide) (by decide)]
          exact hN2 11 _ _ _ rfl (by show C.toNat < 12; omega) rfl
        omega
    obtain ⟨V, hV⟩ : ∃ V, vq_hs (M 11) C = V := ⟨_, rfl⟩
    have e8 : N2 21 8 = (n : Int) := by rw [F2.2 8 (by decide), f1 21 (by decide)]; exact h8
    have e7 : N2 21 7 = z := by rw [F2.2 7 (by decide), f1 21 (by decide)]; exact h7
    rw [hC, hV]
    rw [hV] at rV
    have ro : -2 ≤ vq_or V ∧ vq_or V ≤ 5 := by unfold vq_or; split <;> omega
    refine qs_use (zs := [(d : Int), vq_or V]) sn4_c hL hN2 (qs_in (show 0 ≤ (d : Int) ∧ (d : Int) ≤ 29 by omega) (qs_in ro (qs_fin rfl))) (Nat.le_refl _) rfl rfl (qs_c (fun N3 hN3 hc hM => ?_) qs_z)
    have f3 : ∀ a, a < 128 → N3 a = N2 a := hM
    show rz_fin _ L xs 111 21 26 [(0, .ref 21), (1, .int (Int32.ofInt (d : Int))), (2, .int (Int32.ofInt (vq_or V)))] [.int (Int32.ofInt (d : Int)), .ref 21] N3
    have x3 : fs_x M N3 := fun a ha q => (f3 a ha).trans (x2 a ha q)
    have s8 : N3 21 8 = (n : Int) := by rw [f3 21 (by decide)]; exact e8
    refine qs_vc (k := 112) (b := 21) (d := 20) (d' := 20) (rest := []) rfl rfl rfl rfl rfl rfl rfl rfl (Nat.le_refl _) rfl (df_x (xs := xs) (M := N3) (H := H) (d := d) (n := n) (z := z) hL hN3 (by rw [x3 9 (by decide) (by decide)]; exact h4) h6 (by omega) hn6 s8 (by rw [f3 21 (by decide)]; exact e7) wz) (fun r9 N4 hr => ?_)
    obtain ⟨rfl, hN4, F4, F421, F47⟩ := hr
    have e10 : N3 10 = M 10 := x3 10 (by decide) (by decide)
    rw [e10] at F47 ⊢
    have p6 : 2 ^ (0 + H) ≤ 2 ^ 6 := Nat.pow_le_pow_right (by decide) (by omega)
    have bl := dfr_lt (n := n) (od := fun h => sx_mf 6 (sx_mf 2 (M 10 (30 + h)) (M 10 (150 + d))) 9) H 0 (0, z) (show (0 : Nat) < 2 ^ 0 by decide)
    have bz := dfb_z (n := n) (od := fun h => sx_mf 6 (sx_mf 2 (M 10 (30 + h)) (M 10 (150 + d))) 9) (V := V) (z := z) (m := H)
    obtain ⟨bs, bs2⟩ := dfb_sub (n := n) (od := fun h => sx_mf 6 (sx_mf 2 (M 10 (30 + h)) (M 10 (150 + d))) 9) (V := V) H 0 (0, z) (show (0 : Nat) < 2 ^ 0 by decide) (fun g => by
      show 0 / 2 ^ g % 2 ≤ _
      rw [Nat.zero_div]
      exact Nat.zero_le _)
    have e0 : dws (vs_D M) (M 11) (vs_lk M) nc H (fun h d => sx_mf 6 (sx_mf 2 (M 10 (30 + h)) (M 10 (150 + d))) 9) (k + 1) d n T z = dws (vs_D M) (M 11) (vs_lk M) nc H (fun h d => sx_mf 6 (sx_mf 2 (M 10 (30 + h)) (M 10 (150 + d))) 9) k (d + 1) (n - (dfb n (fun h => sx_mf 6 (sx_mf 2 (M 10 (30 + h)) (M 10 (150 + d))) 9) V H 0 (0, z)).1) (vq_nx (vs_D M) (M 11) T C) (dfb n (fun h => sx_mf 6 (sx_mf 2 (M 10 (30 + h)) (M 10 (150 + d))) 9) V H 0 (0, z)).2 := by
      show dws (vs_D M) (M 11) (vs_lk M) nc H (fun h d => sx_mf 6 (sx_mf 2 (M 10 (30 + h)) (M 10 (150 + d))) 9) k (d + 1) (n - (dfb n (fun h => sx_mf 6 (sx_mf 2 (M 10 (30 + h)) (M 10 (150 + d))) 9) (vq_hs (M 11) (vq_cd (vs_D M) (M 11) (vs_lk M) (n : Int) nc d T)) H 0 (0, z)).1) (vq_nx (vs_D M) (M 11) T (vq_cd (vs_D M) (M 11) (vs_lk M) (n : Int) nc d T)) (dfb n (fun h => sx_mf 6 (sx_mf 2 (M 10 (30 + h)) (M 10 (150 + d))) 9) (vq_hs (M 11) (vq_cd (vs_D M) (M 11) (vs_lk M) (n : Int) nc d T)) H 0 (0, z)).2 = _
      rw [hC, hV]
    rw [e0]
    rw [bz] at bs bs2 ⊢
    -- who burns: b; what was drawn: y
    have wy : sx_w sx_r32 (dfr n (fun h => sx_mf 6 (sx_mf 2 (M 10 (30 + h)) (M 10 (150 + d))) 9) H 0 (0, z)).2 := by
      rw [← F47]
      exact cv_ly_ok (g := (21, 7, sx_r32)) hN4 (by decide +kernel)
    generalize dfr n (fun h => sx_mf 6 (sx_mf 2 (M 10 (30 + h)) (M 10 (150 + d))) 9) H 0 (0, z) = σ at bl bs bs2 wy F47 ⊢
    obtain ⟨b, y⟩ := σ
    have bl : b < 2 ^ (0 + H) := bl
    have bs : sbs (rmv V b) n := bs
    have bs2 : rmv V b < 2 ^ (0 + H) := bs2
    obtain ⟨t1, t2, t3⟩ := sb_ok hn6 (by omega) bs
    have x4 : fs_x M N4 := fun a ha q => by
      by_cases q21 : a = 21
      · omega
      · exact (F4 a ha q21).trans (x3 a ha q)
    have s48 : N4 21 8 = (n : Int) := by rw [F421 8 (by decide)]; exact s8
    have rb : 0 ≤ (b : Int) ∧ (b : Int) ≤ 63 := by omega
    have wn : sx_w sx_r32 (n : Int) := og_w32 (by omega) (by omega)
    have go : ∀ K : Nat → Nat → Int, sx_mok cl_ly K → (∀ a, a < 128 → K a = sx_up N4 21 8 ((n - rmv V b : Nat) : Int) a) → rz_fin (fun r N => r = some (.int (Int32.ofInt ((n0 - (dws (vs_D M) (M 11) (vs_lk M) nc H (fun h d => sx_mf 6 (sx_mf 2 (M 10 (30 + h)) (M 10 (150 + d))) 9) k (d + 1) (n - rmv V b) (vq_nx (vs_D M) (M 11) T C) y).1 : Nat) : Int))) ∧ sx_mok cl_ly N ∧ fs_x M N ∧ N 21 7 = (dws (vs_D M) (M 11) (vs_lk M) nc H (fun h d => sx_mf 6 (sx_mf 2 (M 10 (30 + h)) (M 10 (150 + d))) 9) k (d + 1) (n - rmv V b) (vq_nx (vs_D M) (M 11) T C) y).2) L xs 111 21 12 [(0, .ref 21), (1, .int (Int32.ofInt ((d : Int) + 1)))] [] K := fun K hK fK => by
      refine ih (d + 1) (n - rmv V b) (vq_nx (vs_D M) (M 11) T C) y K (by omega) (by omega) (fun g => ?_) wy hK (fun a ha q => ?_) ?_ ⟨?_, fun h => ?_⟩ ?_
      · have a1 := t3 g
        have a2 := hs g
        omega
      · by_cases q21 : a = 21
        · omega
        · rw [fK a ha, sh_une q21]
          exact x4 a ha q
      · rw [fK 21 (by decide), sh_uat]
      · rw [fK 21 (by decide), sh_unj (by decide), F421 6 (by decide), f3 21 (by decide)]
        exact P2.1
      · rw [fK 23 (by decide), sh_une (by decide), F4 23 (by decide) (by decide), f3 23 (by decide)]
        exact P2.2 h
      · rw [fK 21 (by decide), sh_unj (by decide), F47]
    show rz_fin _ L xs 111 21 29 [(0, .ref 21), (1, .int (Int32.ofInt (d : Int))), (2, .int (Int32.ofInt (vq_or V)))] [.int (Int32.ofInt (b : Int))] N4
    refine qs_use (zs := [(d : Int), vq_or V, (b : Int), (n : Int)]) sn5_c hL hN4 (qs_in (show 0 ≤ (d : Int) ∧ (d : Int) ≤ 29 by omega) (qs_in ro (qs_in rb (qs_rd (show (0 : Int) ≤ 8 by decide) s48 wn (qs_fin rfl))))) (Nat.le_refl _) rfl rfl (qs_c (fun u1 u2 u3 u4 u5 K hK hc hM => ?_) (qs_c (fun u1 u2 u3 u4 u5 K hK hc hM => ?_) qs_z))
    · obtain ⟨c1, c2, c3, -⟩ := hc
      have c1 : -2 ≤ vq_or V ∧ vq_or V ≤ -1 := c1
      have c2 : u1 = sx_mf 5 (b : Int) (-1) := c2
      have c3 : u2 = sx_mf 3 (n : Int) u1 := c3
      have fK : ∀ a, a < 128 → K a = sx_up N4 21 8 u2 a := hM
      have v0 : V < 0 := by
        unfold vq_or at c1
        split at c1
        · assumption
        · omega
      have er : rmv V b = b := if_pos v0
      rw [er] at t1 go
      rw [c3, c2, t1] at fK
      rw [er]
      exact go K hK fK
    · obtain ⟨c1, c2, c3, c4, c5, c6, -⟩ := hc
      have c1 : 0 ≤ vq_or V ∧ vq_or V ≤ 5 := c1
      have c2 : u1 = sx_mf 8 1 (vq_or V) := c2
      have c3 : u2 = sx_mf 5 u1 (-1) := c3
      have c4 : u3 = sx_mf 3 (b : Int) u2 := c4
      have c5 : u4 = sx_mf 5 u3 (-1) := c5
      have c6 : u5 = sx_mf 3 (n : Int) u4 := c6
      have fK : ∀ a, a < 128 → K a = sx_up N4 21 8 u5 a := hM
      have v0 : ¬ V < 0 := fun q => by
        unfold vq_or at c1
        rw [if_pos q] at c1
        omega
      have ev : vq_or V = V := if_neg v0
      have e5 : u5 = sx_mf 3 (n : Int) (sx_mf 5 (sx_mf 3 (b : Int) (sx_mf 5 (sx_mf 8 1 (vq_or V)) (-1))) (-1)) := by rw [c6, c5, c4, c3, c2]
      obtain ⟨kk, rfl⟩ := Int.eq_ofNat_of_zero_le (show 0 ≤ V by omega)
      have er : rmv (kk : Int) b = b - b / 2 ^ kk % 2 * 2 ^ kk := by
        unfold rmv
        rw [if_neg v0, Int.toNat_natCast]
      have t5 := sb_r (b := b) (k := kk) (by omega) (by omega)
      rw [← er] at t5
      rw [e5, ev, t5, t1] at fK
      exact go K hK fK
/-- a season -/
theorem sn_s {n0 : Nat} (hL : L < 2 ^ 31) (hm : sx_mok cl_ly N) (hw : WF M) (hR : vu_R M) (hn : M 9 5 = (nc : Int)) (h12 : nc ≤ 12) (h4 : M 9 4 = (H : Int)) (h6 : H ≤ 6) (hn0 : M 9 6 = (n0 : Int)) (hn64 : n0 < 64) (ht : M 10 210 = (t : Int)) (h29 : t ≤ 29) (x : fs_x M N) (h7 : N 21 7 = z) (wz : sx_w sx_r32 z) : rz_fin (fun r N' => ∃ T, vq_E 6 (M 9 7, M 12) T ∧ r = some (.int (Int32.ofInt ((n0 - (dws (vs_D M) (M 11) (vs_lk M) nc H (fun h d => sx_mf 6 (sx_mf 2 (M 10 (30 + h)) (M 10 (150 + d))) 9) (30 - t) t n0 T z).1 : Nat) : Int))) ∧ sx_mok cl_ly N' ∧ fs_x M N' ∧ N' 21 7 = (dws (vs_D M) (M 11) (vs_lk M) nc H (fun h d => sx_mf 6 (sx_mf 2 (M 10 (30 + h)) (M 10 (150 + d))) 9) (30 - t) t n0 T z).2) L xs 111 21 0 [(0, .ref 21)] [] N := by
  refine qs_use (zs := []) sn1_c hL hm (qs_fin rfl) (Nat.le_refl _) rfl rfl (qs_c (fun N1 hN1 hc hM => ?_) qs_z)
  have f1 : ∀ a, a < 128 → N1 a = N a := hM
  show rz_fin _ L xs 111 21 1 [(0, .ref 21)] [.ref 21] N1
  refine qs_vc (k := 54) (b := 21) (d := 20) (d' := 20) (rest := []) rfl rfl rfl rfl rfl rfl rfl rfl (Nat.le_refl _) rfl (rz_d (by decide) (pb_begin (xs := xs) hL hN1)) (fun r9 X hX => ?_)
  have hr : r9 = none := hX.1
  subst hr
  have hX := pb_tr f1 hX
  obtain ⟨-, hmX, xe, x21, x6, x8, x23⟩ := id hX
  have xX : fs_x M X := fun a ha q => (xe a ha (by omega) (by omega)).trans (x a ha q)
  have n9 : N 9 = M 9 := x 9 (by decide) (by decide)
  have n12 : N 12 = M 12 := x 12 (by decide) (by decide)
  refine qs_use (zs := [(t : Int)]) sn2_c hL hmX (qs_rd (show (0 : Int) ≤ 210 by decide) (by rw [xX 10 (by decide) (by decide)]; exact ht) (show 0 ≤ (t : Int) ∧ (t : Int) ≤ 29 by omega) (qs_fin rfl)) (Nat.le_refl _) rfl rfl (qs_c (fun N2 hN2 hc hM => ?_) qs_z)
  have f2 : ∀ a, a < 128 → N2 a = X a := hM
  refine qs_w (sn_loop (xs := xs) (M := M) (nc := nc) (H := H) (n0 := n0) hL hw hR hn h12 h4 h6 hn0 hn64 (30 - t) t n0 (X 21 6, X 23) z N2 (by omega) hn64 (fun g => Nat.le_refl _) wz hN2 (fun a ha q => (f2 a ha).trans (xX a ha q)) (by rw [f2 21 (by decide), x8, n9]; exact hn0) ⟨by rw [f2 21 (by decide)], fun h => by rw [f2 23 (by decide)]⟩ (by rw [f2 21 (by decide), x21 7 (by decide) (by decide)]; exact h7)) (fun r N' g => ?_)
  obtain ⟨rfl, g2, g3, g4⟩ := g
  refine ⟨(X 21 6, X 23), ⟨?_, fun h hh => ?_⟩, rfl, g2, g3, g4⟩
  · show M 9 7 = X 21 6
    rw [x6, n9]
  · show M 12 h = X 23 h
    rw [x23 h hh, n12]
end
