/-! pass: the reference; the pair. -/
section
variable {L : Nat} {xs : Nat → Int32} {M M' N N' K M0 M1 M2 X : Nat → Nat → Int} {b s r v t S : Int} {nc H : Nat}
def pm1_i : List qs_I := [(0, 0, (0, 0), sx_r32), (1, 53, (0, 1), (0, 6)), (1, 53, (0, 13), (0, 29))]
def pm1_T : List og_T := [(none, some (0, 0, -1), [], [], [], [(0, (9, 0), (0, 0), -2147483648, -1), (5, (0, 1), (10, 0), 8, 12), (5, (12, 0), (0, 1), 1, 13)]), (none, some (0, 0, -5), [], [], [], [(0, (9, 0), (0, 0), 0, 2147483647), (0, (11, 0), (0, 0), 29, 29), (0, (13, 0), (0, 0), 0, 2147483647), (2, (13, 0), (9, 0), 0, 0), (5, (0, 1), (10, 0), 8, 12), (5, (12, 0), (0, 1), 1, 13)]), (some 31, none, [(2, 0, 53)], [(0, 2, 0, 53), (1, 0, 9, 0)], [], [(0, (9, 0), (0, 0), 0, 2147483647), (0, (13, 0), (0, 0), 0, 2147483647), (7, (11, 0), (0, 0), 29, 0), (2, (13, 0), (9, 0), 0, 0), (5, (0, 1), (10, 0), 8, 12), (5, (12, 0), (0, 1), 1, 13)]), (none, some (0, 0, -1), [], [], [], [(0, (9, 0), (0, 0), 0, 2147483647), (0, (13, 0), (0, 0), -2147483648, 2147483646), (1, (13, 0), (9, 0), 0, 0), (5, (0, 1), (10, 0), 8, 12), (5, (12, 0), (0, 1), 1, 13)])]
theorem pm1_c : qs_chk (fun pc => Nat.beq pc 31) pm1_i 2 pm1_T 400 400 20 240 0 [(0, 2, 0, 53), (1, 0, 9, 0)] [] = true := by decide +kernel
def pm2_i : List qs_I := [(0, 0, (0, 0), sx_r32), (1, 53, (0, 13), (0, 28))]
def pm2_T : List og_T := [(some 39, none, [(0, 10, 0), (2, 0, 53)], [(0, 2, 0, 53), (1, 0, 9, 0)], [], [])]
theorem pm2_c : qs_chk (fun pc => Nat.beq pc 39) pm2_i 0 pm2_T 400 400 20 240 34 [(0, 2, 0, 53), (1, 0, 9, 0)] [] = true := by decide +kernel
def pm3_i : List qs_I := [(0, 0, (0, 0), sx_r32), (0, 0, (0, 0), (0, 5)), (1, 53, (0, 7), sx_r32), (1, 53, (0, 13), (0, 28)), (1, 53, (0, 36), sx_r32), (1, 74, (10, 0), sx_r32), (1, 82, (0, 0), sx_r32), (1, 82, (0, 1), sx_r32), (1, 82, (0, 2), sx_r32), (1, 82, (0, 3), sx_r32)]
def pm3_T : List og_T := [(some 126, none, [(0, 28, 0), (0, 18, 0), (0, 0, 3), (2, 0, 82)], [(0, 2, 0, 53), (1, 0, 9, 0), (2, 0, 10, 0), (3, 0, 28, 0)], [(82, (0, 2), (25, 0)), (82, (0, 1), (22, 0)), (82, (0, 0), (20, 0)), (74, (10, 0), (21, 0)), (53, (0, 11), (13, 0))], [(0, (24, 0), (0, 0), 1, 1), (5, (9, 0), (11, 0), 3, 19), (5, (15, 0), (0, 1), 0, 20), (5, (14, 0), (0, 1), 0, 21), (5, (16, 0), (0, 1), 0, 22), (5, (19, 0), (10, 0), 9, 23), (5, (23, 0), (0, 1), 3, 24), (5, (17, 0), (0, 1), 0, 25), (5, (0, 1), (10, 0), 8, 26), (5, (26, 0), (0, -1), 5, 27), (5, (19, 0), (27, 0), 3, 28)]), (some 126, none, [(0, 27, 0), (0, 18, 0), (0, 0, 3), (2, 0, 82)], [(0, 2, 0, 53), (1, 0, 9, 0), (2, 0, 10, 0), (3, 0, 27, 0)], [(82, (0, 1), (22, 0)), (82, (0, 0), (20, 0)), (74, (10, 0), (21, 0)), (53, (0, 11), (13, 0))], [(7, (24, 0), (0, 0), 1, 0), (5, (9, 0), (11, 0), 3, 19), (5, (15, 0), (0, 1), 0, 20), (5, (14, 0), (0, 1), 0, 21), (5, (16, 0), (0, 1), 0, 22), (5, (19, 0), (10, 0), 9, 23), (5, (23, 0), (0, 1), 3, 24), (5, (0, 1), (10, 0), 8, 25), (5, (25, 0), (0, -1), 5, 26), (5, (19, 0), (26, 0), 3, 27)])]
theorem pm3_c : qs_chk (fun pc => Nat.beq pc 126) pm3_i 10 pm3_T 400 400 20 240 42 [(0, 2, 0, 53), (1, 0, 9, 0)] [(0, 10, 0)] = true := by decide +kernel
def pm4_i : List qs_I := [(0, 0, (0, 0), sx_r32), (1, 53, (0, 7), sx_r32), (1, 53, (0, 13), (0, 28)), (1, 53, (0, 36), sx_r32), (1, 82, (0, 0), sx_r32), (1, 82, (0, 3), sx_r32)]
def pm4_T : List og_T := [(some 126, none, [(0, 15, 0), (0, 14, 0), (0, 0, 3), (2, 0, 82)], [(0, 2, 0, 53), (1, 0, 9, 0), (2, 0, 0, -1), (3, 0, 15, 0)], [(82, (0, 0), (16, 0)), (53, (0, 11), (12, 0))], [(5, (9, 0), (10, 0), 3, 15), (5, (13, 0), (0, 1), 0, 16)])]
theorem pm4_c : qs_chk (fun pc => Nat.beq pc 126) pm4_i 2 pm4_T 400 400 20 240 42 [(0, 2, 0, 53), (1, 0, 9, 0)] [(0, 0, -1)] = true := by decide +kernel
def pm5_i : List qs_I := [(0, 0, (0, 0), (-1, 5)), (0, 0, (0, 0), sx_r32), (0, 0, (0, 0), sx_r32), (0, 0, (0, 0), sx_r32), (0, 0, (0, 0), sx_r32), (1, 53, (0, 7), sx_r32), (1, 53, (0, 13), (0, 28))]
def pm5_T : List og_T := [(none, some (0, 0, -2), [], [], [(82, (0, 3), (16, 0)), (53, (0, 13), (15, 1)), (53, (0, 7), (18, 0))], [(0, (9, 0), (0, 0), -1, -1), (5, (11, 0), (12, 0), 0, 16), (5, (10, 0), (0, -1), 5, 17), (5, (14, 0), (17, 0), 3, 18)]), (none, some (0, 9, 0), [], [], [(82, (0, 3), (16, 0)), (53, (0, 13), (15, 1)), (53, (0, 7), (18, 0))], [(0, (9, 0), (0, 0), 0, 5), (5, (11, 0), (12, 0), 0, 16), (5, (10, 0), (0, -1), 5, 17), (5, (14, 0), (17, 0), 3, 18)])]
theorem pm5_c : qs_chk (fun _ => false) pm5_i 3 pm5_T 400 400 20 240 129 [(0, 2, 0, 53), (1, 0, 13, 0), (2, 0, 9, 0), (3, 0, 10, 0)] [(0, 12, 0), (0, 11, 0), (0, 0, 3), (2, 0, 82)] = true := by decide +kernel
theorem bf_c : ((List.range 64).all fun k => qs_chk (fun _ => false) [] 0 [(none, some (0, 0, pa_n k), [], [], [], [])] 400 400 2 222 0 [(0, 0, 0, (k : Int))] []) = true := by decide +kernel
theorem bf_ok {k : Nat} (hk : k < 64) (hL : L < 2 ^ 31) (hm : sx_mok cl_ly M) : rz_fin (fun r N => r = some (.int (Int32.ofInt (pa_n k))) ∧ sx_mok cl_ly N ∧ ∀ a, a < 128 → N a = M a) L xs 222 2 0 [(0, .int (Int32.ofInt (k : Int)))] [] M := qs_use (zs := []) (List.all_eq_true.mp bf_c k (List.mem_range.mpr hk)) hL hm (qs_fin rfl) (Nat.le_refl _) rfl rfl (qs_c (fun N hN hc hM => ⟨rfl, hN, hM⟩) qs_z)
theorem pa_a0 (hv : sx_w sx_r32 v) : sx_mf 0 v 0 = v := by
  have e : sx_mf 0 v 0 = (Int32.ofInt v + Int32.ofInt 0).toInt := rfl
  rw [e, show Int32.ofInt 0 = 0 from rfl, Int32.add_zero, sx_i32 hv]
theorem pa_nr {k : Nat} : sx_w sx_r32 (pa_n k) := by
  unfold pa_n
  have := List.length_filter_le (fun i => Nat.testBit k i) (List.range 6)
  rw [List.length_range] at this
  exact og_w32 (by omega) (by omega)
/-- the end of the reference's day -/
theorem pm_end {k : Nat} (hL : L < 2 ^ 31) (hm : sx_mok cl_ly K) (hk : k < 64) (hr : -1 ≤ r ∧ r ≤ 5) (e7 : K 53 7 = S) (et : K 53 13 = t) (ht : 0 ≤ t ∧ t ≤ 28) (wv : sx_w sx_r32 v) (wb : sx_w sx_r32 b) : rz_fin (fun r' N => r' = some (.int (Int32.ofInt (vq_or r))) ∧ sx_mok cl_ly N ∧ ∀ a, a < 128 → N a = sx_up (sx_up (sx_up K 53 7 (pa_s S (k : Int))) 53 13 (t + 1)) 82 3 (sx_mf 0 v (pa_n k)) a) L xs 240 20 126 [(0, .ref 53), (1, .int (Int32.ofInt b)), (2, .int (Int32.ofInt r)), (3, .int (Int32.ofInt (k : Int)))] [.int (Int32.ofInt (k : Int)), .int (Int32.ofInt v), .int (Int32.ofInt 3), .ref 82] K := by
  refine qs_sc (k := 222) (d := 19) (d' := 19) (as := [.int (Int32.ofInt (k : Int))]) (rest := [.int (Int32.ofInt v), .int (Int32.ofInt 3), .ref 82]) rfl rfl rfl rfl rfl rfl rfl (Nat.le_refl _) rfl (rz_d (by decide) (bf_ok (xs := xs) hk hL hm)) (fun r9 K1 hr9 => ?_)
  obtain ⟨rfl, hm1, f1⟩ := hr9
  have w7 : sx_w sx_r32 S := by rw [← e7]; exact cv_ly_ok (g := (53, 7, sx_r32)) hm (by decide +kernel)
  have g53 : K1 53 = K 53 := f1 53 (by decide)
  have up : ∀ {N : Nat → Nat → Int} {x y z : Int}, (∀ a, a < 128 → N a = sx_up (sx_up (sx_up K1 53 7 x) 53 13 y) 82 3 z a) → ∀ a, a < 128 → N a = sx_up (sx_up (sx_up K 53 7 x) 53 13 y) 82 3 z a := fun {N x y z} h a ha => by
    rw [h a ha]
    funext i
    unfold sx_up
    rw [f1 a ha]
  have kk : sx_w sx_r32 (k : Int) := og_w32 (by omega) (by omega)
  refine qs_use (zs := [r, (k : Int), v, pa_n k, b, S, t]) pm5_c hL hm1 (qs_in (show -1 ≤ r ∧ r ≤ 5 from hr) (qs_iw kk (qs_iw wv (qs_iw pa_nr (qs_iw wb (qs_rd (show (0 : Int) ≤ 7 by decide) (by rw [g53]; exact e7) w7 (qs_rd (show (0 : Int) ≤ 13 by decide) (by rw [g53]; exact et) ht (qs_fin rfl)))))))) (Nat.le_refl _) rfl rfl (qs_c (fun u1 u2 u3 N hN hc hM => ?_) (qs_c (fun u1 u2 u3 N hN hc hM => ?_) qs_z))
  · obtain ⟨c1, c2, c3, c4, -⟩ := hc
    have c1 : -1 ≤ r ∧ r ≤ -1 := c1
    have c2 : u1 = sx_mf 0 v (pa_n k) := c2
    have c3 : u2 = sx_mf 5 (k : Int) (-1) := c3
    have c4 : u3 = sx_mf 3 S u2 := c4
    have hM : ∀ a, a < 128 → N a = sx_up (sx_up (sx_up K1 53 7 u3) 53 13 (t + 1)) 82 3 u1 a := hM
    rw [c4, c3, c2] at hM
    have e : vq_or r = -2 := if_pos (by omega)
    rw [e]
    exact ⟨rfl, hN, up hM⟩
  · obtain ⟨c1, c2, c3, c4, -⟩ := hc
    have c1 : 0 ≤ r ∧ r ≤ 5 := c1
    have c2 : u1 = sx_mf 0 v (pa_n k) := c2
    have c3 : u2 = sx_mf 5 (k : Int) (-1) := c3
    have c4 : u3 = sx_mf 3 S u2 := c4
    have hM : ∀ a, a < 128 → N a = sx_up (sx_up (sx_up K1 53 7 u3) 53 13 (t + 1)) 82 3 u1 a := hM
    rw [c4, c3, c2] at hM
    have e : vq_or r = r := if_neg (by omega)
    rw [e]
    exact ⟨rfl, hN, up hM⟩
def pa_M (b r U : Int) (M N : Nat → Nat → Int) : Prop := (∀ a, a < 128 → a ≠ 53 → a ≠ 72 → a ≠ 73 → a ≠ 74 → ¬ (75 ≤ a ∧ a ≤ 77) → a ≠ 82 → N a = M a) ∧ (N 53 11 = U ∧ N 53 7 = pa_s (M 53 7) (pa_x (sx_mf 3 b (M 53 7)) r) ∧ N 53 13 = M 53 13 + 1 ∧ ∀ j, j ≠ 7 → j ≠ 11 → j ≠ 13 → j ≠ 35 → j ≠ 36 → N 53 j = M 53 j) ∧ (∀ h : Nat, N 74 h = if (h : Int) = r then sx_mf 0 (M 74 h) 1 else M 74 h) ∧ ∀ k, k < 5 → N 82 k = pa_t (sx_mf 3 b (M 53 7)) r (pa_x (sx_mf 3 b (M 53 7)) r) k (M 82 k)
def pa_O (b : Int) (nc H : Nat) (M : Nat → Nat → Int) (z : Int) (N : Nat → Nat → Int) : Prop := (z = -1 ∧ ¬ fs_b b (M 53 1) ∧ ∀ a, a < 128 → N a = M a) ∨ (z = -5 ∧ fs_b b (M 53 1) ∧ M 53 13 = 29 ∧ ∀ a, a < 128 → N a = M a) ∨ (fs_b b (M 53 1) ∧ M 53 13 ≤ 28 ∧ ∃ Y c, my_Q M H none Y ∧ c = ms_cd Y nc (M 53 13).toNat (Y 53 36, Y 75) ∧ z = vq_or (vq_hs (M 59) c) ∧ pa_M b (vq_hs (M 59) c) (vq_nx (Y 60) (Y 59) (Y 53 36, Y 75) c).1 M N)
theorem pa_re (hL : L < 2 ^ 31) (hm : sx_mok cl_ly M) (hw : WF M) (hR : vu_R M) (hH : M 53 1 = (H : Int)) (hn : M 53 8 = (nc : Int)) (hb : sx_w sx_r32 b) (hS : fs_b (M 53 7) (M 53 1)) (hO : ∀ c : Nat, c < nc → 0 ≤ M 59 c ∧ M 59 c < 6) : rz_fin (sh_Q (pa_O b nc H M)) L xs 240 20 0 [(0, .ref 53), (1, .int (Int32.ofInt b))] [] M := by
  have h4 := cx_fld (c := 53) (k := 1) (lo := 0) (hi := 6) hm (by decide +kernel)
  have h29 := cx_fld (c := 53) (k := 13) (lo := 0) (hi := 29) hm (by decide +kernel)
  obtain ⟨p1, p2⟩ := pa_sh h4.1 h4.2
  refine qs_use (zs := [b, M 53 1, M 53 13]) pm1_c hL hm (qs_iw hb (qs_rd (show (0 : Int) ≤ 1 by decide) rfl h4 (qs_rd (show (0 : Int) ≤ 13 by decide) rfl h29 (qs_fin rfl)))) (Nat.le_refl _) rfl rfl (qs_c (fun u1 u2 N hN hc hM => ?_) (qs_c (fun u1 u2 N hN hc hM => ?_) (qs_c (fun u1 u2 N hN hc hM => ?_) (qs_c (fun u1 u2 N hN hc hM => ?_) qs_z))))
  · have c1 : -2147483648 ≤ b ∧ b ≤ -1 := hc.1
    exact ⟨-1, rfl, hN, Or.inl ⟨rfl, fun h => by have := h.1; omega, hM⟩⟩
  · obtain ⟨c1, c2, c3, c4, c5, c6, -⟩ := hc
    have c1 : 0 ≤ b ∧ b ≤ 2147483647 := c1
    have c2 : 29 ≤ M 53 13 ∧ M 53 13 ≤ 29 := c2
    have c4 : ¬ u2 < b := c4
    have c5 : u1 = sx_mf 8 1 (M 53 1) := c5
    have c6 : u2 = sx_mf 1 u1 1 := c6
    rw [c5, p2] at c6
    exact ⟨-5, rfl, hN, Or.inr (Or.inl ⟨rfl, ⟨c1.1, by omega⟩, by omega, hM⟩)⟩
  · obtain ⟨c1, c2, c3, c4, c5, c6, -⟩ := hc
    have c1 : 0 ≤ b ∧ b ≤ 2147483647 := c1
    have c3 : M 53 13 ≠ 29 := c3
    have c4 : ¬ u2 < b := c4
    have c5 : u1 = sx_mf 8 1 (M 53 1) := c5
    have c6 : u2 = sx_mf 1 u1 1 := c6
    rw [c5, p2] at c6
    have hbb : fs_b b (M 53 1) := ⟨c1.1, by omega⟩
    have f2 : ∀ a, a < 128 → N a = M a := hM
    obtain ⟨t, et⟩ := Int.eq_ofNat_of_zero_le h29.1
    show rz_fin _ L xs 240 20 31 [(0, .ref 53), (1, .int (Int32.ofInt b))] [.ref 53] N
    refine qs_vc (k := 191) (b := 53) (d := 19) (d' := 19) (rest := []) rfl rfl rfl rfl rfl rfl rfl rfl (Nat.le_refl _) rfl (rz_d (by decide) (my_lay (xs := xs) (H := H) hL hN (by rw [f2 53 (by decide)]; exact hH))) (fun r9 Y hY => ?_)
    have hr : r9 = none := hY.1
    subst hr
    have hY : my_Q M H none Y := by
      obtain ⟨-, y0, y1, y2, y3, y4, y5⟩ := hY
      exact ⟨rfl, y0, fun a ha p q => (y1 a ha p q).trans (f2 a ha), fun j p q => by rw [y2 j p q, f2 53 (by decide)], by rw [y3, f2 53 (by decide)], by rw [y4, f2 53 (by decide)], fun h => by rw [y5 h, f2 74 (by decide), f2 75 (by decide)]⟩
    have y13 : Y 53 13 = M 53 13 := hY.2.2.2.1 13 (by decide) (by decide)
    refine qs_use (zs := [b, (t : Int)]) pm2_c hL hY.2.1 (qs_iw hb (qs_rd (show (0 : Int) ≤ 13 by decide) (y13.trans et) (show 0 ≤ (t : Int) ∧ (t : Int) ≤ 28 by omega) (qs_fin rfl))) (Nat.le_refl _) rfl rfl (qs_c (fun M4 hm4 hc4 hM4 => ?_) qs_z)
    have f4 : ∀ a, a < 128 → M4 a = Y a := hM4
    have hY : my_Q M H none M4 := by
      obtain ⟨-, y0, y1, y2, y3, y4, y5⟩ := hY
      exact ⟨rfl, hm4, fun a ha p q => (f4 a ha).trans (y1 a ha p q), fun j p q => by rw [f4 53 (by decide)]; exact y2 j p q, by rw [f4 53 (by decide)]; exact y3, by rw [f4 53 (by decide)]; exact y4, fun h => by rw [f4 75 (by decide)]; exact y5 h⟩
    obtain ⟨wY, rY, -⟩ := my_keep hw hR hY
    have y59 : M4 59 = M 59 := hY.2.2.1 59 (by decide) (by decide) (by decide)
    show rz_fin _ L xs 240 20 39 [(0, .ref 53), (1, .int (Int32.ofInt b))] [.int (Int32.ofInt (t : Int)), .ref 53] M4
    refine qs_vc (k := 192) (b := 53) (d := 19) (d' := 19) (rest := []) rfl rfl rfl rfl rfl rfl rfl rfl (Nat.le_refl _) rfl (rz_d (by decide) (ms_day (xs := xs) (nc := nc) (d := t) (M0 := M4) (T := (M4 53 36, M4 75)) hL hm4 (by omega) wY rY (by rw [hY.2.2.2.1 8 (by decide) (by decide)]; exact hn) ⟨fun _ _ _ _ _ _ => rfl, fun _ _ => rfl⟩ ⟨rfl, fun h => rfl⟩)) (fun r9 M5 hr => ?_)
    obtain ⟨rfl, hm5, F5, P5, -⟩ := hr
    obtain ⟨c, ec⟩ : ∃ c, ms_cd M4 nc t (M4 53 36, M4 75) = c := ⟨_, rfl⟩
    rw [ec] at P5 ⊢
    obtain ⟨V, eU⟩ : ∃ V, (vq_nx (M4 60) (M4 59) (M4 53 36, M4 75) c).1 = V := ⟨_, rfl⟩
    have P6 : M5 53 36 = V := by rw [← eU]; exact P5.1
    rw [y59]
    have hcr : c < (nc : Int) := by
      rw [← ec]
      exact (vq_cd_r (fun d h b => (vq_held_r _).2)).2
    have g5 : ∀ a, a < 128 → a ≠ 53 → a ≠ 72 → a ≠ 73 → ¬ (75 ≤ a ∧ a ≤ 77) → M5 a = M a := fun a ha x1 x2 x3 x4 => by
      rw [F5.1 a ha x1 x2 x3 x4]
      exact hY.2.2.1 a ha x1 (by omega)
    have g53 : ∀ j, j ≠ 35 → j ≠ 36 → M5 53 j = M 53 j := fun j q1 q2 => by
      rw [F5.2 j q2]
      exact hY.2.2.2.1 j q1 q2
    have g74 : M5 74 = M 74 := g5 74 (by decide) (by decide) (by decide) (by decide) (by decide)
    have g82 : M5 82 = M 82 := g5 82 (by decide) (by decide) (by decide) (by decide) (by decide)
    have g13 : M5 53 13 = (t : Int) := (g53 13 (by decide) (by decide)).trans et
    have g7 : M5 53 7 = M 53 7 := g53 7 (by decide) (by decide)
    have w7 : sx_w sx_r32 (M 53 7) := cv_ly_ok (g := (53, 7, sx_r32)) hm (by decide +kernel)
    have wV : sx_w sx_r32 V := by rw [← P6]; exact cv_ly_ok (g := (53, 36, sx_r32)) hm5 (by decide +kernel)
    have w82 : ∀ k, k < 5 → sx_w sx_r32 (M 82 k) := fun k hk => hm 82 _ k _ rfl hk rfl
    obtain ⟨kw, ew, kw64⟩ := pa_w h4.2 hbb hS
    have fin : ∀ z K, vq_or (vq_hs (M 59) c) = z → sx_mok cl_ly K → pa_M b (vq_hs (M 59) c) V M K → sh_Q (pa_O b nc H M) (some (.int (Int32.ofInt z))) K := fun z K e1 e2 e3 => ⟨z, rfl, e2, Or.inr (Or.inr ⟨hbb, by omega, M4, c, hY, by rw [et, Int.toNat_natCast]; exact ec.symm, e1.symm, by rw [eU]; exact e3⟩)⟩
    by_cases h0 : c < 0
    · have e1 : vq_hs (M 59) c = -1 := if_pos h0
      rw [e1]
      refine qs_use (zs := [b, M 53 7, (t : Int), V, M 82 0, M 82 3]) pm4_c hL hm5 (qs_iw hb (qs_rd (show (0 : Int) ≤ 7 by decide) g7 w7 (qs_rd (show (0 : Int) ≤ 13 by decide) g13 (show 0 ≤ (t : Int) ∧ (t : Int) ≤ 28 by omega) (qs_rd (show (0 : Int) ≤ 36 by decide) P6 wV (qs_rd (show (0 : Int) ≤ 0 by decide) (by rw [g82]; rfl) (w82 0 (by decide)) (qs_rd (show (0 : Int) ≤ 3 by decide) (by rw [g82]; rfl) (w82 3 (by decide)) (qs_fin rfl))))))) (Nat.le_refl _) rfl rfl (qs_c (fun u1 u2 K hK hc hM => ?_) qs_z)
      obtain ⟨c1, c2, -⟩ := hc
      have c1 : u1 = sx_mf 3 b (M 53 7) := c1
      have c2 : u2 = sx_mf 0 (M 82 0) 1 := c2
      have hM : ∀ a, a < 128 → K a = sx_up (sx_up M5 53 11 V) 82 0 u2 a := hM
      have ex : u1 = (kw : Int) := by rw [c1, ew]
      have px : pa_x (sx_mf 3 b (M 53 7)) (-1) = (kw : Int) := by rw [ew]; rfl
      have k13 : K 53 13 = (t : Int) := by rw [hM 53 (by decide), sh_une (by decide), sh_unj (by decide)]; exact g13
      have k7 : K 53 7 = M 53 7 := by rw [hM 53 (by decide), sh_une (by decide), sh_unj (by decide)]; exact g7
      show rz_fin _ L xs 240 20 126 [(0, .ref 53), (1, .int (Int32.ofInt b)), (2, .int (Int32.ofInt (-1))), (3, .int (Int32.ofInt u1))] [.int (Int32.ofInt u1), .int (Int32.ofInt (M 82 3)), .int (Int32.ofInt 3), .ref 82] K
      rw [ex]
      refine qs_w (pm_end (xs := xs) (S := M 53 7) (t := (t : Int)) hL hK kw64 (show -1 ≤ (-1 : Int) ∧ (-1 : Int) ≤ 5 by decide) k7 k13 (by omega) (w82 3 (by decide)) hb) (fun r' N g => ?_)
      obtain ⟨rfl, hN, hM3⟩ := g
      refine fin _ _ (by rw [e1]) hN ⟨fun a ha q1 q2 q3 q4 q5 q6 => ?_, ⟨?_, ?_, ?_, fun j p1 p2 p3 p4 p5 => ?_⟩, fun g => ?_, fun k hk => ?_⟩
      · rw [hM3 a ha, sh_une q6, sh_une q1, sh_une q1, hM a ha, sh_une q6, sh_une q1]
        exact g5 a ha q1 q2 q3 q5
      · rw [hM3 53 (by decide), sh_une (by decide), sh_unj (by decide), sh_unj (by decide), hM 53 (by decide), sh_une (by decide), sh_uat]
      · rw [hM3 53 (by decide), sh_une (by decide), sh_unj (by decide), sh_uat, e1, px]
      · rw [hM3 53 (by decide), sh_une (by decide), sh_uat, et]
      · rw [hM3 53 (by decide), sh_une (by decide), sh_unj p3, sh_unj p1, hM 53 (by decide), sh_une (by decide), sh_unj p2]
        exact g53 j p4 p5
      · rw [hM3 74 (by decide), sh_une (by decide), sh_une (by decide), sh_une (by decide), hM 74 (by decide), sh_une (by decide), sh_une (by decide), g74, e1, if_neg (by omega)]
      · rw [hM3 82 (by decide), e1, px]
        unfold pa_t
        rw [Int.toNat_natCast]
        by_cases k3 : k = 3
        · rw [k3, if_neg (by decide), if_neg (by decide), if_neg (by decide), if_pos rfl, sh_uat]
        · rw [sh_unj k3, sh_une (by decide), sh_une (by decide), hM 82 (by decide)]
          by_cases k0 : k = 0
          · rw [if_pos k0, k0, sh_uat, c2]
          · rw [if_neg k0, sh_unj k0, sh_une (by decide), g82]
            by_cases k1 : k = 1
            · rw [if_pos k1, if_pos (by decide)]
            · rw [if_neg k1]
              by_cases k2 : k = 2
              · rw [if_pos k2, if_pos (by decide)]
              · rw [if_neg k2, if_neg k3]
    · obtain ⟨o1, o2⟩ := hO c.toNat (by omega)
      obtain ⟨h, eh⟩ := Int.eq_ofNat_of_zero_le o1
      have e1 : vq_hs (M 59) c = (h : Int) := (if_neg h0).trans eh
      rw [e1]
      have w74 : sx_w sx_r32 (M 74 h) := hm 74 _ h _ rfl (by show h < 6; omega) rfl
      refine qs_use (zs := [b, (h : Int), M 53 7, (t : Int), V, M 74 h, M 82 0, M 82 1, M 82 2, M 82 3]) pm3_c hL hm5 (qs_iw hb (qs_in (show 0 ≤ (h : Int) ∧ (h : Int) ≤ 5 by omega) (qs_rd (show (0 : Int) ≤ 7 by decide) g7 w7 (qs_rd (show (0 : Int) ≤ 13 by decide) g13 (show 0 ≤ (t : Int) ∧ (t : Int) ≤ 28 by omega) (qs_rd (show (0 : Int) ≤ 36 by decide) P6 wV (qs_rd (show 0 ≤ (h : Int) by omega) (by rw [g74]; rfl) w74 (qs_rd (show (0 : Int) ≤ 0 by decide) (by rw [g82]; rfl) (w82 0 (by decide)) (qs_rd (show (0 : Int) ≤ 1 by decide) (by rw [g82]; rfl) (w82 1 (by decide)) (qs_rd (show (0 : Int) ≤ 2 by decide) (by rw [g82]; rfl) (w82 2 (by decide)) (qs_rd (show (0 : Int) ≤ 3 by decide) (by rw [g82]; rfl) (w82 3 (by decide)) (qs_fin rfl))))))))))) (Nat.le_refl _) rfl rfl (qs_c (fun u1 u2 u3 u4 u5 u6 u7 u8 u9 u10 K hK hc hM => ?_) (qs_c (fun u1 u2 u3 u4 u5 u6 u7 u8 u9 u10 K hK hc hM => ?_) qs_z))
      · obtain ⟨c1, c2, c3, c4, c5, c6, c7, c8, c9, c10, c11, -⟩ := hc
        have c1 : 1 ≤ u6 ∧ u6 ≤ 1 := c1
        have c2 : u1 = sx_mf 3 b (M 53 7) := c2
        have c3 : u2 = sx_mf 0 (M 82 0) 1 := c3
        have c4 : u3 = sx_mf 0 (M 74 h) 1 := c4
        have c5 : u4 = sx_mf 0 (M 82 1) 1 := c5
        have c6 : u5 = sx_mf 9 u1 (h : Int) := c6
        have c7 : u6 = sx_mf 3 u5 1 := c7
        have c8 : u7 = sx_mf 0 (M 82 2) 1 := c8
        have c9 : u8 = sx_mf 8 1 (h : Int) := c9
        have c10 : u9 = sx_mf 5 u8 (-1) := c10
        have c11 : u10 = sx_mf 3 u1 u9 := c11
        have hM : ∀ a, a < 128 → K a = sx_up (sx_up (sx_up (sx_up (sx_up M5 53 11 V) 74 h u3) 82 0 u2) 82 1 u4) 82 2 u7 a := hM
        have eb : u6 = vq_bt u1 (h : Int) := by
          rw [c7, c6]
          exact vq_b9 _ (by omega)
        have px : pa_x (sx_mf 3 b (M 53 7)) (h : Int) = u10 := by
          rw [c11, c10, c9, c2]
          exact if_neg (by omega)
        obtain ⟨kx, ex, kx64⟩ := pa_xk (r := (h : Int)) kw64 (by omega)
        rw [← ew, px] at ex
        have k13 : K 53 13 = (t : Int) := by rw [hM 53 (by decide), sh_une (by decide), sh_une (by decide), sh_une (by decide), sh_une (by decide), sh_unj (by decide)]; exact g13
        have k7 : K 53 7 = M 53 7 := by rw [hM 53 (by decide), sh_une (by decide), sh_une (by decide), sh_une (by decide), sh_une (by decide), sh_unj (by decide)]; exact g53 7 (by decide) (by decide)
        show rz_fin _ L xs 240 20 126 [(0, .ref 53), (1, .int (Int32.ofInt b)), (2, .int (Int32.ofInt (h : Int))), (3, .int (Int32.ofInt u10))] [.int (Int32.ofInt u10), .int (Int32.ofInt (M 82 3)), .int (Int32.ofInt 3), .ref 82] K
        rw [ex]
        refine qs_w (pm_end (xs := xs) (S := M 53 7) (t := (t : Int)) hL hK kx64 (show -1 ≤ (h : Int) ∧ (h : Int) ≤ 5 by omega) k7 k13 (by omega) (w82 3 (by decide)) hb) (fun r' N g => ?_)
        obtain ⟨rfl, hN, hM3⟩ := g
        refine fin _ _ (by rw [e1]) hN ⟨fun a ha q1 q2 q3 q4 q5 q6 => ?_, ⟨?_, ?_, ?_, fun j p1 p2 p3 p4 p5 => ?_⟩, fun g => ?_, fun k hk => ?_⟩
        · rw [hM3 a ha, sh_une q6, sh_une q1, sh_une q1, hM a ha, sh_une q6, sh_une q6, sh_une q6, sh_une q4, sh_une q1]
          exact g5 a ha q1 q2 q3 q5
        · rw [hM3 53 (by decide), sh_une (by decide), sh_unj (by decide), sh_unj (by decide), hM 53 (by decide), sh_une (by decide), sh_une (by decide), sh_une (by decide), sh_une (by decide), sh_uat]
        · rw [hM3 53 (by decide), sh_une (by decide), sh_unj (by decide), sh_uat, e1, px, ex]
        · rw [hM3 53 (by decide), sh_une (by decide), sh_uat, et]
        · rw [hM3 53 (by decide), sh_une (by decide), sh_unj p3, sh_unj p1, hM 53 (by decide), sh_une (by decide), sh_une (by decide), sh_une (by decide), sh_une (by decide), sh_unj p2]
          exact g53 j p4 p5
        · rw [hM3 74 (by decide), sh_une (by decide), sh_une (by decide), sh_une (by decide), hM 74 (by decide), sh_une (by decide), sh_une (by decide), sh_une (by decide), e1]
          by_cases gh : g = h
          · rw [gh, sh_uat, if_pos rfl, c4]
          · rw [sh_unj gh, sh_une (by decide), g74, if_neg (by omega)]
        · rw [hM3 82 (by decide), e1, px, ex]
          have rn : ¬ ((h : Int) < 0) := by omega
          unfold pa_t
          rw [Int.toNat_natCast]
          by_cases k3 : k = 3
          · rw [k3, if_neg (by decide), if_neg (by decide), if_neg (by decide), if_pos rfl, sh_uat]
          · rw [sh_unj k3, sh_une (by decide), sh_une (by decide), hM 82 (by decide)]
            by_cases k2 : k = 2
            · rw [k2, if_neg (by decide), if_neg (by decide), if_pos rfl, if_neg rn, sh_uat, c8, ← c2, ← eb, show u6 = 1 by omega]
            · rw [sh_unj k2]
              by_cases k1 : k = 1
              · rw [k1, if_neg (by decide), if_pos rfl, if_neg rn, sh_uat, c5]
              · rw [sh_unj k1]
                by_cases k0 : k = 0
                · rw [k0, if_pos rfl, sh_uat, c3]
                · rw [sh_unj k0, sh_une (by decide), sh_une (by decide), g82, if_neg k0, if_neg k1, if_neg k2, if_neg k3]
      · obtain ⟨c1, c2, c3, c4, c5, c6, c7, c8, c9, c10, -⟩ := hc
        have c1 : u6 ≠ 1 := c1
        have c2 : u1 = sx_mf 3 b (M 53 7) := c2
        have c3 : u2 = sx_mf 0 (M 82 0) 1 := c3
        have c4 : u3 = sx_mf 0 (M 74 h) 1 := c4
        have c5 : u4 = sx_mf 0 (M 82 1) 1 := c5
        have c6 : u5 = sx_mf 9 u1 (h : Int) := c6
        have c7 : u6 = sx_mf 3 u5 1 := c7
        have c8 : u7 = sx_mf 8 1 (h : Int) := c8
        have c9 : u8 = sx_mf 5 u7 (-1) := c9
        have c10 : u9 = sx_mf 3 u1 u8 := c10
        have hM : ∀ a, a < 128 → K a = sx_up (sx_up (sx_up (sx_up M5 53 11 V) 74 h u3) 82 0 u2) 82 1 u4 a := hM
        have eb : u6 = vq_bt u1 (h : Int) := by
          rw [c7, c6]
          exact vq_b9 _ (by omega)
        have px : pa_x (sx_mf 3 b (M 53 7)) (h : Int) = u9 := by
          rw [c10, c9, c8, c2]
          exact if_neg (by omega)
        obtain ⟨kx, ex, kx64⟩ := pa_xk (r := (h : Int)) kw64 (by omega)
        rw [← ew, px] at ex
        have k13 : K 53 13 = (t : Int) := by rw [hM 53 (by decide), sh_une (by decide), sh_une (by decide), sh_une (by decide), sh_unj (by decide)]; exact g13
        have k7 : K 53 7 = M 53 7 := by rw [hM 53 (by decide), sh_une (by decide), sh_une (by decide), sh_une (by decide), sh_unj (by decide)]; exact g53 7 (by decide) (by decide)
        show rz_fin _ L xs 240 20 126 [(0, .ref 53), (1, .int (Int32.ofInt b)), (2, .int (Int32.ofInt (h : Int))), (3, .int (Int32.ofInt u9))] [.int (Int32.ofInt u9), .int (Int32.ofInt (M 82 3)), .int (Int32.ofInt 3), .ref 82] K
        rw [ex]
        refine qs_w (pm_end (xs := xs) (S := M 53 7) (t := (t : Int)) hL hK kx64 (show -1 ≤ (h : Int) ∧ (h : Int) ≤ 5 by omega) k7 k13 (by omega) (w82 3 (by decide)) hb) (fun r' N g => ?_)
        obtain ⟨rfl, hN, hM3⟩ := g
        refine fin _ _ (by rw [e1]) hN ⟨fun a ha q1 q2 q3 q4 q5 q6 => ?_, ⟨?_, ?_, ?_, fun j p1 p2 p3 p4 p5 => ?_⟩, fun g => ?_, fun k hk => ?_⟩
        · rw [hM3 a ha, sh_une q6, sh_une q1, sh_une q1, hM a ha, sh_une q6, sh_une q6, sh_une q4, sh_une q1]
          exact g5 a ha q1 q2 q3 q5
        · rw [hM3 53 (by decide), sh_une (by decide), sh_unj (by decide), sh_unj (by decide), hM 53 (by decide), sh_une (by decide), sh_une (by decide), sh_une (by decide), sh_uat]
        · rw [hM3 53 (by decide), sh_une (by decide), sh_unj (by decide), sh_uat, e1, px, ex]
        · rw [hM3 53 (by decide), sh_une (by decide), sh_uat, et]
        · rw [hM3 53 (by decide), sh_une (by decide), sh_unj p3, sh_unj p1, hM 53 (by decide), sh_une (by decide), sh_une (by decide), sh_une (by decide), sh_unj p2]
          exact g53 j p4 p5
        · rw [hM3 74 (by decide), sh_une (by decide), sh_une (by decide), sh_une (by decide), hM 74 (by decide), sh_une (by decide), sh_une (by decide), e1]
          by_cases gh : g = h
          · rw [gh, sh_uat, if_pos rfl, c4]
          · rw [sh_unj gh, sh_une (by decide), g74, if_neg (by omega)]
        · rw [hM3 82 (by decide), e1, px, ex]
          have rn : ¬ ((h : Int) < 0) := by omega
          unfold pa_t
          rw [Int.toNat_natCast]
          by_cases k3 : k = 3
          · rw [k3, if_neg (by decide), if_neg (by decide), if_neg (by decide), if_pos rfl, sh_uat]
          · rw [sh_unj k3, sh_une (by decide), sh_une (by decide), hM 82 (by decide)]
            by_cases k1 : k = 1
            · rw [k1, if_neg (by decide), if_pos rfl, if_neg rn, sh_uat, c5]
            · rw [sh_unj k1]
              by_cases k0 : k = 0
              · rw [k0, if_pos rfl, sh_uat, c3]
              · rw [sh_unj k0, sh_une (by decide), sh_une (by decide), g82, if_neg k0, if_neg k1]
                by_cases k2 : k = 2
                · have b0 : vq_bt u1 (h : Int) = 0 := by
                    rcases vq_bt_r u1 (h : Int) with q | q
                    · exact q
                    · exact absurd (eb.trans q) c1
                  rw [k2, if_pos rfl, if_neg rn, ← c2, b0, pa_a0 (w82 2 (by decide))]
                · rw [if_neg k2, if_neg k3]
  · obtain ⟨c1, c2, c3, c4, c5, -⟩ := hc
    have c3 : u2 < b := c3
    have c4 : u1 = sx_mf 8 1 (M 53 1) := c4
    have c5 : u2 = sx_mf 1 u1 1 := c5
    rw [c4, p2] at c5
    exact ⟨-1, rfl, hN, Or.inl ⟨rfl, fun h => by have := h.2; omega, hM⟩⟩
end
