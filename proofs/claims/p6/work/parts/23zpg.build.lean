/-! build; what pass, image and back may touch. -/
section
variable {L : Nat} {xs : Nat → Int32} {M M' N N' M0 M1 M2 : Nat → Nat → Int} {b s : Int}
/-- what pass, build, image and back may touch -/
def gp_n (a : Nat) : Prop := ¬ (9 ≤ a ∧ a ≤ 10) ∧ ¬ (12 ≤ a ∧ a ≤ 13) ∧ ¬ (19 ≤ a ∧ a ≤ 31) ∧ ¬ (34 ≤ a ∧ a ≤ 36) ∧ a ≠ 53 ∧ ¬ (72 ≤ a ∧ a ≤ 84)
def gp_m (j : Nat) : Prop := j ≠ 7 ∧ j ≠ 11 ∧ j ≠ 13 ∧ j ≠ 35 ∧ j ≠ 36 ∧ j ≠ 42 ∧ ¬ (45 ≤ j ∧ j ≤ 47) ∧ ¬ (49 ≤ j ∧ j ≤ 54)
theorem gp_q (hI : la_I WF bs_cps M) (hS : fs_SS M) (hm : sx_mok cl_ly M2) (hf : ∀ a, a < 128 → gp_n a → M2 a = M a) (h9 : ∀ j, j ≠ 6 → j ≠ 7 → M2 9 j = M 9 j) (h10 : ∀ j, j ≠ 210 → M2 10 j = M 10 j) (h53 : ∀ j, gp_m j → M2 53 j = M 53 j) (h210 : M2 10 210 = M2 53 13) (k2 : sx_w (0, 1) (M2 34 2) ∧ M2 34 2 = M2 53 49) (k3 : sx_w (0, 29) (M2 34 3) ∧ M2 34 3 = M2 53 54) (S : fs_S M2) (b1 : fs_b (M2 9 6) (M 9 4)) (b2 : fs_b (M2 9 7) (M 9 5)) (I : fs_I M2) : la_I WF bs_cps M2 ∧ fs_SS M2 := by
  obtain ⟨e1, e2, e3, -, e5, -, -⟩ := bs_eq hI
  obtain ⟨hb, -, O, -, -, -, L⟩ := hS
  have g : ∀ a ∈ [11, 14, 15, 16, 32, 33, 37, 59, 62, 63, 64, 65, 66, 67, 68, 69, 70, 71], M2 a = M a := fun a ha => by
    have : ∀ a ∈ [11, 14, 15, 16, 32, 33, 37, 59, 62, 63, 64, 65, 66, 67, 68, 69, 70, 71], a < 128 ∧ gp_n a := by unfold gp_n; decide +kernel
    exact hf a (this a ha).1 (this a ha).2
  have p : ∀ j, gp_m j → M2 53 j = M 53 j := h53
  have f13 := cx_fld (c := 53) (k := 13) (lo := 0) (hi := 29) hm (by decide +kernel)
  have c4 : M2 9 4 = M 9 4 := h9 4 (by decide) (by decide)
  have c5 : M2 9 5 = M 9 5 := h9 5 (by decide) (by decide)
  refine ⟨⟨hm, fp_JJ M M2 (fun u hu => ?_) (fun q hq => ?_) hI.2.1, WF_zs M M2 (fun u hu => ?_) hI.2.2.1, by rw [h210]; exact f13, fun q hq => ?_⟩, bs_fp M M2 (fun u hu => ?_) (fun q hq => ?_) hb, S, fun c hc => ?_, by rw [c4]; exact b1, by rw [c5]; exact b2, I, ?_, ?_, ?_⟩
  · simp only [List.mem_cons, List.not_mem_nil, or_false] at hu
    exact g u (by simp only [List.mem_cons, List.not_mem_nil, or_false]; omega)
  · simp only [List.mem_cons, List.not_mem_nil, or_false] at hq
    rcases hq with rfl | rfl | rfl | rfl
    · show M2 32 1 = M 32 1
      rw [g 32 (by decide)]
    · show M2 32 2 = M 32 2
      rw [g 32 (by decide)]
    · exact p 14 (by unfold gp_m; decide)
    · exact p 15 (by unfold gp_m; decide)
  · have : ∀ u ∈ cz_zs, u < 128 ∧ gp_n u := by unfold gp_n; decide +kernel
    exact hf u (this u hu).1 (this u hu).2
  · simp only [bs_cps, List.mem_cons, List.not_mem_nil, or_false] at hq
    rcases hq with rfl | rfl | rfl | rfl | rfl | rfl | rfl
    · refine ⟨cx_fld (c := 9) (k := 4) (lo := 0) (hi := 6) hm (by decide +kernel), ?_⟩
      show M2 9 4 = M2 53 1
      rw [c4, p 1 (by unfold gp_m; decide)]
      exact e1
    · refine ⟨cx_fld (c := 9) (k := 5) (lo := 0) (hi := 12) hm (by decide +kernel), ?_⟩
      show M2 9 5 = M2 53 8
      rw [c5, p 8 (by unfold gp_m; decide)]
      exact e2
    · refine ⟨cx_fld (c := 37) (k := 2) (lo := 0) (hi := 50) hm (by decide +kernel), ?_⟩
      show M2 37 2 = M2 53 57
      rw [g 37 (by decide), p 57 (by unfold gp_m; decide)]
      exact e3
    · exact ⟨by show sx_w (0, 29) (M2 10 210); rw [h210]; exact f13, h210⟩
    · refine ⟨cx_fld (c := 32) (k := 1) (lo := 0) (hi := 40) hm (by decide +kernel), ?_⟩
      show M2 32 1 = M2 53 14
      rw [g 32 (by decide), p 14 (by unfold gp_m; decide)]
      exact e5
    · exact k2
    · exact k3
  · have : ∀ u ∈ bs_zc, u < 128 ∧ gp_n u := by unfold gp_n; decide +kernel
    exact hf u (this u hu).1 (this u hu).2
  · have : ∀ q ∈ nm_zp, q.1 < 128 ∧ (gp_n q.1 ∨ (q.1 = 10 ∧ q.2 ≠ 210) ∨ (q.1 = 53 ∧ gp_m q.2)) := by unfold gp_n gp_m; decide +kernel
    obtain ⟨t1, t2⟩ := this q hq
    rcases t2 with t2 | ⟨t2, t3⟩ | ⟨t2, t3⟩
    · rw [hf q.1 t1 t2]
    · rw [t2]
      exact h10 q.2 t3
    · rw [t2]
      exact p q.2 t3
  · rw [c5] at hc
    rw [g 59 (by decide), g 11 (by decide), c4]
    exact O c hc
  · rw [g 14 (by decide), p 21 (by unfold gp_m; decide)]
    exact L.1
  · unfold ym_SS
    rw [g 14 (by decide), g 66 (by decide), g 15 (by decide)]
    exact L.2.1
  · exact vu_M (g 16 (by decide)) (by rw [g 14 (by decide)]) (p 33 (by unfold gp_m; decide)) (g 67 (by decide)) (g 68 (by decide)) (g 69 (by decide)) (g 70 (by decide)) (g 71 (by decide)) L.2.2
/-- the image, where nothing of it was touched -/
theorem gp_I (hI : la_I WF bs_cps M) (hi : fs_I M) (h34 : M2 34 = M 34) (h35 : M2 35 = M 35) (h36 : M2 36 = M 36) (h83 : M2 83 = M 83) (h84 : M2 84 = M 84) (p : ∀ j, 49 ≤ j → j ≤ 54 → M2 53 j = M 53 j) (c4 : M2 9 4 = M 9 4) (c5 : M2 9 5 = M 9 5) : (sx_w (0, 1) (M2 34 2) ∧ M2 34 2 = M2 53 49) ∧ (sx_w (0, 29) (M2 34 3) ∧ M2 34 3 = M2 53 54) ∧ fs_I M2 := by
  obtain ⟨-, -, -, -, -, e6, e7⟩ := bs_eq hI
  refine ⟨?_, ?_, ?_⟩
  · rw [h34, p 49 (by decide) (by decide)]
    exact e6
  · rw [h34, p 54 (by decide) (by decide)]
    exact e7
  · unfold fs_I
    rw [h34, h35, h36, h83, h84, c4, c5, p 50 (by decide) (by decide), p 51 (by decide) (by decide), p 52 (by decide) (by decide), p 53 (by decide) (by decide)]
    exact hi
def bu1_i : List qs_I := [(0, 0, (0, 0), sx_r32), (1, 9, (0, 4), (0, 6)), (1, 9, (0, 6), sx_r32), (1, 13, (0, 4), sx_r32)]
def bu1_T : List og_T := [(none, some (0, 0, -1), [], [], [], [(0, (9, 0), (0, 0), -2147483648, -1)]), (none, some (0, 0, -1), [], [], [], [(0, (9, 0), (0, 0), 0, 2147483647), (2, (9, 0), (10, 0), 0, 0)]), (none, some (0, 0, -5), [], [], [], [(0, (9, 0), (0, 0), 0, 5), (0, (10, 0), (0, 0), 1, 6), (0, (14, 0), (0, 0), 1, 1), (1, (9, 0), (10, 0), 0, 0), (5, (11, 0), (9, 0), 10, 13), (5, (13, 0), (0, 1), 3, 14)]), (none, some (0, 0, 1), [], [], [(13, (0, 4), (17, 0)), (9, (0, 6), (16, 0))], [(0, (9, 0), (0, 0), 0, 5), (0, (10, 0), (0, 0), 1, 6), (7, (14, 0), (0, 0), 1, 0), (1, (9, 0), (10, 0), 0, 0), (5, (11, 0), (9, 0), 10, 13), (5, (13, 0), (0, 1), 3, 14), (5, (0, 1), (9, 0), 8, 15), (5, (11, 0), (15, 0), 4, 16), (5, (12, 0), (0, 1), 0, 17)])]
theorem bu1_c : qs_chk (fun _ => false) bu1_i 5 bu1_T 400 400 3 115 0 [(0, 2, 0, 8), (1, 0, 9, 0)] [] = true := by decide +kernel
def bu2_i : List qs_I := [(0, 0, (0, 0), sx_r32), (1, 53, (0, 1), (0, 6)), (1, 53, (0, 7), sx_r32), (1, 82, (0, 4), sx_r32)]
def bu2_T : List og_T := [(none, some (0, 0, -1), [], [], [], [(0, (9, 0), (0, 0), -2147483648, -1)]), (none, some (0, 0, -1), [], [], [], [(0, (9, 0), (0, 0), 0, 2147483647), (1, (10, 0), (9, 0), 1, 0)]), (none, some (0, 0, -5), [], [], [], [(0, (9, 0), (0, 0), 0, 5), (0, (10, 0), (0, 0), 1, 6), (0, (14, 0), (0, 0), 1, 1), (2, (10, 0), (9, 0), 1, 0), (5, (11, 0), (9, 0), 9, 13), (5, (13, 0), (0, 1), 3, 14)]), (none, some (0, 0, 1), [], [], [(82, (0, 4), (17, 0)), (53, (0, 7), (16, 0))], [(0, (9, 0), (0, 0), 0, 5), (0, (10, 0), (0, 0), 1, 6), (7, (14, 0), (0, 0), 1, 0), (2, (10, 0), (9, 0), 1, 0), (5, (11, 0), (9, 0), 9, 13), (5, (13, 0), (0, 1), 3, 14), (5, (0, 1), (9, 0), 8, 15), (5, (11, 0), (15, 0), 4, 16), (5, (12, 0), (0, 1), 0, 17)])]
theorem bu2_c : qs_chk (fun _ => false) bu2_i 5 bu2_T 400 400 3 241 0 [(0, 2, 0, 53), (1, 0, 9, 0)] [] = true := by decide +kernel
/-- build on one side -/
def bu_F (s H S : Int) (k1 p1 k2 p2 : Nat) (M : Nat → Nat → Int) (z : Int) (N : Nat → Nat → Int) : Prop := (z = -1 ∧ ¬ (0 ≤ s ∧ s < H) ∧ ∀ a, a < 128 → N a = M a) ∨ (z = -5 ∧ (0 ≤ s ∧ s < H) ∧ vq_bt S s = 1 ∧ ∀ a, a < 128 → N a = M a) ∨ (z = 1 ∧ (0 ≤ s ∧ s < H) ∧ vq_bt S s ≠ 1 ∧ ∀ a, a < 128 → N a = sx_up (sx_up M k1 p1 (sx_mf 4 S (sx_mf 8 1 s))) k2 p2 (sx_mf 0 (M k2 p2) 1) a)
theorem bu_x (hL : L < 2 ^ 31) (hm : sx_mok cl_ly M) (hs : sx_w sx_r32 s) : rz_fin (sh_Q (bu_F s (M 9 4) (M 9 6) 9 6 13 4 M)) L xs 115 3 0 [(0, .ref 8), (1, .int (Int32.ofInt s))] [] M := by
  have h4 := cx_fld (c := 9) (k := 4) (lo := 0) (hi := 6) hm (by decide +kernel)
  have w6 : sx_w sx_r32 (M 9 6) := cv_ly_ok (g := (9, 6, sx_r32)) hm (by decide +kernel)
  have w13 : sx_w sx_r32 (M 13 4) := hm 13 _ 4 _ rfl (by decide) rfl
  refine qs_use (zs := [s, M 9 4, M 9 6, M 13 4]) bu1_c hL hm (qs_iw hs (qs_rd (show (0 : Int) ≤ 4 by decide) rfl h4 (qs_rd (show (0 : Int) ≤ 6 by decide) rfl w6 (qs_rd (show (0 : Int) ≤ 4 by decide) rfl w13 (qs_fin rfl))))) (Nat.le_refl _) rfl rfl (qs_c (fun u1 u2 u3 u4 u5 N hN hc hM => ?_) (qs_c (fun u1 u2 u3 u4 u5 N hN hc hM => ?_) (qs_c (fun u1 u2 u3 u4 u5 N hN hc hM => ?_) (qs_c (fun u1 u2 u3 u4 u5 N hN hc hM => ?_) qs_z))))
  · have c1 : -2147483648 ≤ s ∧ s ≤ -1 := hc.1
    exact ⟨-1, rfl, hN, Or.inl ⟨rfl, by omega, hM⟩⟩
  · have c1 : ¬ s < M 9 4 := hc.2.1
    exact ⟨-1, rfl, hN, Or.inl ⟨rfl, by omega, hM⟩⟩
  · obtain ⟨c1, c2, c3, c4, c5, c6, -⟩ := hc
    have c1 : 0 ≤ s ∧ s ≤ 5 := c1
    have c3 : 1 ≤ u2 ∧ u2 ≤ 1 := c3
    have c4 : s < M 9 4 := c4
    have c5 : u1 = sx_mf 10 (M 9 6) s := c5
    have c6 : u2 = sx_mf 3 u1 1 := c6
    have e : u2 = vq_bt (M 9 6) s := by rw [c6, c5]; rfl
    exact ⟨-5, rfl, hN, Or.inr (Or.inl ⟨rfl, ⟨c1.1, c4⟩, by omega, hM⟩)⟩
  · obtain ⟨c1, c2, c3, c4, c5, c6, c7, c8, c9, -⟩ := hc
    have c1 : 0 ≤ s ∧ s ≤ 5 := c1
    have c3 : u2 ≠ 1 := c3
    have c4 : s < M 9 4 := c4
    have c5 : u1 = sx_mf 10 (M 9 6) s := c5
    have c6 : u2 = sx_mf 3 u1 1 := c6
    have c7 : u3 = sx_mf 8 1 s := c7
    have c8 : u4 = sx_mf 4 (M 9 6) u3 := c8
    have c9 : u5 = sx_mf 0 (M 13 4) 1 := c9
    have e : u2 = vq_bt (M 9 6) s := by rw [c6, c5]; rfl
    have hM : ∀ a, a < 128 → N a = sx_up (sx_up M 9 6 u4) 13 4 u5 a := hM
    rw [c8, c7, c9] at hM
    exact ⟨1, rfl, hN, Or.inr (Or.inr ⟨rfl, ⟨c1.1, c4⟩, by rw [← e]; exact c3, hM⟩)⟩
theorem bu_m (hL : L < 2 ^ 31) (hm : sx_mok cl_ly M) (hs : sx_w sx_r32 s) : rz_fin (sh_Q (bu_F s (M 53 1) (M 53 7) 53 7 82 4 M)) L xs 241 3 0 [(0, .ref 53), (1, .int (Int32.ofInt s))] [] M := by
  have h4 := cx_fld (c := 53) (k := 1) (lo := 0) (hi := 6) hm (by decide +kernel)
  have w6 : sx_w sx_r32 (M 53 7) := cv_ly_ok (g := (53, 7, sx_r32)) hm (by decide +kernel)
  have w13 : sx_w sx_r32 (M 82 4) := hm 82 _ 4 _ rfl (by decide) rfl
  have bt : ∀ u1 u2 : Int, 0 ≤ s → s ≤ 5 → u1 = sx_mf 9 (M 53 7) s → u2 = sx_mf 3 u1 1 → u2 = vq_bt (M 53 7) s := fun u1 u2 k1 k2 k3 k4 => by
    obtain ⟨k, rfl⟩ := Int.eq_ofNat_of_zero_le k1
    rw [k4, k3]
    exact vq_b9 _ (by omega)
  refine qs_use (zs := [s, M 53 1, M 53 7, M 82 4]) bu2_c hL hm (qs_iw hs (qs_rd (show (0 : Int) ≤ 1 by decide) rfl h4 (qs_rd (show (0 : Int) ≤ 7 by decide) rfl w6 (qs_rd (show (0 : Int) ≤ 4 by decide) rfl w13 (qs_fin rfl))))) (Nat.le_refl _) rfl rfl (qs_c (fun u1 u2 u3 u4 u5 N hN hc hM => ?_) (qs_c (fun u1 u2 u3 u4 u5 N hN hc hM => ?_) (qs_c (fun u1 u2 u3 u4 u5 N hN hc hM => ?_) (qs_c (fun u1 u2 u3 u4 u5 N hN hc hM => ?_) qs_z))))
  · have c1 : -2147483648 ≤ s ∧ s ≤ -1 := hc.1
    exact ⟨-1, rfl, hN, Or.inl ⟨rfl, by omega, hM⟩⟩
  · have c1 : M 53 1 < s + 1 := hc.2.1
    exact ⟨-1, rfl, hN, Or.inl ⟨rfl, by omega, hM⟩⟩
  · obtain ⟨c1, c2, c3, c4, c5, c6, -⟩ := hc
    have c1 : 0 ≤ s ∧ s ≤ 5 := c1
    have c3 : 1 ≤ u2 ∧ u2 ≤ 1 := c3
    have c4 : ¬ M 53 1 < s + 1 := c4
    have e := bt u1 u2 c1.1 c1.2 c5 c6
    exact ⟨-5, rfl, hN, Or.inr (Or.inl ⟨rfl, ⟨c1.1, by omega⟩, by omega, hM⟩)⟩
  · obtain ⟨c1, c2, c3, c4, c5, c6, c7, c8, c9, -⟩ := hc
    have c1 : 0 ≤ s ∧ s ≤ 5 := c1
    have c3 : u2 ≠ 1 := c3
    have c4 : ¬ M 53 1 < s + 1 := c4
    have e := bt u1 u2 c1.1 c1.2 c5 c6
    have c7 : u3 = sx_mf 8 1 s := c7
    have c8 : u4 = sx_mf 4 (M 53 7) u3 := c8
    have c9 : u5 = sx_mf 0 (M 82 4) 1 := c9
    have hM : ∀ a, a < 128 → N a = sx_up (sx_up M 53 7 u4) 82 4 u5 a := hM
    rw [c8, c7, c9] at hM
    exact ⟨1, rfl, hN, Or.inr (Or.inr ⟨rfl, ⟨c1.1, by omega⟩, by rw [← e]; exact c3, hM⟩)⟩
/-- a bit that stands already, or one more: so many still -/
theorem fs_ors : ((List.range 7).all fun n => (List.range n).all fun h => (List.range (2 ^ n)).all fun k => sx_an (sx_le 0 (sx_mf 4 (k : Int) (sx_mf 8 1 (h : Int)))) (sx_lt (sx_mf 4 (k : Int) (sx_mf 8 1 (h : Int))) ((2 ^ n : Nat) : Int))) = true := by decide +kernel
theorem fs_orm {x s H : Int} (hH : H ≤ 6) (h0 : 0 ≤ s) (h1 : s < H) (hb : fs_b x H) : fs_b (sx_mf 4 x (sx_mf 8 1 s)) H := by
  obtain ⟨n, rfl⟩ := Int.eq_ofNat_of_zero_le (show 0 ≤ H by omega)
  obtain ⟨h, rfl⟩ := Int.eq_ofNat_of_zero_le h0
  obtain ⟨b1, b2⟩ := hb
  rw [Int.toNat_natCast] at b2
  obtain ⟨k, rfl⟩ := Int.eq_ofNat_of_zero_le b1
  obtain ⟨h1, h2⟩ := sx_an_iff.mp (List.all_eq_true.mp (List.all_eq_true.mp (List.all_eq_true.mp fs_ors n (List.mem_range.mpr (by omega))) h (List.mem_range.mpr (by omega))) k (List.mem_range.mpr (by omega)))
  refine ⟨sx_le_iff.mp h1, ?_⟩
  rw [Int.toNat_natCast]
  exact sx_lt_iff.mp h2
theorem fs_bu (hL : L < 2 ^ 31) (hI : la_I WF bs_cps M) (hS : fs_SS M) (hs : sx_w sx_r32 s) : fs_P WF L xs 0 115 241 [.ref 8, .int (Int32.ofInt s)] [.ref 53, .int (Int32.ofInt s)] (-5, 1) M := by
  obtain ⟨e1, -, -, -, -, -, -⟩ := bs_eq hI
  have h4 := cx_fld (c := 9) (k := 4) (lo := 0) (hi := 6) hI.1 (by decide +kernel)
  obtain ⟨⟨s1, s2, s3, s4⟩, o, b1, b2, i, l⟩ := id hS.2
  obtain ⟨z, M1, a1, a2, a3⟩ := lb_of (k := 115) (vs := [.ref 8, .int (Int32.ofInt s)]) (show 3 ≤ 99 by decide) (bu_x (xs := xs) hL hI.1 hs)
  obtain ⟨y, M2, c1, c2, c3⟩ := lb_of (k := 241) (vs := [.ref 53, .int (Int32.ofInt s)]) (show 3 ≤ 99 by decide) (bu_m (xs := xs) hL a2 hs)
  have w : ∀ k : Int, -5 ≤ k → k ≤ 1 → sx_w (-5, 1) k ∧ ((0 = 0 ∧ sx_w sx_r32 k) ∨ (0 = 1 ∧ sx_w sx_r64 k)) := fun k h1 h2 => ⟨⟨h1, h2⟩, Or.inl ⟨rfl, og_w32 (by omega) (by omega)⟩⟩
  have same : (∀ c, c < 128 → M2 c = M c) → la_I WF bs_cps M2 ∧ fs_SS M2 := fun e => fs_q WF_zs hI hS c2 ⟨fun a ha _ => e a ha, fun j _ => by rw [e 53 (by decide)]⟩
  unfold bu_F at a3 c3
  rcases a3 with ⟨rfl, x1, x2⟩ | ⟨rfl, x1, x2, x3⟩ | ⟨rfl, x1, x2, x3⟩
  · have e53 : M1 53 = M 53 := x2 53 (by decide)
    rw [e53, ← e1, ← s1] at c3
    rcases c3 with ⟨rfl, y1, y2⟩ | ⟨-, y1, -⟩ | ⟨-, y1, -⟩
    · exact ⟨-1, M1, M2, (w _ (by decide) (by decide)).1, (w _ (by decide) (by decide)).2, a1, a2, c1, c2, same fun a ha => (y2 a ha).trans (x2 a ha)⟩
    · exact absurd y1 x1
    · exact absurd y1 x1
  · have e53 : M1 53 = M 53 := x3 53 (by decide)
    rw [e53, ← e1, ← s1] at c3
    rcases c3 with ⟨-, y1, -⟩ | ⟨rfl, y1, y2, y3⟩ | ⟨-, y1, y2, -⟩
    · exact absurd x1 y1
    · exact ⟨-5, M1, M2, (w _ (by decide) (by decide)).1, (w _ (by decide) (by decide)).2, a1, a2, c1, c2, same fun a ha => (y3 a ha).trans (x3 a ha)⟩
    · exact absurd x2 y2
  · have e53 : M1 53 = M 53 := by rw [x3 53 (by decide), sh_une (by decide), sh_une (by decide)]
    have e82 : M1 82 = M 82 := by rw [x3 82 (by decide), sh_une (by decide), sh_une (by decide)]
    rw [e53, e82, ← e1, ← s1] at c3
    rcases c3 with ⟨-, y1, -⟩ | ⟨-, y1, y2, -⟩ | ⟨rfl, y1, y2, y3⟩
    · exact absurd x1 y1
    · exact absurd y2 x2
    · have ff : ∀ a, a < 128 → a ≠ 9 → a ≠ 13 → a ≠ 53 → a ≠ 82 → M2 a = M a := fun a ha g1 g2 g3 g4 => by rw [y3 a ha, sh_une g4, sh_une g3, x3 a ha, sh_une g2, sh_une g1]
      have f9 : ∀ j, M2 9 j = if j = 6 then sx_mf 4 (M 9 6) (sx_mf 8 1 s) else M 9 j := fun j => by
        rw [y3 9 (by decide), sh_une (by decide), sh_une (by decide), x3 9 (by decide), sh_une (by decide)]
        simp [sx_up]
      have f13 : ∀ j, M2 13 j = if j = 4 then sx_mf 0 (M 13 4) 1 else M 13 j := fun j => by
        rw [y3 13 (by decide), sh_une (by decide), sh_une (by decide), x3 13 (by decide)]
        simp [sx_up]
      have f53 : ∀ j, M2 53 j = if j = 7 then sx_mf 4 (M 9 6) (sx_mf 8 1 s) else M 53 j := fun j => by
        rw [y3 53 (by decide), sh_une (by decide), ← e53]
        simp [sx_up]
      have f82 : ∀ j, M2 82 j = if j = 4 then sx_mf 0 (M 82 4) 1 else M 82 j := fun j => by
        rw [y3 82 (by decide), ← e82]
        simp [sx_up]
      have p : ∀ j, j ≠ 7 → M2 53 j = M 53 j := fun j hj => by rw [f53, if_neg hj]
      have z : ∀ a ∈ [10, 12, 34, 35, 36, 74, 83, 84], M2 a = M a := fun a ha => by
        simp only [List.mem_cons, List.not_mem_nil, or_false] at ha
        exact ff a (by omega) (by omega) (by omega) (by omega) (by omega)
      obtain ⟨k2, k3, k4⟩ := gp_I (M2 := M2) hI i (z 34 (by decide)) (z 35 (by decide)) (z 36 (by decide)) (z 83 (by decide)) (z 84 (by decide)) (fun j h1 h2 => p j (by omega)) (by rw [f9, if_neg (by decide)]) (by rw [f9, if_neg (by decide)])
      obtain ⟨g1, g2⟩ := gp_q (M2 := M2) hI hS c2 (fun a ha h => by
        unfold gp_n at h
        exact ff a ha (by omega) (by omega) (by omega) (by omega)) (fun j h1 h2 => by rw [f9, if_neg h1]) (fun j _ => by rw [z 10 (by decide)]) (fun j h => p j h.1) (by
        rw [z 10 (by decide), p 13 (by decide)]
        exact (bs_eq hI).2.2.2.1) k2 k3 ⟨by rw [f9, f53, if_pos rfl, if_pos rfl], by rw [f9, if_neg (by decide), p 11 (by decide)]; exact s2, fun h hh => by rw [z 12 (by decide), z 74 (by decide)]; exact s3 h hh, fun k hk => by
        rw [f13, f82, s4 4 (by decide)]
        split
        · rfl
        · exact s4 k hk⟩ (by rw [f9, if_pos rfl]; exact fs_orm h4.2 x1.1 x1.2 b1) (by rw [f9, if_neg (by decide)]; exact b2) k4
      exact ⟨1, M1, M2, (w _ (by decide) (by decide)).1, (w _ (by decide) (by decide)).2, a1, a2, c1, c2, g1, g2⟩
end
