/-! house, card, cards: the pairs, with all that is held alike. -/
section
variable {L : Nat} {xs : Nat → Int32} {M M' N N' M0 M1 M2 : Nat → Nat → Int} {k kx km : Nat} {as ax am : List Value} {r : Int × Int} {z s b : Int}
theorem fs_bm {x m n : Int} (h : fs_b x m) (hm : m ≤ n) : fs_b x n := by
  refine ⟨h.1, Int.lt_of_lt_of_le h.2 ?_⟩
  have : 2 ^ m.toNat ≤ 2 ^ n.toNat := Nat.pow_le_pow_right (by decide) (by omega)
  omega
theorem fs_Xg (hX : fs_X M) (fr : bs_fr M N) (h6 : N 9 6 = N 53 7) (h7 : N 9 7 = M 9 7) (h74 : ∀ h, h < 6 → N 74 h = M 74 h) (hO : fs_O N) (hb : fs_b (N 9 6) (N 9 4)) (h4 : M 9 4 ≤ N 9 4) (h5 : M 9 5 ≤ N 9 5) : fs_X N := by
  obtain ⟨⟨s1, s2, s3, s4⟩, o, b1, b2, ⟨⟨i1, i2, i3, i4⟩, i5, i6, i7, i8, i9, i10⟩, l1, l2, l3⟩ := hX
  have zz : ∀ a ∈ [12, 13, 14, 15, 16, 34, 35, 36, 66, 67, 68, 69, 70, 71, 82, 83, 84], N a = M a := fun a ha => by
    have : ∀ a ∈ [12, 13, 14, 15, 16, 34, 35, 36, 66, 67, 68, 69, 70, 71, 82, 83, 84], a < 128 ∧ bs_w a := by unfold bs_w; decide +kernel
    exact fr.1 a (this a ha).1 (this a ha).2
  have p : ∀ j, j = 11 ∨ j = 21 ∨ j = 33 ∨ (50 ≤ j ∧ j ≤ 53) → N 53 j = M 53 j := fun j hj => fr.2 j (by unfold bs_v; omega)
  have z12 := zz 12 (by decide)
  have z13 := zz 13 (by decide)
  have z14 := zz 14 (by decide)
  have z34 := zz 34 (by decide)
  refine ⟨⟨h6, ?_, fun h hh => ?_, fun k hk => ?_⟩, hO, hb, ?_, ⟨⟨?_, ?_, ?_, ?_⟩, fun h hh => ?_, fun k hk => ?_, ?_, ?_, ?_, ?_⟩, ?_, fun i hi => ?_, ?_⟩
  · rw [h7, p 11 (by decide)]; exact s2
  · rw [z12, h74 h hh]; exact s3 h hh
  · rw [z13, zz 82 (by decide)]; exact s4 k hk
  · rw [h7]; exact fs_bm b2 h5
  · rw [z34, p 50 (by decide)]; exact i1
  · rw [z34, p 51 (by decide)]; exact i2
  · rw [z34, p 52 (by decide)]; exact i3
  · rw [z34, p 53 (by decide)]; exact i4
  · rw [zz 35 (by decide), zz 83 (by decide)]; exact i5 h hh
  · rw [zz 36 (by decide), zz 84 (by decide)]; exact i6 k hk
  · rw [z34]; exact i7
  · rw [z34]; exact i8
  · rw [z34]; exact Int.le_trans i9 h4
  · rw [z34]; exact Int.le_trans i10 h5
  · rw [z14, p 21 (by decide)]; exact l1
  · rw [z14] at hi
    rw [zz 66 (by decide), zz 15 (by decide)]
    exact l2 i hi
  · exact vu_M (zz 16 (by decide)) (by rw [z14]) (p 33 (by decide)) (zz 67 (by decide)) (zz 68 (by decide)) (zz 69 (by decide)) (zz 70 (by decide)) (zz 71 (by decide)) l3
theorem fs_P0 (hI : la_I WF bs_cps M) (hS : fs_SS M) (hr : sx_w r z) (h32 : sx_w sx_r32 z) (a1 : lb_run L xs kx ax M (lb_val 0 z) M1) (a2 : sx_mok cl_ly M1) (a3 : ∀ a, a < 128 → M1 a = M a) (b1 : lb_run L xs km am M1 (lb_val 0 z) M2) (b2 : sx_mok cl_ly M2) (b3 : ∀ a, a < 128 → M2 a = M1 a) : fs_P WF L xs 0 kx km ax am r M := by
  obtain ⟨c1, c2⟩ := fs_q WF_zs hI hS b2 ⟨fun a ha _ => (b3 a ha).trans (a3 a ha), fun j _ => by rw [b3 53 (by decide), a3 53 (by decide)]⟩
  exact ⟨z, M1, M2, hr, Or.inl ⟨rfl, h32⟩, a1, a2, b1, b2, c1, c2⟩
/-- two ways to tell of a pair -/
theorem fs_two {P1 P2 : (Nat → Nat → Int) → Prop} (hb : bs_P WF L xs kx km ax am r M) (hx : ∃ v N, lb_run L xs kx ax M v N ∧ sx_mok cl_ly N ∧ P1 N) (hm : ∀ N, sx_mok cl_ly N → P1 N → ∃ v N', lb_run L xs km am N v N' ∧ sx_mok cl_ly N' ∧ P2 N') (hX : ∀ N' M2, sx_mok cl_ly M2 → P2 N' → fs_k N' M2 → bs_fr M M2 → fs_X M2) : fs_P WF L xs 0 kx km ax am r M := by
  obtain ⟨z, M1, M2, h0, h1, h2, h3, h4, h5, h6, h7, h8⟩ := hb
  obtain ⟨v, N1, n1, n2, n3⟩ := hx
  obtain ⟨-, e1⟩ := fd_run h2 n1
  obtain ⟨v', N2, p1, p2, p3⟩ := hm N1 n2 n3
  have h4' : lb_run L xs km am N1 (lb_val 0 z) M2 := by
    unfold lb_run at h4 ⊢
    rw [← e1]
    exact h4
  obtain ⟨-, e2⟩ := fd_run h4' p1
  exact ⟨z, M1, M2, h0, h1, h2, h3, h4, h5, h6, h7, hX N2 M2 h5 p3 (fd_k e2 h5 p2) h8⟩
def hf1_i : List qs_I := [(0, 0, (0, 0), sx_r32), (1, 9, (0, 4), (0, 6)), (1, 9, (0, 6), sx_r32)]
def hf1_T : List og_T := [(none, some (0, 0, -1), [], [], [], [(0, (9, 0), (0, 0), -2147483648, -1)]), (none, some (0, 10, 0), [], [], [(10, (10, 120), (0, 3)), (10, (10, 90), (0, 0)), (10, (10, 60), (0, 5)), (10, (10, 30), (0, 3)), (10, (10, 0), (9, 0)), (9, (0, 4), (10, 1)), (9, (0, 6), (13, 0))], [(0, (9, 0), (0, 0), 0, 143), (0, (10, 0), (0, 0), 0, 5), (5, (0, 1), (10, 0), 8, 12), (5, (11, 0), (12, 0), 4, 13)]), (none, some (0, 0, -3), [], [], [], [(0, (9, 0), (0, 0), 0, 143), (0, (10, 0), (0, 0), 6, 6)]), (none, some (0, 0, -1), [], [], [], [(0, (9, 0), (0, 0), 144, 2147483647)])]
theorem hf1_c : qs_chk (fun _ => false) hf1_i 2 hf1_T 400 400 4 11 0 [(0, 2, 0, 8), (1, 0, 9, 0)] [] = true := by decide +kernel
def hf2_i : List qs_I := [(0, 0, (0, 0), sx_r32), (1, 53, (0, 1), (0, 6)), (1, 53, (0, 7), sx_r32)]
def hf2_T : List og_T := [(none, some (0, 0, -1), [], [], [], [(0, (9, 0), (0, 0), -2147483648, -1)]), (none, some (0, 0, -3), [], [], [], [(0, (9, 0), (0, 0), 0, 143), (0, (10, 0), (0, 0), 6, 6)]), (none, some (0, 10, 0), [], [], [(58, (10, 0), (0, 3)), (57, (10, 0), (0, 0)), (56, (10, 0), (0, 5)), (55, (10, 0), (0, 3)), (54, (10, 0), (9, 0)), (53, (0, 1), (10, 1)), (53, (0, 7), (13, 0))], [(0, (9, 0), (0, 0), 0, 143), (7, (10, 0), (0, 0), 6, 0), (5, (0, 1), (10, 0), 8, 12), (5, (11, 0), (12, 0), 4, 13)]), (none, some (0, 0, -1), [], [], [], [(0, (9, 0), (0, 0), 144, 2147483647)])]
theorem hf2_c : qs_chk (fun _ => false) hf2_i 2 hf2_T 400 400 4 153 0 [(0, 2, 0, 53), (1, 0, 9, 0)] [] = true := by decide +kernel
def kf1_i : List qs_I := [(0, 0, (0, 0), sx_r32), (0, 0, (0, 0), sx_r32), (1, 9, (0, 4), (0, 6)), (1, 9, (0, 5), (0, 12))]
def kf1_T : List og_T := [(none, some (0, 0, -1), [], [], [], [(0, (9, 0), (0, 0), -2147483648, -1)]), (none, some (0, 0, -1), [], [], [], [(0, (9, 0), (0, 0), 0, 2147483647), (2, (9, 0), (11, 0), 0, 0)]), (none, some (0, 0, -1), [], [], [], [(0, (9, 0), (0, 0), 0, 5), (0, (10, 0), (0, 0), -2147483648, -2), (0, (11, 0), (0, 0), 1, 6), (1, (9, 0), (11, 0), 0, 0)]), (none, some (0, 12, 0), [], [], [(10, (12, 180), (10, 0)), (11, (12, 0), (9, 0)), (9, (0, 5), (12, 1))], [(0, (9, 0), (0, 0), 0, 5), (0, (10, 0), (0, 0), -1, 29), (0, (11, 0), (0, 0), 1, 6), (0, (12, 0), (0, 0), 0, 11), (1, (9, 0), (11, 0), 0, 0)]), (none, some (0, 0, -3), [], [], [], [(0, (9, 0), (0, 0), 0, 5), (0, (10, 0), (0, 0), -1, 29), (0, (11, 0), (0, 0), 1, 6), (0, (12, 0), (0, 0), 12, 12), (1, (9, 0), (11, 0), 0, 0)]), (none, some (0, 0, -1), [], [], [], [(0, (9, 0), (0, 0), 0, 5), (0, (10, 0), (0, 0), 30, 2147483647), (0, (11, 0), (0, 0), 1, 6), (1, (9, 0), (11, 0), 0, 0)])]
theorem kf1_c : qs_chk (fun _ => false) kf1_i 0 kf1_T 400 400 4 15 0 [(0, 2, 0, 8), (1, 0, 9, 0), (2, 0, 10, 0)] [] = true := by decide +kernel
def kf2_i : List qs_I := [(0, 0, (0, 0), sx_r32), (0, 0, (0, 0), sx_r32), (1, 53, (0, 1), (0, 6)), (1, 53, (0, 8), (0, 12))]
def kf2_T : List og_T := [(none, some (0, 0, -1), [], [], [], [(0, (9, 0), (0, 0), -2147483648, -1)]), (none, some (0, 0, -1), [], [], [], [(0, (9, 0), (0, 0), 0, 2147483647), (1, (11, 0), (9, 0), 1, 0)]), (none, some (0, 0, -1), [], [], [], [(0, (9, 0), (0, 0), 0, 5), (0, (10, 0), (0, 0), -2147483648, -2), (0, (11, 0), (0, 0), 1, 6), (2, (11, 0), (9, 0), 1, 0)]), (none, some (0, 0, -3), [], [], [], [(0, (9, 0), (0, 0), 0, 5), (0, (10, 0), (0, 0), -1, 29), (0, (11, 0), (0, 0), 1, 6), (0, (12, 0), (0, 0), 12, 12), (2, (11, 0), (9, 0), 1, 0)]), (none, some (0, 12, 0), [], [], [(60, (12, 0), (10, 0)), (59, (12, 0), (9, 0)), (53, (0, 8), (12, 1))], [(0, (9, 0), (0, 0), 0, 5), (0, (10, 0), (0, 0), -1, 29), (0, (11, 0), (0, 0), 1, 6), (7, (12, 0), (0, 0), 12, 0), (2, (11, 0), (9, 0), 1, 0)]), (none, some (0, 0, -1), [], [], [], [(0, (9, 0), (0, 0), 0, 5), (0, (10, 0), (0, 0), 30, 2147483647), (0, (11, 0), (0, 0), 1, 6), (2, (11, 0), (9, 0), 1, 0)])]
theorem kf2_c : qs_chk (fun _ => false) kf2_i 0 kf2_T 400 400 4 155 0 [(0, 2, 0, 53), (1, 0, 9, 0), (2, 0, 10, 0)] [] = true := by decide +kernel
/-- one more bit -/
theorem fs_or1 : ((List.range 6).all fun h => (List.range (2 ^ h)).all fun k => sx_an (sx_le 0 (sx_mf 4 (k : Int) (sx_mf 8 1 (h : Int)))) (sx_lt (sx_mf 4 (k : Int) (sx_mf 8 1 (h : Int))) ((2 ^ (h + 1) : Nat) : Int))) = true := by decide +kernel
theorem fs_or {x : Int} {h : Nat} (hh : h < 6) (hb : fs_b x (h : Int)) : fs_b (sx_mf 4 x (sx_mf 8 1 (h : Int))) ((h : Int) + 1) := by
  obtain ⟨b1, b2⟩ := hb
  rw [Int.toNat_natCast] at b2
  obtain ⟨k, rfl⟩ := Int.eq_ofNat_of_zero_le b1
  obtain ⟨h1, h2⟩ := sx_an_iff.mp (List.all_eq_true.mp (List.all_eq_true.mp fs_or1 h (List.mem_range.mpr hh)) k (List.mem_range.mpr (by omega)))
  refine ⟨sx_le_iff.mp h1, ?_⟩
  rw [show ((h : Int) + 1).toNat = h + 1 by omega]
  exact sx_lt_iff.mp h2
def hf_P (s : Int) (M N : Nat → Nat → Int) : Prop := ((¬ (0 ≤ s ∧ s ≤ 143) ∨ M 9 4 = 6) ∧ ∀ a, a < 128 → N a = M a) ∨ (((0 ≤ s ∧ s ≤ 143) ∧ M 9 4 ≤ 5) ∧ (∀ a, a < 128 → a ≠ 9 → a ≠ 10 → N a = M a) ∧ N 9 4 = M 9 4 + 1 ∧ N 9 6 = sx_mf 4 (M 9 6) (sx_mf 8 1 (M 9 4)) ∧ ∀ j, j ≠ 4 → j ≠ 6 → N 9 j = M 9 j)
def hf_M (s : Int) (M N : Nat → Nat → Int) : Prop := ((¬ (0 ≤ s ∧ s ≤ 143) ∨ M 53 1 = 6) ∧ ∀ a, a < 128 → N a = M a) ∨ (((0 ≤ s ∧ s ≤ 143) ∧ M 53 1 ≠ 6) ∧ (∀ a, a < 128 → ¬ (53 ≤ a ∧ a ≤ 58) → N a = M a) ∧ N 53 7 = sx_mf 4 (M 53 7) (sx_mf 8 1 (M 53 1)))
theorem hf_x (hL : L < 2 ^ 31) (hm : sx_mok cl_ly M) (hs : sx_w sx_r32 s) : rz_fin (fun v N => (∃ u, v = some u) ∧ sx_mok cl_ly N ∧ hf_P s M N) L xs 11 4 0 [(0, .ref 8), (1, .int (Int32.ofInt s))] [] M := by
  have h4 := cx_fld (c := 9) (k := 4) (lo := 0) (hi := 6) hm (by decide +kernel)
  have w6 : sx_w sx_r32 (M 9 6) := cv_ly_ok (g := (9, 6, sx_r32)) hm (by decide +kernel)
  refine qs_use (zs := [s, M 9 4, M 9 6]) hf1_c hL hm (qs_iw hs (qs_rd (show (0 : Int) ≤ 4 by decide) rfl h4 (qs_rd (show (0 : Int) ≤ 6 by decide) rfl w6 (qs_fin rfl)))) (Nat.le_refl _) rfl rfl (qs_c (fun u1 u2 N hN hc hM => ?_) (qs_c (fun u1 u2 N hN hc hM => ?_) (qs_c (fun u1 u2 N hN hc hM => ?_) (qs_c (fun u1 u2 N hN hc hM => ?_) qs_z))))
  · have c1 : -2147483648 ≤ s ∧ s ≤ -1 := hc.1
    exact ⟨⟨_, rfl⟩, hN, Or.inl ⟨Or.inl (by omega), hM⟩⟩
  · obtain ⟨c1, c2, c3, c4, -⟩ := hc
    have c1 : 0 ≤ s ∧ s ≤ 143 := c1
    have c2 : 0 ≤ M 9 4 ∧ M 9 4 ≤ 5 := c2
    have c3 : u1 = sx_mf 8 1 (M 9 4) := c3
    have c4 : u2 = sx_mf 4 (M 9 6) u1 := c4
    have hM : ∀ a, a < 128 → N a = sx_up (sx_up (sx_up (sx_up (sx_up (sx_up (sx_up M 9 6 u2) 9 4 (M 9 4 + 1)) 10 (M 9 4).toNat s) 10 (M 9 4 + 30).toNat 3) 10 (M 9 4 + 60).toNat 5) 10 (M 9 4 + 90).toNat 0) 10 (M 9 4 + 120).toNat 3 a := hM
    refine ⟨⟨_, rfl⟩, hN, Or.inr ⟨⟨c1, c2.2⟩, fun a ha p q => ?_, ?_, ?_, fun j p q => ?_⟩⟩
    · rw [hM a ha, sh_une q, sh_une q, sh_une q, sh_une q, sh_une q, sh_une p, sh_une p]
    · rw [hM 9 (by decide), sh_une (by decide), sh_une (by decide), sh_une (by decide), sh_une (by decide), sh_une (by decide), sh_uat]
    · rw [hM 9 (by decide), sh_une (by decide), sh_une (by decide), sh_une (by decide), sh_une (by decide), sh_une (by decide), sh_unj (by decide), sh_uat, c4, c3]
    · rw [hM 9 (by decide), sh_une (by decide), sh_une (by decide), sh_une (by decide), sh_une (by decide), sh_une (by decide), sh_unj p, sh_unj q]
  · obtain ⟨c1, c2, -⟩ := hc
    have c2 : 6 ≤ M 9 4 ∧ M 9 4 ≤ 6 := c2
    exact ⟨⟨_, rfl⟩, hN, Or.inl ⟨Or.inr (by omega), hM⟩⟩
  · have c1 : 144 ≤ s ∧ s ≤ 2147483647 := hc.1
    exact ⟨⟨_, rfl⟩, hN, Or.inl ⟨Or.inl (by omega), hM⟩⟩
theorem hf_m (hL : L < 2 ^ 31) (hm : sx_mok cl_ly M) (hs : sx_w sx_r32 s) : rz_fin (fun v N => (∃ u, v = some u) ∧ sx_mok cl_ly N ∧ hf_M s M N) L xs 153 4 0 [(0, .ref 53), (1, .int (Int32.ofInt s))] [] M := by
  have h4 := cx_fld (c := 53) (k := 1) (lo := 0) (hi := 6) hm (by decide +kernel)
  have w6 : sx_w sx_r32 (M 53 7) := cv_ly_ok (g := (53, 7, sx_r32)) hm (by decide +kernel)
  refine qs_use (zs := [s, M 53 1, M 53 7]) hf2_c hL hm (qs_iw hs (qs_rd (show (0 : Int) ≤ 1 by decide) rfl h4 (qs_rd (show (0 : Int) ≤ 7 by decide) rfl w6 (qs_fin rfl)))) (Nat.le_refl _) rfl rfl (qs_c (fun u1 u2 N hN hc hM => ?_) (qs_c (fun u1 u2 N hN hc hM => ?_) (qs_c (fun u1 u2 N hN hc hM => ?_) (qs_c (fun u1 u2 N hN hc hM => ?_) qs_z))))
  · have c1 : -2147483648 ≤ s ∧ s ≤ -1 := hc.1
    exact ⟨⟨_, rfl⟩, hN, Or.inl ⟨Or.inl (by omega), hM⟩⟩
  · obtain ⟨c1, c2, -⟩ := hc
    have c2 : 6 ≤ M 53 1 ∧ M 53 1 ≤ 6 := c2
    exact ⟨⟨_, rfl⟩, hN, Or.inl ⟨Or.inr (by omega), hM⟩⟩
  · obtain ⟨c1, c2, c3, c4, -⟩ := hc
    have c1 : 0 ≤ s ∧ s ≤ 143 := c1
    have c2 : M 53 1 ≠ 6 := c2
    have c3 : u1 = sx_mf 8 1 (M 53 1) := c3
    have c4 : u2 = sx_mf 4 (M 53 7) u1 := c4
    have hM : ∀ a, a < 128 → N a = sx_up (sx_up (sx_up (sx_up (sx_up (sx_up (sx_up M 53 7 u2) 53 1 (M 53 1 + 1)) 54 (M 53 1).toNat s) 55 (M 53 1).toNat 3) 56 (M 53 1).toNat 5) 57 (M 53 1).toNat 0) 58 (M 53 1).toNat 3 a := hM
    refine ⟨⟨_, rfl⟩, hN, Or.inr ⟨⟨c1, c2⟩, fun a ha q => ?_, ?_⟩⟩
    · rw [hM a ha, sh_une (by omega), sh_une (by omega), sh_une (by omega), sh_une (by omega), sh_une (by omega), sh_une (by omega), sh_une (by omega)]
    · rw [hM 53 (by decide), sh_une (by decide), sh_une (by decide), sh_une (by decide), sh_une (by decide), sh_une (by decide), sh_unj (by decide), sh_uat, c4, c3]
  · have c1 : 144 ≤ s ∧ s ≤ 2147483647 := hc.1
    exact ⟨⟨_, rfl⟩, hN, Or.inl ⟨Or.inl (by omega), hM⟩⟩
theorem fs_hs (hL : L < 2 ^ 31) (hI : la_I WF bs_cps M) (hS : fs_SS M) (hs : sx_w sx_r32 s) : fs_P WF L xs 0 11 153 [.ref 8, .int (Int32.ofInt s)] [.ref 53, .int (Int32.ofInt s)] (-3, 5) M := by
  obtain ⟨e1, e2, -, -, -, -, -⟩ := bs_eq hI
  have h4 := cx_fld (c := 9) (k := 4) (lo := 0) (hi := 6) hI.1 (by decide +kernel)
  obtain ⟨⟨s1, s2, s3, s4⟩, o, b1, b2, -⟩ := id hS.2
  obtain ⟨H, eH⟩ := Int.eq_ofNat_of_zero_le h4.1
  refine fs_two (P1 := hf_P s M) (P2 := fun N' => ∃ N, hf_P s M N ∧ hf_M s N N') (hs_hp WF_zs hL hI hS.1 hs) ?_ (fun N mN pN => ?_) (fun N' M2 m2 hP hk fr => ?_)
  · obtain ⟨F, v, N, f1, ⟨u, rfl⟩, f2, f3⟩ := rz_d (show 4 ≤ 99 by decide) (hf_x (xs := xs) hL hI.1 hs)
    exact ⟨u, N, ⟨F, f1⟩, f2, f3⟩
  · obtain ⟨F, v, N', f1, ⟨u, rfl⟩, f2, f3⟩ := rz_d (show 4 ≤ 99 by decide) (hf_m (xs := xs) hL mN hs)
    exact ⟨u, N', ⟨F, f1⟩, f2, N, pN, f3⟩
  · obtain ⟨N, p1, p2⟩ := hP
    obtain ⟨k1, k2, k3, k4⟩ := hk
    rcases p1 with ⟨x1, x2⟩ | ⟨x1, x2, x3, x4, x5⟩
    · have e : N 53 = M 53 := x2 53 (by decide)
      rcases p2 with ⟨-, y2⟩ | ⟨y1, -⟩
      · have q : ∀ a, a < 128 → N' a = M a := fun a ha => (y2 a ha).trans (x2 a ha)
        exact fs_Xk hI.1 hS.2 fr ⟨fun j p p' => by rw [k1 j p p', q 9 (by decide)], fun c hc => by rw [(k2 c hc).1, (k2 c hc).2, q 11 (by decide), q 59 (by decide)]; exact ⟨rfl, rfl⟩, fun h hh => by rw [k3 h hh, q 74 (by decide)], by rw [k4, q 53 (by decide)]⟩
      · rw [e] at y1
        omega
    · have e : N 53 = M 53 := x2 53 (by decide) (by decide) (by decide)
      rcases p2 with ⟨y1, -⟩ | ⟨y1, y2, y3⟩
      · rw [e] at y1
        omega
      · have g9 : N' 9 = N 9 := y2 9 (by decide) (by decide)
        have d4 : M2 9 4 = M 9 4 + 1 := by rw [k1 4 (by decide) (by decide), g9, x3]
        have d5 : M2 9 5 = M 9 5 := by rw [k1 5 (by decide) (by decide), g9, x5 5 (by decide) (by decide)]
        have d6 : M2 9 6 = sx_mf 4 (M 9 6) (sx_mf 8 1 (M 9 4)) := by rw [k1 6 (by decide) (by decide), g9, x4]
        have d7 : M2 9 7 = M 9 7 := by rw [k1 7 (by decide) (by decide), g9, x5 7 (by decide) (by decide)]
        have dd : M2 53 7 = sx_mf 4 (M 53 7) (sx_mf 8 1 (M 53 1)) := by rw [k4, y3, e]
        have hC := cx_fld (c := 9) (k := 5) (lo := 0) (hi := 12) hI.1 (by decide +kernel)
        refine fs_Xg hS.2 fr ?_ d7 (fun h hh => ?_) (fun c hc => ?_) ?_ ?_ ?_
        · rw [d6, dd, s1, e1]
        · rw [k3 h hh, y2 74 (by decide) (by decide), x2 74 (by decide) (by decide) (by decide)]
        · rw [d5] at hc
          obtain ⟨c1, c2⟩ := k2 c (by omega)
          obtain ⟨o1, o2, o3⟩ := o c hc
          rw [c1, c2, d4, y2 11 (by decide) (by decide), y2 59 (by decide) (by decide), x2 11 (by decide) (by decide) (by decide), x2 59 (by decide) (by decide) (by decide)]
          exact ⟨o1, o2, by omega⟩
        · rw [d6, d4, eH]
          rw [eH] at b1
          exact fs_or (by omega) b1
        · rw [d4]; omega
        · rw [d5]; exact Int.le_refl _
def kf_P (s b : Int) (M N : Nat → Nat → Int) : Prop := (¬ ((0 ≤ s ∧ s < M 9 4) ∧ (-1 ≤ b ∧ b ≤ 29) ∧ M 9 5 ≤ 11) ∧ ∀ a, a < 128 → N a = M a) ∨ (((0 ≤ s ∧ s < M 9 4) ∧ (-1 ≤ b ∧ b ≤ 29) ∧ M 9 5 ≤ 11) ∧ (∀ a, a < 128 → a ≠ 9 → a ≠ 10 → a ≠ 11 → N a = M a) ∧ N 9 5 = M 9 5 + 1 ∧ (∀ j, j ≠ 5 → N 9 j = M 9 j) ∧ N 11 (M 9 5).toNat = s ∧ ∀ c, c ≠ (M 9 5).toNat → N 11 c = M 11 c)
def kf_M (s b : Int) (M N : Nat → Nat → Int) : Prop := (¬ ((0 ≤ s ∧ s < M 53 1) ∧ (-1 ≤ b ∧ b ≤ 29) ∧ M 53 8 ≤ 11) ∧ ∀ a, a < 128 → N a = M a) ∨ (((0 ≤ s ∧ s < M 53 1) ∧ (-1 ≤ b ∧ b ≤ 29) ∧ M 53 8 ≤ 11) ∧ (∀ a, a < 128 → a ≠ 53 → a ≠ 59 → a ≠ 60 → N a = M a) ∧ (∀ j, j ≠ 8 → N 53 j = M 53 j) ∧ N 59 (M 53 8).toNat = s ∧ ∀ c, c ≠ (M 53 8).toNat → N 59 c = M 59 c)
theorem kf_x (hL : L < 2 ^ 31) (hm : sx_mok cl_ly M) (hs : sx_w sx_r32 s) (hb : sx_w sx_r32 b) : rz_fin (fun v N => (∃ u, v = some u) ∧ sx_mok cl_ly N ∧ kf_P s b M N) L xs 15 4 0 [(0, .ref 8), (1, .int (Int32.ofInt s)), (2, .int (Int32.ofInt b))] [] M := by
  have h4 := cx_fld (c := 9) (k := 4) (lo := 0) (hi := 6) hm (by decide +kernel)
  have h5 := cx_fld (c := 9) (k := 5) (lo := 0) (hi := 12) hm (by decide +kernel)
  refine qs_use (zs := [s, b, M 9 4, M 9 5]) kf1_c hL hm (qs_iw hs (qs_iw hb (qs_rd (show (0 : Int) ≤ 4 by decide) rfl h4 (qs_rd (show (0 : Int) ≤ 5 by decide) rfl h5 (qs_fin rfl))))) (Nat.le_refl _) rfl rfl (qs_c (fun N hN hc hM => ?_) (qs_c (fun N hN hc hM => ?_) (qs_c (fun N hN hc hM => ?_) (qs_c (fun N hN hc hM => ?_) (qs_c (fun N hN hc hM => ?_) (qs_c (fun N hN hc hM => ?_) qs_z))))))
  · have c1 : -2147483648 ≤ s ∧ s ≤ -1 := hc.1
    exact ⟨⟨_, rfl⟩, hN, Or.inl ⟨by omega, hM⟩⟩
  · have c1 : ¬ s < M 9 4 := hc.2.1
    exact ⟨⟨_, rfl⟩, hN, Or.inl ⟨by omega, hM⟩⟩
  · have c1 : -2147483648 ≤ b ∧ b ≤ -2 := hc.2.1
    exact ⟨⟨_, rfl⟩, hN, Or.inl ⟨by omega, hM⟩⟩
  · obtain ⟨c1, c2, c3, c4, c5, -⟩ := hc
    have c1 : 0 ≤ s ∧ s ≤ 5 := c1
    have c2 : -1 ≤ b ∧ b ≤ 29 := c2
    have c4 : 0 ≤ M 9 5 ∧ M 9 5 ≤ 11 := c4
    have c5 : s < M 9 4 := c5
    have hM : ∀ a, a < 128 → N a = sx_up (sx_up (sx_up M 9 5 (M 9 5 + 1)) 11 (M 9 5).toNat s) 10 (M 9 5 + 180).toNat b a := hM
    refine ⟨⟨_, rfl⟩, hN, Or.inr ⟨⟨⟨c1.1, c5⟩, c2, c4.2⟩, fun a ha p q t => ?_, ?_, fun j p => ?_, ?_, fun c p => ?_⟩⟩
    · rw [hM a ha, sh_une q, sh_une t, sh_une p]
    · rw [hM 9 (by decide), sh_une (by decide), sh_une (by decide), sh_uat]
    · rw [hM 9 (by decide), sh_une (by decide), sh_une (by decide), sh_unj p]
    · rw [hM 11 (by decide), sh_une (by decide), sh_uat]
    · rw [hM 11 (by decide), sh_une (by decide), sh_unj p, sh_une (by decide)]
  · have c1 : 12 ≤ M 9 5 ∧ M 9 5 ≤ 12 := hc.2.2.2.1
    exact ⟨⟨_, rfl⟩, hN, Or.inl ⟨by omega, hM⟩⟩
  · have c1 : 30 ≤ b ∧ b ≤ 2147483647 := hc.2.1
    exact ⟨⟨_, rfl⟩, hN, Or.inl ⟨by omega, hM⟩⟩
theorem kf_m (hL : L < 2 ^ 31) (hm : sx_mok cl_ly M) (hs : sx_w sx_r32 s) (hb : sx_w sx_r32 b) : rz_fin (fun v N => (∃ u, v = some u) ∧ sx_mok cl_ly N ∧ kf_M s b M N) L xs 155 4 0 [(0, .ref 53), (1, .int (Int32.ofInt s)), (2, .int (Int32.ofInt b))] [] M := by
  have h4 := cx_fld (c := 53) (k := 1) (lo := 0) (hi := 6) hm (by decide +kernel)
  have h5 := cx_fld (c := 53) (k := 8) (lo := 0) (hi := 12) hm (by decide +kernel)
  refine qs_use (zs := [s, b, M 53 1, M 53 8]) kf2_c hL hm (qs_iw hs (qs_iw hb (qs_rd (show (0 : Int) ≤ 1 by decide) rfl h4 (qs_rd (show (0 : Int) ≤ 8 by decide) rfl h5 (qs_fin rfl))))) (Nat.le_refl _) rfl rfl (qs_c (fun N hN hc hM => ?_) (qs_c (fun N hN hc hM => ?_) (qs_c (fun N hN hc hM => ?_) (qs_c (fun N hN hc hM => ?_) (qs_c (fun N hN hc hM => ?_) (qs_c (fun N hN hc hM => ?_) qs_z))))))
  · have c1 : -2147483648 ≤ s ∧ s ≤ -1 := hc.1
    exact ⟨⟨_, rfl⟩, hN, Or.inl ⟨by omega, hM⟩⟩
  · have c1 : M 53 1 < s + 1 := hc.2.1
    exact ⟨⟨_, rfl⟩, hN, Or.inl ⟨by omega, hM⟩⟩
  · have c1 : -2147483648 ≤ b ∧ b ≤ -2 := hc.2.1
    exact ⟨⟨_, rfl⟩, hN, Or.inl ⟨by omega, hM⟩⟩
  · have c1 : 12 ≤ M 53 8 ∧ M 53 8 ≤ 12 := hc.2.2.2.1
    exact ⟨⟨_, rfl⟩, hN, Or.inl ⟨by omega, hM⟩⟩
  · obtain ⟨c1, c2, c3, c4, c5, -⟩ := hc
    have c1 : 0 ≤ s ∧ s ≤ 5 := c1
    have c2 : -1 ≤ b ∧ b ≤ 29 := c2
    have c4 : M 53 8 ≠ 12 := c4
    have c5 : ¬ M 53 1 < s + 1 := c5
    have hM : ∀ a, a < 128 → N a = sx_up (sx_up (sx_up M 53 8 (M 53 8 + 1)) 59 (M 53 8).toNat s) 60 (M 53 8).toNat b a := hM
    refine ⟨⟨_, rfl⟩, hN, Or.inr ⟨⟨⟨c1.1, by omega⟩, c2, by omega⟩, fun a ha p q t => ?_, fun j p => ?_, ?_, fun c p => ?_⟩⟩
    · rw [hM a ha, sh_une t, sh_une q, sh_une p]
    · rw [hM 53 (by decide), sh_une (by decide), sh_une (by decide), sh_unj p]
    · rw [hM 59 (by decide), sh_une (by decide), sh_uat]
    · rw [hM 59 (by decide), sh_une (by decide), sh_unj p, sh_une (by decide)]
  · have c1 : 30 ≤ b ∧ b ≤ 2147483647 := hc.2.1
    exact ⟨⟨_, rfl⟩, hN, Or.inl ⟨by omega, hM⟩⟩
theorem fs_ka (hL : L < 2 ^ 31) (hI : la_I WF bs_cps M) (hS : fs_SS M) (hs : sx_w sx_r32 s) (hb : sx_w sx_r32 b) : fs_P WF L xs 0 15 155 [.ref 8, .int (Int32.ofInt s), .int (Int32.ofInt b)] [.ref 53, .int (Int32.ofInt s), .int (Int32.ofInt b)] (-3, 11) M := by
  obtain ⟨e1, e2, -, -, -, -, -⟩ := bs_eq hI
  obtain ⟨⟨s1, s2, s3, s4⟩, o, b1, b2, -⟩ := id hS.2
  have hC := cx_fld (c := 9) (k := 5) (lo := 0) (hi := 12) hI.1 (by decide +kernel)
  refine fs_two (P1 := kf_P s b M) (P2 := fun N' => ∃ N, kf_P s b M N ∧ kf_M s b N N') (ka_hp WF_zs hL hI hS.1 hs hb) ?_ (fun N mN pN => ?_) (fun N' M2 m2 hP hk fr => ?_)
  · obtain ⟨F, v, N, f1, ⟨u, rfl⟩, f2, f3⟩ := rz_d (show 4 ≤ 99 by decide) (kf_x (xs := xs) hL hI.1 hs hb)
    exact ⟨u, N, ⟨F, f1⟩, f2, f3⟩
  · obtain ⟨F, v, N', f1, ⟨u, rfl⟩, f2, f3⟩ := rz_d (show 4 ≤ 99 by decide) (kf_m (xs := xs) hL mN hs hb)
    exact ⟨u, N', ⟨F, f1⟩, f2, N, pN, f3⟩
  · obtain ⟨N, p1, p2⟩ := hP
    obtain ⟨k1, k2, k3, k4⟩ := hk
    rcases p1 with ⟨x1, x2⟩ | ⟨x1, x2, x3, x4, x5, x6⟩
    · have e : N 53 = M 53 := x2 53 (by decide)
      rcases p2 with ⟨-, y2⟩ | ⟨y1, -⟩
      · have q : ∀ a, a < 128 → N' a = M a := fun a ha => (y2 a ha).trans (x2 a ha)
        exact fs_Xk hI.1 hS.2 fr ⟨fun j p p' => by rw [k1 j p p', q 9 (by decide)], fun c hc => by rw [(k2 c hc).1, (k2 c hc).2, q 11 (by decide), q 59 (by decide)]; exact ⟨rfl, rfl⟩, fun h hh => by rw [k3 h hh, q 74 (by decide)], by rw [k4, q 53 (by decide)]⟩
      · rw [e] at y1
        omega
    · have e : N 53 = M 53 := x2 53 (by decide) (by decide) (by decide) (by decide)
      rcases p2 with ⟨y1, -⟩ | ⟨y1, y2, y3, y4, y5⟩
      · rw [e] at y1
        omega
      · have g9 : N' 9 = N 9 := y2 9 (by decide) (by decide) (by decide) (by decide)
        have g11 : N' 11 = N 11 := y2 11 (by decide) (by decide) (by decide) (by decide)
        have x59 : N 59 = M 59 := x2 59 (by decide) (by decide) (by decide) (by decide)
        rw [e] at y4 y5
        have en : (M 53 8).toNat = (M 9 5).toNat := by rw [e2]
        rw [en] at y4 y5
        have d : ∀ j, 4 ≤ j → j ≤ 7 → j ≠ 5 → M2 9 j = M 9 j := fun j p p' q => by rw [k1 j p p', g9, x4 j q]
        have d5 : M2 9 5 = M 9 5 + 1 := by rw [k1 5 (by decide) (by decide), g9, x3]
        refine fs_Xg hS.2 fr ?_ (d 7 (by decide) (by decide) (by decide)) (fun h hh => ?_) (fun c hc => ?_) ?_ ?_ ?_
        · rw [d 6 (by decide) (by decide) (by decide), k4, y3 7 (by decide), e]
          exact s1
        · rw [k3 h hh, y2 74 (by decide) (by decide) (by decide) (by decide), x2 74 (by decide) (by decide) (by decide) (by decide)]
        · rw [d5] at hc
          obtain ⟨c1, c2⟩ := k2 c (by omega)
          rw [c1, c2, d 4 (by decide) (by decide) (by decide), g11]
          by_cases ec : c = (M 9 5).toNat
          · rw [ec, x5, y4]
            exact ⟨rfl, x1.1.1, x1.1.2⟩
          · rw [x6 c ec, y5 c ec, x59]
            exact o c (by omega)
        · rw [d 6 (by decide) (by decide) (by decide), d 4 (by decide) (by decide) (by decide)]
          exact b1
        · rw [d 4 (by decide) (by decide) (by decide)]; exact Int.le_refl _
        · rw [d5]; omega
end
section
variable {L : Nat} {xs : Nat → Int32} {M M' M0 M1 M2 N : Nat → Nat → Int} {ρ ρ' : Nat → Int} {s i n z : Int} {c k q : Nat}
theorem fs_cd (hL : L < 2 ^ 31) (hI : la_I WF bs_cps M) (hS0 : fs_SS M) (hs : sx_w sx_r32 s) (hi : sx_w sx_r32 i) (hn : sx_w sx_r32 n) : fs_P WF L xs 0 18 158 [.ref 8, .int (Int32.ofInt s), .int (Int32.ofInt i), .int (Int32.ofInt n)] [.ref 53, .int (Int32.ofInt s), .int (Int32.ofInt i), .int (Int32.ofInt n)] (-12, 12) M := by
  have hS := hS0.1
  have hs' := sx_r32_iff.mp hs
  have w : ∀ k : Int, -12 ≤ k → k ≤ 12 → sx_w (-12, 12) k ∧ sx_w sx_r32 k := fun k h1 h2 => ⟨⟨h1, h2⟩, og_w32 (by omega) (by omega)⟩
  have neg : ∀ {r : Int × Int}, r ∈ zo_R → sx_w r s → fs_P WF L xs 0 18 158 [.ref 8, .int (Int32.ofInt s), .int (Int32.ofInt i), .int (Int32.ofInt n)] [.ref 53, .int (Int32.ofInt s), .int (Int32.ofInt i), .int (Int32.ofInt n)] (-12, 12) M := fun {r} hm hr => by
    obtain ⟨z, M1, a1, a2, rfl, a3⟩ := lb_of (k := 18) (vs := [.ref 8, .int (Int32.ofInt s), .int (Int32.ofInt i), .int (Int32.ofInt n)]) (show 3 ≤ 99 by decide) (zo_o (xs := xs) (a := 8) rfl (List.all_eq_true.mp zo_cx _ hm) hL hI.1 hr hs hi hn)
    obtain ⟨y, M2, b1, b2, rfl, b3⟩ := lb_of (k := 158) (vs := [.ref 53, .int (Int32.ofInt s), .int (Int32.ofInt i), .int (Int32.ofInt n)]) (show 3 ≤ 99 by decide) (zo_o (xs := xs) (a := 53) rfl (List.all_eq_true.mp zo_cm _ hm) hL a2 hr hs hi hn)
    exact fs_P0 hI hS0 (w _ (by decide) (by decide)).1 (w _ (by decide) (by decide)).2 a1 a2 a3 b1 b2 b3
  by_cases h1 : s < 0
  · exact neg (r := (og_mn, -1)) (by simp [zo_R]) ⟨hs'.1, by show s ≤ -1; omega⟩
  by_cases h2 : 5 < s
  · exact neg (r := (6, og_mx)) (by simp [zo_R]) ⟨by show 6 ≤ s; omega, by show s ≤ 2147483647; omega⟩
  obtain ⟨c, rfl⟩ := Int.eq_ofNat_of_zero_le (show 0 ≤ s by omega)
  have h6 : c < 6 := by omega
  obtain ⟨e1, e2, -, e4, e5, -, -⟩ := bs_eq hI
  have hC9 := cx_fld (c := 9) (k := 5) (lo := 0) (hi := 12) hI.1 (by decide +kernel)
  obtain ⟨q, q4, x2, x3, xm, x9⟩ := zd_kd (hS.1 c h6)
  obtain ⟨z, M1, a1, a2, a3⟩ := lb_of (k := 18) (vs := [.ref 8, .int (Int32.ofInt (c : Int)), .int (Int32.ofInt i), .int (Int32.ofInt n)]) (show 5 ≤ 99 by decide) (zd_x (xs := xs) hL hI.1 h6 q4 x2 x3 hi hn)
  -- what the class changes
  have f1 : ∀ a, a < 128 → a ≠ 9 → a ≠ 10 → a ≠ 11 → M1 a = M a := by
    unfold zd_X at a3
    split at a3
    · exact fun a ha _ _ _ => a3.2 a ha
    · split at a3
      · exact fun a ha _ _ _ => a3.2 a ha
      · split at a3
        · obtain ⟨k, -, -, -, -, f, -⟩ := a3
          exact f
        · exact fun a ha _ _ _ => a3.2 a ha
  have e87 : M1 87 = M 87 := f1 87 (by decide) (by decide) (by decide) (by decide)
  have e53 : M1 53 = M 53 := f1 53 (by decide) (by decide) (by decide) (by decide)
  obtain ⟨y, M2, b1, b2, b3⟩ := lb_of (k := 158) (vs := [.ref 53, .int (Int32.ofInt (c : Int)), .int (Int32.ofInt i), .int (Int32.ofInt n)]) (show 4 ≤ 99 by decide) (zd_mm (xs := xs) hL a2 h6 q4 (by rw [e87]; exact xm) hi hn)
  unfold zd_X at a3
  unfold zd_M at b3
  by_cases hb : n < 1 ∨ 12 < n
  · rw [if_pos hb] at a3 b3
    obtain ⟨rfl, x1⟩ := a3
    obtain ⟨rfl, y1⟩ := b3
    exact fs_P0 hI hS0 (w _ (by decide) (by decide)).1 (w _ (by decide) (by decide)).2 a1 a2 x1 b1 b2 y1
  rw [if_neg hb] at a3 b3
  by_cases q0 : q = 0
  · rw [if_pos q0] at a3 b3
    obtain ⟨rfl, x1⟩ := a3
    obtain ⟨rfl, y1⟩ := b3
    exact fs_P0 hI hS0 (w _ (by decide) (by decide)).1 (w _ (by decide) (by decide)).2 a1 a2 x1 b1 b2 y1
  rw [if_neg q0] at a3 b3
  by_cases q3 : q = 3
  · rw [if_pos q3] at a3 b3
    obtain ⟨kx, ez, kx12, nx, fx, -, gx, hx, h11⟩ := a3
    obtain ⟨km, ey, km12, nm, fm, f2, gm, hy, h59⟩ := b3
    have ek : km = kx := by
      by_cases hi0 : 0 ≤ i
      · have iff := fun k => cd_cond (n := n) (M1 := M1) h6 hi0 (hS.1 c h6) (x9 q3) e1 e2 ⟨f1 88 (by decide) (by decide) (by decide) (by decide), f1 89 (by decide) (by decide) (by decide) (by decide), e53⟩ k
        by_cases h3 : km < kx
        · exact absurd ((iff km).mp (fx km h3)) nm
        · by_cases h4 : kx < km
          · exact absurd ((iff kx).mpr (fm kx h4)) nx
          · omega
      · have z1 : kx = 0 := by
          by_cases h3 : 0 < kx
          · have := (fx 0 h3).2.1
            omega
          · omega
        have z2 : km = 0 := by
          by_cases h3 : 0 < km
          · have := (fm 0 h3).2.1
            omega
          · omega
        omega
    have hk12 : M 9 5 + (kx : Int) ≤ 12 := by
      by_cases h3 : 0 < kx
      · have := (fx (kx - 1) (by omega)).2.2.2.2.2.2.2
        omega
      · omega
    have ey : y = z := by omega
    rw [ey] at b1
    have g9 : ∀ j, M2 9 j = if j = 5 then M 9 5 + (kx : Int) else M 9 j := fun j => by rw [f2 9 (by decide) (by decide) (by decide) (by decide), gx j]
    have g53 : ∀ j, M2 53 j = if j = 8 then M 53 8 + (kx : Int) else M 53 j := fun j => by rw [gm j, e53, ek]
    have g : ∀ a, a < 128 → a ≠ 9 → a ≠ 10 → a ≠ 11 → a ≠ 53 → a ≠ 59 → a ≠ 60 → M2 a = M a := fun a ha h9 h10 h11 h53 h59 h60 => by rw [f2 a ha h53 h59 h60, f1 a ha h9 h10 h11]
    have g10 : ∀ j, M2 10 j = if 180 + (M 9 5).toNat ≤ j ∧ j < 180 + (M 9 5).toNat + kx then xd_o (M (42 + 2 * c)) (i.toNat + 2 * (j - (180 + (M 9 5).toNat)) + 1) else M 10 j := fun j => by rw [f2 10 (by decide) (by decide) (by decide) (by decide), hx j]
    have g60 : ∀ j, M2 60 j = if (M 53 8).toNat ≤ j ∧ j < (M 53 8).toNat + kx then xd_o (M 89) (60 * c + (i + 2 * ((j - (M 53 8).toNat : Nat) : Int)).toNat + 1) else M 60 j := fun j => by rw [hy j, e53, ek, f1 89 (by decide) (by decide) (by decide) (by decide), f1 60 (by decide) (by decide) (by decide) (by decide)]
    have g32 := g 32 (by decide) (by decide) (by decide) (by decide) (by decide) (by decide) (by decide)
    have g33 := g 33 (by decide) (by decide) (by decide) (by decide) (by decide) (by decide) (by decide)
    obtain ⟨⟨n1, n2, n3⟩, c1, c2⟩ := hS.2
    have ci := hS.1 c h6
    have G : la_I WF bs_cps M2 ∧ bs_SS M2 ∧ bs_fr M M2 := by
      refine bs_mk WF_zs hI hS b2 (fun a ha q => ?_) ?_ ?_ (fun j hj => ?_) ?_ ?_ ⟨⟨fun w n hw hn => ?_, fun n hn => ?_, fun n hn h => ?_⟩, fun q hq => ?_, ?_⟩ ?_
      · unfold bs_o at q
        exact g a ha (by omega) (by omega) (by omega) (by omega) (by omega) (by omega)
      · rw [g9 4, if_neg (by decide), g53 1, if_neg (by decide)]
        exact e1
      · rw [g9 5, if_pos rfl, g53 8, if_pos rfl, e2]
      · unfold bs_v at hj
        rw [g53 j, if_neg (by omega)]
      · rw [g10 210, if_neg (by omega), g53 13, if_neg (by decide)]
        exact e4
      · rw [g32, g53 14, if_neg (by decide)]
        exact e5
      · rw [g10, if_neg (by omega), g (54 + w) (by omega) (by omega) (by omega) (by omega) (by omega) (by omega) (by omega)]
        exact n1 w n hw hn
      · rw [g10, if_neg (by omega), g 61 (by decide) (by decide) (by decide) (by decide) (by decide) (by decide) (by decide)]
        exact n2 n hn
      · rw [g53 8, if_pos rfl] at h
        rw [g10, g60]
        by_cases en : (M 53 8).toNat ≤ n
        · rw [if_pos (show 180 + (M 9 5).toNat ≤ 180 + n ∧ 180 + n < 180 + (M 9 5).toNat + kx from ⟨by omega, by omega⟩), if_pos (show (M 53 8).toNat ≤ n ∧ n < (M 53 8).toNat + kx from ⟨en, by omega⟩)]
          have f := fx (n - (M 53 8).toNat) (by omega)
          have f2' := f.2.1
          have f3 := f.2.2.1
          obtain ⟨p1, p2, p3, p4⟩ := so_row ci (x9 q3)
          rw [p3] at f3
          unfold xd_o
          rw [p4 _ (by omega), show 60 * c + (i.toNat + 2 * (180 + n - (180 + (M 9 5).toNat)) + 1) = 60 * c + (i + 2 * ((n - (M 53 8).toNat : Nat) : Int)).toNat + 1 by omega]
        · rw [if_neg (show ¬ (180 + (M 9 5).toNat ≤ 180 + n ∧ 180 + n < 180 + (M 9 5).toNat + kx) by omega), if_neg (show ¬ ((M 53 8).toNat ≤ n ∧ n < (M 53 8).toNat + kx) by omega)]
          exact n3 n hn (by omega)
      · rw [g33, g 62 (by decide) (by decide) (by decide) (by decide) (by decide) (by decide) (by decide), g 63 (by decide) (by decide) (by decide) (by decide) (by decide) (by decide) (by decide), g 64 (by decide) (by decide) (by decide) (by decide) (by decide) (by decide) (by decide), g 65 (by decide) (by decide) (by decide) (by decide) (by decide) (by decide) (by decide)]
        exact c1 q hq
      · rw [g32, g53 14, if_neg (by decide), g53 15, if_neg (by decide)]
        exact c2
      · rw [g33]
        exact (JJ_iff.mp hI.2.1).1
    have g11 : ∀ j, M2 11 j = if (M 9 5).toNat ≤ j ∧ j < (M 9 5).toNat + kx then xd_o (M (42 + 2 * c)) (i.toNat + 2 * (j - (M 9 5).toNat)) else M 11 j := fun j => by rw [f2 11 (by decide) (by decide) (by decide) (by decide), h11 j]
    have g59 : ∀ j, M2 59 j = if (M 53 8).toNat ≤ j ∧ j < (M 53 8).toNat + kx then xd_o (M 89) (60 * c + (i + 2 * ((j - (M 53 8).toNat : Nat) : Int)).toNat) else M 59 j := fun j => by rw [h59 j, e53, ek, f1 89 (by decide) (by decide) (by decide) (by decide), f1 59 (by decide) (by decide) (by decide) (by decide)]
    have X2 : fs_X M2 := by
      refine fs_Xg hS0.2 G.2.2 ?_ ?_ (fun h _ => by rw [g 74 (by decide) (by decide) (by decide) (by decide) (by decide) (by decide) (by decide)]) (fun j hj => ?_) ?_ ?_ ?_
      · rw [g9 6, if_neg (by decide), g53 7, if_neg (by decide)]
        exact hS0.2.1.1
      · rw [g9 7, if_neg (by decide)]
      · rw [g9 5, if_pos rfl] at hj
        rw [g9 4, if_neg (by decide), g11, g59]
        by_cases en : (M 9 5).toNat ≤ j
        · rw [if_pos (show (M 9 5).toNat ≤ j ∧ j < (M 9 5).toNat + kx from ⟨en, by omega⟩), if_pos (show (M 53 8).toNat ≤ j ∧ j < (M 53 8).toNat + kx from ⟨by omega, by omega⟩)]
          have f := fx (j - (M 9 5).toNat) (by omega)
          have f2' := f.2.1
          have f3 := f.2.2.1
          obtain ⟨p1, p2, p3, p4⟩ := so_row ci (x9 q3)
          rw [p3] at f3
          refine ⟨?_, f.2.2.2.1, f.2.2.2.2.1⟩
          unfold xd_o
          rw [p4 _ (by omega), show 60 * c + (i.toNat + 2 * (j - (M 9 5).toNat)) = 60 * c + (i + 2 * ((j - (M 53 8).toNat : Nat) : Int)).toNat by omega]
        · rw [if_neg (show ¬ ((M 9 5).toNat ≤ j ∧ j < (M 9 5).toNat + kx) by omega), if_neg (show ¬ ((M 53 8).toNat ≤ j ∧ j < (M 53 8).toNat + kx) by omega)]
          exact hS0.2.2.1 j (by omega)
      · rw [g9 6, if_neg (by decide), g9 4, if_neg (by decide)]
        exact hS0.2.2.2.1
      · rw [g9 4, if_neg (by decide)]
        exact Int.le_refl _
      · rw [g9 5, if_pos rfl]
        omega
    exact ⟨z, M1, M2, (w z (by omega) (by omega)).1, Or.inl ⟨rfl, (w z (by omega) (by omega)).2⟩, a1, a2, b1, b2, G.1, G.2.1, X2⟩
  · rw [if_neg q3] at a3 b3
    obtain ⟨rfl, x1⟩ := a3
    obtain ⟨rfl, y1⟩ := b3
    exact fs_P0 hI hS0 (w _ (by decide) (by decide)).1 (w _ (by decide) (by decide)).2 a1 a2 x1 b1 b2 y1
end
