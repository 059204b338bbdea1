/-! pass: the class. -/
section
variable {L : Nat} {xs : Nat → Int32} {M M' N N' M0 M1 M2 X : Nat → Nat → Int} {b s : Int} {nc : Nat}
def pq1_i : List qs_I := [(0, 0, (0, 0), sx_r32), (1, 9, (0, 4), (0, 6)), (1, 10, (0, 210), (0, 29))]
def pq1_T : List og_T := [(none, some (0, 0, -1), [], [], [], [(0, (9, 0), (0, 0), -2147483648, -1)]), (none, some (0, 0, -1), [], [], [], [(0, (9, 0), (0, 0), 0, 2147483647), (2, (9, 0), (12, 0), 0, 0), (5, (0, 1), (10, 0), 8, 12)]), (some 32, none, [(2, 0, 21)], [(0, 2, 0, 8), (1, 0, 9, 0)], [], [(0, (9, 0), (0, 0), 0, 2147483646), (0, (11, 0), (0, 0), 0, 28), (0, (12, 0), (0, 0), 1, 2147483647), (1, (9, 0), (12, 0), 0, 0), (5, (0, 1), (10, 0), 8, 12)]), (none, some (0, 0, -5), [], [], [], [(0, (9, 0), (0, 0), 0, 2147483646), (0, (11, 0), (0, 0), 29, 29), (0, (12, 0), (0, 0), 1, 2147483647), (1, (9, 0), (12, 0), 0, 0), (5, (0, 1), (10, 0), 8, 12)])]
theorem pq1_c : qs_chk (fun pc => Nat.beq pc 32) pq1_i 1 pq1_T 400 400 20 113 0 [(0, 2, 0, 8), (1, 0, 9, 0)] [] = true := by decide +kernel
def pq2_i : List qs_I := [(0, 0, (0, 0), sx_r32), (1, 10, (0, 210), (0, 28))]
def pq2_T : List og_T := [(some 46, none, [(0, 10, 0), (2, 0, 21)], [(0, 2, 0, 8), (1, 0, 9, 0)], [], [])]
theorem pq2_c : qs_chk (fun pc => Nat.beq pc 46) pq2_i 0 pq2_T 400 400 20 113 35 [(0, 2, 0, 8), (1, 0, 9, 0)] [] = true := by decide +kernel
def pq3_i : List qs_I := [(0, 0, (0, 0), sx_r32), (0, 0, (0, 0), (0, 5)), (1, 9, (0, 6), sx_r32), (1, 10, (0, 210), (0, 28)), (1, 21, (0, 6), sx_r32), (1, 12, (10, 0), sx_r32), (1, 13, (0, 0), sx_r32), (1, 13, (0, 1), sx_r32), (1, 13, (0, 2), sx_r32), (1, 13, (0, 3), sx_r32)]
def pq3_T : List og_T := [(none, some (0, 10, 0), [], [], [(13, (0, 0), (44, 0)), (13, (0, 3), (43, 0)), (13, (0, 2), (25, 0)), (13, (0, 1), (22, 0)), (12, (10, 0), (21, 0)), (10, (0, 210), (12, 1)), (9, (0, 6), (46, 0)), (9, (0, 7), (13, 0))], [(5, (9, 0), (11, 0), 3, 19), (5, (0, 1), (10, 0), 8, 20), (5, (14, 0), (0, 1), 0, 21), (5, (16, 0), (0, 1), 0, 22), (5, (19, 0), (10, 0), 10, 23), (5, (23, 0), (0, 1), 3, 24), (5, (17, 0), (24, 0), 0, 25), (5, (20, 0), (0, -1), 5, 26), (5, (19, 0), (26, 0), 3, 27), (5, (27, 0), (0, 1), 10, 28), (5, (28, 0), (0, 1431655765), 3, 29), (5, (27, 0), (29, 0), 1, 30), (5, (30, 0), (0, 858993459), 3, 31), (5, (30, 0), (0, 2), 10, 32), (5, (32, 0), (0, 858993459), 3, 33), (5, (31, 0), (33, 0), 0, 34), (5, (34, 0), (0, 4), 10, 35), (5, (34, 0), (35, 0), 0, 36), (5, (36, 0), (0, 252645135), 3, 37), (5, (37, 0), (0, 8), 10, 38), (5, (37, 0), (38, 0), 0, 39), (5, (39, 0), (0, 16), 10, 40), (5, (39, 0), (40, 0), 0, 41), (5, (41, 0), (0, 63), 3, 42), (5, (18, 0), (42, 0), 0, 43), (5, (15, 0), (0, 1), 0, 44), (5, (27, 0), (0, -1), 5, 45), (5, (11, 0), (45, 0), 3, 46)])]
theorem pq3_c : qs_chk (fun _ => false) pq3_i 28 pq3_T 400 400 20 113 49 [(0, 2, 0, 8), (1, 0, 9, 0)] [(0, 10, 0)] = true := by decide +kernel
def pq4_i : List qs_I := [(0, 0, (0, 0), sx_r32), (1, 9, (0, 6), sx_r32), (1, 10, (0, 210), (0, 28)), (1, 21, (0, 6), sx_r32), (1, 13, (0, 0), sx_r32), (1, 13, (0, 3), sx_r32)]
def pq4_T : List og_T := [(none, some (0, 0, -2), [], [], [(13, (0, 0), (33, 0)), (13, (0, 3), (32, 0)), (10, (0, 210), (11, 1)), (9, (0, 6), (35, 0)), (9, (0, 7), (12, 0))], [(5, (9, 0), (10, 0), 3, 15), (5, (15, 0), (0, -1), 3, 16), (5, (16, 0), (0, 1), 10, 17), (5, (17, 0), (0, 1431655765), 3, 18), (5, (16, 0), (18, 0), 1, 19), (5, (19, 0), (0, 858993459), 3, 20), (5, (19, 0), (0, 2), 10, 21), (5, (21, 0), (0, 858993459), 3, 22), (5, (20, 0), (22, 0), 0, 23), (5, (23, 0), (0, 4), 10, 24), (5, (23, 0), (24, 0), 0, 25), (5, (25, 0), (0, 252645135), 3, 26), (5, (26, 0), (0, 8), 10, 27), (5, (26, 0), (27, 0), 0, 28), (5, (28, 0), (0, 16), 10, 29), (5, (28, 0), (29, 0), 0, 30), (5, (30, 0), (0, 63), 3, 31), (5, (14, 0), (31, 0), 0, 32), (5, (13, 0), (0, 1), 0, 33), (5, (16, 0), (0, -1), 5, 34), (5, (10, 0), (34, 0), 3, 35)])]
theorem pq4_c : qs_chk (fun _ => false) pq4_i 21 pq4_T 400 400 20 113 49 [(0, 2, 0, 8), (1, 0, 9, 0)] [(0, 0, -2)] = true := by decide +kernel
/-- the bits of a set of six, one by one, and as the class counts them -/
def pa_n (k : Nat) : Int := (((List.range 6).filter fun i => Nat.testBit k i).length : Nat)
def pa_n1 (k : Nat) : Nat := k - ((k >>> 1) &&& 1431655765)
def pa_n2 (k : Nat) : Nat := (pa_n1 k &&& 858993459) + ((pa_n1 k >>> 2) &&& 858993459)
def pa_n3 (k : Nat) : Nat := (pa_n2 k + (pa_n2 k >>> 4)) &&& 252645135
def pa_n4 (k : Nat) : Nat := pa_n3 k + (pa_n3 k >>> 8)
def pa_c1 (x : Int) : Int := sx_mf 1 x (sx_mf 3 (sx_mf 10 x 1) 1431655765)
def pa_c2 (x : Int) : Int := sx_mf 0 (sx_mf 3 x 858993459) (sx_mf 3 (sx_mf 10 x 2) 858993459)
def pa_c3 (x : Int) : Int := sx_mf 3 (sx_mf 0 x (sx_mf 10 x 4)) 252645135
def pa_c4 (x : Int) : Int := sx_mf 0 x (sx_mf 10 x 8)
def pa_c5 (x : Int) : Int := sx_mf 3 (sx_mf 0 x (sx_mf 10 x 16)) 63
theorem pa_k1 : ((List.range 64).all fun k => sx_an (sx_eq (pa_c1 (k : Int)) (pa_n1 k : Nat)) (sx_an (sx_eq (pa_c2 (pa_n1 k : Nat)) (pa_n2 k : Nat)) (sx_an (sx_eq (pa_c3 (pa_n2 k : Nat)) (pa_n3 k : Nat)) (sx_an (sx_eq (pa_c4 (pa_n3 k : Nat)) (pa_n4 k : Nat)) (sx_eq (pa_c5 (pa_n4 k : Nat)) (pa_n k)))))) = true := by decide +kernel
theorem pa_k {k : Nat} (hk : k < 64) : pa_c5 (pa_c4 (pa_c3 (pa_c2 (pa_c1 (k : Int))))) = pa_n k := by
  obtain ⟨h1, h⟩ := sx_an_iff.mp (List.all_eq_true.mp pa_k1 k (List.mem_range.mpr hk))
  obtain ⟨h2, h⟩ := sx_an_iff.mp h
  obtain ⟨h3, h⟩ := sx_an_iff.mp h
  obtain ⟨h4, h5⟩ := sx_an_iff.mp h
  rw [sx_eq_iff.mp h1, sx_eq_iff.mp h2, sx_eq_iff.mp h3, sx_eq_iff.mp h4, sx_eq_iff.mp h5]
theorem pa_shc : ((List.range 7).all fun n => sx_an (sx_eq (sx_mf 8 1 (n : Int)) ((2 ^ n : Nat) : Int)) (sx_eq (sx_mf 1 ((2 ^ n : Nat) : Int) 1) (((2 ^ n : Nat) : Int) - 1))) = true := by decide +kernel
theorem pa_sh {H : Int} (h0 : 0 ≤ H) (h1 : H ≤ 6) : sx_mf 8 1 H = ((2 ^ H.toNat : Nat) : Int) ∧ sx_mf 1 (sx_mf 8 1 H) 1 = ((2 ^ H.toNat : Nat) : Int) - 1 := by
  obtain ⟨n, rfl⟩ := Int.eq_ofNat_of_zero_le h0
  obtain ⟨a, b⟩ := sx_an_iff.mp (List.all_eq_true.mp pa_shc n (List.mem_range.mpr (by omega)))
  have a := sx_eq_iff.mp a
  have b := sx_eq_iff.mp b
  rw [Int.toNat_natCast, a, b]
  exact ⟨rfl, rfl⟩
theorem pa_b64 {x H : Int} (h : fs_b x H) (h1 : H ≤ 6) : ∃ k : Nat, x = (k : Int) ∧ k < 64 := by
  obtain ⟨b1, b2⟩ := h
  obtain ⟨k, rfl⟩ := Int.eq_ofNat_of_zero_le b1
  refine ⟨k, rfl, ?_⟩
  have : 2 ^ H.toNat ≤ 2 ^ 6 := Nat.pow_le_pow_right (by decide) (by omega)
  omega
theorem pa_andc : ((List.range 64).all fun x => (List.range 64).all fun y => sx_an (sx_le 0 (sx_mf 3 (x : Int) (y : Int))) (sx_le (sx_mf 3 (x : Int) (y : Int)) 63)) = true := by decide +kernel
theorem pa_and {x y : Nat} (hx : x < 64) (hy : y < 64) : ∃ k : Nat, sx_mf 3 (x : Int) (y : Int) = (k : Int) ∧ k < 64 := by
  obtain ⟨a, b⟩ := sx_an_iff.mp (List.all_eq_true.mp (List.all_eq_true.mp pa_andc x (List.mem_range.mpr hx)) y (List.mem_range.mpr hy))
  have a := sx_le_iff.mp a
  have b := sx_le_iff.mp b
  exact ⟨(sx_mf 3 (x : Int) (y : Int)).toNat, by omega, by omega⟩
theorem pa_m1c : ((List.range 64).all fun w => sx_an (sx_eq (sx_mf 3 (w : Int) (-1)) (w : Int)) ((List.range 6).all fun r => sx_an (sx_le 0 (sx_mf 3 (w : Int) (sx_mf 5 (sx_mf 8 1 (r : Int)) (-1)))) (sx_le (sx_mf 3 (w : Int) (sx_mf 5 (sx_mf 8 1 (r : Int)) (-1))) 63))) = true := by decide +kernel
theorem pa_lf : ((List.range 7).all fun n => (List.range (2 ^ n)).all fun k => (List.range 64).all fun x => sx_an (sx_le 0 (sx_mf 3 (k : Int) (sx_mf 5 (x : Int) (-1)))) (sx_lt (sx_mf 3 (k : Int) (sx_mf 5 (x : Int) (-1))) ((2 ^ n : Nat) : Int))) = true := by decide +kernel
/-- who goes, but one; who stays -/
def pa_x (w r : Int) : Int := if r < 0 then w else sx_mf 3 w (sx_mf 5 (sx_mf 8 1 r) (-1))
def pa_s (S x : Int) : Int := sx_mf 3 S (sx_mf 5 x (-1))
def pa_t (w r x : Int) (k : Nat) (v : Int) : Int := if k = 0 then sx_mf 0 v 1 else if k = 1 then (if r < 0 then v else sx_mf 0 v 1) else if k = 2 then (if r < 0 then v else sx_mf 0 v (vq_bt w r)) else if k = 3 then sx_mf 0 v (pa_n x.toNat) else v
theorem pa_w {b S H : Int} (hH : H ≤ 6) (hb : fs_b b H) (hS : fs_b S H) : ∃ k : Nat, sx_mf 3 b S = (k : Int) ∧ k < 64 := by
  obtain ⟨x, rfl, hx⟩ := pa_b64 hb hH
  obtain ⟨y, rfl, hy⟩ := pa_b64 hS hH
  exact pa_and hx hy
theorem pa_xk {k : Nat} {r : Int} (hk : k < 64) (hr : r < 6) : ∃ u : Nat, pa_x (k : Int) r = (u : Int) ∧ u < 64 := by
  unfold pa_x
  by_cases h : r < 0
  · rw [if_pos h]
    exact ⟨k, rfl, hk⟩
  · rw [if_neg h]
    obtain ⟨g, rfl⟩ := Int.eq_ofNat_of_zero_le (show 0 ≤ r by omega)
    obtain ⟨-, a⟩ := sx_an_iff.mp (List.all_eq_true.mp pa_m1c k (List.mem_range.mpr hk))
    obtain ⟨a, b⟩ := sx_an_iff.mp (List.all_eq_true.mp a g (List.mem_range.mpr (by omega)))
    have a := sx_le_iff.mp a
    have b := sx_le_iff.mp b
    exact ⟨(sx_mf 3 (k : Int) (sx_mf 5 (sx_mf 8 1 (g : Int)) (-1))).toNat, by omega, by omega⟩
theorem pa_m1 {k : Nat} (hk : k < 64) : sx_mf 3 (k : Int) (-1) = (k : Int) := sx_eq_iff.mp (sx_an_iff.mp (List.all_eq_true.mp pa_m1c k (List.mem_range.mpr hk))).1
theorem pa_sb {S H : Int} {x : Nat} (h0 : 0 ≤ H) (hH : H ≤ 6) (hS : fs_b S H) (hx : x < 64) : fs_b (pa_s S (x : Int)) H := by
  obtain ⟨n, rfl⟩ := Int.eq_ofNat_of_zero_le h0
  obtain ⟨b1, b2⟩ := hS
  rw [Int.toNat_natCast] at b2
  obtain ⟨k, rfl⟩ := Int.eq_ofNat_of_zero_le b1
  obtain ⟨h1, h2⟩ := sx_an_iff.mp (List.all_eq_true.mp (List.all_eq_true.mp (List.all_eq_true.mp pa_lf n (List.mem_range.mpr (by omega))) k (List.mem_range.mpr (by omega))) x (List.mem_range.mpr hx))
  refine ⟨sx_le_iff.mp h1, ?_⟩
  rw [Int.toNat_natCast]
  exact sx_lt_iff.mp h2
/-- what the class's day leaves: r goes, U is used -/
def pa_X (b r U : Int) (M N : Nat → Nat → Int) : Prop := (∀ a, a < 128 → a ≠ 9 → a ≠ 10 → a ≠ 12 → a ≠ 13 → ¬ (19 ≤ a ∧ a ≤ 23) → N a = M a) ∧ (N 9 7 = U ∧ N 9 6 = pa_s (M 9 6) (pa_x (sx_mf 3 b (M 9 6)) r) ∧ ∀ j, j ≠ 6 → j ≠ 7 → N 9 j = M 9 j) ∧ (N 10 210 = M 10 210 + 1 ∧ ∀ j, j ≠ 210 → N 10 j = M 10 j) ∧ (∀ h : Nat, N 12 h = if (h : Int) = r then sx_mf 0 (M 12 h) 1 else M 12 h) ∧ ∀ k, N 13 k = pa_t (sx_mf 3 b (M 9 6)) r (pa_x (sx_mf 3 b (M 9 6)) r) k (M 13 k)
def pa_P (b : Int) (nc : Nat) (M : Nat → Nat → Int) (z : Int) (N : Nat → Nat → Int) : Prop := (z = -1 ∧ ¬ fs_b b (M 9 4) ∧ ∀ a, a < 128 → N a = M a) ∨ (z = -5 ∧ fs_b b (M 9 4) ∧ M 10 210 = 29 ∧ ∀ a, a < 128 → N a = M a) ∨ (fs_b b (M 9 4) ∧ M 10 210 ≤ 28 ∧ ∃ X c, pb_Q M none X ∧ c = vs_cd X nc (M 10 210).toNat (X 21 6, X 23) ∧ z = vq_or (vq_hs (M 11) c) ∧ pa_X b (vq_hs (M 11) c) (vq_nx (vs_D X) (X 11) (X 21 6, X 23) c).1 M N)
theorem pa_cl (hL : L < 2 ^ 31) (hm : sx_mok cl_ly M) (hw : WF M) (hR : vu_R M) (hn : M 9 5 = (nc : Int)) (h29 : 0 ≤ M 10 210 ∧ M 10 210 ≤ 29) (hb : sx_w sx_r32 b) (hS : fs_b (M 9 6) (M 9 4)) (hO : ∀ c : Nat, c < nc → 0 ≤ M 11 c ∧ M 11 c < 6) : rz_fin (sh_Q (pa_P b nc M)) L xs 113 20 0 [(0, .ref 8), (1, .int (Int32.ofInt b))] [] M := by
  have h4 := cx_fld (c := 9) (k := 4) (lo := 0) (hi := 6) hm (by decide +kernel)
  obtain ⟨p1, -⟩ := pa_sh h4.1 h4.2
  refine qs_use (zs := [b, M 9 4, M 10 210]) pq1_c hL hm (qs_iw hb (qs_rd (show (0 : Int) ≤ 4 by decide) rfl h4 (qs_rd (show (0 : Int) ≤ 210 by decide) rfl h29 (qs_fin rfl)))) (Nat.le_refl _) rfl rfl (qs_c (fun u1 N hN hc hM => ?_) (qs_c (fun u1 N hN hc hM => ?_) (qs_c (fun u1 N hN hc hM => ?_) (qs_c (fun u1 N hN hc hM => ?_) qs_z))))
  · have c1 : -2147483648 ≤ b ∧ b ≤ -1 := hc.1
    exact ⟨-1, rfl, hN, Or.inl ⟨rfl, fun h => by have := h.1; omega, hM⟩⟩
  · obtain ⟨c1, c2, c3, -⟩ := hc
    have c2 : ¬ b < u1 := c2
    have c3 : u1 = sx_mf 8 1 (M 9 4) := c3
    exact ⟨-1, rfl, hN, Or.inl ⟨rfl, fun h => by have := h.2; rw [← p1, ← c3] at this; exact c2 this, hM⟩⟩
  · obtain ⟨c1, c2, c3, c4, c5, -⟩ := hc
    have c1 : 0 ≤ b ∧ b ≤ 2147483646 := c1
    have c2 : 0 ≤ M 10 210 ∧ M 10 210 ≤ 28 := c2
    have c4 : b < u1 := c4
    have c5 : u1 = sx_mf 8 1 (M 9 4) := c5
    have hbb : fs_b b (M 9 4) := ⟨c1.1, by rw [← p1, ← c5]; exact c4⟩
    have f2 : ∀ a, a < 128 → N a = M a := hM
    obtain ⟨t, et⟩ := Int.eq_ofNat_of_zero_le c2.1
    show rz_fin _ L xs 113 20 32 [(0, .ref 8), (1, .int (Int32.ofInt b))] [.ref 21] N
    refine qs_vc (k := 54) (b := 21) (d := 19) (d' := 19) (rest := []) rfl rfl rfl rfl rfl rfl rfl rfl (Nat.le_refl _) rfl (rz_d (by decide) (pb_begin (xs := xs) hL hN)) (fun r9 X hX => ?_)
    have hr : r9 = none := hX.1
    subst hr
    have hX : pb_Q M none X := by
      obtain ⟨-, x0, x1, x2, x3, x4, x5⟩ := hX
      exact ⟨rfl, x0, fun a ha p q => (x1 a ha p q).trans (f2 a ha), fun j p q => by rw [x2 j p q, f2 21 (by decide)], by rw [x3, f2 9 (by decide)], by rw [x4, f2 9 (by decide)], fun h hh => by rw [x5 h hh, f2 12 (by decide)]⟩
    have x10 : X 10 = M 10 := hX.2.2.1 10 (by decide) (by decide) (by decide)
    refine qs_use (zs := [b, (t : Int)]) pq2_c hL hX.2.1 (qs_iw hb (qs_rd (show (0 : Int) ≤ 210 by decide) (by rw [x10]; exact et) (show 0 ≤ (t : Int) ∧ (t : Int) ≤ 28 by omega) (qs_fin rfl))) (Nat.le_refl _) rfl rfl (qs_c (fun M4 hm4 hc4 hM4 => ?_) qs_z)
    have f4 : ∀ a, a < 128 → M4 a = X a := hM4
    have hX : pb_Q M none M4 := by
      obtain ⟨-, x0, x1, x2, x3, x4, x5⟩ := hX
      exact ⟨rfl, hm4, fun a ha p q => (f4 a ha).trans (x1 a ha p q), fun j p q => by rw [f4 21 (by decide)]; exact x2 j p q, by rw [f4 21 (by decide)]; exact x3, by rw [f4 21 (by decide)]; exact x4, fun h hh => by rw [f4 23 (by decide)]; exact x5 h hh⟩
    obtain ⟨wX, rX⟩ := pb_keep hw hR hX
    have x9 : M4 9 = M 9 := hX.2.2.1 9 (by decide) (by decide) (by decide)
    have x11 : M4 11 = M 11 := hX.2.2.1 11 (by decide) (by decide) (by decide)
    show rz_fin _ L xs 113 20 46 [(0, .ref 8), (1, .int (Int32.ofInt b))] [.int (Int32.ofInt (t : Int)), .ref 21] M4
    refine qs_vc (k := 56) (b := 21) (d := 19) (d' := 19) (rest := []) rfl rfl rfl rfl rfl rfl rfl rfl (Nat.le_refl _) rfl (rz_d (by decide) (vs_spend (xs := xs) (nc := nc) (d := t) (T := (M4 21 6, M4 23)) hL hm4 (by omega) wX rX (by rw [x9]; exact hn) vs_F_rfl ⟨rfl, fun h => rfl⟩)) (fun r9 M5 hr => ?_)
    obtain ⟨rfl, hm5, F5, P5⟩ := hr
    obtain ⟨c, ec⟩ : ∃ c, vs_cd M4 nc t (M4 21 6, M4 23) = c := ⟨_, rfl⟩
    rw [ec] at P5 ⊢
    obtain ⟨V, eU⟩ : ∃ V, (vq_nx (vs_D M4) (M4 11) (M4 21 6, M4 23) c).1 = V := ⟨_, rfl⟩
    have P6 : M5 21 6 = V := by rw [← eU]; exact P5.1
    rw [x11]
    have hcr : c < (nc : Int) := by
      rw [← ec]
      exact (vq_cd_r (fun d h b => (vq_held_r _).2)).2
    have g5 : ∀ a, a < 128 → ¬ (19 ≤ a ∧ a ≤ 23) → M5 a = M a := fun a ha h => by
      rw [F5.1 a ha h]
      exact hX.2.2.1 a ha (by omega) (by omega)
    have g9 : M5 9 = M 9 := g5 9 (by decide) (by decide)
    have g10 : M5 10 = M 10 := g5 10 (by decide) (by decide)
    have g12 : M5 12 = M 12 := g5 12 (by decide) (by decide)
    have g13 : M5 13 = M 13 := g5 13 (by decide) (by decide)
    have w6 : sx_w sx_r32 (M 9 6) := cv_ly_ok (g := (9, 6, sx_r32)) hm (by decide +kernel)
    have wV : sx_w sx_r32 V := by rw [← P6]; exact cv_ly_ok (g := (21, 6, sx_r32)) hm5 (by decide +kernel)
    have w13 : ∀ k, k < 5 → sx_w sx_r32 (M 13 k) := fun k hk => hm 13 _ k _ rfl hk rfl
    obtain ⟨kw, ew, kw64⟩ := pa_w h4.2 hbb hS
    have fin : ∀ z K, vq_or (vq_hs (M 11) c) = z → sx_mok cl_ly K → pa_X b (vq_hs (M 11) c) V M K → sh_Q (pa_P b nc M) (some (.int (Int32.ofInt z))) K := fun z K e1 e2 e3 => ⟨z, rfl, e2, Or.inr (Or.inr ⟨hbb, c2.2, M4, c, hX, by rw [et, Int.toNat_natCast]; exact ec.symm, e1.symm, by rw [eU]; exact e3⟩)⟩
    by_cases h0 : c < 0
    · have e1 : vq_hs (M 11) c = -1 := if_pos h0
      have e2 : vq_or (vq_hs (M 11) c) = -2 := by rw [e1]; rfl
      rw [e2]
      refine qs_use (zs := [b, M 9 6, (t : Int), V, M 13 0, M 13 3]) pq4_c hL hm5 (qs_iw hb (qs_rd (show (0 : Int) ≤ 6 by decide) (by rw [g9]; rfl) w6 (qs_rd (show (0 : Int) ≤ 210 by decide) (by rw [g10]; exact et) (show 0 ≤ (t : Int) ∧ (t : Int) ≤ 28 by omega) (qs_rd (show (0 : Int) ≤ 6 by decide) P6 wV (qs_rd (show (0 : Int) ≤ 0 by decide) (by rw [g13]; rfl) (w13 0 (by decide)) (qs_rd (show (0 : Int) ≤ 3 by decide) (by rw [g13]; rfl) (w13 3 (by decide)) (qs_fin rfl))))))) (Nat.le_refl _) rfl rfl (qs_c (fun u1 u2 u3 u4 u5 u6 u7 u8 u9 u10 u11 u12 u13 u14 u15 u16 u17 u18 u19 u20 u21 K hK hc hM => ?_) qs_z)
      obtain ⟨c1, c2, c3, c4, c5, c6, c7, c8, c9, c10, c11, c12, c13, c14, c15, c16, c17, c18, c19, c20, c21, -⟩ := hc
      have c1 : u1 = sx_mf 3 b (M 9 6) := c1
      have c2 : u2 = sx_mf 3 u1 (-1) := c2
      have c3 : u3 = sx_mf 10 u2 1 := c3
      have c4 : u4 = sx_mf 3 u3 1431655765 := c4
      have c5 : u5 = sx_mf 1 u2 u4 := c5
      have c6 : u6 = sx_mf 3 u5 858993459 := c6
      have c7 : u7 = sx_mf 10 u5 2 := c7
      have c8 : u8 = sx_mf 3 u7 858993459 := c8
      have c9 : u9 = sx_mf 0 u6 u8 := c9
      have c10 : u10 = sx_mf 10 u9 4 := c10
      have c11 : u11 = sx_mf 0 u9 u10 := c11
      have c12 : u12 = sx_mf 3 u11 252645135 := c12
      have c13 : u13 = sx_mf 10 u12 8 := c13
      have c14 : u14 = sx_mf 0 u12 u13 := c14
      have c15 : u15 = sx_mf 10 u14 16 := c15
      have c16 : u16 = sx_mf 0 u14 u15 := c16
      have c17 : u17 = sx_mf 3 u16 63 := c17
      have c18 : u18 = sx_mf 0 (M 13 3) u17 := c18
      have c19 : u19 = sx_mf 0 (M 13 0) 1 := c19
      have c20 : u20 = sx_mf 5 u2 (-1) := c20
      have c21 : u21 = sx_mf 3 (M 9 6) u20 := c21
      have hM : ∀ a, a < 128 → K a = sx_up (sx_up (sx_up (sx_up (sx_up M5 9 7 V) 9 6 u21) 10 210 ((t : Int) + 1)) 13 3 u18) 13 0 u19 a := hM
      have ex : u2 = (kw : Int) := by rw [c2, c1, ew, pa_m1 kw64]
      have en : u17 = pa_n kw := by
        rw [← pa_k kw64, ← ex, c17, c16, c15, c14, c13, c12, c11, c10, c9, c8, c7, c6, c5, c4, c3]
        rfl
      have px : pa_x (sx_mf 3 b (M 9 6)) (-1) = (kw : Int) := by rw [ew]; rfl
      refine fin _ _ e2 hK ⟨fun a ha q1 q2 q3 q4 q5 => ?_, ⟨?_, ?_, fun j p q => ?_⟩, ⟨?_, fun j p => ?_⟩, fun h => ?_, fun k => ?_⟩
      · rw [hM a ha, sh_une q4, sh_une q4, sh_une q2, sh_une q1, sh_une q1]
        exact g5 a ha q5
      · rw [hM 9 (by decide), sh_une (by decide), sh_une (by decide), sh_une (by decide), sh_unj (by decide), sh_uat]
      · rw [hM 9 (by decide), sh_une (by decide), sh_une (by decide), sh_une (by decide), sh_uat, e1, px, c21, c20, ex]
        rfl
      · rw [hM 9 (by decide), sh_une (by decide), sh_une (by decide), sh_une (by decide), sh_unj p, sh_unj q, g9]
      · rw [hM 10 (by decide), sh_une (by decide), sh_une (by decide), sh_uat, et]
      · rw [hM 10 (by decide), sh_une (by decide), sh_une (by decide), sh_unj p, sh_une (by decide), sh_une (by decide), g10]
      · rw [hM 12 (by decide), sh_une (by decide), sh_une (by decide), sh_une (by decide), sh_une (by decide), sh_une (by decide), g12, e1, if_neg (by omega)]
      · rw [hM 13 (by decide), e1, px]
        unfold pa_t
        rw [Int.toNat_natCast]
        by_cases k0 : k = 0
        · rw [if_pos k0, k0, sh_uat, c19]
        · rw [if_neg k0, sh_unj k0]
          by_cases k3 : k = 3
          · rw [k3, if_neg (by decide), if_neg (by decide), if_pos rfl, sh_uat, c18, en]
          · rw [sh_unj k3, sh_une (by decide), sh_une (by decide), sh_une (by decide), g13]
            by_cases k1 : k = 1
            · rw [if_pos k1, if_pos (by decide)]
            · rw [if_neg k1]
              by_cases k2 : k = 2
              · rw [if_pos k2, if_pos (by decide)]
              · rw [if_neg k2, if_neg k3]
    · obtain ⟨o1, o2⟩ := hO c.toNat (by omega)
      obtain ⟨h, eh⟩ := Int.eq_ofNat_of_zero_le o1
      have e1 : vq_hs (M 11) c = (h : Int) := (if_neg h0).trans eh
      have e2 : vq_or (vq_hs (M 11) c) = (h : Int) := by
        rw [e1]
        exact if_neg (by omega)
      rw [e2]
      have w12 : sx_w sx_r32 (M 12 h) := hm 12 _ h _ rfl (by show h < 6; omega) rfl
      refine qs_use (zs := [b, (h : Int), M 9 6, (t : Int), V, M 12 h, M 13 0, M 13 1, M 13 2, M 13 3]) pq3_c hL hm5 (qs_iw hb (qs_in (show 0 ≤ (h : Int) ∧ (h : Int) ≤ 5 by omega) (qs_rd (show (0 : Int) ≤ 6 by decide) (by rw [g9]; rfl) w6 (qs_rd (show (0 : Int) ≤ 210 by decide) (by rw [g10]; exact et) (show 0 ≤ (t : Int) ∧ (t : Int) ≤ 28 by omega) (qs_rd (show (0 : Int) ≤ 6 by decide) P6 wV (qs_rd (show 0 ≤ (h : Int) by omega) (by rw [g12]; rfl) w12 (qs_rd (show (0 : Int) ≤ 0 by decide) (by rw [g13]; rfl) (w13 0 (by decide)) (qs_rd (show (0 : Int) ≤ 1 by decide) (by rw [g13]; rfl) (w13 1 (by decide)) (qs_rd (show (0 : Int) ≤ 2 by decide) (by rw [g13]; rfl) (w13 2 (by decide)) (qs_rd (show (0 : Int) ≤ 3 by decide) (by rw [g13]; rfl) (w13 3 (by decide)) (qs_fin rfl))))))))))) (Nat.le_refl _) rfl rfl (qs_c (fun u1 u2 u3 u4 u5 u6 u7 u8 u9 u10 u11 u12 u13 u14 u15 u16 u17 u18 u19 u20 u21 u22 u23 u24 u25 u26 u27 u28 K hK hc hM => ?_) qs_z)
      obtain ⟨c1, c2, c3, c4, c5, c6, c7, c8, c9, c10, c11, c12, c13, c14, c15, c16, c17, c18, c19, c20, c21, c22, c23, c24, c25, c26, c27, c28, -⟩ := hc
      have c1 : u1 = sx_mf 3 b (M 9 6) := c1
      have c2 : u2 = sx_mf 8 1 (h : Int) := c2
      have c3 : u3 = sx_mf 0 (M 12 h) 1 := c3
      have c4 : u4 = sx_mf 0 (M 13 1) 1 := c4
      have c5 : u5 = sx_mf 10 u1 (h : Int) := c5
      have c6 : u6 = sx_mf 3 u5 1 := c6
      have c7 : u7 = sx_mf 0 (M 13 2) u6 := c7
      have c8 : u8 = sx_mf 5 u2 (-1) := c8
      have c9 : u9 = sx_mf 3 u1 u8 := c9
      have c10 : u10 = sx_mf 10 u9 1 := c10
      have c11 : u11 = sx_mf 3 u10 1431655765 := c11
      have c12 : u12 = sx_mf 1 u9 u11 := c12
      have c13 : u13 = sx_mf 3 u12 858993459 := c13
      have c14 : u14 = sx_mf 10 u12 2 := c14
      have c15 : u15 = sx_mf 3 u14 858993459 := c15
      have c16 : u16 = sx_mf 0 u13 u15 := c16
      have c17 : u17 = sx_mf 10 u16 4 := c17
      have c18 : u18 = sx_mf 0 u16 u17 := c18
      have c19 : u19 = sx_mf 3 u18 252645135 := c19
      have c20 : u20 = sx_mf 10 u19 8 := c20
      have c21 : u21 = sx_mf 0 u19 u20 := c21
      have c22 : u22 = sx_mf 10 u21 16 := c22
      have c23 : u23 = sx_mf 0 u21 u22 := c23
      have c24 : u24 = sx_mf 3 u23 63 := c24
      have c25 : u25 = sx_mf 0 (M 13 3) u24 := c25
      have c26 : u26 = sx_mf 0 (M 13 0) 1 := c26
      have c27 : u27 = sx_mf 5 u9 (-1) := c27
      have c28 : u28 = sx_mf 3 (M 9 6) u27 := c28
      have hM : ∀ a, a < 128 → K a = sx_up (sx_up (sx_up (sx_up (sx_up (sx_up (sx_up (sx_up M5 9 7 V) 9 6 u28) 10 210 ((t : Int) + 1)) 12 h u3) 13 1 u4) 13 2 u7) 13 3 u25) 13 0 u26 a := hM
      have px : pa_x (sx_mf 3 b (M 9 6)) (h : Int) = u9 := by
        rw [c9, c8, c2, c1]
        exact if_neg (by omega)
      obtain ⟨kx, ex, kx64⟩ := pa_xk (r := (h : Int)) kw64 (by omega)
      rw [← ew, px] at ex
      have en : u24 = pa_n kx := by
        rw [← pa_k kx64, ← ex, c24, c23, c22, c21, c20, c19, c18, c17, c16, c15, c14, c13, c12, c11, c10]
        rfl
      refine fin _ _ e2 hK ⟨fun a ha q1 q2 q3 q4 q5 => ?_, ⟨?_, ?_, fun j p q => ?_⟩, ⟨?_, fun j p => ?_⟩, fun g => ?_, fun k => ?_⟩
      · rw [hM a ha, sh_une q4, sh_une q4, sh_une q4, sh_une q4, sh_une q3, sh_une q2, sh_une q1, sh_une q1]
        exact g5 a ha q5
      · rw [hM 9 (by decide), sh_une (by decide), sh_une (by decide), sh_une (by decide), sh_une (by decide), sh_une (by decide), sh_une (by decide), sh_unj (by decide), sh_uat]
      · rw [hM 9 (by decide), sh_une (by decide), sh_une (by decide), sh_une (by decide), sh_une (by decide), sh_une (by decide), sh_une (by decide), sh_uat, e1, px, c28, c27]
        rfl
      · rw [hM 9 (by decide), sh_une (by decide), sh_une (by decide), sh_une (by decide), sh_une (by decide), sh_une (by decide), sh_une (by decide), sh_unj p, sh_unj q, g9]
      · rw [hM 10 (by decide), sh_une (by decide), sh_une (by decide), sh_une (by decide), sh_une (by decide), sh_une (by decide), sh_uat, et]
      · rw [hM 10 (by decide), sh_une (by decide), sh_une (by decide), sh_une (by decide), sh_une (by decide), sh_une (by decide), sh_unj p, sh_une (by decide), sh_une (by decide), g10]
      · rw [hM 12 (by decide), sh_une (by decide), sh_une (by decide), sh_une (by decide), sh_une (by decide), e1]
        by_cases gh : g = h
        · rw [gh, sh_uat, if_pos rfl, c3]
        · rw [sh_unj gh, sh_une (by decide), sh_une (by decide), sh_une (by decide), g12, if_neg (by omega)]
      · rw [hM 13 (by decide), e1, px, ex]
        have rn : ¬ ((h : Int) < 0) := by omega
        unfold pa_t
        rw [Int.toNat_natCast]
        by_cases k0 : k = 0
        · rw [if_pos k0, k0, sh_uat, c26]
        · rw [if_neg k0, sh_unj k0]
          by_cases k3 : k = 3
          · rw [k3, if_neg (by decide), if_neg (by decide), if_pos rfl, sh_uat, c25, en]
          · rw [sh_unj k3]
            by_cases k2 : k = 2
            · rw [k2, if_neg (by decide), if_pos rfl, if_neg rn, sh_uat, c7, c6, c5, c1]
              rfl
            · rw [sh_unj k2]
              by_cases k1 : k = 1
              · rw [k1, if_pos rfl, if_neg rn, sh_uat, c4]
              · rw [sh_unj k1, sh_une (by decide), sh_une (by decide), sh_une (by decide), sh_une (by decide), g13, if_neg k1, if_neg k2, if_neg k3]
  · obtain ⟨c1, c2, c3, c4, c5, -⟩ := hc
    have c1 : 0 ≤ b ∧ b ≤ 2147483646 := c1
    have c2 : 29 ≤ M 10 210 ∧ M 10 210 ≤ 29 := c2
    have c4 : b < u1 := c4
    have c5 : u1 = sx_mf 8 1 (M 9 4) := c5
    exact ⟨-5, rfl, hN, Or.inr (Or.inl ⟨rfl, ⟨c1.1, by rw [← p1, ← c5]; exact c4⟩, by omega, hM⟩)⟩
end
