/-! accepts, visits: the pairs. -/
section
variable {L : Nat} {xs : Nat → Int32} {M M' N N' M0 M1 M2 X Y : Nat → Nat → Int} {c d w s : Int} {nc H t e h : Nat}
def ax1_i : List qs_I := [(0, 0, (0, 0), sx_r32), (0, 0, (0, 0), sx_r32), (1, 10, (0, 210), (0, 29))]
def ax1_T : List og_T := [(none, some (0, 0, -1), [], [], [], [(0, (9, 0), (0, 0), -2147483648, 28), (1, (9, 0), (11, 0), 0, 0)]), (none, some (0, 0, -1), [], [], [], [(0, (9, 0), (0, 0), 0, 29), (0, (10, 0), (0, 0), -2147483648, -1), (2, (9, 0), (11, 0), 0, 0)]), (none, some (0, 0, -1), [], [], [], [(0, (9, 0), (0, 0), 0, 29), (0, (10, 0), (0, 0), 2, 2147483647), (2, (9, 0), (11, 0), 0, 0)]), (some 26, none, [(2, 0, 21)], [(0, 2, 0, 8), (1, 0, 9, 0), (2, 0, 10, 0)], [], [(0, (9, 0), (0, 0), 0, 29), (0, (10, 0), (0, 0), 0, 1), (2, (9, 0), (11, 0), 0, 0)]), (none, some (0, 0, -1), [], [], [], [(0, (9, 0), (0, 0), 30, 2147483647), (2, (9, 0), (11, 0), 0, 0)])]
theorem ax1_c : qs_chk (fun pc => Nat.beq pc 26) ax1_i 0 ax1_T 400 400 20 65 0 [(0, 2, 0, 8), (1, 0, 9, 0), (2, 0, 10, 0)] [] = true := by decide +kernel
def ax2_i : List qs_I := [(0, 0, (0, 0), (0, 29)), (0, 0, (0, 0), (0, 1))]
def ax2_T : List og_T := [(some 34, none, [(0, 9, 0), (2, 0, 21)], [(0, 2, 0, 8), (1, 0, 9, 0), (2, 0, 10, 0)], [], [])]
theorem ax2_c : qs_chk (fun pc => Nat.beq pc 34) ax2_i 0 ax2_T 400 400 20 65 29 [(0, 2, 0, 8), (1, 0, 9, 0), (2, 0, 10, 0)] [] = true := by decide +kernel
def ax3_i : List qs_I := [(0, 0, (0, 0), (0, 29)), (0, 0, (0, 0), (0, 1))]
def ax3_T : List og_T := [(some 42, none, [(0, 9, 0), (2, 0, 21)], [(0, 2, 0, 8), (1, 0, 9, 0), (2, 0, 10, 0)], [], [])]
theorem ax3_c : qs_chk (fun pc => Nat.beq pc 42) ax3_i 0 ax3_T 400 400 20 65 37 [(0, 2, 0, 8), (1, 0, 9, 0), (2, 0, 10, 0)] [] = true := by decide +kernel
def ax4_i : List qs_I := [(0, 0, (0, 0), (0, 29)), (0, 0, (0, 0), (0, 1))]
def ax4_T : List og_T := [(none, some (0, 0, -2), [], [], [], [])]
theorem ax4_c : qs_chk (fun _ => false) ax4_i 0 ax4_T 400 400 20 65 45 [(0, 2, 0, 8), (1, 0, 9, 0), (2, 0, 10, 0)] [(0, 0, -2)] = true := by decide +kernel
def ax5_i : List qs_I := [(0, 0, (0, 0), (0, 29)), (0, 0, (0, 0), (0, 1)), (0, 0, (0, 0), (0, 11)), (1, 11, (11, 0), (0, 5))]
def ax5_T : List og_T := [(none, some (0, 11, 0), [], [], [], [(0, (10, 0), (0, 0), 0, 0)]), (none, some (0, 12, 0), [], [], [], [(7, (10, 0), (0, 0), 0, 0)])]
theorem ax5_c : qs_chk (fun _ => false) ax5_i 0 ax5_T 400 400 20 65 45 [(0, 2, 0, 8), (1, 0, 9, 0), (2, 0, 10, 0)] [(0, 11, 0)] = true := by decide +kernel
def am1_i : List qs_I := [(0, 0, (0, 0), sx_r32), (0, 0, (0, 0), sx_r32), (1, 53, (0, 13), (0, 29))]
def am1_T : List og_T := [(none, some (0, 0, -1), [], [], [], [(0, (9, 0), (0, 0), -2147483648, 28), (1, (9, 0), (11, 0), 0, 0)]), (none, some (0, 0, -1), [], [], [], [(0, (9, 0), (0, 0), 30, 2147483647), (2, (9, 0), (11, 0), 0, 0)]), (none, some (0, 0, -1), [], [], [], [(0, (9, 0), (0, 0), 0, 29), (0, (10, 0), (0, 0), -2147483648, -1), (2, (9, 0), (11, 0), 0, 0)]), (some 21, none, [(0, 9, 0), (2, 0, 53)], [(0, 2, 0, 53), (1, 0, 9, 0), (2, 0, 10, 0)], [], [(0, (9, 0), (0, 0), 0, 29), (0, (10, 0), (0, 0), 0, 1), (2, (9, 0), (11, 0), 0, 0)]), (none, some (0, 0, -1), [], [], [], [(0, (9, 0), (0, 0), 0, 29), (0, (10, 0), (0, 0), 2, 2147483647), (2, (9, 0), (11, 0), 0, 0)])]
theorem am1_c : qs_chk (fun pc => Nat.beq pc 21) am1_i 0 am1_T 400 400 20 199 0 [(0, 2, 0, 53), (1, 0, 9, 0), (2, 0, 10, 0)] [] = true := by decide +kernel
def am2_i : List qs_I := [(0, 0, (0, 0), (0, 29)), (0, 0, (0, 0), (0, 1)), (1, 76, (9, 0), sx_r32), (1, 77, (9, 0), sx_r32)]
def am2_T : List og_T := [(none, some (0, 0, -2), [], [], [], [(0, (10, 0), (0, 0), 0, 0), (0, (11, 0), (0, 0), -2147483648, -1)]), (none, some (0, 11, 0), [], [], [], [(0, (10, 0), (0, 0), 0, 0), (0, (11, 0), (0, 0), 0, 2147483647)]), (none, some (0, 0, -2), [], [], [], [(0, (12, 0), (0, 0), -2147483648, -1), (7, (10, 0), (0, 0), 0, 0)]), (none, some (0, 12, 0), [], [], [], [(0, (12, 0), (0, 0), 0, 2147483647), (7, (10, 0), (0, 0), 0, 0)])]
theorem am2_c : qs_chk (fun _ => false) am2_i 0 am2_T 400 400 20 199 24 [(0, 2, 0, 53), (1, 0, 9, 0), (2, 0, 10, 0)] [] = true := by decide +kernel
def vx1_i : List qs_I := [(0, 0, (0, 0), sx_r32), (0, 0, (0, 0), sx_r32), (1, 9, (0, 4), (0, 6)), (1, 10, (0, 210), (0, 29))]
def vx1_T : List og_T := [(none, some (0, 0, -1), [], [], [], [(0, (9, 0), (0, 0), -2147483648, -1)]), (none, some (0, 0, -1), [], [], [], [(0, (9, 0), (0, 0), 0, 2147483647), (2, (9, 0), (11, 0), 0, 0)]), (none, some (0, 0, -1), [], [], [], [(0, (9, 0), (0, 0), 0, 5), (0, (10, 0), (0, 0), -2147483648, 28), (0, (11, 0), (0, 0), 1, 6), (1, (9, 0), (11, 0), 0, 0), (1, (10, 0), (12, 0), 0, 0)]), (some 28, none, [(2, 0, 21)], [(0, 2, 0, 8), (1, 0, 9, 0), (2, 0, 10, 0)], [], [(0, (9, 0), (0, 0), 0, 5), (0, (10, 0), (0, 0), 0, 29), (0, (11, 0), (0, 0), 1, 6), (1, (9, 0), (11, 0), 0, 0), (2, (10, 0), (12, 0), 0, 0)]), (none, some (0, 0, -1), [], [], [], [(0, (9, 0), (0, 0), 0, 5), (0, (10, 0), (0, 0), 30, 2147483647), (0, (11, 0), (0, 0), 1, 6), (1, (9, 0), (11, 0), 0, 0), (2, (10, 0), (12, 0), 0, 0)])]
theorem vx1_c : qs_chk (fun pc => Nat.beq pc 28) vx1_i 0 vx1_T 400 400 20 66 0 [(0, 2, 0, 8), (1, 0, 9, 0), (2, 0, 10, 0)] [] = true := by decide +kernel
def vx2_i : List qs_I := [(0, 0, (0, 0), (0, 5)), (0, 0, (0, 0), (0, 29))]
def vx2_T : List og_T := [(some 38, none, [(0, 10, 1), (2, 0, 21)], [(0, 2, 0, 8), (1, 0, 9, 0), (2, 0, 10, 0)], [], [])]
theorem vx2_c : qs_chk (fun pc => Nat.beq pc 38) vx2_i 0 vx2_T 400 400 20 66 31 [(0, 2, 0, 8), (1, 0, 9, 0), (2, 0, 10, 0)] [] = true := by decide +kernel
def vx3_i : List qs_I := [(0, 0, (0, 0), (0, 5)), (0, 0, (0, 0), (0, 29)), (1, 23, (9, 0), sx_r32), (1, 12, (9, 0), sx_r32)]
def vx3_T : List og_T := [(none, some (0, 13, 0), [], [], [], [(5, (11, 0), (12, 0), 1, 13)])]
theorem vx3_c : qs_chk (fun _ => false) vx3_i 1 vx3_T 400 400 20 66 41 [(0, 2, 0, 8), (1, 0, 9, 0), (2, 0, 10, 0)] [] = true := by decide +kernel
def vm1_i : List qs_I := [(0, 0, (0, 0), sx_r32), (0, 0, (0, 0), sx_r32), (1, 53, (0, 1), (0, 6)), (1, 53, (0, 13), (0, 29))]
def vm1_T : List og_T := [(none, some (0, 0, -1), [], [], [], [(0, (9, 0), (0, 0), -2147483648, -1)]), (none, some (0, 0, -1), [], [], [], [(0, (9, 0), (0, 0), 0, 2147483647), (1, (11, 0), (9, 0), 1, 0)]), (none, some (0, 0, -1), [], [], [], [(0, (9, 0), (0, 0), 0, 5), (0, (10, 0), (0, 0), -2147483648, 28), (0, (11, 0), (0, 0), 1, 6), (2, (11, 0), (9, 0), 1, 0), (1, (10, 0), (12, 0), 0, 0)]), (none, some (0, 0, -1), [], [], [], [(0, (9, 0), (0, 0), 0, 5), (0, (10, 0), (0, 0), 30, 2147483647), (0, (11, 0), (0, 0), 1, 6), (2, (11, 0), (9, 0), 1, 0), (2, (10, 0), (12, 0), 0, 0)]), (some 20, none, [(0, 10, 0), (2, 0, 53)], [(0, 2, 0, 53), (1, 0, 9, 0), (2, 0, 10, 0)], [], [(0, (9, 0), (0, 0), 0, 5), (0, (10, 0), (0, 0), 0, 29), (0, (11, 0), (0, 0), 1, 6), (2, (11, 0), (9, 0), 1, 0), (2, (10, 0), (12, 0), 0, 0)])]
theorem vm1_c : qs_chk (fun pc => Nat.beq pc 20) vm1_i 0 vm1_T 400 400 20 201 0 [(0, 2, 0, 53), (1, 0, 9, 0), (2, 0, 10, 0)] [] = true := by decide +kernel
def vm2_i : List qs_I := [(0, 0, (0, 0), (0, 5)), (0, 0, (0, 0), (0, 29)), (1, 75, (9, 0), sx_r32), (1, 74, (9, 0), sx_r32)]
def vm2_T : List og_T := [(none, some (0, 13, 0), [], [], [], [(5, (11, 0), (12, 0), 1, 13)])]
theorem vm2_c : qs_chk (fun _ => false) vm2_i 1 vm2_T 400 400 20 201 23 [(0, 2, 0, 53), (1, 0, 9, 0), (2, 0, 10, 0)] [] = true := by decide +kernel
/-- where begin leaves the class, after more that changes nothing -/
theorem pb_tr (f : ∀ a, a < 128 → N a = M a) (h : pb_Q N none X) : pb_Q M none X := by
  obtain ⟨-, x0, x1, x2, x3, x4, x5⟩ := h
  exact ⟨rfl, x0, fun a ha p q => (x1 a ha p q).trans (f a ha), fun j p q => by rw [x2 j p q, f 21 (by decide)], by rw [x3, f 9 (by decide)], by rw [x4, f 9 (by decide)], fun h hh => by rw [x5 h hh, f 12 (by decide)]⟩
theorem pb_tl (h : pb_Q M none X) (hm : sx_mok cl_ly N) (f : ∀ a, a < 128 → N a = X a) : pb_Q M none N := by
  obtain ⟨-, x0, x1, x2, x3, x4, x5⟩ := h
  exact ⟨rfl, hm, fun a ha p q => (f a ha).trans (x1 a ha p q), fun j p q => by rw [f 21 (by decide)]; exact x2 j p q, by rw [f 21 (by decide)]; exact x3, by rw [f 21 (by decide)]; exact x4, fun h hh => by rw [f 23 (by decide)]; exact x5 h hh⟩
theorem my_tr (f : ∀ a, a < 128 → N a = M a) (h : my_Q N H none Y) : my_Q M H none Y := by
  obtain ⟨-, y0, y1, y2, y3, y4, y5⟩ := h
  exact ⟨rfl, y0, fun a ha p q => (y1 a ha p q).trans (f a ha), fun j p q => by rw [y2 j p q, f 53 (by decide)], by rw [y3, f 53 (by decide)], by rw [y4, f 53 (by decide)], fun h => by rw [y5 h, f 74 (by decide), f 75 (by decide)]⟩
theorem vs_Fr (h : vs_F X N) (f : ∀ a, a < 128 → N' a = N a) : vs_F X N' := ⟨fun a ha hn => (f a ha).trans (h.1 a ha hn), fun j hj => by rw [f 21 (by decide)]; exact h.2 j hj⟩
theorem ms_Fr (h : ms_F Y N) (f : ∀ a, a < 128 → N' a = N a) : ms_F Y N' := ⟨fun a ha x1 x2 x3 x4 => (f a ha).trans (h.1 a ha x1 x2 x3 x4), fun j hj => by rw [f 53 (by decide)]; exact h.2 j hj⟩
theorem wr_same (hw : WF M) (hR : vu_R M) (f : ∀ a, a < 128 → N a = M a) : WF N ∧ vu_R N := fs_same hw hR (fun a ha _ => f a ha)
/-- whose card, of a day -/
def ax_v (w : Int) (W : Nat → Int) (c : Int) : Int := if c < 0 then -2 else if w = 0 then c else W c.toNat
theorem ax_x0 (hL : L < 2 ^ 31) (hm : sx_mok cl_ly M) (h29 : sx_w (0, 29) (M 10 210)) (wd : sx_w sx_r32 d) (ww : sx_w sx_r32 w) (hp : ¬ ((M 10 210 ≤ d ∧ d ≤ 29) ∧ 0 ≤ w ∧ w ≤ 1)) : rz_fin (fun r M' => r = some (.int (Int32.ofInt (-1))) ∧ sx_mok cl_ly M' ∧ ∀ a, a < 128 → M' a = M a) L xs 65 20 0 [(0, .ref 8), (1, .int (Int32.ofInt d)), (2, .int (Int32.ofInt w))] [] M := by
  refine qs_use (zs := [d, w, M 10 210]) ax1_c hL hm (qs_iw wd (qs_iw ww (qs_rd (show (0 : Int) ≤ 210 by decide) rfl h29 (qs_fin rfl)))) (Nat.le_refl _) rfl rfl (qs_c (fun M2 hm2 hc hM => ?_) (qs_c (fun M2 hm2 hc hM => ?_) (qs_c (fun M2 hm2 hc hM => ?_) (qs_c (fun M2 hm2 hc hM => ?_) (qs_c (fun M2 hm2 hc hM => ?_) qs_z)))))
  · exact ⟨rfl, hm2, hM⟩
  · exact ⟨rfl, hm2, hM⟩
  · exact ⟨rfl, hm2, hM⟩
  · exfalso
    obtain ⟨c1, c2, c3, -⟩ := hc
    have c1 : 0 ≤ d ∧ d ≤ 29 := c1
    have c2 : 0 ≤ w ∧ w ≤ 1 := c2
    have c3 : ¬ d < M 10 210 := c3
    exact hp ⟨⟨by omega, c1.2⟩, c2⟩
  · exact ⟨rfl, hm2, hM⟩
theorem ax_y0 (hL : L < 2 ^ 31) (hm : sx_mok cl_ly M) (wd : sx_w sx_r32 d) (ww : sx_w sx_r32 w) (hp : ¬ ((M 53 13 ≤ d ∧ d ≤ 29) ∧ 0 ≤ w ∧ w ≤ 1)) : rz_fin (fun r M' => r = some (.int (Int32.ofInt (-1))) ∧ sx_mok cl_ly M' ∧ ∀ a, a < 128 → M' a = M a) L xs 199 20 0 [(0, .ref 53), (1, .int (Int32.ofInt d)), (2, .int (Int32.ofInt w))] [] M := by
  have hT := cx_fld (c := 53) (k := 13) (lo := 0) (hi := 29) hm (by decide +kernel)
  refine qs_use (zs := [d, w, M 53 13]) am1_c hL hm (qs_iw wd (qs_iw ww (qs_rd (show (0 : Int) ≤ 13 by decide) rfl hT (qs_fin rfl)))) (Nat.le_refl _) rfl rfl (qs_c (fun M2 hm2 hc hM => ?_) (qs_c (fun M2 hm2 hc hM => ?_) (qs_c (fun M2 hm2 hc hM => ?_) (qs_c (fun M2 hm2 hc hM => ?_) (qs_c (fun M2 hm2 hc hM => ?_) qs_z)))))
  · exact ⟨rfl, hm2, hM⟩
  · exact ⟨rfl, hm2, hM⟩
  · exact ⟨rfl, hm2, hM⟩
  · exfalso
    obtain ⟨c1, c2, c3, -⟩ := hc
    have c1 : 0 ≤ d ∧ d ≤ 29 := c1
    have c2 : 0 ≤ w ∧ w ≤ 1 := c2
    have c3 : ¬ d < M 53 13 := c3
    exact hp ⟨⟨by omega, c1.2⟩, c2⟩
  · exact ⟨rfl, hm2, hM⟩
theorem ax_x1 (hL : L < 2 ^ 31) (hm : sx_mok cl_ly M) (hw : WF M) (hR : vu_R M) (hn : M 9 5 = (nc : Int)) (h12 : nc ≤ 12) (ht : M 10 210 = (t : Int)) (hte : t ≤ e) (he : e ≤ 29) (w0 : 0 ≤ w) (w1 : w ≤ 1) : rz_fin (fun r M' => ∃ X, pb_Q M none X ∧ vs_F X M' ∧ sx_mok cl_ly M' ∧ r = some (.int (Int32.ofInt (ax_v w (M 11) (vs_cd X nc e (vs_T X nc (e - t) t (X 21 6, X 23))))))) L xs 65 20 0 [(0, .ref 8), (1, .int (Int32.ofInt (e : Int))), (2, .int (Int32.ofInt w))] [] M := by
  have ii : ∀ {M' : Nat → Nat → Int} {l : List qs_I}, qs_ok M' [(e : Int), w] l 2 → qs_ok M' [(e : Int), w] ((0, 0, (0, 0), (0, 29)) :: (0, 0, (0, 0), (0, 1)) :: l) 0 := fun r => qs_in (show 0 ≤ (e : Int) ∧ (e : Int) ≤ 29 by omega) (qs_in (show 0 ≤ w ∧ w ≤ 1 from ⟨w0, w1⟩) r)
  refine qs_use (zs := [(e : Int), w, (t : Int)]) ax1_c hL hm (qs_iw (og_w32 (show -2147483648 ≤ (e : Int) by omega) (show (e : Int) ≤ 2147483647 by omega)) (qs_iw (og_w32 (show -2147483648 ≤ w by omega) (show w ≤ 2147483647 by omega)) (qs_rd (show (0 : Int) ≤ 210 by decide) ht (show 0 ≤ (t : Int) ∧ (t : Int) ≤ 29 by omega) (qs_fin rfl)))) (Nat.le_refl _) rfl rfl (qs_c (fun M2 hm2 hc hM => ?_) (qs_c (fun M2 hm2 hc hM => ?_) (qs_c (fun M2 hm2 hc hM => ?_) (qs_c (fun M2 hm2 hc hM => ?_) (qs_c (fun M2 hm2 hc hM => ?_) qs_z)))))
  · exfalso
    have c1 : (e : Int) < (t : Int) := hc.2.1
    omega
  · exfalso
    have c1 : -2147483648 ≤ w ∧ w ≤ -1 := hc.2.1
    omega
  · exfalso
    have c1 : 2 ≤ w ∧ w ≤ 2147483647 := hc.2.1
    omega
  · have f2 : ∀ a, a < 128 → M2 a = M a := hM
    show rz_fin _ L xs 65 20 26 [(0, .ref 8), (1, .int (Int32.ofInt (e : Int))), (2, .int (Int32.ofInt w))] [.ref 21] M2
    refine qs_vc (k := 54) (b := 21) (d := 19) (d' := 19) (rest := []) rfl rfl rfl rfl rfl rfl rfl rfl (Nat.le_refl _) rfl (rz_d (by decide) (pb_begin (xs := xs) hL hm2)) (fun r9 X hX => ?_)
    have hr : r9 = none := hX.1
    subst hr
    have hX := pb_tr f2 hX
    refine qs_use (zs := [(e : Int), w]) ax2_c hL hX.2.1 (ii (qs_fin rfl)) (Nat.le_refl _) rfl rfl (qs_c (fun M4 hm4 hc4 hM4 => ?_) qs_z)
    have hX := pb_tl hX hm4 (show ∀ a, a < 128 → M4 a = X a from hM4)
    obtain ⟨wX, rX⟩ := pb_keep hw hR hX
    have x9 : M4 9 = M 9 := hX.2.2.1 9 (by decide) (by decide) (by decide)
    have x10 : M4 10 = M 10 := hX.2.2.1 10 (by decide) (by decide) (by decide)
    have x11 : M4 11 = M 11 := hX.2.2.1 11 (by decide) (by decide) (by decide)
    have hn4 : M4 9 5 = (nc : Int) := by rw [x9]; exact hn
    show rz_fin _ L xs 65 20 34 [(0, .ref 8), (1, .int (Int32.ofInt (e : Int))), (2, .int (Int32.ofInt w))] [.int (Int32.ofInt (e : Int)), .ref 21] M4
    refine qs_vc (k := 55) (b := 21) (d := 19) (d' := 19) (rest := []) rfl rfl rfl rfl rfl rfl rfl rfl (Nat.le_refl _) rfl (rz_d (by decide) (vs_till (xs := xs) (nc := nc) (t := t) (k := e - t) hL hm4 (by omega) wX rX hn4 (by rw [x10]; exact ht) (by omega) (by omega))) (fun r9 M5 hr => ?_)
    obtain ⟨rfl, hm5, F5, P5⟩ := hr
    refine qs_use (zs := [(e : Int), w]) ax3_c hL hm5 (ii (qs_fin rfl)) (Nat.le_refl _) rfl rfl (qs_c (fun M6 hm6 hc6 hM6 => ?_) qs_z)
    have f6 : ∀ a, a < 128 → M6 a = M5 a := hM6
    have F6 := vs_Fr F5 f6
    have P6 : vs_P (vs_T M4 nc (e - t) t (M4 21 6, M4 23)) M6 := ⟨by rw [f6 21 (by decide)]; exact P5.1, fun h => by rw [f6 23 (by decide)]; exact P5.2 h⟩
    obtain ⟨w6, r6, X6⟩ := vs_keep wX rX F6
    show rz_fin _ L xs 65 20 42 [(0, .ref 8), (1, .int (Int32.ofInt (e : Int))), (2, .int (Int32.ofInt w))] [.int (Int32.ofInt (e : Int)), .ref 21] M6
    have hch := vr_choice (xs := xs) (d := e) (nc := nc) hL hm6 he w6 r6 (by rw [F6.1 9 (by decide) (by decide)]; exact hn4)
    rw [vs_ch (nc := nc) P6 X6 F6] at hch
    refine qs_vc (k := 57) (b := 21) (d := 19) (d' := 19) (rest := []) rfl rfl rfl rfl rfl rfl rfl rfl (Nat.le_refl _) rfl (rz_d (by decide) hch) (fun r9 M7 hr => ?_)
    obtain ⟨rfl, hm7, f7⟩ := hr
    have F7 : vs_F M4 M7 := ⟨fun a ha hn => (f7 a ha (by omega) (by omega) (by omega)).trans (F6.1 a ha hn), fun j hj => by rw [f7 21 (by decide) (by decide) (by decide) (by decide)]; exact F6.2 j hj⟩
    obtain ⟨c, ec⟩ : ∃ c, vs_cd M4 nc e (vs_T M4 nc (e - t) t (M4 21 6, M4 23)) = c := ⟨_, rfl⟩
    rw [ec]
    have hcr : c < (nc : Int) := by
      rw [← ec]
      exact (vq_cd_r (fun d h b => (vq_held_r _).2)).2
    have fin : ∀ (z : Int) (K : Nat → Nat → Int), z = ax_v w (M 11) c → sx_mok cl_ly K → (∀ a, a < 128 → K a = M7 a) → ∃ X, pb_Q M none X ∧ vs_F X K ∧ sx_mok cl_ly K ∧ some (Value.int (Int32.ofInt z)) = some (.int (Int32.ofInt (ax_v w (M 11) (vs_cd X nc e (vs_T X nc (e - t) t (X 21 6, X 23)))))) := fun z K ez hK f => ⟨M4, hX, vs_Fr F7 f, hK, by rw [ec, ez]⟩
    by_cases h0 : c < 0
    · have e2 : vq_or c = -2 := if_pos h0
      rw [e2]
      exact qs_use (zs := [(e : Int), w]) ax4_c hL hm7 (ii (qs_fin rfl)) (Nat.le_refl _) rfl rfl (qs_c (fun M8 hm8 hc8 hM8 => fin (-2) M8 (if_pos h0).symm hm8 hM8) qs_z)
    · have e2 : vq_or c = c := if_neg h0
      rw [e2]
      obtain ⟨g, rfl⟩ := Int.eq_ofNat_of_zero_le (show 0 ≤ c by omega)
      have z11 : M7 11 g = M 11 g := by rw [F7.1 11 (by decide) (by decide), x11]
      have w11 : 0 ≤ M 11 g ∧ M 11 g ≤ 5 := hm 11 _ g _ rfl (by show g < 12; omega) rfl
      refine qs_use (zs := [(e : Int), w, (g : Int), M 11 g]) ax5_c hL hm7 (qs_in (show 0 ≤ (e : Int) ∧ (e : Int) ≤ 29 by omega) (qs_in (show 0 ≤ w ∧ w ≤ 1 from ⟨w0, w1⟩) (qs_in (show 0 ≤ (g : Int) ∧ (g : Int) ≤ 11 by omega) (qs_rd (show 0 ≤ (g : Int) by omega) z11 w11 (qs_fin rfl))))) (Nat.le_refl _) rfl rfl (qs_c (fun M8 hm8 hc8 hM8 => ?_) (qs_c (fun M8 hm8 hc8 hM8 => ?_) qs_z))
      · have c1 : 0 ≤ w ∧ w ≤ 0 := hc8.1
        exact fin _ M8 (((if_neg h0).trans (if_pos (show w = 0 by omega))).symm) hm8 hM8
      · have c1 : w ≠ 0 := hc8.1
        exact fin _ M8 (((if_neg h0).trans (if_neg c1)).symm) hm8 hM8
  · exfalso
    have c1 : 30 ≤ (e : Int) ∧ (e : Int) ≤ 2147483647 := hc.1
    omega
theorem ax_y1 (hL : L < 2 ^ 31) (hm : sx_mok cl_ly M) (hw : WF M) (hR : vu_R M) (hH : M 53 1 = (H : Int)) (hn : M 53 8 = (nc : Int)) (h12 : nc ≤ 12) (ht : M 53 13 = (t : Int)) (hte : t ≤ e) (he : e ≤ 29) (w0 : 0 ≤ w) (w1 : w ≤ 1) : rz_fin (fun r M' => ∃ Y, my_Q M H none Y ∧ ms_F Y M' ∧ sx_mok cl_ly M' ∧ r = some (.int (Int32.ofInt (if w = 0 then vq_or (ms_cd Y nc e (ms_T Y nc (e - t) t (Y 53 36, Y 75))) else vq_or (vq_hs (Y 59) (ms_cd Y nc e (ms_T Y nc (e - t) t (Y 53 36, Y 75)))))))) L xs 199 20 0 [(0, .ref 53), (1, .int (Int32.ofInt (e : Int))), (2, .int (Int32.ofInt w))] [] M := by
  refine qs_use (zs := [(e : Int), w, (t : Int)]) am1_c hL hm (qs_iw (og_w32 (show -2147483648 ≤ (e : Int) by omega) (show (e : Int) ≤ 2147483647 by omega)) (qs_iw (og_w32 (show -2147483648 ≤ w by omega) (show w ≤ 2147483647 by omega)) (qs_rd (show (0 : Int) ≤ 13 by decide) ht (show 0 ≤ (t : Int) ∧ (t : Int) ≤ 29 by omega) (qs_fin rfl)))) (Nat.le_refl _) rfl rfl (qs_c (fun M2 hm2 hc hM => ?_) (qs_c (fun M2 hm2 hc hM => ?_) (qs_c (fun M2 hm2 hc hM => ?_) (qs_c (fun M2 hm2 hc hM => ?_) (qs_c (fun M2 hm2 hc hM => ?_) qs_z)))))
  · exfalso
    have c1 : (e : Int) < (t : Int) := hc.2.1
    omega
  · exfalso
    have c1 : 30 ≤ (e : Int) ∧ (e : Int) ≤ 2147483647 := hc.1
    omega
  · exfalso
    have c1 : -2147483648 ≤ w ∧ w ≤ -1 := hc.2.1
    omega
  · have f2 : ∀ a, a < 128 → M2 a = M a := hM
    obtain ⟨w2, r2⟩ := wr_same hw hR f2
    have o53 : M2 53 = M 53 := f2 53 (by decide)
    show rz_fin _ L xs 199 20 21 [(0, .ref 53), (1, .int (Int32.ofInt (e : Int))), (2, .int (Int32.ofInt w))] [.int (Int32.ofInt (e : Int)), .ref 53] M2
    refine qs_vc (k := 190) (b := 53) (d := 19) (d' := 19) (rest := []) rfl rfl rfl rfl rfl rfl rfl rfl (Nat.le_refl _) rfl (rz_d (by decide) (mt_goto (xs := xs) (H := H) (nc := nc) (t := t) (k := e - t + 1) (e := (e : Int)) hL hm2 (by omega) w2 r2 (by rw [o53]; exact hH) (by rw [o53]; exact hn) (by rw [o53]; exact ht) (by omega))) (fun r9 M3 hr => ?_)
    obtain ⟨rfl, hm3, Y, hY, wY, rY, F3, P3, O3⟩ := hr
    have hY := my_tr f2 hY
    obtain ⟨o1, o2⟩ := O3 (e - t) (by omega)
    rw [show t + (e - t) = e by omega] at o1 o2
    obtain ⟨c, ec⟩ : ∃ c, ms_cd Y nc e (ms_T Y nc (e - t) t (Y 53 36, Y 75)) = c := ⟨_, rfl⟩
    rw [ec] at o1 o2
    have w76 : sx_w sx_r32 (M3 76 e) := hm3 76 _ e _ rfl (by show e < 30; omega) rfl
    have w77 : sx_w sx_r32 (M3 77 e) := hm3 77 _ e _ rfl (by show e < 30; omega) rfl
    rw [o1] at w76
    rw [o2] at w77
    have fin : ∀ (z : Int) (K : Nat → Nat → Int), z = (if w = 0 then vq_or c else vq_or (vq_hs (Y 59) c)) → sx_mok cl_ly K → (∀ a, a < 128 → K a = M3 a) → ∃ Y, my_Q M H none Y ∧ ms_F Y K ∧ sx_mok cl_ly K ∧ some (Value.int (Int32.ofInt z)) = some (.int (Int32.ofInt (if w = 0 then vq_or (ms_cd Y nc e (ms_T Y nc (e - t) t (Y 53 36, Y 75))) else vq_or (vq_hs (Y 59) (ms_cd Y nc e (ms_T Y nc (e - t) t (Y 53 36, Y 75))))))) := fun z K ez hK f => ⟨Y, hY, ms_Fr F3 f, hK, by rw [ec, ez]⟩
    refine qs_use (zs := [(e : Int), w, c, vq_hs (Y 59) c]) am2_c hL hm3 (qs_in (show 0 ≤ (e : Int) ∧ (e : Int) ≤ 29 by omega) (qs_in (show 0 ≤ w ∧ w ≤ 1 from ⟨w0, w1⟩) (qs_rd (show 0 ≤ (e : Int) by omega) o1 w76 (qs_rd (show 0 ≤ (e : Int) by omega) o2 w77 (qs_fin rfl))))) (Nat.le_refl _) rfl rfl (qs_c (fun M8 hm8 hc8 hM8 => ?_) (qs_c (fun M8 hm8 hc8 hM8 => ?_) (qs_c (fun M8 hm8 hc8 hM8 => ?_) (qs_c (fun M8 hm8 hc8 hM8 => ?_) qs_z))))
    · obtain ⟨c1, c2, -⟩ := hc8
      have c1 : 0 ≤ w ∧ w ≤ 0 := c1
      have c2 : -2147483648 ≤ c ∧ c ≤ -1 := c2
      exact fin _ M8 (((if_pos (show w = 0 by omega)).trans (if_pos (by omega))).symm) hm8 hM8
    · obtain ⟨c1, c2, -⟩ := hc8
      have c1 : 0 ≤ w ∧ w ≤ 0 := c1
      have c2 : 0 ≤ c ∧ c ≤ 2147483647 := c2
      exact fin _ M8 (((if_pos (show w = 0 by omega)).trans (if_neg (by omega))).symm) hm8 hM8
    · obtain ⟨c1, c2, -⟩ := hc8
      have c1 : -2147483648 ≤ vq_hs (Y 59) c ∧ vq_hs (Y 59) c ≤ -1 := c1
      have c2 : w ≠ 0 := c2
      exact fin _ M8 (((if_neg c2).trans (if_pos (by omega))).symm) hm8 hM8
    · obtain ⟨c1, c2, -⟩ := hc8
      have c1 : 0 ≤ vq_hs (Y 59) c ∧ vq_hs (Y 59) c ≤ 2147483647 := c1
      have c2 : w ≠ 0 := c2
      exact fin _ M8 (((if_neg c2).trans (if_neg (by omega))).symm) hm8 hM8
  · exfalso
    have c1 : 2 ≤ w ∧ w ≤ 2147483647 := hc.2.1
    omega
/-- accepts of both sides -/
theorem fs_ac (hL : L < 2 ^ 31) (hI : la_I WF bs_cps M) (hS : fs_SS M) (hd : sx_w sx_r32 d) (ww : sx_w sx_r32 w) : fs_P WF L xs 0 65 199 [.ref 8, .int (Int32.ofInt d), .int (Int32.ofInt w)] [.ref 53, .int (Int32.ofInt d), .int (Int32.ofInt w)] (-2, 11) M := by
  obtain ⟨nc, H, hA⟩ := fs_toA hI hS
  obtain ⟨-, -, -, e4, -, -, -⟩ := bs_eq hI
  have h29 : 0 ≤ M 10 210 ∧ M 10 210 ≤ 29 := hI.2.2.2.1
  have hm := hI.1
  have hw := hI.2.2.1
  have hR : vu_R M := hS.2.2.2.2.2.2.2.2
  obtain ⟨⟨a1, a2, a3, a4, a5⟩, b1, -⟩ := id hA
  by_cases hp : (M 10 210 ≤ d ∧ d ≤ 29) ∧ 0 ≤ w ∧ w ≤ 1
  · obtain ⟨⟨p1, p2⟩, p3, p4⟩ := hp
    obtain ⟨e, rfl⟩ := Int.eq_ofNat_of_zero_le (show 0 ≤ d by omega)
    obtain ⟨t, et⟩ := Int.eq_ofNat_of_zero_le h29.1
    obtain ⟨F1, v1, M1, f1, X, hX, FX, m1, rv⟩ := rz_d (show 20 ≤ 99 by decide) (ax_x1 (xs := xs) (nc := nc) (t := t) (e := e) (w := w) hL hm hw hR a1 a3 et (by omega) (by omega) p3 p4)
    have x1 := vs_x hX FX
    obtain ⟨w1, r1⟩ := fs_same hw hR x1
    have o53 : M1 53 = M 53 := x1 53 (by decide) (by decide)
    obtain ⟨F2, v2, M2, f2, Y, hY, FY, m2, rv2⟩ := rz_d (show 20 ≤ 99 by decide) (ax_y1 (xs := xs) (nc := nc) (H := H) (t := t) (e := e) (w := w) hL m1 w1 r1 (by rw [o53]; exact a4) (by rw [o53]; exact a2) a3 (by rw [o53, ← e4]; exact et) (by omega) (by omega) p3 p4)
    have hf : ∀ a, a < 128 → 53 ≤ a → M1 a = M a := fun a ha h => x1 a ha (by omega)
    have E := (fs_T hA hX hf hY (e - t) t (by omega)).2 (by omega)
    rw [show t + (e - t) = e by omega] at E
    rw [E.1, E.2] at rv2
    have hcr : vs_cd X nc e (vs_T X nc (e - t) t (X 21 6, X 23)) < (nc : Int) := (vq_cd_r (fun d h b => (vq_held_r _).2)).2
    have x11 : X 11 = M 11 := hX.2.2.1 11 (by decide) (by decide) (by decide)
    rw [x11] at rv2
    generalize vs_cd X nc e (vs_T X nc (e - t) t (X 21 6, X 23)) = c at rv rv2 hcr
    have el : (if w = 0 then vq_or c else vq_or (vq_hs (M 11) c)) = ax_v w (M 11) c ∧ -2 ≤ ax_v w (M 11) c ∧ ax_v w (M 11) c ≤ 11 := by
      unfold ax_v vq_hs
      by_cases h0 : c < 0
      · rw [if_pos h0, if_pos h0]
        refine ⟨?_, by decide, by decide⟩
        split
        · exact if_pos h0
        · exact if_pos (by decide)
      · obtain ⟨q1, q2, q3, q4⟩ := b1 c.toNat (by omega)
        rw [if_neg h0, if_neg h0]
        by_cases hw0 : w = 0
        · rw [if_pos hw0, if_pos hw0]
          exact ⟨if_neg h0, by omega, by omega⟩
        · rw [if_neg hw0, if_neg hw0]
          exact ⟨if_neg (by omega), by omega, by omega⟩
    rw [el.1] at rv2
    subst rv rv2
    obtain ⟨g1, g2⟩ := fs_q WF_zs hI hS m2 (fs_xy x1 (ms_y hY FY))
    exact ⟨_, M1, M2, ⟨el.2.1, el.2.2⟩, Or.inl ⟨rfl, og_w32 (by omega) (by omega)⟩, ⟨F1, f1⟩, m1, ⟨F2, f2⟩, m2, g1, g2⟩
  · refine fs_mk (dx := 20) (dm := 20) (z := -1) WF_zs hI hS (by decide) (by decide) ⟨by decide, by decide⟩ (Or.inl ⟨rfl, og_w32 (by decide) (by decide)⟩) (qs_w (ax_x0 (xs := xs) hL hm h29 hd ww hp) (fun v N g => ?_))
    obtain ⟨rfl, mN, fN⟩ := g
    refine ⟨rfl, mN, fun a ha _ => fN a ha, qs_w (ax_y0 (xs := xs) hL mN hd ww (fun q => hp ?_)) (fun v N' g => ?_)⟩
    · rw [fN 53 (by decide), ← e4] at q
      exact q
    · obtain ⟨rfl, mN', fN'⟩ := g
      exact ⟨rfl, mN', fun a ha _ _ _ _ => fN' a ha, fun j _ => by rw [fN' 53 (by decide)]⟩
theorem vz_x0 (hL : L < 2 ^ 31) (hm : sx_mok cl_ly M) (h29 : sx_w (0, 29) (M 10 210)) (ws : sx_w sx_r32 s) (wd : sx_w sx_r32 d) (hp : ¬ ((0 ≤ s ∧ s < M 9 4) ∧ M 10 210 ≤ d ∧ d ≤ 29)) : rz_fin (fun r M' => r = some (.int (Int32.ofInt (-1))) ∧ sx_mok cl_ly M' ∧ ∀ a, a < 128 → M' a = M a) L xs 66 20 0 [(0, .ref 8), (1, .int (Int32.ofInt s)), (2, .int (Int32.ofInt d))] [] M := by
  have h4 := cx_fld (c := 9) (k := 4) (lo := 0) (hi := 6) hm (by decide +kernel)
  refine qs_use (zs := [s, d, M 9 4, M 10 210]) vx1_c hL hm (qs_iw ws (qs_iw wd (qs_rd (show (0 : Int) ≤ 4 by decide) rfl h4 (qs_rd (show (0 : Int) ≤ 210 by decide) rfl h29 (qs_fin rfl))))) (Nat.le_refl _) rfl rfl (qs_c (fun M2 hm2 hc hM => ?_) (qs_c (fun M2 hm2 hc hM => ?_) (qs_c (fun M2 hm2 hc hM => ?_) (qs_c (fun M2 hm2 hc hM => ?_) (qs_c (fun M2 hm2 hc hM => ?_) qs_z)))))
  · exact ⟨rfl, hm2, hM⟩
  · exact ⟨rfl, hm2, hM⟩
  · exact ⟨rfl, hm2, hM⟩
  · exfalso
    obtain ⟨c1, c2, c3, c4, c5, -⟩ := hc
    have c1 : 0 ≤ s ∧ s ≤ 5 := c1
    have c2 : 0 ≤ d ∧ d ≤ 29 := c2
    have c4 : s < M 9 4 := c4
    have c5 : ¬ d < M 10 210 := c5
    exact hp ⟨⟨c1.1, c4⟩, by omega, c2.2⟩
  · exact ⟨rfl, hm2, hM⟩
theorem vz_y0 (hL : L < 2 ^ 31) (hm : sx_mok cl_ly M) (ws : sx_w sx_r32 s) (wd : sx_w sx_r32 d) (hp : ¬ ((0 ≤ s ∧ s < M 53 1) ∧ M 53 13 ≤ d ∧ d ≤ 29)) : rz_fin (fun r M' => r = some (.int (Int32.ofInt (-1))) ∧ sx_mok cl_ly M' ∧ ∀ a, a < 128 → M' a = M a) L xs 201 20 0 [(0, .ref 53), (1, .int (Int32.ofInt s)), (2, .int (Int32.ofInt d))] [] M := by
  have h4 := cx_fld (c := 53) (k := 1) (lo := 0) (hi := 6) hm (by decide +kernel)
  have hT := cx_fld (c := 53) (k := 13) (lo := 0) (hi := 29) hm (by decide +kernel)
  refine qs_use (zs := [s, d, M 53 1, M 53 13]) vm1_c hL hm (qs_iw ws (qs_iw wd (qs_rd (show (0 : Int) ≤ 1 by decide) rfl h4 (qs_rd (show (0 : Int) ≤ 13 by decide) rfl hT (qs_fin rfl))))) (Nat.le_refl _) rfl rfl (qs_c (fun M2 hm2 hc hM => ?_) (qs_c (fun M2 hm2 hc hM => ?_) (qs_c (fun M2 hm2 hc hM => ?_) (qs_c (fun M2 hm2 hc hM => ?_) (qs_c (fun M2 hm2 hc hM => ?_) qs_z)))))
  · exact ⟨rfl, hm2, hM⟩
  · exact ⟨rfl, hm2, hM⟩
  · exact ⟨rfl, hm2, hM⟩
  · exact ⟨rfl, hm2, hM⟩
  · exfalso
    obtain ⟨c1, c2, c3, c4, c5, -⟩ := hc
    have c1 : 0 ≤ s ∧ s ≤ 5 := c1
    have c2 : 0 ≤ d ∧ d ≤ 29 := c2
    have c4 : ¬ M 53 1 < s + 1 := c4
    have c5 : ¬ d < M 53 13 := c5
    exact hp ⟨⟨c1.1, by omega⟩, by omega, c2.2⟩
theorem vz_x1 (hL : L < 2 ^ 31) (hm : sx_mok cl_ly M) (hw : WF M) (hR : vu_R M) (h4 : M 9 4 = (H : Int)) (hn : M 9 5 = (nc : Int)) (h12 : nc ≤ 12) (ht : M 10 210 = (t : Int)) (hte : t ≤ e) (he : e ≤ 29) (hh : h < H) (h6 : H ≤ 6) : rz_fin (fun r M' => ∃ X, pb_Q M none X ∧ vs_F X M' ∧ sx_mok cl_ly M' ∧ r = some (.int (Int32.ofInt (sx_mf 1 ((vs_T X nc (e - t + 1) t (X 21 6, X 23)).2 h) (M 12 h))))) L xs 66 20 0 [(0, .ref 8), (1, .int (Int32.ofInt (h : Int))), (2, .int (Int32.ofInt (e : Int)))] [] M := by
  have ii : ∀ {M' : Nat → Nat → Int} {l : List qs_I}, qs_ok M' [(h : Int), (e : Int)] l 2 → qs_ok M' [(h : Int), (e : Int)] ((0, 0, (0, 0), (0, 5)) :: (0, 0, (0, 0), (0, 29)) :: l) 0 := fun r => qs_in (show 0 ≤ (h : Int) ∧ (h : Int) ≤ 5 by omega) (qs_in (show 0 ≤ (e : Int) ∧ (e : Int) ≤ 29 by omega) r)
  refine qs_use (zs := [(h : Int), (e : Int), (H : Int), (t : Int)]) vx1_c hL hm (qs_iw (og_w32 (show -2147483648 ≤ (h : Int) by omega) (show (h : Int) ≤ 2147483647 by omega)) (qs_iw (og_w32 (show -2147483648 ≤ (e : Int) by omega) (show (e : Int) ≤ 2147483647 by omega)) (qs_rd (show (0 : Int) ≤ 4 by decide) h4 (show 0 ≤ (H : Int) ∧ (H : Int) ≤ 6 by omega) (qs_rd (show (0 : Int) ≤ 210 by decide) ht (show 0 ≤ (t : Int) ∧ (t : Int) ≤ 29 by omega) (qs_fin rfl))))) (Nat.le_refl _) rfl rfl (qs_c (fun M2 hm2 hc hM => ?_) (qs_c (fun M2 hm2 hc hM => ?_) (qs_c (fun M2 hm2 hc hM => ?_) (qs_c (fun M2 hm2 hc hM => ?_) (qs_c (fun M2 hm2 hc hM => ?_) qs_z)))))
  · exfalso
    have c1 : -2147483648 ≤ (h : Int) ∧ (h : Int) ≤ -1 := hc.1
    omega
  · exfalso
    have c1 : ¬ (h : Int) < (H : Int) := hc.2.1
    omega
  · exfalso
    have c1 : (e : Int) < (t : Int) := hc.2.2.2.2.1
    omega
  · have f2 : ∀ a, a < 128 → M2 a = M a := hM
    show rz_fin _ L xs 66 20 28 [(0, .ref 8), (1, .int (Int32.ofInt (h : Int))), (2, .int (Int32.ofInt (e : Int)))] [.ref 21] M2
    refine qs_vc (k := 54) (b := 21) (d := 19) (d' := 19) (rest := []) rfl rfl rfl rfl rfl rfl rfl rfl (Nat.le_refl _) rfl (rz_d (by decide) (pb_begin (xs := xs) hL hm2)) (fun r9 X hX => ?_)
    have hr : r9 = none := hX.1
    subst hr
    have hX := pb_tr f2 hX
    refine qs_use (zs := [(h : Int), (e : Int)]) vx2_c hL hX.2.1 (ii (qs_fin rfl)) (Nat.le_refl _) rfl rfl (qs_c (fun M4 hm4 hc4 hM4 => ?_) qs_z)
    have hX := pb_tl hX hm4 (show ∀ a, a < 128 → M4 a = X a from hM4)
    obtain ⟨wX, rX⟩ := pb_keep hw hR hX
    have x9 : M4 9 = M 9 := hX.2.2.1 9 (by decide) (by decide) (by decide)
    have x10 : M4 10 = M 10 := hX.2.2.1 10 (by decide) (by decide) (by decide)
    have x12 : M4 12 = M 12 := hX.2.2.1 12 (by decide) (by decide) (by decide)
    show rz_fin _ L xs 66 20 38 [(0, .ref 8), (1, .int (Int32.ofInt (h : Int))), (2, .int (Int32.ofInt (e : Int)))] [.int (Int32.ofInt ((e : Int) + 1)), .ref 21] M4
    refine qs_vc (k := 55) (b := 21) (d := 19) (d' := 19) (rest := []) rfl rfl rfl rfl rfl rfl rfl rfl (Nat.le_refl _) rfl (rz_d (by decide) (vs_till (xs := xs) (nc := nc) (t := t) (k := e - t + 1) (e := e + 1) hL hm4 (by omega) wX rX (by rw [x9]; exact hn) (by rw [x10]; exact ht) (by omega) (by omega))) (fun r9 M5 hr => ?_)
    obtain ⟨rfl, hm5, F5, P5⟩ := hr
    have z12 : M5 12 h = M 12 h := by rw [F5.1 12 (by decide) (by decide), x12]
    have w12 : sx_w sx_r32 (M 12 h) := hm 12 _ h _ rfl (by show h < 6; omega) rfl
    have w23 : sx_w sx_r32 ((vs_T M4 nc (e - t + 1) t (M4 21 6, M4 23)).2 h) := by rw [← P5.2 h]; exact hm5 23 _ h _ rfl (by show h < 6; omega) rfl
    refine qs_use (zs := [(h : Int), (e : Int), (vs_T M4 nc (e - t + 1) t (M4 21 6, M4 23)).2 h, M 12 h]) vx3_c hL hm5 (qs_in (show 0 ≤ (h : Int) ∧ (h : Int) ≤ 5 by omega) (qs_in (show 0 ≤ (e : Int) ∧ (e : Int) ≤ 29 by omega) (qs_rd (show 0 ≤ (h : Int) by omega) (P5.2 h) w23 (qs_rd (show 0 ≤ (h : Int) by omega) z12 w12 (qs_fin rfl))))) (Nat.le_refl _) rfl rfl (qs_c (fun u1 M8 hm8 hc8 hM8 => ?_) qs_z)
    have c1 : u1 = sx_mf 1 ((vs_T M4 nc (e - t + 1) t (M4 21 6, M4 23)).2 h) (M 12 h) := hc8.1
    refine ⟨M4, hX, vs_Fr F5 (show ∀ a, a < 128 → M8 a = M5 a from hM8), hm8, ?_⟩
    rw [← c1]
    rfl
  · exfalso
    have c1 : 30 ≤ (e : Int) ∧ (e : Int) ≤ 2147483647 := hc.2.1
    omega
theorem vz_y1 (hL : L < 2 ^ 31) (hm : sx_mok cl_ly M) (hw : WF M) (hR : vu_R M) (hH : M 53 1 = (H : Int)) (hn : M 53 8 = (nc : Int)) (h12 : nc ≤ 12) (ht : M 53 13 = (t : Int)) (hte : t ≤ e) (he : e ≤ 29) (hh : h < H) (h6 : H ≤ 6) : rz_fin (fun r M' => ∃ Y, my_Q M H none Y ∧ ms_F Y M' ∧ sx_mok cl_ly M' ∧ r = some (.int (Int32.ofInt (sx_mf 1 ((ms_T Y nc (e - t + 1) t (Y 53 36, Y 75)).2 h) (M 74 h))))) L xs 201 20 0 [(0, .ref 53), (1, .int (Int32.ofInt (h : Int))), (2, .int (Int32.ofInt (e : Int)))] [] M := by
  refine qs_use (zs := [(h : Int), (e : Int), (H : Int), (t : Int)]) vm1_c hL hm (qs_iw (og_w32 (show -2147483648 ≤ (h : Int) by omega) (show (h : Int) ≤ 2147483647 by omega)) (qs_iw (og_w32 (show -2147483648 ≤ (e : Int) by omega) (show (e : Int) ≤ 2147483647 by omega)) (qs_rd (show (0 : Int) ≤ 1 by decide) hH (show 0 ≤ (H : Int) ∧ (H : Int) ≤ 6 by omega) (qs_rd (show (0 : Int) ≤ 13 by decide) ht (show 0 ≤ (t : Int) ∧ (t : Int) ≤ 29 by omega) (qs_fin rfl))))) (Nat.le_refl _) rfl rfl (qs_c (fun M2 hm2 hc hM => ?_) (qs_c (fun M2 hm2 hc hM => ?_) (qs_c (fun M2 hm2 hc hM => ?_) (qs_c (fun M2 hm2 hc hM => ?_) (qs_c (fun M2 hm2 hc hM => ?_) qs_z)))))
  · exfalso
    have c1 : -2147483648 ≤ (h : Int) ∧ (h : Int) ≤ -1 := hc.1
    omega
  · exfalso
    have c1 : (H : Int) < (h : Int) + 1 := hc.2.1
    omega
  · exfalso
    have c1 : (e : Int) < (t : Int) := hc.2.2.2.2.1
    omega
  · exfalso
    have c1 : 30 ≤ (e : Int) ∧ (e : Int) ≤ 2147483647 := hc.2.1
    omega
  · have f2 : ∀ a, a < 128 → M2 a = M a := hM
    obtain ⟨w2, r2⟩ := wr_same hw hR f2
    have o53 : M2 53 = M 53 := f2 53 (by decide)
    show rz_fin _ L xs 201 20 20 [(0, .ref 53), (1, .int (Int32.ofInt (h : Int))), (2, .int (Int32.ofInt (e : Int)))] [.int (Int32.ofInt (e : Int)), .ref 53] M2
    refine qs_vc (k := 190) (b := 53) (d := 19) (d' := 19) (rest := []) rfl rfl rfl rfl rfl rfl rfl rfl (Nat.le_refl _) rfl (rz_d (by decide) (mt_goto (xs := xs) (H := H) (nc := nc) (t := t) (k := e - t + 1) (e := (e : Int)) hL hm2 (by omega) w2 r2 (by rw [o53]; exact hH) (by rw [o53]; exact hn) (by rw [o53]; exact ht) (by omega))) (fun r9 M3 hr => ?_)
    obtain ⟨rfl, hm3, Y, hY, wY, rY, F3, P3, -⟩ := hr
    have hY := my_tr f2 hY
    have z74 : M3 74 h = M 74 h := by rw [F3.1 74 (by decide) (by decide) (by decide) (by decide) (by decide), hY.2.2.1 74 (by decide) (by decide) (by decide)]
    have w74 : sx_w sx_r32 (M 74 h) := hm 74 _ h _ rfl (by show h < 6; omega) rfl
    have w75 : sx_w sx_r32 ((ms_T Y nc (e - t + 1) t (Y 53 36, Y 75)).2 h) := by rw [← P3.2 h]; exact hm3 75 _ h _ rfl (by show h < 6; omega) rfl
    refine qs_use (zs := [(h : Int), (e : Int), (ms_T Y nc (e - t + 1) t (Y 53 36, Y 75)).2 h, M 74 h]) vm2_c hL hm3 (qs_in (show 0 ≤ (h : Int) ∧ (h : Int) ≤ 5 by omega) (qs_in (show 0 ≤ (e : Int) ∧ (e : Int) ≤ 29 by omega) (qs_rd (show 0 ≤ (h : Int) by omega) (P3.2 h) w75 (qs_rd (show 0 ≤ (h : Int) by omega) z74 w74 (qs_fin rfl))))) (Nat.le_refl _) rfl rfl (qs_c (fun u1 M8 hm8 hc8 hM8 => ?_) qs_z)
    have c1 : u1 = sx_mf 1 ((ms_T Y nc (e - t + 1) t (Y 53 36, Y 75)).2 h) (M 74 h) := hc8.1
    refine ⟨Y, hY, ms_Fr F3 (show ∀ a, a < 128 → M8 a = M3 a from hM8), hm8, ?_⟩
    rw [← c1]
    rfl
theorem fd_mfw (x y : Int) : sx_w sx_r32 (sx_mf 1 x y) := by
  show sx_w sx_r32 (Int32.ofInt x - Int32.ofInt y).toInt
  rw [sx_r32_iff]
  have h1 := Int32.le_toInt (Int32.ofInt x - Int32.ofInt y)
  have h2 := Int32.toInt_lt (Int32.ofInt x - Int32.ofInt y)
  omega
/-- visits of both sides -/
theorem fs_vi (hL : L < 2 ^ 31) (hI : la_I WF bs_cps M) (hS : fs_SS M) (ws : sx_w sx_r32 s) (hd : sx_w sx_r32 d) : fs_P WF L xs 0 66 201 [.ref 8, .int (Int32.ofInt s), .int (Int32.ofInt d)] [.ref 53, .int (Int32.ofInt s), .int (Int32.ofInt d)] (-2147483648, 2147483647) M := by
  obtain ⟨nc, H, hA⟩ := fs_toA hI hS
  obtain ⟨e1, -, -, e4, -, -, -⟩ := bs_eq hI
  have h29 : 0 ≤ M 10 210 ∧ M 10 210 ≤ 29 := hI.2.2.2.1
  have hm := hI.1
  have hw := hI.2.2.1
  have hR : vu_R M := hS.2.2.2.2.2.2.2.2
  obtain ⟨⟨a1, a2, a3, a4, a5⟩, b1, b2, -⟩ := id hA
  by_cases hp : (0 ≤ s ∧ s < M 9 4) ∧ M 10 210 ≤ d ∧ d ≤ 29
  · obtain ⟨⟨p1, p2⟩, p3, p4⟩ := hp
    obtain ⟨e, rfl⟩ := Int.eq_ofNat_of_zero_le (show 0 ≤ d by omega)
    obtain ⟨h, rfl⟩ := Int.eq_ofNat_of_zero_le p1
    obtain ⟨t, et⟩ := Int.eq_ofNat_of_zero_le h29.1
    obtain ⟨F1, v1, M1, f1, X, hX, FX, m1, rv⟩ := rz_d (show 20 ≤ 99 by decide) (vz_x1 (xs := xs) (nc := nc) (H := H) (t := t) (e := e) (h := h) hL hm hw hR (by omega) a1 a3 et (by omega) (by omega) (by omega) a5)
    have x1 := vs_x hX FX
    obtain ⟨w1, r1⟩ := fs_same hw hR x1
    have o53 : M1 53 = M 53 := x1 53 (by decide) (by decide)
    obtain ⟨F2, v2, M2, f2, Y, hY, FY, m2, rv2⟩ := rz_d (show 20 ≤ 99 by decide) (vz_y1 (xs := xs) (nc := nc) (H := H) (t := t) (e := e) (h := h) hL m1 w1 r1 (by rw [o53]; exact a4) (by rw [o53]; exact a2) a3 (by rw [o53, ← e4]; exact et) (by omega) (by omega) (by omega) a5)
    have hf : ∀ a, a < 128 → 53 ≤ a → M1 a = M a := fun a ha g => x1 a ha (by omega)
    have E := (fs_T hA hX hf hY (e - t + 1) t (by omega)).1
    rw [← E.2 h (by omega), hf 74 (by decide) (by decide), ← (b2 h (by omega)).2.2.2] at rv2
    subst rv rv2
    obtain ⟨g1, g2⟩ := fs_q WF_zs hI hS m2 (fs_xy x1 (ms_y hY FY))
    exact ⟨_, M1, M2, fd_mfw _ _, Or.inl ⟨rfl, fd_mfw _ _⟩, ⟨F1, f1⟩, m1, ⟨F2, f2⟩, m2, g1, g2⟩
  · refine fs_mk (dx := 20) (dm := 20) (z := -1) WF_zs hI hS (by decide) (by decide) ⟨by decide, by decide⟩ (Or.inl ⟨rfl, og_w32 (by decide) (by decide)⟩) (qs_w (vz_x0 (xs := xs) hL hm h29 ws hd hp) (fun v N g => ?_))
    obtain ⟨rfl, mN, fN⟩ := g
    refine ⟨rfl, mN, fun a ha _ => fN a ha, qs_w (vz_y0 (xs := xs) hL mN ws hd (fun q => hp ?_)) (fun v N' g => ?_)⟩
    · rw [fN 53 (by decide), ← e4, ← e1] at q
      exact q
    · obtain ⟨rfl, mN', fN'⟩ := g
      exact ⟨rfl, mN', fun a ha _ _ _ _ => fN' a ha, fun j _ => by rw [fN' 53 (by decide)]⟩
end
