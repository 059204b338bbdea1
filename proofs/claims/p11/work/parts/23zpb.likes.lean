/-! Questions: what they leave as it was; likes. -/
section
variable {L : Nat} {xs : Nat → Int32} {M M' M0 M1 M2 X Y : Nat → Nat → Int} {nc H t k d e : Nat} {z a b c : Int} {T : Int × (Nat → Int)} {Q R : Option Value → (Nat → Nat → Int) → Prop}
def li1_i : List qs_I := [(0, 0, (0, 0), sx_r32), (0, 0, (0, 0), sx_r32), (1, 9, (0, 5), (0, 12)), (1, 10, (0, 210), (0, 29))]
def li1_T : List og_T := [(none, some (0, 0, -2000000000), [], [], [], [(0, (9, 0), (0, 0), -2147483648, -1)]), (none, some (0, 0, -2000000000), [], [], [], [(0, (9, 0), (0, 0), 0, 2147483647), (2, (9, 0), (11, 0), 0, 0)]), (none, some (0, 0, -2000000000), [], [], [], [(0, (9, 0), (0, 0), 0, 11), (0, (10, 0), (0, 0), -2147483648, 28), (0, (11, 0), (0, 0), 1, 12), (1, (9, 0), (11, 0), 0, 0), (1, (10, 0), (12, 0), 0, 0)]), (some 29, none, [(2, 0, 21)], [(0, 2, 0, 8), (1, 0, 9, 0), (2, 0, 10, 0)], [], [(0, (9, 0), (0, 0), 0, 11), (0, (10, 0), (0, 0), 0, 29), (0, (11, 0), (0, 0), 1, 12), (1, (9, 0), (11, 0), 0, 0), (2, (10, 0), (12, 0), 0, 0)]), (none, some (0, 0, -2000000000), [], [], [], [(0, (9, 0), (0, 0), 0, 11), (0, (10, 0), (0, 0), 30, 2147483647), (0, (11, 0), (0, 0), 1, 12), (1, (9, 0), (11, 0), 0, 0), (2, (10, 0), (12, 0), 0, 0)])]
theorem li1_c : qs_chk (fun pc => Nat.beq pc 29) li1_i 0 li1_T 400 400 20 51 0 [(0, 2, 0, 8), (1, 0, 9, 0), (2, 0, 10, 0)] [] = true := by decide +kernel
def li2_i : List qs_I := [(0, 0, (0, 0), (0, 11)), (0, 0, (0, 0), (0, 29))]
def li2_T : List og_T := [(some 37, none, [(0, 10, 0), (2, 0, 21)], [(0, 2, 0, 8), (1, 0, 9, 0), (2, 0, 10, 0)], [], [])]
theorem li2_c : qs_chk (fun pc => Nat.beq pc 37) li2_i 0 li2_T 400 400 20 51 32 [(0, 2, 0, 8), (1, 0, 9, 0), (2, 0, 10, 0)] [] = true := by decide +kernel
def li3_i : List qs_I := [(0, 0, (0, 0), (0, 11)), (0, 0, (0, 0), (0, 29)), (1, 11, (9, 0), (0, 5))]
def li3_T : List og_T := [(some 54, none, [(0, 10, 0), (0, 11, 0), (2, 0, 21)], [(0, 2, 0, 8), (1, 0, 9, 0), (2, 0, 10, 0)], [], [])]
theorem li3_c : qs_chk (fun pc => Nat.beq pc 54) li3_i 0 li3_T 400 400 20 51 40 [(0, 2, 0, 8), (1, 0, 9, 0), (2, 0, 10, 0)] [] = true := by decide +kernel
def li4_i : List qs_I := [(0, 0, (0, 0), sx_r32)]
def li4_T : List og_T := [(none, some (0, 9, 0), [], [], [], [])]
theorem li4_c : qs_chk (fun _ => false) li4_i 0 li4_T 400 400 20 51 57 [] [(0, 9, 0)] = true := by decide +kernel
def lj1_i : List qs_I := [(0, 0, (0, 0), sx_r32), (0, 0, (0, 0), sx_r32), (1, 53, (0, 8), (0, 12)), (1, 53, (0, 13), (0, 29))]
def lj1_T : List og_T := [(none, some (0, 0, -2000000000), [], [], [], [(0, (9, 0), (0, 0), -2147483648, -1)]), (none, some (0, 0, -2000000000), [], [], [], [(0, (9, 0), (0, 0), 0, 2147483647), (1, (11, 0), (9, 0), 1, 0)]), (none, some (0, 0, -2000000000), [], [], [], [(0, (9, 0), (0, 0), 0, 11), (0, (10, 0), (0, 0), -2147483648, 28), (0, (11, 0), (0, 0), 1, 12), (2, (11, 0), (9, 0), 1, 0), (1, (10, 0), (12, 0), 0, 0)]), (none, some (0, 0, -2000000000), [], [], [], [(0, (9, 0), (0, 0), 0, 11), (0, (10, 0), (0, 0), 30, 2147483647), (0, (11, 0), (0, 0), 1, 12), (2, (11, 0), (9, 0), 1, 0), (2, (10, 0), (12, 0), 0, 0)]), (some 23, none, [(0, 10, -1), (2, 0, 53)], [(0, 2, 0, 53), (1, 0, 9, 0), (2, 0, 10, 0)], [], [(0, (9, 0), (0, 0), 0, 11), (0, (10, 0), (0, 0), 0, 29), (0, (11, 0), (0, 0), 1, 12), (2, (11, 0), (9, 0), 1, 0), (2, (10, 0), (12, 0), 0, 0)])]
theorem lj1_c : qs_chk (fun pc => Nat.beq pc 23) lj1_i 0 lj1_T 400 400 20 188 0 [(0, 2, 0, 53), (1, 0, 9, 0), (2, 0, 10, 0)] [] = true := by decide +kernel
def lj2_i : List qs_I := [(0, 0, (0, 0), (0, 11)), (0, 0, (0, 0), (0, 29))]
def lj2_T : List og_T := [(some 29, none, [(0, 10, 0), (0, 9, 0), (2, 0, 53)], [(0, 2, 0, 53), (1, 0, 9, 0), (2, 0, 10, 0)], [], [])]
theorem lj2_c : qs_chk (fun pc => Nat.beq pc 29) lj2_i 0 lj2_T 400 400 20 188 26 [(0, 2, 0, 53), (1, 0, 9, 0), (2, 0, 10, 0)] [] = true := by decide +kernel
def lj3_i : List qs_I := [(0, 0, (0, 0), sx_r32)]
def lj3_T : List og_T := [(none, some (0, 9, 0), [], [], [], [])]
theorem lj3_c : qs_chk (fun _ => false) lj3_i 0 lj3_T 400 400 20 188 32 [] [(0, 9, 0)] = true := by decide +kernel
def li5_i : List qs_I := [(0, 0, (0, 0), (0, 5)), (0, 0, (0, 0), (0, 29)), (1, 23, (9, 0), sx_r32)]
def li5_T : List og_T := [(some 16, none, [(0, 11, 0), (0, 10, 0), (0, 9, 0), (2, 0, 9), (2, 0, 14)], [(0, 2, 0, 21), (1, 0, 9, 0), (2, 0, 10, 0)], [], [])]
theorem li5_c : qs_chk (fun pc => Nat.beq pc 16) li5_i 0 li5_T 400 400 19 64 0 [(0, 2, 0, 21), (1, 0, 9, 0), (2, 0, 10, 0)] [] = true := by decide +kernel
def li6_i : List qs_I := [(0, 0, (0, 0), sx_r32)]
def li6_T : List og_T := [(none, some (0, 9, 0), [], [], [], [])]
theorem li6_c : qs_chk (fun _ => false) li6_i 0 li6_T 400 400 19 64 19 [] [(0, 9, 0)] = true := by decide +kernel
/-- what a question may touch -/
def fs_n (a : Nat) : Prop := ¬ (19 ≤ a ∧ a ≤ 31) ∧ a ≠ 53 ∧ a ≠ 72 ∧ a ≠ 73 ∧ ¬ (75 ≤ a ∧ a ≤ 81)
def fs_m (j : Nat) : Prop := j ≠ 35 ∧ j ≠ 36 ∧ j ≠ 42 ∧ ¬ (45 ≤ j ∧ j ≤ 47)
def fs_F (M M' : Nat → Nat → Int) : Prop := (∀ a, a < 128 → fs_n a → M' a = M a) ∧ ∀ j, fs_m j → M' 53 j = M 53 j
theorem fs_q (hz : ∀ M M' : Nat → Nat → Int, (∀ z ∈ cz_zs, M' z = M z) → WF M → WF M') (hI : la_I WF bs_cps M) (hS : fs_SS M) (hm : sx_mok cl_ly M2) (hF : fs_F M M2) : la_I WF bs_cps M2 ∧ fs_SS M2 := by
  have fc : ∀ u, u < 128 ∧ fs_n u → M2 u = M u := fun u hu => hF.1 u hu.1 hu.2
  refine ⟨⟨hm, fp_JJ M M2 (fun u hu => fc u ?_) (fun p hp => ?_) hI.2.1, hz M M2 (fun u hu => fc u ?_) hI.2.2.1, ?_, fun p hp => ?_⟩, fs_fp M M2 (fun u hu => fc u ?_) (fun p hp => ?_) hS⟩
  · have : ∀ u ∈ [33, 62, 63, 64, 65], u < 128 ∧ fs_n u := by unfold fs_n; decide +kernel
    exact this u hu
  · simp only [List.mem_cons, List.not_mem_nil, or_false] at hp
    rcases hp with rfl | rfl | rfl | rfl
    · show M2 32 1 = M 32 1
      rw [fc 32 (by unfold fs_n; decide)]
    · show M2 32 2 = M 32 2
      rw [fc 32 (by unfold fs_n; decide)]
    · exact hF.2 14 (by unfold fs_m; decide)
    · exact hF.2 15 (by unfold fs_m; decide)
  · have : ∀ u ∈ cz_zs, u < 128 ∧ fs_n u := by unfold fs_n; decide +kernel
    exact this u hu
  · rw [fc 10 (by unfold fs_n; decide)]
    exact hI.2.2.2.1
  · have h9 := hI.2.2.2.2 p hp
    have : ∀ p ∈ bs_cps, p.1.1 < 128 ∧ fs_n p.1.1 ∧ p.2.1.1 = 53 ∧ fs_m p.2.1.2 := by unfold fs_n fs_m; decide +kernel
    obtain ⟨t1, t2, t3, t4⟩ := this p hp
    rw [fc p.1.1 ⟨t1, t2⟩]
    rw [t3] at h9 ⊢
    rw [hF.2 p.2.1.2 t4]
    exact h9
  · have : ∀ u ∈ bs_zc ++ fs_zc, u < 128 ∧ fs_n u := by unfold fs_n; decide +kernel
    exact this u hu
  · have : ∀ p ∈ nm_zp ++ fs_zp, p.1 < 128 ∧ ((p.1 ≠ 53 ∧ fs_n p.1) ∨ (p.1 = 53 ∧ fs_m p.2)) := by unfold fs_n fs_m; decide +kernel
    obtain ⟨t1, t2⟩ := this p hp
    rcases t2 with ⟨t2, t3⟩ | ⟨t2, t3⟩
    · rw [fc p.1 ⟨t1, t3⟩]
    · rw [t2]
      exact hF.2 p.2 t3
theorem fs_toA (hI : la_I WF bs_cps M) (hS : fs_SS M) : ∃ nc H, fs_A M nc H := by
  obtain ⟨e1, e2, -, -, -, -, -⟩ := bs_eq hI
  have hH := cx_fld (c := 9) (k := 4) (lo := 0) (hi := 6) hI.1 (by decide +kernel)
  have hC := cx_fld (c := 9) (k := 5) (lo := 0) (hi := 12) hI.1 (by decide +kernel)
  obtain ⟨H, eH⟩ := Int.eq_ofNat_of_zero_le hH.1
  obtain ⟨nc, en⟩ := Int.eq_ofNat_of_zero_le hC.1
  obtain ⟨⟨-, ⟨n1, n2, n3⟩, -⟩, ⟨s1, s2, s3, -⟩, o, -⟩ := hS
  refine ⟨nc, H, ⟨en, by rw [← e2]; exact en, by omega, by rw [← e1]; exact eH, by omega⟩, fun c hc => ?_, fun h hh => ⟨?_, ?_, ?_, s3 h hh⟩, fun d hd => ?_, s1, s2⟩
  · obtain ⟨o1, o2, o3⟩ := o c (by omega)
    refine ⟨?_, o1, o2, by omega⟩
    rw [show c + 180 = 180 + c by omega]
    exact (n3 c (by omega) (by omega)).symm
  · rw [show h + 60 = 30 * 2 + h by omega]
    exact (n1 2 h (by decide) hh).symm
  · rw [show h + 90 = 30 * 3 + h by omega]
    exact (n1 3 h (by decide) hh).symm
  · rw [show h + 30 = 30 * 1 + h by omega]
    exact (n1 1 h (by decide) hh).symm
  · rw [show d + 150 = 150 + d by omega]
    exact (n2 d hd).symm
/-- a pair of calls: the same answer, and all that is held alike stays so -/
def fs_P (WF : (Nat → Nat → Int) → Prop) (L : Nat) (xs : Nat → Int32) (kd kx km : Nat) (ax am : List Value) (r : Int × Int) (M : Nat → Nat → Int) : Prop := ∃ z M1 M2, sx_w r z ∧ ((kd = 0 ∧ sx_w sx_r32 z) ∨ (kd = 1 ∧ sx_w sx_r64 z)) ∧ lb_run L xs kx ax M (lb_val kd z) M1 ∧ sx_mok cl_ly M1 ∧ lb_run L xs km am M1 (lb_val kd z) M2 ∧ sx_mok cl_ly M2 ∧ la_I WF bs_cps M2 ∧ fs_SS M2
/-- what the class's questions leave -/
def fs_x (M M' : Nat → Nat → Int) : Prop := ∀ a, a < 128 → ¬ (19 ≤ a ∧ a ≤ 31) → M' a = M a
def fs_y (M M' : Nat → Nat → Int) : Prop := (∀ a, a < 128 → a ≠ 53 → a ≠ 72 → a ≠ 73 → ¬ (75 ≤ a ∧ a ≤ 81) → M' a = M a) ∧ ∀ j, fs_m j → M' 53 j = M 53 j
theorem fs_xy (h1 : fs_x M M1) (h2 : fs_y M1 M2) : fs_F M M2 := by
  refine ⟨fun a ha h => ?_, fun j hj => ?_⟩
  · unfold fs_n at h
    rw [h2.1 a ha (by omega) (by omega) (by omega) (by omega)]
    exact h1 a ha (by omega)
  · rw [h2.2 j hj, h1 53 (by decide) (by decide)]
theorem fs_mk {kd kx km dx dm : Nat} {ax am : List Value} {r : Int × Int} (hz : ∀ M M' : Nat → Nat → Int, (∀ z ∈ cz_zs, M' z = M z) → WF M → WF M') (hI : la_I WF bs_cps M) (hS : fs_SS M) (hdx : dx ≤ 99) (hdm : dm ≤ 99) (hr : sx_w r z) (hk : (kd = 0 ∧ sx_w sx_r32 z) ∨ (kd = 1 ∧ sx_w sx_r64 z)) (h1 : rz_fin (fun v N => v = some (lb_val kd z) ∧ sx_mok cl_ly N ∧ fs_x M N ∧ rz_fin (fun v' N' => v' = some (lb_val kd z) ∧ sx_mok cl_ly N' ∧ fs_y N N') L xs km dm 0 (lv_args 0 am) [] N) L xs kx dx 0 (lv_args 0 ax) [] M) : fs_P WF L xs kd kx km ax am r M := by
  obtain ⟨F1, v1, M1, f1, rfl, m1, x1, h2⟩ := rz_d hdx h1
  obtain ⟨F2, v2, M2, f2, rfl, m2, y2⟩ := rz_d hdm h2
  obtain ⟨g1, g2⟩ := fs_q hz hI hS m2 (fs_xy x1 y2)
  exact ⟨z, M1, M2, hr, hk, ⟨F1, f1⟩, m1, ⟨F2, f2⟩, m2, g1, g2⟩
/-- days until a day, from the beginning -/
theorem vs_till (hL : L < 2 ^ 31) (hm : sx_mok cl_ly X) (he : e ≤ 30) (hw : WF X) (hR : vu_R X) (hnc : X 9 5 = (nc : Int)) (ht : X 10 210 = (t : Int)) (h29 : t ≤ 29) (hk : t + k = e) : rz_fin (fun r M' => r = none ∧ sx_mok cl_ly M' ∧ vs_F X M' ∧ vs_P (vs_T X nc k t (X 21 6, X 23)) M') L xs 55 10 0 [(0, .ref 21), (1, .int (Int32.ofInt (e : Int)))] [] X := by
  refine qs_use (zs := [(e : Int), (t : Int)]) vu1_c hL hm (qs_in (show 0 ≤ (e : Int) ∧ (e : Int) ≤ 30 by omega) (qs_rd (show (0 : Int) ≤ 210 by decide) ht (show 0 ≤ (t : Int) ∧ (t : Int) ≤ 29 by omega) (qs_fin rfl))) (Nat.le_refl _) rfl rfl (qs_c (fun M2 hm2 hc2 hM2 => ?_) qs_z)
  have f2 : ∀ a, a < 128 → M2 a = X a := hM2
  exact vs_until (xs := xs) hL he hw hR hnc k t (X 21 6, X 23) M2 (Or.inl hk) hm2 ⟨fun a ha _ => f2 a ha, fun j _ => by rw [f2 21 (by decide)]⟩ ⟨by rw [f2 21 (by decide)], fun h => by rw [f2 23 (by decide)]⟩
theorem pb_keep (hw : WF M) (hR : vu_R M) (h : pb_Q M none X) : WF X ∧ vu_R X := by
  obtain ⟨-, -, e, -⟩ := h
  refine ⟨WF_zs M X (fun k hk => ?_) hw, vu_M (e 16 (by decide) (by decide) (by decide)) (by rw [e 14 (by decide) (by decide) (by decide)]) (by rw [e 53 (by decide) (by decide) (by decide)]) (e 67 (by decide) (by decide) (by decide)) (e 68 (by decide) (by decide) (by decide)) (e 69 (by decide) (by decide) (by decide)) (e 70 (by decide) (by decide) (by decide)) (e 71 (by decide) (by decide) (by decide)) hR⟩
  simp only [cz_zs, List.mem_cons, List.not_mem_nil, or_false] at hk
  exact e k (by omega) (by omega) (by omega)
/-- thinking from M on: the class began at X -/
theorem vs_x (hX : pb_Q M none X) (hF : vs_F X M') : fs_x M M' := fun a ha hn => by
  by_cases h : 19 ≤ a ∧ a ≤ 23
  · omega
  · rw [hF.1 a ha h]
    exact hX.2.2.1 a ha (by omega) (by omega)
theorem ms_y (hY : my_Q M H none Y) (hF : ms_F Y M') : fs_y M M' := by
  refine ⟨fun a ha x1 x2 x3 x4 => ?_, fun j hj => ?_⟩
  · rw [hF.1 a ha x1 x2 x3 (by omega)]
    exact hY.2.2.1 a ha x1 (by omega)
  · unfold fs_m at hj
    rw [hF.2 j (by omega)]
    exact hY.2.2.2.1 j (by omega) (by omega)
-- likes
def li_ok (M : Nat → Nat → Int) (c d : Int) : Prop := 0 ≤ c ∧ c < M 9 5 ∧ M 10 210 ≤ d ∧ d ≤ 29
theorem li_lk {h : Nat} (hL : L < 2 ^ 31) (hm : sx_mok cl_ly M') (hw : WF X) (hR : vu_R X) (hF : vs_F X M') (hP : vs_P T M') (hh : h ≤ 5) (he : e ≤ 29) : rz_fin (fun r M2 => r = some (.int (Int32.ofInt (vs_lk X e h (T.2 h)))) ∧ sx_mok cl_ly M2 ∧ vs_F X M2) L xs 64 19 0 [(0, .ref 21), (1, .int (Int32.ofInt (h : Int))), (2, .int (Int32.ofInt (e : Int)))] [] M' := by
  have w23 : sx_w sx_r32 (T.2 h) := by rw [← hP.2 h]; exact hm 23 _ h _ rfl (by show h < 6; omega) rfl
  refine qs_use (zs := [(h : Int), (e : Int), T.2 h]) li5_c hL hm (qs_in (show 0 ≤ (h : Int) ∧ (h : Int) ≤ 5 by omega) (qs_in (show 0 ≤ (e : Int) ∧ (e : Int) ≤ 29 by omega) (qs_rd (show 0 ≤ (h : Int) by omega) (hP.2 h) w23 (qs_fin rfl)))) (Nat.le_refl _) rfl rfl (qs_c (fun M2 hm2 hc2 hM2 => ?_) qs_z)
  have f2 : ∀ a, a < 128 → M2 a = M' a := hM2
  have F2 : vs_F X M2 := ⟨fun a ha hn => (f2 a ha).trans (hF.1 a ha hn), fun j hj => by rw [f2 21 (by decide)]; exact hF.2 j hj⟩
  obtain ⟨w2, r2, X2⟩ := vs_keep hw hR F2
  have hlk := wy_like (xs := xs) (M := M2) (h := h) (d := e) (b := T.2 h) hL hm2 w2 r2 hh he w23
  rw [X2] at hlk
  show rz_fin _ L xs 64 19 16 [(0, .ref 21), (1, .int (Int32.ofInt (h : Int))), (2, .int (Int32.ofInt (e : Int)))] [.int (Int32.ofInt (T.2 h)), .int (Int32.ofInt (e : Int)), .int (Int32.ofInt (h : Int)), .ref 9, .ref 14] M2
  refine qs_vc (k := 59) (b := 14) (d := 18) (d' := 18) (rest := []) rfl rfl rfl rfl rfl rfl rfl rfl (Nat.le_refl _) rfl (rz_d (by decide) hlk) (fun r9 M3 hr => ?_)
  obtain ⟨rfl, hm3, f3⟩ := hr
  have wv : sx_w sx_r32 (vq_X X h e (T.2 h)) := og_w32 (by have := (vq_held_r (if X 53 33 = 0 then sx_mf 1 (sx_mf 1 (X 10 (h + 60)) (X 10 (h + 90))) (T.2 h) else vt_gv X (vq_N (X 10 (h + 60)) (X 10 (h + 90)) (X 10 (e + 150)) (X 10 (h + 30)) (h : Int) (T.2 h)) (X 69 0).toNat 0)).1; unfold vq_X vq_like; omega) (by have := (vq_held_r (if X 53 33 = 0 then sx_mf 1 (sx_mf 1 (X 10 (h + 60)) (X 10 (h + 90))) (T.2 h) else vt_gv X (vq_N (X 10 (h + 60)) (X 10 (h + 90)) (X 10 (e + 150)) (X 10 (h + 30)) (h : Int) (T.2 h)) (X 69 0).toNat 0)).2; unfold vq_X vq_like; omega)
  refine qs_nl (by show ([0, 1, 2] : List Nat).Nodup; decide) (qs_use (zs := [vq_X X h e (T.2 h)]) li6_c hL hm3 (qs_iw wv (qs_fin rfl)) (Nat.le_refl _) rfl rfl (qs_c (fun M4 hm4 hc4 hM4 => ?_) qs_z))
  have f4 : ∀ a, a < 128 → M4 a = M3 a := hM4
  refine ⟨rfl, hm4, ⟨fun a ha hn => ?_, fun j hj => ?_⟩⟩
  · rw [f4 a ha, f3 a ha (by omega) (by omega)]
    exact F2.1 a ha hn
  · rw [f4 21 (by decide), f3 21 (by decide) (by decide) (by decide)]
    exact F2.2 j hj
/-- the class: there is no such card, or the day is gone -/
theorem li_x0 (hL : L < 2 ^ 31) (hm : sx_mok cl_ly M) (h29 : sx_w (0, 29) (M 10 210)) (wc : sx_w sx_r32 c) (wd : sx_w sx_r32 b) (hp : ¬ li_ok M c b) : rz_fin (fun r M' => r = some (.int (Int32.ofInt (-2000000000))) ∧ sx_mok cl_ly M' ∧ ∀ a, a < 128 → M' a = M a) L xs 51 20 0 [(0, .ref 8), (1, .int (Int32.ofInt c)), (2, .int (Int32.ofInt b))] [] M := by
  have hC := cx_fld (c := 9) (k := 5) (lo := 0) (hi := 12) hm (by decide +kernel)
  unfold li_ok at hp
  refine qs_use (zs := [c, b, M 9 5, M 10 210]) li1_c hL hm (qs_iw wc (qs_iw wd (qs_rd (show (0 : Int) ≤ 5 by decide) rfl hC (qs_rd (show (0 : Int) ≤ 210 by decide) rfl h29 (qs_fin rfl))))) (Nat.le_refl _) rfl rfl (qs_c (fun M2 hm2 hc hM => ?_) (qs_c (fun M2 hm2 hc hM => ?_) (qs_c (fun M2 hm2 hc hM => ?_) (qs_c (fun M2 hm2 hc hM => ?_) (qs_c (fun M2 hm2 hc hM => ?_) qs_z)))))
  · exact ⟨rfl, hm2, hM⟩
  · exact ⟨rfl, hm2, hM⟩
  · exact ⟨rfl, hm2, hM⟩
  · exfalso
    obtain ⟨c1, c2, c3, c4, c5, -⟩ := hc
    have c1 : 0 ≤ c ∧ c ≤ 11 := c1
    have c2 : 0 ≤ b ∧ b ≤ 29 := c2
    have c4 : c < M 9 5 := c4
    have c5 : ¬ b < M 10 210 := c5
    exact hp ⟨c1.1, c4, by omega, c2.2⟩
  · exact ⟨rfl, hm2, hM⟩
theorem li_y0 (hL : L < 2 ^ 31) (hm : sx_mok cl_ly M) (wc : sx_w sx_r32 c) (wd : sx_w sx_r32 b) (hp : ¬ (0 ≤ c ∧ c < M 53 8 ∧ M 53 13 ≤ b ∧ b ≤ 29)) : rz_fin (fun r M' => r = some (.int (Int32.ofInt (-2000000000))) ∧ sx_mok cl_ly M' ∧ ∀ a, a < 128 → M' a = M a) L xs 188 20 0 [(0, .ref 53), (1, .int (Int32.ofInt c)), (2, .int (Int32.ofInt b))] [] M := by
  have hC := cx_fld (c := 53) (k := 8) (lo := 0) (hi := 12) hm (by decide +kernel)
  have hT := cx_fld (c := 53) (k := 13) (lo := 0) (hi := 29) hm (by decide +kernel)
  refine qs_use (zs := [c, b, M 53 8, M 53 13]) lj1_c hL hm (qs_iw wc (qs_iw wd (qs_rd (show (0 : Int) ≤ 8 by decide) rfl hC (qs_rd (show (0 : Int) ≤ 13 by decide) rfl hT (qs_fin rfl))))) (Nat.le_refl _) rfl rfl (qs_c (fun M2 hm2 hc hM => ?_) (qs_c (fun M2 hm2 hc hM => ?_) (qs_c (fun M2 hm2 hc hM => ?_) (qs_c (fun M2 hm2 hc hM => ?_) (qs_c (fun M2 hm2 hc hM => ?_) qs_z)))))
  · exact ⟨rfl, hm2, hM⟩
  · exact ⟨rfl, hm2, hM⟩
  · exact ⟨rfl, hm2, hM⟩
  · exact ⟨rfl, hm2, hM⟩
  · exfalso
    obtain ⟨c1, c2, c3, c4, c5, -⟩ := hc
    have c1 : 0 ≤ c ∧ c ≤ 11 := c1
    have c2 : 0 ≤ b ∧ b ≤ 29 := c2
    have c4 : ¬ M 53 8 < c + 1 := c4
    have c5 : ¬ b < M 53 13 := c5
    exact hp ⟨c1.1, by omega, by omega, c2.2⟩
end
