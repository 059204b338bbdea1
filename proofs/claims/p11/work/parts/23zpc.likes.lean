/-! likes: the pair. -/
section
variable {L : Nat} {xs : Nat → Int32} {M M' M0 M1 M2 X Y : Nat → Nat → Int} {nc H t k d e h : Nat} {z a b : Int} {T : Int × (Nat → Int)} {Q R : Option Value → (Nat → Nat → Int) → Prop}
def li7_i : List qs_I := [(0, 0, (0, 0), (0, 11)), (0, 0, (0, 0), (0, 29)), (1, 9, (0, 5), (0, 12)), (1, 10, (0, 210), (0, 29)), (2, 11, (9, 0), (0, 0)), (3, 12, (10, 0), (0, 0))]
def li7_T : List og_T := [(some 29, none, [(2, 0, 21)], [(0, 2, 0, 8), (1, 0, 9, 0), (2, 0, 10, 0)], [], [])]
theorem li7_c : qs_chk (fun pc => Nat.beq pc 29) li7_i 0 li7_T 400 400 20 51 0 [(0, 2, 0, 8), (1, 0, 9, 0), (2, 0, 10, 0)] [] = true := by decide +kernel
def lj4_i : List qs_I := [(0, 0, (0, 0), (0, 11)), (0, 0, (0, 0), (0, 29)), (1, 53, (0, 8), (0, 12)), (1, 53, (0, 13), (0, 29)), (2, 11, (9, 0), (0, 0)), (3, 12, (10, 0), (0, 0))]
def lj4_T : List og_T := [(some 23, none, [(0, 10, -1), (2, 0, 53)], [(0, 2, 0, 53), (1, 0, 9, 0), (2, 0, 10, 0)], [], [])]
theorem lj4_c : qs_chk (fun pc => Nat.beq pc 23) lj4_i 0 lj4_T 400 400 20 188 0 [(0, 2, 0, 53), (1, 0, 9, 0), (2, 0, 10, 0)] [] = true := by decide +kernel
theorem li_x1 {c : Nat} (hL : L < 2 ^ 31) (hm : sx_mok cl_ly M) (hw : WF M) (hR : vu_R M) (hn : M 9 5 = (nc : Int)) (h12 : nc ≤ 12) (ht : M 10 210 = (t : Int)) (hc : c < nc) (hte : t ≤ e) (he : e ≤ 29) (hh : M 11 c = (h : Int)) : rz_fin (fun r M' => ∃ X, pb_Q M none X ∧ vs_F X M' ∧ sx_mok cl_ly M' ∧ r = some (.int (Int32.ofInt (vs_lk X e h ((vs_T X nc (e - t) t (X 21 6, X 23)).2 h))))) L xs 51 20 0 [(0, .ref 8), (1, .int (Int32.ofInt (c : Int))), (2, .int (Int32.ofInt (e : Int)))] [] M := by
  have w11 : 0 ≤ M 11 c ∧ M 11 c ≤ 5 := hm 11 _ c _ rfl (by show c < 12; omega) rfl
  refine qs_use (zs := [(c : Int), (e : Int), M 9 5, M 10 210]) li7_c hL hm (qs_in (show 0 ≤ (c : Int) ∧ (c : Int) ≤ 11 by omega) (qs_in (show 0 ≤ (e : Int) ∧ (e : Int) ≤ 29 by omega) (qs_rd (show (0 : Int) ≤ 5 by decide) rfl (show 0 ≤ M 9 5 ∧ M 9 5 ≤ 12 by omega) (qs_rd (show (0 : Int) ≤ 210 by decide) rfl (show 0 ≤ M 10 210 ∧ M 10 210 ≤ 29 by omega) (qs_lt (show (c : Int) < M 9 5 by omega) (qs_ge (show ¬ (e : Int) < M 10 210 by omega) (qs_fin rfl))))))) (Nat.le_refl _) rfl rfl (qs_c (fun M2 hm2 hc2 hM2 => ?_) qs_z)
  have f2 : ∀ a, a < 128 → M2 a = M a := hM2
  show rz_fin _ L xs 51 20 29 [(0, .ref 8), (1, .int (Int32.ofInt (c : Int))), (2, .int (Int32.ofInt (e : Int)))] [.ref 21] M2
  refine qs_vc (k := 54) (b := 21) (d := 19) (d' := 19) (rest := []) rfl rfl rfl rfl rfl rfl rfl rfl (Nat.le_refl _) rfl (rz_d (by decide) (pb_begin (xs := xs) hL hm2)) (fun r9 X hX => ?_)
  have hr : r9 = none := hX.1
  subst hr
  have hX : pb_Q M none X := by
    obtain ⟨-, x0, x1, x2, x3, x4, x5⟩ := hX
    exact ⟨rfl, x0, fun a ha p q => (x1 a ha p q).trans (f2 a ha), fun j p q => by rw [x2 j p q, f2 21 (by decide)], by rw [x3, f2 9 (by decide)], by rw [x4, f2 9 (by decide)], fun h hh => by rw [x5 h hh, f2 12 (by decide)]⟩
  obtain ⟨wX, rX⟩ := pb_keep hw hR hX
  have x9 : X 9 = M 9 := hX.2.2.1 9 (by decide) (by decide) (by decide)
  have x10 : X 10 = M 10 := hX.2.2.1 10 (by decide) (by decide) (by decide)
  have x11 : X 11 = M 11 := hX.2.2.1 11 (by decide) (by decide) (by decide)
  refine qs_use (zs := [(c : Int), (e : Int)]) li2_c hL hX.2.1 (qs_in (show 0 ≤ (c : Int) ∧ (c : Int) ≤ 11 by omega) (qs_in (show 0 ≤ (e : Int) ∧ (e : Int) ≤ 29 by omega) (qs_fin rfl))) (Nat.le_refl _) rfl rfl (qs_c (fun M4 hm4 hc4 hM4 => ?_) qs_z)
  have f4 : ∀ a, a < 128 → M4 a = X a := hM4
  have hX : pb_Q M none M4 := by
    obtain ⟨-, x0, x1, x2, x3, x4, x5⟩ := hX
    exact ⟨rfl, hm4, fun a ha p q => (f4 a ha).trans (x1 a ha p q), fun j p q => by rw [f4 21 (by decide)]; exact x2 j p q, by rw [f4 21 (by decide)]; exact x3, by rw [f4 21 (by decide)]; exact x4, fun h hh => by rw [f4 23 (by decide)]; exact x5 h hh⟩
  obtain ⟨wX, rX⟩ := pb_keep hw hR hX
  show rz_fin _ L xs 51 20 37 [(0, .ref 8), (1, .int (Int32.ofInt (c : Int))), (2, .int (Int32.ofInt (e : Int)))] [.int (Int32.ofInt (e : Int)), .ref 21] M4
  refine qs_vc (k := 55) (b := 21) (d := 19) (d' := 19) (rest := []) rfl rfl rfl rfl rfl rfl rfl rfl (Nat.le_refl _) rfl (rz_d (by decide) (vs_till (xs := xs) (nc := nc) (t := t) (k := e - t) hL hm4 (by omega) wX rX (by rw [f4 9 (by decide), x9]; exact hn) (by rw [f4 10 (by decide), x10]; exact ht) (by omega) (by omega))) (fun r9 M5 hr => ?_)
  obtain ⟨rfl, hm5, F5, P5⟩ := hr
  have z11 : M5 11 = M 11 := by rw [F5.1 11 (by decide) (by decide), f4 11 (by decide), x11]
  refine qs_use (zs := [(c : Int), (e : Int), (h : Int)]) li3_c hL hm5 (qs_in (show 0 ≤ (c : Int) ∧ (c : Int) ≤ 11 by omega) (qs_in (show 0 ≤ (e : Int) ∧ (e : Int) ≤ 29 by omega) (qs_rd (show 0 ≤ (c : Int) by omega) (by rw [z11]; exact hh) (show 0 ≤ (h : Int) ∧ (h : Int) ≤ 5 by omega) (qs_fin rfl)))) (Nat.le_refl _) rfl rfl (qs_c (fun M6 hm6 hc6 hM6 => ?_) qs_z)
  have f6 : ∀ a, a < 128 → M6 a = M5 a := hM6
  have F6 : vs_F M4 M6 := ⟨fun a ha hn => (f6 a ha).trans (F5.1 a ha hn), fun j hj => by rw [f6 21 (by decide)]; exact F5.2 j hj⟩
  have P6 : vs_P (vs_T M4 nc (e - t) t (M4 21 6, M4 23)) M6 := ⟨by rw [f6 21 (by decide)]; exact P5.1, fun h => by rw [f6 23 (by decide)]; exact P5.2 h⟩
  show rz_fin _ L xs 51 20 54 [(0, .ref 8), (1, .int (Int32.ofInt (c : Int))), (2, .int (Int32.ofInt (e : Int)))] [.int (Int32.ofInt (e : Int)), .int (Int32.ofInt (h : Int)), .ref 21] M6
  refine qs_vc (k := 64) (b := 21) (d := 19) (d' := 19) (rest := []) rfl rfl rfl rfl rfl rfl rfl rfl (Nat.le_refl _) rfl (rz_d (by decide) (li_lk (xs := xs) (h := h) (e := e) hL hm6 wX rX F6 P6 (by omega) he)) (fun r9 M7 hr => ?_)
  obtain ⟨rfl, hm7, F7⟩ := hr
  have wv : sx_w sx_r32 (vs_lk M4 e h ((vs_T M4 nc (e - t) t (M4 21 6, M4 23)).2 h)) := by
    have := vq_held_r (if M4 53 33 = 0 then sx_mf 1 (sx_mf 1 (M4 10 (h + 60)) (M4 10 (h + 90))) ((vs_T M4 nc (e - t) t (M4 21 6, M4 23)).2 h) else vt_gv M4 (vq_N (M4 10 (h + 60)) (M4 10 (h + 90)) (M4 10 (e + 150)) (M4 10 (h + 30)) (h : Int) ((vs_T M4 nc (e - t) t (M4 21 6, M4 23)).2 h)) (M4 69 0).toNat 0)
    exact og_w32 (Int.le_trans (by decide) this.1) (Int.le_trans this.2 (by decide))
  refine qs_nl (by show ([0, 1, 2] : List Nat).Nodup; decide) (qs_use (zs := [vs_lk M4 e h ((vs_T M4 nc (e - t) t (M4 21 6, M4 23)).2 h)]) li4_c hL hm7 (qs_iw wv (qs_fin rfl)) (Nat.le_refl _) rfl rfl (qs_c (fun M8 hm8 hc8 hM8 => ?_) qs_z))
  have f8 : ∀ a, a < 128 → M8 a = M7 a := hM8
  exact ⟨M4, hX, ⟨fun a ha hn => (f8 a ha).trans (F7.1 a ha hn), fun j hj => by rw [f8 21 (by decide)]; exact F7.2 j hj⟩, hm8, rfl⟩
theorem li_y1 {c : Nat} (hL : L < 2 ^ 31) (hm : sx_mok cl_ly M) (hw : WF M) (hR : vu_R M) (hH : M 53 1 = (H : Int)) (hn : M 53 8 = (nc : Int)) (h12 : nc ≤ 12) (ht : M 53 13 = (t : Int)) (hc : c < nc) (hte : t ≤ e) (he : e ≤ 29) (hh : M 59 c = (h : Int)) : rz_fin (fun r M' => ∃ Y, my_Q M H none Y ∧ ms_F Y M' ∧ sx_mok cl_ly M' ∧ r = some (.int (Int32.ofInt (ms_lk Y e h ((ms_T Y nc (e - t) t (Y 53 36, Y 75)).2 h))))) L xs 188 20 0 [(0, .ref 53), (1, .int (Int32.ofInt (c : Int))), (2, .int (Int32.ofInt (e : Int)))] [] M := by
  have w59 : 0 ≤ M 59 c ∧ M 59 c ≤ 5 := hm 59 _ c _ rfl (by show c < 12; omega) rfl
  refine qs_use (zs := [(c : Int), (e : Int), M 53 8, M 53 13]) lj4_c hL hm (qs_in (show 0 ≤ (c : Int) ∧ (c : Int) ≤ 11 by omega) (qs_in (show 0 ≤ (e : Int) ∧ (e : Int) ≤ 29 by omega) (qs_rd (show (0 : Int) ≤ 8 by decide) rfl (show 0 ≤ M 53 8 ∧ M 53 8 ≤ 12 by omega) (qs_rd (show (0 : Int) ≤ 13 by decide) rfl (show 0 ≤ M 53 13 ∧ M 53 13 ≤ 29 by omega) (qs_lt (show (c : Int) < M 53 8 by omega) (qs_ge (show ¬ (e : Int) < M 53 13 by omega) (qs_fin rfl))))))) (Nat.le_refl _) rfl rfl (qs_c (fun M2 hm2 hc2 hM2 => ?_) qs_z)
  have f2 : ∀ a, a < 128 → M2 a = M a := hM2
  show rz_fin _ L xs 188 20 23 [(0, .ref 53), (1, .int (Int32.ofInt (c : Int))), (2, .int (Int32.ofInt (e : Int)))] [.int (Int32.ofInt ((e : Int) + -1)), .ref 53] M2
  have w2 : WF M2 ∧ vu_R M2 := by
    refine ⟨WF_zs M M2 (fun k hk => f2 k ?_) hw, vu_M (f2 16 (by decide)) (by rw [f2 14 (by decide)]) (by rw [f2 53 (by decide)]) (f2 67 (by decide)) (f2 68 (by decide)) (f2 69 (by decide)) (f2 70 (by decide)) (f2 71 (by decide)) hR⟩
    simp only [cz_zs, List.mem_cons, List.not_mem_nil, or_false] at hk
    omega
  refine qs_vc (k := 190) (b := 53) (d := 19) (d' := 19) (rest := []) rfl rfl rfl rfl rfl rfl rfl rfl (Nat.le_refl _) rfl (rz_d (by decide) (mt_goto (xs := xs) (H := H) (nc := nc) (t := t) (k := e - t) (e := (e : Int) + -1) hL hm2 (by omega) w2.1 w2.2 (by rw [f2 53 (by decide)]; exact hH) (by rw [f2 53 (by decide)]; exact hn) (by rw [f2 53 (by decide)]; exact ht) (by omega))) (fun r9 M3 hr => ?_)
  obtain ⟨rfl, hm3, Y, hY, wY, rY, F3, P3, -⟩ := hr
  have hY : my_Q M H none Y := by
    obtain ⟨-, y0, y1, y2, y3, y4, y5⟩ := hY
    exact ⟨rfl, y0, fun a ha p q => (y1 a ha p q).trans (f2 a ha), fun j p q => by rw [y2 j p q, f2 53 (by decide)], by rw [y3, f2 53 (by decide)], by rw [y4, f2 53 (by decide)], fun h => by rw [y5 h, f2 74 (by decide), f2 75 (by decide)]⟩
  refine qs_use (zs := [(c : Int), (e : Int)]) lj2_c hL hm3 (qs_in (show 0 ≤ (c : Int) ∧ (c : Int) ≤ 11 by omega) (qs_in (show 0 ≤ (e : Int) ∧ (e : Int) ≤ 29 by omega) (qs_fin rfl))) (Nat.le_refl _) rfl rfl (qs_c (fun M4 hm4 hc4 hM4 => ?_) qs_z)
  have f4 : ∀ a, a < 128 → M4 a = M3 a := hM4
  have F4 : ms_F Y M4 := ⟨fun a ha x1 x2 x3 x4 => (f4 a ha).trans (F3.1 a ha x1 x2 x3 x4), fun j hj => by rw [f4 53 (by decide)]; exact F3.2 j hj⟩
  have P4 : ms_P (ms_T Y nc (e - t) t (Y 53 36, Y 75)) M4 := ⟨by rw [f4 53 (by decide)]; exact P3.1, fun h => by rw [f4 75 (by decide)]; exact P3.2 h⟩
  obtain ⟨w4, r4, X4⟩ := ms_keep wY rY F4
  have e59 : M4 59 c = (h : Int) := by
    rw [F4.1 59 (by decide) (by decide) (by decide) (by decide) (by decide), hY.2.2.1 59 (by decide) (by decide) (by decide)]
    exact hh
  show rz_fin _ L xs 188 20 29 [(0, .ref 53), (1, .int (Int32.ofInt (c : Int))), (2, .int (Int32.ofInt (e : Int)))] [.int (Int32.ofInt (e : Int)), .int (Int32.ofInt (c : Int)), .ref 53] M4
  have hlk := wz_like (xs := xs) (M := M4) (h := h) (d := e) (card := c) hL hm4 w4 r4 (by omega) (by omega) e59 he
  rw [X4, P4.2 h] at hlk
  refine qs_vc (k := 195) (b := 53) (d := 19) (d' := 19) (rest := []) rfl rfl rfl rfl rfl rfl rfl rfl (Nat.le_refl _) rfl (rz_d (by decide) hlk) (fun r9 M5 hr => ?_)
  obtain ⟨rfl, hm5, f5⟩ := hr
  have wv : sx_w sx_r32 (vq_Y Y h e ((ms_T Y nc (e - t) t (Y 53 36, Y 75)).2 h)) := by
    have := vq_held_r (if Y 53 33 = 0 then sx_mf 1 (sx_mf 1 (Y 56 h) (Y 57 h)) ((ms_T Y nc (e - t) t (Y 53 36, Y 75)).2 h) else vt_gv Y (vq_N (Y 56 h) (Y 57 h) (Y 61 e) (Y 55 h) (h : Int) ((ms_T Y nc (e - t) t (Y 53 36, Y 75)).2 h)) (Y 69 0).toNat 0)
    exact og_w32 (Int.le_trans (by decide) this.1) (Int.le_trans this.2 (by decide))
  refine qs_nl (by show ([0, 1, 2] : List Nat).Nodup; decide) (qs_use (zs := [vq_Y Y h e ((ms_T Y nc (e - t) t (Y 53 36, Y 75)).2 h)]) lj3_c hL hm5 (qs_iw wv (qs_fin rfl)) (Nat.le_refl _) rfl rfl (qs_c (fun M6 hm6 hc6 hM6 => ?_) qs_z))
  have f6 : ∀ a, a < 128 → M6 a = M5 a := hM6
  refine ⟨Y, hY, ⟨fun a ha x1 x2 x3 x4 => ?_, fun j hj => ?_⟩, hm6, rfl⟩
  · rw [f6 a ha, f5 a ha x2 x3]
    exact F4.1 a ha x1 x2 x3 x4
  · rw [f6 53 (by decide), f5 53 (by decide) (by decide) (by decide)]
    exact F4.2 j hj
theorem fs_same {M : Nat → Nat → Int} (hw : WF M) (hR : vu_R M) (h : ∀ a, a < 128 → ¬ (19 ≤ a ∧ a ≤ 31) → M' a = M a) : WF M' ∧ vu_R M' := by
  refine ⟨WF_zs M M' (fun k hk => h k ?_ ?_) hw, vu_M (h 16 (by decide) (by decide)) (by rw [h 14 (by decide) (by decide)]) (by rw [h 53 (by decide) (by decide)]) (h 67 (by decide) (by decide)) (h 68 (by decide) (by decide)) (h 69 (by decide) (by decide)) (h 70 (by decide) (by decide)) (h 71 (by decide) (by decide)) hR⟩
  · simp only [cz_zs, List.mem_cons, List.not_mem_nil, or_false] at hk
    omega
  · simp only [cz_zs, List.mem_cons, List.not_mem_nil, or_false] at hk
    omega
/-- likes of both sides -/
theorem li_hp {c d : Int} (hL : L < 2 ^ 31) (hI : la_I WF bs_cps M) (hS : fs_SS M) (hc : sx_w sx_r32 c) (hd : sx_w sx_r32 d) : fs_P WF L xs 0 51 188 [.ref 8, .int (Int32.ofInt c), .int (Int32.ofInt d)] [.ref 53, .int (Int32.ofInt c), .int (Int32.ofInt d)] (-2000000000, 99) M := by
  obtain ⟨nc, H, hA⟩ := fs_toA hI hS
  obtain ⟨-, -, -, e4, -, -, -⟩ := bs_eq hI
  have h29 : 0 ≤ M 10 210 ∧ M 10 210 ≤ 29 := hI.2.2.2.1
  have hm := hI.1
  have hw := hI.2.2.1
  have hR : vu_R M := hS.2.2.2.2.2.2.2.2
  obtain ⟨⟨a1, a2, a3, a4, a5⟩, b1, -⟩ := id hA
  by_cases hp : li_ok M c d
  · obtain ⟨p1, p2, p3, p4⟩ := hp
    obtain ⟨c, rfl⟩ := Int.eq_ofNat_of_zero_le p1
    obtain ⟨e, rfl⟩ := Int.eq_ofNat_of_zero_le (show 0 ≤ d by omega)
    obtain ⟨t, et⟩ := Int.eq_ofNat_of_zero_le h29.1
    obtain ⟨q1, q2, q3, q4⟩ := b1 c (by omega)
    obtain ⟨h, eh⟩ := Int.eq_ofNat_of_zero_le q3
    obtain ⟨F1, v1, M1, f1, X, hX, FX, m1, rv⟩ := rz_d (show 20 ≤ 99 by decide) (li_x1 (xs := xs) (nc := nc) (t := t) (e := e) (c := c) (h := h) hL hm hw hR a1 a3 et (by omega) (by omega) (by omega) eh)
    have x1 := vs_x hX FX
    obtain ⟨w1, r1⟩ := fs_same hw hR x1
    have o53 : M1 53 = M 53 := x1 53 (by decide) (by decide)
    obtain ⟨F2, v2, M2, f2, Y, hY, FY, m2, rv2⟩ := rz_d (show 20 ≤ 99 by decide) (li_y1 (xs := xs) (nc := nc) (H := H) (t := t) (e := e) (c := c) (h := h) hL m1 w1 r1 (by rw [o53]; exact a4) (by rw [o53]; exact a2) a3 (by rw [o53, ← e4]; exact et) (by omega) (by omega) (by omega) (by rw [x1 59 (by decide) (by decide), q2]; exact eh))
    have hf : ∀ a, a < 128 → ¬ (19 ≤ a ∧ a ≤ 23) → M1 a = M a := fun a ha hn => by
      rw [FX.1 a ha hn]
      exact hX.2.2.1 a ha (by omega) (by omega)
    have hf : ∀ a, a < 128 → 53 ≤ a → M1 a = M a := fun a ha h => hf a ha (by omega)
    have E := (fs_T hA hX hf hY (e - t) t (by omega)).1
    have el : ms_lk Y e h ((ms_T Y nc (e - t) t (Y 53 36, Y 75)).2 h) = vs_lk X e h ((vs_T X nc (e - t) t (X 21 6, X 23)).2 h) := by
      rw [fs_lk hA hX hf hY (by omega) (by omega), E.2 h (by omega)]
    rw [el] at rv2
    subst rv rv2
    obtain ⟨g1, g2⟩ := fs_q WF_zs hI hS m2 (fs_xy x1 (ms_y hY FY))
    have wv := vq_held_r (if X 53 33 = 0 then sx_mf 1 (sx_mf 1 (X 10 (h + 60)) (X 10 (h + 90))) ((vs_T X nc (e - t) t (X 21 6, X 23)).2 h) else vt_gv X (vq_N (X 10 (h + 60)) (X 10 (h + 90)) (X 10 (e + 150)) (X 10 (h + 30)) (h : Int) ((vs_T X nc (e - t) t (X 21 6, X 23)).2 h)) (X 69 0).toNat 0)
    exact ⟨_, M1, M2, ⟨Int.le_trans (by decide) wv.1, wv.2⟩, Or.inl ⟨rfl, og_w32 (Int.le_trans (by decide) wv.1) (Int.le_trans wv.2 (by decide))⟩, ⟨F1, f1⟩, m1, ⟨F2, f2⟩, m2, g1, g2⟩
  · refine fs_mk (dx := 20) (dm := 20) (z := -2000000000) WF_zs hI hS (by decide) (by decide) ⟨by decide, by decide⟩ (Or.inl ⟨rfl, og_w32 (by decide) (by decide)⟩) (qs_w (li_x0 (xs := xs) hL hm h29 hc hd hp) (fun v N g => ?_))
    obtain ⟨rfl, mN, fN⟩ := g
    refine ⟨rfl, mN, fun a ha _ => fN a ha, qs_w (li_y0 (xs := xs) hL mN hc hd (fun q => hp ?_)) (fun v N' g => ?_)⟩
    · rw [fN 53 (by decide), ← e4] at q
      unfold li_ok
      rw [a1]
      rw [a2] at q
      exact q
    · obtain ⟨rfl, mN', fN'⟩ := g
      exact ⟨rfl, mN', fun a ha _ _ _ _ => fN' a ha, fun j _ => by rw [fN' 53 (by decide)]⟩
end
