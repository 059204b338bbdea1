/-! The class's text: brackets, conditions, lines, operators; any sign. -/
section
variable {L : Nat} {xs : Nat → Int32} {M M' M0 M1 M2 : Nat → Nat → Int} {ρ ρ' : Nat → Int} {t : sx_S} {D P : List Int} {o b g n j i z : Int} {due : Bool} {Q : Option Value → (Nat → Nat → Int) → Prop}
/-- the start without a sign -/
theorem yt_sat0 (hL : L < 2 ^ 31) (hW : yh_W i (D, P, o, b, g, n, j, due) M) (hi : i ≤ 120) : ∃ ρ : Nat → Int, sx_sat cl_ly (0, -100) xs L M ρ M (yt_t (0, 0) (0, 120) (0, 4) sx_r32 (0, 1)) ∧ (yt_t (0, 0) (0, 120) (0, 4) sx_r32 (0, 1)).1 = 18 ∧ ρ 9 = 0 ∧ ρ 10 = M 14 8 ∧ ρ 11 = M 14 9 ∧ ρ 12 = M 14 10 ∧ ρ 13 = M 14 11 ∧ ρ 14 = M 14 12 ∧ ρ 15 = M 14 13 ∧ ρ 16 = M 14 14 ∧ ρ 17 = M 14 15 := by
  obtain ⟨b1, b2, b3, b4, b5, b6, b7, b8, b9, b10⟩ := yh_bd hW hi
  exact yt_sat (z := 0) (s := (0, 0)) (w := (0, 120)) (gg := (0, 4)) (nn := sx_r32) (d := (0, 1)) hL hW hi ⟨by decide, by decide⟩ sx_w0 b2 b5 (yw_13 hW.1) b7
-- closeBracket
noncomputable def yc_T1 : List og_T := [(none, some (0, 0, 0), [], [], [], [og_b 13 0 0]), (some 11, none, ts_2, tl_0, [], [og_b 13 1 120])]
theorem yc_c1 : gs_chk (fun pc => Nat.beq pc 11) (fun u => yc_T1.any (og_chk (yt_t (0, 0) (0, 120) (0, 4) sx_r32 (0, 1)) u)) 300 300 10 44 0 tl_0 [] (yt_t (0, 0) (0, 120) (0, 4) sx_r32 (0, 1)) = true := by decide +kernel
def yc_f : List ct_G := [(14, 9, (1, 120)), (14, 10, (-120, 120)), (14, 11, (1, 120))]
def yc_T2 : List og_T := [(some 45, none, [(2, 0, 14)], [], [(14, (0, 10), (10, -1)), (14, (0, 11), (11, -1)), (14, (0, 9), (9, -1))], [])]
theorem yc_c2 : gs_chk (fun pc => Nat.beq pc 45) (fun u => yc_T2.any (og_chk (og_t [] yc_f) u)) 300 300 10 44 14 tl_0 [] (og_t [] yc_f) = true := by decide +kernel
theorem yq_call (hL : L < 2 ^ 31) {k pc ix : Nat} {lv : sm_V} {M1 : Nat → Nat → Int} (hf : (sm_MT k).2.2.2.2.2 pc = some (.invokevirtual ix, 3)) (hc : sx_call cl_ly (sm_LK (sm_MT k).1) (fun k => (sm_MT k).2.2.2.1) (.invokevirtual ix) [(0, 1, 0), (2, 0, 14)] = some (45, [(2, 0, 14), (0, 1, 0)], [])) (hi : i ≤ 120) (hz : 1 ≤ z ∧ z ≤ 5) (hW : yh_W i (D, P, o, b, g, n, j, due) M1) {dd : Nat} (hdd : 5 ≤ dd) (next : ∀ M', yh_f M1 M' → yh_W i (yk_sd z D P, yk_sp z P, o, b, g, n, j, due) M' → rz_fin Q L xs k (dd + 1) (pc + 3) lv [] M') : rz_fin Q L xs k (dd + 1) pc lv [.int (Int32.ofInt z), .ref 14] M1 :=
  tk_go1 (d := 5) (d' := dd) hf hc (Nat.le_of_ble_eq_true rfl) (og_w32 (by omega) (by omega)) hdd (ys_all hL hi hz _ D P M1 rfl hW) (fun r M2 hR => by
    obtain ⟨rfl, h1, h2⟩ := hR
    exact next M2 h1 h2)
theorem yc_all (hL : L < 2 ^ 31) (hi : i ≤ 119) (hf : yh_f M0 M) (hW : yh_W i (D, P, o, b, 0, n, j, false) M) : rz_fin (yh_Q (i + 1) M0 (yk_close D P o b n j)) L xs 44 10 0 [(0, .ref 14)] [] M := by
  obtain ⟨w1, w2, w3, w4, w5⟩ := id hW
  obtain ⟨e1, e2, e3, e4, e5, e6, e7, e8⟩ := yh_eq w4
  obtain ⟨ρ, s, n1, r9, r10, r11, r12, r13, -⟩ := yt_sat0 (xs := xs) hL hW (by omega)
  refine og_use (Ts := yc_T1) (lv := tl_0) (s := []) yc_c1 (by decide +kernel) s (tl_okl0 (sx_ck2 s _)) (fun v hv => by cases hv) (Nat.le_refl _) rfl rfl (fun T hT ρ' M' x h0 hm' hc hM => ?_)
  rw [n1] at x
  have q13 := og_v x (show 13 < 18 by decide) r13
  simp only [yc_T1, List.mem_cons, List.not_mem_nil, or_false] at hT
  rcases hT with rfl | rfl
  · obtain ⟨⟨c1, c2⟩, -⟩ := hc
    have c1 : 0 ≤ sx_val ρ' (13, 0) := c1
    have c2 : sx_val ρ' (13, 0) ≤ 0 := c2
    rw [og_v0 q13, e4] at c1 c2
    exact yq_0 h0 rfl hm' (yh_f_on hf hM) (by unfold yk_close; rw [if_pos (by omega)])
  · obtain ⟨⟨c1, c2⟩, -⟩ := hc
    have c1 : 1 ≤ sx_val ρ' (13, 0) := c1
    rw [og_v0 q13, e4] at c1
    have eo : yk_close D P o b n j = some (yk_fd (yk_sd 1 D P) (yk_sp 1 P).tail, yk_fp (yk_sp 1 P).tail, yk_fo (yk_sp 1 P).tail (o - 1), b - 1, 0, n, j, false) := by
      unfold yk_close; rw [if_neg (by omega)]
    have hW1 := yh_W_on hW hm' hM
    show rz_fin _ L xs 44 10 11 (sx_cl1 ρ' tl_0) (sx_cs1 ρ' ts_2) M'
    rw [ts_2e h0]
    refine yq_call hL tk_f44a rfl (by omega) ⟨by decide, by decide⟩ hW1 (dd := 9) (by decide) (fun M2 hf2 hW2 => ?_)
    obtain ⟨b1, b2, b3, b4, b5, b6, b7, b8, b9, b10⟩ := yh_bd hW2 (by omega)
    obtain ⟨u1, u2, u3, u4, u5⟩ := id hW2
    obtain ⟨g1, g2, g3, g4, g5, g6, g7, g8⟩ := yh_eq u4
    have p1 : b ≤ yk_cp yk_p1 (yk_sp 1 P) := u5.2.2.2.2.1
    have p2 := (yk_cp_r yk_p1 (yk_sp 1 P)).2
    have h9 : 1 ≤ M2 14 9 := by omega
    obtain ⟨ρ2, s2, n2, -, k2⟩ := og_sat (xs := xs) (gs := []) (zs := []) (fs := yc_f) hL u1 trivial (fun q hq => by
      simp only [yc_f, List.mem_cons, List.not_mem_nil, or_false] at hq
      rcases hq with rfl | rfl | rfl
      · exact og_f u1 rfl (show cv_ly cl_ly (14, 9, sx_r32) = true by decide +kernel) ⟨h9, b2.2⟩
      · exact og_f u1 rfl (show cv_ly cl_ly (14, 10, sx_r32) = true by decide +kernel) b3
      · exact og_f u1 rfl (show cv_ly cl_ly (14, 11, sx_r32) = true by decide +kernel) ⟨by show (1 : Int) ≤ M2 14 11; omega, b4.2⟩)
    have r9 : ρ2 9 = M2 14 9 := k2 0 _ rfl
    have r10 : ρ2 10 = M2 14 10 := k2 1 _ rfl
    have r11 : ρ2 11 = M2 14 11 := k2 2 _ rfl
    refine og_use (Ts := yc_T2) (lv := tl_0) (s := []) yc_c2 (by decide +kernel) s2 (tl_okl0 (sx_ck2 s2 _)) (fun v hv => by cases hv) (Nat.le_refl _) rfl rfl (fun T hT ρ3 M3 x3 h03 hm3 hc3 hM3 => ?_)
    have n2 : (og_t [] yc_f).1 = 12 := n2
    rw [n2] at x3
    have q9 := og_v x3 (show 9 < 12 by decide) r9
    have q10 := og_v x3 (show 10 < 12 by decide) r10
    have q11 := og_v x3 (show 11 < 12 by decide) r11
    rw [List.mem_singleton.mp hT] at hM3 ⊢
    have hM3 : ∀ a, a < 128 → M3 a = sx_up (sx_up (sx_up M2 14 (sx_val ρ3 (0, ((9 : Nat) : Int))).toNat (sx_val ρ3 (9, -1))) 14 (sx_val ρ3 (0, ((11 : Nat) : Int))).toNat (sx_val ρ3 (11, -1))) 14 (sx_val ρ3 (0, ((10 : Nat) : Int))).toNat (sx_val ρ3 (10, -1)) a := hM3
    rw [yw_n h03, yw_n h03, yw_n h03, og_vv (c := -1) q9, og_vv (c := -1) q10, og_vv (c := -1) q11] at hM3
    have h14 : ∀ k, M3 14 k = if k = 10 then M2 14 10 + -1 else if k = 11 then M2 14 11 + -1 else if k = 9 then M2 14 9 + -1 else M2 14 k := fun k => by
      rw [hM3 14 (by decide)]; simp [sx_up]
    have hoth : ∀ a, a < 128 → a ≠ 14 → M3 a = M2 a := fun a ha g => by rw [hM3 a ha, sh_une g, sh_une g, sh_une g]
    have f9 : M3 14 9 = M2 14 9 - 1 := h14 9
    have f10 : M3 14 10 = M2 14 10 - 1 := h14 10
    have f11 : M3 14 11 = M2 14 11 - 1 := h14 11
    have f : ∀ k, k ≠ 9 → k ≠ 10 → k ≠ 11 → M3 14 k = M2 14 k := fun k a c d => by rw [h14, if_neg c, if_neg d, if_neg a]
    have eP := yh_Pt (f := M2 18) (g := M3 18) h9 f9 (fun k _ => by rw [hoth 18 (by decide) (by decide)])
    rw [g2] at eP
    have hW3 : yh_W (i + 1) (yk_sd 1 D P, (yk_sp 1 P).tail, o - 1, b - 1, 0, n, j, false) M3 := by
      refine ⟨hm3, by rw [f 8 (by decide) (by decide) (by decide)]; exact u2, by omega, yh_mk ?_ ?_ ?_ ?_ ?_ ?_ ?_ ?_, yk_tail_inv u5 c1 rfl⟩
      · rw [f 8 (by decide) (by decide) (by decide), hoth 17 (by decide) (by decide)]; exact g1
      · rw [eP]; rfl
      · rw [f10, g3]
      · rw [f11, g4]
      · rw [f 12 (by decide) (by decide) (by decide)]; exact g5
      · rw [f 13 (by decide) (by decide) (by decide)]; exact g6
      · rw [f 14 (by decide) (by decide) (by decide)]; exact g7
      · rw [f 15 (by decide) (by decide) (by decide)]; exact g8
    have hfr := yh_f_tr (yh_f_tr (yh_f_on hf hM) hf2) (⟨fun a ha a1 _ _ => hoth a ha a1, fun k hk => f k (by omega) (by omega) (by omega)⟩ : yh_f M2 M3)
    exact tk_go0 (d := 5) (d' := 9) tk_f44b rfl (Nat.le_of_ble_eq_true rfl) (by decide) (ye_end hL (by omega) hW3) (fun r M4 hR => by
      obtain ⟨rfl, hR1, hR2⟩ := hR
      exact tk_one rfl rfl rfl ⟨1, rfl, hR2.1, yh_f_tr hfr hR1, Or.inl ⟨rfl, _, eo, hR2⟩⟩)
-- condition
noncomputable def yn_T1 : List og_T := [(none, some (0, 0, 0), [], [], [], [og_b 13 1 120]), (none, some (0, 0, 0), [], [], [], [og_b 13 0 0, og_b 16 0 255]), (some 19, none, ts_2, tl_0, [], [og_b 13 0 0, og_b 16 (-1) (-1)])]
theorem yn_c1 : gs_chk (fun pc => Nat.beq pc 19) (fun u => yn_T1.any (og_chk (yt_t (0, 0) (0, 120) (0, 4) sx_r32 (0, 1)) u)) 300 300 10 47 0 tl_0 [] (yt_t (0, 0) (0, 120) (0, 4) sx_r32 (0, 1)) = true := by decide +kernel
def yn_T2 : List og_T := [(none, some (0, 0, 1), [], [], [(14, (0, 15), (0, 1)), (14, (0, 8), (10, 2)), (17, (10, 1), (0, 0)), (14, (0, 14), (10, 1)), (14, (0, 8), (10, 1)), (17, (10, 0), (0, -63))], [])]
theorem yn_c2 : gs_chk (fun _ => false) (fun u => yn_T2.any (og_chk (yt_t (0, 0) (0, 120) (0, 4) sx_r32 (0, 0)) u)) 300 300 10 47 22 tl_0 [] (yt_t (0, 0) (0, 120) (0, 4) sx_r32 (0, 0)) = true := by decide +kernel
theorem yn_all (hL : L < 2 ^ 31) (hi : i ≤ 119) (hf : yh_f M0 M) (hW : yh_W i (D, P, o, b, 0, n, j, false) M) : rz_fin (yh_Q (i + 1) M0 (yk_cond D P o b n j)) L xs 47 10 0 [(0, .ref 14)] [] M := by
  obtain ⟨w1, w2, w3, w4, w5⟩ := id hW
  obtain ⟨e1, e2, e3, e4, e5, e6, e7, e8⟩ := yh_eq w4
  obtain ⟨ρ, s, n1, r9, r10, r11, r12, r13, r14, r15, r16, r17⟩ := yt_sat0 (xs := xs) hL hW (by omega)
  refine og_use (Ts := yn_T1) (lv := tl_0) (s := []) yn_c1 (by decide +kernel) s (tl_okl0 (sx_ck2 s _)) (fun v hv => by cases hv) (Nat.le_refl _) rfl rfl (fun T hT ρ' M' x h0 hm' hc hM => ?_)
  rw [n1] at x
  have q13 := og_v x (show 13 < 18 by decide) r13
  have q16 := og_v x (show 16 < 18 by decide) r16
  simp only [yn_T1, List.mem_cons, List.not_mem_nil, or_false] at hT
  rcases hT with rfl | rfl | rfl
  · obtain ⟨⟨c1, c2⟩, -⟩ := hc
    have c1 : 1 ≤ sx_val ρ' (13, 0) := c1
    rw [og_v0 q13, e4] at c1
    exact yq_0 h0 rfl hm' (yh_f_on hf hM) (by unfold yk_cond; rw [if_pos (Or.inl (by omega))])
  · obtain ⟨-, ⟨c1, c2⟩, -⟩ := hc
    have c1 : 0 ≤ sx_val ρ' (16, 0) := c1
    rw [og_v0 q16, e7] at c1
    exact yq_0 h0 rfl hm' (yh_f_on hf hM) (by unfold yk_cond; rw [if_pos (Or.inr (by omega))])
  · obtain ⟨⟨c1, c2⟩, ⟨c3, c4⟩, -⟩ := hc
    have c2 : sx_val ρ' (13, 0) ≤ 0 := c2
    have c3 : -1 ≤ sx_val ρ' (16, 0) := c3
    have c4 : sx_val ρ' (16, 0) ≤ -1 := c4
    rw [og_v0 q13, e4] at c2
    rw [og_v0 q16, e7] at c3 c4
    have eo : yk_cond D P o b n j = some (yk_sd 1 D P ++ [-63] ++ [0], yk_sp 1 P, o, b, 0, n, ((yk_sd 1 D P).length : Int) + 1, true) := by
      unfold yk_cond; rw [if_neg (by omega)]
    have hW1 := yh_W_on hW hm' hM
    show rz_fin _ L xs 47 10 19 (sx_cl1 ρ' tl_0) (sx_cs1 ρ' ts_2) M'
    rw [ts_2e h0]
    refine yq_call hL tk_f47 rfl (by omega) ⟨by decide, by decide⟩ hW1 (dd := 9) (by decide) (fun M2 hf2 hW2 => ?_)
    obtain ⟨b1, b2, b3, b4, b5, b6, b7, b8, b9, b10⟩ := yh_bd hW2 (by omega)
    obtain ⟨u1, u2, u3, u4, u5⟩ := id hW2
    obtain ⟨g1, g2, g3, g4, g5, g6, g7, g8⟩ := yh_eq u4
    have g8' := of_decide_eq_false g8
    obtain ⟨ρ2, s2, n2, p9, p10, p11, -⟩ := yt_sat (xs := xs) (z := 0) (s := (0, 0)) (w := (0, 120)) (gg := (0, 4)) (nn := sx_r32) (d := (0, 0)) hL hW2 (by omega) ⟨by decide, by decide⟩ sx_w0 b2 b5 (yw_13 u1) ⟨b7.1, by show M2 14 15 ≤ (0 : Int); omega⟩
    refine og_use (Ts := yn_T2) (lv := tl_0) (s := []) yn_c2 (by decide +kernel) s2 (tl_okl0 (sx_ck2 s2 _)) (fun v hv => by cases hv) (Nat.le_refl _) rfl rfl (fun T hT ρ3 M3 x3 h03 hm3 hc3 hM3 => ?_)
    rw [n2] at x3
    have q10 := og_v x3 (show 10 < 18 by decide) p10
    rw [List.mem_singleton.mp hT] at hM3 ⊢
    have hM3 : ∀ a, a < 128 → M3 a = sx_up (sx_up (sx_up (sx_up (sx_up (sx_up M2 17 (sx_val ρ3 (10, 0)).toNat (sx_val ρ3 (0, -63))) 14 (sx_val ρ3 (0, ((8 : Nat) : Int))).toNat (sx_val ρ3 (10, 1))) 14 (sx_val ρ3 (0, ((14 : Nat) : Int))).toNat (sx_val ρ3 (10, 1))) 17 (sx_val ρ3 (10, 1)).toNat (sx_val ρ3 (0, 0))) 14 (sx_val ρ3 (0, ((8 : Nat) : Int))).toNat (sx_val ρ3 (10, 2))) 14 (sx_val ρ3 (0, ((15 : Nat) : Int))).toNat (sx_val ρ3 (0, 1)) a := hM3
    rw [yw_n h03, yw_n h03, yw_n h03, og_c h03, og_c h03, og_c h03, og_v0 q10, og_vv (c := 1) q10, og_vv (c := 2) q10] at hM3
    have h14 : ∀ k, M3 14 k = if k = 15 then 1 else if k = 8 then M2 14 8 + 2 else if k = 14 then M2 14 8 + 1 else M2 14 k := fun k => by
      rw [hM3 14 (by decide)]
      simp only [sx_up, if_pos]
      by_cases k15 : k = 15
      · simp [k15]
      · by_cases k8 : k = 8
        · simp [k8]
        · simp [k15, k8]
    have h17 : ∀ k, M3 17 k = if k = (M2 14 8 + 1).toNat then 0 else if k = (M2 14 8).toNat then -63 else M2 17 k := fun k => by
      rw [hM3 17 (by decide)]; simp [sx_up]
    have hoth : ∀ a, a < 128 → a ≠ 14 → a ≠ 17 → M3 a = M2 a := fun a ha x1 x2 => by rw [hM3 a ha, sh_une x1, sh_une x1, sh_une x2, sh_une x1, sh_une x1, sh_une x2]
    have f8 : M3 14 8 = M2 14 8 + 2 := h14 8
    have f14 : M3 14 14 = M2 14 8 + 1 := h14 14
    have f15 : M3 14 15 = 1 := h14 15
    have f : ∀ k, k ≠ 8 → k ≠ 14 → k ≠ 15 → M3 14 k = M2 14 k := fun k a c d => by rw [h14, if_neg d, if_neg a, if_neg c]
    have f9 := f 9 (by decide) (by decide) (by decide)
    refine yq_1 h03 rfl (yh_f_tr (yh_f_tr (yh_f_on hf hM) hf2) ⟨fun a ha a1 a2 _ => hoth a ha a1 a2, fun k hk => f k (by omega) (by omega) (by omega)⟩) eo ⟨hm3, by omega, by omega, yh_mk ?_ ?_ ?_ ?_ ?_ ?_ ?_ ?_, yk_cond_inv w5 eo⟩
    · rw [← g1, f8, show (M2 14 8 + 2).toNat = (M2 14 8 + 1).toNat + 1 by omega]
      show yh_D (M3 17) (M2 14 8 + 1).toNat ++ [M3 17 (M2 14 8 + 1).toNat] = _
      rw [h17, if_pos rfl, yh_Dn b1.1 rfl (f := M2 17) (g := M3 17) (v := -63) (fun k hk => by rw [h17, if_neg (by omega), if_neg (by omega)]) (by rw [h17, if_neg (by omega), if_pos rfl])]
    · rw [f9, hoth 18 (by decide) (by decide) (by decide)]; exact g2
    · rw [f 10 (by decide) (by decide) (by decide)]; exact g3
    · rw [f 11 (by decide) (by decide) (by decide)]; exact g4
    · rw [f 12 (by decide) (by decide) (by decide)]; exact g5
    · rw [f 13 (by decide) (by decide) (by decide)]; exact g6
    · rw [f14, b9]
    · rw [f15]; rfl
-- endLine, nextLine
noncomputable def yl_T1 : List og_T := [(some 2, none, ts_2, tl_0, [], [])]
theorem yl_c1 : gs_chk (fun pc => Nat.beq pc 2) (fun u => yl_T1.any (og_chk (og_t [] []) u)) 300 300 6 49 0 tl_0 [] (og_t [] []) = true := by decide +kernel
def yl_T2 : List og_T := [(none, none, [], [], [(14, (0, 14), (0, -1)), (14, (0, 8), (10, 1)), (17, (10, 0), (0, -59))], [og_b 16 (-1) (-1)]), (none, none, [], [], [(14, (0, 14), (0, -1)), (17, (16, 0), (10, 1)), (14, (0, 8), (10, 1)), (17, (10, 0), (0, -59))], [og_b 16 0 255])]
theorem yl_c2 : gs_chk (fun _ => false) (fun u => yl_T2.any (og_chk (yt_t (0, 0) (0, 120) (0, 4) sx_r32 (0, 1)) u)) 300 300 6 49 5 tl_0 [] (yt_t (0, 0) (0, 120) (0, 4) sx_r32 (0, 1)) = true := by decide +kernel
theorem yl_all (hL : L < 2 ^ 31) (hi : i ≤ 120) (hW : yh_W i (D, P, o, b, g, n, j, due) M) : rz_fin (fun r M' => r = none ∧ yh_f M M' ∧ sx_mok cl_ly M' ∧ 0 ≤ M' 14 8 ∧ 0 ≤ M' 14 9 ∧ yh_s M' = (yk_el D P j, yk_sp 1 P, o, b, g, n, -1, due)) L xs 49 6 0 [(0, .ref 14)] [] M := by
  obtain ⟨ρ, s, n1, -, -⟩ := og_sat (xs := xs) (gs := []) (zs := []) (fs := []) hL hW.1 trivial (fun g hg => by cases hg)
  refine og_use (Ts := yl_T1) (lv := tl_0) (s := []) yl_c1 (by decide +kernel) s (tl_okl0 (sx_ck2 s _)) (fun v hv => by cases hv) (Nat.le_refl _) rfl rfl (fun T hT ρ' M' x h0 hm' hc hM => ?_)
  rw [List.mem_singleton.mp hT] at hM ⊢
  have hW1 := yh_W_on hW hm' hM
  show rz_fin _ L xs 49 6 2 (sx_cl1 ρ' tl_0) (sx_cs1 ρ' ts_2) M'
  rw [ts_2e h0]
  refine yq_call hL tk_f49 rfl hi ⟨by decide, by decide⟩ hW1 (dd := 5) (by decide) (fun M2 hf2 hW2 => ?_)
  obtain ⟨b1, b2, b3, b4, b5, b6, b7, b8, b9, b10⟩ := yh_bd hW2 hi
  obtain ⟨u1, u2, u3, u4, u5⟩ := id hW2
  obtain ⟨g1, g2, g3, g4, g5, g6, g7, g8⟩ := yh_eq u4
  obtain ⟨ρ2, s2, n2, p9, p10, p11, p12, p13, p14, p15, p16, p17⟩ := yt_sat0 (xs := xs) hL hW2 hi
  refine og_use (Ts := yl_T2) (lv := tl_0) (s := []) yl_c2 (by decide +kernel) s2 (tl_okl0 (sx_ck2 s2 _)) (fun v hv => by cases hv) (Nat.le_refl _) rfl rfl (fun T hT ρ3 M3 x3 h03 hm3 hc3 hM3 => ?_)
  rw [n2] at x3
  have q10 := og_v x3 (show 10 < 18 by decide) p10
  have q16 := og_v x3 (show 16 < 18 by decide) p16
  simp only [yl_T2, List.mem_cons, List.not_mem_nil, or_false] at hT
  have fin : (∀ k, M3 14 k = if k = 14 then -1 else if k = 8 then M2 14 8 + 1 else M2 14 k) → (yh_D (M3 17) (M2 14 8 + 1).toNat = yk_el D P j) → (∀ a, a < 128 → a ≠ 14 → a ≠ 17 → M3 a = M2 a) → yh_f M M3 ∧ sx_mok cl_ly M3 ∧ 0 ≤ M3 14 8 ∧ 0 ≤ M3 14 9 ∧ yh_s M3 = (yk_el D P j, yk_sp 1 P, o, b, g, n, -1, due) := fun h14 hD hoth => by
    have f8 : M3 14 8 = M2 14 8 + 1 := h14 8
    have f14 : M3 14 14 = -1 := h14 14
    have f : ∀ k, k ≠ 8 → k ≠ 14 → M3 14 k = M2 14 k := fun k a c => by rw [h14, if_neg c, if_neg a]
    have f9 := f 9 (by decide) (by decide)
    refine ⟨yh_f_tr (yh_f_tr (yh_f_on yh_f_rf hM) hf2) ⟨fun a ha a1 a2 _ => hoth a ha a1 a2, fun k hk => f k (by omega) (by omega)⟩, hm3, by omega, by omega, yh_mk ?_ ?_ ?_ ?_ ?_ ?_ ?_ ?_⟩
    · rw [f8]; exact hD
    · rw [f9, hoth 18 (by decide) (by decide) (by decide)]; exact g2
    · rw [f 10 (by decide) (by decide)]; exact g3
    · rw [f 11 (by decide) (by decide)]; exact g4
    · rw [f 12 (by decide) (by decide)]; exact g5
    · rw [f 13 (by decide) (by decide)]; exact g6
    · exact f14
    · rw [f 15 (by decide) (by decide)]; exact g8
  rcases hT with rfl | rfl
  · obtain ⟨⟨c1, c2⟩, -⟩ := hc3
    have c1 : -1 ≤ sx_val ρ3 (16, 0) := c1
    have c2 : sx_val ρ3 (16, 0) ≤ -1 := c2
    rw [og_v0 q16, g7] at c1 c2
    have hM3 : ∀ a, a < 128 → M3 a = sx_up (sx_up (sx_up M2 17 (sx_val ρ3 (10, 0)).toNat (sx_val ρ3 (0, -59))) 14 (sx_val ρ3 (0, ((8 : Nat) : Int))).toNat (sx_val ρ3 (10, 1))) 14 (sx_val ρ3 (0, ((14 : Nat) : Int))).toNat (sx_val ρ3 (0, -1)) a := hM3
    rw [yw_n h03, yw_n h03, og_c h03, og_c h03, og_v0 q10, og_vv (c := 1) q10] at hM3
    have h17 : ∀ k, M3 17 k = if k = (M2 14 8).toNat then -59 else M2 17 k := fun k => by
      rw [hM3 17 (by decide)]; simp [sx_up]
    refine ⟨rfl, fin (fun k => by rw [hM3 14 (by decide)]; simp [sx_up]) ?_ (fun a ha a1 a2 => by rw [hM3 a ha, sh_une a1, sh_une a1, sh_une a2])⟩
    unfold yk_el
    rw [if_pos (by omega), ← g1]
    exact yh_Dn b1.1 rfl (fun k hk => by rw [h17, if_neg (by omega)]) (by rw [h17, if_pos rfl])
  · obtain ⟨⟨c1, c2⟩, -⟩ := hc3
    have c1 : 0 ≤ sx_val ρ3 (16, 0) := c1
    rw [og_v0 q16, g7] at c1
    have hM3 : ∀ a, a < 128 → M3 a = sx_up (sx_up (sx_up (sx_up M2 17 (sx_val ρ3 (10, 0)).toNat (sx_val ρ3 (0, -59))) 14 (sx_val ρ3 (0, ((8 : Nat) : Int))).toNat (sx_val ρ3 (10, 1))) 17 (sx_val ρ3 (16, 0)).toNat (sx_val ρ3 (10, 1))) 14 (sx_val ρ3 (0, ((14 : Nat) : Int))).toNat (sx_val ρ3 (0, -1)) a := hM3
    rw [yw_n h03, yw_n h03, og_c h03, og_c h03, og_v0 q10, og_v0 q16, og_vv (c := 1) q10, g7] at hM3
    have h17 : ∀ k, M3 17 k = if k = j.toNat then M2 14 8 + 1 else if k = (M2 14 8).toNat then -59 else M2 17 k := fun k => by
      rw [hM3 17 (by decide)]; simp [sx_up]
    refine ⟨rfl, fin (fun k => by rw [hM3 14 (by decide)]; simp [sx_up]) ?_ (fun a ha a1 a2 => by rw [hM3 a ha, sh_une a1, sh_une a2, sh_une a1, sh_une a2])⟩
    unfold yk_el
    rw [if_neg (by omega), b9, ← g1]
    have e0 : yh_D (fun k => if k = (M2 14 8).toNat then -59 else M2 17 k) (M2 14 8 + 1).toNat = yh_D (M2 17) (M2 14 8).toNat ++ [-59] := yh_Dn b1.1 rfl (fun k hk => by show (if k = (M2 14 8).toNat then (-59 : Int) else M2 17 k) = _; rw [if_neg (by omega)]) (by show (if (M2 14 8).toNat = (M2 14 8).toNat then (-59 : Int) else _) = _; rw [if_pos rfl])
    rw [← e0]
    exact yh_D_set (by rw [h17, if_pos rfl]) (fun k hk => by rw [h17, if_neg hk]) (by omega)
noncomputable def yx_T1 : List og_T := [(none, some (0, 0, 0), [], [], [], [og_b 13 1 120]), (some 10, none, [(2, 0, 14)], tl_0, [], [og_b 13 0 0])]
theorem yx_c1 : gs_chk (fun pc => Nat.beq pc 10) (fun u => yx_T1.any (og_chk (yt_t (0, 0) (0, 120) (0, 4) sx_r32 (0, 1)) u)) 300 300 10 48 0 tl_0 [] (yt_t (0, 0) (0, 120) (0, 4) sx_r32 (0, 1)) = true := by decide +kernel
def yx_T2 : List og_T := [(none, some (0, 0, 1), [], [], [(14, (0, 15), (0, 1))], [])]
theorem yx_c2 : gs_chk (fun _ => false) (fun u => yx_T2.any (og_chk (og_t [] [(14, 15, (0, 0))]) u)) 300 300 10 48 13 tl_0 [] (og_t [] [(14, 15, (0, 0))]) = true := by decide +kernel
theorem yx_all (hL : L < 2 ^ 31) (hi : i ≤ 119) (hf : yh_f M0 M) (hW : yh_W i (D, P, o, b, 0, n, j, false) M) : rz_fin (yh_Q (i + 1) M0 (yk_next D P o b n j)) L xs 48 10 0 [(0, .ref 14)] [] M := by
  obtain ⟨w1, w2, w3, w4, w5⟩ := id hW
  obtain ⟨e1, e2, e3, e4, e5, e6, e7, e8⟩ := yh_eq w4
  obtain ⟨ρ, s, n1, r9, r10, r11, r12, r13, -⟩ := yt_sat0 (xs := xs) hL hW (by omega)
  refine og_use (Ts := yx_T1) (lv := tl_0) (s := []) yx_c1 (by decide +kernel) s (tl_okl0 (sx_ck2 s _)) (fun v hv => by cases hv) (Nat.le_refl _) rfl rfl (fun T hT ρ' M' x h0 hm' hc hM => ?_)
  rw [n1] at x
  have q13 := og_v x (show 13 < 18 by decide) r13
  simp only [yx_T1, List.mem_cons, List.not_mem_nil, or_false] at hT
  rcases hT with rfl | rfl
  · obtain ⟨⟨c1, c2⟩, -⟩ := hc
    have c1 : 1 ≤ sx_val ρ' (13, 0) := c1
    rw [og_v0 q13, e4] at c1
    exact yq_0 h0 rfl hm' (yh_f_on hf hM) (by unfold yk_next; rw [if_pos (by omega)])
  · obtain ⟨⟨c1, c2⟩, -⟩ := hc
    have c2 : sx_val ρ' (13, 0) ≤ 0 := c2
    rw [og_v0 q13, e4] at c2
    have eo : yk_next D P o b n j = some (yk_el D P j, yk_sp 1 P, o, b, 0, n, -1, true) := by
      unfold yk_next; rw [if_neg (by omega)]
    have hW1 := yh_W_on hW hm' hM
    show rz_fin _ L xs 48 10 10 (sx_cl1 ρ' tl_0) [.ref 14] M'
    refine tk_go0 (d := 6) (d' := 9) tk_f48 rfl (Nat.le_of_ble_eq_true rfl) (by decide) (yl_all hL (by omega) hW1) (fun r M2 hR => ?_)
    obtain ⟨rfl, hf2, u1, u2, u3, u4⟩ := hR
    · skip
      obtain ⟨g1, g2, g3, g4, g5, g6, g7, g8⟩ := yh_eq u4
      have g8' := of_decide_eq_false g8
      have w15 := cx_fld (c := 14) (k := 15) (lo := 0) (hi := 1) u1 (by decide +kernel)
      obtain ⟨ρ2, s2, n2, -, k2⟩ := og_sat (xs := xs) (gs := []) (zs := []) (fs := [(14, 15, (0, 0))]) hL u1 trivial (fun q hq => by
        rw [List.mem_singleton.mp hq]
        exact og_f u1 rfl (show cv_ly cl_ly (14, 15, sx_r32) = true by decide +kernel) ⟨w15.1, by show M2 14 15 ≤ (0 : Int); omega⟩)
      refine og_use (Ts := yx_T2) (lv := tl_0) (s := []) yx_c2 (by decide +kernel) s2 (tl_okl0 (sx_ck2 s2 _)) (fun v hv => by cases hv) (Nat.le_refl _) rfl rfl (fun T hT ρ3 M3 x3 h03 hm3 hc3 hM3 => ?_)
      rw [List.mem_singleton.mp hT] at hM3 ⊢
      have hM3 : ∀ a, a < 128 → M3 a = sx_up M2 14 (sx_val ρ3 (0, ((15 : Nat) : Int))).toNat (sx_val ρ3 (0, 1)) a := hM3
      rw [yw_n h03, og_c h03] at hM3
      have h14 : ∀ k, M3 14 k = if k = 15 then 1 else M2 14 k := fun k => by
        rw [hM3 14 (by decide)]; simp [sx_up]
      have hoth : ∀ a, a < 128 → a ≠ 14 → M3 a = M2 a := fun a ha a1 => by rw [hM3 a ha, sh_une a1]
      have f15 : M3 14 15 = 1 := h14 15
      have f : ∀ k, k ≠ 15 → M3 14 k = M2 14 k := fun k a => by rw [h14, if_neg a]
      refine yq_1 h03 rfl (yh_f_tr (yh_f_tr (yh_f_on hf hM) hf2) ⟨fun a ha a1 _ _ => hoth a ha a1, fun k hk => f k (by omega)⟩) eo ⟨hm3, by rw [f 8 (by decide)]; exact u2, by rw [f 9 (by decide)]; exact u3, yh_mk ?_ ?_ ?_ ?_ ?_ ?_ ?_ ?_, yk_next_inv w5 eo⟩
      · rw [f 8 (by decide), hoth 17 (by decide) (by decide)]; exact g1
      · rw [f 9 (by decide), hoth 18 (by decide) (by decide)]; exact g2
      · rw [f 10 (by decide)]; exact g3
      · rw [f 11 (by decide)]; exact g4
      · rw [f 12 (by decide)]; exact g5
      · rw [f 13 (by decide)]; exact g6
      · rw [f 14 (by decide)]; exact g7
      · rw [f15]; rfl
-- operatorGoesOn
def yp_l : List Int := [37, 38, 42, 43, 45, 47, 60, 61, 62, 124]
def yp_T1 (z : Int) : List og_T := [(some 22, none, [(0, 0, yk_rs z), (2, 0, 14)], [(0, 2, 0, 14), (1, 0, 9, 0), (2, 0, 0, yk_rank z)], [], [])]
theorem yp_c1 : (yp_l.all fun z => gs_chk (fun pc => Nat.beq pc 22) (fun u => (yp_T1 z).any (og_chk (yt_t (z, z) (0, 120) (0, 4) sx_r32 (0, 1)) u)) 300 300 10 50 0 tl_1 [] (yt_t (z, z) (0, 120) (0, 4) sx_r32 (0, 1))) = true := by decide +kernel
def yp_gl : List (Int × Int) := [(0, 36), (39, 41), (44, 44), (46, 46), (48, 59), (63, 123), (125, 255)]
theorem yp_c2 : (yp_gl.all fun q => gs_chk (fun pc => Nat.beq pc 22) (fun u => [og_r 0 []].any (og_chk (yt_t q (0, 120) (0, 4) sx_r32 (0, 1)) u)) 300 300 10 50 0 tl_1 [] (yt_t q (0, 120) (0, 4) sx_r32 (0, 1))) = true := by decide +kernel
def yp_lv (z : Int) : sx_L := [(0, 2, 0, 14), (1, 0, 9, 0), (2, 0, 0, yk_rank z)]
def yp_T3 (z p : Int) : List og_T := if yk_rank z = 3 ∧ yk_rank p = 3 then [og_r 0 []] else [(none, some (0, 0, 1), [], [], [(14, (0, 15), (0, 1)), (14, (0, 9), (11, 1)), (18, (11, 0), (0, z))], [])]
theorem yp_c3 : (yp_l.all fun z => yk_sg.all fun p => gs_chk (fun _ => false) (fun u => (yp_T3 z p).any (og_chk (yt_p (z, z) (1, 120) (0, 4) sx_r32 (0, 0) p) u)) 300 300 10 50 25 (yp_lv z) [] (yt_p (z, z) (1, 120) (0, 4) sx_r32 (0, 0) p)) = true := by decide +kernel
def yp_T4 (z : Int) : List og_T := [(none, some (0, 0, 1), [], [], [(14, (0, 15), (0, 1)), (14, (0, 9), (0, 1)), (18, (0, 0), (0, z))], [])]
theorem yp_c4 : (yp_l.all fun z => gs_chk (fun _ => false) (fun u => (yp_T4 z).any (og_chk (yt_t (z, z) (0, 0) (0, 4) sx_r32 (0, 0)) u)) 300 300 10 50 25 (yp_lv z) [] (yt_t (z, z) (0, 0) (0, 4) sx_r32 (0, 0))) = true := by decide +kernel
theorem yp_mem (z : Int) (h0 : 0 ≤ z ∧ z ≤ 255) : (yk_rank z ≠ 0 ∧ z ∈ yp_l) ∨ (yk_rank z = 0 ∧ ∃ q ∈ yp_gl, q.1 ≤ z ∧ z ≤ q.2) := by
  have key : ((List.range 256).all fun k => bif decide (yk_rank (k : Int) = 0) then yp_gl.any (fun q => decide (q.1 ≤ (k : Int)) && decide ((k : Int) ≤ q.2)) else yp_l.any fun p => decide (p = (k : Int))) = true := by decide +kernel
  obtain ⟨k, rfl⟩ := Int.eq_ofNat_of_zero_le h0.1
  have h := List.all_eq_true.mp key k (List.mem_range.mpr (by omega))
  by_cases c : yk_rank (k : Int) = 0
  · right
    rw [decide_eq_true c] at h
    have h : yp_gl.any (fun q => decide (q.1 ≤ (k : Int)) && decide ((k : Int) ≤ q.2)) = true := h
    obtain ⟨q, hq, h⟩ := List.any_eq_true.mp h
    obtain ⟨h1, h2⟩ := Bool.and_eq_true_iff.mp h
    exact ⟨c, q, hq, of_decide_eq_true h1, of_decide_eq_true h2⟩
  · left
    rw [decide_eq_false c] at h
    have h : yp_l.any (fun p => decide (p = (k : Int))) = true := h
    obtain ⟨p, hp, h⟩ := List.any_eq_true.mp h
    rw [← of_decide_eq_true h]
    exact ⟨by rw [of_decide_eq_true h]; exact c, hp⟩
theorem yp_el (h0 : ρ 0 = 0) (r9 : ρ 9 = z) : sx_cl1 ρ (yp_lv z) = tv_2 z (yk_rank z) := by
  show [(0, Value.ref 14), (1, sx_cv1 ρ (0, 9, 0)), (2, sx_cv1 ρ (0, 0, yk_rank z))] = _
  rw [og_int r9, tk_cv h0]
  rfl
theorem yp_okl {m : Nat} (hc : ∀ c, sx_ok ρ m (2, 0, c)) (h : 9 < m) (h0 : ρ 0 = 0) (r9 : ρ 9 = z) (w : sx_w sx_r32 z) : sx_okl ρ m (yp_lv z) := fun q hq => by
  have hr := yk_rank_r z
  simp only [yp_lv, List.mem_cons, List.not_mem_nil, or_false] at hq
  rcases hq with rfl | rfl | rfl
  · exact hc _
  · exact tk_ok0 h (by rw [r9]; exact w)
  · exact ⟨by show 0 < m; omega, fun _ => by show sx_w sx_r32 (sx_val ρ (0, yk_rank z)); rw [og_c h0]; exact og_w32 (by omega) (by omega), fun h => by cases h⟩
/-- behind settle -/
theorem yp_on (hL : L < 2 ^ 31) (hi : i ≤ 119) (hf : yh_f M0 M) (hW : yh_W i (D, P, o, b, 0, n, j, false) M) (hz : 0 ≤ z ∧ z ≤ 255) (hr : yk_rank z ≠ 0) (hm : z ∈ yp_l) {s : Option yk_S} (hn : yk_rank z = 3 ∧ yk_c3 P = true → s = none) (hs : ¬ (yk_rank z = 3 ∧ yk_c3 P = true) → s = some (D, z :: P, o, b, 0, n, j, true)) : rz_fin (yh_Q (i + 1) M0 s) L xs 50 10 25 (tv_2 z (yk_rank z)) [] M := by
  have z32 : sx_w sx_r32 z := og_w32 (by omega) (by omega)
  obtain ⟨b1, b2, b3, b4, b5, b6, b7, b8, b9, b10⟩ := yh_bd hW (by omega)
  obtain ⟨w1, w2, w3, w4, w5⟩ := id hW
  obtain ⟨e1, e2, e3, e4, e5, e6, e7, e8⟩ := yh_eq w4
  have e8' := of_decide_eq_false e8
  obtain ⟨o1, o2, o3⟩ := yk_ops hr
  have d15 : sx_w (0, 0) (M 14 15) := ⟨b7.1, by show M 14 15 ≤ (0 : Int); omega⟩
  have fin : ∀ {ρ' : Nat → Int} {M' : Nat → Nat → Int}, ρ' 0 = 0 → sx_mok cl_ly M' → ¬ (yk_rank z = 3 ∧ yk_c3 P = true) → (∀ k, M' 14 k = if k = 15 then 1 else if k = 9 then M 14 9 + 1 else M 14 k) → (∀ k, M' 18 k = if k = (M 14 9).toNat then z else M 18 k) → (∀ a, a < 128 → a ≠ 14 → a ≠ 18 → M' a = M a) → yh_Q (i + 1) M0 s ((some (0, 0, 1) : Option sx_V).map (sx_cv1 ρ')) M' := by
    intro ρ' M' h0 hm' hno h14 h18 hoth
    have f9 : M' 14 9 = M 14 9 + 1 := h14 9
    have f15 : M' 14 15 = 1 := h14 15
    have f : ∀ k, k ≠ 9 → k ≠ 15 → M' 14 k = M 14 k := fun k a c => by rw [h14, if_neg c, if_neg a]
    refine yq_1 h0 rfl (yh_f_tr hf ⟨fun a ha a1 _ a3 => hoth a ha a1 a3, fun k hk => f k (by omega) (by omega)⟩) (hs hno) ⟨hm', by rw [f 8 (by decide) (by decide)]; exact w2, by omega, yh_mk ?_ ?_ ?_ ?_ ?_ ?_ ?_ ?_, yk_push_inv w5 o1 (by rw [o2]; exact (Int.add_zero b).symm) (by rw [o3]; exact (Int.add_zero o).symm)⟩
    · rw [f 8 (by decide) (by decide), hoth 17 (by decide) (by decide) (by decide)]; exact e1
    · rw [← e2]
      exact yh_Pn b2.1 f9 (fun k hk => by rw [h18, if_neg (by omega)]) (by rw [h18, if_pos rfl])
    · rw [f 10 (by decide) (by decide)]; exact e3
    · rw [f 11 (by decide) (by decide)]; exact e4
    · rw [f 12 (by decide) (by decide)]; exact e5
    · rw [f 13 (by decide) (by decide)]; exact e6
    · rw [f 14 (by decide) (by decide)]; exact e7
    · rw [f15]; rfl
  by_cases h9 : M 14 9 = 0
  · have hP : P = [] := List.eq_nil_of_length_eq_zero (by omega)
    obtain ⟨ρ, s1, n1, r9, r10, r11, -⟩ := yt_sat (xs := xs) (s := (z, z)) (w := (0, 0)) (gg := (0, 4)) (nn := sx_r32) (d := (0, 0)) hL hW (by omega) ⟨Int.le_refl _, Int.le_refl _⟩ z32 ⟨b2.1, by show M 14 9 ≤ (0 : Int); omega⟩ b5 (yw_13 w1) d15
    refine og_use (Ts := yp_T4 z) (lv := yp_lv z) (s := []) (List.all_eq_true.mp yp_c4 z hm) (by rfl) s1 (yp_okl (fun c => sx_ck2 s1 c) (by rw [n1]; decide) s1.2.1 r9 z32) (fun v hv => by cases hv) (Nat.le_refl _) (yp_el s1.2.1 r9) rfl (fun T hT ρ' M' x h0 hm' hc hM => ?_)
    rw [List.mem_singleton.mp hT] at hM ⊢
    have hM : ∀ a, a < 128 → M' a = sx_up (sx_up (sx_up M 18 (sx_val ρ' (0, ((0 : Nat) : Int))).toNat (sx_val ρ' (0, z))) 14 (sx_val ρ' (0, ((9 : Nat) : Int))).toNat (sx_val ρ' (0, 1))) 14 (sx_val ρ' (0, ((15 : Nat) : Int))).toNat (sx_val ρ' (0, 1)) a := hM
    rw [yw_n h0, yw_n h0, yw_n h0, og_c h0, og_c h0] at hM
    refine fin h0 hm' (fun h => by rw [hP] at h; cases h.2) (fun k => ?_) (fun k => ?_) (fun a ha a1 a2 => by rw [hM a ha, sh_une a1, sh_une a1, sh_une a2])
    · rw [hM 14 (by decide), h9]; simp [sx_up]
    · rw [hM 18 (by decide), h9]; simp [sx_up]
  · have h1 : 1 ≤ M 14 9 := by omega
    obtain ⟨p, hp⟩ : ∃ p, M 18 (M 14 9 - 1).toNat = p := ⟨_, rfl⟩
    have eP := yh_Pt (f := M 18) (g := M 18) h1 rfl (fun _ _ => rfl)
    rw [hp, e2] at eP
    have psg : p ∈ yk_sg := w5.1 p (by show p ∈ P; rw [eP]; exact List.mem_cons_self)
    have c3 : yk_c3 P = decide (yk_rank p = 3) := by rw [eP]; rfl
    obtain ⟨ρ, s1, n1, r9, r10, r11, -⟩ := yt_psat (xs := xs) (s := (z, z)) (w := (1, 120)) (gg := (0, 4)) (nn := sx_r32) (d := (0, 0)) hL hW (by omega) ⟨Int.le_refl _, Int.le_refl _⟩ z32 ⟨h1, b2.2⟩ b5 (yw_13 w1) d15 h1 hp (yk_sg_r psg)
    have hnd : ((yp_T3 z p).all fun T => mt_nd (T.2.2.2.1.map fun q => q.1)) = true := by
      unfold yp_T3
      split <;> rfl
    refine og_use (Ts := yp_T3 z p) (lv := yp_lv z) (s := []) (List.all_eq_true.mp (List.all_eq_true.mp yp_c3 z hm) p psg) hnd s1 (yp_okl (fun c => sx_ck2 s1 c) (by rw [n1]; decide) s1.2.1 r9 z32) (fun v hv => by cases hv) (Nat.le_refl _) (yp_el s1.2.1 r9) rfl (fun T hT ρ' M' x h0 hm' hc hM => ?_)
    rw [n1] at x
    have q11 := og_v x (show 11 < 19 by decide) r11
    unfold yp_T3 at hT
    by_cases hx : yk_rank z = 3 ∧ yk_rank p = 3
    · rw [if_pos hx] at hT
      rw [List.mem_singleton.mp hT] at hM ⊢
      exact yq_0 h0 rfl hm' (yh_f_on hf hM) (hn ⟨hx.1, by rw [c3]; exact decide_eq_true hx.2⟩)
    · rw [if_neg hx] at hT
      rw [List.mem_singleton.mp hT] at hM ⊢
      have hM : ∀ a, a < 128 → M' a = sx_up (sx_up (sx_up M 18 (sx_val ρ' (11, 0)).toNat (sx_val ρ' (0, z))) 14 (sx_val ρ' (0, ((9 : Nat) : Int))).toNat (sx_val ρ' (11, 1))) 14 (sx_val ρ' (0, ((15 : Nat) : Int))).toNat (sx_val ρ' (0, 1)) a := hM
      rw [yw_n h0, yw_n h0, og_c h0, og_c h0, og_v0 q11, og_vv (c := 1) q11] at hM
      refine fin h0 hm' (fun h => hx ⟨h.1, by rw [c3] at h; exact of_decide_eq_true h.2⟩) (fun k => ?_) (fun k => ?_) (fun a ha a1 a2 => by rw [hM a ha, sh_une a1, sh_une a1, sh_une a2])
      · rw [hM 14 (by decide)]; simp [sx_up]
      · rw [hM 18 (by decide)]; simp [sx_up]
theorem yp_all (hL : L < 2 ^ 31) (hi : i ≤ 119) (hf : yh_f M0 M) (hW : yh_W i (D, P, o, b, 0, n, j, false) M) (hz : 0 ≤ z ∧ z ≤ 255) : rz_fin (yh_Q (i + 1) M0 (yk_op D P o b n j z)) L xs 50 10 0 (tv_r z) [] M := by
  have z32 : sx_w sx_r32 z := og_w32 (by omega) (by omega)
  obtain ⟨b1, b2, b3, b4, b5, b6, b7, b8, b9, b10⟩ := yh_bd hW (by omega)
  obtain ⟨w1, w2, w3, w4, w5⟩ := id hW
  rcases yp_mem z hz with ⟨hr, hm⟩ | ⟨hr, q, hq, hq1⟩
  · obtain ⟨ρ, s1, n1, r9, -⟩ := yt_sat (xs := xs) (s := (z, z)) (w := (0, 120)) (gg := (0, 4)) (nn := sx_r32) (d := (0, 1)) hL hW (by omega) ⟨Int.le_refl _, Int.le_refl _⟩ z32 b2 b5 (yw_13 w1) b7
    obtain ⟨okl, el⟩ := yt_l1 (m := (yt_t (z, z) (0, 120) (0, 4) sx_r32 (0, 1)).1) (fun c => sx_ck2 s1 c) (by rw [n1]; decide) r9 z32
    refine og_use (Ts := yp_T1 z) (lv := tl_1) (s := []) (List.all_eq_true.mp yp_c1 z hm) (by rfl) s1 okl (fun v hv => by cases hv) (Nat.le_refl _) el rfl (fun T hT ρ' M' x h0 hm' hc hM => ?_)
    rw [n1] at x
    have q9 := og_v x (show 9 < 18 by decide) r9
    rw [List.mem_singleton.mp hT] at hM ⊢
    have hW1 := yh_W_on hW hm' hM
    show rz_fin _ L xs 50 10 22 (sx_cl1 ρ' (yp_lv z)) [sx_cv1 ρ' (0, 0, yk_rs z), .ref 14] M'
    rw [yp_el h0 q9, tk_cv h0]
    have rr := yk_rank_r z
    have r1 := yk_rs_1 hr
    have r5 : yk_rs z ≤ 5 := by unfold yk_rs; split <;> omega
    refine yq_call hL tk_f50 rfl (by omega) ⟨r1, r5⟩ hW1 (dd := 9) (by decide) (fun M2 hf2 hW2 => ?_)
    exact yp_on hL hi (yh_f_tr (yh_f_on hf hM) hf2) hW2 hz hr hm (fun h => by unfold yk_op; rw [if_neg hr, if_pos h]) (fun h => by unfold yk_op; rw [if_neg hr, if_neg h])
  · obtain ⟨ρ, s1, n1, r9, -⟩ := yt_sat (xs := xs) (s := q) (w := (0, 120)) (gg := (0, 4)) (nn := sx_r32) (d := (0, 1)) hL hW (by omega) hq1 z32 b2 b5 (yw_13 w1) b7
    obtain ⟨okl, el⟩ := yt_l1 (m := (yt_t q (0, 120) (0, 4) sx_r32 (0, 1)).1) (fun c => sx_ck2 s1 c) (by rw [n1]; decide) r9 z32
    refine og_use (Ts := [og_r 0 []]) (lv := tl_1) (s := []) (List.all_eq_true.mp yp_c2 q hq) (by decide +kernel) s1 okl (fun v hv => by cases hv) (Nat.le_refl _) el rfl (fun T hT ρ' M' x h0 hm' hc hM => ?_)
    rw [List.mem_singleton.mp hT] at hM ⊢
    exact yq_0 h0 rfl hm' (yh_f_on hf hM) (by unfold yk_op; rw [if_pos hr])
end
