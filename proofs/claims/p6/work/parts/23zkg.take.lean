/-! The class takes THE TAPE: any sign; all signs; what the program is then. -/
section
variable {L : Nat} {xs : Nat → Int32} {M M' M0 M1 M2 : Nat → Nat → Int} {ρ ρ' : Nat → Int} {t : sx_S} {D P : List Int} {o b g n j i z : Int} {due : Bool} {Q : Option Value → (Nat → Nat → Int) → Prop}
def yg_T (pc : Nat) (s : List sx_V) (w : List og_W) : List og_T := [(some pc, none, s, [], w, [])]
def yg_w : List og_W := [(14, (0, 12), (0, 0))]
theorem yg_c1 : gs_chk (fun pc => Nat.beq pc 9) (fun u => (yg_T 9 ts_1 []).any (og_chk (yt_t (0, 255) (0, 120) (0, 4) sx_r32 (1, 1)) u)) 300 300 11 35 0 tl_1 [] (yt_t (0, 255) (0, 120) (0, 4) sx_r32 (1, 1)) = true := by decide +kernel
theorem yg_c2 : gs_chk tst_g (fun u => (yg_T 22 ts_1 []).any (og_chk (yt_t (48, 57) (0, 120) (0, 4) sx_r32 (0, 0)) u)) 300 300 11 35 0 tl_1 [] (yt_t (48, 57) (0, 120) (0, 4) sx_r32 (0, 0)) = true := by decide +kernel
def yg_l : List (Int × Nat) := [(41, 69), (63, 74), (59, 79)]
theorem yg_c3 : (yg_l.all fun q => gs_chk tst_g (fun u => (yg_T q.2 ts_0 yg_w).any (og_chk (yt_t (q.1, q.1) (0, 120) (0, 4) sx_r32 (0, 0)) u)) 300 300 11 35 0 tl_1 [] (yt_t (q.1, q.1) (0, 120) (0, 4) sx_r32 (0, 0))) = true := by decide +kernel
def yg_gl : List (Int × Int) := [(0, 40), (42, 47), (58, 58), (60, 62), (64, 255)]
theorem yg_c4 : (yg_gl.all fun q => gs_chk tst_g (fun u => (yg_T 85 ts_1 yg_w).any (og_chk (yt_t q (0, 120) (0, 4) sx_r32 (0, 0)) u)) 300 300 11 35 0 tl_1 [] (yt_t q (0, 120) (0, 4) sx_r32 (0, 0))) = true := by decide +kernel
theorem yg_after {s : Option yk_S} {d pc : Nat} {lv : sm_V} {r : Option Value} (h2 : (sm_MT 35).2.2.2.2.2 pc = some (.ireturn, 1)) (hR : yh_Q i M0 s r M2) : rz_fin (yh_Q i M0 s) L xs 35 d pc lv (r.toList ++ []) M2 := by
  obtain ⟨v, rfl, hm, hf, h⟩ := hR
  exact tk_ret h2 rfl (by rcases h with ⟨rfl, -⟩ | ⟨rfl, -⟩; exact Or.inl rfl; exact Or.inr rfl) ⟨v, rfl, hm, hf, h⟩
/-- digits are none from here on -/
theorem yg_0 (h0 : ρ 0 = 0) (hf : yh_f M0 M) (hW : yh_W i (D, P, o, b, g, n, j, due) M) (hm : sx_mok cl_ly M') (hM : ∀ a, a < 128 → M' a = og_up ρ yg_w M a) : yh_f M0 M' ∧ yh_W i (D, P, o, b, 0, n, j, due) M' := by
  have hM : ∀ a, a < 128 → M' a = sx_up M 14 (sx_val ρ (0, ((12 : Nat) : Int))).toNat (sx_val ρ (0, 0)) a := hM
  rw [yw_n h0, og_c h0] at hM
  have h14 : ∀ k, M' 14 k = if k = 12 then 0 else M 14 k := fun k => by
    rw [hM 14 (by decide)]; simp [sx_up]
  have hoth : ∀ a, a < 128 → a ≠ 14 → M' a = M a := fun a ha g1 => by rw [hM a ha, sh_une g1]
  have f : ∀ k, k ≠ 12 → M' 14 k = M 14 k := fun k h => by rw [h14, if_neg h]
  obtain ⟨w1, w2, w3, w4, w5⟩ := hW
  obtain ⟨e1, e2, e3, e4, e5, e6, e7, e8⟩ := yh_eq w4
  refine ⟨yh_f_tr hf ⟨fun a ha a1 _ _ => hoth a ha a1, fun k hk => f k (by omega)⟩, hm, by rw [f 8 (by decide)]; exact w2, by rw [f 9 (by decide)]; exact w3, yh_mk ?_ ?_ ?_ ?_ ?_ ?_ ?_ ?_, yk_inv_g0 w5⟩
  · rw [f 8 (by decide), hoth 17 (by decide) (by decide)]; exact e1
  · rw [f 9 (by decide), hoth 18 (by decide) (by decide)]; exact e2
  · rw [f 10 (by decide)]; exact e3
  · rw [f 11 (by decide)]; exact e4
  · rw [h14, if_pos rfl]
  · rw [f 13 (by decide)]; exact e6
  · rw [f 14 (by decide)]; exact e7
  · rw [f 15 (by decide)]; exact e8
theorem yg_all (hL : L < 2 ^ 31) (hi : i ≤ 119) {s : yk_S} (hW : yh_W i s M) (hz : 0 ≤ z ∧ z ≤ 255) : rz_fin (yh_Q (i + 1) M (yk_go s z)) L xs 35 11 0 (tv_r z) [] M := by
  obtain ⟨D, P, o, b, g, n, j, due⟩ := s
  have z32 : sx_w sx_r32 z := og_w32 (by omega) (by omega)
  obtain ⟨b1, b2, b3, b4, b5, b6, b7, b8, b9, b10⟩ := yh_bd hW (by omega)
  have w13 := yw_13 hW.1
  have e15 := yh_15 hW
  cases due with
  | true =>
    have e15 : M 14 15 = 1 := e15
    obtain ⟨ρ, s1, n1, r9, -⟩ := yt_sat (xs := xs) (s := (0, 255)) (w := (0, 120)) (gg := (0, 4)) (nn := sx_r32) (d := (1, 1)) hL hW (by omega) hz z32 b2 b5 w13 (by rw [e15]; exact ⟨by decide, by decide⟩)
    obtain ⟨okl, el⟩ := yt_l1 (m := (yt_t (0, 255) (0, 120) (0, 4) sx_r32 (1, 1)).1) (fun c => sx_ck2 s1 c) (by rw [n1]; decide) r9 z32
    refine og_use (lv := tl_1) (s := []) yg_c1 (by rfl) s1 okl (fun v hv => by cases hv) (Nat.le_refl _) el rfl (fun T hT ρ' M' x h0 hm' hc hM => ?_)
    rw [n1] at x
    have q9 := og_v x (show 9 < 18 by decide) r9
    rw [List.mem_singleton.mp hT] at hM ⊢
    show rz_fin _ L xs 35 11 9 [] (sx_cs1 ρ' ts_1) M'
    rw [ts_el q9]
    exact tk_go1 (d := 10) (d' := 10) tk_f35a rfl (Nat.le_of_ble_eq_true rfl) z32 (Nat.le_refl _) (yo_all hL hi (yh_f_on yh_f_rf hM) (yh_W_on hW hm' hM) hz) (fun r M2 hR => yg_after rfl hR)
  | false =>
    have e15 : M 14 15 = 0 := e15
    have d15 : sx_w (0, 0) (M 14 15) := by rw [e15]; exact ⟨by decide, by decide⟩
    by_cases cd : 48 ≤ z ∧ z ≤ 57
    · have eo : yk_go (D, P, o, b, g, n, j, false) z = yk_digit D P o b g n j z := by
        show (if 48 ≤ z ∧ z ≤ 57 then _ else _) = _
        rw [if_pos cd]
      rw [eo]
      obtain ⟨ρ, s1, n1, r9, -⟩ := yt_sat (xs := xs) (s := (48, 57)) (w := (0, 120)) (gg := (0, 4)) (nn := sx_r32) (d := (0, 0)) hL hW (by omega) cd z32 b2 b5 w13 d15
      obtain ⟨okl, el⟩ := yt_l1 (m := (yt_t (48, 57) (0, 120) (0, 4) sx_r32 (0, 0)).1) (fun c => sx_ck2 s1 c) (by rw [n1]; decide) r9 z32
      refine og_use (lv := tl_1) (s := []) yg_c2 (by rfl) s1 okl (fun v hv => by cases hv) (Nat.le_refl _) el rfl (fun T hT ρ' M' x h0 hm' hc hM => ?_)
      rw [n1] at x
      have q9 := og_v x (show 9 < 18 by decide) r9
      rw [List.mem_singleton.mp hT] at hM ⊢
      show rz_fin _ L xs 35 11 22 [] (sx_cs1 ρ' ts_1) M'
      rw [ts_el q9]
      exact tk_go1 (d := 10) (d' := 10) tk_f35b rfl (Nat.le_of_ble_eq_true rfl) z32 (Nat.le_refl _) (yd_all hL hi (yh_f_on yh_f_rf hM) (yh_W_on hW hm' hM) cd) (fun r M2 hR => yg_after rfl hR)
    · by_cases c1 : z = 41 ∨ z = 63 ∨ z = 59
      · obtain ⟨pc, hmem⟩ : ∃ pc, (z, pc) ∈ yg_l := by
          rcases c1 with rfl | rfl | rfl
          · exact ⟨69, by decide⟩
          · exact ⟨74, by decide⟩
          · exact ⟨79, by decide⟩
        obtain ⟨ρ, s1, n1, r9, -⟩ := yt_sat (xs := xs) (s := (z, z)) (w := (0, 120)) (gg := (0, 4)) (nn := sx_r32) (d := (0, 0)) hL hW (by omega) ⟨Int.le_refl _, Int.le_refl _⟩ z32 b2 b5 w13 d15
        obtain ⟨okl, el⟩ := yt_l1 (m := (yt_t (z, z) (0, 120) (0, 4) sx_r32 (0, 0)).1) (fun c => sx_ck2 s1 c) (by rw [n1]; decide) r9 z32
        refine og_use (Ts := yg_T pc ts_0 yg_w) (lv := tl_1) (s := []) (List.all_eq_true.mp yg_c3 (z, pc) hmem) (by rfl) s1 okl (fun v hv => by cases hv) (Nat.le_refl _) el rfl (fun T hT ρ' M' x h0 hm' hc hM => ?_)
        rw [List.mem_singleton.mp hT] at hM ⊢
        obtain ⟨hf', hW'⟩ := yg_0 h0 yh_f_rf hW hm' hM
        show rz_fin _ L xs 35 11 pc [] [.ref 14] M'
        simp only [yg_l, List.mem_cons, Prod.mk.injEq, List.not_mem_nil, or_false] at hmem
        rcases hmem with ⟨rfl, rfl⟩ | ⟨rfl, rfl⟩ | ⟨rfl, rfl⟩
        · exact tk_go0 (d := 10) (d' := 10) tk_f35d rfl (Nat.le_of_ble_eq_true rfl) (Nat.le_refl _) (yc_all hL hi hf' hW') (fun r M2 hR => yg_after rfl hR)
        · exact tk_go0 (d := 10) (d' := 10) tk_f35e rfl (Nat.le_of_ble_eq_true rfl) (Nat.le_refl _) (yn_all hL hi hf' hW') (fun r M2 hR => yg_after rfl hR)
        · exact tk_go0 (d := 10) (d' := 10) tk_f35f rfl (Nat.le_of_ble_eq_true rfl) (Nat.le_refl _) (yx_all hL hi hf' hW') (fun r M2 hR => yg_after rfl hR)
      · have eo : yk_go (D, P, o, b, g, n, j, false) z = yk_op D P o b n j z := by
          show (if 48 ≤ z ∧ z ≤ 57 then yk_digit D P o b g n j z else if z = 41 then yk_close D P o b n j else if z = 63 then yk_cond D P o b n j else if z = 59 then yk_next D P o b n j else yk_op D P o b n j z) = _
          rw [if_neg cd, if_neg (by omega), if_neg (by omega), if_neg (by omega)]
        rw [eo]
        obtain ⟨q, hq, hq1⟩ : ∃ q ∈ yg_gl, q.1 ≤ z ∧ z ≤ q.2 := by
          have : (0 ≤ z ∧ z ≤ 40) ∨ (42 ≤ z ∧ z ≤ 47) ∨ (58 ≤ z ∧ z ≤ 58) ∨ (60 ≤ z ∧ z ≤ 62) ∨ (64 ≤ z ∧ z ≤ 255) := by omega
          rcases this with h | h | h | h | h
          · exact ⟨(0, 40), by decide, h⟩
          · exact ⟨(42, 47), by decide, h⟩
          · exact ⟨(58, 58), by decide, h⟩
          · exact ⟨(60, 62), by decide, h⟩
          · exact ⟨(64, 255), by decide, h⟩
        obtain ⟨ρ, s1, n1, r9, -⟩ := yt_sat (xs := xs) (s := q) (w := (0, 120)) (gg := (0, 4)) (nn := sx_r32) (d := (0, 0)) hL hW (by omega) hq1 z32 b2 b5 w13 d15
        obtain ⟨okl, el⟩ := yt_l1 (m := (yt_t q (0, 120) (0, 4) sx_r32 (0, 0)).1) (fun c => sx_ck2 s1 c) (by rw [n1]; decide) r9 z32
        refine og_use (Ts := yg_T 85 ts_1 yg_w) (lv := tl_1) (s := []) (List.all_eq_true.mp yg_c4 q hq) (by rfl) s1 okl (fun v hv => by cases hv) (Nat.le_refl _) el rfl (fun T hT ρ' M' x h0 hm' hc hM => ?_)
        rw [n1] at x
        have q9 := og_v x (show 9 < 18 by decide) r9
        rw [List.mem_singleton.mp hT] at hM ⊢
        obtain ⟨hf', hW'⟩ := yg_0 h0 yh_f_rf hW hm' hM
        show rz_fin _ L xs 35 11 85 [] (sx_cs1 ρ' ts_1) M'
        rw [ts_el q9]
        exact tk_go1 (d := 10) (d' := 10) tk_f35c rfl (Nat.le_of_ble_eq_true rfl) z32 (Nat.le_refl _) (yp_all hL hi hf' hW' hz) (fun r M2 hR => yg_after rfl hR)
-- all signs
/-- what taking the tape may change -/
def yv_f (M M' : Nat → Nat → Int) : Prop := ∀ a, a < 128 → a ≠ 14 → a ≠ 16 → a ≠ 17 → a ≠ 18 → M' a = M a
def yv_g (M M' : Nat → Nat → Int) : Prop := ∀ j, ¬ (6 ≤ j ∧ j ≤ 15) → M' 14 j = M 14 j
def yv_s0 (n : Int) : yk_S := ([], [], 0, 0, 0, n, -1, true)
/-- the program is taken; or it falls at v -/
def yv_R (M : Nat → Nat → Int) (N : Nat) (v : Int) (M' : Nat → Nat → Int) : Prop := yv_f M M' ∧ yv_g M M' ∧ M' 14 6 = 0 ∧ ((∃ D P o b g n j, yk_run (M 15) 0 N (yv_s0 (M 14 13)) = some (D, P, o, b, g, n, j, false) ∧ ¬ 0 < b ∧ v = -1 ∧ M' 14 7 = ((yk_el D P j).length : Int) ∧ yh_D (M' 16) (yk_el D P j).length = yk_el D P j) ∨ (∃ f s, f ≤ N ∧ v = (f : Int) ∧ yk_run (M 15) 0 f (yv_s0 (M 14 13)) = some s ∧ ((f < N ∧ yk_go s (M 15 f) = none) ∨ (f = N ∧ (s.2.2.2.2.2.2.2 = true ∨ 0 < s.2.2.2.1))) ∧ M' 14 7 = M 14 7 ∧ M' 16 = M 16))
/-- before sign i -/
def yv_I (M0 : Nat → Nat → Int) (i : Nat) (s : yk_S) (M : Nat → Nat → Int) : Prop := yh_W (i : Int) s M ∧ yk_run (M0 15) 0 i (yv_s0 (M0 14 13)) = some s ∧ yv_f M0 M ∧ yv_g M0 M ∧ M 14 6 = 0 ∧ M 14 7 = M0 14 7 ∧ M 16 = M0 16
theorem yv_on {i : Nat} {s : yk_S} (h : yv_I M0 i s M) (hm : sx_mok cl_ly M') (e : ∀ a, a < 128 → M' a = M a) : yv_I M0 i s M' := by
  obtain ⟨h1, h2, h3, h4, h5, h6, h7⟩ := h
  refine ⟨yh_W_on h1 hm e, h2, fun a ha a1 a2 a3 a4 => by rw [e a ha]; exact h3 a ha a1 a2 a3 a4, fun j hj => by rw [e 14 (by decide)]; exact h4 j hj, by rw [e 14 (by decide)]; exact h5, by rw [e 14 (by decide)]; exact h6, by rw [e 16 (by decide)]; exact h7⟩
theorem yv_next {i : Nat} {s u : yk_S} (h : yv_I M0 i s M) (hg : yk_go s (M0 15 i) = some u) (hf : yh_f M M') (hW : yh_W ((i : Int) + 1) u M') : yv_I M0 (i + 1) u M' := by
  obtain ⟨h1, h2, h3, h4, h5, h6, h7⟩ := h
  refine ⟨hW, ?_, fun a ha a1 a2 a3 a4 => by rw [hf.1 a ha a1 a3 a4]; exact h3 a ha a1 a2 a3 a4, fun j hj => by rw [hf.2 j (by omega)]; exact h4 j hj, by rw [hf.2 6 (by decide)]; exact h5, by rw [hf.2 7 (by decide)]; exact h6, by rw [hf.1 16 (by decide) (by decide) (by decide) (by decide)]; exact h7⟩
  rw [yk_run_add _ i 1 0 _ _ h2, Nat.zero_add]
  exact yk_run_one hg
-- from 17 on: 9 is i, 10 the length, 11 due, 12 brackets, 13 the sign
def yv_f2 : List ct_G := [(14, 15, (0, 1)), (14, 11, (0, 120))]
noncomputable def yv_t : sx_S := (sx_frl (og_t [(0, (0, 119)), (0, (1, 120))] []) 15 (9, 0) (0, 255)).2
theorem yv_c1 : gs_chk tst_t (fun u => [((some 28, none, [(0, 11, 0), (2, 0, 14)], tt_l, [], [og_l 9 10 0]) : og_T), (none, some (0, 10, 0), [], [], [], [og_nl 9 10 0]), (some 59, none, [(2, 0, 14)], tl_0, [], [og_nl 9 10 0])].any (og_chk yv_t u)) 300 300 12 33 17 tt_l [(0, 9, 0)] yv_t = true := by decide +kernel
noncomputable def yv_t2 : sx_S := og_t [(0, (0, 120)), (0, (0, 120))] yv_f2
def yv_T2 : List og_T := [(some 28, none, [(0, 13, 0), (2, 0, 14)], [], [], [og_l 9 10 0]), (none, some (0, 10, 0), [], [], [], [og_nl 9 10 0, og_b 11 1 1]), (none, some (0, 10, 0), [], [], [], [og_nl 9 10 0, og_b 11 0 0, og_b 12 1 120]), (some 59, none, [(2, 0, 14)], tl_0, [], [og_nl 9 10 0, og_b 11 0 0, og_b 12 0 0])]
theorem yv_c2 : gs_chk tst_t (fun u => yv_T2.any (og_chk yv_t2 u)) 300 300 12 33 17 tt_l [(0, 9, 0)] yv_t2 = true := by decide +kernel
noncomputable def yv_t3 : sx_S := og_t [(0, (0, 120)), (0, (0, 120))] []
theorem yv_c3 : gs_chk (fun pc => Nat.beq pc 16) (fun u => [((some 16, none, [], [(0, 2, 0, 14), (1, 0, 10, 0), (2, 0, 9, 1)], [], []) : og_T)].any (og_chk yv_t3 u)) 300 300 12 33 31 tt_l [(0, 0, 1)] yv_t3 = true := by decide +kernel
theorem yv_c4 : gs_chk (fun _ => false) (fun u => [((none, some (0, 9, 0), [], [], [], []) : og_T)].any (og_chk yv_t3 u)) 300 300 12 33 31 tt_l [(0, 0, 0)] yv_t3 = true := by decide +kernel
theorem yv_c5 : gs_chk (fun pc => Nat.beq pc 75) (fun u => [((some 75, none, [(0, 0, 256), (0, 0, 0), (2, 0, 16), (0, 0, 0), (2, 0, 17)], tl_0, [], []) : og_T)].any (og_chk (og_t [] []) u)) 300 300 12 33 62 tl_0 [] (og_t [] []) = true := by decide +kernel
noncomputable def yv_t6 : sx_S := og_t [] [(14, 8, (0, 256))]
theorem yv_c6 : gs_chk (fun _ => false) (fun u => [((none, some (0, 0, -1), [], [], [(14, (0, 7), (9, 0))], []) : og_T)].any (og_chk yv_t6 u)) 300 300 12 33 78 tl_0 [] yv_t6 = true := by decide +kernel
theorem yv_f75 : (sm_MT 33).2.2.2.2.2 75 = some (.invokestatic 51, 3) := rfl
theorem yv_lk : sm_LK (sm_MT 33).1 51 = some (12, 0, 0, 0) := rfl
theorem yv_mok (hm : sx_mok cl_ly M) : sx_mok cl_ly (fun k => if k = 16 then va_cpy (M 17) (M 16) (0 : Int).toNat (0 : Int).toNat (256 : Int).toNat else M k) := by
  intro k hh x r a b f
  show sx_w r ((if k = 16 then va_cpy (M 17) (M 16) 0 0 256 else M k) x)
  by_cases ek : k = 16
  · rw [if_pos ek]
    unfold va_cpy
    split
    · rename_i hx
      subst ek
      cases a
      cases f
      exact tk_m17 hm (k := 0 + (x - 0)) (by omega)
    · rw [← ek]
      exact hm k hh x r a b f
  · rw [if_neg ek]
    exact hm k hh x r a b f
def yv_Q (M0 : Nat → Nat → Int) (N : Nat) (r : Option Value) (M' : Nat → Nat → Int) : Prop := ∃ v : Int, r = some (.int (Int32.ofInt v)) ∧ -1 ≤ v ∧ v ≤ 120 ∧ sx_mok cl_ly M' ∧ yv_R M0 N v M'
/-- behind endLine -/
theorem yv_end (hL : L < 2 ^ 31) {N : Nat} {s : yk_S} (hI : yv_I M0 N s M1) (hs : s = (D, P, o, b, g, n, j, false)) (hb : ¬ 0 < b) (hm : sx_mok cl_ly M) (hf : yh_f M1 M) (e : yh_s M = (yk_el D P j, yk_sp 1 P, o, b, g, n, -1, false)) (h8 : 0 ≤ M 14 8) (hle : (yk_el D P j).length ≤ 256) : rz_fin (yv_Q M0 N) L xs 33 12 62 [(0, .ref 14)] [] M := by
  obtain ⟨-, h2, h3, h4, h5, h6, h7⟩ := hI
  obtain ⟨e1, -⟩ := yh_eq e
  have l8 : M 14 8 = ((yk_el D P j).length : Int) := by
    have := yh_D_len (M 17) (M 14 8).toNat
    rw [e1] at this
    omega
  obtain ⟨ρ, s1, n1, -, -⟩ := og_sat (xs := xs) (gs := []) (zs := []) (fs := []) hL hm trivial (fun g hg => by cases hg)
  refine og_use (lv := tl_0) (s := []) yv_c5 (by rfl) s1 (tl_okl0 (sx_ck2 s1 _)) (fun v hv => by cases hv) (Nat.le_refl _) rfl rfl (fun T hT ρ' M' x h0 hm' hc hM => ?_)
  rw [List.mem_singleton.mp hT] at hM ⊢
  have hM : ∀ a, a < 128 → M' a = M a := hM
  show rz_fin _ L xs 33 12 75 [(0, .ref 14)] [sx_cv1 ρ' (0, 0, 256), sx_cv1 ρ' (0, 0, 0), .ref 16, sx_cv1 ρ' (0, 0, 0), .ref 17] M'
  rw [tk_cv h0, tk_cv h0]
  refine rz_cp yv_f75 yv_lk (g := (0, 0, 256, (-1100, 9999), [])) (h9 := (0, 0, 256, (-1100, 9999), [])) rfl rfl (by decide) (by decide) (by decide) (by decide) (by decide) (by decide) ?_
  have k1 : sx_mok cl_ly (fun k => if k = 16 then va_cpy (M' 17) (M' 16) (0 : Int).toNat (0 : Int).toNat (256 : Int).toNat else M' k) := yv_mok hm'
  have k2 : ∀ a, a < 128 → a ≠ 16 → (fun k => if k = 16 then va_cpy (M' 17) (M' 16) (0 : Int).toNat (0 : Int).toNat (256 : Int).toNat else M' k) a = M a := fun a ha h => by
    show (if a = 16 then _ else M' a) = _
    rw [if_neg h, hM a ha]
  have k3 : ∀ i, i < 256 → (fun k => if k = 16 then va_cpy (M' 17) (M' 16) (0 : Int).toNat (0 : Int).toNat (256 : Int).toNat else M' k) 16 i = M 17 i := fun i hi => by
    show (if (16 : Nat) = 16 then va_cpy (M' 17) (M' 16) 0 0 256 else M' 16) i = _
    rw [if_pos rfl]
    unfold va_cpy
    rw [if_pos (by omega), hM 17 (by decide), show 0 + (i - 0) = i by omega]
  generalize (fun k => if k = 16 then va_cpy (M' 17) (M' 16) (0 : Int).toNat (0 : Int).toNat (256 : Int).toNat else M' k) = N2 at k1 k2 k3 ⊢
  have k14 := k2 14 (by decide) (by decide)
  obtain ⟨ρ2, s2, n2, -, q2⟩ := og_sat (xs := xs) (gs := []) (zs := []) (fs := [(14, 8, (0, 256))]) hL k1 trivial (fun q hq => by
    rw [List.mem_singleton.mp hq]
    exact og_f k1 rfl (show cv_ly cl_ly (14, 8, sx_r32) = true by decide +kernel) (by rw [k14]; exact ⟨h8, by show M 14 8 ≤ (256 : Int); omega⟩))
  have r9 : ρ2 9 = N2 14 8 := q2 0 _ rfl
  refine og_use (lv := tl_0) (s := []) yv_c6 (by rfl) s2 (tl_okl0 (sx_ck2 s2 _)) (fun v hv => by cases hv) (Nat.le_refl _) rfl rfl (fun T hT ρ3 M3 x3 h03 hm3 hc3 hM3 => ?_)
  have n2 : yv_t6.1 = 10 := n2
  rw [n2] at x3
  have q9 := og_v x3 (show 9 < 10 by decide) r9
  rw [List.mem_singleton.mp hT] at hM3 ⊢
  have hM3 : ∀ a, a < 128 → M3 a = sx_up N2 14 (sx_val ρ3 (0, ((7 : Nat) : Int))).toNat (sx_val ρ3 (9, 0)) a := hM3
  rw [yw_n h03, og_v0 q9] at hM3
  have h14 : ∀ k, M3 14 k = if k = 7 then M 14 8 else M 14 k := fun k => by
    rw [hM3 14 (by decide), ← k14]; simp [sx_up]
  have hoth : ∀ a, a < 128 → a ≠ 14 → M3 a = N2 a := fun a ha g1 => by rw [hM3 a ha, sh_une g1]
  refine ⟨-1, congrArg some (tk_cv h03 (-1)), by decide, by decide, hm3, fun a ha a1 a2 a3 a4 => ?_, fun k hk => ?_, ?_, Or.inl ⟨D, P, o, b, g, n, j, by rw [← hs]; exact h2, hb, rfl, ?_, ?_⟩⟩
  · rw [hoth a ha a1, k2 a ha a2, hf.1 a ha a1 a3 a4]
    exact h3 a ha a1 a2 a3 a4
  · rw [h14, if_neg (by omega), hf.2 k (by omega)]
    exact h4 k hk
  · rw [h14, if_neg (by decide), hf.2 6 (by decide)]
    exact h5
  · rw [h14, if_pos rfl, l8]
  · rw [hoth 16 (by decide) (by decide), yh_D_on (f := M 17) (fun k hk => k3 k (by omega)), ← e1, yh_D_len]
theorem yv_loop (hL : L < 2 ^ 31) {N : Nat} (hN : N ≤ 120) : ∀ (m i : Nat) (s : yk_S) (M : Nat → Nat → Int), N - i = m → i ≤ N → yv_I M0 i s M → (∀ k, k < N → 0 ≤ M0 15 k ∧ M0 15 k ≤ 255) → rz_fin (yv_Q M0 N) L xs 33 12 16 (tt_v (N : Int) (i : Int)) [] M := by
  intro m
  induction m with
  | zero =>
    intro i s M hm hi hI hT
    have ei : i = N := by omega
    subst ei
    obtain ⟨D, P, o, b, g, n, j, due⟩ := s
    have hW := hI.1
    obtain ⟨b1, b2, b3, b4, b5, b6, b7, b8, b9, b10⟩ := yh_bd hW (by omega)
    obtain ⟨w1, w2, w3, w4, w5⟩ := id hW
    obtain ⟨e1, e2, e3, e4, e5, e6, e7, e8⟩ := yh_eq w4
    refine rz_il tt_f16 rfl ?_
    obtain ⟨ρ, s1, n1, r, r'⟩ := og_sat (xs := xs) (gs := [(0, (0, 120)), (0, (0, 120))]) (zs := [(i : Int), (i : Int)]) (fs := yv_f2) hL w1 ⟨og_z rfl (by show (0 : Int) ≤ _; omega) (by show _ ≤ (120 : Int); omega) (og_w32 (by omega) (by omega)), og_z rfl (by show (0 : Int) ≤ _; omega) (by show _ ≤ (120 : Int); omega) (og_w32 (by omega) (by omega)), trivial⟩ (fun q hq => by
      simp only [yv_f2, List.mem_cons, List.not_mem_nil, or_false] at hq
      rcases hq with rfl | rfl
      · exact og_f w1 rfl (show cv_ly cl_ly (14, 15, sx_r32) = true by decide +kernel) b7
      · exact og_f w1 rfl (show cv_ly cl_ly (14, 11, sx_r32) = true by decide +kernel) b4)
    have n1 : yv_t2.1 = 13 := n1
    have r9 : ρ 9 = (i : Int) := r 0 _ rfl
    have r10 : ρ 10 = (i : Int) := r 1 _ rfl
    have r11 : ρ 11 = M 14 15 := r' 0 _ rfl
    have r12 : ρ 12 = M 14 11 := r' 1 _ rfl
    obtain ⟨okl, el⟩ := tt_okl (t := yv_t2) (fun c => sx_ck2 s1 c) (by rw [n1]; decide) r9 r10 ⟨by omega, by omega⟩ ⟨by omega, by omega⟩
    refine og_use (Ts := yv_T2) (lv := tt_l) (s := [(0, 9, 0)]) yv_c2 (by rfl) s1 okl (fun v hv => by
      rw [List.mem_singleton.mp hv]
      exact tk_ok0 (by rw [n1]; decide) (by rw [r9]; exact og_w32 (by omega) (by omega))) (Nat.le_refl _) el (by show [sx_cv1 ρ (0, 9, 0)] = _; rw [og_int r9]) (fun T hT' ρ' M' x h0 hm' hc hM => ?_)
    rw [n1] at x
    have q9 := og_v x (show 9 < 13 by decide) r9
    have q10 := og_v x (show 10 < 13 by decide) r10
    have q11 := og_v x (show 11 < 13 by decide) r11
    have q12 := og_v x (show 12 < 13 by decide) r12
    have e15 := yh_15 hW
    have falls : (due = true ∨ 0 < b) → (∀ a, a < 128 → M' a = M a) → yv_Q M0 i (some (sx_cv1 ρ' (0, 10, 0))) M' := fun h hM => by
      obtain ⟨-, j2, j3, j4, j5, j6, j7⟩ := yv_on hI hm' hM
      refine ⟨(i : Int), congrArg some (og_int q10), by omega, by omega, hm', j3, j4, j5, Or.inr ⟨i, _, Nat.le_refl _, rfl, j2, Or.inr ⟨rfl, h⟩, j6, j7⟩⟩
    simp only [yv_T2, List.mem_cons, List.not_mem_nil, or_false] at hT'
    rcases hT' with rfl | rfl | rfl | rfl
    · obtain ⟨c1, -⟩ := hc
      have c1 : ρ' 9 < ρ' 10 + 0 := c1
      omega
    · obtain ⟨-, ⟨c1, c2⟩, -⟩ := hc
      have c1 : 1 ≤ sx_val ρ' (11, 0) := c1
      rw [og_v0 q11, e15] at c1
      refine falls (Or.inl ?_) hM
      cases due with
      | true => rfl
      | false => exact absurd c1 (by decide)
    · obtain ⟨-, -, ⟨c1, c2⟩, -⟩ := hc
      have c1 : 1 ≤ sx_val ρ' (12, 0) := c1
      rw [og_v0 q12, e4] at c1
      exact falls (Or.inr (by omega)) hM
    · obtain ⟨-, ⟨c1, c2⟩, ⟨c3, c4⟩, -⟩ := hc
      have c2 : sx_val ρ' (11, 0) ≤ 0 := c2
      have c4 : sx_val ρ' (12, 0) ≤ 0 := c4
      rw [og_v0 q11, e15] at c2
      rw [og_v0 q12, e4] at c4
      have hdue : due = false := by
        cases due with
        | false => rfl
        | true => exact absurd c2 (by decide)
      subst hdue
      have hI1 := yv_on hI hm' hM
      show rz_fin _ L xs 33 12 59 [(0, .ref 14)] [.ref 14] M'
      refine tk_go0 (d := 6) (d' := 11) tt_f59 rfl (Nat.le_of_ble_eq_true rfl) (by decide) (yl_all hL (by omega) hI1.1) (fun r M2 hR => ?_)
      obtain ⟨rfl, f1, f2, f3, f4, f5⟩ := hR
      refine yv_end hL hI1 rfl (by omega) f2 f1 f5 f3 ?_
      have := yk_el_len (D := D) (P := P) (j := j)
      have p3 := (yk_sp_ok (Int.le_refl 1) P).2.2.1 D
      have i3 : (D.length : Int) + (P.length : Int) ≤ 2 * (i : Int) := w5.2.2.1
      omega
  | succ m ih =>
    intro i s M hm hi hI hT
    have hlt : i < N := by omega
    have hW := hI.1
    have w1 := hW.1
    refine rz_il tt_f16 rfl ?_
    have e15' : M 15 = M0 15 := hI.2.2.1 15 (by decide) (by decide) (by decide) (by decide) (by decide)
    have hz := hT i hlt
    obtain ⟨ρ1, s1, n1, r, -⟩ := og_sat (xs := xs) (gs := [(0, (0, 119)), (0, (1, 120))]) (zs := [(i : Int), (N : Int)]) (fs := []) hL w1 ⟨og_z rfl (by show (0 : Int) ≤ _; omega) (by show _ ≤ (119 : Int); omega) (og_w32 (by omega) (by omega)), og_z rfl (by show (1 : Int) ≤ _; omega) (by show _ ≤ (120 : Int); omega) (og_w32 (by omega) (by omega)), trivial⟩ (fun q hq => by cases hq)
    have n1 : (og_t [(0, (0, 119)), (0, (1, 120))] []).1 = 11 := n1
    have r9 : ρ1 9 = (i : Int) := r 0 _ rfl
    have r10 : ρ1 10 = (N : Int) := r 1 _ rfl
    have v9 : sx_val ρ1 (9, 0) = (i : Int) := og_v0 r9
    obtain ⟨ρ, x2, s2, r11⟩ := tg_rd (k := 15) (i := (9, 0)) (r := (0, 255)) (n := 11) s1 n1 (by decide) (by decide) (by rw [v9]; omega) (by rw [v9, Int.toNat_natCast, e15']; exact hz) (by rw [v9, Int.toNat_natCast, e15', sx_r64_iff]; omega)
    rw [v9, Int.toNat_natCast, e15'] at r11
    have p9 : ρ 9 = (i : Int) := by rw [x2 9 (by decide)]; exact r9
    have p10 : ρ 10 = (N : Int) := by rw [x2 10 (by decide)]; exact r10
    have n2 : yv_t.1 = 12 := by
      show (og_t [(0, (0, 119)), (0, (1, 120))] []).1 + 1 = 12
      rw [n1]
    obtain ⟨okl, el⟩ := tt_okl (t := yv_t) (fun c => sx_ck2 s2 c) (by rw [n2]; decide) p9 p10 ⟨by omega, by omega⟩ ⟨by omega, by omega⟩
    refine og_use (lv := tt_l) (s := [(0, 9, 0)]) yv_c1 (by rfl) s2 okl (fun v hv => by
      rw [List.mem_singleton.mp hv]
      exact tk_ok0 (by rw [n2]; decide) (by rw [p9]; exact og_w32 (by omega) (by omega))) (Nat.le_refl _) el (by show [sx_cv1 ρ (0, 9, 0)] = _; rw [og_int p9]) (fun T hT' ρ' M' x h0 hm' hc hM => ?_)
    rw [n2] at x
    have q9 := og_v x (show 9 < 12 by decide) p9
    have q10 := og_v x (show 10 < 12 by decide) p10
    have q11 := og_v x (show 11 < 12 by decide) r11
    simp only [List.mem_cons, List.not_mem_nil, or_false] at hT'
    rcases hT' with rfl | rfl | rfl
    · have hI1 := yv_on hI hm' hM
      show rz_fin _ L xs 33 12 28 (sx_cl1 ρ' tt_l) [sx_cv1 ρ' (0, 11, 0), .ref 14] M'
      rw [tt_el q9 q10, og_int q11]
      refine tk_go1 (d := 11) (d' := 11) tt_f28 rfl (Nat.le_of_ble_eq_true rfl) (og_w32 (by omega) (by omega)) (Nat.le_refl _) (yg_all hL (by omega) hI1.1 hz) (fun r M2 hR => ?_)
      obtain ⟨v, rfl, m2, f2, hcase⟩ := hR
      obtain ⟨ρ3, s3, n3, r3, -⟩ := og_sat (xs := xs) (gs := [(0, (0, 120)), (0, (0, 120))]) (zs := [(i : Int), (N : Int)]) (fs := []) hL m2 ⟨og_z rfl (by show (0 : Int) ≤ _; omega) (by show _ ≤ (120 : Int); omega) (og_w32 (by omega) (by omega)), og_z rfl (by show (0 : Int) ≤ _; omega) (by show _ ≤ (120 : Int); omega) (og_w32 (by omega) (by omega)), trivial⟩ (fun q hq => by cases hq)
      have n3 : yv_t3.1 = 11 := n3
      have t9 : ρ3 9 = (i : Int) := r3 0 _ rfl
      have t10 : ρ3 10 = (N : Int) := r3 1 _ rfl
      obtain ⟨okl3, el3⟩ := tt_okl (t := yv_t3) (fun c => sx_ck2 s3 c) (by rw [n3]; decide) t9 t10 ⟨by omega, by omega⟩ ⟨by omega, by omega⟩
      rcases hcase with ⟨rfl, u, hu, hWu⟩ | ⟨rfl, hu⟩
      · have hI2 := yv_next hI1 hu f2 hWu
        refine og_use (lv := tt_l) (s := [(0, 0, 1)]) yv_c3 (by rfl) s3 okl3 (fun v hv => by
          rw [List.mem_singleton.mp hv]
          exact ⟨by rw [n3]; decide, fun _ => by rw [sx_v0 s3]; exact tk_w1, fun h => by cases h⟩) (Nat.le_refl _) el3 (by show [sx_cv1 ρ3 (0, 0, 1)] = _; rw [tk_cv s3.2.1]; rfl) (fun T hT4 ρ4 M4 x4 h04 hm4 hc4 hM4 => ?_)
        rw [n3] at x4
        have z9 := og_v x4 (show 9 < 11 by decide) t9
        have z10 := og_v x4 (show 10 < 11 by decide) t10
        rw [List.mem_singleton.mp hT4] at hM4 ⊢
        have el4 : sx_cl1 ρ4 [(0, 2, 0, 14), (1, 0, 10, 0), (2, 0, 9, 1)] = tt_v (N : Int) ((i + 1 : Nat) : Int) := by
          show [(0, Value.ref 14), (1, sx_cv1 ρ4 (0, 10, 0)), (2, sx_cv1 ρ4 (0, 9, 1))] = _
          rw [og_int z10, sx_cvk0 (v := (0, 9, 1)) rfl, og_vv (c := 1) z9]
          rfl
        show rz_fin _ L xs 33 12 16 (sx_cl1 ρ4 [(0, 2, 0, 14), (1, 0, 10, 0), (2, 0, 9, 1)]) [] M4
        rw [el4]
        exact ih (i + 1) u M4 (by omega) (by omega) (yv_on hI2 hm4 hM4) hT
      · refine og_use (lv := tt_l) (s := [(0, 0, 0)]) yv_c4 (by rfl) s3 okl3 (fun v hv => by
          rw [List.mem_singleton.mp hv]
          exact ⟨by rw [n3]; decide, fun _ => by rw [sx_v0 s3]; exact sx_w0, fun h => by cases h⟩) (Nat.le_refl _) el3 (by show [sx_cv1 ρ3 (0, 0, 0)] = _; rw [tk_cv s3.2.1]; rfl) (fun T hT4 ρ4 M4 x4 h04 hm4 hc4 hM4 => ?_)
        rw [n3] at x4
        have z9 := og_v x4 (show 9 < 11 by decide) t9
        rw [List.mem_singleton.mp hT4] at hM4 ⊢
        have hM4 : ∀ a, a < 128 → M4 a = M2 a := hM4
        obtain ⟨j1, j2, j3, j4, j5, j6, j7⟩ := hI1
        refine ⟨(i : Int), congrArg some (og_int z9), by omega, by omega, hm4, fun a ha a1 a2 a3 a4 => ?_, fun k hk => ?_, ?_, Or.inr ⟨i, s, by omega, rfl, j2, Or.inl ⟨hlt, hu⟩, ?_, ?_⟩⟩
        · rw [hM4 a ha, f2.1 a ha a1 a3 a4]; exact j3 a ha a1 a2 a3 a4
        · rw [hM4 14 (by decide), f2.2 k (by omega)]; exact j4 k hk
        · rw [hM4 14 (by decide), f2.2 6 (by decide)]; exact j5
        · rw [hM4 14 (by decide), f2.2 7 (by decide)]; exact j6
        · rw [hM4 16 (by decide), f2.1 16 (by decide) (by decide) (by decide) (by decide)]; exact j7
    · obtain ⟨c1, -⟩ := hc
      have c1 : ¬ ρ' 9 < ρ' 10 + 0 := c1
      omega
    · obtain ⟨c1, -⟩ := hc
      have c1 : ¬ ρ' 9 < ρ' 10 + 0 := c1
      omega
noncomputable def yv_t0 : sx_S := og_t [] [(14, 6, (0, 120))]
def yv_w0 : List og_W := [(14, (0, 15), (0, 1)), (14, (0, 14), (0, -1)), (14, (0, 12), (0, 0)), (14, (0, 11), (0, 0)), (14, (0, 10), (0, 0)), (14, (0, 9), (0, 0)), (14, (0, 8), (0, 0)), (14, (0, 6), (0, 0))]
theorem yv_c0 : gs_chk (fun pc => Nat.beq pc 16) (fun u => [((some 16, none, [], [(0, 2, 0, 14), (1, 0, 9, 0), (2, 0, 0, 0)], yv_w0, []) : og_T)].any (og_chk yv_t0 u)) 300 300 12 33 0 tl_0 [] yv_t0 = true := by decide +kernel
theorem yv_all (hL : L < 2 ^ 31) (hm : sx_mok cl_ly M0) : rz_fin (yv_Q M0 (M0 14 6).toNat) L xs 33 12 0 [(0, .ref 14)] [] M0 := by
  have h6 := cx_fld (c := 14) (k := 6) (lo := 0) (hi := 120) hm (by decide +kernel)
  obtain ⟨ρ, s1, n1, -, r⟩ := og_sat (xs := xs) (gs := []) (zs := []) (fs := [(14, 6, (0, 120))]) hL hm trivial (fun q hq => by
    rw [List.mem_singleton.mp hq]
    exact og_f hm rfl (show cv_ly cl_ly (14, 6, sx_r32) = true by decide +kernel) h6)
  have n1 : (og_t [] [(14, 6, (0, 120))]).1 = 10 := n1
  have r9 : ρ 9 = M0 14 6 := r 0 _ rfl
  refine og_use (lv := tl_0) (s := []) yv_c0 (by rfl) s1 (tl_okl0 (sx_ck2 s1 _)) (fun v hv => by cases hv) (Nat.le_refl _) rfl rfl (fun T hT ρ' M' x h0 hm' hc hM => ?_)
  rw [show yv_t0.1 = 10 from n1] at x
  have q9 := og_v x (show 9 < 10 by decide) r9
  rw [List.mem_singleton.mp hT] at hM ⊢
  have hM : ∀ a, a < 128 → M' a = sx_up (sx_up (sx_up (sx_up (sx_up (sx_up (sx_up (sx_up M0 14 (sx_val ρ' (0, ((6 : Nat) : Int))).toNat (sx_val ρ' (0, 0))) 14 (sx_val ρ' (0, ((8 : Nat) : Int))).toNat (sx_val ρ' (0, 0))) 14 (sx_val ρ' (0, ((9 : Nat) : Int))).toNat (sx_val ρ' (0, 0))) 14 (sx_val ρ' (0, ((10 : Nat) : Int))).toNat (sx_val ρ' (0, 0))) 14 (sx_val ρ' (0, ((11 : Nat) : Int))).toNat (sx_val ρ' (0, 0))) 14 (sx_val ρ' (0, ((12 : Nat) : Int))).toNat (sx_val ρ' (0, 0))) 14 (sx_val ρ' (0, ((14 : Nat) : Int))).toNat (sx_val ρ' (0, -1))) 14 (sx_val ρ' (0, ((15 : Nat) : Int))).toNat (sx_val ρ' (0, 1)) a := hM
  rw [yw_n h0, yw_n h0, yw_n h0, yw_n h0, yw_n h0, yw_n h0, yw_n h0, yw_n h0, og_c h0, og_c h0, og_c h0] at hM
  have h14 : ∀ k, M' 14 k = if k = 15 then 1 else if k = 14 then -1 else if k = 12 then 0 else if k = 11 then 0 else if k = 10 then 0 else if k = 9 then 0 else if k = 8 then 0 else if k = 6 then 0 else M0 14 k := fun k => by
    rw [hM 14 (by decide)]; simp [sx_up]
  have hoth : ∀ a, a < 128 → a ≠ 14 → M' a = M0 a := fun a ha g1 => by
    rw [hM a ha, sh_une g1, sh_une g1, sh_une g1, sh_une g1, sh_une g1, sh_une g1, sh_une g1, sh_une g1]
  have f8 : M' 14 8 = 0 := h14 8
  have f9 : M' 14 9 = 0 := h14 9
  have f13 : M' 14 13 = M0 14 13 := h14 13
  have ela : sx_cl1 ρ' [(0, 2, 0, 14), (1, 0, 9, 0), (2, 0, 0, 0)] = tt_v ((M0 14 6).toNat : Int) ((0 : Nat) : Int) := by
    show [(0, Value.ref 14), (1, sx_cv1 ρ' (0, 9, 0)), (2, sx_cv1 ρ' (0, 0, 0))] = _
    rw [og_int q9, tk_cv h0, Int.toNat_of_nonneg h6.1]
    rfl
  show rz_fin _ L xs 33 12 16 (sx_cl1 ρ' [(0, 2, 0, 14), (1, 0, 9, 0), (2, 0, 0, 0)]) [] M'
  rw [ela]
  refine yv_loop hL (by omega) _ 0 (yv_s0 (M0 14 13)) M' rfl (Nat.zero_le _) ⟨⟨hm', by omega, by omega, yh_mk ?_ ?_ (h14 10) (h14 11) (h14 12) f13 (h14 14) ?_, ?_⟩, rfl, fun a ha a1 _ _ _ => hoth a ha a1, fun k hk => ?_, h14 6, h14 7, hoth 16 (by decide) (by decide)⟩ (fun k hk => hm 15 _ k _ rfl (by show k < 120; omega) rfl)
  · rw [f8]; rfl
  · rw [f9]; rfl
  · rw [show M' 14 15 = 1 from h14 15]; rfl
  · exact yk_inv_mk (fun p hp => by cases hp) (by decide) (by decide) (by decide) (by decide) (by decide) (by decide) (by decide) (by decide) (Or.inl rfl)
  · rw [h14, if_neg (by omega), if_neg (by omega), if_neg (by omega), if_neg (by omega), if_neg (by omega), if_neg (by omega), if_neg (by omega), if_neg (by omega)]
-- law()
def yw_l : sx_L := [(0, 2, 0, 8)]
theorem yw_c1 : gs_chk (fun pc => Nat.beq pc 4) (fun u => [((some 4, none, [(2, 0, 14)], [(0, 2, 0, 8)], [], []) : og_T)].any (og_chk (og_t [] []) u)) 300 300 13 32 0 yw_l [] (og_t [] []) = true := by decide +kernel
noncomputable def yw_t2 : sx_S := og_t [(0, (-1, 120))] []
def yw_T2 : List og_T := [(none, some (0, 0, 1), [], [], [], [og_b 9 (-1) (-1)]), (none, some (0, 10, 0), [], [], [], [og_b 9 0 120, (5, (0, -100), (9, 0), 1, 10)])]
theorem yw_c2 : gs_chk (fun _ => false) (fun u => yw_T2.any (og_chk yw_t2 u)) 300 300 13 32 7 yw_l [(0, 9, 0)] yw_t2 = true := by decide +kernel
/-- what law() answers for a fall, or none -/
def yw_v (v : Int) : Int := if v < 0 then 1 else -100 - v
theorem yw_f4 : (sm_MT 32).2.2.2.2.2 4 = some (.invokevirtual 151, 3) := rfl
theorem yw_all (hL : L < 2 ^ 31) (hm : sx_mok cl_ly M0) : rz_fin (fun r M' => ∃ v : Int, r = some (.int (Int32.ofInt (yw_v v))) ∧ -1 ≤ v ∧ v ≤ 120 ∧ sx_mok cl_ly M' ∧ yv_R M0 (M0 14 6).toNat v M') L xs 32 13 0 [(0, .ref 8)] [] M0 := by
  have key : ∀ {M : Nat → Nat → Int}, sx_mok cl_ly M → (∀ a, a < 128 → M a = M0 a) → rz_fin (yv_Q M0 (M0 14 6).toNat) L xs 33 12 0 [(0, .ref 14)] [] M := fun {M} hm e => by
    obtain ⟨F, r, M', h1, v, h2, h3, h4, h5, h6⟩ := yv_all (xs := xs) hL hm
    refine ⟨F, r, M', h1, v, h2, h3, h4, h5, ?_⟩
    unfold yv_R yv_f yv_g at h6 ⊢
    obtain ⟨u1, u2, u3, u4⟩ := h6
    rw [e 14 (by decide)] at u2 u4
    rw [e 15 (by decide), e 16 (by decide)] at u4
    exact ⟨fun a ha a1 a2 a3 a4 => (u1 a ha a1 a2 a3 a4).trans (e a ha), u2, u3, u4⟩
  obtain ⟨ρ, s1, n1, -, -⟩ := og_sat (xs := xs) (gs := []) (zs := []) (fs := []) hL hm trivial (fun g hg => by cases hg)
  refine og_use (lv := yw_l) (s := []) yw_c1 (by rfl) s1 (fun q hq => by rw [List.mem_singleton.mp hq]; exact sx_ck2 s1 _) (fun v hv => by cases hv) (Nat.le_refl _) rfl rfl (fun T hT ρ' M' x h0 hm' hc hM => ?_)
  rw [List.mem_singleton.mp hT] at hM ⊢
  show rz_fin _ L xs 32 13 4 [(0, .ref 8)] [.ref 14] M'
  refine tk_go0 (d := 12) (d' := 12) yw_f4 rfl (Nat.le_of_ble_eq_true rfl) (Nat.le_refl _) (key hm' hM) (fun r M2 hR => ?_)
  obtain ⟨v, rfl, v1, v2, m2, hR⟩ := hR
  obtain ⟨ρ2, s2, n2, r2, -⟩ := og_sat (xs := xs) (gs := [(0, (-1, 120))]) (zs := [v]) (fs := []) hL m2 ⟨og_z rfl v1 v2 (og_w32 (by omega) (by omega)), trivial⟩ (fun q hq => by cases hq)
  have n2 : yw_t2.1 = 10 := n2
  have r9 : ρ2 9 = v := r2 0 _ rfl
  refine og_use (Ts := yw_T2) (lv := yw_l) (s := [(0, 9, 0)]) yw_c2 (by rfl) s2 (fun q hq => by rw [List.mem_singleton.mp hq]; exact sx_ck2 s2 _) (fun w hw => by
    rw [List.mem_singleton.mp hw]
    exact tk_ok0 (by rw [n2]; decide) (by rw [r9]; exact og_w32 (by omega) (by omega))) (Nat.le_refl _) rfl (by show [sx_cv1 ρ2 (0, 9, 0)] = _; rw [og_int r9]; rfl) (fun T hT ρ3 M3 x3 h03 hm3 hc3 hM3 => ?_)
  rw [n2] at x3
  have q9 := og_v x3 (show 9 < 10 by decide) r9
  have fin : (∀ a, a < 128 → M3 a = M2 a) → yv_R M0 (M0 14 6).toNat v M3 := fun e => by
    unfold yv_R yv_f yv_g at hR ⊢
    obtain ⟨u1, u2, u3, u4⟩ := hR
    rw [e 14 (by decide)]
    rw [e 16 (by decide)]
    exact ⟨fun a ha a1 a2 a3 a4 => (e a ha).trans (u1 a ha a1 a2 a3 a4), u2, u3, u4⟩
  simp only [yw_T2, List.mem_cons, List.not_mem_nil, or_false] at hT
  rcases hT with rfl | rfl
  · obtain ⟨⟨c1, c2⟩, -⟩ := hc3
    have c2 : sx_val ρ3 (9, 0) ≤ -1 := c2
    rw [og_v0 q9] at c2
    refine ⟨v, ?_, v1, v2, hm3, fin hM3⟩
    show some (sx_cv1 ρ3 (0, 0, 1)) = _
    rw [tk_cv h03]
    unfold yw_v
    rw [if_pos (by omega)]
  · obtain ⟨⟨c1, c2⟩, c3, -⟩ := hc3
    have c1 : 0 ≤ sx_val ρ3 (9, 0) := c1
    rw [og_v0 q9] at c1
    have c3 : ρ3 10 = sx_mf 1 (sx_val ρ3 (0, -100)) (sx_val ρ3 (9, 0)) := c3
    rw [og_c h03, og_v0 q9, og_sub (og_w32 (by omega) (by omega))] at c3
    refine ⟨v, ?_, v1, v2, hm3, fin hM3⟩
    show some (sx_cv1 ρ3 (0, 10, 0)) = _
    rw [og_int c3]
    unfold yw_v
    rw [if_neg (by omega)]
end
