/-! The class's text: what each sign's method does. -/
section
variable {L : Nat} {xs : Nat → Int32} {M M' M0 M1 M2 : Nat → Nat → Int} {ρ ρ' : Nat → Int} {t : sx_S} {D P : List Int} {o b g n j i z : Int} {due : Bool}
/-- a sign's method answers: 1 and the state that follows, or 0 -/
def yh_Q (i : Int) (M0 : Nat → Nat → Int) (s : Option yk_S) (r : Option Value) (M' : Nat → Nat → Int) : Prop := ∃ v : Int, r = some (.int (Int32.ofInt v)) ∧ sx_mok cl_ly M' ∧ yh_f M0 M' ∧ ((v = 1 ∧ ∃ u, s = some u ∧ yh_W i u M') ∨ (v = 0 ∧ s = none))
theorem yq_1 {u : yk_S} {s : Option yk_S} {v : Option sx_V} (h0 : ρ 0 = 0) (hv : v = some (0, 0, 1)) (hf : yh_f M0 M') (e : s = some u) (hW : yh_W i u M') : yh_Q i M0 s (v.map (sx_cv1 ρ)) M' := by
  subst hv
  exact ⟨1, congrArg some (tk_cv h0 1), hW.1, hf, Or.inl ⟨rfl, u, e, hW⟩⟩
theorem yq_0 {s : Option yk_S} {v : Option sx_V} (h0 : ρ 0 = 0) (hv : v = some (0, 0, 0)) (hm : sx_mok cl_ly M') (hf : yh_f M0 M') (e : s = none) : yh_Q i M0 s (v.map (sx_cv1 ρ)) M' := by
  subst hv
  exact ⟨0, congrArg some (tk_cv h0 0), hm, hf, Or.inr ⟨rfl, e⟩⟩
theorem yh_15 (h : yh_W i (D, P, o, b, g, n, j, due) M) : M 14 15 = if due = true then 1 else 0 := by
  have e8 := (yh_eq h.2.2.2.1).2.2.2.2.2.2.2
  have w15 := cx_fld (c := 14) (k := 15) (lo := 0) (hi := 1) h.1 (by decide +kernel)
  cases due with
  | true => rw [if_pos rfl]; exact of_decide_eq_true e8
  | false =>
    have := of_decide_eq_false e8
    rw [if_neg (by decide)]
    omega
def yo_px (v w : Int) (k : Int) : List og_T := [(none, some (0, 0, 1), [], [], [(14, (0, 9), (11, 1)), (18, (11, 0), (0, w))] ++ (if v = 40 then [(14, (0, 11), (13, 1))] else []) ++ [(14, (0, 10), (12, 1))], [og_b 12 (-120) k]), (none, some (0, 0, 0), [], [], [], [og_b 12 6 120])]
def yo_pl : List (Int × Int) := [(40, 40), (33, 33), (45, 126)]
theorem yo_c1 : (yo_pl.all fun q => gs_chk (fun pc => Nat.beq pc 92) (fun u => (yo_px q.1 q.2 5).any (og_chk (yt_t (q.1, q.1) (0, 120) (0, 4) sx_r32 (0, 1)) u)) 300 300 10 36 0 tl_1 [] (yt_t (q.1, q.1) (0, 120) (0, 4) sx_r32 (0, 1))) = true := by decide +kernel
def yo_Td : List og_T := [(some 92, none, [(2, 0, 14)], [], [(14, (0, 8), (10, 1)), (17, (10, 0), (9, -48)), (14, (0, 13), (10, 0)), (14, (0, 12), (0, 1))], [])]
theorem yo_c2 : gs_chk (fun pc => Nat.beq pc 92) (fun u => yo_Td.any (og_chk (yt_t (48, 57) (0, 120) (0, 4) sx_r32 (0, 1)) u)) 300 300 10 36 0 tl_1 [] (yt_t (48, 57) (0, 120) (0, 4) sx_r32 (0, 1)) = true := by decide +kernel
def yo_nl : List (Int × Int) := [(99, 0), (102, 1), (100, 2), (114, 3), (104, 4), (110, 5)]
def yo_Tn (k : Int) : List og_T := [(some 92, none, [(2, 0, 14)], [], [(14, (0, 8), (10, 1)), (17, (10, 0), (0, -1000 - k))], [])]
theorem yo_c3 : (yo_nl.all fun q => gs_chk (fun pc => Nat.beq pc 92) (fun u => (yo_Tn q.2).any (og_chk (yt_t (q.1, q.1) (0, 120) (0, 4) sx_r32 (0, 1)) u)) 300 300 10 36 0 tl_1 [] (yt_t (q.1, q.1) (0, 120) (0, 4) sx_r32 (0, 1))) = true := by decide +kernel
def yo_gl : List (Int × Int) := [(0, 32), (34, 39), (41, 44), (46, 47), (58, 98), (101, 101), (103, 103), (105, 109), (111, 113), (115, 255)]
theorem yo_c4 : (yo_gl.all fun q => gs_chk (fun pc => Nat.beq pc 92) (fun u => [og_r 0 []].any (og_chk (yt_t q (0, 120) (0, 4) sx_r32 (0, 1)) u)) 300 300 10 36 0 tl_1 [] (yt_t q (0, 120) (0, 4) sx_r32 (0, 1))) = true := by decide +kernel
theorem yk_name_ok (z : Int) : (yk_name z = -1 ∧ z ≠ 99 ∧ z ≠ 102 ∧ z ≠ 100 ∧ z ≠ 114 ∧ z ≠ 104 ∧ z ≠ 110) ∨ (yk_name z ≠ -1 ∧ (z, yk_name z) ∈ yo_nl) := by
  by_cases c1 : z = 99
  · subst c1; exact Or.inr (by decide)
  · by_cases c2 : z = 102
    · subst c2; exact Or.inr (by decide)
    · by_cases c3 : z = 100
      · subst c3; exact Or.inr (by decide)
      · by_cases c4 : z = 114
        · subst c4; exact Or.inr (by decide)
        · by_cases c5 : z = 104
          · subst c5; exact Or.inr (by decide)
          · by_cases c6 : z = 110
            · subst c6; exact Or.inr (by decide)
            · left
              unfold yk_name
              rw [if_neg c1, if_neg c2, if_neg c3, if_neg c4, if_neg c5, if_neg c6]
              exact ⟨rfl, c1, c2, c3, c4, c5, c6⟩
theorem yo_call (hL : L < 2 ^ 31) (hi : i ≤ 120) (hf : yh_f M0 M) (hW : yh_W i (D, P, o, b, g, n, j, true) M) {s : Option yk_S} (e : s = some (yk_fd D P, yk_fp P, yk_fo P o, b, g, n, j, false)) : rz_fin (yh_Q i M0 s) L xs 36 10 92 [] [.ref 14] M :=
  tk_go0 (d := 5) (d' := 9) tk_f36 rfl (Nat.le_of_ble_eq_true rfl) (by decide) (ye_end hL hi hW) (fun r M2 hR => by
    obtain ⟨rfl, hR1, hR2⟩ := hR
    exact tk_one rfl rfl rfl ⟨1, rfl, hR2.1, yh_f_tr hf hR1, Or.inl ⟨rfl, _, e, hR2⟩⟩)
theorem yo_all (hL : L < 2 ^ 31) (hi : i ≤ 119) (hf : yh_f M0 M) (hW : yh_W i (D, P, o, b, g, n, j, true) M) (hz : 0 ≤ z ∧ z ≤ 255) : rz_fin (yh_Q (i + 1) M0 (yk_oper D P o b g n j z)) L xs 36 10 0 (tv_r z) [] M := by
  have z32 : sx_w sx_r32 z := og_w32 (by omega) (by omega)
  obtain ⟨b1, b2, b3, b4, b5, b6, b7, b8, b9, b10⟩ := yh_bd hW (by omega)
  obtain ⟨w1, w2, w3, w4, w5⟩ := id hW
  obtain ⟨e1, e2, e3, e4, e5, e6, e7, e8⟩ := yh_eq w4
  have e9 : ∀ s', yk_oper D P o b g n j z = some s' → yk_inv (i + 1) s' := fun s' h => yk_oper_inv w5 h
  by_cases cp : z = 40 ∨ z = 33 ∨ z = 45
  · -- ( ! -
    obtain ⟨w, hw⟩ : ∃ w, w = (if z = 45 then 126 else z) := ⟨_, rfl⟩
    have hmem : (z, w) ∈ yo_pl := by rcases cp with rfl | rfl | rfl <;> (subst hw; decide)
    obtain ⟨ρ, s, n1, r9, r10, r11, r12, r13, -⟩ := yt_sat (xs := xs) (s := (z, z)) (w := (0, 120)) (gg := (0, 4)) (nn := sx_r32) (d := (0, 1)) hL hW (by omega) ⟨Int.le_refl _, Int.le_refl _⟩ z32 b2 b5 (yw_13 w1) b7
    obtain ⟨okl, el⟩ := yt_l1 (m := (yt_t (z, z) (0, 120) (0, 4) sx_r32 (0, 1)).1) (fun c => sx_ck2 s c) (by rw [n1]; decide) r9 z32
    refine og_use (Ts := yo_px z w 5) (lv := tl_1) (s := []) (List.all_eq_true.mp yo_c1 (z, w) hmem) (by
      have : (yo_pl.all fun q => (yo_px q.1 q.2 5).all fun T => mt_nd (T.2.2.2.1.map fun q => q.1)) = true := by decide +kernel
      exact List.all_eq_true.mp this (z, w) hmem) s okl (fun v hv => by cases hv) (Nat.le_refl _) el rfl (fun T hT ρ' M' x h0 hm' hc hM => ?_)
    rw [n1] at x
    have q11 := og_v x (show 11 < 18 by decide) r11
    have q12 := og_v x (show 12 < 18 by decide) r12
    have q13 := og_v x (show 13 < 18 by decide) r13
    simp only [yo_px, List.mem_cons, List.not_mem_nil, or_false] at hT
    rcases hT with rfl | rfl
    · obtain ⟨⟨c1, c2⟩, -⟩ := hc
      have c2 : sx_val ρ' (12, 0) ≤ 5 := c2
      rw [og_v0 q12, e3] at c2
      have eo : yk_oper D P o b g n j z = some (D, w :: P, o + 1, (if z = 40 then b + 1 else b), g, n, j, true) := by
        unfold yk_oper
        rw [if_pos cp, if_neg (by omega), ← hw]
      have base : ∃ c : Int, (c = if z = 40 then 1 else 0) ∧ (∀ k, M' 14 k = if k = 9 then M 14 9 + 1 else if k = 11 then M 14 11 + c else if k = 10 then M 14 10 + 1 else M 14 k) ∧ (∀ k, M' 18 k = if k = (M 14 9).toNat then w else M 18 k) ∧ ∀ a, a < 128 → a ≠ 14 → a ≠ 18 → M' a = M a := by
        by_cases h40 : z = 40
        · rw [if_pos h40] at hM
          have hM : ∀ a, a < 128 → M' a = sx_up (sx_up (sx_up (sx_up M 14 (sx_val ρ' (0, ((10 : Nat) : Int))).toNat (sx_val ρ' (12, 1))) 14 (sx_val ρ' (0, ((11 : Nat) : Int))).toNat (sx_val ρ' (13, 1))) 18 (sx_val ρ' (11, 0)).toNat (sx_val ρ' (0, w))) 14 (sx_val ρ' (0, ((9 : Nat) : Int))).toNat (sx_val ρ' (11, 1)) a := hM
          rw [yw_n h0, yw_n h0, yw_n h0, og_vv (c := 1) q12, og_vv (c := 1) q13, og_v0 q11, og_c h0, og_vv (c := 1) q11] at hM
          refine ⟨1, by rw [if_pos h40], fun k => ?_, fun k => ?_, fun a ha g1 g2 => ?_⟩
          · rw [hM 14 (by decide)]; simp [sx_up]
          · rw [hM 18 (by decide)]; simp [sx_up]
          · rw [hM a ha, sh_une g1, sh_une g2, sh_une g1, sh_une g1]
        · rw [if_neg h40] at hM
          have hM : ∀ a, a < 128 → M' a = sx_up (sx_up (sx_up M 14 (sx_val ρ' (0, ((10 : Nat) : Int))).toNat (sx_val ρ' (12, 1))) 18 (sx_val ρ' (11, 0)).toNat (sx_val ρ' (0, w))) 14 (sx_val ρ' (0, ((9 : Nat) : Int))).toNat (sx_val ρ' (11, 1)) a := hM
          rw [yw_n h0, yw_n h0, og_vv (c := 1) q12, og_v0 q11, og_c h0, og_vv (c := 1) q11] at hM
          refine ⟨0, by rw [if_neg h40], fun k => ?_, fun k => ?_, fun a ha g1 g2 => ?_⟩
          · rw [hM 14 (by decide)]
            simp only [sx_up, if_pos]
            by_cases k9 : k = 9
            · simp [k9]
            · by_cases k11 : k = 11
              · simp [k11]
              · simp [k9, k11]
          · rw [hM 18 (by decide)]; simp [sx_up]
          · rw [hM a ha, sh_une g1, sh_une g2, sh_une g1]
      obtain ⟨c, hc, h14, h18, hoth⟩ := base
      have f8 : M' 14 8 = M 14 8 := h14 8
      have f9 : M' 14 9 = M 14 9 + 1 := h14 9
      have f10 : M' 14 10 = M 14 10 + 1 := h14 10
      have f11 : M' 14 11 = M 14 11 + c := h14 11
      have f : ∀ k, k ≠ 9 → k ≠ 10 → k ≠ 11 → M' 14 k = M 14 k := fun k k9 k10 k11 => by rw [h14, if_neg k9, if_neg k11, if_neg k10]
      refine yq_1 h0 rfl (yh_f_tr hf ⟨fun a ha a1 _ a3 => hoth a ha a1 a3, fun k hk => f k (by omega) (by omega) (by omega)⟩) eo ⟨hm', by omega, by omega, yh_mk ?_ ?_ ?_ ?_ ?_ ?_ ?_ ?_, e9 _ eo⟩
      · rw [f8, hoth 17 (by decide) (by decide) (by decide)]; exact e1
      · rw [← e2]
        exact yh_Pn b2.1 f9 (fun k hk => by rw [h18, if_neg (by omega)]) (by rw [h18, if_pos rfl])
      · rw [f10, e3]
      · rw [f11, e4, hc]
        split <;> omega
      · rw [f 12 (by decide) (by decide) (by decide)]; exact e5
      · rw [f 13 (by decide) (by decide) (by decide)]; exact e6
      · rw [f 14 (by decide) (by decide) (by decide)]; exact e7
      · rw [f 15 (by decide) (by decide) (by decide)]; exact e8
    · obtain ⟨⟨c1, c2⟩, -⟩ := hc
      have c1 : 6 ≤ sx_val ρ' (12, 0) := c1
      rw [og_v0 q12, e3] at c1
      exact yq_0 h0 rfl hm' (yh_f_on hf hM) (by unfold yk_oper; rw [if_pos cp, if_pos c1])
  · by_cases cd : 48 ≤ z ∧ z ≤ 57
    · have eo : yk_oper D P o b g n j z = some (yk_fd (D ++ [z - 48]) P, yk_fp P, yk_fo P o, b, 1, (D.length : Int), j, false) := by
        unfold yk_oper
        rw [if_neg cp, if_pos cd]
      obtain ⟨ρ, s, n1, r9, r10, r11, -⟩ := yt_sat (xs := xs) (s := (48, 57)) (w := (0, 120)) (gg := (0, 4)) (nn := sx_r32) (d := (0, 1)) hL hW (by omega) cd z32 b2 b5 (yw_13 w1) b7
      obtain ⟨okl, el⟩ := yt_l1 (m := (yt_t (48, 57) (0, 120) (0, 4) sx_r32 (0, 1)).1) (fun c => sx_ck2 s c) (by rw [n1]; decide) r9 z32
      refine og_use (Ts := yo_Td) (lv := tl_1) (s := []) yo_c2 (by decide +kernel) s okl (fun v hv => by cases hv) (Nat.le_refl _) el rfl (fun T hT ρ' M' x h0 hm' hc hM => ?_)
      rw [n1] at x
      have q9 := og_v x (show 9 < 18 by decide) r9
      have q10 := og_v x (show 10 < 18 by decide) r10
      rw [List.mem_singleton.mp hT] at hM ⊢
      have hM : ∀ a, a < 128 → M' a = sx_up (sx_up (sx_up (sx_up M 14 (sx_val ρ' (0, ((12 : Nat) : Int))).toNat (sx_val ρ' (0, 1))) 14 (sx_val ρ' (0, ((13 : Nat) : Int))).toNat (sx_val ρ' (10, 0))) 17 (sx_val ρ' (10, 0)).toNat (sx_val ρ' (9, -48))) 14 (sx_val ρ' (0, ((8 : Nat) : Int))).toNat (sx_val ρ' (10, 1)) a := hM
      rw [yw_n h0, yw_n h0, yw_n h0, og_c h0, og_v0 q10, og_vv (c := -48) q9, og_vv (c := 1) q10] at hM
      have h14 : ∀ k, M' 14 k = if k = 8 then M 14 8 + 1 else if k = 13 then M 14 8 else if k = 12 then 1 else M 14 k := fun k => by
        rw [hM 14 (by decide)]; simp [sx_up]
      have h17 : ∀ k, M' 17 k = if k = (M 14 8).toNat then z + -48 else M 17 k := fun k => by
        rw [hM 17 (by decide)]; simp [sx_up]
      have hoth : ∀ a, a < 128 → a ≠ 14 → a ≠ 17 → M' a = M a := fun a ha g1 g2 => by
        rw [hM a ha, sh_une g1, sh_une g2, sh_une g1, sh_une g1]
      have f8 : M' 14 8 = M 14 8 + 1 := h14 8
      have f : ∀ k, k ≠ 8 → k ≠ 12 → k ≠ 13 → M' 14 k = M 14 k := fun k k8 k12 k13 => by rw [h14, if_neg k8, if_neg k13, if_neg k12]
      have f9 := f 9 (by decide) (by decide) (by decide)
      refine yo_call hL (by omega) (yh_f_tr hf ⟨fun a ha a1 a2 _ => hoth a ha a1 a2, fun k hk => f k (by omega) (by omega) (by omega)⟩) (D := D ++ [z - 48]) (P := P) (o := o) (b := b) (g := 1) (n := (D.length : Int)) (j := j) ⟨hm', by omega, by omega, yh_mk ?_ ?_ ?_ ?_ ?_ ?_ ?_ ?_, ?_⟩ eo
      · rw [← e1]
        exact yh_Dn b1.1 f8 (fun k hk => by rw [h17, if_neg (by omega)]) (by rw [h17, if_pos rfl]; omega)
      · rw [f9, hoth 18 (by decide) (by decide) (by decide)]; exact e2
      · rw [f 10 (by decide) (by decide) (by decide)]; exact e3
      · rw [f 11 (by decide) (by decide) (by decide)]; exact e4
      · exact h14 12
      · have : M' 14 13 = M 14 8 := h14 13
        rw [this, b9]
      · rw [f 14 (by decide) (by decide) (by decide)]; exact e7
      · rw [f 15 (by decide) (by decide) (by decide)]; exact e8
      · have e99 : (D ++ [z - 48]).getD D.length 0 = z - 48 := by
          rw [List.getD_eq_getElem?_getD, List.getElem?_append_right (Nat.le_refl _), Nat.sub_self]
          rfl
        have ll : ((D ++ [z - 48]).length : Int) = (D.length : Int) + 1 := by rw [List.length_append]; show ((D.length + 1 : Nat) : Int) = _; omega
        refine yk_lay_inv w5 (by omega) ⟨w5.2.2.2.2.2.2.2.1, by have h9 : j < (D.length : Int) := w5.2.2.2.2.2.2.2.2.1; omega⟩ (Or.inr ?_)
        rw [Int.toNat_natCast, e99]
        exact ⟨by omega, by omega, by omega, Or.inl ⟨rfl, by omega⟩⟩
    · rcases yk_name_ok z with ⟨nm, d1, d2, d3, d4, d5, d6⟩ | ⟨nm, hmem⟩
      · have eo : yk_oper D P o b g n j z = none := by
          unfold yk_oper
          rw [if_neg cp, if_neg cd, if_pos nm]
        obtain ⟨q, hq, hq1⟩ : ∃ q ∈ yo_gl, q.1 ≤ z ∧ z ≤ q.2 := by
          have : (0 ≤ z ∧ z ≤ 32) ∨ (34 ≤ z ∧ z ≤ 39) ∨ (41 ≤ z ∧ z ≤ 44) ∨ (46 ≤ z ∧ z ≤ 47) ∨ (58 ≤ z ∧ z ≤ 98) ∨ (101 ≤ z ∧ z ≤ 101) ∨ (103 ≤ z ∧ z ≤ 103) ∨ (105 ≤ z ∧ z ≤ 109) ∨ (111 ≤ z ∧ z ≤ 113) ∨ (115 ≤ z ∧ z ≤ 255) := by omega
          rcases this with h | h | h | h | h | h | h | h | h | h
          · exact ⟨(0, 32), by decide, h⟩
          · exact ⟨(34, 39), by decide, h⟩
          · exact ⟨(41, 44), by decide, h⟩
          · exact ⟨(46, 47), by decide, h⟩
          · exact ⟨(58, 98), by decide, h⟩
          · exact ⟨(101, 101), by decide, h⟩
          · exact ⟨(103, 103), by decide, h⟩
          · exact ⟨(105, 109), by decide, h⟩
          · exact ⟨(111, 113), by decide, h⟩
          · exact ⟨(115, 255), by decide, h⟩
        obtain ⟨ρ, s, n1, r9, -⟩ := yt_sat (xs := xs) (s := q) (w := (0, 120)) (gg := (0, 4)) (nn := sx_r32) (d := (0, 1)) hL hW (by omega) hq1 z32 b2 b5 (yw_13 w1) b7
        obtain ⟨okl, el⟩ := yt_l1 (m := (yt_t q (0, 120) (0, 4) sx_r32 (0, 1)).1) (fun c => sx_ck2 s c) (by rw [n1]; decide) r9 z32
        refine og_use (Ts := [og_r 0 []]) (lv := tl_1) (s := []) (List.all_eq_true.mp yo_c4 q hq) (by decide +kernel) s okl (fun v hv => by cases hv) (Nat.le_refl _) el rfl (fun T hT ρ' M' x h0 hm' hc hM => ?_)
        rw [List.mem_singleton.mp hT] at hM ⊢
        exact yq_0 h0 rfl hm' (yh_f_on hf hM) eo
      · have eo : yk_oper D P o b g n j z = some (yk_fd (D ++ [-1000 - yk_name z]) P, yk_fp P, yk_fo P o, b, g, n, j, false) := by
          unfold yk_oper
          rw [if_neg cp, if_neg cd, if_neg nm]
        obtain ⟨ρ, s, n1, r9, r10, r11, -⟩ := yt_sat (xs := xs) (s := (z, z)) (w := (0, 120)) (gg := (0, 4)) (nn := sx_r32) (d := (0, 1)) hL hW (by omega) ⟨Int.le_refl _, Int.le_refl _⟩ z32 b2 b5 (yw_13 w1) b7
        obtain ⟨okl, el⟩ := yt_l1 (m := (yt_t (z, z) (0, 120) (0, 4) sx_r32 (0, 1)).1) (fun c => sx_ck2 s c) (by rw [n1]; decide) r9 z32
        refine og_use (Ts := yo_Tn (yk_name z)) (lv := tl_1) (s := []) (List.all_eq_true.mp yo_c3 (z, yk_name z) hmem) (by rfl) s okl (fun v hv => by cases hv) (Nat.le_refl _) el rfl (fun T hT ρ' M' x h0 hm' hc hM => ?_)
        rw [n1] at x
        have q10 := og_v x (show 10 < 18 by decide) r10
        rw [List.mem_singleton.mp hT] at hM ⊢
        have hM : ∀ a, a < 128 → M' a = sx_up (sx_up M 17 (sx_val ρ' (10, 0)).toNat (sx_val ρ' (0, -1000 - yk_name z))) 14 (sx_val ρ' (0, ((8 : Nat) : Int))).toNat (sx_val ρ' (10, 1)) a := hM
        rw [yw_n h0, og_c h0, og_v0 q10, og_vv (c := 1) q10] at hM
        have h14 : ∀ k, M' 14 k = if k = 8 then M 14 8 + 1 else M 14 k := fun k => by
          rw [hM 14 (by decide)]; simp [sx_up]
        have h17 : ∀ k, M' 17 k = if k = (M 14 8).toNat then -1000 - yk_name z else M 17 k := fun k => by
          rw [hM 17 (by decide)]; simp [sx_up]
        have hoth : ∀ a, a < 128 → a ≠ 14 → a ≠ 17 → M' a = M a := fun a ha g1 g2 => by
          rw [hM a ha, sh_une g1, sh_une g2]
        have f8 : M' 14 8 = M 14 8 + 1 := h14 8
        have f : ∀ k, k ≠ 8 → M' 14 k = M 14 k := fun k k8 => by rw [h14, if_neg k8]
        have f9 := f 9 (by decide)
        refine yo_call hL (by omega) (yh_f_tr hf ⟨fun a ha a1 a2 _ => hoth a ha a1 a2, fun k hk => f k (by omega)⟩) (D := D ++ [-1000 - yk_name z]) (P := P) (o := o) (b := b) (g := g) (n := n) (j := j) ⟨hm', by omega, by omega, yh_mk ?_ ?_ ?_ ?_ ?_ ?_ ?_ ?_, ?_⟩ eo
        · rw [← e1]
          exact yh_Dn b1.1 f8 (fun k hk => by rw [h17, if_neg (by omega)]) (by rw [h17, if_pos rfl])
        · rw [f9, hoth 18 (by decide) (by decide) (by decide)]; exact e2
        · rw [f 10 (by decide)]; exact e3
        · rw [f 11 (by decide)]; exact e4
        · rw [f 12 (by decide)]; exact e5
        · rw [f 13 (by decide)]; exact e6
        · rw [f 14 (by decide)]; exact e7
        · rw [f 15 (by decide)]; exact e8
        · have ll : ((D ++ [-1000 - yk_name z]).length : Int) = (D.length : Int) + 1 := by rw [List.length_append]; show ((D.length + 1 : Nat) : Int) = _; omega
          exact yk_lay_inv w5 (by omega) ⟨w5.2.2.2.2.2.2.2.1, by have h9 : j < (D.length : Int) := w5.2.2.2.2.2.2.2.2.1; omega⟩ (yk_dg_app w5.2.2.2.2.2.2.2.2.2 _)
-- digitGoesOn
noncomputable def yd_tt (k m : Int) : sx_S := (sx_frl (yt_t (48, 57) (0, 120) (k, k) (0, 239) (0, 1)) 17 (15, 0) (0, m)).2
def yd_Te (k : Int) : List og_T := [(none, some (0, 0, 1), [], [], [(17, (15, 0), (20, 0)), (14, (0, 12), (0, k + 1))], [(5, (18, 0), (0, 10), 2, 19), (5, (19, 0), (9, -48), 0, 20)])]
def yd_ll : List (Int × Int) := [(1, 9), (2, 99), (3, 999)]
theorem yd_cc : (yd_ll.all fun q => gs_chk (fun _ => false) (fun u => (yd_Te q.1).any (og_chk (yd_tt q.1 q.2) u)) 300 300 10 43 0 tl_1 [] (yd_tt q.1 q.2)) = true := by decide +kernel
theorem yd_c0 : ([((0 : Int), (0 : Int)), (4, 4)].all fun q => gs_chk (fun _ => false) (fun u => [og_r 0 []].any (og_chk (yt_t (48, 57) (0, 120) q sx_r32 (0, 1)) u)) 300 300 10 43 0 tl_1 [] (yt_t (48, 57) (0, 120) q sx_r32 (0, 1))) = true := by decide +kernel
theorem og_add {a b : Int} (h : sx_w sx_r32 (a + b)) : sx_mf 0 a b = a + b := by
  show (Int32.ofInt a + Int32.ofInt b).toInt = a + b
  rw [← Int32.ofInt_add]
  exact sx_i32 h
theorem yd_all (hL : L < 2 ^ 31) (hi : i ≤ 119) (hf : yh_f M0 M) (hW : yh_W i (D, P, o, b, g, n, j, false) M) (hz : 48 ≤ z ∧ z ≤ 57) : rz_fin (yh_Q (i + 1) M0 (yk_digit D P o b g n j z)) L xs 43 10 0 (tv_r z) [] M := by
  have z32 : sx_w sx_r32 z := og_w32 (by omega) (by omega)
  obtain ⟨b1, b2, b3, b4, b5, b6, b7, b8, b9, b10⟩ := yh_bd hW (by omega)
  obtain ⟨w1, w2, w3, w4, w5⟩ := id hW
  obtain ⟨e1, e2, e3, e4, e5, e6, e7, e8⟩ := yh_eq w4
  have hdg : yk_dg D g n := w5.2.2.2.2.2.2.2.2.2
  by_cases cg : g = 0 ∨ 4 ≤ g
  · have eo : yk_digit D P o b g n j z = none := by unfold yk_digit; rw [if_pos cg]
    obtain ⟨q, hq, hq1⟩ : ∃ q ∈ [((0 : Int), (0 : Int)), (4, 4)], q.1 ≤ g ∧ g ≤ q.2 := by
      have : g = 0 ∨ g = 4 := by omega
      rcases this with rfl | rfl
      · exact ⟨(0, 0), by decide, by decide⟩
      · exact ⟨(4, 4), by decide, by decide⟩
    rw [← e5] at hq1
    obtain ⟨ρ, s, n1, r9, -⟩ := yt_sat (xs := xs) (s := (48, 57)) (w := (0, 120)) (gg := q) (nn := sx_r32) (d := (0, 1)) hL hW (by omega) hz z32 b2 hq1 (yw_13 w1) b7
    obtain ⟨okl, el⟩ := yt_l1 (m := (yt_t (48, 57) (0, 120) q sx_r32 (0, 1)).1) (fun c => sx_ck2 s c) (by rw [n1]; decide) r9 z32
    refine og_use (Ts := [og_r 0 []]) (lv := tl_1) (s := []) (List.all_eq_true.mp yd_c0 q hq) (by decide +kernel) s okl (fun v hv => by cases hv) (Nat.le_refl _) el rfl (fun T hT ρ' M' x h0 hm' hc hM => ?_)
    rw [List.mem_singleton.mp hT] at hM ⊢
    exact yq_0 h0 rfl hm' (yh_f_on hf hM) eo
  · have eo : yk_digit D P o b g n j z = some (D.set n.toNat (D.getD n.toNat 0 * 10 + (z - 48)), P, o, b, g + 1, n, j, false) := by unfold yk_digit; rw [if_neg cg]
    have inv' := yk_digit_inv w5 hz eo
    obtain ⟨d1, d2, d3, d4⟩ : 0 ≤ n ∧ n < (D.length : Int) ∧ 0 ≤ D.getD n.toNat 0 ∧ ((g = 1 ∧ D.getD n.toNat 0 ≤ 9) ∨ (g = 2 ∧ D.getD n.toNat 0 ≤ 99) ∨ (g = 3 ∧ D.getD n.toNat 0 ≤ 999) ∨ g = 4) := by
      rcases hdg with h | h
      · omega
      · exact h
    obtain ⟨q, hq, hqg, hqm⟩ : ∃ q ∈ yd_ll, g = q.1 ∧ D.getD n.toNat 0 ≤ q.2 := by
      rcases d4 with ⟨h1, h2⟩ | ⟨h1, h2⟩ | ⟨h1, h2⟩ | h1
      · exact ⟨(1, 9), by decide, h1, h2⟩
      · exact ⟨(2, 99), by decide, h1, h2⟩
      · exact ⟨(3, 999), by decide, h1, h2⟩
      · omega
    have hq9 : 0 ≤ q.2 ∧ q.2 ≤ 999 := by
      simp only [yd_ll, List.mem_cons, List.not_mem_nil, or_false] at hq
      rcases hq with rfl | rfl | rfl <;> decide
    have eD : D.getD n.toNat 0 = M 17 n.toNat := by
      rw [← e1]
      exact yh_D_get (by omega)
    rw [eD] at hqm d3
    obtain ⟨ρ, s, n1, r9, r10, r11, r12, r13, r14, r15, -⟩ := yt_sat (xs := xs) (s := (48, 57)) (w := (0, 120)) (gg := (q.1, q.1)) (nn := (0, 239)) (d := (0, 1)) hL hW (by omega) hz z32 b2 (by rw [e5, hqg]; exact ⟨Int.le_refl _, Int.le_refl _⟩) (by rw [e6]; exact ⟨d1, by show n ≤ 239; omega⟩) b7
    have v15 : sx_val ρ (15, 0) = n := by rw [og_v0 r15, e6]
    obtain ⟨ρ2, x2, s2, r18⟩ := tg_rd (k := 17) (i := (15, 0)) (r := (0, q.2)) (n := 18) s n1 (by decide) (by decide) (by rw [v15]; exact d1) (by rw [v15]; exact ⟨d3, hqm⟩) (by rw [v15, sx_r64_iff]; omega)
    rw [v15] at r18
    have q9 : ρ2 9 = z := by rw [x2 9 (by decide)]; exact r9
    have n2 : (yd_tt q.1 q.2).1 = 19 := by
      show (yt_t (48, 57) (0, 120) (q.1, q.1) (0, 239) (0, 1)).1 + 1 = 19
      rw [n1]
    obtain ⟨okl, el⟩ := yt_l1 (m := (yd_tt q.1 q.2).1) (fun c => sx_ck2 s2 c) (by rw [n2]; decide) q9 z32
    refine og_use (Ts := yd_Te q.1) (lv := tl_1) (s := []) (List.all_eq_true.mp yd_cc q hq) (by rfl) s2 okl (fun v hv => by cases hv) (Nat.le_refl _) el rfl (fun T hT ρ' M' x h0 hm' hc hM => ?_)
    rw [n2] at x
    have p9 := og_v x (show 9 < 19 by decide) q9
    have p15 : ρ' 15 = n := og_v x (show 15 < 19 by decide) (by rw [x2 15 (by decide), r15, e6])
    have p18 := og_v x (show 18 < 19 by decide) r18
    rw [List.mem_singleton.mp hT] at hM hc ⊢
    obtain ⟨k1, k2, -⟩ := hc
    have k1 : ρ' 19 = sx_mf 2 (sx_val ρ' (18, 0)) (sx_val ρ' (0, 10)) := k1
    have k2 : ρ' 20 = sx_mf 0 (sx_val ρ' (19, 0)) (sx_val ρ' (9, -48)) := k2
    rw [og_v0 p18, og_c h0, og_mul (og_w32 (by omega) (by omega))] at k1
    rw [og_v0 k1, og_vv (c := -48) p9, og_add (og_w32 (by omega) (by omega))] at k2
    have hM : ∀ a, a < 128 → M' a = sx_up (sx_up M 14 (sx_val ρ' (0, ((12 : Nat) : Int))).toNat (sx_val ρ' (0, q.1 + 1))) 17 (sx_val ρ' (15, 0)).toNat (sx_val ρ' (20, 0)) a := hM
    rw [yw_n h0, og_c h0, og_v0 p15, og_v0 k2] at hM
    have h14 : ∀ k, M' 14 k = if k = 12 then q.1 + 1 else M 14 k := fun k => by
      rw [hM 14 (by decide)]; simp [sx_up]
    have h17 : ∀ k, M' 17 k = if k = n.toNat then M 17 n.toNat * 10 + (z + -48) else M 17 k := fun k => by
      rw [hM 17 (by decide)]; simp [sx_up]
    have hoth : ∀ a, a < 128 → a ≠ 14 → a ≠ 17 → M' a = M a := fun a ha g1 g2 => by
      rw [hM a ha, sh_une g2, sh_une g1]
    have f : ∀ k, k ≠ 12 → M' 14 k = M 14 k := fun k h => by rw [h14, if_neg h]
    have f8 := f 8 (by decide)
    have f9 := f 9 (by decide)
    refine yq_1 h0 rfl (yh_f_tr hf ⟨fun a ha a1 a2 _ => hoth a ha a1 a2, fun k hk => f k (by omega)⟩) eo ⟨hm', by omega, by omega, yh_mk ?_ ?_ ?_ ?_ ?_ ?_ ?_ ?_, inv'⟩
    · rw [f8, eD, ← e1]
      exact yh_D_set (by rw [h17, if_pos rfl]; omega) (fun k hk => by rw [h17, if_neg hk]) (by omega)
    · rw [f9, hoth 18 (by decide) (by decide) (by decide)]; exact e2
    · rw [f 10 (by decide)]; exact e3
    · rw [f 11 (by decide)]; exact e4
    · rw [h14, if_pos rfl, hqg]
    · rw [f 13 (by decide)]; exact e6
    · rw [f 14 (by decide)]; exact e7
    · rw [f 15 (by decide)]; exact e8
end
