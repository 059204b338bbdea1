/-! Changes of the class: undo, redo. -/
section
variable {L : Nat} {xs : Nat → Int32} {M M' MM M0 M1 M2 N : Nat → Nat → Int} {ρ ρ' : Nat → Int} {t t0 : sx_S} {Q R : Option Value → (Nat → Nat → Int) → Prop} {n w v b H C : Int}
def cu_T0 : og_T := (none, some (0, 0, -5), [], [], [], [(0, (9, 0), (0, 0), 0, 0)])
def cu_T1 : og_T := (some 21, none, [(2, 0, 9), (2, 0, 32)], [(0, 2, 0, 8)], [], [(0, (9, 0), (0, 0), 1, 40)])
noncomputable def cu_t : sx_S := og_t [] [(32, 1, (0, 40))]
def cu_l : sx_L := [(0, 2, 0, 8)]
theorem cu_c : gs_chk (fun pc => Nat.beq pc 21) (fun o => [cu_T0, cu_T1].any (og_chk cu_t o)) 300 300 3 121 0 cu_l [] cu_t = true := by decide +kernel
def cu_T2 : og_T := (none, some (0, 9, 0), [], [], [], [])
theorem cu_c2 : gs_chk (fun _ => false) (fun o => [cu_T2].any (og_chk cu_t o)) 300 300 3 121 24 cu_l [] cu_t = true := by decide +kernel
-- stepBack
noncomputable def cb_t : sx_S := og_t [] [(32, 1, (1, 40))]
def cb_l : sx_L := [(0, 2, 0, 32), (1, 2, 0, 9)]
def cb_T : og_T := (some 40, none, [(0, 13, 0), (0, 12, 0), (0, 11, 0), (2, 0, 9)], [], [(32, (0, 1), (9, -1))], [(5, (9, -1), (0, 4), 2, 10), (6, (10, 0), (11, 0), 33, 0), (6, (10, 1), (12, 0), 33, 0), (6, (10, 2), (13, 0), 33, 0)])
theorem cb_c : gs_chk (fun pc => Nat.beq pc 40) (fun o => [cb_T].any (og_chk cb_t o)) 300 300 2 122 0 cb_l [] cb_t = true := by decide +kernel
-- redo, stepOn
noncomputable def cr_t : sx_S := og_t [] [(32, 1, (0, 40)), (32, 2, (0, 40))]
def cr_T0 : og_T := (none, some (0, 0, -5), [], [], [], [(3, (9, 0), (10, 0), 0, 0)])
def cr_T1 : og_T := (some 28, none, [(2, 0, 9), (2, 0, 32)], [(0, 2, 0, 8)], [], [(4, (9, 0), (10, 0), 0, 0)])
theorem cr_c : gs_chk (fun pc => Nat.beq pc 28) (fun o => [cr_T0, cr_T1].any (og_chk cr_t o)) 300 300 3 123 0 cu_l [] cr_t = true := by decide +kernel
def cr_T2 : og_T := (none, some (0, 11, 0), [], [], [], [(5, (10, 0), (9, 0), 1, 11)])
theorem cr_c2 : gs_chk (fun _ => false) (fun o => [cr_T2].any (og_chk cr_t o)) 300 300 3 123 31 cu_l [] cr_t = true := by decide +kernel
noncomputable def cn_t : sx_S := og_t [] [(32, 1, (0, 39))]
def cn_T : og_T := (some 30, none, [(0, 13, 0), (0, 12, 0), (0, 11, 0), (2, 0, 9)], [(0, 2, 0, 32)], [], [(5, (9, 0), (0, 4), 2, 10), (6, (10, 0), (11, 0), 33, 0), (6, (10, 1), (12, 0), 33, 0), (6, (10, 3), (13, 0), 33, 0)])
theorem cn_c : gs_chk (fun pc => Nat.beq pc 30) (fun o => [cn_T].any (og_chk cn_t o)) 300 300 2 124 0 cb_l [] cn_t = true := by decide +kernel
def cn_l : sx_L := [(0, 2, 0, 32)]
def cn_T2 : og_T := (none, none, [], [], [(32, (0, 1), (9, 1))], [])
theorem cn_c2 : gs_chk (fun _ => false) (fun o => [cn_T2].any (og_chk cn_t o)) 300 300 2 124 33 cn_l [] cn_t = true := by decide +kernel
theorem cu_f21 : (sm_MT 121).2.2.2.2.2 21 = some (.invokevirtual 334, 3) := rfl
theorem cb_f40 : (sm_MT 122).2.2.2.2.2 40 = some (.invokevirtual 26, 3) := rfl
theorem cr_f28 : (sm_MT 123).2.2.2.2.2 28 = some (.invokevirtual 340, 3) := rfl
theorem cn_f30 : (sm_MT 124).2.2.2.2.2 30 = some (.invokevirtual 26, 3) := rfl
/-- change q may be laid -/
def cx_J (M : Nat → Nat → Int) (q : Nat) : Prop := jp (M 33 (4 * q)) (M 33 (4 * q + 1)) (M 33 (4 * q + 2)) (M 33 (4 * q + 3))
theorem cx_Jb (h : cx_J M w.toNat) : (0 ≤ M 33 (4 * w.toNat) ∧ M 33 (4 * w.toNat) ≤ 7) ∧ (0 ≤ M 33 (4 * w.toNat + 1) ∧ M 33 (4 * w.toNat + 1) ≤ 29) ∧ (-1 ≤ M 33 (4 * w.toNat + 2) ∧ M 33 (4 * w.toNat + 2) ≤ 143) ∧ -1 ≤ M 33 (4 * w.toNat + 3) ∧ M 33 (4 * w.toNat + 3) ≤ 143 := by
  unfold cx_J jp at h
  omega
/-- the place that change q is of -/
def cx_p (M : Nat → Nat → Int) (q : Nat) : Int := 30 * M 33 (4 * q) + M 33 (4 * q + 1)
/-- only done becomes d, and a number v -/
def cx_S (d p v : Int) (M M' : Nat → Nat → Int) : Prop := sx_mok cl_ly M' ∧ (∀ a, a < 128 → a ≠ 32 → a ≠ 10 → M' a = M a) ∧ (∀ i, i ≠ 1 → M' 32 i = M 32 i) ∧ M' 32 1 = d ∧ M' 10 = (fun i => if i = p.toNat then v else M 10 i)
theorem cx_fld {c k : Nat} {lo hi : Int} (hm : sx_mok cl_ly M) (h : cv_ly cl_ly (c, k, lo, hi) = true) : lo ≤ M c k ∧ M c k ≤ hi := cv_ly_ok (g := (c, k, lo, hi)) hm h
theorem cx_back (hL : L < 2 ^ 31) (hm : sx_mok cl_ly M) (h1 : 1 ≤ M 32 1) (hJ : cx_J M (M 32 1 - 1).toNat) : rz_fin (fun r M' => r = none ∧ cx_S (M 32 1 - 1) (cx_p M (M 32 1 - 1).toNat) (M 33 (4 * (M 32 1 - 1).toNat + 2)) M M') L xs 122 2 0 [(0, .ref 32), (1, .ref 9)] [] M := by
  have hd := cx_fld (c := 32) (k := 1) (lo := 0) (hi := 40) hm (by decide +kernel)
  obtain ⟨ρ, s, e1, -, e3⟩ := og_sat (xs := xs) (gs := []) (zs := []) (fs := [(32, 1, (1, 40))]) hL hm trivial (fun g hg => by
    rw [List.mem_singleton.mp hg]
    exact og_f hm rfl (show cv_ly cl_ly (32, 1, sx_r32) = true by decide +kernel) ⟨h1, hd.2⟩)
  have r9 : ρ 9 = M 32 1 := e3 0 _ rfl
  refine og_use (Ts := [cb_T]) (lv := cb_l) (s := []) cb_c (by decide +kernel) s (fun q hq => ?_) (fun v hv => by cases hv) (Nat.le_refl _) rfl rfl (fun T hT ρ' M' x h0 hm' hc hM => ?_)
  · simp only [cb_l, List.mem_cons, List.not_mem_nil, or_false] at hq
    rcases hq with rfl | rfl <;> exact sx_ck2 s _
  · rw [List.mem_singleton.mp hT] at hc hM ⊢
    obtain ⟨c1, c2, c3, c4, -⟩ := hc
    have q9 := og_v x (show 9 < 10 by decide) r9
    have c1 : ρ' 10 = sx_mf 2 (sx_val ρ' (9, -1)) (sx_val ρ' (0, 4)) := c1
    rw [og_vv q9, og_c h0, og_mul (og_w32 (by omega) (by omega))] at c1
    have c2 : M' 33 (sx_val ρ' (10, 0)).toNat = sx_val ρ' (11, 0) := c2
    have c3 : M' 33 (sx_val ρ' (10, 1)).toNat = sx_val ρ' (12, 0) := c3
    have c4 : M' 33 (sx_val ρ' (10, 2)).toNat = sx_val ρ' (13, 0) := c4
    have hM : ∀ a, a < 128 → M' a = sx_up M 32 (sx_val ρ' (0, 1)).toNat (sx_val ρ' (9, -1)) a := hM
    rw [og_c h0, og_vv q9, show (1 : Int).toNat = 1 from rfl] at hM
    have m33 : M' 33 = M 33 := by
      rw [hM 33 (by decide)]
      rfl
    rw [m33, og_v0 c1, og_v0 (k := 11) rfl] at c2
    rw [m33, og_vv c1, og_v0 (k := 12) rfl] at c3
    rw [m33, og_vv c1, og_v0 (k := 13) rfl] at c4
    rw [show ((M 32 1 + -1) * 4).toNat = 4 * (M 32 1 - 1).toNat by omega] at c2
    rw [show ((M 32 1 + -1) * 4 + 1).toNat = 4 * (M 32 1 - 1).toNat + 1 by omega] at c3
    rw [show ((M 32 1 + -1) * 4 + 2).toNat = 4 * (M 32 1 - 1).toNat + 2 by omega] at c4
    obtain ⟨j1, j2, j3, j4⟩ := cx_Jb hJ
    have w1 : sx_w sx_r32 (ρ' 11) := by rw [← c2]; exact og_w32 (by omega) (by omega)
    have w2 : sx_w sx_r32 (ρ' 12) := by rw [← c3]; exact og_w32 (by omega) (by omega)
    have w3 : sx_w sx_r32 (ρ' 13) := by rw [← c4]; exact og_w32 (by omega) (by omega)
    show rz_fin _ L xs 122 2 40 [] (sx_cs1 ρ' [(0, 13, 0), (0, 12, 0), (0, 11, 0), (2, 0, 9)]) M'
    refine og_call (d := 1) (d' := 1) (k := 14) (ρ := ρ') (m := 14) (s := [(0, 13, 0), (0, 12, 0), (0, 11, 0), (2, 0, 9)]) (as := [(2, 0, 9), (0, 11, 0), (0, 12, 0), (0, 13, 0)]) cb_f40 rfl (fun q hq => ?_) rfl rfl rfl (Nat.le_refl _) ?_ (cx_set hL hm' j1 j2 j3) (fun r M2 hR => ?_)
    · simp only [List.mem_cons, List.not_mem_nil, or_false] at hq
      rcases hq with rfl | rfl | rfl | rfl
      · exact tk_ok0 (by decide) w3
      · exact tk_ok0 (by decide) w2
      · exact tk_ok0 (by decide) w1
      · exact ⟨by show 0 < 14; decide, (fun h => by cases h), fun h => by cases h⟩
    · show [(0, Value.ref 9), (1, sx_cv1 ρ' (0, 11, 0)), (2, sx_cv1 ρ' (0, 12, 0)), (3, sx_cv1 ρ' (0, 13, 0))] = _
      rw [og_int c2.symm, og_int c3.symm, og_int c4.symm]
      rfl
    · obtain ⟨rfl, hm2, hR⟩ := hR
      refine ⟨1, none, M2, ?_, rfl, hm2, fun a ha h32 h10 => ?_, fun i hi => ?_, ?_, ?_⟩
      · rw [sm_run_f (ins := .return_) (len := 1) rfl rfl]
        rfl
      · rw [hR a ha]
        funext j
        unfold sx_up
        rw [if_neg h10, hM a ha]
        unfold sx_up
        rw [if_neg h32]
      · rw [hR 32 (by decide)]
        unfold sx_up
        rw [if_neg (by decide), hM 32 (by decide)]
        unfold sx_up
        rw [if_pos rfl, if_neg hi]
      · rw [hR 32 (by decide)]
        unfold sx_up
        rw [if_neg (by decide), hM 32 (by decide)]
        unfold sx_up
        rw [if_pos rfl]
        show (if (1 : Nat) = 1 then M 32 1 + -1 else _) = _
        rw [if_pos rfl]
        rfl
      · rw [hR 10 (by decide)]
        funext j
        unfold sx_up cx_p
        rw [if_pos rfl, hM 10 (by decide)]
        rfl
/-- what undo() of the class does -/
def cx_U (M : Nat → Nat → Int) (r : Option Value) (M' : Nat → Nat → Int) : Prop := sx_mok cl_ly M' ∧ ((M 32 1 = 0 ∧ r = some (.int (Int32.ofInt (-5))) ∧ ∀ a, a < 128 → M' a = M a) ∨ (1 ≤ M 32 1 ∧ r = some (.int (Int32.ofInt (M 32 1 - 1))) ∧ cx_S (M 32 1 - 1) (cx_p M (M 32 1 - 1).toNat) (M 33 (4 * (M 32 1 - 1).toNat + 2)) M M'))
theorem cx_S_same {d p v : Int} (h : cx_S d p v M M1) (hm : sx_mok cl_ly M') (e : ∀ a, a < 128 → M' a = M1 a) : cx_S d p v M M' := by
  obtain ⟨a1, a2, a3, a4, a5⟩ := h
  refine ⟨hm, fun a ha h1 h2 => by rw [e a ha, a2 a ha h1 h2], fun i hi => by rw [e 32 (by decide), a3 i hi], by rw [e 32 (by decide), a4], by rw [e 10 (by decide), a5]⟩
theorem cx_undo (hL : L < 2 ^ 31) (hm : sx_mok cl_ly M) (hJ : ∀ q, q < 40 → cx_J M q) : rz_fin (cx_U M) L xs 121 3 0 [(0, .ref 8)] [] M := by
  have hd := cx_fld (c := 32) (k := 1) (lo := 0) (hi := 40) hm (by decide +kernel)
  obtain ⟨ρ, s, e1, -, e3⟩ := og_sat (xs := xs) (gs := []) (zs := []) (fs := [(32, 1, (0, 40))]) hL hm trivial (fun g hg => by
    rw [List.mem_singleton.mp hg]
    exact og_f hm rfl (show cv_ly cl_ly (32, 1, sx_r32) = true by decide +kernel) hd)
  have r9 : ρ 9 = M 32 1 := e3 0 _ rfl
  refine og_use (Ts := [cu_T0, cu_T1]) (lv := cu_l) (s := []) cu_c (by decide +kernel) s (fun q hq => by rw [List.mem_singleton.mp hq]; exact sx_ck2 s _) (fun v hv => by cases hv) (Nat.le_refl _) rfl rfl (fun T hT ρ' M' x h0 hm' hc hM => ?_)
  have q9 := og_v x (show 9 < 10 by decide) r9
  simp only [List.mem_cons, List.not_mem_nil, or_false] at hT
  rcases hT with rfl | rfl
  · have hM : ∀ a, a < 128 → M' a = M a := hM
    obtain ⟨⟨c1, c2⟩, -⟩ := hc
    have c2 : sx_val ρ' (9, 0) ≤ 0 := c2
    rw [og_v0 q9] at c2
    show cx_U M (some (sx_cv1 ρ' (0, 0, -5))) M'
    rw [tk_cv h0]
    exact ⟨hm', Or.inl ⟨by omega, rfl, hM⟩⟩
  · have hM : ∀ a, a < 128 → M' a = M a := hM
    obtain ⟨⟨c1, c2⟩, -⟩ := hc
    have c1 : 1 ≤ sx_val ρ' (9, 0) := c1
    rw [og_v0 q9] at c1
    have e32 := hM 32 (by decide)
    have e33 := hM 33 (by decide)
    have e10 := hM 10 (by decide)
    show rz_fin _ L xs 121 3 21 (sx_cl1 ρ' [(0, 2, 0, 8)]) (sx_cs1 ρ' [(2, 0, 9), (2, 0, 32)]) M'
    have hb := cx_back (xs := xs) hL hm' (by rw [e32]; exact c1) (by
      have := hJ (M 32 1 - 1).toNat (by omega)
      unfold cx_J at this ⊢
      rw [e32, e33]
      exact this)
    refine og_call (d := 2) (d' := 2) (k := 122) (ρ := ρ') (m := 10) (s := [(2, 0, 9), (2, 0, 32)]) (as := [(2, 0, 32), (2, 0, 9)]) cu_f21 rfl (fun q hq => ?_) rfl rfl rfl (Nat.le_refl _) rfl hb (fun r M2 hR => ?_)
    · simp only [List.mem_cons, List.not_mem_nil, or_false] at hq
      rcases hq with rfl | rfl <;> exact ⟨by show 0 < 10; decide, (fun h => by cases h), fun h => by cases h⟩
    · obtain ⟨rfl, hS⟩ := hR
      have hS2 : cx_S (M 32 1 - 1) (cx_p M (M 32 1 - 1).toNat) (M 33 (4 * (M 32 1 - 1).toNat + 2)) M M2 := by
        obtain ⟨a1, a2, a3, a4, a5⟩ := hS
        unfold cx_p at a5
        rw [e32, e33, e10] at a5
        refine ⟨a1, fun a ha h1 h2 => by rw [a2 a ha h1 h2, hM a ha], fun i hi => by rw [a3 i hi, e32], by rw [a4, e32], ?_⟩
        rw [a5]
        rfl
      have hm2 := hS2.1
      have hd2 := cx_fld (c := 32) (k := 1) (lo := 0) (hi := 40) hm2 (by decide +kernel)
      obtain ⟨ρ3, s3, f1, -, f3⟩ := og_sat (xs := xs) (gs := []) (zs := []) (fs := [(32, 1, (0, 40))]) hL hm2 trivial (fun g hg => by
        rw [List.mem_singleton.mp hg]
        exact og_f hm2 rfl (show cv_ly cl_ly (32, 1, sx_r32) = true by decide +kernel) hd2)
      have z9 : ρ3 9 = M2 32 1 := f3 0 _ rfl
      refine og_use (Ts := [cu_T2]) (lv := cu_l) (s := []) cu_c2 (by decide +kernel) s3 (fun q hq => by rw [List.mem_singleton.mp hq]; exact sx_ck2 s3 _) (fun v hv => by cases hv) (Nat.le_refl _) rfl rfl (fun T hT ρ4 M4 x4 h04 hm4 hc4 hM4 => ?_)
      rw [List.mem_singleton.mp hT] at hM4 ⊢
      have hM4 : ∀ a, a < 128 → M4 a = M2 a := hM4
      show cx_U M (some (sx_cv1 ρ4 (0, 9, 0))) M4
      rw [og_int (og_v x4 (show 9 < 10 by decide) z9), hS2.2.2.2.1]
      exact ⟨hm4, Or.inr ⟨c1, rfl, cx_S_same hS2 hm4 hM4⟩⟩
theorem cx_stepOn (hL : L < 2 ^ 31) (hm : sx_mok cl_ly M) (h1 : M 32 1 ≤ 39) (hJ : cx_J M (M 32 1).toNat) : rz_fin (fun r M' => r = none ∧ cx_S (M 32 1 + 1) (cx_p M (M 32 1).toNat) (M 33 (4 * (M 32 1).toNat + 3)) M M') L xs 124 2 0 [(0, .ref 32), (1, .ref 9)] [] M := by
  have hd := cx_fld (c := 32) (k := 1) (lo := 0) (hi := 40) hm (by decide +kernel)
  obtain ⟨ρ, s, e1, -, e3⟩ := og_sat (xs := xs) (gs := []) (zs := []) (fs := [(32, 1, (0, 39))]) hL hm trivial (fun g hg => by
    rw [List.mem_singleton.mp hg]
    exact og_f hm rfl (show cv_ly cl_ly (32, 1, sx_r32) = true by decide +kernel) ⟨hd.1, h1⟩)
  have r9 : ρ 9 = M 32 1 := e3 0 _ rfl
  refine og_use (Ts := [cn_T]) (lv := cb_l) (s := []) cn_c (by decide +kernel) s (fun q hq => ?_) (fun v hv => by cases hv) (Nat.le_refl _) rfl rfl (fun T hT ρ' M' x h0 hm' hc hM => ?_)
  · simp only [cb_l, List.mem_cons, List.not_mem_nil, or_false] at hq
    rcases hq with rfl | rfl <;> exact sx_ck2 s _
  · rw [List.mem_singleton.mp hT] at hc hM ⊢
    obtain ⟨c1, c2, c3, c4, -⟩ := hc
    have q9 := og_v x (show 9 < 10 by decide) r9
    have c1 : ρ' 10 = sx_mf 2 (sx_val ρ' (9, 0)) (sx_val ρ' (0, 4)) := c1
    rw [og_v0 q9, og_c h0, og_mul (og_w32 (by omega) (by omega))] at c1
    have c2 : M' 33 (sx_val ρ' (10, 0)).toNat = sx_val ρ' (11, 0) := c2
    have c3 : M' 33 (sx_val ρ' (10, 1)).toNat = sx_val ρ' (12, 0) := c3
    have c4 : M' 33 (sx_val ρ' (10, 3)).toNat = sx_val ρ' (13, 0) := c4
    have hM : ∀ a, a < 128 → M' a = M a := hM
    have m33 := hM 33 (by decide)
    rw [m33, og_v0 c1, og_v0 (k := 11) rfl] at c2
    rw [m33, og_vv c1, og_v0 (k := 12) rfl] at c3
    rw [m33, og_vv c1, og_v0 (k := 13) rfl] at c4
    rw [show (M 32 1 * 4).toNat = 4 * (M 32 1).toNat by omega] at c2
    rw [show (M 32 1 * 4 + 1).toNat = 4 * (M 32 1).toNat + 1 by omega] at c3
    rw [show (M 32 1 * 4 + 3).toNat = 4 * (M 32 1).toNat + 3 by omega] at c4
    obtain ⟨j1, j2, j3, j4⟩ := cx_Jb hJ
    have w1 : sx_w sx_r32 (ρ' 11) := by rw [← c2]; exact og_w32 (by omega) (by omega)
    have w2 : sx_w sx_r32 (ρ' 12) := by rw [← c3]; exact og_w32 (by omega) (by omega)
    have w3 : sx_w sx_r32 (ρ' 13) := by rw [← c4]; exact og_w32 (by omega) (by omega)
    show rz_fin _ L xs 124 2 30 (sx_cl1 ρ' [(0, 2, 0, 32)]) (sx_cs1 ρ' [(0, 13, 0), (0, 12, 0), (0, 11, 0), (2, 0, 9)]) M'
    refine og_call (d := 1) (d' := 1) (k := 14) (ρ := ρ') (m := 14) (s := [(0, 13, 0), (0, 12, 0), (0, 11, 0), (2, 0, 9)]) (as := [(2, 0, 9), (0, 11, 0), (0, 12, 0), (0, 13, 0)]) cn_f30 rfl (fun q hq => ?_) rfl rfl rfl (Nat.le_refl _) ?_ (cx_set hL hm' j1 j2 j4) (fun r M2 hR => ?_)
    · simp only [List.mem_cons, List.not_mem_nil, or_false] at hq
      rcases hq with rfl | rfl | rfl | rfl
      · exact tk_ok0 (by decide) w3
      · exact tk_ok0 (by decide) w2
      · exact tk_ok0 (by decide) w1
      · exact ⟨by show 0 < 14; decide, (fun h => by cases h), fun h => by cases h⟩
    · show [(0, Value.ref 9), (1, sx_cv1 ρ' (0, 11, 0)), (2, sx_cv1 ρ' (0, 12, 0)), (3, sx_cv1 ρ' (0, 13, 0))] = _
      rw [og_int c2.symm, og_int c3.symm, og_int c4.symm]
      rfl
    · obtain ⟨rfl, hm2, hR⟩ := hR
      have e32 : M2 32 = M 32 := by
        rw [hR 32 (by decide)]
        funext j
        unfold sx_up
        rw [if_neg (by decide), hM 32 (by decide)]
      obtain ⟨ρ3, s3, f1, -, f3⟩ := og_sat (xs := xs) (gs := []) (zs := []) (fs := [(32, 1, (0, 39))]) hL hm2 trivial (fun g hg => by
        rw [List.mem_singleton.mp hg]
        exact og_f hm2 rfl (show cv_ly cl_ly (32, 1, sx_r32) = true by decide +kernel) (by
          show sx_w (0, 39) (M2 32 1)
          rw [e32]
          exact ⟨hd.1, h1⟩))
      have z9 : ρ3 9 = M2 32 1 := f3 0 _ rfl
      refine og_use (Ts := [cn_T2]) (lv := cn_l) (s := []) cn_c2 (by decide +kernel) s3 (fun q hq => by rw [List.mem_singleton.mp hq]; exact sx_ck2 s3 _) (fun v hv => by cases hv) (Nat.le_refl _) rfl rfl (fun T hT ρ4 M4 x4 h04 hm4 hc4 hM4 => ?_)
      rw [List.mem_singleton.mp hT] at hM4 ⊢
      have hM4 : ∀ a, a < 128 → M4 a = sx_up M2 32 (sx_val ρ4 (0, 1)).toNat (sx_val ρ4 (9, 1)) a := hM4
      rw [og_c h04, og_vv (og_v x4 (show 9 < 10 by decide) z9), e32, show (1 : Int).toNat = 1 from rfl] at hM4
      refine ⟨rfl, hm4, fun a ha h32 h10 => ?_, fun i hi => ?_, ?_, ?_⟩
      · rw [hM4 a ha]
        funext j
        unfold sx_up
        rw [if_neg h32, hR a ha]
        unfold sx_up
        rw [if_neg h10, hM a ha]
      · rw [hM4 32 (by decide)]
        unfold sx_up
        rw [if_pos rfl, if_neg hi, e32]
      · rw [hM4 32 (by decide)]
        unfold sx_up
        rw [if_pos rfl]
        show (if (1 : Nat) = 1 then M 32 1 + 1 else _) = _
        rw [if_pos rfl]
      · rw [hM4 10 (by decide)]
        funext j
        unfold sx_up cx_p
        rw [if_neg (by decide), hR 10 (by decide)]
        unfold sx_up
        rw [if_pos rfl, hM 10 (by decide)]
/-- what redo() of the class does -/
def cx_V (M : Nat → Nat → Int) (r : Option Value) (M' : Nat → Nat → Int) : Prop := sx_mok cl_ly M' ∧ ((M 32 1 = M 32 2 ∧ r = some (.int (Int32.ofInt (-5))) ∧ ∀ a, a < 128 → M' a = M a) ∨ (M 32 1 < M 32 2 ∧ r = some (.int (Int32.ofInt (M 32 2 - M 32 1 - 1))) ∧ cx_S (M 32 1 + 1) (cx_p M (M 32 1).toNat) (M 33 (4 * (M 32 1).toNat + 3)) M M'))
theorem cr_sat (hL : L < 2 ^ 31) (hm : sx_mok cl_ly M) : ∃ ρ : Nat → Int, sx_sat cl_ly (0, -100) xs L M ρ M cr_t ∧ ρ 9 = M 32 1 ∧ ρ 10 = M 32 2 := by
  have hd := cx_fld (c := 32) (k := 1) (lo := 0) (hi := 40) hm (by decide +kernel)
  obtain ⟨ρ, s, e1, -, e3⟩ := og_sat (xs := xs) (gs := []) (zs := []) (fs := [(32, 1, (0, 40)), (32, 2, (0, 40))]) hL hm trivial (fun g hg => by
    simp only [List.mem_cons, List.not_mem_nil, or_false] at hg
    rcases hg with rfl | rfl
    · exact og_f hm rfl (show cv_ly cl_ly (32, 1, sx_r32) = true by decide +kernel) hd
    · exact og_f hm rfl (show cv_ly cl_ly (32, 2, sx_r32) = true by decide +kernel) (jr_kn hm))
  exact ⟨ρ, s, e3 0 _ rfl, e3 1 _ rfl⟩
theorem og_sub {a b : Int} (h : sx_w sx_r32 (a - b)) : sx_mf 1 a b = a - b := by
  show (Int32.ofInt a - Int32.ofInt b).toInt = a - b
  rw [← Int32.ofInt_sub]
  exact sx_i32 h
theorem cx_redo (hL : L < 2 ^ 31) (hm : sx_mok cl_ly M) (hle : M 32 1 ≤ M 32 2) (hJ : ∀ q, q < 40 → cx_J M q) : rz_fin (cx_V M) L xs 123 3 0 [(0, .ref 8)] [] M := by
  have hd := cx_fld (c := 32) (k := 1) (lo := 0) (hi := 40) hm (by decide +kernel)
  have hk := jr_kn hm
  obtain ⟨ρ, s, r9, r10⟩ := cr_sat (xs := xs) hL hm
  refine og_use (Ts := [cr_T0, cr_T1]) (lv := cu_l) (s := []) cr_c (by decide +kernel) s (fun q hq => by rw [List.mem_singleton.mp hq]; exact sx_ck2 s _) (fun v hv => by cases hv) (Nat.le_refl _) rfl rfl (fun T hT ρ' M' x h0 hm' hc hM => ?_)
  have q9 := og_v x (show 9 < 11 by decide) r9
  have q10 := og_v x (show 10 < 11 by decide) r10
  simp only [List.mem_cons, List.not_mem_nil, or_false] at hT
  rcases hT with rfl | rfl
  · have hM : ∀ a, a < 128 → M' a = M a := hM
    obtain ⟨c1, -⟩ := hc
    have c1 : ρ' 9 = ρ' 10 + 0 := c1
    show cx_V M (some (sx_cv1 ρ' (0, 0, -5))) M'
    rw [tk_cv h0]
    exact ⟨hm', Or.inl ⟨by omega, rfl, hM⟩⟩
  · have hM : ∀ a, a < 128 → M' a = M a := hM
    obtain ⟨c1, -⟩ := hc
    have c1 : ¬ ρ' 9 = ρ' 10 + 0 := c1
    have e32 := hM 32 (by decide)
    have e33 := hM 33 (by decide)
    have e10 := hM 10 (by decide)
    show rz_fin _ L xs 123 3 28 (sx_cl1 ρ' [(0, 2, 0, 8)]) (sx_cs1 ρ' [(2, 0, 9), (2, 0, 32)]) M'
    have hb := cx_stepOn (xs := xs) hL hm' (by rw [e32]; omega) (by
      have := hJ (M 32 1).toNat (by omega)
      unfold cx_J at this ⊢
      rw [e32, e33]
      exact this)
    refine og_call (d := 2) (d' := 2) (k := 124) (ρ := ρ') (m := 10) (s := [(2, 0, 9), (2, 0, 32)]) (as := [(2, 0, 32), (2, 0, 9)]) cr_f28 rfl (fun q hq => ?_) rfl rfl rfl (Nat.le_refl _) rfl hb (fun r M2 hR => ?_)
    · simp only [List.mem_cons, List.not_mem_nil, or_false] at hq
      rcases hq with rfl | rfl <;> exact ⟨by show 0 < 10; decide, (fun h => by cases h), fun h => by cases h⟩
    · obtain ⟨rfl, hS⟩ := hR
      have hS2 : cx_S (M 32 1 + 1) (cx_p M (M 32 1).toNat) (M 33 (4 * (M 32 1).toNat + 3)) M M2 := by
        obtain ⟨a1, a2, a3, a4, a5⟩ := hS
        unfold cx_p at a5
        rw [e32, e33, e10] at a5
        refine ⟨a1, fun a ha h1 h2 => by rw [a2 a ha h1 h2, hM a ha], fun i hi => by rw [a3 i hi, e32], by rw [a4, e32], ?_⟩
        rw [a5]
        rfl
      have hm2 := hS2.1
      have k2 : M2 32 2 = M 32 2 := hS2.2.2.1 2 (by decide)
      have k1 : M2 32 1 = M 32 1 + 1 := hS2.2.2.2.1
      obtain ⟨ρ3, s3, z9, z10⟩ := cr_sat (xs := xs) hL hm2
      refine og_use (Ts := [cr_T2]) (lv := cu_l) (s := []) cr_c2 (by decide +kernel) s3 (fun q hq => by rw [List.mem_singleton.mp hq]; exact sx_ck2 s3 _) (fun v hv => by cases hv) (Nat.le_refl _) rfl rfl (fun T hT ρ4 M4 x4 h04 hm4 hc4 hM4 => ?_)
      rw [List.mem_singleton.mp hT] at hM4 hc4 ⊢
      have hM4 : ∀ a, a < 128 → M4 a = M2 a := hM4
      obtain ⟨c4, -⟩ := hc4
      have c4 : ρ4 11 = sx_mf 1 (sx_val ρ4 (10, 0)) (sx_val ρ4 (9, 0)) := c4
      rw [og_v0 (og_v x4 (show 10 < 11 by decide) z10), og_v0 (og_v x4 (show 9 < 11 by decide) z9), og_sub (og_w32 (by omega) (by omega)), k1, k2] at c4
      show cx_V M (some (sx_cv1 ρ4 (0, 11, 0))) M4
      rw [og_int c4, show M 32 2 - (M 32 1 + 1) = M 32 2 - M 32 1 - 1 by omega]
      exact ⟨hm4, Or.inr ⟨by omega, rfl, cx_S_same hS2 hm4 hM4⟩⟩
end
