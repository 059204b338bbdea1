/-! An evening: the class's search, put together. -/
section
variable {L : Nat} {xs : Nat → Int32} {M M' M0 M1 M2 M3 : Nat → Nat → Int} {ρ ρ' : Nat → Int} {S n left : Nat} {k cell hour lost hours : Int} {w : List Int} {st : vn_S} {Q R : Option Value → (Nat → Nat → Int) → Prop}
def vx_P (S n : Nat) (M0 M : Nat → Nat → Int) (left : Nat) (cell hour lost hours : Int) (w : List Int) (st : vn_S) (r : Option Value) (M' : Nat → Nat → Int) : Prop := r = none ∧ sx_mok cl_ly M' ∧ vx_fr M0 M' ∧ vx_E S M' (vn_go (vx_C M0) (vx_D M0) n left cell hour lost hours w st) ∧ ∀ i, i < w.length → M' 30 i = M 30 i
def vx_G (L : Nat) (xs : Nat → Int32) (S : Nat) (M0 : Nat → Nat → Int) (n d : Nat) : Prop := ∀ (left : Nat) (cell hour lost hours : Int) (w : List Int) (st : vn_S) (M : Nat → Nat → Int), vx_r (w.length : Int) left cell hour lost hours → vn_pc left = n → w.length + n = S → 0 ≤ st.1 → st.1 ≤ 7 → sx_mok cl_ly M → vx_fr M0 M → vx_E S M st → vx_Y M w → rz_fin (vx_P S n M0 M left cell hour lost hours w st) L xs 94 d 0 (vx_v (w.length : Int) left cell hour lost hours) [] M
theorem vx_same (h : vx_fr M0 M) (e : ∀ a, a < 128 → M' a = M a) : vx_fr M0 M' := ⟨fun a ha g1 g2 g3 => (e a ha).trans (h.1 a ha g1 g2 g3), fun j g1 g2 => by rw [e 29 (by decide)]; exact h.2 j g1 g2⟩
theorem vx_Esame (h : vx_E S M st) (e : ∀ a, a < 128 → M' a = M a) : vx_E S M' st := by
  unfold vx_E at h ⊢
  rw [e 29 (by decide), e 31 (by decide)]
  exact h
theorem vx_mok (hm : sx_mok cl_ly M) : sx_mok cl_ly (fun k => if k = 31 then va_cpy (M 30) (M 31) (0 : Int).toNat (0 : Int).toNat (6 : Int).toNat else M k) := by
  intro k hh x r a b f
  show sx_w r ((if k = 31 then va_cpy (M 30) (M 31) 0 0 6 else M k) x)
  by_cases ek : k = 31
  · rw [if_pos ek]
    unfold va_cpy
    split
    · rename_i hx
      subst ek
      cases a
      cases f
      exact hm 30 _ (0 + (x - 0)) _ rfl (by show 0 + (x - 0) < 6; omega) rfl
    · rw [← ek]
      exact hm k hh x r a b f
  · rw [if_neg ek]
    exact hm k hh x r a b f
theorem vx_f44 : (sm_MT 94).2.2.2.2.2 44 = some (.invokestatic 42, 3) := rfl
theorem vx_lk : sm_LK (sm_MT 94).1 42 = some (12, 0, 0, 0) := rfl
theorem vx_leaf (hL : L < 2 ^ 31) (hS : S ≤ 6) : vx_G L xs S M0 0 3 := by
  intro left cell hour lost hours w st M hr hp hw s0 s7 hm hf hE hY
  have hl0 : left = 0 := by
    by_cases e : left = 0
    · exact e
    · obtain ⟨h, hh, hb⟩ := (vn_pc0 hr.2.1).2 e
      have := (vn_pc1 hr.2.1 hh hb).1
      omega
  subst hl0
  obtain ⟨e4, e5⟩ := id hE
  obtain ⟨ρ, s, n1, q1, q2⟩ := og_sat (xs := xs) (gs := vx_g0) (zs := [(w.length : Int), ((0 : Nat) : Int), cell, hour, lost, hours]) (fs := [(29, 4, (0, 7))]) hL hm (vx_zs0 hr) (vx_29 (by omega) (by omega))
  have n1 : vx_tl.1 = 16 := n1
  have rr : vx_R ρ (w.length : Int) 0 cell hour lost hours := ⟨q1 0 _ rfl, q1 1 _ rfl, q1 2 _ rfl, q1 3 _ rfl, q1 4 _ rfl, q1 5 _ rfl⟩
  have r15 : ρ 15 = M 29 4 := q2 0 _ rfl
  refine og_use (Ts := vx_Tl) (lv := vx_l) (s := []) vx_cl (by rfl) s (vx_ok (fun c => sx_ck2 s c) (by rw [n1]; decide) rr hr) (fun v hv => by cases hv) (Nat.le_refl _) (vx_el rr) rfl (fun T hT ρ' M1 x h0 hm1 hc hM => ?_)
  rw [n1] at x
  have t15 := og_v x (show 15 < 16 by decide) r15
  obtain ⟨t9, t10, t11, t12, t13, t14⟩ := vx_R_on x (by decide) rr
  simp only [vx_Tl, List.mem_cons, List.not_mem_nil, or_false] at hT
  rcases hT with rfl | rfl
  · obtain ⟨c1, -⟩ := hc
    have c1 : ρ' 13 < ρ' 15 + 0 := c1
    rw [t13, t15] at c1
    have hM : ∀ a, a < 128 → M1 a = sx_up (sx_up M 29 (sx_val ρ' (0, ((4 : Nat) : Int))).toNat (sx_val ρ' (13, 0))) 29 (sx_val ρ' (0, ((5 : Nat) : Int))).toNat (sx_val ρ' (14, 0)) a := hM
    rw [vn_n h0, vn_n h0, og_v0 t13, og_v0 t14] at hM
    have g29 : ∀ j, M1 29 j = if j = 5 then hours else if j = 4 then lost else M 29 j := fun j => by
      rw [hM 29 (by decide)]
      simp [sx_up]
    have goth : ∀ a, a < 128 → a ≠ 29 → M1 a = M a := fun a ha g => by rw [hM a ha, sh_une g, sh_une g]
    show rz_fin _ L xs 94 3 44 (sx_cl1 ρ' []) [sx_cv1 ρ' (0, 0, 6), sx_cv1 ρ' (0, 0, 0), .ref 31, sx_cv1 ρ' (0, 0, 0), .ref 30] M1
    rw [tk_cv h0, tk_cv h0]
    refine rz_cp vx_f44 vx_lk (g := (0, 0, 6, sx_r32, [])) (h9 := (0, 0, 6, sx_r32, [])) rfl rfl (by decide) (by decide) (by decide) (by decide) (by decide) (by decide) ?_
    have k1 := vx_mok hm1
    have k2 : ∀ a, a < 128 → a ≠ 31 → (fun k => if k = 31 then va_cpy (M1 30) (M1 31) (0 : Int).toNat (0 : Int).toNat (6 : Int).toNat else M1 k) a = M1 a := fun a ha h => by
      show (if a = 31 then _ else M1 a) = _
      rw [if_neg h]
    have k3 : ∀ i, i < 6 → (fun k => if k = 31 then va_cpy (M1 30) (M1 31) (0 : Int).toNat (0 : Int).toNat (6 : Int).toNat else M1 k) 31 i = M1 30 i := fun i hi => by
      show (if (31 : Nat) = 31 then va_cpy (M1 30) (M1 31) 0 0 6 else M1 31) i = _
      rw [if_pos rfl]
      unfold va_cpy
      rw [if_pos (by omega), show 0 + (i - 0) = i by omega]
    generalize (fun k => if k = 31 then va_cpy (M1 30) (M1 31) (0 : Int).toNat (0 : Int).toNat (6 : Int).toNat else M1 k) = N2 at k1 k2 k3 ⊢
    obtain ⟨ρ2, s2, n2, -, -⟩ := og_sat (xs := xs) (gs := []) (zs := []) (fs := []) hL k1 trivial (fun q hq => by cases hq)
    refine og_use (Ts := vx_T0) (lv := []) (s := []) vx_c47 (by rfl) s2 (fun q hq => by cases hq) (fun v hv => by cases hv) (Nat.le_refl _) rfl rfl (fun T hT ρ3 M3 x3 h03 hm3 hc3 hM3 => ?_)
    rw [List.mem_singleton.mp hT] at hM3 ⊢
    have hM3 : ∀ a, a < 128 → M3 a = N2 a := hM3
    have f29 : M3 29 = M1 29 := (hM3 29 (by decide)).trans (k2 29 (by decide) (by decide))
    refine ⟨rfl, hm3, ⟨fun a ha g1 g2 g3 => ?_, fun j g1 g2 => ?_⟩, ⟨?_, fun _ => ⟨?_, fun i hi => ?_⟩⟩, fun i hi => ?_⟩
    · rw [hM3 a ha, k2 a ha g3, goth a ha g1]
      exact hf.1 a ha g1 g2 g3
    · rw [f29, g29, if_neg g2, if_neg g1]
      exact hf.2 j g1 g2
    · rw [f29, g29, if_neg (by decide), if_pos rfl, vn_go_0, if_pos (by omega)]
    · rw [f29, g29, if_pos rfl, vn_go_0, if_pos (by omega)]
    · rw [hM3 31 (by decide), k3 i (by omega), goth 30 (by decide) (by decide), vn_go_0, if_pos (by omega)]
      exact hY i (by omega)
    · rw [hM3 30 (by decide), k2 30 (by decide) (by decide), goth 30 (by decide) (by decide)]
  · obtain ⟨c1, -⟩ := hc
    have c1 : ¬ ρ' 13 < ρ' 15 + 0 := c1
    rw [t13, t15] at c1
    have hM : ∀ a, a < 128 → M1 a = M a := hM
    refine ⟨rfl, hm1, vx_same hf hM, ?_, fun i _ => by rw [hM 30 (by decide)]⟩
    rw [vn_go_0, if_neg (by omega)]
    exact vx_Esame hE hM
theorem vx_f85 : (sm_MT 94).2.2.2.2.2 85 = some (.invokestatic 57, 3) := rfl
theorem vx_el8 {h : Nat} {y : Nat} {z : Int} (h0 : ρ 0 = 0) (r : vx_R ρ k left cell hour lost hours) (ry : ρ y = z) : sx_cl1 ρ (vx_l7 h ++ [(8, 0, y, 0)]) = vx_v7 k left cell hour lost hours h ++ [(8, .int (Int32.ofInt z))] := by
  have e : sx_cl1 ρ (vx_l7 h ++ [(8, 0, y, 0)]) = sx_cl1 ρ (vx_l7 h) ++ [(8, sx_cv1 ρ (0, y, 0))] := rfl
  rw [e, vx_el7 h0 r, og_int ry]
theorem vx_ok8 {m h y : Nat} {z : Int} (hl : sx_okl ρ m (vx_l7 h)) (hy : y < m) (ry : ρ y = z) (wz : sx_w sx_r32 z) : sx_okl ρ m (vx_l7 h ++ [(8, 0, y, 0)]) := by
  intro q hq
  rcases List.mem_append.mp hq with hq | hq
  · exact hl q hq
  · rw [List.mem_singleton.mp hq]
    exact tk_ok0 hy (by rw [ry]; exact wz)
theorem vx_getD {w : List Int} {z : Int} {i : Nat} (hi : i < w.length) : (w ++ [z]).getD i 0 = w.getD i 0 := by
  rw [List.getD_eq_getElem?_getD, List.getD_eq_getElem?_getD, List.getElem?_append_left hi]
theorem vx_getD1 {w : List Int} {z : Int} : (w ++ [z]).getD w.length 0 = z := by
  rw [List.getD_eq_getElem?_getD, List.getElem?_append_right (Nat.le_refl _), Nat.sub_self]
  rfl
/-- a house is tried -/
theorem vx_try (hL : L < 2 ^ 31) {e h : Nat} (he : e < 6) (hh : h < 6) (ih : vx_G L xs S M0 e (e + 3)) (hr : vx_r (w.length : Int) left cell hour lost hours) (hp : vn_pc left = e + 1) (hw : w.length + (e + 1) = S) (hS : S ≤ 6) (hb : left.testBit h = true) (s0 : 0 ≤ st.1) (s7 : st.1 ≤ 7) (hm : sx_mok cl_ly M) (hf : vx_fr M0 M) (hE : vx_E S M st) (hY : vx_Y M w) (K : ∀ M', sx_mok cl_ly M' → vx_fr M0 M' → vx_E S M' (vn_f (vx_C M0) (vx_D M0) e left cell hour lost hours w h st) → (∀ i, i < w.length → M' 30 i = M 30 i) → rz_fin Q L xs 94 (e + 4) 51 (vx_v7 (w.length : Int) left cell hour lost hours (h + 1)) [] M') : rz_fin Q L xs 94 (e + 4) 88 (vx_v7 (w.length : Int) left cell hour lost hours h ++ [(8, .int (Int32.ofInt (vx_C M0 h)))]) [.int (Int32.ofInt (vn_dr cell (vx_C M0 h))), .int (Int32.ofInt hour)] M := by
  have hl : left ≠ 0 := fun e => by
    subst e
    rw [show vn_pc 0 = 0 from rfl] at hp
    omega
  have e10 : M 10 = M0 10 := hf.1 10 (by decide) (by decide) (by decide) (by decide)
  obtain ⟨w1, w2, w3, w4, w5, w6⟩ := vx_w hr
  obtain ⟨r1, r2, r3, r4, r5, r6⟩ := id hr
  have wC : sx_w (-1, 143) (vx_C M0 h) := by
    unfold vx_C
    rw [← e10]
    exact vx_10 hm (by omega)
  have wD : sx_w (-1, 143) (vx_D M0 h) := by
    unfold vx_D
    rw [← e10]
    exact vx_10 hm (by omega)
  have dr := vn_dr_r r3 wC
  have wd : sx_w sx_r32 (vn_dr cell (vx_C M0 h)) := og_w32 (by omega) (by omega)
  obtain ⟨z1, z2, z3, z4, z5, z6, -⟩ := vx_zs hr (by omega) hl
  obtain ⟨ρ, s, n1, q1, q2⟩ := og_sat (xs := xs) (gs := vx_g ++ [(0, (0, 6)), (0, (-1, 143))]) (zs := [(w.length : Int), (left : Int), cell, hour, lost, hours, vn_dr cell (vx_C M0 h), vx_C M0 h]) (fs := [(10, 120 + h, (-1, 143))]) hL hm (show og_zs [(0, (0, 5)), (0, (1, 63)), (0, (-1, 143)), (0, (0, 42)), (0, (0, 6)), (0, (0, 300)), (0, (0, 6)), (0, (-1, 143))] [(w.length : Int), (left : Int), cell, hour, lost, hours, vn_dr cell (vx_C M0 h), vx_C M0 h] from ⟨z1, z2, z3, z4, z5, z6, og_z rfl dr.1 dr.2 wd, og_z rfl wC.1 wC.2 (vn_w wC), trivial⟩) (fun g hg => by
    rw [List.mem_singleton.mp hg]
    exact ⟨by show (10 : Nat) < 128; decide, vx_10 hm (show 120 + h < 240 by omega), vx_10w hm (show 120 + h < 240 by omega)⟩)
  have n1 : (vx_ta h).1 = 18 := n1
  have rr : vx_R ρ (w.length : Int) left cell hour lost hours := ⟨q1 0 _ rfl, q1 1 _ rfl, q1 2 _ rfl, q1 3 _ rfl, q1 4 _ rfl, q1 5 _ rfl⟩
  have r15 : ρ 15 = vn_dr cell (vx_C M0 h) := q1 6 _ rfl
  have r16 : ρ 16 = vx_C M0 h := q1 7 _ rfl
  have r17 : ρ 17 = vx_D M0 h := by
    have : ρ 17 = M 10 (120 + h) := q2 0 _ rfl
    rw [this, e10]
    rfl
  have h00 : ρ 0 = 0 := s.2.1
  have o7 : sx_okl ρ (vx_ta h).1 (vx_l7 h) := vx_ok7 h00 (by omega) (by rw [n1]; decide) (vx_ok (fun c => sx_ck2 s c) (by rw [n1]; decide) rr hr)
  refine og_use (Ts := vx_Ta h) (lv := vx_l7 h ++ [(8, 0, 16, 0)]) (s := [(0, 15, 0), (0, 12, 0)]) (List.all_eq_true.mp (List.all_eq_true.mp vx_ca e (List.mem_range.mpr he)) h (List.mem_range.mpr hh)) (by rfl) s (vx_ok8 o7 (by rw [n1]; decide) r16 (vn_w wC)) (fun v hv => by
    simp only [List.mem_cons, List.not_mem_nil, or_false] at hv
    rcases hv with rfl | rfl
    · exact tk_ok0 (by rw [n1]; decide) (by rw [r15]; exact wd)
    · exact tk_ok0 (by rw [n1]; decide) (by rw [rr.2.2.2.1]; exact w4)) (Nat.le_refl _) (vx_el8 h00 rr r16) (by show [sx_cv1 ρ (0, 15, 0), sx_cv1 ρ (0, 12, 0)] = _; rw [og_int r15, og_int rr.2.2.2.1]) (fun T hT ρ' M1 x h0 hm1 hc hM => ?_)
  rw [n1] at x
  have tt := vx_R_on x (by decide) rr
  have t15 := og_v x (show 15 < 18 by decide) r15
  have t16 := og_v x (show 16 < 18 by decide) r16
  have t17 := og_v x (show 17 < 18 by decide) r17
  obtain ⟨t9, t10, t11, t12, t13, t14⟩ := id tt
  obtain ⟨bt1, bt2⟩ := (vx_bit r2 hh).1 hb
  obtain ⟨pc1, pc2⟩ := vn_pc1 r2 hh hb
  have sub := Nat.sub_le left (2 ^ h)
  have el1 : ((w ++ [(h : Int)]).length : Int) = (w.length : Int) + 1 := by
    rw [List.length_append]
    show ((w.length + 1 : Nat) : Int) = _
    omega
  have lt := vn_late_r (hour + vn_dr cell (vx_C M0 h)) (vx_D M0 h)
  have hr' : vx_r ((w ++ [(h : Int)]).length : Int) (left - 2 ^ h) (vx_C M0 h) (hour + vn_dr cell (vx_C M0 h) + 1) (lost + vn_late (hour + vn_dr cell (vx_C M0 h)) (vx_D M0 h)) (hours + (hour + vn_dr cell (vx_C M0 h))) := by
    rw [el1]
    exact ⟨by omega, by omega, wC, by omega, by omega, by omega⟩
  have key : ∀ q : Int, q = vn_late (hour + vn_dr cell (vx_C M0 h)) (vx_D M0 h) → og_cs ρ' M1 (vx_af h) → (∀ a, a < 128 → M1 a = og_up ρ' [(30, (9, 0), (0, (h : Int)))] M a) → rz_fin Q L xs 94 (e + 4) 149 (sx_cl1 ρ' (vx_l7 h)) (sx_cs1 ρ' (vx_as q)) M1 := fun q hq hc hM => by
    obtain ⟨c1, c2, c3, -⟩ := hc
    have c1 : ρ' 18 = sx_mf 0 (sx_val ρ' (12, 0)) (sx_val ρ' (15, 0)) := c1
    have c2 : ρ' 19 = sx_mf 3 (sx_val ρ' (10, 0)) (sx_val ρ' (0, -1 - ((2 ^ h : Nat) : Int))) := c2
    have c3 : ρ' 20 = sx_mf 0 (sx_val ρ' (14, 0)) (sx_val ρ' (18, 0)) := c3
    rw [og_v0 t12, og_v0 t15, vn_add (og_w32 (by omega) (by omega))] at c1
    rw [og_v0 t10, og_c h0, bt2] at c2
    rw [og_v0 t14, og_v0 c1, vn_add (og_w32 (by omega) (by omega))] at c3
    have hM : ∀ a, a < 128 → M1 a = sx_up M 30 (sx_val ρ' (9, 0)).toNat (sx_val ρ' (0, (h : Int))) a := hM
    rw [og_v0 t9, og_c h0, Int.toNat_natCast] at hM
    have g30 : ∀ i, M1 30 i = if i = w.length then (h : Int) else M 30 i := fun i => by
      rw [hM 30 (by decide)]
      simp [sx_up]
    have goth : ∀ a, a < 128 → a ≠ 30 → M1 a = M a := fun a ha g => by rw [hM a ha, sh_une g]
    have eS : sx_cs1 ρ' (vx_as q) = vn_s6 29 ((w ++ [(h : Int)]).length : Int) (left - 2 ^ h) (vx_C M0 h) (hour + vn_dr cell (vx_C M0 h) + 1) (lost + vn_late (hour + vn_dr cell (vx_C M0 h)) (vx_D M0 h)) (hours + (hour + vn_dr cell (vx_C M0 h))) := by
      show [sx_cv1 ρ' (0, 20, 0), sx_cv1 ρ' (0, 13, q), sx_cv1 ρ' (0, 18, 1), sx_cv1 ρ' (0, 16, 0), sx_cv1 ρ' (0, 19, 0), sx_cv1 ρ' (0, 9, 1), Value.ref 29] = _
      rw [og_int c3, sx_cvk0 (v := (0, 13, q)) rfl, og_vv (c := q) t13, sx_cvk0 (v := (0, 18, 1)) rfl, og_vv (c := 1) c1, og_int t16, og_int c2, sx_cvk0 (v := (0, 9, 1)) rfl, og_vv (c := 1) t9, hq, el1]
      rfl
    rw [eS, vx_el7 h0 tt]
    refine vx_call (j := 94) (pc := 149) (d := e + 3) (R := vx_P S e M0 M1 (left - 2 ^ h) (vx_C M0 h) (hour + vn_dr cell (vx_C M0 h) + 1) (lost + vn_late (hour + vn_dr cell (vx_C M0 h)) (vx_D M0 h)) (hours + (hour + vn_dr cell (vx_C M0 h))) (w ++ [(h : Int)]) st) rfl rfl hr' (ih _ _ _ _ _ (w ++ [(h : Int)]) st M1 hr' (by omega) (by rw [List.length_append]; show w.length + 1 + e = S; omega) s0 s7 hm1 ⟨fun a ha g1 g2 g3 => (goth a ha g2).trans (hf.1 a ha g1 g2 g3), fun j g1 g2 => by rw [goth 29 (by decide) (by decide)]; exact hf.2 j g1 g2⟩ ?_ (fun i hi => ?_)) (fun M2 hR => ?_) (fun r M' h => h.1)
    · unfold vx_E at hE ⊢
      rw [goth 29 (by decide) (by decide), goth 31 (by decide) (by decide)]
      exact hE
    · rw [g30]
      rw [List.length_append] at hi
      have hi : i < w.length + 1 := hi
      by_cases ei : i = w.length
      · subst ei
        rw [if_pos rfl, vx_getD1]
      · rw [if_neg ei, vx_getD (by omega)]
        exact hY i (by omega)
    · obtain ⟨-, hm2, hf2, hE2, hk2⟩ := hR
      obtain ⟨ρ4, s4, n4, p1, -⟩ := og_sat (xs := xs) (gs := vx_g) (zs := [(w.length : Int), (left : Int), cell, hour, lost, hours]) (fs := []) hL hm2 (vx_zs hr (by omega) hl) (fun g hg => by cases hg)
      have n4 : vx_t6.1 = 15 := n4
      have rr4 : vx_R ρ4 (w.length : Int) left cell hour lost hours := ⟨p1 0 _ rfl, p1 1 _ rfl, p1 2 _ rfl, p1 3 _ rfl, p1 4 _ rfl, p1 5 _ rfl⟩
      refine og_use (Ts := vx_Tn h) (lv := vx_l7 h) (s := []) (List.all_eq_true.mp (List.all_eq_true.mp vx_cn e (List.mem_range.mpr he)) h (List.mem_range.mpr hh)) (by rfl) s4 (vx_ok7 s4.2.1 (by omega) (by rw [n4]; decide) (vx_ok (fun c => sx_ck2 s4 c) (by rw [n4]; decide) rr4 hr)) (fun v hv => by cases hv) (Nat.le_refl _) (vx_el7 s4.2.1 rr4) rfl (fun T hT ρ5 M5 x5 h05 hm5 hc5 hM5 => ?_)
      rw [n4] at x5
      rw [List.mem_singleton.mp hT] at hM5 ⊢
      have hM5 : ∀ a, a < 128 → M5 a = M2 a := hM5
      show rz_fin Q L xs 94 (e + 4) 51 (sx_cl1 ρ5 (vx_l7 (h + 1))) [] M5
      rw [vx_el7 h05 (vx_R_on x5 (by decide) rr4)]
      refine K M5 hm5 (vx_same hf2 hM5) ?_ (fun i hi => ?_)
      · unfold vn_f
        rw [if_pos hb]
        exact vx_Esame hE2 hM5
      · rw [hM5 30 (by decide), hk2 i (by rw [List.length_append]; show i < w.length + 1; omega), g30, if_neg (by omega)]
  simp only [vx_Ta, List.mem_cons, List.not_mem_nil, or_false] at hT
  rcases hT with rfl | rfl
  · obtain ⟨c1, c2, c3, c4, -⟩ := hc
    have e18 : ρ' 18 = hour + vn_dr cell (vx_C M0 h) := by
      have c1 : ρ' 18 = sx_mf 0 (sx_val ρ' (12, 0)) (sx_val ρ' (15, 0)) := c1
      rw [og_v0 t12, og_v0 t15, vn_add (og_w32 (by omega) (by omega))] at c1
      exact c1
    have c4 : ρ' 17 < ρ' 18 + 0 := c4
    rw [t17, e18] at c4
    exact key 1 (by unfold vn_late; rw [if_pos (by omega)]) ⟨c1, c2, c3, trivial⟩ hM
  · obtain ⟨c1, c2, c3, c4, -⟩ := hc
    have e18 : ρ' 18 = hour + vn_dr cell (vx_C M0 h) := by
      have c1 : ρ' 18 = sx_mf 0 (sx_val ρ' (12, 0)) (sx_val ρ' (15, 0)) := c1
      rw [og_v0 t12, og_v0 t15, vn_add (og_w32 (by omega) (by omega))] at c1
      exact c1
    have c4 : ¬ ρ' 17 < ρ' 18 + 0 := c4
    rw [t17, e18] at c4
    exact key 0 (by unfold vn_late; rw [if_neg (by omega)]) ⟨c1, c2, c3, trivial⟩ hM
theorem vx_loop (hL : L < 2 ^ 31) {e : Nat} (he : e < 6) (ih : vx_G L xs S M0 e (e + 3)) (hr : vx_r (w.length : Int) left cell hour lost hours) (hp : vn_pc left = e + 1) (hw : w.length + (e + 1) = S) (hS : S ≤ 6) : ∀ (m h : Nat) (M : Nat → Nat → Int) (st : vn_S), h + m = 6 → 0 ≤ st.1 → st.1 ≤ 7 → sx_mok cl_ly M → vx_fr M0 M → vx_E S M st → vx_Y M w → rz_fin (fun r M' => r = none ∧ sx_mok cl_ly M' ∧ vx_fr M0 M' ∧ vx_E S M' (vn_from (vn_f (vx_C M0) (vx_D M0) e left cell hour lost hours w) m h st) ∧ ∀ i, i < w.length → M' 30 i = M 30 i) L xs 94 (e + 4) 51 (vx_v7 (w.length : Int) left cell hour lost hours h) [] M := by
  have hl : left ≠ 0 := fun e => by
    subst e
    rw [show vn_pc 0 = 0 from rfl] at hp
    omega
  obtain ⟨w1, w2, w3, w4, w5, w6⟩ := vx_w hr
  obtain ⟨r1, r2, r3, r4, r5, r6⟩ := id hr
  intro m
  induction m with
  | zero =>
    intro h M st hh s0 s7 hm hf hE hY
    have h6 : h = 6 := by omega
    subst h6
    obtain ⟨ρ, s, n1, q1, -⟩ := og_sat (xs := xs) (gs := vx_g) (zs := [(w.length : Int), (left : Int), cell, hour, lost, hours]) (fs := []) hL hm (vx_zs hr (by omega) hl) (fun g hg => by cases hg)
    have n1 : vx_t6.1 = 15 := n1
    have rr : vx_R ρ (w.length : Int) left cell hour lost hours := ⟨q1 0 _ rfl, q1 1 _ rfl, q1 2 _ rfl, q1 3 _ rfl, q1 4 _ rfl, q1 5 _ rfl⟩
    refine og_use (Ts := vx_T0) (lv := vx_l7 6) (s := []) (List.all_eq_true.mp vx_c6 e (List.mem_range.mpr he)) (by rfl) s (vx_ok7 s.2.1 (by decide) (by rw [n1]; decide) (vx_ok (fun c => sx_ck2 s c) (by rw [n1]; decide) rr hr)) (fun v hv => by cases hv) (Nat.le_refl _) (vx_el7 s.2.1 rr) rfl (fun T hT ρ' M1 x h0 hm1 hc hM => ?_)
    rw [List.mem_singleton.mp hT] at hM ⊢
    have hM : ∀ a, a < 128 → M1 a = M a := hM
    exact ⟨rfl, hm1, vx_same hf hM, vx_Esame hE hM, fun i _ => by rw [hM 30 (by decide)]⟩
  | succ m ihm =>
    intro h M st hh s0 s7 hm hf hE hY
    have h6 : h < 6 := by omega
    have e10 : M 10 = M0 10 := hf.1 10 (by decide) (by decide) (by decide) (by decide)
    have wC : sx_w (-1, 143) (vx_C M0 h) := by
      unfold vx_C
      rw [← e10]
      exact vx_10 hm (by omega)
    obtain ⟨ρ, s, n1, q1, q2⟩ := og_sat (xs := xs) (gs := vx_g) (zs := [(w.length : Int), (left : Int), cell, hour, lost, hours]) (fs := [(10, h, (-1, 143))]) hL hm (vx_zs hr (by omega) hl) (fun g hg => by
      rw [List.mem_singleton.mp hg]
      exact ⟨by show (10 : Nat) < 128; decide, vx_10 hm (show h < 240 by omega), vx_10w hm (show h < 240 by omega)⟩)
    have n1 : (vx_tp h).1 = 16 := n1
    have rr : vx_R ρ (w.length : Int) left cell hour lost hours := ⟨q1 0 _ rfl, q1 1 _ rfl, q1 2 _ rfl, q1 3 _ rfl, q1 4 _ rfl, q1 5 _ rfl⟩
    have r15 : ρ 15 = vx_C M0 h := by
      have : ρ 15 = M 10 h := q2 0 _ rfl
      rw [this, e10]
      rfl
    refine og_use (Ts := vx_Tp h) (lv := vx_l7 h) (s := []) (List.all_eq_true.mp (List.all_eq_true.mp vx_cp e (List.mem_range.mpr he)) h (List.mem_range.mpr h6)) (by rfl) s (vx_ok7 s.2.1 (by omega) (by rw [n1]; decide) (vx_ok (fun c => sx_ck2 s c) (by rw [n1]; decide) rr hr)) (fun v hv => by cases hv) (Nat.le_refl _) (vx_el7 s.2.1 rr) rfl (fun T hT ρ' M1 x h0 hm1 hc hM => ?_)
    rw [n1] at x
    have tt := vx_R_on x (by decide) rr
    have t15 := og_v x (show 15 < 16 by decide) r15
    obtain ⟨t9, t10, t11, t12, t13, t14⟩ := id tt
    have e17 : og_cs ρ' M1 (vx_bf h) → ρ' 17 = sx_mf 3 (sx_mf 10 (left : Int) (h : Int)) 1 := fun hc => by
      obtain ⟨c1, c2, -⟩ := hc
      have c1 : ρ' 16 = sx_mf 10 (sx_val ρ' (10, 0)) (sx_val ρ' (0, (h : Int))) := c1
      have c2 : ρ' 17 = sx_mf 3 (sx_val ρ' (16, 0)) (sx_val ρ' (0, 1)) := c2
      rw [og_v0 t10, og_c h0] at c1
      rw [og_v0 c1, og_c h0] at c2
      exact c2
    simp only [vx_Tp, List.mem_cons, List.not_mem_nil, or_false] at hT
    rcases hT with rfl | rfl
    · obtain ⟨c1, c2, ⟨c3, c4⟩, -⟩ := hc
      have e17 := e17 ⟨c1, c2, trivial⟩
      have c3 : 1 ≤ sx_val ρ' (17, 0) := c3
      rw [og_v0 e17] at c3
      have hb : left.testBit h = true := by
        by_cases hb : left.testBit h = true
        · exact hb
        · have := (vx_bit r2 h6).2 hb
          omega
      have hM : ∀ a, a < 128 → M1 a = M a := hM
      show rz_fin _ L xs 94 (e + 4) 85 (sx_cl1 ρ' (vx_l7 h ++ [(8, 0, 15, 0)])) [sx_cv1 ρ' (0, 15, 0), sx_cv1 ρ' (0, 11, 0), sx_cv1 ρ' (0, 12, 0)] M1
      rw [vx_el8 h0 tt t15, og_int t15, og_int t11, og_int t12]
      refine vn_call2 (i := 95) (d := 2) (d' := e + 3) vx_f85 rfl (Nat.le_of_ble_eq_true rfl) w3 (vn_w wC) w4 (by omega) (vn_dx hL hm1 r3 wC) (fun r M2 hR => ?_)
      obtain ⟨rfl, hm2, hM2⟩ := hR
      have e2 : ∀ a, a < 128 → M2 a = M a := fun a ha => (hM2 a ha).trans (hM a ha)
      refine vx_try hL he h6 ih hr hp hw hS hb s0 s7 hm2 (vx_same hf e2) (vx_Esame hE e2) (fun i hi => by rw [e2 30 (by decide)]; exact hY i hi) (fun M3 hm3 hf3 hE3 hk3 => ?_)
      have hk3 : ∀ i, i < w.length → M3 30 i = M 30 i := fun i hi => by rw [hk3 i hi, e2 30 (by decide)]
      obtain ⟨F, r, M4, f1, f2, f3, f4, f5, f6⟩ := ihm (h + 1) M3 _ (by omega) (vn_f_ge h r5.1 s0) (Int.le_trans (vn_f_le h) s7) hm3 hf3 hE3 (fun i hi => by rw [hk3 i hi]; exact hY i hi)
      exact ⟨F, r, M4, f1, f2, f3, f4, f5, fun i hi => (f6 i hi).trans (hk3 i hi)⟩
    · obtain ⟨c1, c2, c3, -⟩ := hc
      have e17 := e17 ⟨c1, c2, trivial⟩
      have c3 : ρ' 17 ≠ 1 := c3
      rw [e17] at c3
      have hb : ¬ left.testBit h = true := fun hb => c3 ((vx_bit r2 h6).1 hb).1
      have hM : ∀ a, a < 128 → M1 a = M a := hM
      show rz_fin _ L xs 94 (e + 4) 51 (sx_cl1 ρ' (vx_l7 (h + 1))) [] M1
      rw [vx_el7 h0 tt]
      have es : vn_f (vx_C M0) (vx_D M0) e left cell hour lost hours w h st = st := by
        unfold vn_f
        rw [if_neg hb]
      obtain ⟨F, r, M4, f1, f2, f3, f4, f5, f6⟩ := ihm (h + 1) M1 st (by omega) s0 s7 hm1 (vx_same hf hM) (vx_Esame hE hM) (fun i hi => by rw [hM 30 (by decide)]; exact hY i hi)
      refine ⟨F, r, M4, f1, f2, f3, f4, ?_, fun i hi => by rw [f6 i hi, hM 30 (by decide)]⟩
      show vx_E S M4 (vn_from _ m (h + 1) (vn_f (vx_C M0) (vx_D M0) e left cell hour lost hours w h st))
      rw [es]
      exact f5
theorem vx_step (hL : L < 2 ^ 31) {e : Nat} (he : e < 6) (ih : vx_G L xs S M0 e (e + 3)) (hS : S ≤ 6) : vx_G L xs S M0 (e + 1) (e + 4) := by
  intro left cell hour lost hours w st M hr hp hw s0 s7 hm hf hE hY
  have hl : left ≠ 0 := fun e => by
    subst e
    rw [show vn_pc 0 = 0 from rfl] at hp
    omega
  obtain ⟨e4, e5⟩ := id hE
  obtain ⟨ρ, s, n1, q1, q2⟩ := og_sat (xs := xs) (gs := vx_g) (zs := [(w.length : Int), (left : Int), cell, hour, lost, hours]) (fs := [(29, 4, (0, 7))]) hL hm (vx_zs hr (by omega) hl) (vx_29 (by omega) (by omega))
  have n1 : vx_th.1 = 16 := n1
  have rr : vx_R ρ (w.length : Int) left cell hour lost hours := ⟨q1 0 _ rfl, q1 1 _ rfl, q1 2 _ rfl, q1 3 _ rfl, q1 4 _ rfl, q1 5 _ rfl⟩
  have r15 : ρ 15 = M 29 4 := q2 0 _ rfl
  refine og_use (Ts := vx_Th) (lv := vx_l) (s := []) (List.all_eq_true.mp vx_ch e (List.mem_range.mpr he)) (by rfl) s (vx_ok (fun c => sx_ck2 s c) (by rw [n1]; decide) rr hr) (fun v hv => by cases hv) (Nat.le_refl _) (vx_el rr) rfl (fun T hT ρ' M1 x h0 hm1 hc hM => ?_)
  rw [n1] at x
  have t15 := og_v x (show 15 < 16 by decide) r15
  have tt := vx_R_on x (by decide) rr
  simp only [vx_Th, List.mem_cons, List.not_mem_nil, or_false] at hT
  rcases hT with rfl | rfl
  · have hM : ∀ a, a < 128 → M1 a = M a := hM
    show rz_fin _ L xs 94 (e + 4) 51 (sx_cl1 ρ' (vx_l7 0)) [] M1
    rw [vx_el7 h0 tt]
    obtain ⟨F, r, M4, f1, f2, f3, f4, f5, f6⟩ := vx_loop hL he ih hr hp hw hS 6 0 M1 st rfl s0 s7 hm1 (vx_same hf hM) (vx_Esame hE hM) (fun i hi => by rw [hM 30 (by decide)]; exact hY i hi)
    exact ⟨F, r, M4, f1, f2, f3, f4, f5, fun i hi => by rw [f6 i hi, hM 30 (by decide)]⟩
  · obtain ⟨c1, -⟩ := hc
    have c1 : ¬ ρ' 13 < ρ' 15 + 0 := c1
    rw [tt.2.2.2.2.1, t15] at c1
    have hM : ∀ a, a < 128 → M1 a = M a := hM
    refine ⟨rfl, hm1, vx_same hf hM, ?_, fun i _ => by rw [hM 30 (by decide)]⟩
    rw [vn_prune _ _ _ _ _ _ _ _ (by omega)]
    exact vx_Esame hE hM
theorem vx_all (hL : L < 2 ^ 31) (hS : S ≤ 6) : ∀ n, n ≤ 6 → vx_G L xs S M0 n (n + 3) := by
  intro n
  induction n with
  | zero => exact fun _ => vx_leaf hL hS
  | succ n ih => exact fun h => vx_step hL (by omega) (ih (by omega)) hS
end
