/-! An evening: the reference's search, put together. -/
section
variable {L : Nat} {xs : Nat → Int32} {M M' M0 M1 M2 M3 : Nat → Nat → Int} {ρ ρ' : Nat → Int} {S n left : Nat} {k cell hour lost hours : Int} {w : List Int} {st : vn_S} {Q R : Option Value → (Nat → Nat → Int) → Prop}
def vy_P (S n : Nat) (M0 M : Nat → Nat → Int) (left : Nat) (cell hour lost hours : Int) (w : List Int) (st : vn_S) (r : Option Value) (M' : Nat → Nat → Int) : Prop := r = none ∧ sx_mok cl_ly M' ∧ vy_fr M0 M' ∧ vy_E S M' (vn_go (vy_C M0) (vy_D M0) n left cell hour lost hours w st) ∧ ∀ i, i < w.length → M' 80 i = M 80 i
/-- only houses that there are -/
def vy_H (M0 : Nat → Nat → Int) (left : Nat) : Prop := ∀ h, h < 6 → left.testBit h = true → (h : Int) < M0 53 1
def vy_G (L : Nat) (xs : Nat → Int32) (S : Nat) (M0 : Nat → Nat → Int) (n d : Nat) : Prop := ∀ (left : Nat) (cell hour lost hours : Int) (w : List Int) (st : vn_S) (M : Nat → Nat → Int), vx_r (w.length : Int) left cell hour lost hours → vn_pc left = n → w.length + n = S → vy_H M0 left → 0 ≤ st.1 → st.1 ≤ 7 → sx_mok cl_ly M → vy_fr M0 M → vy_E S M st → vy_Y M w → rz_fin (vy_P S n M0 M left cell hour lost hours w st) L xs 223 d 0 (vy_v (w.length : Int) left cell hour lost hours) [] M
theorem vy_same (h : vy_fr M0 M) (e : ∀ a, a < 128 → M' a = M a) : vy_fr M0 M' := ⟨fun a ha g1 g2 g3 => (e a ha).trans (h.1 a ha g1 g2 g3), fun j g1 g2 => by rw [e 53 (by decide)]; exact h.2 j g1 g2⟩
theorem vy_Esame (h : vy_E S M st) (e : ∀ a, a < 128 → M' a = M a) : vy_E S M' st := by
  unfold vy_E at h ⊢
  rw [e 53 (by decide), e 81 (by decide)]
  exact h
theorem vy_46 (h : vy_E S M st) (s0 : 0 ≤ st.1) (s7 : st.1 ≤ 7) : (M 53 46 = -1 ∧ st.1 = 7) ∨ (M 53 46 = st.1 ∧ 0 ≤ st.1 ∧ st.1 ≤ 6) := by
  obtain ⟨e4, -⟩ := h
  by_cases e : st.1 = 7
  · rw [if_pos e] at e4
    exact Or.inl ⟨e4, e⟩
  · rw [if_neg e] at e4
    exact Or.inr ⟨e4, s0, by omega⟩
theorem vy_leaf (hL : L < 2 ^ 31) (hS : S ≤ 6) : vy_G L xs S M0 0 3 := by
  intro left cell hour lost hours w st M hr hp hw hH s0 s7 hm hf hE hY
  have hl0 : left = 0 := by
    by_cases e : left = 0
    · exact e
    · obtain ⟨h, hh, hb⟩ := (vn_pc0 hr.2.1).2 e
      have := (vn_pc1 hr.2.1 hh hb).1
      omega
  subst hl0
  have h46 := vy_46 hE s0 s7
  obtain ⟨r1, r2, r3, r4, r5, r6⟩ := id hr
  have w46 : sx_w (-1, 6) (M 53 46) := ⟨by show (-1 : Int) ≤ M 53 46; omega, by show M 53 46 ≤ (6 : Int); omega⟩
  obtain ⟨ρ, s, n1, q1, q2⟩ := og_sat (xs := xs) (gs := vy_g0 w.length) (zs := [((0 : Nat) : Int), (w.length : Int), cell, hour, lost, hours]) (fs := vy_f0 w.length) hL hm (vy_zs0 hr) (fun g hg => by
    rcases List.mem_cons.mp hg with rfl | hg
    · exact ⟨by show (53 : Nat) < 128; decide, w46, by show sx_w sx_r64 (M 53 46); rw [sx_r64_iff]; omega⟩
    · obtain ⟨i, hi, rfl⟩ := List.mem_map.mp hg
      have hi := List.mem_range.mp hi
      exact ⟨by show (80 : Nat) < 128; decide, vy_80 hm (show i < 6 by omega), sx_32_64 (vy_80 hm (show i < 6 by omega))⟩)
  have n1 : (vy_tl w.length).1 = 16 + w.length := by
    have : (vy_tl w.length).1 = 9 + (vy_g0 w.length).length + (vy_f0 w.length).length := n1
    rw [this]
    show 9 + 6 + (((List.range w.length).map fun i => ((80, i, sx_r32) : ct_G)).length + 1) = _
    rw [List.length_map, List.length_range]
    omega
  have rr : vy_R ρ (w.length : Int) 0 cell hour lost hours := ⟨q1 0 _ rfl, q1 1 _ rfl, q1 2 _ rfl, q1 3 _ rfl, q1 4 _ rfl, q1 5 _ rfl⟩
  have r15 : ρ 15 = M 53 46 := q2 0 _ rfl
  have rw_ : ∀ i, i < w.length → ρ (16 + i) = M 80 i := fun i hi => by
    have := q2 (i + 1) (80, i, sx_r32) (by
      show ((List.range w.length).map fun i => ((80, i, sx_r32) : ct_G))[i]? = _
      rw [List.getElem?_map, List.getElem?_range hi]
      rfl)
    rw [show 9 + (vy_g0 w.length).length + (i + 1) = 16 + i by show 9 + 6 + (i + 1) = 16 + i; omega] at this
    exact this
  refine og_use (Ts := vy_Tl w.length) (lv := vy_l) (s := []) (List.all_eq_true.mp vy_cl w.length (List.mem_range.mpr (by omega))) (by rfl) s (vy_ok (fun c => sx_ck2 s c) (by rw [n1]; omega) rr hr) (fun v hv => by cases hv) (Nat.le_refl _) (vy_el rr) rfl (fun T hT ρ' M1 x h0 hm1 hc hM => ?_)
  rw [n1] at x
  have t15 := og_v x (show 15 < 16 + w.length by omega) r15
  obtain ⟨t9, t10, t11, t12, t13, t14⟩ := vy_R_on x (by omega) rr
  have win : lost < st.1 → (∀ a, a < 128 → M1 a = og_up ρ' (vy_W w.length ++ [(53, (0, 47), (14, 0)), (53, (0, 46), (13, 0))]) M a) → vy_P S 0 M0 M 0 cell hour lost hours w st none M1 := fun hlt hM => by
    have e81 : ∀ i, i < w.length → M1 81 i = M 80 i := fun i hi => by
      rw [hM 81 (by decide), vy_up h0, if_pos rfl, if_pos hi, x _ (by omega)]
      exact rw_ i hi
    have g53 : ∀ j, M1 53 j = if j = 47 then hours else if j = 46 then lost else M 53 j := fun j => by
      rw [hM 53 (by decide), vy_up h0, if_neg (by decide)]
      show sx_up (sx_up M 53 (sx_val ρ' (0, ((46 : Nat) : Int))).toNat (sx_val ρ' (13, 0))) 53 (sx_val ρ' (0, ((47 : Nat) : Int))).toNat (sx_val ρ' (14, 0)) 53 j = _
      rw [vn_n h0, vn_n h0, og_v0 t13, og_v0 t14]
      simp [sx_up]
    have goth : ∀ a, a < 128 → a ≠ 53 → a ≠ 81 → M1 a = M a := fun a ha g1 g2 => by
      rw [hM a ha, vy_up h0, if_neg g2]
      show sx_up (sx_up M 53 (sx_val ρ' (0, ((46 : Nat) : Int))).toNat (sx_val ρ' (13, 0))) 53 (sx_val ρ' (0, ((47 : Nat) : Int))).toNat (sx_val ρ' (14, 0)) a = _
      rw [sh_une g1, sh_une g1]
    refine ⟨rfl, hm1, ⟨fun a ha g1 g2 g3 => ?_, fun j g1 g2 => ?_⟩, ⟨?_, fun _ => ⟨?_, fun i hi => ?_⟩⟩, fun i hi => ?_⟩
    · rw [goth a ha g1 g3]
      exact hf.1 a ha g1 g2 g3
    · rw [g53, if_neg g2, if_neg g1]
      exact hf.2 j g1 g2
    · rw [g53, if_neg (by decide), if_pos rfl, vn_go_0, if_pos hlt]
      show lost = if lost = 7 then -1 else lost
      rw [if_neg (by omega)]
    · rw [g53, if_pos rfl, vn_go_0, if_pos hlt]
    · rw [e81 i (by omega), vn_go_0, if_pos hlt]
      exact hY i (by omega)
    · rw [goth 80 (by decide) (by decide) (by decide)]
  simp only [vy_Tl, List.mem_cons, List.not_mem_nil, or_false] at hT
  rcases hT with rfl | rfl | rfl
  · obtain ⟨⟨c1, c2⟩, -⟩ := hc
    have c2 : sx_val ρ' (15, 0) ≤ -1 := c2
    rw [og_v0 t15] at c2
    exact win (by omega) hM
  · obtain ⟨⟨c1, c2⟩, c3, -⟩ := hc
    have c1 : 0 ≤ sx_val ρ' (15, 0) := c1
    rw [og_v0 t15] at c1
    have c3 : ρ' 13 < ρ' 15 + 0 := c3
    rw [t13, t15] at c3
    exact win (by omega) hM
  · obtain ⟨⟨c1, c2⟩, c3, -⟩ := hc
    have c1 : 0 ≤ sx_val ρ' (15, 0) := c1
    rw [og_v0 t15] at c1
    have c3 : ¬ ρ' 13 < ρ' 15 + 0 := c3
    rw [t13, t15] at c3
    have hM : ∀ a, a < 128 → M1 a = M a := hM
    refine ⟨rfl, hm1, vy_same hf hM, ?_, fun i _ => by rw [hM 80 (by decide)]⟩
    rw [vn_go_0, if_neg (by omega)]
    exact vy_Esame hE hM
theorem vy_f97 : (sm_MT 223).2.2.2.2.2 97 = some (.invokestatic 354, 3) := rfl
/-- a house is tried -/
theorem vy_try (hL : L < 2 ^ 31) {e h : Nat} (he : e < 6) (hh : h < 6) (ih : vy_G L xs S M0 e (e + 3)) (hr : vx_r (w.length : Int) left cell hour lost hours) (hp : vn_pc left = e + 1) (hw : w.length + (e + 1) = S) (hH : vy_H M0 left) (hS : S ≤ 6) (hb : left.testBit h = true) (s0 : 0 ≤ st.1) (s7 : st.1 ≤ 7) (hm : sx_mok cl_ly M) (hf : vy_fr M0 M) (hE : vy_E S M st) (hY : vy_Y M w) (K : ∀ M', sx_mok cl_ly M' → vy_fr M0 M' → vy_E S M' (vn_f (vy_C M0) (vy_D M0) e left cell hour lost hours w h st) → (∀ i, i < w.length → M' 80 i = M 80 i) → rz_fin Q L xs 223 (e + 4) 66 (vy_v7 (w.length : Int) left cell hour lost hours (h + 1)) [] M') : rz_fin Q L xs 223 (e + 4) 100 (vy_v7 (w.length : Int) left cell hour lost hours h) [.int (Int32.ofInt (vn_dr cell (vy_C M0 h))), .int (Int32.ofInt hour)] M := by
  have hl : left ≠ 0 := fun e => by
    subst e
    rw [show vn_pc 0 = 0 from rfl] at hp
    omega
  have e54 : M 54 = M0 54 := hf.1 54 (by decide) (by decide) (by decide) (by decide)
  have e58 : M 58 = M0 58 := hf.1 58 (by decide) (by decide) (by decide) (by decide)
  obtain ⟨w1, w2, w3, w4, w5, w6⟩ := vx_w hr
  obtain ⟨r1, r2, r3, r4, r5, r6⟩ := id hr
  have wC : sx_w (-1, 143) (vy_C M0 h) := by
    unfold vy_C
    rw [← e54]
    exact vy_54 hm hh
  have wD : sx_w (-1, 143) (vy_D M0 h) := by
    unfold vy_D
    rw [← e58]
    exact vy_58 hm hh
  have dr := vn_dr_r r3 wC
  have wd : sx_w sx_r32 (vn_dr cell (vy_C M0 h)) := og_w32 (by omega) (by omega)
  obtain ⟨z1, z2, z3, z4, z5, z6, -⟩ := vy_zs hr (by omega) hl
  obtain ⟨ρ, s, n1, q1, q2⟩ := og_sat (xs := xs) (gs := vy_g ++ [(0, (0, 6))]) (zs := [(left : Int), (w.length : Int), cell, hour, lost, hours, vn_dr cell (vy_C M0 h)]) (fs := [(54, h, (-1, 143)), (58, h, (-1, 143))]) hL hm (show og_zs [(0, (1, 63)), (0, (0, 5)), (0, (-1, 143)), (0, (0, 42)), (0, (0, 6)), (0, (0, 300)), (0, (0, 6))] [(left : Int), (w.length : Int), cell, hour, lost, hours, vn_dr cell (vy_C M0 h)] from ⟨z1, z2, z3, z4, z5, z6, og_z rfl dr.1 dr.2 wd, trivial⟩) (fun g hg => by
    simp only [List.mem_cons, List.not_mem_nil, or_false] at hg
    rcases hg with rfl | rfl
    · exact ⟨by show (54 : Nat) < 128; decide, vy_54 hm hh, sx_32_64 (vn_w (vy_54 hm hh))⟩
    · exact ⟨by show (58 : Nat) < 128; decide, vy_58 hm hh, sx_32_64 (vn_w (vy_58 hm hh))⟩)
  have n1 : (vy_ta h).1 = 18 := n1
  have rr : vy_R ρ (w.length : Int) left cell hour lost hours := ⟨q1 0 _ rfl, q1 1 _ rfl, q1 2 _ rfl, q1 3 _ rfl, q1 4 _ rfl, q1 5 _ rfl⟩
  have r15 : ρ 15 = vn_dr cell (vy_C M0 h) := q1 6 _ rfl
  have r16 : ρ 16 = vy_C M0 h := by
    have : ρ 16 = M 54 h := q2 0 _ rfl
    rw [this, e54]
    rfl
  have r17 : ρ 17 = vy_D M0 h := by
    have : ρ 17 = M 58 h := q2 1 _ rfl
    rw [this, e58]
    rfl
  have h00 : ρ 0 = 0 := s.2.1
  have o7 : sx_okl ρ (vy_ta h).1 (vy_l7 h) := vy_ok7 h00 (by omega) (by rw [n1]; decide) (vy_ok (fun c => sx_ck2 s c) (by rw [n1]; decide) rr hr)
  refine og_use (Ts := vy_Ta h) (lv := vy_l7 h) (s := [(0, 15, 0), (0, 12, 0)]) (List.all_eq_true.mp (List.all_eq_true.mp vy_ca e (List.mem_range.mpr he)) h (List.mem_range.mpr hh)) (by rfl) s o7 (fun v hv => by
    simp only [List.mem_cons, List.not_mem_nil, or_false] at hv
    rcases hv with rfl | rfl
    · exact tk_ok0 (by rw [n1]; decide) (by rw [r15]; exact wd)
    · exact tk_ok0 (by rw [n1]; decide) (by rw [rr.2.2.2.1]; exact w4)) (Nat.le_refl _) (vy_el7 h00 rr) (by show [sx_cv1 ρ (0, 15, 0), sx_cv1 ρ (0, 12, 0)] = _; rw [og_int r15, og_int rr.2.2.2.1]) (fun T hT ρ' M1 x h0 hm1 hc hM => ?_)
  rw [n1] at x
  have tt := vy_R_on x (by decide) rr
  have t15 := og_v x (show 15 < 18 by decide) r15
  have t16 := og_v x (show 16 < 18 by decide) r16
  have t17 := og_v x (show 17 < 18 by decide) r17
  obtain ⟨t9, t10, t11, t12, t13, t14⟩ := id tt
  obtain ⟨bt1, bt2⟩ := (vx_bit r2 hh).1 hb
  obtain ⟨pc1, pc2⟩ := vn_pc1 r2 hh hb
  have sub := Nat.sub_le left (2 ^ h)
  have el1 : ((w ++ [(h : Int)]).length : Int) = (w.length : Int) + 1 := by
    rw [List.length_append]
    show ((w.length + 1 : Nat) : Int) = _
    omega
  have lt := vn_late_r (hour + vn_dr cell (vy_C M0 h)) (vy_D M0 h)
  have hr' : vx_r ((w ++ [(h : Int)]).length : Int) (left - 2 ^ h) (vy_C M0 h) (hour + vn_dr cell (vy_C M0 h) + 1) (lost + vn_late (hour + vn_dr cell (vy_C M0 h)) (vy_D M0 h)) (hours + (hour + vn_dr cell (vy_C M0 h))) := by
    rw [el1]
    exact ⟨by omega, by omega, wC, by omega, by omega, by omega⟩
  have key : ∀ q : Int, q = vn_late (hour + vn_dr cell (vy_C M0 h)) (vy_D M0 h) → og_cs ρ' M1 (vy_af h) → (∀ a, a < 128 → M1 a = og_up ρ' [(80, (10, 0), (0, (h : Int)))] M a) → rz_fin Q L xs 223 (e + 4) 160 (sx_cl1 ρ' (vy_l7 h)) (sx_cs1 ρ' (vy_as q)) M1 := fun q hq hc hM => by
    obtain ⟨c1, c2, c3, -⟩ := hc
    have c1 : ρ' 18 = sx_mf 0 (sx_val ρ' (12, 0)) (sx_val ρ' (15, 0)) := c1
    have c2 : ρ' 19 = sx_mf 3 (sx_val ρ' (9, 0)) (sx_val ρ' (0, -1 - ((2 ^ h : Nat) : Int))) := c2
    have c3 : ρ' 20 = sx_mf 0 (sx_val ρ' (14, 0)) (sx_val ρ' (18, 0)) := c3
    rw [og_v0 t12, og_v0 t15, vn_add (og_w32 (by omega) (by omega))] at c1
    rw [og_v0 t9, og_c h0, bt2] at c2
    rw [og_v0 t14, og_v0 c1, vn_add (og_w32 (by omega) (by omega))] at c3
    have hM : ∀ a, a < 128 → M1 a = sx_up M 80 (sx_val ρ' (10, 0)).toNat (sx_val ρ' (0, (h : Int))) a := hM
    rw [og_v0 t10, og_c h0, Int.toNat_natCast] at hM
    have g80 : ∀ i, M1 80 i = if i = w.length then (h : Int) else M 80 i := fun i => by
      rw [hM 80 (by decide)]
      simp [sx_up]
    have goth : ∀ a, a < 128 → a ≠ 80 → M1 a = M a := fun a ha g => by rw [hM a ha, sh_une g]
    have eS : sx_cs1 ρ' (vy_as q) = vn_t6 53 ((w ++ [(h : Int)]).length : Int) (left - 2 ^ h) (vy_C M0 h) (hour + vn_dr cell (vy_C M0 h) + 1) (lost + vn_late (hour + vn_dr cell (vy_C M0 h)) (vy_D M0 h)) (hours + (hour + vn_dr cell (vy_C M0 h))) := by
      show [sx_cv1 ρ' (0, 20, 0), sx_cv1 ρ' (0, 13, q), sx_cv1 ρ' (0, 18, 1), sx_cv1 ρ' (0, 16, 0), sx_cv1 ρ' (0, 10, 1), sx_cv1 ρ' (0, 19, 0), Value.ref 53] = _
      rw [og_int c3, sx_cvk0 (v := (0, 13, q)) rfl, og_vv (c := q) t13, sx_cvk0 (v := (0, 18, 1)) rfl, og_vv (c := 1) c1, og_int t16, og_int c2, sx_cvk0 (v := (0, 10, 1)) rfl, og_vv (c := 1) t10, hq, el1]
      rfl
    rw [eS, vy_el7 h0 tt]
    refine vy_call (j := 223) (pc := 160) (d := e + 3) (R := vy_P S e M0 M1 (left - 2 ^ h) (vy_C M0 h) (hour + vn_dr cell (vy_C M0 h) + 1) (lost + vn_late (hour + vn_dr cell (vy_C M0 h)) (vy_D M0 h)) (hours + (hour + vn_dr cell (vy_C M0 h))) (w ++ [(h : Int)]) st) rfl rfl hr' (ih _ _ _ _ _ (w ++ [(h : Int)]) st M1 hr' (by omega) (by rw [List.length_append]; show w.length + 1 + e = S; omega) (fun i hi h2 => hH i hi (vy_subb r2 hh hi hb h2)) s0 s7 hm1 ⟨fun a ha g1 g2 g3 => (goth a ha g2).trans (hf.1 a ha g1 g2 g3), fun j g1 g2 => by rw [goth 53 (by decide) (by decide)]; exact hf.2 j g1 g2⟩ ?_ (fun i hi => ?_)) (fun M2 hR => ?_) (fun r M' h => h.1)
    · unfold vy_E at hE ⊢
      rw [goth 53 (by decide) (by decide), goth 81 (by decide) (by decide)]
      exact hE
    · rw [g80]
      rw [List.length_append] at hi
      have hi : i < w.length + 1 := hi
      by_cases ei : i = w.length
      · subst ei
        rw [if_pos rfl, vx_getD1]
      · rw [if_neg ei, vx_getD (by omega)]
        exact hY i (by omega)
    · obtain ⟨-, hm2, hf2, hE2, hk2⟩ := hR
      obtain ⟨ρ4, s4, n4, p1, -⟩ := og_sat (xs := xs) (gs := vy_g) (zs := [(left : Int), (w.length : Int), cell, hour, lost, hours]) (fs := []) hL hm2 (vy_zs hr (by omega) hl) (fun g hg => by cases hg)
      have n4 : vy_tn.1 = 15 := n4
      have rr4 : vy_R ρ4 (w.length : Int) left cell hour lost hours := ⟨p1 0 _ rfl, p1 1 _ rfl, p1 2 _ rfl, p1 3 _ rfl, p1 4 _ rfl, p1 5 _ rfl⟩
      refine og_use (Ts := vy_Tn h) (lv := vy_l7 h) (s := []) (List.all_eq_true.mp (List.all_eq_true.mp vy_cn e (List.mem_range.mpr he)) h (List.mem_range.mpr hh)) (by rfl) s4 (vy_ok7 s4.2.1 (by omega) (by rw [n4]; decide) (vy_ok (fun c => sx_ck2 s4 c) (by rw [n4]; decide) rr4 hr)) (fun v hv => by cases hv) (Nat.le_refl _) (vy_el7 s4.2.1 rr4) rfl (fun T hT ρ5 M5 x5 h05 hm5 hc5 hM5 => ?_)
      rw [n4] at x5
      rw [List.mem_singleton.mp hT] at hM5 ⊢
      have hM5 : ∀ a, a < 128 → M5 a = M2 a := hM5
      show rz_fin Q L xs 223 (e + 4) 66 (sx_cl1 ρ5 (vy_l7 (h + 1))) [] M5
      rw [vy_el7 h05 (vy_R_on x5 (by decide) rr4)]
      refine K M5 hm5 (vy_same hf2 hM5) ?_ (fun i hi => ?_)
      · unfold vn_f
        rw [if_pos hb]
        exact vy_Esame hE2 hM5
      · rw [hM5 80 (by decide), hk2 i (by rw [List.length_append]; show i < w.length + 1; omega), g80, if_neg (by omega)]
  simp only [vy_Ta, List.mem_cons, List.not_mem_nil, or_false] at hT
  rcases hT with rfl | rfl
  · obtain ⟨c1, c2, c3, c4, -⟩ := hc
    have e18 : ρ' 18 = hour + vn_dr cell (vy_C M0 h) := by
      have c1 : ρ' 18 = sx_mf 0 (sx_val ρ' (12, 0)) (sx_val ρ' (15, 0)) := c1
      rw [og_v0 t12, og_v0 t15, vn_add (og_w32 (by omega) (by omega))] at c1
      exact c1
    have c4 : ρ' 17 < ρ' 18 + 0 := c4
    rw [t17, e18] at c4
    exact key 1 (by unfold vn_late; rw [if_pos (by omega)]) ⟨c1, c2, c3, trivial⟩ hM
  · obtain ⟨c1, c2, c3, c4, -⟩ := hc
    have e18 : ρ' 18 = hour + vn_dr cell (vy_C M0 h) := by
      have c1 : ρ' 18 = sx_mf 0 (sx_val ρ' (12, 0)) (sx_val ρ' (15, 0)) := c1
      rw [og_v0 t12, og_v0 t15, vn_add (og_w32 (by omega) (by omega))] at c1
      exact c1
    have c4 : ¬ ρ' 17 < ρ' 18 + 0 := c4
    rw [t17, e18] at c4
    exact key 0 (by unfold vn_late; rw [if_neg (by omega)]) ⟨c1, c2, c3, trivial⟩ hM
theorem vy_from_out {f : Nat → vn_S → vn_S} : ∀ (m h : Nat), (∀ i, h ≤ i → i < h + m → f i st = st) → vn_from f m h st = st := by
  intro m
  induction m with
  | zero => intro h _; rfl
  | succ m ih =>
    intro h e
    show vn_from f m (h + 1) (f h st) = st
    rw [e h (Nat.le_refl _) (by omega)]
    exact ih (h + 1) (fun i h1 h2 => e i (by omega) (by omega))
theorem vy_loop (hL : L < 2 ^ 31) {e : Nat} (he : e < 6) (ih : vy_G L xs S M0 e (e + 3)) (hr : vx_r (w.length : Int) left cell hour lost hours) (hp : vn_pc left = e + 1) (hw : w.length + (e + 1) = S) (hH : vy_H M0 left) (hS : S ≤ 6) : ∀ (m h : Nat) (M : Nat → Nat → Int) (st : vn_S), h + m = 6 → 0 ≤ st.1 → st.1 ≤ 7 → sx_mok cl_ly M → vy_fr M0 M → vy_E S M st → vy_Y M w → rz_fin (fun r M' => r = none ∧ sx_mok cl_ly M' ∧ vy_fr M0 M' ∧ vy_E S M' (vn_from (vn_f (vy_C M0) (vy_D M0) e left cell hour lost hours w) m h st) ∧ ∀ i, i < w.length → M' 80 i = M 80 i) L xs 223 (e + 4) 66 (vy_v7 (w.length : Int) left cell hour lost hours h) [] M := by
  have hl : left ≠ 0 := fun e => by
    subst e
    rw [show vn_pc 0 = 0 from rfl] at hp
    omega
  obtain ⟨w1, w2, w3, w4, w5, w6⟩ := vx_w hr
  obtain ⟨r1, r2, r3, r4, r5, r6⟩ := id hr
  intro m
  induction m with
  | zero =>
    intro h M st hh s0 s7 hm hf hE hY
    have h6 : h = 6 := by omega
    subst h6
    obtain ⟨ρ, s, n1, q1, -⟩ := og_sat (xs := xs) (gs := vy_g) (zs := [(left : Int), (w.length : Int), cell, hour, lost, hours]) (fs := [(53, 1, (0, 6))]) hL hm (vy_zs hr (by omega) hl) (fun g hg => by
      rw [List.mem_singleton.mp hg]
      exact ⟨by show (53 : Nat) < 128; decide, vy_h hm, vy_h64 hm⟩)
    have n1 : vy_t6.1 = 16 := n1
    have rr : vy_R ρ (w.length : Int) left cell hour lost hours := ⟨q1 0 _ rfl, q1 1 _ rfl, q1 2 _ rfl, q1 3 _ rfl, q1 4 _ rfl, q1 5 _ rfl⟩
    refine og_use (Ts := vx_T0) (lv := vy_l7 6) (s := []) (List.all_eq_true.mp vy_c6 e (List.mem_range.mpr he)) (by rfl) s (vy_ok7 s.2.1 (by decide) (by rw [n1]; decide) (vy_ok (fun c => sx_ck2 s c) (by rw [n1]; decide) rr hr)) (fun v hv => by cases hv) (Nat.le_refl _) (vy_el7 s.2.1 rr) rfl (fun T hT ρ' M1 x h0 hm1 hc hM => ?_)
    rw [List.mem_singleton.mp hT] at hM ⊢
    have hM : ∀ a, a < 128 → M1 a = M a := hM
    exact ⟨rfl, hm1, vy_same hf hM, vy_Esame hE hM, fun i _ => by rw [hM 80 (by decide)]⟩
  | succ m ihm =>
    intro h M st hh s0 s7 hm hf hE hY
    have h6 : h < 6 := by omega
    have e54 : M 54 = M0 54 := hf.1 54 (by decide) (by decide) (by decide) (by decide)
    have e1 : M 53 1 = M0 53 1 := hf.2 1 (by decide) (by decide)
    have wC : sx_w (-1, 143) (vy_C M0 h) := by
      unfold vy_C
      rw [← e54]
      exact vy_54 hm h6
    obtain ⟨ρ, s, n1, q1, q2⟩ := og_sat (xs := xs) (gs := vy_g) (zs := [(left : Int), (w.length : Int), cell, hour, lost, hours]) (fs := [(54, h, (-1, 143)), (53, 1, (0, 6))]) hL hm (vy_zs hr (by omega) hl) (fun g hg => by
      simp only [List.mem_cons, List.not_mem_nil, or_false] at hg
      rcases hg with rfl | rfl
      · exact ⟨by show (54 : Nat) < 128; decide, vy_54 hm h6, sx_32_64 (vn_w (vy_54 hm h6))⟩
      · exact ⟨by show (53 : Nat) < 128; decide, vy_h hm, vy_h64 hm⟩)
    have n1 : (vy_tp h).1 = 17 := n1
    have rr : vy_R ρ (w.length : Int) left cell hour lost hours := ⟨q1 0 _ rfl, q1 1 _ rfl, q1 2 _ rfl, q1 3 _ rfl, q1 4 _ rfl, q1 5 _ rfl⟩
    have r15 : ρ 15 = vy_C M0 h := by
      have : ρ 15 = M 54 h := q2 0 _ rfl
      rw [this, e54]
      rfl
    have r16 : ρ 16 = M0 53 1 := by
      have : ρ 16 = M 53 1 := q2 1 _ rfl
      rw [this, e1]
    refine og_use (Ts := vy_Tp h) (lv := vy_l7 h) (s := []) (List.all_eq_true.mp (List.all_eq_true.mp vy_cp e (List.mem_range.mpr he)) h (List.mem_range.mpr h6)) (by rfl) s (vy_ok7 s.2.1 (by omega) (by rw [n1]; decide) (vy_ok (fun c => sx_ck2 s c) (by rw [n1]; decide) rr hr)) (fun v hv => by cases hv) (Nat.le_refl _) (vy_el7 s.2.1 rr) rfl (fun T hT ρ' M1 x h0 hm1 hc hM => ?_)
    rw [n1] at x
    have tt := vy_R_on x (by decide) rr
    have t15 := og_v x (show 15 < 17 by decide) r15
    have t16 := og_v x (show 16 < 17 by decide) r16
    obtain ⟨t9, t10, t11, t12, t13, t14⟩ := id tt
    have e18 : og_cs ρ' M1 (vy_bf h) → ρ' 18 = sx_mf 3 (sx_mf 9 (left : Int) (h : Int)) 1 := fun hc => by
      obtain ⟨-, c1, c2, -⟩ := hc
      have c1 : ρ' 17 = sx_mf 9 (sx_val ρ' (9, 0)) (sx_val ρ' (0, (h : Int))) := c1
      have c2 : ρ' 18 = sx_mf 3 (sx_val ρ' (17, 0)) (sx_val ρ' (0, 1)) := c2
      rw [og_v0 t9, og_c h0] at c1
      rw [og_v0 c1, og_c h0] at c2
      exact c2
    simp only [vy_Tp, List.mem_cons, List.not_mem_nil, or_false] at hT
    rcases hT with rfl | rfl | rfl
    · obtain ⟨c0, c1, c2, ⟨c3, c4⟩, -⟩ := hc
      have e18 := e18 ⟨c0, c1, c2, trivial⟩
      have c3 : 1 ≤ sx_val ρ' (18, 0) := c3
      rw [og_v0 e18] at c3
      have hb : left.testBit h = true := by
        by_cases hb : left.testBit h = true
        · exact hb
        · have := (vy_bit r2 h6).2 hb
          omega
      have hM : ∀ a, a < 128 → M1 a = M a := hM
      show rz_fin _ L xs 223 (e + 4) 97 (sx_cl1 ρ' (vy_l7 h)) [sx_cv1 ρ' (0, 15, 0), sx_cv1 ρ' (0, 11, 0), sx_cv1 ρ' (0, 12, 0)] M1
      rw [vy_el7 h0 tt, og_int t15, og_int t11, og_int t12]
      refine vn_call2 (i := 224) (d := 2) (d' := e + 3) vy_f97 rfl (Nat.le_of_ble_eq_true rfl) w3 (vn_w wC) w4 (by omega) (vn_dm hL hm1 r3 wC) (fun r M2 hR => ?_)
      obtain ⟨rfl, hm2, hM2⟩ := hR
      have e2 : ∀ a, a < 128 → M2 a = M a := fun a ha => (hM2 a ha).trans (hM a ha)
      refine vy_try hL he h6 ih hr hp hw hH hS hb s0 s7 hm2 (vy_same hf e2) (vy_Esame hE e2) (fun i hi => by rw [e2 80 (by decide)]; exact hY i hi) (fun M3 hm3 hf3 hE3 hk3 => ?_)
      have hk3 : ∀ i, i < w.length → M3 80 i = M 80 i := fun i hi => by rw [hk3 i hi, e2 80 (by decide)]
      obtain ⟨F, r, M4, f1, f2, f3, f4, f5, f6⟩ := ihm (h + 1) M3 _ (by omega) (vn_f_ge h r5.1 s0) (Int.le_trans (vn_f_le h) s7) hm3 hf3 hE3 (fun i hi => by rw [hk3 i hi]; exact hY i hi)
      exact ⟨F, r, M4, f1, f2, f3, f4, f5, fun i hi => (f6 i hi).trans (hk3 i hi)⟩
    · obtain ⟨c0, c1, c2, c3, -⟩ := hc
      have e18 := e18 ⟨c0, c1, c2, trivial⟩
      have c3 : ρ' 18 ≠ 1 := c3
      rw [e18] at c3
      have hb : ¬ left.testBit h = true := fun hb => c3 ((vy_bit r2 h6).1 hb)
      have hM : ∀ a, a < 128 → M1 a = M a := hM
      show rz_fin _ L xs 223 (e + 4) 66 (sx_cl1 ρ' (vy_l7 (h + 1))) [] M1
      rw [vy_el7 h0 tt]
      have es : vn_f (vy_C M0) (vy_D M0) e left cell hour lost hours w h st = st := by
        unfold vn_f
        rw [if_neg hb]
      obtain ⟨F, r, M4, f1, f2, f3, f4, f5, f6⟩ := ihm (h + 1) M1 st (by omega) s0 s7 hm1 (vy_same hf hM) (vy_Esame hE hM) (fun i hi => by rw [hM 80 (by decide)]; exact hY i hi)
      refine ⟨F, r, M4, f1, f2, f3, f4, ?_, fun i hi => by rw [f6 i hi, hM 80 (by decide)]⟩
      show vy_E S M4 (vn_from _ m (h + 1) (vn_f (vy_C M0) (vy_D M0) e left cell hour lost hours w h st))
      rw [es]
      exact f5
    · obtain ⟨⟨c1, c2⟩, -⟩ := hc
      have c2 : sx_val ρ' (16, 0) ≤ (h : Int) := c2
      rw [og_v0 t16] at c2
      have hM : ∀ a, a < 128 → M1 a = M a := hM
      refine ⟨rfl, hm1, vy_same hf hM, ?_, fun i _ => by rw [hM 80 (by decide)]⟩
      rw [vy_from_out (m + 1) h (fun i h1 h2 => by
        unfold vn_f
        rw [if_neg (fun hb => by
          have := hH i (by omega) hb
          omega)])]
      exact vy_Esame hE hM
theorem vy_step (hL : L < 2 ^ 31) {e : Nat} (he : e < 6) (ih : vy_G L xs S M0 e (e + 3)) (hS : S ≤ 6) : vy_G L xs S M0 (e + 1) (e + 4) := by
  intro left cell hour lost hours w st M hr hp hw hH s0 s7 hm hf hE hY
  have hl : left ≠ 0 := fun e => by
    subst e
    rw [show vn_pc 0 = 0 from rfl] at hp
    omega
  obtain ⟨ρ, s, n1, q1, -⟩ := og_sat (xs := xs) (gs := vy_g) (zs := [(left : Int), (w.length : Int), cell, hour, lost, hours]) (fs := []) hL hm (vy_zs hr (by omega) hl) (fun g hg => by cases hg)
  have n1 : vy_tn.1 = 15 := n1
  have rr : vy_R ρ (w.length : Int) left cell hour lost hours := ⟨q1 0 _ rfl, q1 1 _ rfl, q1 2 _ rfl, q1 3 _ rfl, q1 4 _ rfl, q1 5 _ rfl⟩
  refine og_use (Ts := vy_Th) (lv := vy_l) (s := []) (List.all_eq_true.mp vy_ch e (List.mem_range.mpr he)) (by rfl) s (vy_ok (fun c => sx_ck2 s c) (by rw [n1]; decide) rr hr) (fun v hv => by cases hv) (Nat.le_refl _) (vy_el rr) rfl (fun T hT ρ' M1 x h0 hm1 hc hM => ?_)
  rw [n1] at x
  have tt := vy_R_on x (by decide) rr
  rw [List.mem_singleton.mp hT] at hM ⊢
  have hM : ∀ a, a < 128 → M1 a = M a := hM
  show rz_fin _ L xs 223 (e + 4) 66 (sx_cl1 ρ' (vy_l7 0)) [] M1
  rw [vy_el7 h0 tt]
  obtain ⟨F, r, M4, f1, f2, f3, f4, f5, f6⟩ := vy_loop hL he ih hr hp hw hH hS 6 0 M1 st rfl s0 s7 hm1 (vy_same hf hM) (vy_Esame hE hM) (fun i hi => by rw [hM 80 (by decide)]; exact hY i hi)
  exact ⟨F, r, M4, f1, f2, f3, f4, f5, fun i hi => by rw [f6 i hi, hM 80 (by decide)]⟩
theorem vy_all (hL : L < 2 ^ 31) (hS : S ≤ 6) : ∀ n, n ≤ 6 → vy_G L xs S M0 n (n + 3) := by
  intro n
  induction n with
  | zero => exact fun _ => vy_leaf hL hS
  | succ n ih => exact fun h => vy_step hL (by omega) (ih (by omega)) hS
end
