/-! An evening: the pair of calls. -/
section
variable {WF : (Nat → Nat → Int) → Prop} {L : Nat} {xs : Nat → Int32} {M M' M0 M1 M2 M3 : Nat → Nat → Int} {ρ ρ' : Nat → Int} {C D C' D' : Nat → Int} {S c : Nat} {s k z : Int} {st : vn_S} {Q R : Option Value → (Nat → Nat → Int) → Prop}
theorem ve_call {d d' : Nat} {lv : sm_V} (hz : sx_w sx_r32 z) (hd : d ≤ d') (hS : rz_fin R L xs 92 d 0 [(0, .ref 29), (1, .int (Int32.ofInt z))] [] M) (next : ∀ r M', R r M' → rz_fin Q L xs 90 (d' + 1) 27 lv (r.toList ++ []) M') : rz_fin Q L xs 90 (d' + 1) 24 lv [.int (Int32.ofInt z), .ref 29] M := by
  have e1 : sx_cv1 (fun s => if s = 1 then z else 0) (0, 1, 0) = Value.int (Int32.ofInt z) := og_int rfl
  have hok : sx_oks (fun s => if s = 1 then z else 0) 2 [(0, 1, 0), (2, 0, 29)] := fun v hv => by
    simp only [List.mem_cons, List.not_mem_nil, or_false] at hv
    rcases hv with rfl | rfl
    · exact tk_ok0 (Nat.lt_succ_self _) hz
    · exact ⟨by show 0 < 2; decide, (fun h => by cases h), fun h => by cases h⟩
  have hc : sx_call cl_ly (sm_LK (sm_MT 90).1) (fun k => (sm_MT k).2.2.2.1) (.invokevirtual 241) [(0, 1, 0), (2, 0, 29)] = some (92, [(2, 0, 29), (0, 1, 0)], []) := rfl
  have c1 := (sx_call_ok (ρ := fun s => if s = 1 then z else 0) (M := M) (lay := cl_lay) (rf := cl_rf) cl_lok hok hc).1
  have e2 : sx_cs1 (fun s => if s = 1 then z else 0) [(0, 1, 0), (2, 0, 29)] = [.int (Int32.ofInt z), .ref 29] := by
    show [sx_cv1 (fun s => if s = 1 then z else 0) (0, 1, 0), Value.ref 29] = _
    rw [e1]
  have e3 : sx_cs1 (fun s => if s = 1 then z else 0) [(2, 0, 29), (0, 1, 0)] = [.ref 29, .int (Int32.ofInt z)] := by
    show [Value.ref 29, sx_cv1 (fun s => if s = 1 then z else 0) (0, 1, 0)] = _
    rw [e1]
  rw [e2, e3] at c1
  have hf : (sm_MT 90).2.2.2.2.2 24 = some (.invokevirtual 241, 3) := rfl
  exact rz_callv (k := 92) (rest := []) hf c1 ⟨Nat.zero_le _, Nat.le_of_ble_eq_true rfl⟩ (rz_d hd hS) next
theorem ve_x (hL : L < 2 ^ 31) (hm : sx_mok cl_ly M) (hs : sx_w sx_r32 s) (hk : sx_w sx_r32 k) : rz_fin (sh_Q (ve_RX s k M)) L xs 90 11 0 (sh_a2 8 s k) [] M := by
  have w4 := cx_fld (c := 9) (k := 4) (lo := 0) (hi := 6) hm (by decide +kernel)
  obtain ⟨g0, g6⟩ := id w4
  have g0 : 0 ≤ M 9 4 := g0
  have g6 : M 9 4 ≤ 6 := g6
  obtain ⟨H, hH⟩ := Int.eq_ofNat_of_zero_le g0
  have hH7 : H < 7 := by omega
  have h64 := ve_64 hH7
  obtain ⟨ρ, t, n1, e2, e3⟩ := og_sat (xs := xs) (gs := og_g2) (zs := [s, k]) (fs := [(9, 4, ((H : Int), (H : Int)))]) hL hm ⟨og_z rfl hs.1 hs.2 hs, og_z rfl hk.1 hk.2 hk, trivial⟩ (fun g hg => by
    rw [List.mem_singleton.mp hg]
    exact ⟨by show (9 : Nat) < 128; decide, by show sx_w ((H : Int), (H : Int)) (M 9 4); rw [hH]; exact ⟨Int.le_refl _, Int.le_refl _⟩, by show sx_w sx_r64 (M 9 4); rw [sx_r64_iff]; omega⟩)
  have n1 : (ve_t1 9 4 H).1 = 12 := n1
  have r9 : ρ 9 = s := e2 0 _ rfl
  have r10 : ρ 10 = k := e2 1 _ rfl
  obtain ⟨okl, el⟩ := sh_l2 (m := 12) (a := 8) (c := 8) (fun c => sx_ck2 t c) (by decide) rfl t.2.1 r9 r10 hs hk
  refine og_use (Ts := ve_T1 H (some 24) [(0, 9, 0), (2, 0, 29)] (ol_2 8)) (lv := ol_2 8) (s := []) (List.all_eq_true.mp ve_c1 H (List.mem_range.mpr hH7)) (by rfl) t okl (fun v hv => by cases hv) (Nat.le_refl _) el rfl (fun T hT ρ' M1 x h0 hm1 hc hM => ?_)
  rw [n1] at x
  have q9 := og_v x (show 9 < 12 by decide) r9
  have q10 := og_v x (show 10 < 12 by decide) r10
  have v9 : sx_val ρ' (9, 0) = s := og_v0 q9
  have v10 : sx_val ρ' (10, 0) = k := og_v0 q10
  simp only [ve_T1, List.mem_cons, List.not_mem_nil, or_false] at hT
  have hbad : ∀ {P : Prop}, P → (P → ve_bad s k (M 9 4)) → (∀ a, a < 128 → M1 a = M a) → sh_Q (ve_RX s k M) (some (sx_cv1 ρ' (0, 0, -1))) M1 := fun p q hM => ⟨-1, congrArg some (tk_cv h0 (-1)), hm1, Or.inl ⟨rfl, q p, hM⟩⟩
  have e2H : ((2 ^ (M 9 4).toNat : Nat) : Int) = ((2 ^ H : Nat) : Int) := by rw [hH]; rfl
  rcases hT with rfl | rfl | rfl | rfl
  · obtain ⟨⟨c1, c2⟩, -⟩ := hc
    have c2 : sx_val ρ' (9, 0) ≤ -1 := c2
    rw [v9] at c2
    exact hbad c2 (fun _ => Or.inl (by omega)) hM
  · obtain ⟨⟨c1, c2⟩, -⟩ := hc
    have c1 : ((2 ^ H : Nat) : Int) ≤ sx_val ρ' (9, 0) := c1
    rw [v9] at c1
    exact hbad c1 (fun _ => Or.inr (Or.inl (by rw [e2H]; exact c1))) hM
  · obtain ⟨-, ⟨c1, c2⟩, -⟩ := hc
    have c2 : sx_val ρ' (10, 0) ≤ -3 := c2
    rw [v10] at c2
    exact hbad c2 (fun _ => Or.inr (Or.inr c2)) hM
  · obtain ⟨⟨c1, c2⟩, ⟨c3, c4⟩, -⟩ := hc
    have c1 : 0 ≤ sx_val ρ' (9, 0) := c1
    have c2 : sx_val ρ' (9, 0) ≤ ((2 ^ H : Nat) : Int) - 1 := c2
    have c3 : -2 ≤ sx_val ρ' (10, 0) := c3
    rw [v9] at c1 c2
    rw [v10] at c3
    have hM : ∀ a, a < 128 → M1 a = M a := hM
    obtain ⟨c, hcs⟩ := Int.eq_ofNat_of_zero_le c1
    have hc64 : c < 64 := by omega
    have hS6 := vn_pc6 hc64
    have ec : s.toNat = c := by omega
    have nb : ¬ ve_bad s k (M 9 4) := by rw [hH]; exact ve_nb c1 c2 c3
    have eCD : vx_C M1 = vx_C M ∧ vx_D M1 = vx_D M := ⟨funext fun h => by unfold vx_C; rw [hM 10 (by decide)], funext fun h => by unfold vx_D; rw [hM 10 (by decide)]⟩
    show rz_fin _ L xs 90 11 24 (sx_cl1 ρ' (ol_2 8)) [sx_cv1 ρ' (0, 9, 0), .ref 29] M1
    rw [og_int q9]
    have el' : sx_cl1 ρ' (ol_2 8) = sh_a2 8 s k := by
      show [(0, sx_cv1 ρ' (2, 0, 8)), (1, sx_cv1 ρ' (0, 9, 0)), (2, sx_cv1 ρ' (0, 10, 0))] = _
      rw [og_int q9, og_int q10]
      rfl
    rw [el', hcs]
    refine ve_call (d := 10) (d' := 10) (by rw [← hcs]; exact hs) (Nat.le_refl _) (ve_work hL hc64 hm1) (fun r M2 hR => ?_)
    obtain ⟨rfl, hm2, hf2, f3, f4, f5⟩ := hR
    rw [eCD.1, eCD.2] at f4 f5
    have l6 := ve_r6 (C := vx_C M) (D := vx_D M) hc64
    have l0 := ve_r0 (C := vx_C M) (D := vx_D M) (c := c)
    obtain ⟨f5, f6⟩ := f5 l6
    have w29 : sx_w sx_r32 (M2 29 5) := cv_ly_ok (g := (29, 5, sx_r32)) hm2 (by decide +kernel)
    obtain ⟨ρ2, t2, n2, u2, u3⟩ := og_sat (xs := xs) (gs := [(0, (-2, 2147483647))]) (zs := [k]) (fs := [(29, 3, (0, 6)), (29, 4, (0, 7)), (29, 5, sx_r32)]) hL hm2 ⟨og_z rfl c3 hk.2 hk, trivial⟩ (fun g hg => by
      simp only [List.mem_cons, List.not_mem_nil, or_false] at hg
      rcases hg with rfl | rfl | rfl
      · exact ⟨by show (29 : Nat) < 128; decide, by show sx_w (0, 6) (M2 29 3); rw [f3]; exact ⟨by show (0 : Int) ≤ _; omega, by show _ ≤ (6 : Int); omega⟩, by show sx_w sx_r64 (M2 29 3); rw [f3, sx_r64_iff]; omega⟩
      · exact ⟨by show (29 : Nat) < 128; decide, by show sx_w (0, 7) (M2 29 4); rw [f4]; exact ⟨l0, by show _ ≤ (7 : Int); omega⟩, by show sx_w sx_r64 (M2 29 4); rw [f4, sx_r64_iff]; omega⟩
      · exact ⟨by show (29 : Nat) < 128; decide, w29, sx_32_64 w29⟩)
    have n2 : ve_t3.1 = 13 := n2
    have t9 : ρ2 9 = k := u2 0 _ rfl
    have t10 : ρ2 10 = M2 29 3 := u3 0 _ rfl
    have t11 : ρ2 11 = M2 29 4 := u3 1 _ rfl
    have t12 : ρ2 12 = M2 29 5 := u3 2 _ rfl
    have hle : lo_le [(0, .ref 8), (2, .int (Int32.ofInt k))] (sh_a2 8 ((c : Nat) : Int) k) := ⟨by show ([0, 2] : List Nat).Nodup; decide, by show ([0, 1, 2] : List Nat).Nodup; decide, fun i v hv => by
      have hv : (if (0 : Nat) = i then some (Value.ref 8) else if (2 : Nat) = i then some (Value.int (Int32.ofInt k)) else none) = some v := hv
      show (if (0 : Nat) = i then some (Value.ref 8) else if (1 : Nat) = i then _ else if (2 : Nat) = i then some (Value.int (Int32.ofInt k)) else none) = some v
      by_cases i0 : 0 = i
      · rw [if_pos i0] at hv ⊢
        exact hv
      · rw [if_neg i0] at hv ⊢
        by_cases i2 : 2 = i
        · rw [if_pos i2] at hv
          rw [if_neg (by omega), if_pos i2]
          exact hv
        · rw [if_neg i2] at hv
          cases hv⟩
    refine rz_le hle ?_
    refine og_use (Ts := ve_T3 31) (lv := ve_l2 8) (s := []) ve_c3 (by rfl) t2 (fun q hq => by
      simp only [ve_l2, List.mem_cons, List.not_mem_nil, or_false] at hq
      rcases hq with rfl | rfl
      · exact sx_ck2 t2 _
      · exact tk_ok0 (by rw [n2]; decide) (by rw [t9]; exact hk)) (fun v hv => by cases hv) (Nat.le_refl _) (by
      show [(0, Value.ref 8), (2, sx_cv1 ρ2 (0, 9, 0))] = _
      rw [og_int t9]) rfl (fun T hT ρ3 M3 y h03 hm3 hc3 hM3 => ?_)
    rw [n2] at y
    obtain ⟨v, v1, v2, v3, v4⟩ := ve_read (M := M2) (r := ve_r (vx_C M) (vx_D M) c) hc64 rfl c3 (og_v y (by decide) t9) ((og_v y (by decide) t10).trans f3) ((og_v y (by decide) t11).trans f4) ((og_v y (by decide) t12).trans f5) f6 (by
      have hw : T.2.2.2.2.1 = [] := by
        simp only [ve_T3, List.mem_cons, List.not_mem_nil, or_false] at hT
        rcases hT with rfl | rfl | rfl | rfl <;> rfl
      rw [hw] at hM3
      exact hM3 31 (by decide)) h03 hT hc3
    obtain ⟨o1, o2, o3, o4, o5, o6⟩ := T
    dsimp only at v1 v3 v4 hM3
    subst v1
    subst v3
    subst v4
    have hM3 : ∀ a, a < 128 → M3 a = M2 a := hM3
    show sh_Q _ (some (sx_cv1 ρ3 v)) M3
    rw [v2]
    refine ⟨_, rfl, hm3, Or.inr ⟨(by rw [← hcs]; exact nb), by rw [Int.toNat_natCast], ve_ans_w (og_w32 (by omega) (by omega)) (by rw [← f5]; exact w29) (fun i hi => by
      rw [← f6 i hi]
      exact hm2 31 _ i _ rfl (by show i < 6; omega) rfl) c3, fun a ha g1 g2 g3 => ?_⟩⟩
    rw [hM3 a ha, hf2 a ha g1 g2 g3, hM a ha]
-- the reference
def ve_RM (s k : Int) (M : Nat → Nat → Int) (z : Int) (M' : Nat → Nat → Int) : Prop := (z = -1 ∧ ve_bad s k (M 53 1) ∧ ∀ a, a < 128 → M' a = M a) ∨ (¬ ve_bad s k (M 53 1) ∧ z = ve_ans (ve_r (vy_C M) (vy_D M) s.toNat) (vn_pc s.toNat) k ∧ (∀ a, a < 128 → a ≠ 53 → a ≠ 80 → a ≠ 81 → M' a = M a) ∧ ∀ j, ¬ (45 ≤ j ∧ j ≤ 47) → M' 53 j = M 53 j)
theorem ve_y (hL : L < 2 ^ 31) (hm : sx_mok cl_ly M) (hs : sx_w sx_r32 s) (hk : sx_w sx_r32 k) : rz_fin (sh_Q (ve_RM s k M)) L xs 221 11 0 (sh_a2 53 s k) [] M := by
  have w4 := vy_h hm
  obtain ⟨g0, g6⟩ := id w4
  have g0 : 0 ≤ M 53 1 := g0
  have g6 : M 53 1 ≤ 6 := g6
  obtain ⟨H, hH⟩ := Int.eq_ofNat_of_zero_le g0
  have hH7 : H < 7 := by omega
  have h64 := ve_64 hH7
  obtain ⟨ρ, t, n1, e2, e3⟩ := og_sat (xs := xs) (gs := og_g2) (zs := [s, k]) (fs := [(53, 1, ((H : Int), (H : Int)))]) hL hm ⟨og_z rfl hs.1 hs.2 hs, og_z rfl hk.1 hk.2 hk, trivial⟩ (fun g hg => by
    rw [List.mem_singleton.mp hg]
    exact ⟨by show (53 : Nat) < 128; decide, by show sx_w ((H : Int), (H : Int)) (M 53 1); rw [hH]; exact ⟨Int.le_refl _, Int.le_refl _⟩, by show sx_w sx_r64 (M 53 1); rw [sx_r64_iff]; omega⟩)
  have n1 : (ve_t1 53 1 H).1 = 12 := n1
  have r9 : ρ 9 = s := e2 0 _ rfl
  have r10 : ρ 10 = k := e2 1 _ rfl
  obtain ⟨okl, el⟩ := sh_l2 (m := 12) (a := 53) (c := 53) (fun c => sx_ck2 t c) (by decide) rfl t.2.1 r9 r10 hs hk
  refine og_use (Ts := ve_T1 H (some 24) [] (ol_2 53)) (lv := ol_2 53) (s := []) (List.all_eq_true.mp ve_m1 H (List.mem_range.mpr hH7)) (by rfl) t okl (fun v hv => by cases hv) (Nat.le_refl _) el rfl (fun T hT ρ' M1 x h0 hm1 hc hM => ?_)
  rw [n1] at x
  have q9 := og_v x (show 9 < 12 by decide) r9
  have q10 := og_v x (show 10 < 12 by decide) r10
  have v9 : sx_val ρ' (9, 0) = s := og_v0 q9
  have v10 : sx_val ρ' (10, 0) = k := og_v0 q10
  simp only [ve_T1, List.mem_cons, List.not_mem_nil, or_false] at hT
  have hbad : ∀ {P : Prop}, P → (P → ve_bad s k (M 53 1)) → (∀ a, a < 128 → M1 a = M a) → sh_Q (ve_RM s k M) (some (sx_cv1 ρ' (0, 0, -1))) M1 := fun p q hM => ⟨-1, congrArg some (tk_cv h0 (-1)), hm1, Or.inl ⟨rfl, q p, hM⟩⟩
  have e2H : ((2 ^ (M 53 1).toNat : Nat) : Int) = ((2 ^ H : Nat) : Int) := by rw [hH]; rfl
  rcases hT with rfl | rfl | rfl | rfl
  · obtain ⟨⟨c1, c2⟩, -⟩ := hc
    have c2 : sx_val ρ' (9, 0) ≤ -1 := c2
    rw [v9] at c2
    exact hbad c2 (fun _ => Or.inl (by omega)) hM
  · obtain ⟨⟨c1, c2⟩, -⟩ := hc
    have c1 : ((2 ^ H : Nat) : Int) ≤ sx_val ρ' (9, 0) := c1
    rw [v9] at c1
    exact hbad c1 (fun _ => Or.inr (Or.inl (by rw [e2H]; exact c1))) hM
  · obtain ⟨-, ⟨c1, c2⟩, -⟩ := hc
    have c2 : sx_val ρ' (10, 0) ≤ -3 := c2
    rw [v10] at c2
    exact hbad c2 (fun _ => Or.inr (Or.inr c2)) hM
  · obtain ⟨⟨c1, c2⟩, ⟨c3, c4⟩, -⟩ := hc
    have c1 : 0 ≤ sx_val ρ' (9, 0) := c1
    have c2 : sx_val ρ' (9, 0) ≤ ((2 ^ H : Nat) : Int) - 1 := c2
    have c3 : -2 ≤ sx_val ρ' (10, 0) := c3
    rw [v9] at c1 c2
    rw [v10] at c3
    have hM : ∀ a, a < 128 → M1 a = M a := hM
    obtain ⟨c, hcs⟩ := Int.eq_ofNat_of_zero_le c1
    have hcH : c < 2 ^ H := by omega
    have hc64 : c < 64 := by omega
    have hS6 := vn_pc6 hc64
    have ec : s.toNat = c := by omega
    have nb : ¬ ve_bad s k (M 53 1) := by rw [hH]; exact ve_nb c1 c2 c3
    show rz_fin _ L xs 221 11 24 (sx_cl1 ρ' (ol_2 53)) [] M1
    have el' : sx_cl1 ρ' (ol_2 53) = sh_a2 53 s k := by
      show [(0, sx_cv1 ρ' (2, 0, 53)), (1, sx_cv1 ρ' (0, 9, 0)), (2, sx_cv1 ρ' (0, 10, 0))] = _
      rw [og_int q9, og_int q10]
      rfl
    rw [el', hcs]
    obtain ⟨ρ2, t2, n2, u2, -⟩ := og_sat (xs := xs) (gs := [(0, (-2, 2147483647))]) (zs := [k]) (fs := []) hL hm1 ⟨og_z rfl c3 hk.2 hk, trivial⟩ (fun g hg => by cases hg)
    have n2 : ve_t4.1 = 10 := n2
    have t9 : ρ2 9 = k := u2 0 _ rfl
    have h02 : ρ2 0 = 0 := t2.2.1
    refine og_use (Ts := ve_T4 c) (lv := ve_m c) (s := []) (List.all_eq_true.mp ve_m2 c (List.mem_range.mpr hc64)) (by rfl) t2 (fun q hq => by
      simp only [ve_m, List.mem_cons, List.not_mem_nil, or_false] at hq
      rcases hq with rfl | rfl | rfl
      · exact sx_ck2 t2 _
      · exact ve_ok h02 (by rw [n2]; decide) hc64
      · exact tk_ok0 (by rw [n2]; decide) (by rw [t9]; exact hk)) (fun v hv => by cases hv) (Nat.le_refl _) (by
      show [(0, Value.ref 53), (1, sx_cv1 ρ2 (0, 0, (c : Int))), (2, sx_cv1 ρ2 (0, 9, 0))] = _
      rw [og_int t9, tk_cv h02]
      rfl) rfl (fun T hT ρ3 M2 y h03 hm2 hc2 hM2 => ?_)
    rw [n2] at y
    rw [List.mem_singleton.mp hT] at hM2 ⊢
    have hM2 : ∀ a, a < 128 → M2 a = sx_up (sx_up M1 53 (sx_val ρ3 (0, ((45 : Nat) : Int))).toNat (sx_val ρ3 (0, (vn_pc c : Int)))) 53 (sx_val ρ3 (0, ((46 : Nat) : Int))).toNat (sx_val ρ3 (0, -1)) a := hM2
    rw [vn_n h03, vn_n h03, og_c h03, og_c h03] at hM2
    have g53 : ∀ j, M2 53 j = if j = 46 then -1 else if j = 45 then (vn_pc c : Int) else M 53 j := fun j => by
      rw [hM2 53 (by decide), ← hM 53 (by decide)]
      simp [sx_up]
    have goth : ∀ a, a < 128 → a ≠ 53 → M2 a = M a := fun a ha g => by rw [hM2 a ha, sh_une g, sh_une g, hM a ha]
    have eC : vy_C M2 = vy_C M := funext fun h => by unfold vy_C; rw [goth 54 (by decide) (by decide)]
    have eD : vy_D M2 = vy_D M := funext fun h => by unfold vy_D; rw [goth 58 (by decide) (by decide)]
    have y9 := og_v y (show 9 < 10 by decide) t9
    show rz_fin _ L xs 221 11 44 (sx_cl1 ρ3 [(0, 2, 0, 53), (2, 0, 9, 0)]) [sx_cv1 ρ3 (0, 0, 0), sx_cv1 ρ3 (0, 0, 0), sx_cv1 ρ3 (0, 0, 0), sx_cv1 ρ3 (0, 0, 0), sx_cv1 ρ3 (0, 0, 0), sx_cv1 ρ3 (0, 0, (c : Int)), .ref 53] M2
    have el3 : sx_cl1 ρ3 [(0, 2, 0, 53), (2, 0, 9, 0)] = [(0, .ref 53), (2, .int (Int32.ofInt k))] := by
      show [(0, Value.ref 53), (2, sx_cv1 ρ3 (0, 9, 0))] = _
      rw [og_int y9]
    rw [tk_cv h03, tk_cv h03, el3]
    refine vy_call (j := 221) (pc := 44) (d := 10) (k := ((([] : List Int).length : Nat) : Int)) (R := vy_P (vn_pc c) (vn_pc c) M2 M2 c 0 0 0 0 [] ve_st) rfl rfl (ve_hr hc64) (rz_d (show vn_pc c + 3 ≤ 10 by omega) (vy_all hL hS6 (vn_pc c) hS6 c 0 0 0 0 [] ve_st M2 (ve_hr hc64) rfl (Nat.zero_add _) (fun h hh hb => by
      rw [g53, if_neg (by decide), if_neg (by decide), hH]
      have := ve_bit hH7 hcH hh hb
      show (h : Int) < (H : Int)
      omega) (by decide) (by decide) hm2 ⟨fun _ _ _ _ _ => rfl, fun _ _ _ => rfl⟩ ⟨g53 46, fun h => absurd h (by decide)⟩ (fun i hi => absurd hi (Nat.not_lt_zero _)))) (fun M3 hR => ?_) (fun r M' h => h.1)
    obtain ⟨-, hm3, hf3, hE3, -⟩ := hR
    rw [eC, eD] at hE3
    have l6 := ve_r6 (C := vy_C M) (D := vy_D M) hc64
    have l0 := ve_r0 (C := vy_C M) (D := vy_D M) (c := c)
    obtain ⟨f4, f5⟩ := hE3
    have f4 : M3 53 46 = (ve_r (vy_C M) (vy_D M) c).1 := by
      have f4 : M3 53 46 = if (ve_r (vy_C M) (vy_D M) c).1 = 7 then -1 else (ve_r (vy_C M) (vy_D M) c).1 := f4
      rw [f4, if_neg (by omega)]
    obtain ⟨f5, f6⟩ := f5 l6
    have f3 : M3 53 45 = (vn_pc c : Int) := by
      rw [hf3.2 45 (by decide) (by decide), g53]
      rfl
    have w47 : sx_w sx_r32 (M3 53 47) := cv_ly_ok (g := (53, 47, sx_r32)) hm3 (by decide +kernel)
    obtain ⟨ρ4, t4, n4, u4, u5⟩ := og_sat (xs := xs) (gs := [(0, (-2, 2147483647))]) (zs := [k]) (fs := [(53, 45, (0, 6)), (53, 46, (-1, 6)), (53, 47, sx_r32)]) hL hm3 ⟨og_z rfl c3 hk.2 hk, trivial⟩ (fun g hg => by
      simp only [List.mem_cons, List.not_mem_nil, or_false] at hg
      rcases hg with rfl | rfl | rfl
      · exact ⟨by show (53 : Nat) < 128; decide, by show sx_w (0, 6) (M3 53 45); rw [f3]; exact ⟨by show (0 : Int) ≤ _; omega, by show _ ≤ (6 : Int); omega⟩, by show sx_w sx_r64 (M3 53 45); rw [f3, sx_r64_iff]; omega⟩
      · exact ⟨by show (53 : Nat) < 128; decide, by show sx_w (-1, 6) (M3 53 46); rw [f4]; exact ⟨by show (-1 : Int) ≤ _; omega, l6⟩, by show sx_w sx_r64 (M3 53 46); rw [f4, sx_r64_iff]; omega⟩
      · exact ⟨by show (53 : Nat) < 128; decide, w47, sx_32_64 w47⟩)
    have n4 : ve_t5.1 = 13 := n4
    have p9 : ρ4 9 = k := u4 0 _ rfl
    have p10 : ρ4 10 = M3 53 45 := u5 0 _ rfl
    have p11 : ρ4 11 = M3 53 46 := u5 1 _ rfl
    have p12 : ρ4 12 = M3 53 47 := u5 2 _ rfl
    refine og_use (Ts := ve_T3 81) (lv := ve_l2 53) (s := []) ve_m3 (by rfl) t4 (fun q hq => by
      simp only [ve_l2, List.mem_cons, List.not_mem_nil, or_false] at hq
      rcases hq with rfl | rfl
      · exact sx_ck2 t4 _
      · exact tk_ok0 (by rw [n4]; decide) (by rw [p9]; exact hk)) (fun v hv => by cases hv) (Nat.le_refl _) (by
      show [(0, Value.ref 53), (2, sx_cv1 ρ4 (0, 9, 0))] = _
      rw [og_int p9]) rfl (fun T hT ρ5 M5 y5 h05 hm5 hc5 hM5 => ?_)
    rw [n4] at y5
    obtain ⟨v, v1, v2, v3, v4⟩ := ve_read (M := M3) (r := ve_r (vy_C M) (vy_D M) c) hc64 rfl c3 (og_v y5 (by decide) p9) ((og_v y5 (by decide) p10).trans f3) ((og_v y5 (by decide) p11).trans f4) ((og_v y5 (by decide) p12).trans f5) f6 (by
      have hw : T.2.2.2.2.1 = [] := by
        simp only [ve_T3, List.mem_cons, List.not_mem_nil, or_false] at hT
        rcases hT with rfl | rfl | rfl | rfl <;> rfl
      rw [hw] at hM5
      exact hM5 81 (by decide)) h05 hT hc5
    obtain ⟨o1, o2, o3, o4, o5, o6⟩ := T
    dsimp only at v1 v3 v4 hM5
    subst v1
    subst v3
    subst v4
    have hM5 : ∀ a, a < 128 → M5 a = M3 a := hM5
    show sh_Q _ (some (sx_cv1 ρ5 v)) M5
    rw [v2]
    refine ⟨_, rfl, hm5, Or.inr ⟨(by rw [← hcs]; exact nb), by rw [Int.toNat_natCast], fun a ha g1 g2 g3 => ?_, fun j hj => ?_⟩⟩
    · rw [hM5 a ha, hf3.1 a ha g1 g2 g3, goth a ha g1]
    · rw [hM5 53 (by decide), hf3.2 j (by omega) (by omega), g53, if_neg (by omega), if_neg (by omega)]
theorem ve_hp (hz : ∀ M M' : Nat → Nat → Int, (∀ z ∈ cz_zs, M' z = M z) → WF M → WF M') (hL : L < 2 ^ 31) (hI : la_I WF bs_cps M) (hS : bs_SS M) (hs : sx_w sx_r32 s) (hk : sx_w sx_r32 k) : ∃ z M1 M2, sx_w sx_r32 z ∧ ((0 = 0 ∧ sx_w sx_r32 z) ∨ (0 = 1 ∧ sx_w sx_r64 z)) ∧ lb_run L xs 90 [.ref 8, .int (Int32.ofInt s), .int (Int32.ofInt k)] M (lb_val 0 z) M1 ∧ sx_mok cl_ly M1 ∧ lb_run L xs 221 [.ref 53, .int (Int32.ofInt s), .int (Int32.ofInt k)] M1 (lb_val 0 z) M2 ∧ sx_mok cl_ly M2 ∧ la_I WF bs_cps M2 ∧ bs_SS M2 ∧ True := by
  obtain ⟨e1, -⟩ := bs_eq hI
  obtain ⟨z, M1, a1, a2, a3⟩ := lb_of (k := 90) (vs := [.ref 8, .int (Int32.ofInt s), .int (Int32.ofInt k)]) (show 11 ≤ 99 by decide) (ve_x (xs := xs) hL hI.1 hs hk)
  obtain ⟨y, M2, b1, b2, b3⟩ := lb_of (k := 221) (vs := [.ref 53, .int (Int32.ofInt s), .int (Int32.ofInt k)]) (show 11 ≤ 99 by decide) (ve_y (xs := xs) hL a2 hs hk)
  have f1 : ∀ a, a < 128 → a ≠ 29 → a ≠ 30 → a ≠ 31 → M1 a = M a := by
    rcases a3 with ⟨-, -, h⟩ | ⟨-, -, -, h⟩
    · exact fun a ha _ _ _ => h a ha
    · exact h
  have wz : sx_w sx_r32 z := by
    rcases a3 with ⟨rfl, -⟩ | ⟨-, -, h, -⟩
    · exact og_w32 (by decide) (by decide)
    · exact h
  have o53 : M1 53 = M 53 := f1 53 (by decide) (by decide) (by decide) (by decide)
  have f2 : (∀ a, a < 128 → a ≠ 53 → a ≠ 80 → a ≠ 81 → M2 a = M1 a) ∧ ∀ j, ¬ (45 ≤ j ∧ j ≤ 47) → M2 53 j = M1 53 j := by
    rcases b3 with ⟨-, -, h⟩ | ⟨-, -, h, h2⟩
    · exact ⟨fun a ha _ _ _ => h a ha, fun j _ => by rw [h 53 (by decide)]⟩
    · exact ⟨h, h2⟩
  have ans : z = y := by
    unfold ve_RM at b3
    rw [o53, ← e1] at b3
    rcases a3 with ⟨rfl, c1, -⟩ | ⟨c1, c2, -⟩
    · rcases b3 with ⟨rfl, d1, -⟩ | ⟨d1, -⟩
      · rfl
      · exact absurd c1 d1
    · rcases b3 with ⟨rfl, d1, -⟩ | ⟨-, d2, -⟩
      · exact absurd d1 c1
      · rw [c2, d2]
        have n := hS.2.1.1
        have e : ve_r (vx_C M) (vx_D M) s.toNat = ve_r (vy_C M1) (vy_D M1) s.toNat := vn_go_cong (fun h hh => by
          unfold vx_C vx_D vy_C vy_D
          rw [f1 54 (by decide) (by decide) (by decide) (by decide), f1 58 (by decide) (by decide) (by decide) (by decide)]
          have n0 := n 0 h (by decide) hh
          have n4 := n 4 h (by decide) hh
          rw [show 30 * 0 + h = h by omega] at n0
          rw [show 30 * 4 + h = 120 + h by omega] at n4
          exact ⟨n0, n4⟩) _ _ _ _ _ _ _ _
        rw [e]
  subst ans
  have oth : ∀ a, a < 128 → ¬ (29 ≤ a ∧ a ≤ 31) → a ≠ 53 → a ≠ 80 → a ≠ 81 → M2 a = M a := fun a ha g1 g2 g3 g4 => (f2.1 a ha g2 g3 g4).trans (f1 a ha (by omega) (by omega) (by omega))
  have o2 : ∀ j, ¬ (45 ≤ j ∧ j ≤ 47) → M2 53 j = M 53 j := fun j hj => by rw [f2.2 j hj, o53]
  have pl : ∀ p : Nat × Nat, p.1 < 128 ∧ ((¬ (29 ≤ p.1 ∧ p.1 ≤ 31) ∧ p.1 ≠ 53 ∧ p.1 ≠ 80 ∧ p.1 ≠ 81) ∨ (p.1 = 53 ∧ ¬ (45 ≤ p.2 ∧ p.2 ≤ 47))) → M2 p.1 p.2 = M p.1 p.2 := fun p h => by
    obtain ⟨p1, p2⟩ := h
    rcases p2 with ⟨u2, u3, u4, u5⟩ | ⟨u2, u3⟩
    · rw [oth p.1 p1 u2 u3 u4 u5]
    · rw [u2]
      exact o2 p.2 u3
  have hSS : bs_SS M2 := bs_fp M M2 (fun u hu => by
    have : ∀ u ∈ bs_zc, u < 128 ∧ ¬ (29 ≤ u ∧ u ≤ 31) ∧ u ≠ 53 ∧ u ≠ 80 ∧ u ≠ 81 := by decide +kernel
    obtain ⟨u1, u2, u3, u4, u5⟩ := this u hu
    exact oth u u1 u2 u3 u4 u5) (fun p hp => by
    have : ∀ p ∈ nm_zp, p.1 < 128 ∧ ((¬ (29 ≤ p.1 ∧ p.1 ≤ 31) ∧ p.1 ≠ 53 ∧ p.1 ≠ 80 ∧ p.1 ≠ 81) ∨ (p.1 = 53 ∧ ¬ (45 ≤ p.2 ∧ p.2 ≤ 47))) := by decide +kernel
    exact pl p (this p hp)) hS
  obtain ⟨i1, i2, i3, i4, i5⟩ := id hI
  refine ⟨z, M1, M2, wz, Or.inl ⟨rfl, wz⟩, a1, a2, b1, b2, ⟨b2, fp_JJ M M2 (fun u hu => ?_) (fun p hp => ?_) i2, hz M M2 (fun u hu => ?_) i3, ?_, fun q hq => ?_⟩, hSS, trivial⟩
  · simp only [List.mem_cons, List.not_mem_nil, or_false] at hu
    exact oth u (by omega) (by omega) (by omega) (by omega) (by omega)
  · simp only [List.mem_cons, List.not_mem_nil, or_false] at hp
    rcases hp with rfl | rfl | rfl | rfl
    · exact pl (32, 1) (by decide)
    · exact pl (32, 2) (by decide)
    · exact pl (53, 14) (by decide)
    · exact pl (53, 15) (by decide)
  · simp only [cz_zs, List.mem_cons, List.not_mem_nil, or_false] at hu
    exact oth u (by omega) (by omega) (by omega) (by omega) (by omega)
  · rw [oth 10 (by decide) (by decide) (by decide) (by decide) (by decide)]
    exact i4
  · have : ∀ q ∈ bs_cps, (q.1.1 < 128 ∧ ((¬ (29 ≤ q.1.1 ∧ q.1.1 ≤ 31) ∧ q.1.1 ≠ 53 ∧ q.1.1 ≠ 80 ∧ q.1.1 ≠ 81) ∨ (q.1.1 = 53 ∧ ¬ (45 ≤ q.1.2 ∧ q.1.2 ≤ 47)))) ∧ (q.2.1.1 < 128 ∧ ((¬ (29 ≤ q.2.1.1 ∧ q.2.1.1 ≤ 31) ∧ q.2.1.1 ≠ 53 ∧ q.2.1.1 ≠ 80 ∧ q.2.1.1 ≠ 81) ∨ (q.2.1.1 = 53 ∧ ¬ (45 ≤ q.2.1.2 ∧ q.2.1.2 ≤ 47)))) := by decide +kernel
    obtain ⟨t1, t2⟩ := this q hq
    rw [pl q.1 t1, pl q.2.1 t2]
    exact i5 q hq
end
