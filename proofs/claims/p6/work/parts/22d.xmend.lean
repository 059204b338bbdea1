/-! Changes of the class: mend, put together. -/
section
variable {L : Nat} {xs : Nat → Int32} {M M' MM M0 M1 M2 N : Nat → Nat → Int} {ρ ρ' : Nat → Int} {t t0 : sx_S} {Q R : Option Value → (Nat → Nat → Int) → Prop} {n w v b H C : Int}
theorem cm_ix_ok {c : Nat} (h0 : ρ 0 = 0) (q9 : ρ 9 = n) (h : c = 7 → n = 0) (hw : w = (c : Int)) : sx_val ρ (cm_ix c) = 30 * w + n := by
  unfold cm_ix
  by_cases e : c = 7
  · rw [if_pos e, og_c h0]
    have := h e
    subst e
    omega
  · rw [if_neg e, og_vv q9]
    omega
theorem cm_facts {c : Nat} (hc : c < 8) (h0 : ρ 0 = 0) (h : og_cs ρ M (cm_ok c)) (q9 : ρ 9 = n) (q10 : ρ 10 = w) (q11 : ρ 11 = v) (q12 : ρ 12 = H) (q13 : ρ 13 = C) : cm_pl H C w n ∧ cm_rg w v ∧ M 10 (30 * w + n).toNat = ρ 14 := by
  obtain ⟨h1, ⟨h2, h3⟩, ⟨h4, h5⟩, h6⟩ := h
  have h1 : M 10 (sx_val ρ (cm_ix c)).toNat = sx_val ρ (14, 0) := h1
  have h2 : (c : Int) ≤ sx_val ρ (10, 0) := h2
  have h3 : sx_val ρ (10, 0) ≤ (c : Int) := h3
  have h4 : cm_lo.getD c 0 ≤ sx_val ρ (11, 0) := h4
  have h5 : sx_val ρ (11, 0) ≤ cm_hi.getD c 0 := h5
  rw [og_v0 q10] at h2 h3
  rw [og_v0 q11] at h4 h5
  have hw : w = (c : Int) := by omega
  have hpl : cm_pl H C w n := by
    unfold cm_pl
    by_cases c5 : c < 5
    · have e : cm_n c = [cm_d 0 9 0 2147483647, (1, (9, 0), (12, 0), 0, 0)] := if_pos c5
      rw [e] at h6
      obtain ⟨⟨a, -⟩, d, -⟩ := h6
      have a : (0 : Int) ≤ sx_val ρ (9, 0) := a
      have d : ρ 9 < ρ 12 + 0 := d
      rw [og_v0 q9] at a
      rw [q9, q12] at d
      omega
    · by_cases c6 : c = 5
      · have e : cm_n c = [cm_d 0 9 0 29] := by unfold cm_n; rw [if_neg c5, if_pos c6]
        rw [e] at h6
        obtain ⟨⟨a, d⟩, -⟩ := h6
        have a : (0 : Int) ≤ sx_val ρ (9, 0) := a
        have d : sx_val ρ (9, 0) ≤ 29 := d
        rw [og_v0 q9] at a d
        omega
      · by_cases c7 : c = 6
        · have e : cm_n c = [cm_d 0 9 0 2147483647, (1, (9, 0), (13, 0), 0, 0)] := by unfold cm_n; rw [if_neg c5, if_neg c6, if_pos c7]
          rw [e] at h6
          obtain ⟨⟨a, -⟩, d, -⟩ := h6
          have a : (0 : Int) ≤ sx_val ρ (9, 0) := a
          have d : ρ 9 < ρ 13 + 0 := d
          rw [og_v0 q9] at a
          rw [q9, q13] at d
          omega
        · have e : cm_n c = [cm_d 0 9 0 0] := by unfold cm_n; rw [if_neg c5, if_neg c6, if_neg c7]
          rw [e] at h6
          obtain ⟨⟨a, d⟩, -⟩ := h6
          have a : (0 : Int) ≤ sx_val ρ (9, 0) := a
          have d : sx_val ρ (9, 0) ≤ 0 := d
          rw [og_v0 q9] at a d
          omega
  refine ⟨hpl, ?_, ?_⟩
  · have : c = 0 ∨ c = 1 ∨ c = 2 ∨ c = 3 ∨ c = 4 ∨ c = 5 ∨ c = 6 ∨ c = 7 := by omega
    unfold cm_rg
    rcases this with rfl | rfl | rfl | rfl | rfl | rfl | rfl | rfl <;> (simp [cm_lo, cm_hi] at h4 h5; omega)
  · rw [cm_ix_ok h0 q9 (fun e => by unfold cm_pl at hpl; omega) hw, og_v0 rfl] at h1
    exact h1
/-- a call with what stands on the stack -/
theorem og_call {j k d d' pc ix m : Nat} {lv : sm_V} {s as rst : List sx_V} {S : List Value} {LV : sm_V} (hf : (sm_MT j).2.2.2.2.2 pc = some (.invokevirtual ix, 3)) (hc : sx_call cl_ly (sm_LK (sm_MT j).1) (fun k => (sm_MT k).2.2.2.1) (.invokevirtual ix) s = some (k, as, rst)) (hok : sx_oks ρ m s) (eS : sx_cs1 ρ s = S) (hr : rst = []) (hq : Nat.ble (sx_sum as) (sm_MT k).2.1 = true) (hd : d ≤ d') (eA : lv_args 0 (sx_cs1 ρ as) = LV) (hS : rz_fin R L xs k d 0 LV [] M) (next : ∀ r M', R r M' → rz_fin Q L xs j (d' + 1) (pc + 3) lv (r.toList ++ []) M') : rz_fin Q L xs j (d' + 1) pc lv S M := by
  subst hr eA eS
  exact rz_callv (k := k) (as := sx_cs1 ρ as) (rest := []) hf (sx_call_ok (ρ := ρ) (M := M) (lay := cl_lay) (rf := cl_rf) cl_lok hok hc).1 ⟨Nat.zero_le _, by rw [sx_sl_len]; exact Nat.le_of_ble_eq_true hq⟩ (rz_d hd hS) next
theorem cm_f49 : (sm_MT 23).2.2.2.2.2 49 = some (.invokevirtual 121, 3) := rfl
theorem cm_f59 : (sm_MT 23).2.2.2.2.2 59 = some (.invokevirtual 125, 3) := rfl
def cm_v (n w v : Int) : sm_V := [(0, .ref 8), (1, .int (Int32.ofInt n)), (2, .int (Int32.ofInt w)), (3, .int (Int32.ofInt v))]
def cm_v4 (n w v b : Int) : sm_V := [(0, .ref 8), (1, .int (Int32.ofInt n)), (2, .int (Int32.ofInt w)), (3, .int (Int32.ofInt v)), (4, .int (Int32.ofInt b))]
theorem cm_bd (hm : sx_mok cl_ly M) (h : cm_pl (M 9 4) (M 9 5) w n) : 0 ≤ w ∧ w ≤ 7 ∧ 0 ≤ n ∧ n ≤ 29 := by
  have h1 : 0 ≤ M 9 4 ∧ M 9 4 ≤ 6 := cv_ly_ok (g := (9, 4, 0, 6)) hm (by decide +kernel)
  have h2 : 0 ≤ M 9 5 ∧ M 9 5 ≤ 12 := cv_ly_ok (g := (9, 5, 0, 12)) hm (by decide +kernel)
  unfold cm_pl at h
  omega
theorem cx_m10 (hm : sx_mok cl_ly M) {k : Nat} (hk : k < 240) : -1 ≤ M 10 k ∧ M 10 k ≤ 143 := hm 10 _ k _ rfl hk rfl
/-- from 52 on -/
theorem cm_on (hL : L < 2 ^ 31) (hm : sx_mok cl_ly M1) (hw : 0 ≤ w ∧ w ≤ 7) (hn : 0 ≤ n ∧ n ≤ 29) (hv : -1 ≤ v ∧ v ≤ 143) (hb : sx_w sx_r32 b) (k : ∀ M', cx_R (30 * w + n) v M1 M' → Q (some (.int (Int32.ofInt b))) M') : rz_fin Q L xs 23 2 52 (cm_v4 n w v b) [] M1 := by
  have w32 : sx_w sx_r32 w := og_w32 (by omega) (by omega)
  have n32 : sx_w sx_r32 n := og_w32 (by omega) (by omega)
  have v32 : sx_w sx_r32 v := og_w32 (by omega) (by omega)
  obtain ⟨ρ, s, e1, e2, -⟩ := og_sat (xs := xs) (gs := [(0, sx_r32), (0, sx_r32), (0, sx_r32), (0, sx_r32)]) (zs := [n, w, v, b]) (fs := []) hL hm ⟨og_z rfl n32.1 n32.2 n32, og_z rfl w32.1 w32.2 w32, og_z rfl v32.1 v32.2 v32, og_z rfl hb.1 hb.2 hb, trivial⟩ (fun g hg => by cases hg)
  have r9 : ρ 9 = n := e2 0 _ rfl
  have r10 : ρ 10 = w := e2 1 _ rfl
  have r11 : ρ 11 = v := e2 2 _ rfl
  have r12 : ρ 12 = b := e2 3 _ rfl
  refine og_use (Ts := [cm_T2]) (lv := cm_l2) (s := []) cm_c2 (by decide +kernel) s (fun q hq => ?_) (fun v hv => by cases hv) (Nat.le_refl _) ?_ rfl (fun T hT ρ' M' x h0 hm' hc hM => ?_)
  · simp only [cm_l2, List.mem_cons, List.not_mem_nil, or_false] at hq
    rcases hq with rfl | rfl | rfl | rfl | rfl
    · exact sx_ck2 s _
    · exact tk_ok0 (show 9 < 13 by decide) (by rw [r9]; exact n32)
    · exact tk_ok0 (show 10 < 13 by decide) (by rw [r10]; exact w32)
    · exact tk_ok0 (show 11 < 13 by decide) (by rw [r11]; exact v32)
    · exact tk_ok0 (show 12 < 13 by decide) (by rw [r12]; exact hb)
  · show [(0, Value.ref 8), (1, sx_cv1 ρ (0, 9, 0)), (2, sx_cv1 ρ (0, 10, 0)), (3, sx_cv1 ρ (0, 11, 0)), (4, sx_cv1 ρ (0, 12, 0))] = _
    rw [og_int r9, og_int r10, og_int r11, og_int r12]
    rfl
  · rw [List.mem_singleton.mp hT] at hM ⊢
    have hM : ∀ a, a < 128 → M' a = M1 a := hM
    have q9 := og_v x (show 9 < 13 by decide) r9
    have q10 := og_v x (show 10 < 13 by decide) r10
    have q11 := og_v x (show 11 < 13 by decide) r11
    have q12 := og_v x (show 12 < 13 by decide) r12
    show rz_fin Q L xs 23 2 59 [(4, sx_cv1 ρ' (0, 12, 0))] (sx_cs1 ρ' [(0, 11, 0), (0, 9, 0), (0, 10, 0), (2, 0, 9)]) M'
    rw [og_int q12]
    refine og_call (d := 1) (d' := 1) (k := 14) (ρ := ρ') (m := 13) (s := [(0, 11, 0), (0, 9, 0), (0, 10, 0), (2, 0, 9)]) (as := [(2, 0, 9), (0, 10, 0), (0, 9, 0), (0, 11, 0)]) cm_f59 rfl (fun q hq => ?_) rfl rfl rfl (Nat.le_refl _) ?_ (cx_set hL hm' hw hn hv) (fun r M2 hR => ?_)
    · simp only [List.mem_cons, List.not_mem_nil, or_false] at hq
      rcases hq with rfl | rfl | rfl | rfl
      · exact tk_ok0 (by decide) (by rw [q11]; exact v32)
      · exact tk_ok0 (by decide) (by rw [q9]; exact n32)
      · exact tk_ok0 (by decide) (by rw [q10]; exact w32)
      · exact ⟨by show 0 < 13; decide, (fun h => by cases h), fun h => by cases h⟩
    · show [(0, Value.ref 9), (1, sx_cv1 ρ' (0, 10, 0)), (2, sx_cv1 ρ' (0, 9, 0)), (3, sx_cv1 ρ' (0, 11, 0))] = _
      rw [og_int q9, og_int q10, og_int q11]
      rfl
    · obtain ⟨rfl, hm2, hR⟩ := hR
      have k2 := k M2 ⟨hm2, fun a ha => by
        rw [hR a ha]
        funext j
        unfold sx_up
        by_cases e : a = 10
        · rw [if_pos e, if_pos e, hM a ha]
        · rw [if_neg e, if_neg e, hM a ha]⟩
      obtain ⟨ρ3, s3, f1, f2, -⟩ := og_sat (xs := xs) (gs := [(0, sx_r32)]) (zs := [b]) (fs := []) hL hm2 ⟨og_z rfl hb.1 hb.2 hb, trivial⟩ (fun g hg => by cases hg)
      have z9 : ρ3 9 = b := f2 0 _ rfl
      refine og_use (Ts := [cm_T3]) (lv := cm_l3) (s := []) cm_c3 (by decide +kernel) s3 (fun q hq => ?_) (fun v hv => by cases hv) (Nat.le_refl _) ?_ rfl (fun T hT ρ4 M4 x4 h04 hm4 hc4 hM4 => ?_)
      · rw [List.mem_singleton.mp hq]
        exact tk_ok0 (show 9 < 10 by decide) (by rw [z9]; exact hb)
      · show [(4, sx_cv1 ρ3 (0, 9, 0))] = _
        rw [og_int z9]
      · rw [List.mem_singleton.mp hT] at hM4 ⊢
        have hM4 : ∀ a, a < 128 → M4 a = M2 a := hM4
        show Q (some (sx_cv1 ρ4 (0, 9, 0))) M4
        rw [og_int (og_v x4 (show 9 < 10 by decide) z9)]
        exact k M4 ⟨hm4, fun a ha => by
          rw [hM4 a ha, hR a ha]
          funext j
          unfold sx_up
          by_cases e : a = 10
          · rw [if_pos e, if_pos e, hM a ha]
          · rw [if_neg e, if_neg e, hM a ha]⟩
theorem cx_mend (hL : L < 2 ^ 31) (hm : sx_mok cl_ly M) (hn : sx_w sx_r32 n) (hw : sx_w sx_r32 w) (hv : sx_w sx_r32 v) : rz_fin (cx_M n w v M) L xs 23 2 0 (cm_v n w v) [] M := by
  have hH : 0 ≤ M 9 4 ∧ M 9 4 ≤ 6 := cv_ly_ok (g := (9, 4, 0, 6)) hm (by decide +kernel)
  have hC : 0 ≤ M 9 5 ∧ M 9 5 ≤ 12 := cv_ly_ok (g := (9, 5, 0, 12)) hm (by decide +kernel)
  obtain ⟨ρ, s, e1, e2, e3⟩ := og_sat (xs := xs) (gs := [(0, sx_r32), (0, sx_r32), (0, sx_r32)]) (zs := [n, w, v]) (fs := [(9, 4, (0, 6)), (9, 5, (0, 12))]) hL hm ⟨og_z rfl hn.1 hn.2 hn, og_z rfl hw.1 hw.2 hw, og_z rfl hv.1 hv.2 hv, trivial⟩ (fun g hg => by
    simp only [List.mem_cons, List.not_mem_nil, or_false] at hg
    rcases hg with rfl | rfl
    · exact og_f hm rfl (show cv_ly cl_ly (9, 4, sx_r32) = true by decide +kernel) hH
    · exact og_f hm rfl (show cv_ly cl_ly (9, 5, sx_r32) = true by decide +kernel) hC)
  have r9 : ρ 9 = n := e2 0 _ rfl
  have r10 : ρ 10 = w := e2 1 _ rfl
  have r11 : ρ 11 = v := e2 2 _ rfl
  have r12 : ρ 12 = M 9 4 := e3 0 _ rfl
  have r13 : ρ 13 = M 9 5 := e3 1 _ rfl
  refine og_use (Ts := cm_Ts) (lv := cm_l) (s := []) cm_c (by decide +kernel) s (fun q hq => ?_) (fun v hv => by cases hv) (Nat.le_refl _) ?_ rfl (fun T hT ρ' M' x h0 hm' hc hM => ?_)
  · simp only [cm_l, List.mem_cons, List.not_mem_nil, or_false] at hq
    rcases hq with rfl | rfl | rfl | rfl
    · exact sx_ck2 s _
    · exact tk_ok0 (show 9 < 14 by decide) (by rw [r9]; exact hn)
    · exact tk_ok0 (show 10 < 14 by decide) (by rw [r10]; exact hw)
    · exact tk_ok0 (show 11 < 14 by decide) (by rw [r11]; exact hv)
  · show [(0, Value.ref 8), (1, sx_cv1 ρ (0, 9, 0)), (2, sx_cv1 ρ (0, 10, 0)), (3, sx_cv1 ρ (0, 11, 0))] = _
    rw [og_int r9, og_int r10, og_int r11]
    rfl
  · have q9 := og_v x (show 9 < 14 by decide) r9
    have q10 := og_v x (show 10 < 14 by decide) r10
    have q11 := og_v x (show 11 < 14 by decide) r11
    have q12 := og_v x (show 12 < 14 by decide) r12
    have q13 := og_v x (show 13 < 14 by decide) r13
    rcases List.mem_append.mp hT with hT | hT
    · obtain ⟨c, hc8, rfl⟩ := List.mem_map.mp hT
      have hc8 := List.mem_range.mp hc8
      have hM : ∀ a, a < 128 → M' a = M a := hM
      obtain ⟨hne, hc⟩ := hc
      have hne : ¬ ρ' 14 = ρ' 11 + 0 := hne
      obtain ⟨f1, f2, f3⟩ := cm_facts hc8 h0 hc q9 q10 q11 q12 q13
      obtain ⟨b1, b2, b3, b4⟩ := cm_bd hm f1
      rw [hM 10 (by decide)] at f3
      have f3' := f3.symm
      have hb := cx_m10 hm (k := (30 * w + n).toNat) (by omega)
      have hb32 : sx_w sx_r32 (M 10 (30 * w + n).toNat) := og_w32 (by omega) (by omega)
      have hvr : -1 ≤ v ∧ v ≤ 143 := by unfold cm_rg at f2; omega
      show rz_fin (cx_M n w v M) L xs 23 2 49 (sx_cl1 ρ' cm_l4) (sx_cs1 ρ' [(0, 11, 0), (0, 14, 0), (0, 9, 0), (0, 10, 0), (2, 0, 32)]) M'
      have el : sx_cl1 ρ' cm_l4 = cm_v4 n w v (M 10 (30 * w + n).toNat) := by
        show [(0, Value.ref 8), (1, sx_cv1 ρ' (0, 9, 0)), (2, sx_cv1 ρ' (0, 10, 0)), (3, sx_cv1 ρ' (0, 11, 0)), (4, sx_cv1 ρ' (0, 14, 0))] = _
        rw [og_int q9, og_int q10, og_int q11, og_int f3']
        rfl
      rw [el]
      refine og_call (d := 1) (d' := 1) (k := 26) (ρ := ρ') (m := 15) (s := [(0, 11, 0), (0, 14, 0), (0, 9, 0), (0, 10, 0), (2, 0, 32)]) (as := [(2, 0, 32), (0, 10, 0), (0, 9, 0), (0, 14, 0), (0, 11, 0)]) cm_f49 rfl (fun q hq => ?_) rfl rfl rfl (Nat.le_refl _) ?_ (cx_add hL hm' hw hn hb32 hv) (fun r M2 hR => ?_)
      · simp only [List.mem_cons, List.not_mem_nil, or_false] at hq
        rcases hq with rfl | rfl | rfl | rfl | rfl
        · exact tk_ok0 (by decide) (by rw [q11]; exact hv)
        · exact tk_ok0 (by decide) (by rw [f3']; exact hb32)
        · exact tk_ok0 (by decide) (by rw [q9]; exact hn)
        · exact tk_ok0 (by decide) (by rw [q10]; exact hw)
        · exact ⟨by show 0 < 15; decide, (fun h => by cases h), fun h => by cases h⟩
      · show [(0, Value.ref 32), (1, sx_cv1 ρ' (0, 10, 0)), (2, sx_cv1 ρ' (0, 9, 0)), (3, sx_cv1 ρ' (0, 14, 0)), (4, sx_cv1 ρ' (0, 11, 0))] = _
        rw [og_int q9, og_int q10, og_int q11, og_int f3']
        rfl
      · obtain ⟨rfl, hA⟩ := hR
        refine cm_on hL hA.1 ⟨b1, b2⟩ ⟨b3, b4⟩ hvr hb32 (fun M3 hR3 => ⟨hR3.1, Or.inr ⟨f1, f2, rfl, Or.inr ⟨fun e => hne (by rw [f3', e, q11]; omega), M2, ?_, hR3⟩⟩⟩)
        obtain ⟨a1, a2, a3, a4, a5⟩ := hA
        refine ⟨a1, fun a ha h1 h2 => by rw [a2 a ha h1 h2, hM a ha], fun i h1 h2 => by rw [a3 i h1 h2, hM 32 (by decide)], a4, ?_⟩
        rw [hM 32 (by decide), hM 33 (by decide)] at a5
        exact a5
    · rcases List.mem_append.mp hT with hT | hT
      · obtain ⟨c, hc8, rfl⟩ := List.mem_map.mp hT
        have hc8 := List.mem_range.mp hc8
        have hM : ∀ a, a < 128 → M' a = M a := hM
        obtain ⟨hne, hc⟩ := hc
        have hne : ρ' 14 = ρ' 11 + 0 := hne
        obtain ⟨f1, f2, f3⟩ := cm_facts hc8 h0 hc q9 q10 q11 q12 q13
        rw [hM 10 (by decide)] at f3
        show cx_M n w v M (some (sx_cv1 ρ' (0, 14, 0))) M'
        rw [og_int f3.symm]
        exact ⟨hm', Or.inr ⟨f1, f2, rfl, Or.inl ⟨by omega, hM⟩⟩⟩
      · obtain ⟨l, hl, rfl⟩ := List.mem_map.mp hT
        have hM : ∀ a, a < 128 → M' a = M a := hM
        have hc : og_cs ρ' M' l := hc
        show cx_M n w v M (some (sx_cv1 ρ' (0, 0, -2000000000))) M'
        rw [tk_cv h0]
        refine ⟨hm', Or.inl ⟨fun hh => ?_, rfl, hM⟩⟩
        obtain ⟨k1, k2⟩ := hh
        unfold cm_pl at k1
        unfold cm_rg at k2
        have z9 := og_v0 q9
        have z10 := og_v0 q10
        have z11 := og_v0 q11
        rcases List.mem_append.mp hl with hl | hl
        · simp only [List.mem_cons, List.not_mem_nil, or_false] at hl
          rcases hl with rfl | rfl | rfl | rfl | rfl | rfl | rfl
          · obtain ⟨⟨a, b⟩, -⟩ := hc
            have b : sx_val ρ' (10, 0) ≤ -1 := b
            omega
          · obtain ⟨⟨a, b⟩, -⟩ := hc
            have a : 8 ≤ sx_val ρ' (10, 0) := a
            omega
          · obtain ⟨⟨a, b⟩, -⟩ := hc
            have b : sx_val ρ' (9, 0) ≤ -1 := b
            omega
          · obtain ⟨⟨a, b⟩, ⟨a2, b2⟩, -⟩ := hc
            have a : 5 ≤ sx_val ρ' (10, 0) := a
            have b : sx_val ρ' (10, 0) ≤ 5 := b
            have a2 : 30 ≤ sx_val ρ' (9, 0) := a2
            omega
          · obtain ⟨⟨a, b⟩, ⟨a2, b2⟩, -⟩ := hc
            have a : 7 ≤ sx_val ρ' (10, 0) := a
            have b : sx_val ρ' (10, 0) ≤ 7 := b
            have a2 : 1 ≤ sx_val ρ' (9, 0) := a2
            omega
          · obtain ⟨⟨a, b⟩, a2, -⟩ := hc
            have a : 6 ≤ sx_val ρ' (10, 0) := a
            have b : sx_val ρ' (10, 0) ≤ 6 := b
            have a2 : ¬ ρ' 9 < ρ' 13 + 0 := a2
            omega
          · obtain ⟨⟨a, b⟩, a2, -⟩ := hc
            have a : 0 ≤ sx_val ρ' (10, 0) := a
            have b : sx_val ρ' (10, 0) ≤ 4 := b
            have a2 : ¬ ρ' 9 < ρ' 12 + 0 := a2
            omega
        · obtain ⟨c, hc8, hl⟩ := List.mem_flatMap.mp hl
          have hc8 := List.mem_range.mp hc8
          have h8 : c = 0 ∨ c = 1 ∨ c = 2 ∨ c = 3 ∨ c = 4 ∨ c = 5 ∨ c = 6 ∨ c = 7 := by omega
          simp only [cm_badc, List.mem_cons, List.not_mem_nil, or_false] at hl
          rcases hl with rfl | rfl
          · obtain ⟨⟨a, b⟩, ⟨a2, b2⟩, -⟩ := hc
            have a : (c : Int) ≤ sx_val ρ' (10, 0) := a
            have b : sx_val ρ' (10, 0) ≤ (c : Int) := b
            have b2 : sx_val ρ' (11, 0) ≤ cm_lo.getD c 0 - 1 := b2
            rw [z10] at a b
            rw [z11] at b2
            rcases h8 with rfl | rfl | rfl | rfl | rfl | rfl | rfl | rfl <;> (simp [cm_lo] at b2; omega)
          · obtain ⟨⟨a, b⟩, ⟨a2, b2⟩, -⟩ := hc
            have a : (c : Int) ≤ sx_val ρ' (10, 0) := a
            have b : sx_val ρ' (10, 0) ≤ (c : Int) := b
            have a2 : cm_hi.getD c 0 + 1 ≤ sx_val ρ' (11, 0) := a2
            rw [z10] at a b
            rw [z11] at a2
            rcases h8 with rfl | rfl | rfl | rfl | rfl | rfl | rfl | rfl <;> (simp [cm_hi] at a2; omega)
end
