/-! The class takes THE TAPE: the other signs. -/
section
variable {L : Nat} {xs : Nat → Int32} {M M' MM M0 M1 M2 : Nat → Nat → Int} {ρ ρ' : Nat → Int} {t t0 : sx_S} {Q R : Option Value → (Nat → Nat → Int) → Prop} {i z : Int}
theorem tk_f44a : (sm_MT 44).2.2.2.2.2 11 = some (.invokevirtual 117, 3) := rfl
theorem tk_f44b : (sm_MT 44).2.2.2.2.2 45 = some (.invokevirtual 111, 3) := rfl
theorem tk_f47 : (sm_MT 47).2.2.2.2.2 19 = some (.invokevirtual 117, 3) := rfl
theorem tk_f48 : (sm_MT 48).2.2.2.2.2 10 = some (.invokevirtual 48, 3) := rfl
theorem tk_f49 : (sm_MT 49).2.2.2.2.2 2 = some (.invokevirtual 117, 3) := rfl
theorem tk_f50 : (sm_MT 50).2.2.2.2.2 22 = some (.invokevirtual 117, 3) := rfl
theorem tk_tG {M : Nat → Nat → Int} (h : M 14 12 = 0) : tk_G M := Or.inl h
theorem ts_2e (h0 : ρ 0 = 0) : sx_cs1 ρ ts_2 = [.int (Int32.ofInt 1), .ref 14] := by
  show [sx_cv1 ρ (0, 0, 1), Value.ref 14] = _
  rw [tk_cv h0]
theorem tk_w1 : sx_w sx_r32 1 := by rw [sx_r32_iff]; omega
/-- nothing was changed -/
theorem tk_same (hC : tk_C i M) (hm : sx_mok cl_ly M') (e : ∀ a, a < 128 → M' a = M a) : tk_C i M' := by
  obtain ⟨c1, c2, c3, c4, c5, c6, c7, c8, c9⟩ := hC
  have e14 := e 14 (by decide)
  have e18 := e 18 (by decide)
  refine ⟨hm, ?_, ?_, ?_, ?_, ?_, ?_, ?_, ?_⟩ <;> rw [e14]
  · exact c2
  · exact c3
  · exact c4
  · exact c5
  · exact c6
  · rw [e18]; exact c7
  · exact c8
  · exact c9
theorem tk_sfr (hf : ct_fr tk_c M0 M) (e : ∀ a, a < 128 → M' a = M a) : ct_fr tk_c M0 M' := fun a i ha hm hp => by rw [e a ha]; exact hf a i ha hm hp
theorem tk_bracket (hL : L < 2 ^ 31) (hf0 : ct_fr tk_c M0 M) (hC : tk_C i M) (hG : M 14 12 = 0) (hi : i ≤ 119) : rz_fin (tk_Q (i + 1) M0) L xs 44 10 0 [(0, .ref 14)] [] M := by
  have hP := tk_CP hC (tk_tG hG) (by omega)
  obtain ⟨ρ, s, w9, r9, r10, r11, r12, r13, r14, r15⟩ := tg_A (xs := xs) (z := 0) hL hP (by decide)
  refine tk_use (lv := tl_0) (s := []) tc_c1 s (tl_okl0 (sx_ck2 s _)) (fun v hv => by cases hv) (Nat.le_refl _) rfl rfl (fun o ρ' M' rec y1 y3 => ?_)
  unfold tr_c1 at rec
  refine ⟨fun v eo => ?_, fun eo => ?_⟩
  · rw [eo] at rec
    exact tk_Q0 hf0 s y1 y3 rec
  · rw [eo] at rec
    obtain ⟨k1, k2⟩ := sx_an_iff.mp rec
    obtain ⟨k1, k3⟩ := sx_an_iff.mp k1
    obtain ⟨k2, k4⟩ := sx_an_iff.mp k2
    obtain ⟨k2, k5⟩ := sx_an_iff.mp k2
    have e := tw_0 s y1 y3 k4
    have hm := y3.2.2.2.2.2.1
    have k5 := jin_ok y3 k5
    rw [tk_v0 y1 (show 12 < 16 by decide) r12] at k5
    have hC1 := tk_same hC hm e
    have hf1 := tk_sfr hf0 e
    have e14 := e 14 (by decide)
    have hG1 : M' 14 12 = 0 := by rw [e14]; exact hG
    have hB1 : 1 ≤ M' 14 11 := by rw [e14]; exact k5.1
    refine ⟨sx_cl1 ρ' tl_0, tk_lk_ok (tp_nd rfl) k2, ?_⟩
    rw [sx_nbeq.mp k1, tk_sk_ok k3, ts_2e y3.2.1]
    refine tk_go1 (d := 5) (d' := 9) tk_f44a rfl (Nat.le_of_ble_eq_true rfl) tk_w1 (by decide) (tp_settle hL ⟨by decide, by decide⟩ _ M' rfl (tk_CP hC1 (tk_tG hG1) (by omega))) (fun r M2 hR => ?_)
    obtain ⟨rfl, hR⟩ := hR
    have hC2 := tk_close hC1 hR
    have hf2 := tk_tr hf1 hR.2.1
    have hG2 : M2 14 12 = 0 := by rw [hR.2.2.2.2.2.2.2.2 12 (by decide) (by decide)]; exact hG1
    have hB2 : M2 14 11 = M' 14 11 := hR.2.2.2.2.2.2.2.2 11 (by decide) (by decide)
    have hP2 := tk_CP hC2 (tk_tG hG2) (by omega)
    obtain ⟨c1, c2, c3, c4, c5, c6, c7, c8, c9⟩ := hC2
    have hn := tk_n_lim (M2 18) (M2 14 9).toNat
    obtain ⟨w1, w2, w3, w4, w5⟩ := tk_w12 hP2
    obtain ⟨ρ2, s2, -, -, q10, q11, q12, q13, q14, q15⟩ := tg_P (xs := xs) (z := 0) (b := (1, 120)) (c := (1, 120)) (d := (0, 4)) (e := sx_r32) (f := (-1, 255)) hL hP2 (by decide) ⟨by show (1 : Int) ≤ _; omega, w1.2⟩ ⟨by show (1 : Int) ≤ _; omega, w2.2⟩ w3 w4 w5
    refine tk_use (lv := tl_0) (s := []) tc_c2 s2 (tl_okl0 (sx_ck2 s2 _)) (fun v hv => by cases hv) (Nat.le_refl _) rfl rfl (fun o ρ3 M3 rec z1 z3 => ?_)
    unfold tr_c2 at rec
    refine ⟨fun v eo => ?_, fun eo => ?_⟩
    · rw [eo] at rec; cases rec
    · rw [eo] at rec
      obtain ⟨k1, k2⟩ := sx_an_iff.mp rec
      obtain ⟨k1, k3⟩ := sx_an_iff.mp k1
      obtain ⟨k2, k4⟩ := sx_an_iff.mp k2
      obtain ⟨v, n, m⟩ := tw_ok s2 z1 z3 k4
      have v9 : M3 14 9 = M2 14 9 - 1 := (v (9, (11, -1)) (by simp)).trans (tk_v z1 (show 11 < 16 by decide) q11)
      have v11 : M3 14 11 = M2 14 11 - 1 := (v (11, (12, -1)) (by simp)).trans (tk_v z1 (show 12 < 16 by decide) q12)
      have e3 : ∀ k, k ≠ 9 → k ≠ 10 → k ≠ 11 → M3 14 k = M2 14 k := fun k h1 h2 h3 => n k (fun h => h2 (List.mem_singleton.mp h)) (fun q hq => by
        simp only [List.mem_cons, List.not_mem_nil, or_false] at hq
        rcases hq with rfl | rfl
        · exact fun h => h1 h.symm
        · exact fun h => h3 h.symm)
      have e18 := m 18 (by decide) (fun h => by cases h) (by decide)
      have e8 := e3 8 (by decide) (by decide) (by decide)
      have e14 := e3 14 (by decide) (by decide) (by decide)
      have hn1 := (tk_n_le (M2 18) (M3 14 9).toNat).2
      rw [show (M3 14 9).toNat + 1 = (M2 14 9).toNat by omega] at hn1
      have hC3 : tk_C i M3 := ⟨z3.2.2.2.2.2.1, by omega, by omega, by omega, by omega, by omega, by rw [e18]; omega, by omega, by omega⟩
      have hG3 : M3 14 12 = 0 := by rw [e3 12 (by decide) (by decide) (by decide)]; exact hG2
      refine ⟨sx_cl1 ρ3 [], tk_lk_ok (tp_nd rfl) k2, ?_⟩
      rw [sx_nbeq.mp k1, tk_sk_ok k3]
      refine tk_go0 (d := 5) (d' := 9) tk_f44b rfl (Nat.le_of_ble_eq_true rfl) (by decide) (tp_end hL (tk_CP hC3 (tk_tG hG3) (by omega))) (fun r M4 hR4 => ?_)
      obtain ⟨rfl, hR4⟩ := hR4
      exact tk_one rfl rfl rfl (tk_QQ (tk_tr hf2 (tk_tr (tw_fr (ms := []) (fs := [10]) (ps := [(9, (11, -1)), (11, (12, -1))]) (by decide +kernel) n m) hR4.2.1)) (tk_C_le (tk_close hC3 hR4) (by omega)) (tk_closeG hC3 (tk_tG hG3) hR4))
theorem tk_cond (hL : L < 2 ^ 31) (hf0 : ct_fr tk_c M0 M) (hC : tk_C i M) (hG : M 14 12 = 0) (hi : i ≤ 119) : rz_fin (tk_Q (i + 1) M0) L xs 47 10 0 [(0, .ref 14)] [] M := by
  have hP := tk_CP hC (tk_tG hG) (by omega)
  obtain ⟨ρ, s, w9, r9, r10, r11, r12, r13, r14, r15⟩ := tg_A (xs := xs) (z := 0) hL hP (by decide)
  refine tk_use (lv := tl_0) (s := []) tc_q1 s (tl_okl0 (sx_ck2 s _)) (fun v hv => by cases hv) (Nat.le_refl _) rfl rfl (fun o ρ' M' rec y1 y3 => ?_)
  unfold tr_q1 at rec
  refine ⟨fun v eo => ?_, fun eo => ?_⟩
  · rw [eo] at rec
    exact tk_Q0 hf0 s y1 y3 rec
  · rw [eo] at rec
    obtain ⟨k1, k2⟩ := sx_an_iff.mp rec
    obtain ⟨k1, k3⟩ := sx_an_iff.mp k1
    obtain ⟨k2, k4⟩ := sx_an_iff.mp k2
    have e := tw_0 s y1 y3 k4
    have hm := y3.2.2.2.2.2.1
    have hC1 := tk_same hC hm e
    have hf1 := tk_sfr hf0 e
    have hG1 : M' 14 12 = 0 := by rw [e 14 (by decide)]; exact hG
    refine ⟨sx_cl1 ρ' tl_0, tk_lk_ok (tp_nd rfl) k2, ?_⟩
    rw [sx_nbeq.mp k1, tk_sk_ok k3, ts_2e y3.2.1]
    refine tk_go1 (d := 5) (d' := 9) tk_f47 rfl (Nat.le_of_ble_eq_true rfl) tk_w1 (by decide) (tp_settle hL ⟨by decide, by decide⟩ _ M' rfl (tk_CP hC1 (tk_tG hG1) (by omega))) (fun r M2 hR => ?_)
    obtain ⟨rfl, hR⟩ := hR
    have hC2 := tk_close hC1 hR
    have hf2 := tk_tr hf1 hR.2.1
    have hG2 : M2 14 12 = 0 := by rw [hR.2.2.2.2.2.2.2.2 12 (by decide) (by decide)]; exact hG1
    obtain ⟨ρ2, s2, -, -, q10, q11, q12, q13, q14, q15⟩ := tg_A (xs := xs) (z := 0) hL (tk_CP hC2 (tk_tG hG2) (by omega)) (by decide)
    refine tk_use (lv := tl_0) (s := []) tc_q2 s2 (tl_okl0 (sx_ck2 s2 _)) (fun v hv => by cases hv) (Nat.le_refl _) rfl rfl (fun o ρ3 M3 rec z1 z3 => ?_)
    unfold tr_q2 at rec
    refine ⟨fun v eo => ?_, fun eo => ?_⟩
    · rw [eo] at rec
      obtain ⟨hv, rec⟩ := tr_1_ok rec
      obtain ⟨v, n, m⟩ := tw_ok s2 z1 z3 rec
      have v8 : M3 14 8 = M2 14 8 + 2 := (v (8, (10, 2)) (by simp)).trans (tk_v z1 (show 10 < 16 by decide) q10)
      have v14 : M3 14 14 = M2 14 8 + 1 := (v (14, (10, 1)) (by simp)).trans (tk_v z1 (show 10 < 16 by decide) q10)
      have e3 : ∀ k, k ≠ 8 → k ≠ 14 → k ≠ 15 → M3 14 k = M2 14 k := fun k h1 h2 h3 => n k (fun h => h3 (List.mem_singleton.mp h)) (fun q hq => by
        simp only [List.mem_cons, List.not_mem_nil, or_false] at hq
        rcases hq with rfl | rfl
        · exact fun h => h1 h.symm
        · exact fun h => h2 h.symm)
      have c2 := hC2.2.1
      have c3 := hC2.2.2.1
      have c5 := hC2.2.2.2.2.1
      exact tk_Q1 z3.2.1 hv (tk_tr hf2 (tw_fr (ms := [17]) (fs := [15]) (ps := [(8, (10, 2)), (14, (10, 1))]) (by decide +kernel) n m)) (tk_emit (e := 2) hC2 z3.2.2.2.2.2.1 (by decide) v8 (e3 9 (by decide) (by decide) (by decide)) (e3 11 (by decide) (by decide) (by decide)) (by omega) (m 18 (by decide) (by decide) (by decide))) (tk_tG (by rw [e3 12 (by decide) (by decide) (by decide)]; exact hG2))
    · rw [eo] at rec; cases rec
theorem tk_endLine (hL : L < 2 ^ 31) (hC : tk_C i M) (hP : tk_P M) : rz_fin (fun r M' => r = none ∧ ct_fr tk_c M M' ∧ tk_C (i + 1) M' ∧ M' 14 12 = M 14 12) L xs 49 6 0 [(0, .ref 14)] [] M := by
  obtain ⟨ρ, s, w9, r9, r10, r11, r12, r13, r14, r15⟩ := tg_A (xs := xs) (z := 0) hL hP (by decide)
  refine tk_use (lv := tl_0) (s := []) tc_l1 s (tl_okl0 (sx_ck2 s _)) (fun v hv => by cases hv) (Nat.le_refl _) rfl rfl (fun o ρ' M' rec y1 y3 => ?_)
  unfold tr_l1 at rec
  refine ⟨fun v eo => ?_, fun eo => ?_⟩
  · rw [eo] at rec; cases rec
  · rw [eo] at rec
    obtain ⟨k1, k2⟩ := sx_an_iff.mp rec
    obtain ⟨k1, k3⟩ := sx_an_iff.mp k1
    obtain ⟨k2, k4⟩ := sx_an_iff.mp k2
    have e := tw_0 s y1 y3 k4
    have hm := y3.2.2.2.2.2.1
    have hC1 := tk_same hC hm e
    have hf1 := tk_sfr (tk_rf (M := M)) e
    have e14 := e 14 (by decide)
    have hP1 : tk_P M' := by
      obtain ⟨p1, p2, p3, p4, p5, p6⟩ := hP
      refine ⟨hm, ?_, ?_, ?_, ?_, ?_⟩ <;> rw [e14] <;> assumption
    refine ⟨sx_cl1 ρ' tl_0, tk_lk_ok (tp_nd rfl) k2, ?_⟩
    rw [sx_nbeq.mp k1, tk_sk_ok k3, ts_2e y3.2.1]
    refine tk_go1 (d := 5) (d' := 5) tk_f49 rfl (Nat.le_of_ble_eq_true rfl) tk_w1 (by decide) (tp_settle hL ⟨by decide, by decide⟩ _ M' rfl hP1) (fun r M2 hR => ?_)
    obtain ⟨rfl, hR⟩ := hR
    have hC2 := tk_close hC1 hR
    have hf2 := tk_tr hf1 hR.2.1
    have k11 := hR.2.2.2.2.2.2.2.2 11 (by decide) (by decide)
    have k12 := hR.2.2.2.2.2.2.2.2 12 (by decide) (by decide)
    have k14 := hR.2.2.2.2.2.2.2.2 14 (by decide) (by decide)
    have hP2 : tk_P M2 := by
      obtain ⟨p1, p2, p3, p4, p5, p6⟩ := hP1
      have b3 := hR.2.2.1
      have b4 := hR.2.2.2.1
      have b5 := hR.2.2.2.2.1
      have c2 := hC2.2.1
      exact ⟨hR.1, by omega, by omega, by rw [k11]; exact p4, by rw [k12]; exact p5, by rw [k14]; exact p6⟩
    obtain ⟨ρ2, s2, -, -, q10, q11, q12, q13, q14, q15⟩ := tg_A (xs := xs) (z := 0) hL hP2 (by decide)
    refine tk_use (lv := tl_0) (s := []) tc_l2 s2 (tl_okl0 (sx_ck2 s2 _)) (fun v hv => by cases hv) (Nat.le_refl _) rfl rfl (fun o ρ3 M3 rec z1 z3 => ?_)
    unfold tr_l2 at rec
    refine ⟨fun v eo => ?_, fun eo => ?_⟩
    · rw [eo] at rec
      cases v with
      | some v => cases rec
      | none =>
        obtain ⟨v, n, m⟩ := tw_ok s2 z1 z3 rec
        have v8 : M3 14 8 = M2 14 8 + 1 := (v (8, (10, 1)) (by simp)).trans (tk_v z1 (show 10 < 16 by decide) q10)
        have v14 : M3 14 14 = -1 := (v (14, (0, -1)) (by simp)).trans (sx_v0 z3 (-1))
        have e3 : ∀ k, k ≠ 8 → k ≠ 14 → M3 14 k = M2 14 k := fun k h1 h2 => n k (fun h => by cases h) (fun q hq => by
          simp only [List.mem_cons, List.not_mem_nil, or_false] at hq
          rcases hq with rfl | rfl
          · exact fun h => h1 h.symm
          · exact fun h => h2 h.symm)
        exact ⟨rfl, tk_tr hf2 (tw_fr (ms := [17]) (fs := []) (ps := [(8, (10, 1)), (14, (0, -1))]) (by decide +kernel) n m), tk_emit (e := 1) hC2 z3.2.2.2.2.2.1 (by decide) v8 (e3 9 (by decide) (by decide)) (e3 11 (by decide) (by decide)) (by omega) (m 18 (by decide) (by decide) (by decide)), by rw [e3 12 (by decide) (by decide), k12, e14]⟩
    · rw [eo] at rec; cases rec
theorem tk_next (hL : L < 2 ^ 31) (hf0 : ct_fr tk_c M0 M) (hC : tk_C i M) (hG : M 14 12 = 0) (hi : i ≤ 119) : rz_fin (tk_Q (i + 1) M0) L xs 48 10 0 [(0, .ref 14)] [] M := by
  have hP := tk_CP hC (tk_tG hG) (by omega)
  obtain ⟨ρ, s, w9, r9, r10, r11, r12, r13, r14, r15⟩ := tg_A (xs := xs) (z := 0) hL hP (by decide)
  refine tk_use (lv := tl_0) (s := []) tc_n1 s (tl_okl0 (sx_ck2 s _)) (fun v hv => by cases hv) (Nat.le_refl _) rfl rfl (fun o ρ' M' rec y1 y3 => ?_)
  unfold tr_q1 at rec
  refine ⟨fun v eo => ?_, fun eo => ?_⟩
  · rw [eo] at rec
    exact tk_Q0 hf0 s y1 y3 rec
  · rw [eo] at rec
    obtain ⟨k1, k2⟩ := sx_an_iff.mp rec
    obtain ⟨k1, k3⟩ := sx_an_iff.mp k1
    obtain ⟨k2, k4⟩ := sx_an_iff.mp k2
    have e := tw_0 s y1 y3 k4
    have hm := y3.2.2.2.2.2.1
    have hC1 := tk_same hC hm e
    have hf1 := tk_sfr hf0 e
    have hG1 : M' 14 12 = 0 := by rw [e 14 (by decide)]; exact hG
    refine ⟨sx_cl1 ρ' tl_0, tk_lk_ok (tp_nd rfl) k2, ?_⟩
    rw [sx_nbeq.mp k1, tk_sk_ok k3]
    refine tk_go0 (d := 6) (d' := 9) tk_f48 rfl (Nat.le_of_ble_eq_true rfl) (by decide) (tk_endLine hL hC1 (tk_CP hC1 (tk_tG hG1) (by omega))) (fun r M2 hR => ?_)
    obtain ⟨rfl, hR1, hC2, hR3⟩ := hR
    have hf2 := tk_tr hf1 hR1
    have hG2 : M2 14 12 = 0 := by rw [hR3]; exact hG1
    obtain ⟨ρ2, s2, -, -, q10, q11, q12, q13, q14, q15⟩ := tg_A (xs := xs) (z := 0) hL (tk_CP hC2 (tk_tG hG2) (by omega)) (by decide)
    refine tk_use (lv := tl_0) (s := []) tc_n2 s2 (tl_okl0 (sx_ck2 s2 _)) (fun v hv => by cases hv) (Nat.le_refl _) rfl rfl (fun o ρ3 M3 rec z1 z3 => ?_)
    unfold tr_n2 at rec
    refine ⟨fun v eo => ?_, fun eo => ?_⟩
    · rw [eo] at rec
      obtain ⟨hv, rec⟩ := tr_1_ok rec
      obtain ⟨v, n, m⟩ := tw_ok s2 z1 z3 rec
      have e3 : ∀ k, k ≠ 15 → M3 14 k = M2 14 k := fun k h3 => n k (fun h => h3 (List.mem_singleton.mp h)) (fun q hq => by cases hq)
      have e18 := m 18 (by decide) (fun h => by cases h) (by decide)
      have hC3 : tk_C (i + 1) M3 := by
        obtain ⟨c1, c2, c3, c4, c5, c6, c7, c8, c9⟩ := hC2
        have a8 := e3 8 (by decide)
        have a9 := e3 9 (by decide)
        have a11 := e3 11 (by decide)
        have a14 := e3 14 (by decide)
        exact ⟨z3.2.2.2.2.2.1, by omega, by omega, by omega, by omega, by omega, by rw [a11, a9, e18]; exact c7, by omega, by omega⟩
      exact tk_Q1 z3.2.1 hv (tk_tr hf2 (tw_fr (ms := []) (fs := [15]) (ps := []) (by decide +kernel) n m)) hC3 (tk_tG (by rw [e3 12 (by decide)]; exact hG2))
    · rw [eo] at rec; cases rec
def tv_2 (z y : Int) : sm_V := [(0, .ref 14), (1, .int (Int32.ofInt z)), (2, .int (Int32.ofInt y))]
theorem tk_opb (hL : L < 2 ^ 31) (hf0 : ct_fr tk_c M0 M) (hC : tk_C i M) (hG : M 14 12 = 0) (hi : i ≤ 119) (hz : 0 ≤ z ∧ z ≤ 255) {y : Int} (hy : 1 ≤ y ∧ y ≤ 5) : rz_fin (tk_Q (i + 1) M0) L xs 50 10 25 (tv_2 z y) [] M := by
  have hP := tk_CP hC (tk_tG hG) (by omega)
  have hP0 := hP
  obtain ⟨p1, p2, p3, p4, p5, p6⟩ := hP
  have y32 : sx_w sx_r32 y := by rw [sx_r32_iff]; omega
  have fin : ∀ {ρ' : Nat → Int} {M' : Nat → Nat → Int} {v : Option sx_V} {x : sx_A}, ρ' 0 = 0 → v = some (0, 0, 1) → sx_mok cl_ly M' → M' 14 9 = M 14 9 + 1 → (∀ k, k ∉ [15] → (∀ q ∈ [((9 : Nat), x)], q.1 ≠ k) → M' 14 k = M 14 k) → (∀ a, a < 128 → a ∉ [18] → a ≠ 14 → M' a = M a) → (∀ j : Nat, (j : Int) ≠ M 14 9 → M' 18 j = M 18 j) → tk_Q (i + 1) M0 (v.map (sx_cv1 ρ')) M' := by
    intro ρ' M' v x h0 hv hm v9 n m u
    have e : ∀ k, k ≠ 9 → k ≠ 15 → M' 14 k = M 14 k := fun k h1 h2 => n k (fun h => h2 (List.mem_singleton.mp h)) (fun q hq => by
      rw [List.mem_singleton.mp hq]
      exact fun h => h1 h.symm)
    exact tk_Q1 h0 hv (tk_tr hf0 (tw_fr (ms := [18]) (fs := [15]) (ps := [(9, x)]) rfl n m)) (tk_push hC hm (e 8 (by decide) (by decide)) v9 (e 14 (by decide) (by decide)) u (Or.inr (e 11 (by decide) (by decide)))) (tk_tG (by rw [e 12 (by decide) (by decide)]; exact hG))
  by_cases hW : M 14 9 = 0
  · obtain ⟨ρ, s, w9, r9, r10, r11, r12, r13, r14, r15⟩ := tg_P (xs := xs) (b := (0, 0)) (c := (0, 120)) (d := (0, 4)) (e := sx_r32) (f := (-1, 255)) hL hP0 hz ⟨p3.1, by show M 14 9 ≤ (0 : Int); omega⟩ p4 p5 (tk_w13 p1) p6
    obtain ⟨ρ1, x1, s1, r16⟩ := tg_fr (r := (1, 5)) (z := y) (n := 16) s rfl hy (sx_32_64 y32)
    have q9 : ρ1 9 = z := by rw [x1 9 (by decide)]; exact r9
    have q11 : ρ1 11 = M 14 9 := by rw [x1 11 (by decide)]; exact r11
    refine tk_use (lv := tl_2) (s := []) tc_p20 s1 (fun q hq => ?_) (fun v hv => by cases hv) (Nat.le_refl _) ?_ rfl (fun o ρ' M' rec y1 y3 => ?_)
    · simp only [tl_2, List.mem_cons, List.not_mem_nil, or_false] at hq
      rcases hq with rfl | rfl | rfl
      · exact sx_ck2 s1 _
      · exact tk_ok0 (show 9 < 17 by decide) (by rw [q9, ← r9]; exact w9)
      · exact tk_ok0 (show 16 < 17 by decide) (by rw [r16]; exact y32)
    · show [(0, Value.ref 14), (1, sx_cv1 ρ1 (0, 9, 0)), (2, sx_cv1 ρ1 (0, 16, 0))] = _
      rw [gv_cv, gv_cv, q9, r16]
      rfl
    · unfold tr_p20 at rec
      refine ⟨fun v eo => ?_, fun eo => ?_⟩
      · rw [eo] at rec
        rcases jor rec with rec | rec
        · exact tk_Q0 hf0 s1 y1 y3 rec
        · obtain ⟨hv, rec⟩ := tr_1_ok rec
          obtain ⟨k1, k2⟩ := sx_an_iff.mp rec
          obtain ⟨v, n, m⟩ := tw_ok s1 y1 y3 k1
          have v0 : sx_val ρ' (0, 0) = M 14 9 := by rw [sx_v0 y3, hW]
          obtain ⟨-, u⟩ := tw_w_ok (by decide) y3 k2 (by rw [v0]; exact p3.1)
          rw [v0] at u
          exact fin y3.2.1 hv y3.2.2.2.2.2.1 ((v (9, (0, 1)) (by simp)).trans (by rw [sx_v0 y3, hW]; rfl)) n m u
      · rw [eo] at rec; cases rec
  · have hW1 : 1 ≤ M 14 9 := by omega
    obtain ⟨ρ, s, w9, r9, r10, r11, r12, r13, r14, r15⟩ := tg_P (xs := xs) (b := (1, 120)) (c := (0, 120)) (d := (0, 4)) (e := sx_r32) (f := (-1, 255)) hL hP0 hz ⟨hW1, p3.2⟩ p4 p5 (tk_w13 p1) p6
    obtain ⟨ρ1, x1, s1, r16⟩ := tg_fr (r := (1, 5)) (z := y) (n := 16) s rfl hy (sx_32_64 y32)
    have v11 : sx_val ρ1 (11, -1) = M 14 9 - 1 := tk_v x1 (by decide) r11
    have w18 := tk_m18 p1 (k := (M 14 9 - 1).toNat) (by omega)
    obtain ⟨ρ2, x2, s2, r17⟩ := tg_rd (k := 18) (i := (11, -1)) (r := (0, 255)) (n := 17) s1 rfl (by decide) (by decide) (by rw [v11]; omega) (by rw [v11]; exact w18) (by rw [v11]; exact ⟨Int.le_trans (by decide) w18.1, Int.le_trans w18.2 (by decide)⟩)
    rw [v11] at r17
    have q9 : ρ2 9 = z := by rw [x2 9 (by decide), x1 9 (by decide)]; exact r9
    have q11 : ρ2 11 = M 14 9 := by rw [x2 11 (by decide), x1 11 (by decide)]; exact r11
    have q16 : ρ2 16 = y := by rw [x2 16 (by decide)]; exact r16
    refine tk_use (lv := tl_2) (s := []) tc_p21 s2 (fun q hq => ?_) (fun v hv => by cases hv) (Nat.le_refl _) ?_ rfl (fun o ρ' M' rec y1 y3 => ?_)
    · simp only [tl_2, List.mem_cons, List.not_mem_nil, or_false] at hq
      rcases hq with rfl | rfl | rfl
      · exact sx_ck2 s2 _
      · exact tk_ok0 (show 9 < 18 by decide) (by rw [q9, ← r9]; exact w9)
      · exact tk_ok0 (show 16 < 18 by decide) (by rw [q16]; exact y32)
    · show [(0, Value.ref 14), (1, sx_cv1 ρ2 (0, 9, 0)), (2, sx_cv1 ρ2 (0, 16, 0))] = _
      rw [gv_cv, gv_cv, q9, q16]
      rfl
    · unfold tr_p21 at rec
      refine ⟨fun v eo => ?_, fun eo => ?_⟩
      · rw [eo] at rec
        rcases jor rec with rec | rec
        · exact tk_Q0 hf0 s2 y1 y3 rec
        · obtain ⟨hv, rec⟩ := tr_1_ok rec
          obtain ⟨k1, k2⟩ := sx_an_iff.mp rec
          obtain ⟨v, n, m⟩ := tw_ok s2 y1 y3 k1
          have z11 : sx_val ρ' (11, 0) = M 14 9 := tk_v0 y1 (show 11 < 18 by decide) q11
          have z11' : sx_val ρ' (11, -1) = M 14 9 - 1 := tk_v y1 (show 11 < 18 by decide) q11
          have z17 : sx_val ρ' (17, 0) = M 18 (M 14 9 - 1).toNat := tk_v0 y1 (show 17 < 18 by decide) r17
          obtain ⟨-, u⟩ := tw_w2_ok (by decide) y3 k2 (by rw [z11]; exact p3.1) (by rw [z11', z17])
          rw [z11] at u
          exact fin y3.2.1 hv y3.2.2.2.2.2.1 ((v (9, (11, 1)) (by simp)).trans (tk_v y1 (show 11 < 18 by decide) q11)) n m u
      · rw [eo] at rec; cases rec
theorem tk_op (hL : L < 2 ^ 31) (hf0 : ct_fr tk_c M0 M) (hC : tk_C i M) (hG : M 14 12 = 0) (hi : i ≤ 119) (hz : 0 ≤ z ∧ z ≤ 255) : rz_fin (tk_Q (i + 1) M0) L xs 50 10 0 (tv_r z) [] M := by
  have hP := tk_CP hC (tk_tG hG) (by omega)
  obtain ⟨ρ, s, w9, r9, r10, r11, r12, r13, r14, r15⟩ := tg_A (xs := xs) hL hP hz
  refine tk_use (lv := tl_1) (s := []) tc_p1 s (tl_okl (sx_ck2 s _) (show 9 < 16 by decide) w9) (fun v hv => by cases hv) (Nat.le_refl _) (tv_el r9) rfl (fun o ρ' M' rec y1 y3 => ?_)
  unfold tr_p1 at rec
  refine ⟨fun v eo => ?_, fun eo => ?_⟩
  · rw [eo] at rec
    exact tk_Q0 hf0 s y1 y3 rec
  · rw [eo] at rec
    obtain ⟨k1, k2⟩ := sx_an_iff.mp rec
    obtain ⟨k2, k3⟩ := sx_an_iff.mp k2
    obtain ⟨k3, k4⟩ := sx_an_iff.mp k3
    have e := tw_0 s y1 y3 k2
    have hm := y3.2.2.2.2.2.1
    have hC1 := tk_same hC hm e
    have hf1 := tk_sfr hf0 e
    have hG1 : M' 14 12 = 0 := by rw [e 14 (by decide)]; exact hG
    cases es : o.2.2.2.1 with
    | nil => rw [es] at k3; cases k3
    | cons a r =>
      cases r with
      | nil => rw [es] at k3; cases k3
      | cons b r =>
        cases r with
        | cons _ _ => rw [es] at k3; cases k3
        | nil =>
          rw [es] at k3
          obtain ⟨k3, k5⟩ := sx_an_iff.mp (show sx_an (sx_an (Nat.beq a.1 0) (jin o.2.2.2.2 a.2 1 5)) (tk_ve b (2, 0, 14)) = true from k3)
          obtain ⟨k3, k6⟩ := sx_an_iff.mp k3
          have k6 := jin_ok y3 k6
          cases el : sx_lv o.2.2.1 2 with
          | none => rw [el] at k4; cases k4
          | some v =>
            rw [el] at k4
            obtain ⟨k4, k7⟩ := sx_an_iff.mp (show sx_an (sx_an (Nat.beq v.1 0) (jin o.2.2.2.2 v.2 1 5)) (tk_lk [(0, 2, 0, 14), (1, 0, 9, 0), (2, v)] o.2.2.1) = true from k4)
            obtain ⟨k4, k8⟩ := sx_an_iff.mp k4
            have k8 := jin_ok y3 k8
            refine ⟨sx_cl1 ρ' [(0, 2, 0, 14), (1, 0, 9, 0), (2, v)], tk_lk_ok (tp_nd rfl) k7, ?_⟩
            have q9 : ρ' 9 = z := by rw [y1 9 (show 9 < 16 by decide)]; exact r9
            have ela : sx_cl1 ρ' [(0, 2, 0, 14), (1, 0, 9, 0), (2, v)] = tv_2 z (sx_val ρ' v.2) := by
              show [(0, Value.ref 14), (1, sx_cv1 ρ' (0, 9, 0)), (2, sx_cv1 ρ' v)] = _
              rw [gv_cv, q9, sx_cvk0 (sx_nbeq.mp k4)]
              rfl
            have ests : sx_cs1 ρ' [a, b] = [.int (Int32.ofInt (sx_val ρ' a.2)), .ref 14] := by
              show [sx_cv1 ρ' a, sx_cv1 ρ' b] = _
              rw [sx_cvk0 (sx_nbeq.mp k3), tk_ve_ok k5]
              rfl
            rw [ela, ests, sx_nbeq.mp k1]
            refine tk_go1 (d := 5) (d' := 9) tk_f50 rfl (Nat.le_of_ble_eq_true rfl) (by rw [sx_r32_iff]; omega) (by decide) (tp_settle hL k6 _ M' rfl (tk_CP hC1 (tk_tG hG1) (by omega))) (fun r M2 hR => ?_)
            obtain ⟨rfl, hR⟩ := hR
            exact tk_opb hL (tk_tr hf1 hR.2.1) (tk_close hC1 hR) (by rw [hR.2.2.2.2.2.2.2.2 12 (by decide) (by decide)]; exact hG1) hi hz k8
theorem tk_dig0 (hL : L < 2 ^ 31) (hf0 : ct_fr tk_c M0 M) (hP : tk_P M) (hG : M 14 12 = 0 ∨ M 14 12 = 4) (hz : 48 ≤ z ∧ z ≤ 57) : rz_fin (tk_Q (i + 1) M0) L xs 43 10 0 (tv_r z) [] M := by
  obtain ⟨w1, w2, w3, w4, w5⟩ := tk_w12 hP
  rcases hG with h | h
  · obtain ⟨ρ, s, w9, r9, r10, r11, r12, r13, r14, r15⟩ := tg_P (xs := xs) (z := z) (d := (0, 0)) hL hP (by omega) w1 w2 (by rw [h]; exact ⟨by decide, by decide⟩) w4 w5
    refine tk_use (lv := tl_1) (s := []) tc_d0 s (tl_okl (sx_ck2 s _) (show 9 < 16 by decide) w9) (fun v hv => by cases hv) (Nat.le_refl _) (tv_el r9) rfl (fun o ρ' M' rec y1 y3 => ?_)
    unfold tr_dn at rec
    refine ⟨fun v eo => ?_, fun eo => ?_⟩
    · rw [eo] at rec
      exact tk_Q0 hf0 s y1 y3 rec
    · rw [eo] at rec; cases rec
  · obtain ⟨ρ, s, w9, r9, r10, r11, r12, r13, r14, r15⟩ := tg_P (xs := xs) (z := z) (d := (4, 4)) hL hP (by omega) w1 w2 (by rw [h]; exact ⟨by decide, by decide⟩) w4 w5
    refine tk_use (lv := tl_1) (s := []) tc_d4 s (tl_okl (sx_ck2 s _) (show 9 < 16 by decide) w9) (fun v hv => by cases hv) (Nat.le_refl _) (tv_el r9) rfl (fun o ρ' M' rec y1 y3 => ?_)
    unfold tr_dn at rec
    refine ⟨fun v eo => ?_, fun eo => ?_⟩
    · rw [eo] at rec
      exact tk_Q0 hf0 s y1 y3 rec
    · rw [eo] at rec; cases rec
theorem tk_dig1 {g mm : Int} (hL : L < 2 ^ 31) (hchk : gs_chk (fun _ => false) (tr_dy g mm) 300 300 10 43 0 tl_1 [] (td_y g mm) = true) (hmm : 0 ≤ mm ∧ mm ≤ 999) (hf0 : ct_fr tk_c M0 M) (hC : tk_C i M) (hP : tk_P M) (hG : M 14 12 = g) (hN : 0 ≤ M 14 13 ∧ M 14 13 < M 14 8) (hv : 0 ≤ M 17 (M 14 13).toNat ∧ M 17 (M 14 13).toNat ≤ mm) (hz : 48 ≤ z ∧ z ≤ 57) (hfin : ∀ M', M' 14 12 = g + 1 → M' 14 13 = M 14 13 → M' 14 8 = M 14 8 → 0 ≤ M' 17 (M 14 13).toNat → M' 17 (M 14 13).toNat ≤ 10 * mm + 9 → tk_G M') : rz_fin (tk_Q (i + 1) M0) L xs 43 10 0 (tv_r z) [] M := by
  obtain ⟨w1, w2, w3, w4, w5⟩ := tk_w12 hP
  have hP1 := hP.1
  have hd := hP.2.1
  have h9 := hP.2.2.1
  obtain ⟨ρ, s, w9, r9, r10, r11, r12, r13, r14, r15⟩ := tg_sat (xs := xs) (z := z) (r := (48, 57)) (a := (0, 240)) (b := (0, 120)) (c := (0, 120)) (d := (g, g)) (e := (0, 239)) (f := (-1, 255)) hL hP1 hz (by rw [sx_r32_iff]; omega) ⟨hd.1, by show M 14 8 ≤ (240 : Int); omega⟩ w1 w2 (by rw [hG]; exact ⟨Int.le_refl _, Int.le_refl _⟩) ⟨hN.1, by show M 14 13 ≤ (239 : Int); omega⟩ w5
  have v14 : sx_val ρ (14, 0) = M 14 13 := tk_v0 (n := 16) sx_ext_rfl (by decide) r14
  obtain ⟨ρ2, x2, s2, r16⟩ := tg_rd (k := 17) (i := (14, 0)) (r := (0, mm)) (n := 16) s rfl (by decide) (by decide) (by rw [v14]; exact hN.1) (by rw [v14]; exact hv) (by rw [v14, sx_r64_iff]; omega)
  have q9 : ρ2 9 = z := by rw [x2 9 (by decide)]; exact r9
  have q14 : ρ2 14 = M 14 13 := by rw [x2 14 (by decide)]; exact r14
  refine tk_use (lv := tl_1) (s := []) hchk s2 (tl_okl (sx_ck2 s2 _) (show 9 < 17 by decide) (by rw [q9, ← r9]; exact w9)) (fun v hv => by cases hv) (Nat.le_refl _) (tv_el q9) rfl (fun o ρ' M' rec y1 y3 => ?_)
  unfold tr_dy at rec
  refine ⟨fun v eo => ?_, fun eo => ?_⟩
  · rw [eo] at rec
    obtain ⟨hv1, rec⟩ := tr_1_ok rec
    obtain ⟨k1, k2⟩ := sx_an_iff.mp rec
    obtain ⟨v, n, m⟩ := tw_ok s2 y1 y3 k1
    have z14 : sx_val ρ' (14, 0) = M 14 13 := tk_v0 y1 (show 14 < 17 by decide) q14
    obtain ⟨⟨x, hx, u0⟩, u⟩ := tw_w_ok (by decide) y3 k2 (by rw [z14]; exact hN.1)
    rw [z14] at u u0
    have hx := jin_ok y3 hx
    have v12 : M' 14 12 = g + 1 := (v (12, (0, g + 1)) (by simp)).trans (sx_v0 y3 (g + 1))
    have e : ∀ k, k ≠ 12 → M' 14 k = M 14 k := fun k h1 => n k (fun h => by cases h) (fun q hq => by
      rw [List.mem_singleton.mp hq]
      exact fun h => h1 h.symm)
    have hC' : tk_C (i + 1) M' := tk_emit (e := 0) hC y3.2.2.2.2.2.1 (by decide) (by rw [e 8 (by decide)]; omega) (e 9 (by decide)) (e 11 (by decide)) (by rw [e 14 (by decide)]; exact w5) (m 18 (by decide) (by decide) (by decide))
    exact tk_Q1 y3.2.1 hv1 (tk_tr hf0 (tw_fr (ms := [17]) (fs := []) (ps := [(12, (0, g + 1))]) rfl n m)) hC' (hfin M' v12 (e 13 (by decide)) (e 8 (by decide)) (by rw [u0]; omega) (by rw [u0]; omega))
  · rw [eo] at rec; cases rec
theorem tk_dig (hL : L < 2 ^ 31) (hf0 : ct_fr tk_c M0 M) (hC : tk_C i M) (hG : tk_G M) (hi : i ≤ 119) (hz : 48 ≤ z ∧ z ≤ 57) : rz_fin (tk_Q (i + 1) M0) L xs 43 10 0 (tv_r z) [] M := by
  have hP := tk_CP hC hG (by omega)
  rcases hG with h | ⟨g1, g2, g3, h | h | h | h⟩
  · exact tk_dig0 hL hf0 hP (Or.inl h) hz
  · exact tk_dig1 hL tc_d1 (by decide) hf0 hC hP h.1 ⟨g1, g2⟩ ⟨g3, h.2⟩ hz (fun M' a b c d e => Or.inr ⟨by rw [b]; exact g1, by rw [b, c]; exact g2, by rw [b]; exact d, Or.inr (Or.inl ⟨a, by rw [b]; exact e⟩)⟩)
  · exact tk_dig1 hL tc_d2 (by decide) hf0 hC hP h.1 ⟨g1, g2⟩ ⟨g3, h.2⟩ hz (fun M' a b c d e => Or.inr ⟨by rw [b]; exact g1, by rw [b, c]; exact g2, by rw [b]; exact d, Or.inr (Or.inr (Or.inl ⟨a, by rw [b]; exact e⟩))⟩)
  · exact tk_dig1 hL tc_d3 (by decide) hf0 hC hP h.1 ⟨g1, g2⟩ ⟨g3, h.2⟩ hz (fun M' a b c d e => Or.inr ⟨by rw [b]; exact g1, by rw [b, c]; exact g2, by rw [b]; exact d, Or.inr (Or.inr (Or.inr a))⟩)
  · exact tk_dig0 hL hf0 hP (Or.inr h) hz
end
