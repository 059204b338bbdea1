/-! The class takes THE TAPE: a sign. -/
section
variable {L : Nat} {xs : Nat → Int32} {M M' MM M0 M1 M2 : Nat → Nat → Int} {ρ ρ' : Nat → Int} {t t0 : sx_S} {Q R : Option Value → (Nat → Nat → Int) → Prop} {i z : Int}
theorem tk_CP (hC : tk_C i M) (hG : tk_G M) (hi : i ≤ 120) : tk_P M := by
  obtain ⟨c1, c2, c3, c4, c5, c6, c7, c8, c9⟩ := hC
  have := tk_n_lim (M 18) (M 14 9).toNat
  refine ⟨c1, ⟨c2, by omega⟩, ⟨c3, by omega⟩, ⟨c6, by omega⟩, ?_, ⟨c8, c9⟩⟩
  rcases hG with h | ⟨-, -, -, h⟩ <;> omega
theorem tk_C_le {i' : Int} (hC : tk_C i M) (hi : i ≤ i') : tk_C i' M := by
  obtain ⟨c1, c2, c3, c4, c5, c6, c7, c8, c9⟩ := hC
  exact ⟨c1, c2, c3, by omega, by omega, c6, c7, c8, c9⟩
theorem tk_close (hC : tk_C i M) (hR : tp_R M M') : tk_C i M' := by
  obtain ⟨c1, c2, c3, c4, c5, c6, c7, c8, c9⟩ := hC
  obtain ⟨a1, a2, a3, a4, a5, a6, a7, a8, a9⟩ := hR
  have k11 := a9 11 (by decide) (by decide)
  have k14 := a9 14 (by decide) (by decide)
  exact ⟨a1, by omega, a3, by omega, by omega, by omega, by rw [k11, a7, a8]; exact c7, by omega, by omega⟩
theorem tk_G_on (hG : tk_G M) (h8 : M 14 8 ≤ M' 14 8) (h12 : M' 14 12 = M 14 12) (h13 : M' 14 13 = M 14 13) (h17 : ∀ j : Nat, (j : Int) < M 14 8 → M' 17 j = M 17 j) : tk_G M' := by
  rcases hG with h | ⟨g1, g2, g3, g4⟩
  · exact Or.inl (by rw [h12]; exact h)
  · right
    have e := h17 (M 14 13).toNat (by omega)
    rw [h13, h12, e]
    exact ⟨g1, by omega, g3, g4⟩
theorem tk_closeG (hC : tk_C i M) (hG : tk_G M) (hR : tp_R M M') : tk_G M' := by
  obtain ⟨a1, a2, a3, a4, a5, a6, a7, a8, a9⟩ := hR
  exact tk_G_on hG (by omega) (a9 12 (by decide) (by decide)) (a9 13 (by decide) (by decide)) a6
theorem tk_push (hC : tk_C i M) (hm : sx_mok cl_ly M') (v8 : M' 14 8 = M 14 8) (v9 : M' 14 9 = M 14 9 + 1) (v14 : M' 14 14 = M 14 14) (h18 : ∀ j : Nat, (j : Int) ≠ M 14 9 → M' 18 j = M 18 j) (hB : (M' 14 11 = M 14 11 + 1 ∧ M' 18 (M 14 9).toNat = 40) ∨ M' 14 11 = M 14 11) : tk_C (i + 1) M' := by
  obtain ⟨c1, c2, c3, c4, c5, c6, c7, c8, c9⟩ := hC
  have en : tk_n (M' 18) (M 14 9).toNat = tk_n (M 18) (M 14 9).toNat := tk_n_on _ (fun j hj => h18 j (by omega))
  have e9 : (M' 14 9).toNat = (M 14 9).toNat + 1 := by omega
  have hl := (tk_n_le (M' 18) (M 14 9).toNat).1
  refine ⟨hm, by omega, by omega, by omega, by omega, by rcases hB with h | h <;> omega, ?_, by omega, by omega⟩
  rw [e9]
  rcases hB with ⟨h1, h2⟩ | h
  · rw [tk_n_eq h2]
    omega
  · omega
theorem tk_emit {e : Int} (hC : tk_C i M) (hm : sx_mok cl_ly M') (he : 0 ≤ e ∧ e ≤ 2) (v8 : M' 14 8 = M 14 8 + e) (v9 : M' 14 9 = M 14 9) (v11 : M' 14 11 = M 14 11) (v14 : -1 ≤ M' 14 14 ∧ M' 14 14 ≤ 255) (h18 : M' 18 = M 18) : tk_C (i + 1) M' := by
  obtain ⟨c1, c2, c3, c4, c5, c6, c7, c8, c9⟩ := hC
  exact ⟨hm, by omega, by omega, by omega, by omega, by omega, by rw [v11, v9, h18]; exact c7, v14.1, v14.2⟩
theorem tr_0_ok {v : Option sx_V} (h : tr_0 t0 v t = true) : v = some (0, 0, 0) ∧ tw [] [] [] t0 t = true := by
  unfold tr_0 at h
  cases v with
  | none => cases h
  | some v =>
    obtain ⟨h1, h2⟩ := sx_an_iff.mp (show sx_an (tk_ve v (0, 0, 0)) (tw [] [] [] t0 t) = true from h)
    exact ⟨by rw [tk_ve_ok h1], h2⟩
theorem tr_1_ok {v : Option sx_V} {k : Bool} (h : tr_1 v k = true) : v = some (0, 0, 1) ∧ k = true := by
  unfold tr_1 at h
  cases v with
  | none => cases h
  | some v =>
    obtain ⟨h1, h2⟩ := sx_an_iff.mp (show sx_an (tk_ve v (0, 0, 1)) k = true from h)
    exact ⟨by rw [tk_ve_ok h1], h2⟩
theorem tk_cv (h0 : ρ 0 = 0) (c : Int) : sx_cv1 ρ (0, 0, c) = Value.int (Int32.ofInt c) := by
  rw [sx_cvk0 rfl]
  show Value.int (Int32.ofInt (ρ 0 + c)) = _
  rw [h0, Int.zero_add]
/-- it answers 0 -/
theorem tk_Q0 {v : Option sx_V} {ρ0 : Nat → Int} (hf : ct_fr tk_c M0 M) (hs0 : sx_sat cl_ly (0, -100) xs L M ρ0 M t0) (hx : sx_ext t0.1 ρ0 ρ) (hs : sx_sat cl_ly (0, -100) xs L M ρ M' t) (h : tr_0 t0 v t = true) : tk_Q i M0 (v.map (sx_cv1 ρ)) M' := by
  obtain ⟨rfl, h2⟩ := tr_0_ok h
  have e := tw_0 hs0 hx hs h2
  refine ⟨0, ?_, hs.2.2.2.2.2.1, fun a i ha hm hp => by rw [e a ha]; exact hf a i ha hm hp, Or.inr rfl⟩
  show some (sx_cv1 ρ (0, 0, 0)) = _
  rw [tk_cv hs.2.1]
theorem tk_Q1 {v : Option sx_V} (h0 : ρ 0 = 0) (hv : v = some (0, 0, 1)) (hf : ct_fr tk_c M0 M') (hC : tk_C i M') (hG : tk_G M') : tk_Q i M0 (v.map (sx_cv1 ρ)) M' := by
  subst hv
  refine ⟨1, ?_, hC.1, hf, Or.inl ⟨rfl, hC, hG⟩⟩
  show some (sx_cv1 ρ (0, 0, 1)) = _
  rw [tk_cv h0]
-- calls
theorem tk_go0 {j k d d' pc ix : Nat} {lv : sm_V} (hf : (sm_MT j).2.2.2.2.2 pc = some (.invokevirtual ix, 3)) (hc : sx_call cl_ly (sm_LK (sm_MT j).1) (fun k => (sm_MT k).2.2.2.1) (.invokevirtual ix) [(2, 0, 14)] = some (k, [(2, 0, 14)], [])) (hk1 : 1 ≤ (sm_MT k).2.1) (hd : d ≤ d') (hS : rz_fin R L xs k d 0 [(0, .ref 14)] [] M) (next : ∀ r M', R r M' → rz_fin Q L xs j (d' + 1) (pc + 3) lv (r.toList ++ []) M') : rz_fin Q L xs j (d' + 1) pc lv [.ref 14] M := by
  have hok : sx_oks (fun _ => 0) 1 [(2, 0, 14)] := fun v hv => by
    rw [List.mem_singleton.mp hv]
    exact ⟨Nat.lt_succ_self _, (fun h => by cases h), fun h => by cases h⟩
  have c1 := (sx_call_ok (ρ := fun _ => 0) (M := M) (lay := cl_lay) (rf := cl_rf) cl_lok hok hc).1
  exact rz_callv (k := k) (as := [.ref 14]) (rest := []) hf c1 ⟨Nat.zero_le _, hk1⟩ (rz_d hd hS) next
theorem tk_go1 {j k d d' pc ix : Nat} {lv : sm_V} (hf : (sm_MT j).2.2.2.2.2 pc = some (.invokevirtual ix, 3)) (hc : sx_call cl_ly (sm_LK (sm_MT j).1) (fun k => (sm_MT k).2.2.2.1) (.invokevirtual ix) [(0, 1, 0), (2, 0, 14)] = some (k, [(2, 0, 14), (0, 1, 0)], [])) (hk1 : 2 ≤ (sm_MT k).2.1) (hz : sx_w sx_r32 z) (hd : d ≤ d') (hS : rz_fin R L xs k d 0 (tv_r z) [] M) (next : ∀ r M', R r M' → rz_fin Q L xs j (d' + 1) (pc + 3) lv (r.toList ++ []) M') : rz_fin Q L xs j (d' + 1) pc lv [.int (Int32.ofInt z), .ref 14] M := by
  have e1 : sx_cv1 (fun s => if s = 1 then z else 0) (0, 1, 0) = Value.int (Int32.ofInt z) := by
    rw [gv_cv]
    rfl
  have hok : sx_oks (fun s => if s = 1 then z else 0) 2 [(0, 1, 0), (2, 0, 14)] := fun v hv => by
    simp only [List.mem_cons, List.not_mem_nil, or_false] at hv
    rcases hv with rfl | rfl
    · exact tk_ok0 (Nat.lt_succ_self _) hz
    · exact ⟨by show 0 < 2; decide, (fun h => by cases h), fun h => by cases h⟩
  have c1 := (sx_call_ok (ρ := fun s => if s = 1 then z else 0) (M := M) (lay := cl_lay) (rf := cl_rf) cl_lok hok hc).1
  have e2 : sx_cs1 (fun s => if s = 1 then z else 0) [(0, 1, 0), (2, 0, 14)] = [.int (Int32.ofInt z), .ref 14] := by
    show [sx_cv1 (fun s => if s = 1 then z else 0) (0, 1, 0), Value.ref 14] = _
    rw [e1]
  have e3 : sx_cs1 (fun s => if s = 1 then z else 0) [(2, 0, 14), (0, 1, 0)] = [.ref 14, .int (Int32.ofInt z)] := by
    show [Value.ref 14, sx_cv1 (fun s => if s = 1 then z else 0) (0, 1, 0)] = _
    rw [e1]
  rw [e2, e3] at c1
  exact rz_callv (k := k) (as := [.ref 14, .int (Int32.ofInt z)]) (rest := []) hf c1 ⟨Nat.zero_le _, hk1⟩ (rz_d hd hS) next
theorem tk_ret {j d pc : Nat} {lv : sm_V} (h2 : (sm_MT j).2.2.2.2.2 pc = some (.ireturn, 1)) (h3 : (sm_MT j).2.2.1 = 3) (hz : z = 1 ∨ z = 0) (k : Q (some (.int (Int32.ofInt z))) M) : rz_fin Q L xs j d pc lv [.int (Int32.ofInt z)] M := by
  have hr : sm_ret (sm_MT j).2.2.1 .ireturn [.int (Int32.ofInt z)] = some (some (.int (Int32.ofInt z))) := by
    rw [h3]
    rcases hz with rfl | rfl <;> rfl
  refine ⟨1, _, M, ?_, k⟩
  rw [sm_run_f h2 rfl, hr]
theorem tk_one {j d pc : Nat} {lv : sm_V} (h1 : (sm_MT j).2.2.2.2.2 pc = some (.iconst 1, 1)) (h2 : (sm_MT j).2.2.2.2.2 (pc + 1) = some (.ireturn, 1)) (h3 : (sm_MT j).2.2.1 = 3) (k : Q (some (.int (Int32.ofInt 1))) M) : rz_fin Q L xs j d pc lv [] M :=
  rz_st h1 rfl rfl rfl (pc' := pc + 1) (lv' := lv) (s' := [.int (Int32.ofInt 1)]) rfl (tk_ret h2 h3 (Or.inl rfl) k)
theorem tk_QQ (hf : ct_fr tk_c M0 M) (hC : tk_C i M) (hG : tk_G M) : tk_Q i M0 (some (.int (Int32.ofInt 1))) M := ⟨1, rfl, hC.1, hf, Or.inl ⟨rfl, hC, hG⟩⟩
theorem tv_el (h9 : ρ 9 = z) : sx_cl1 ρ tl_1 = tv_r z := by
  show [(0, Value.ref 14), (1, sx_cv1 ρ (0, 9, 0))] = _
  rw [gv_cv, h9]
  rfl
theorem ts_el (h9 : ρ 9 = z) : sx_cs1 ρ ts_1 = [.int (Int32.ofInt z), .ref 14] := by
  show [sx_cv1 ρ (0, 9, 0), Value.ref 14] = _
  rw [gv_cv, h9]
theorem tl_okl {n : Nat} (hc : sx_ok ρ n (2, 0, 14)) (hn : 9 < n) (w : sx_w sx_r32 (ρ 9)) : sx_okl ρ n tl_1 := fun q hq => by
  simp only [tl_1, List.mem_cons, List.not_mem_nil, or_false] at hq
  rcases hq with rfl | rfl
  · exact hc
  · exact tk_ok0 hn w
theorem tl_okl0 {n : Nat} (hc : sx_ok ρ n (2, 0, 14)) : sx_okl ρ n tl_0 := fun q hq => by
  rw [List.mem_singleton.mp hq]; exact hc
theorem tk_f36 : (sm_MT 36).2.2.2.2.2 92 = some (.invokevirtual 111, 3) := rfl
theorem tk_operand (hL : L < 2 ^ 31) (hf0 : ct_fr tk_c M0 M) (hC : tk_C i M) (hG : tk_G M) (hi : i ≤ 119) (hz : 0 ≤ z ∧ z ≤ 255) : rz_fin (tk_Q (i + 1) M0) L xs 36 10 0 (tv_r z) [] M := by
  have hP := tk_CP hC hG (by omega)
  obtain ⟨ρ, s, w9, r9, r10, r11, r12, r13, r14, r15⟩ := tg_A (xs := xs) hL hP hz
  refine tk_use (lv := tl_1) (s := []) tc_o s (tl_okl (sx_ck2 s _) (show 9 < 16 by decide) w9) (fun v hv => by cases hv) (Nat.le_refl _) (tv_el r9) rfl (fun o ρ' M' rec y1 y3 => ?_)
  have v11 : sx_val ρ' (11, 0) = M 14 9 := tk_v0 y1 (show 11 < 16 by decide) r11
  have v10 : sx_val ρ' (10, 0) = M 14 8 := tk_v0 y1 (show 10 < 16 by decide) r10
  have hm := y3.2.2.2.2.2.1
  unfold tr_o at rec
  refine ⟨fun v eo => ?_, fun eo => ?_⟩
  · rw [eo] at rec
    rcases jor rec with rec | rec
    · exact tk_Q0 hf0 s y1 y3 rec
    · obtain ⟨hv, rec⟩ := tr_1_ok rec
      rcases jor rec with rec | rec
      · obtain ⟨k1, k2⟩ := sx_an_iff.mp rec
        obtain ⟨v, n, m⟩ := tw_ok s y1 y3 k1
        obtain ⟨⟨x, hx, u0⟩, u⟩ := tw_w_ok (by decide) y3 k2 (by rw [v11]; exact hC.2.2.1)
        rw [v11] at u u0
        have hx := jin_ok y3 hx
        have e : ∀ k, k ≠ 9 → k ≠ 10 → k ≠ 11 → M' 14 k = M 14 k := fun k h1 h2 h3 => n k (fun h => h2 (List.mem_singleton.mp h)) (fun q hq => by
          simp only [List.mem_cons, List.not_mem_nil, or_false] at hq
          rcases hq with rfl | rfl
          · exact fun h => h1 h.symm
          · exact fun h => h3 h.symm)
        have e17 := m 17 (by decide) (by decide) (by decide)
        have v9 : M' 14 9 = M 14 9 + 1 := (v (9, (11, 1)) (by simp)).trans (tk_v y1 (show 11 < 16 by decide) r11)
        have v11' : M' 14 11 = M 14 11 + 1 := (v (11, (12, 1)) (by simp)).trans (tk_v y1 (show 12 < 16 by decide) r12)
        exact tk_Q1 y3.2.1 hv (tk_tr hf0 (tw_fr (ms := [18]) (fs := [10]) (ps := [(9, (11, 1)), (11, (12, 1))]) (by decide +kernel) n m)) (tk_push hC hm (e 8 (by decide) (by decide) (by decide)) v9 (e 14 (by decide) (by decide) (by decide)) u (Or.inl ⟨v11', by rw [u0]; omega⟩)) (tk_G_on hG (by rw [e 8 (by decide) (by decide) (by decide)]; exact Int.le_refl _) (e 12 (by decide) (by decide) (by decide)) (e 13 (by decide) (by decide) (by decide)) (fun j _ => by rw [e17]))
      · obtain ⟨k1, k2⟩ := sx_an_iff.mp rec
        obtain ⟨v, n, m⟩ := tw_ok s y1 y3 k1
        obtain ⟨-, u⟩ := tw_w_ok (by decide) y3 k2 (by rw [v11]; exact hC.2.2.1)
        rw [v11] at u
        have e : ∀ k, k ≠ 9 → k ≠ 10 → k ≠ 11 → M' 14 k = M 14 k := fun k h1 h2 h3 => n k (fun h => h2 (List.mem_singleton.mp h)) (fun q hq => by
          simp only [List.mem_cons, List.not_mem_nil, or_false] at hq
          rcases hq with rfl | rfl
          · exact fun h => h1 h.symm
          · exact fun h => h3 h.symm)
        have e17 := m 17 (by decide) (by decide) (by decide)
        have v9 : M' 14 9 = M 14 9 + 1 := (v (9, (11, 1)) (by simp)).trans (tk_v y1 (show 11 < 16 by decide) r11)
        have v11' : M' 14 11 = M 14 11 := (v (11, (12, 0)) (by simp)).trans (tk_v0 y1 (show 12 < 16 by decide) r12)
        exact tk_Q1 y3.2.1 hv (tk_tr hf0 (tw_fr (ms := [18]) (fs := [10]) (ps := [(9, (11, 1)), (11, (12, 0))]) (by decide +kernel) n m)) (tk_push hC hm (e 8 (by decide) (by decide) (by decide)) v9 (e 14 (by decide) (by decide) (by decide)) u (Or.inr v11')) (tk_G_on hG (by rw [e 8 (by decide) (by decide) (by decide)]; exact Int.le_refl _) (e 12 (by decide) (by decide) (by decide)) (e 13 (by decide) (by decide) (by decide)) (fun j _ => by rw [e17]))
  · rw [eo] at rec
    obtain ⟨k1, k2⟩ := sx_an_iff.mp rec
    obtain ⟨k1, k3⟩ := sx_an_iff.mp k1
    obtain ⟨k2, k4⟩ := sx_an_iff.mp k2
    refine ⟨sx_cl1 ρ' [], tk_lk_ok (tp_nd rfl) k2, ?_⟩
    rw [sx_nbeq.mp k1, tk_sk_ok k3]
    have fin : ct_fr tk_c M0 M' → tk_C (i + 1) M' → tk_G M' → rz_fin (tk_Q (i + 1) M0) L xs 36 10 92 (sx_cl1 ρ' []) (sx_cs1 ρ' ts_0) M' := fun hf hC' hG' =>
      tk_go0 (d := 5) (d' := 9) tk_f36 rfl (Nat.le_of_ble_eq_true rfl) (by decide) (tp_end hL (tk_CP hC' hG' (by omega))) (fun r M2 hR => by
        obtain ⟨rfl, hR⟩ := hR
        exact tk_one rfl rfl rfl (tk_QQ (tk_tr hf hR.2.1) (tk_close hC' hR) (tk_closeG hC' hG' hR)))
    rcases jor k4 with k4 | k4
    · obtain ⟨k5, k6⟩ := sx_an_iff.mp k4
      obtain ⟨v, n, m⟩ := tw_ok s y1 y3 k5
      obtain ⟨⟨x, hx, u0⟩, u⟩ := tw_w_ok (by decide) y3 k6 (by rw [v10]; exact hC.2.1)
      rw [v10] at u u0
      have hx := jin_ok y3 hx
      have e : ∀ k, k ≠ 8 → k ≠ 12 → k ≠ 13 → M' 14 k = M 14 k := fun k h1 h2 h3 => n k (fun h => by cases h) (fun q hq => by
        simp only [List.mem_cons, List.not_mem_nil, or_false] at hq
        rcases hq with rfl | rfl | rfl
        · exact fun h => h1 h.symm
        · exact fun h => h2 h.symm
        · exact fun h => h3 h.symm)
      have v8 : M' 14 8 = M 14 8 + 1 := (v (8, (10, 1)) (by simp)).trans (tk_v y1 (show 10 < 16 by decide) r10)
      have v12 : M' 14 12 = 1 := (v (12, (0, 1)) (by simp)).trans (sx_v0 y3 1)
      have v13 : M' 14 13 = M 14 8 := (v (13, (10, 0)) (by simp)).trans v10
      have e14 := e 14 (by decide) (by decide) (by decide)
      have c89 := hC.2.2.2.2.2.2.2
      refine fin (tk_tr hf0 (tw_fr (ms := [17]) (fs := []) (ps := [(8, (10, 1)), (12, (0, 1)), (13, (10, 0))]) (by decide +kernel) n m)) (tk_emit (e := 1) hC hm (by decide) v8 (e 9 (by decide) (by decide) (by decide)) (e 11 (by decide) (by decide) (by decide)) (by omega) (m 18 (by decide) (by decide) (by decide))) (Or.inr ?_)
      have c2 := hC.2.1
      rw [v13, u0]
      exact ⟨c2, by omega, by omega, Or.inl ⟨v12, by omega⟩⟩
    · obtain ⟨k5, k6⟩ := sx_an_iff.mp k4
      obtain ⟨v, n, m⟩ := tw_ok s y1 y3 k5
      obtain ⟨-, u⟩ := tw_w_ok (by decide) y3 k6 (by rw [v10]; exact hC.2.1)
      rw [v10] at u
      have e : ∀ k, k ≠ 8 → M' 14 k = M 14 k := fun k h1 => n k (fun h => by cases h) (fun q hq => by
        rw [List.mem_singleton.mp hq]
        exact fun h => h1 h.symm)
      have v8 : M' 14 8 = M 14 8 + 1 := (v (8, (10, 1)) (by simp)).trans (tk_v y1 (show 10 < 16 by decide) r10)
      have e14 := e 14 (by decide)
      have c89 := hC.2.2.2.2.2.2.2
      exact fin (tk_tr hf0 (tw_fr (ms := [17]) (fs := []) (ps := [(8, (10, 1))]) (by decide +kernel) n m)) (tk_emit (e := 1) hC hm (by decide) v8 (e 9 (by decide)) (e 11 (by decide)) (by omega) (m 18 (by decide) (by decide) (by decide))) (tk_G_on hG (by omega) (e 12 (by decide)) (e 13 (by decide)) (fun j hj => u j (by omega)))
end
