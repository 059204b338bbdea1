/-! The class takes THE TAPE: from sign to sign, and the whole. -/
section
variable {L : Nat} {xs : Nat → Int32} {M M' MM M0 M1 M2 : Nat → Nat → Int} {ρ ρ' : Nat → Int} {t t0 : sx_S} {Q R : Option Value → (Nat → Nat → Int) → Prop} {i z : Int}
theorem tk_after {d pc : Nat} {lv : sm_V} {r : Option Value} (h2 : (sm_MT 35).2.2.2.2.2 pc = some (.ireturn, 1)) (hR : tk_Q i M0 r M2) : rz_fin (tk_Q i M0) L xs 35 d pc lv (r.toList ++ []) M2 := by
  obtain ⟨z, rfl, hm, hf, h⟩ := hR
  exact tk_ret h2 rfl (h.elim (fun h => Or.inl h.1) Or.inr) ⟨z, rfl, hm, hf, h⟩
theorem tk_f35a : (sm_MT 35).2.2.2.2.2 9 = some (.invokevirtual 75, 3) := rfl
theorem tk_f35b : (sm_MT 35).2.2.2.2.2 22 = some (.invokevirtual 81, 3) := rfl
theorem tk_f35c : (sm_MT 35).2.2.2.2.2 85 = some (.invokevirtual 94, 3) := rfl
theorem tk_f35d : (sm_MT 35).2.2.2.2.2 69 = some (.invokevirtual 84, 3) := rfl
theorem tk_f35e : (sm_MT 35).2.2.2.2.2 74 = some (.invokevirtual 88, 3) := rfl
theorem tk_f35f : (sm_MT 35).2.2.2.2.2 79 = some (.invokevirtual 91, 3) := rfl
theorem tk_goes (hL : L < 2 ^ 31) (hC : tk_C i M) (hG : tk_G M) (hi : i ≤ 119) (hz : 0 ≤ z ∧ z ≤ 255) : rz_fin (tk_Q (i + 1) M) L xs 35 11 0 (tv_r z) [] M := by
  have hP := tk_CP hC hG (by omega)
  have z32 : sx_w sx_r32 z := by rw [sx_r32_iff]; omega
  obtain ⟨ρ, s, w9, r9, r10, r11, r12, r13, r14, r15⟩ := tg_A (xs := xs) hL hP hz
  refine tk_use (lv := tl_1) (s := []) tc_g s (tl_okl (sx_ck2 s _) (show 9 < 16 by decide) w9) (fun v hv => by cases hv) (Nat.le_refl _) (tv_el r9) rfl (fun o ρ' M' rec y1 y3 => ?_)
  have hm := y3.2.2.2.2.2.1
  have q9 : ρ' 9 = z := by rw [y1 9 (show 9 < 16 by decide)]; exact r9
  unfold tr_g at rec
  refine ⟨fun v eo => ?_, fun eo => ?_⟩
  · rw [eo] at rec; cases rec
  · rw [eo] at rec
    have hdig : tw [] [15] [(12, (0, 0))] tg_a o.2.2.2.2 = true → ct_fr tk_c M M' ∧ tk_C i M' ∧ M' 14 12 = 0 := fun k => by
      obtain ⟨v, n, m⟩ := tw_ok s y1 y3 k
      have e : ∀ k, k ≠ 12 → k ≠ 15 → M' 14 k = M 14 k := fun k h1 h2 => n k (fun h => h2 (List.mem_singleton.mp h)) (fun q hq => by
        rw [List.mem_singleton.mp hq]
        exact fun h => h1 h.symm)
      have e18 := m 18 (by decide) (fun h => by cases h) (by decide)
      have a8 := e 8 (by decide) (by decide)
      have a9 := e 9 (by decide) (by decide)
      have a11 := e 11 (by decide) (by decide)
      have a14 := e 14 (by decide) (by decide)
      obtain ⟨c1, c2, c3, c4, c5, c6, c7, c8, c9⟩ := hC
      exact ⟨tw_fr (ms := []) (fs := [15]) (ps := [(12, (0, 0))]) (by decide +kernel) n m, ⟨hm, by omega, by omega, by omega, by omega, by omega, by rw [a11, a9, e18]; exact c7, by omega, by omega⟩, (v (12, (0, 0)) (by simp)).trans (sx_v0 y3 0)⟩
    cases h9 : Nat.beq o.2.1 9 with
    | true =>
      rw [h9] at rec
      obtain ⟨k1, k2⟩ := sx_an_iff.mp (show sx_an (tk_sk ts_1 o.2.2.2.1) (sx_an (tk_lk [] o.2.2.1) (tw [] [] [] tg_a o.2.2.2.2)) = true from rec)
      obtain ⟨k2, k3⟩ := sx_an_iff.mp k2
      have e := tw_0 s y1 y3 k3
      refine ⟨sx_cl1 ρ' [], tk_lk_ok (tp_nd rfl) k2, ?_⟩
      rw [sx_nbeq.mp h9, tk_sk_ok k1, ts_el q9]
      exact tk_go1 (d := 10) (d' := 10) tk_f35a rfl (Nat.le_of_ble_eq_true rfl) z32 (Nat.le_refl _) (tk_operand hL (tk_sfr (tk_rf (M := M)) e) (tk_same hC hm e) (tk_G_on hG (by rw [e 14 (by decide)]; exact Int.le_refl _) (by rw [e 14 (by decide)]) (by rw [e 14 (by decide)]) (fun j _ => by rw [e 17 (by decide)])) hi hz) (fun r M2 hR => tk_after rfl hR)
    | false =>
      rw [h9] at rec
      cases h22 : Nat.beq o.2.1 22 with
      | true =>
        rw [h22] at rec
        obtain ⟨k1, k2⟩ := sx_an_iff.mp (show sx_an (sx_an (tk_sk ts_1 o.2.2.2.1) (jin o.2.2.2.2 (9, 0) 48 57)) (sx_an (tk_lk [] o.2.2.1) (tw [] [] [] tg_a o.2.2.2.2)) = true from rec)
        obtain ⟨k1, k4⟩ := sx_an_iff.mp k1
        obtain ⟨k2, k3⟩ := sx_an_iff.mp k2
        have k4 := jin_ok y3 k4
        rw [tk_v0 y1 (show 9 < 16 by decide) r9] at k4
        have e := tw_0 s y1 y3 k3
        refine ⟨sx_cl1 ρ' [], tk_lk_ok (tp_nd rfl) k2, ?_⟩
        rw [sx_nbeq.mp h22, tk_sk_ok k1, ts_el q9]
        exact tk_go1 (d := 10) (d' := 10) tk_f35b rfl (Nat.le_of_ble_eq_true rfl) z32 (Nat.le_refl _) (tk_dig hL (tk_sfr (tk_rf (M := M)) e) (tk_same hC hm e) (tk_G_on hG (by rw [e 14 (by decide)]; exact Int.le_refl _) (by rw [e 14 (by decide)]) (by rw [e 14 (by decide)]) (fun j _ => by rw [e 17 (by decide)])) hi k4) (fun r M2 hR => tk_after rfl hR)
      | false =>
        rw [h22] at rec
        cases h85 : Nat.beq o.2.1 85 with
        | true =>
          rw [h85] at rec
          obtain ⟨k1, k2⟩ := sx_an_iff.mp (show sx_an (tk_sk ts_1 o.2.2.2.1) (sx_an (tk_lk [] o.2.2.1) (tw [] [15] [(12, (0, 0))] tg_a o.2.2.2.2)) = true from rec)
          obtain ⟨k2, k3⟩ := sx_an_iff.mp k2
          obtain ⟨hf, hC', hG'⟩ := hdig k3
          refine ⟨sx_cl1 ρ' [], tk_lk_ok (tp_nd rfl) k2, ?_⟩
          rw [sx_nbeq.mp h85, tk_sk_ok k1, ts_el q9]
          exact tk_go1 (d := 10) (d' := 10) tk_f35c rfl (Nat.le_of_ble_eq_true rfl) z32 (Nat.le_refl _) (tk_op hL hf hC' hG' hi hz) (fun r M2 hR => tk_after rfl hR)
        | false =>
          rw [h85] at rec
          obtain ⟨k1, k2⟩ := sx_an_iff.mp (show sx_an (bif Nat.beq o.2.1 69 then true else bif Nat.beq o.2.1 74 then true else Nat.beq o.2.1 79) (sx_an (tk_sk ts_0 o.2.2.2.1) (sx_an (tk_lk [] o.2.2.1) (tw [] [15] [(12, (0, 0))] tg_a o.2.2.2.2))) = true from rec)
          obtain ⟨k2, k3⟩ := sx_an_iff.mp k2
          obtain ⟨k3, k4⟩ := sx_an_iff.mp k3
          obtain ⟨hf, hC', hG'⟩ := hdig k4
          refine ⟨sx_cl1 ρ' [], tk_lk_ok (tp_nd rfl) k3, ?_⟩
          rw [tk_sk_ok k2]
          rcases jor k1 with h | h
          · rw [sx_nbeq.mp h]
            exact tk_go0 (d := 10) (d' := 10) tk_f35d rfl (Nat.le_of_ble_eq_true rfl) (Nat.le_refl _) (tk_bracket hL hf hC' hG' hi) (fun r M2 hR => tk_after rfl hR)
          · rcases jor h with h | h
            · rw [sx_nbeq.mp h]
              exact tk_go0 (d := 10) (d' := 10) tk_f35e rfl (Nat.le_of_ble_eq_true rfl) (Nat.le_refl _) (tk_cond hL hf hC' hG' hi) (fun r M2 hR => tk_after rfl hR)
            · rw [sx_nbeq.mp h]
              exact tk_go0 (d := 10) (d' := 10) tk_f35f rfl (Nat.le_of_ble_eq_true rfl) (Nat.le_refl _) (tk_next hL hf hC' hG' hi) (fun r M2 hR => tk_after rfl hR)
-- the whole
def tt_fr (M M' : Nat → Nat → Int) : Prop := ∀ a i : Nat, a < 128 → a ≠ 16 → a ≠ 17 → a ≠ 18 → (a = 14 → ¬ (6 ≤ i ∧ i ≤ 15)) → M' a i = M a i
theorem tt_up (h : ct_fr tk_c M M') : tt_fr M M' := fun a i ha _ h17 h18 h14 => tk_at h ha h17 h18 (fun e h9 => h14 e (by omega))
theorem tt_tr (h1 : tt_fr M M1) (h2 : tt_fr M1 M2) : tt_fr M M2 := fun a i h h16 h17 h18 h14 => (h2 a i h h16 h17 h18 h14).trans (h1 a i h h16 h17 h18 h14)
def tt_Q (M0 : Nat → Nat → Int) (r : Option Value) (M' : Nat → Nat → Int) : Prop := ∃ z : Int, r = some (.int (Int32.ofInt z)) ∧ -1 ≤ z ∧ z ≤ 120 ∧ sx_mok cl_ly M' ∧ tt_fr M0 M' ∧ M' 14 6 = 0
def tt_v (n i : Int) : sm_V := [(0, .ref 14), (1, .int (Int32.ofInt n)), (2, .int (Int32.ofInt i))]
theorem tt_f16 : (sm_MT 33).2.2.2.2.2 16 = some (.iload_n 2, 1) := rfl
theorem tt_f28 : (sm_MT 33).2.2.2.2.2 28 = some (.invokevirtual 37, 3) := rfl
theorem tt_f59 : (sm_MT 33).2.2.2.2.2 59 = some (.invokevirtual 48, 3) := rfl
theorem tt_sat {n : Int} (hL : L < 2 ^ 31) (hm : sx_mok cl_ly M) (hi : 0 ≤ i ∧ i ≤ 120) (hn : 0 ≤ n ∧ n ≤ 120) : ∃ ρ : Nat → Int, sx_sat cl_ly (0, -100) xs L M ρ M tt_t ∧ ρ 9 = i ∧ ρ 10 = n := by
  have i32 : sx_w sx_r32 i := by rw [sx_r32_iff]; omega
  have n32 : sx_w sx_r32 n := by rw [sx_r32_iff]; omega
  have hvs : ct_vs [(0, ((0 : Int), (120 : Int))), (0, ((0 : Int), (120 : Int)))] [.int (Int32.ofInt i), .int (Int32.ofInt n)] := ⟨Or.inl ⟨rfl, i, rfl, hi, i32⟩, Or.inl ⟨rfl, n, rfl, hn, n32⟩, trivial⟩
  obtain ⟨ρ1, a1, a2, a3, a4, a5⟩ := mt_as_ok hvs (mt_tr_sat (MM := M) (M := M) (mod := []) (xs := xs) hL (fun a ha => by cases ha) hm (fun a _ _ => rfl))
  have e1 : (mt_as [(0, ((0 : Int), (120 : Int))), (0, ((0 : Int), (120 : Int)))] (mt_tr [])).1 = [(0, 9, 0), (0, 10, 0)] := rfl
  rw [e1] at a4 a5
  have w : ∀ k, k = 9 ∨ k = 10 → sx_w sx_r32 (ρ1 k) := fun k hk => by
    have := (a5 (0, k, 0) (by rcases hk with rfl | rfl <;> simp)).2.1 rfl
    unfold sx_val at this
    rw [Int.add_zero] at this
    exact this
  have v4 : [sx_cv1 ρ1 (0, 9, 0), sx_cv1 ρ1 (0, 10, 0)] = [Value.int (Int32.ofInt i), Value.int (Int32.ofInt n)] := a4
  simp only [gv_cv, List.cons.injEq, and_true] at v4
  exact ⟨ρ1, a3, gv_inj (w 9 (Or.inl rfl)) i32 v4.1, gv_inj (w 10 (Or.inr rfl)) n32 v4.2⟩
theorem tt_okl {n k : Int} (hc : ∀ c, sx_ok ρ t.1 (2, 0, c)) (h : 10 < t.1) (h9 : ρ 9 = k) (h10 : ρ 10 = n) (hk : 0 ≤ k ∧ k ≤ 120) (hn : 0 ≤ n ∧ n ≤ 120) : sx_okl ρ t.1 tt_l ∧ sx_cl1 ρ tt_l = tt_v n k := by
  refine ⟨fun q hq => ?_, ?_⟩
  · simp only [tt_l, List.mem_cons, List.not_mem_nil, or_false] at hq
    rcases hq with rfl | rfl | rfl
    · exact hc _
    · exact tk_ok0 h (by rw [h10, sx_r32_iff]; omega)
    · exact tk_ok0 (by omega) (by rw [h9, sx_r32_iff]; omega)
  · show [(0, Value.ref 14), (1, sx_cv1 ρ (0, 10, 0)), (2, sx_cv1 ρ (0, 9, 0))] = _
    rw [gv_cv, gv_cv, h9, h10]
    rfl
theorem tt_el {n k : Int} (h9 : ρ 9 = k) (h10 : ρ 10 = n) : sx_cl1 ρ tt_l = tt_v n k := by
  show [(0, Value.ref 14), (1, sx_cv1 ρ (0, 10, 0)), (2, sx_cv1 ρ (0, 9, 0))] = _
  rw [gv_cv, gv_cv, h9, h10]
  rfl
/-- behind the last sign -/
theorem tt_end (hL : L < 2 ^ 31) (hC : tk_C i M) (hi : i ≤ 121) (hF : tt_fr M0 M) (h6 : M 14 6 = 0) : rz_fin (tt_Q M0) L xs 33 12 62 [(0, .ref 14)] [] M := by
  obtain ⟨c1, c2, c3, c4, c5, -⟩ := hC
  have w8 : sx_w sx_r32 (M 14 8) := cv_ly_ok (g := (14, 8, sx_r32)) c1 (by decide +kernel)
  obtain ⟨ρ, b1, b2, s, b4⟩ := pz_fld (l := [(14, 8, 0, 256)]) (mt_tr_sat (MM := M) (M := M) (mod := []) (xs := xs) hL (fun a ha => by cases ha) c1 (fun a _ _ => rfl)) (fun g hg => by
    rw [List.mem_singleton.mp hg]
    exact ⟨Nat.le_of_ble_eq_true rfl, ⟨c2, by show M 14 8 ≤ (256 : Int); omega⟩, sx_32_64 w8⟩)
  have s : sx_sat cl_ly (0, -100) xs L M ρ M tt_e := s
  refine tk_use (lv := tl_0) (s := []) tc_t4 s (tl_okl0 (sx_ck2 s _)) (fun v hv => by cases hv) (Nat.le_refl _) rfl rfl (fun o ρ' M' rec y1 y3 => ?_)
  unfold tr_t4 at rec
  refine ⟨fun v eo => ?_, fun eo => ?_⟩
  · rw [eo] at rec
    cases v with
    | none => cases rec
    | some v =>
      obtain ⟨k1, k2⟩ := sx_an_iff.mp (show sx_an (tk_ve v (0, 0, -1)) (tw [16] [] [(7, (9, 0))] tt_e o.2.2.2.2) = true from rec)
      obtain ⟨-, n, m⟩ := tw_ok s y1 y3 k2
      have e : ∀ k, k ≠ 7 → M' 14 k = M 14 k := fun k h1 => n k (fun h => by cases h) (fun q hq => by
        rw [List.mem_singleton.mp hq]
        exact fun h => h1 h.symm)
      refine ⟨-1, ?_, by decide, by decide, y3.2.2.2.2.2.1, tt_tr hF (fun a j ha h16 h17 h18 h14 => ?_), by rw [e 6 (by decide)]; exact h6⟩
      · show some (sx_cv1 ρ' v) = _
        rw [tk_ve_ok k1, tk_cv y3.2.1]
      · by_cases h : a = 14
        · have h9 := h14 h
          subst h
          exact e j (by omega)
        · rw [m a ha (fun h9 => h16 (List.mem_singleton.mp h9)) h]
  · rw [eo] at rec; cases rec
theorem tt_loop {n : Int} (hL : L < 2 ^ 31) (hn : 0 ≤ n ∧ n ≤ 120) : ∀ (m : Nat) (i : Int) (M : Nat → Nat → Int), (n - i).toNat = m → 0 ≤ i → i ≤ n → tk_C i M → tk_G M → M 14 6 = 0 → tt_fr M0 M → rz_fin (tt_Q M0) L xs 33 12 16 (tt_v n i) [] M := by
  have step : ∀ (i : Int) (M : Nat → Nat → Int), 0 ≤ i → i ≤ n → tk_C i M → tk_G M → M 14 6 = 0 → tt_fr M0 M → (∀ M', i < n → tk_C (i + 1) M' → tk_G M' → M' 14 6 = 0 → tt_fr M0 M' → rz_fin (tt_Q M0) L xs 33 12 16 (tt_v n (i + 1)) [] M') → rz_fin (tt_Q M0) L xs 33 12 16 (tt_v n i) [] M := by
    intro i M h0 hin hC hG h6 hF next
    refine rz_il tt_f16 rfl ?_
    have hi : 0 ≤ i ∧ i ≤ 120 := by omega
    obtain ⟨ρ, s, r9, r10⟩ := tt_sat (xs := xs) hL hC.1 hi hn
    obtain ⟨okl, el⟩ := tt_okl (fun c => sx_ck2 s c) (show 10 < 11 by decide) r9 r10 hi hn
    refine tk_use (lv := tt_l) (s := [(0, 9, 0)]) tc_t1 s okl (fun v hv => by
      rw [List.mem_singleton.mp hv]
      exact tk_ok0 (show 9 < 11 by decide) (by rw [r9, sx_r32_iff]; omega)) (Nat.le_refl _) el (by
      show [sx_cv1 ρ (0, 9, 0)] = _
      rw [gv_cv, r9]) (fun o ρ' M' rec y1 y3 => ?_)
    have hm := y3.2.2.2.2.2.1
    have z9 : ρ' 9 = i := by rw [y1 9 (show 9 < 11 by decide)]; exact r9
    have z10 : ρ' 10 = n := by rw [y1 10 (show 10 < 11 by decide)]; exact r10
    have same : tw [] [] [] tt_t o.2.2.2.2 = true → tk_C i M' ∧ tk_G M' ∧ M' 14 6 = 0 ∧ tt_fr M0 M' := fun k => by
      have e := tw_0 s y1 y3 k
      exact ⟨tk_same hC hm e, tk_G_on hG (by rw [e 14 (by decide)]; exact Int.le_refl _) (by rw [e 14 (by decide)]) (by rw [e 14 (by decide)]) (fun j _ => by rw [e 17 (by decide)]), by rw [e 14 (by decide)]; exact h6, fun a j ha h16 h17 h18 h14 => by rw [e a ha]; exact hF a j ha h16 h17 h18 h14⟩
    unfold tr_t1 at rec
    refine ⟨fun v eo => ?_, fun eo => ?_⟩
    · rw [eo] at rec
      cases v with
      | none => cases rec
      | some v =>
        obtain ⟨k1, k2⟩ := sx_an_iff.mp (show sx_an (tk_ve v (0, 10, 0)) (tw [] [] [] tt_t o.2.2.2.2) = true from rec)
        obtain ⟨-, -, g6, gF⟩ := same k2
        refine ⟨n, ?_, by omega, hn.2, hm, gF, g6⟩
        show some (sx_cv1 ρ' v) = _
        rw [tk_ve_ok k1, gv_cv, z10]
    · rw [eo] at rec
      cases h28 : Nat.beq o.2.1 28 with
      | true =>
        rw [h28] at rec
        obtain ⟨k1, k2⟩ := sx_an_iff.mp (show sx_an (sx_an (rt_kl true 9 10 o.2.2.2.2) (tw [] [] [] tt_t o.2.2.2.2)) (sx_an (tk_lk tt_l o.2.2.1) (match o.2.2.2.1 with
          | [a, b] => sx_an (sx_an (Nat.beq a.1 0) (jin o.2.2.2.2 a.2 0 255)) (tk_ve b (2, 0, 14))
          | _ => false)) = true from rec)
        obtain ⟨k1, k3⟩ := sx_an_iff.mp k1
        obtain ⟨k2, k4⟩ := sx_an_iff.mp k2
        have k1 := of_decide_eq_true (rt_kl_ok y3 k1)
        rw [z9, z10] at k1
        obtain ⟨gC, gG, g6, gF⟩ := same k3
        cases es : o.2.2.2.1 with
        | nil => rw [es] at k4; cases k4
        | cons a r =>
          cases r with
          | nil => rw [es] at k4; cases k4
          | cons b r =>
            cases r with
            | cons _ _ => rw [es] at k4; cases k4
            | nil =>
              rw [es] at k4
              obtain ⟨k4, k5⟩ := sx_an_iff.mp (show sx_an (sx_an (Nat.beq a.1 0) (jin o.2.2.2.2 a.2 0 255)) (tk_ve b (2, 0, 14)) = true from k4)
              obtain ⟨k4, k6⟩ := sx_an_iff.mp k4
              have k6 := jin_ok y3 k6
              refine ⟨sx_cl1 ρ' tt_l, tk_lk_ok (tp_nd rfl) k2, ?_⟩
              have el' := tt_el z9 z10
              have ests : sx_cs1 ρ' [a, b] = [.int (Int32.ofInt (sx_val ρ' a.2)), .ref 14] := by
                show [sx_cv1 ρ' a, sx_cv1 ρ' b] = _
                rw [sx_cvk0 (sx_nbeq.mp k4), tk_ve_ok k5]
                rfl
              rw [el', ests, sx_nbeq.mp h28]
              refine tk_go1 (d := 11) (d' := 11) tt_f28 rfl (Nat.le_of_ble_eq_true rfl) (by rw [sx_r32_iff]; omega) (Nat.le_refl _) (tk_goes hL gC gG (by omega) k6) (fun r M2 hR => ?_)
              obtain ⟨zz, rfl, hm2, hf2, hcase⟩ := hR
              have F2 := tt_tr gF (tt_up hf2)
              have h62 : M2 14 6 = 0 := by rw [tk_at hf2 (a := 14) (i := 6) (by decide) (by decide) (by decide) (fun _ => by decide)]; exact g6
              obtain ⟨ρ2, s2, q9, q10⟩ := tt_sat (xs := xs) hL hm2 hi hn
              obtain ⟨okl2, el2⟩ := tt_okl (fun c => sx_ck2 s2 c) (show 10 < 11 by decide) q9 q10 hi hn
              rcases hcase with ⟨rfl, hC2, hG2⟩ | rfl
              · refine tk_use (lv := tt_l) (s := [(0, 0, 1)]) tc_t2 s2 okl2 (fun v hv => by
                  rw [List.mem_singleton.mp hv]
                  exact ⟨by show 0 < 11; decide, fun _ => by rw [sx_v0 s2]; exact tk_w1, fun h => by cases h⟩) (Nat.le_refl _) el2 (by
                  show [sx_cv1 ρ2 (0, 0, 1)] = _
                  rw [tk_cv s2.2.1]
                  rfl) (fun o3 ρ3 M3 rec w1 w3 => ?_)
                unfold tr_t2 at rec
                refine ⟨fun v eo => ?_, fun eo => ?_⟩
                · rw [eo] at rec; cases rec
                · rw [eo] at rec
                  obtain ⟨k1, k2⟩ := sx_an_iff.mp rec
                  obtain ⟨k1, k3⟩ := sx_an_iff.mp k1
                  obtain ⟨k2, k4⟩ := sx_an_iff.mp k2
                  have e := tw_0 s2 w1 w3 k4
                  refine ⟨sx_cl1 ρ3 [(0, 2, 0, 14), (1, 0, 10, 0), (2, 0, 9, 1)], tk_lk_ok (tp_nd rfl) k2, ?_⟩
                  have el3 : sx_cl1 ρ3 [(0, 2, 0, 14), (1, 0, 10, 0), (2, 0, 9, 1)] = tt_v n (i + 1) := by
                    show [(0, Value.ref 14), (1, sx_cv1 ρ3 (0, 10, 0)), (2, sx_cv1 ρ3 (0, 9, 1))] = _
                    rw [gv_cv, sx_cvk0 (v := (0, 9, 1)) rfl, tk_v w1 (show 9 < 11 by decide) q9, w1 10 (show 10 < 11 by decide), q10]
                    rfl
                  rw [el3, sx_nbeq.mp k1, tk_sk_ok k3]
                  exact next M3 (by omega) (tk_same hC2 w3.2.2.2.2.2.1 e) (tk_G_on hG2 (by rw [e 14 (by decide)]; exact Int.le_refl _) (by rw [e 14 (by decide)]) (by rw [e 14 (by decide)]) (fun j _ => by rw [e 17 (by decide)])) (by rw [e 14 (by decide)]; exact h62) (fun a j ha h16 h17 h18 h14 => by rw [e a ha]; exact F2 a j ha h16 h17 h18 h14)
              · refine tk_use (lv := tt_l) (s := [(0, 0, 0)]) tc_t3 s2 okl2 (fun v hv => by
                  rw [List.mem_singleton.mp hv]
                  exact ⟨by show 0 < 11; decide, fun _ => by rw [sx_v0 s2]; exact sx_w0, fun h => by cases h⟩) (Nat.le_refl _) el2 (by
                  show [sx_cv1 ρ2 (0, 0, 0)] = _
                  rw [tk_cv s2.2.1]
                  rfl) (fun o3 ρ3 M3 rec w1 w3 => ?_)
                unfold tr_t3 at rec
                refine ⟨fun v eo => ?_, fun eo => ?_⟩
                · rw [eo] at rec
                  cases v with
                  | none => cases rec
                  | some v =>
                    obtain ⟨k1, k2⟩ := sx_an_iff.mp (show sx_an (tk_ve v (0, 9, 0)) (tw [] [] [] tt_t o3.2.2.2.2) = true from rec)
                    have e := tw_0 s2 w1 w3 k2
                    refine ⟨i, ?_, by omega, hi.2, w3.2.2.2.2.2.1, fun a j ha h16 h17 h18 h14 => by rw [e a ha]; exact F2 a j ha h16 h17 h18 h14, by rw [e 14 (by decide)]; exact h62⟩
                    show some (sx_cv1 ρ3 v) = _
                    rw [tk_ve_ok k1, gv_cv, w1 9 (show 9 < 11 by decide), q9]
                · rw [eo] at rec; cases rec
      | false =>
        rw [h28] at rec
        obtain ⟨k1, k2⟩ := sx_an_iff.mp (show sx_an (sx_an (Nat.beq o.2.1 59) (tk_sk ts_0 o.2.2.2.1)) (sx_an (tk_lk tl_0 o.2.2.1) (tw [] [] [] tt_t o.2.2.2.2)) = true from rec)
        obtain ⟨k1, k3⟩ := sx_an_iff.mp k1
        obtain ⟨k2, k4⟩ := sx_an_iff.mp k2
        obtain ⟨gC, gG, g6, gF⟩ := same k4
        refine ⟨sx_cl1 ρ' tl_0, tk_lk_ok (tp_nd rfl) k2, ?_⟩
        rw [sx_nbeq.mp k1, tk_sk_ok k3]
        refine tk_go0 (d := 6) (d' := 11) tt_f59 rfl (Nat.le_of_ble_eq_true rfl) (by decide) (tk_endLine hL gC (tk_CP gC gG (by omega))) (fun r M2 hR => ?_)
        obtain ⟨rfl, hf2, hC2, -⟩ := hR
        exact tt_end hL hC2 (by omega) (tt_tr gF (tt_up hf2)) (by rw [tk_at hf2 (a := 14) (i := 6) (by decide) (by decide) (by decide) (fun _ => by decide)]; exact g6)
  intro m
  induction m with
  | zero =>
    intro i M hm h0 hin hC hG h6 hF
    exact step i M h0 hin hC hG h6 hF (fun M' h => by omega)
  | succ m ih =>
    intro i M hm h0 hin hC hG h6 hF
    exact step i M h0 hin hC hG h6 hF (fun M' h hC' hG' h6' hF' => ih (i + 1) M' (by omega) (by omega) (by omega) hC' hG' h6' hF')
theorem tt_take (hL : L < 2 ^ 31) (hm : sx_mok cl_ly M0) : rz_fin (tt_Q M0) L xs 33 12 0 [(0, .ref 14)] [] M0 := by
  have s := mt_tr_sat (MM := M0) (M := M0) (mod := []) (xs := xs) hL (fun a ha => by cases ha) hm (fun a _ _ => rfl)
  refine tk_use (lv := tl_0) (s := []) tc_t0 s (tl_okl0 (sx_ck2 s _)) (fun v hv => by cases hv) (Nat.le_refl _) rfl rfl (fun o ρ' M' rec y1 y3 => ?_)
  unfold tr_t0 at rec
  refine ⟨fun v eo => ?_, fun eo => ?_⟩
  · rw [eo] at rec; cases rec
  · rw [eo] at rec
    obtain ⟨k1, k2⟩ := sx_an_iff.mp rec
    obtain ⟨k1, k3⟩ := sx_an_iff.mp k1
    obtain ⟨k2, k4⟩ := sx_an_iff.mp k2
    cases el : sx_lv o.2.2.1 1 with
    | none => rw [el] at k2; cases k2
    | some v =>
      rw [el] at k2
      obtain ⟨k2, k7⟩ := sx_an_iff.mp (show sx_an (sx_an (Nat.beq v.1 0) (jin o.2.2.2.2 v.2 0 120)) (tk_lk [(0, 2, 0, 14), (1, v), (2, 0, 0, 0)] o.2.2.1) = true from k2)
      obtain ⟨k2, k8⟩ := sx_an_iff.mp k2
      have k8 := jin_ok y3 k8
      obtain ⟨vv, n, m⟩ := tw_ok s y1 y3 k4
      have c0 : ∀ c : Int, sx_val ρ' (0, c) = c := fun c => sx_v0 y3 c
      have v6 : M' 14 6 = 0 := (vv (6, (0, 0)) (by simp)).trans (c0 0)
      have v8 : M' 14 8 = 0 := (vv (8, (0, 0)) (by simp)).trans (c0 0)
      have v9 : M' 14 9 = 0 := (vv (9, (0, 0)) (by simp)).trans (c0 0)
      have v11 : M' 14 11 = 0 := (vv (11, (0, 0)) (by simp)).trans (c0 0)
      have v12 : M' 14 12 = 0 := (vv (12, (0, 0)) (by simp)).trans (c0 0)
      have v14 : M' 14 14 = -1 := (vv (14, (0, -1)) (by simp)).trans (c0 (-1))
      refine ⟨sx_cl1 ρ' [(0, 2, 0, 14), (1, v), (2, 0, 0, 0)], tk_lk_ok (tp_nd rfl) k7, ?_⟩
      have ela : sx_cl1 ρ' [(0, 2, 0, 14), (1, v), (2, 0, 0, 0)] = tt_v (sx_val ρ' v.2) 0 := by
        show [(0, Value.ref 14), (1, sx_cv1 ρ' v), (2, sx_cv1 ρ' (0, 0, 0))] = _
        rw [sx_cvk0 (sx_nbeq.mp k2), tk_cv y3.2.1]
        rfl
      rw [ela, sx_nbeq.mp k1, tk_sk_ok k3]
      refine tt_loop hL k8 _ 0 M' rfl (Int.le_refl _) k8.1 ⟨y3.2.2.2.2.2.1, by omega, by omega, by omega, by omega, by omega, by omega, by omega, by omega⟩ (Or.inl v12) v6 (fun a j ha h16 h17 h18 h14 => ?_)
      by_cases h : a = 14
      · have h9 := h14 h
        subst h
        exact n j (fun h => by
          simp only [List.mem_cons, List.not_mem_nil, or_false] at h
          omega) (fun q hq e => by
          simp only [List.mem_cons, List.not_mem_nil, or_false] at hq
          rcases hq with rfl | rfl | rfl | rfl | rfl | rfl <;> (dsimp only at e; omega))
      · rw [m a ha (fun h => by cases h) h]
theorem tt_ok (hL : L < 2 ^ 31) {II : (Nat → Nat → Int) → Prop} : cc II L xs 33 k_takeTape := by
  intro d as M hd has hg hm _
  match as, has with
  | [a], has =>
    have ea : a = .ref 14 := by
      rcases has.1 with ⟨k0, -⟩ | ⟨k0, -⟩ | ⟨-, e⟩
      · cases k0
      · cases k0
      · exact e
    subst ea
    obtain ⟨F, r, M', e, z, rfl, z1, z2, q1, q2, q3⟩ := tt_take (xs := xs) hL hm
    have hd : 12 ≤ d := hd
    refine ⟨F, _, M', mt_d e hd, q1, fun a i ha hmod hp => q2 a i ha (fun h => hmod (by rw [h]; simp [k_takeTape])) (fun h => hmod (by rw [h]; simp [k_takeTape])) (fun h => hmod (by rw [h]; simp [k_takeTape])) (fun h h9 => ?_), fun g hg => ?_, Or.inl ⟨rfl, z, rfl, ⟨z1, z2⟩, by rw [sx_r32_iff]; omega⟩⟩
    · have : i = 6 ∨ i = 7 ∨ i = 8 ∨ i = 9 ∨ i = 10 ∨ i = 11 ∨ i = 12 ∨ i = 13 ∨ i = 14 ∨ i = 15 := by omega
      have key : ∀ g ∈ k_takeTape.2.2.1, g.2.1 = i → False := fun g hg e => hp g hg (by
        simp only [k_takeTape, List.mem_cons, List.not_mem_nil, or_false] at hg
        rw [h]
        rcases hg with rfl | rfl | rfl | rfl | rfl | rfl | rfl | rfl | rfl | rfl <;> rfl) e
      have mem : ∃ g ∈ k_takeTape.2.2.1, g.2.1 = i := by
        rcases this with rfl | rfl | rfl | rfl | rfl | rfl | rfl | rfl | rfl | rfl <;> simp [k_takeTape]
      obtain ⟨g, hg, e⟩ := mem
      exact key g hg e
    · have key : ∀ g : ct_G, cv_ly cl_ly g = true → sx_w g.2.2 (M' g.1 g.2.1) := fun g h => cv_ly_ok q1 h
      simp only [k_takeTape, List.mem_cons, List.not_mem_nil, or_false] at hg
      rcases hg with rfl | rfl | rfl | rfl | rfl | rfl | rfl | rfl | rfl | rfl
      · show sx_w (.ofNat 0, .ofNat 0) (M' 14 6)
        rw [q3]
        exact ⟨by decide, by decide⟩
      all_goals exact key _ (by decide +kernel)
  | [], has => cases has
  | _ :: _ :: _, has => cases has.2
end
