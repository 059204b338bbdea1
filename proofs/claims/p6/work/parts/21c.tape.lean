/-! The class takes THE TAPE: signs that are closed (settle, endOperand). -/
section
variable {L : Nat} {xs : Nat → Int32} {M M' MM M0 M1 M2 : Nat → Nat → Int} {ρ ρ' : Nat → Int} {t t0 : sx_S} {Q : Option Value → (Nat → Nat → Int) → Prop}
def tk_P (M : Nat → Nat → Int) : Prop := sx_mok cl_ly M ∧ (0 ≤ M 14 8 ∧ M 14 8 + M 14 9 ≤ 240) ∧ (0 ≤ M 14 9 ∧ M 14 9 ≤ 120) ∧ (0 ≤ M 14 11 ∧ M 14 11 ≤ 120) ∧ (0 ≤ M 14 12 ∧ M 14 12 ≤ 4) ∧ (-1 ≤ M 14 14 ∧ M 14 14 ≤ 255)
/-- signs are closed: none of them is ( -/
def tp_R (M M' : Nat → Nat → Int) : Prop := sx_mok cl_ly M' ∧ ct_fr tk_c M M' ∧ 0 ≤ M' 14 9 ∧ M' 14 9 ≤ M 14 9 ∧ M' 14 8 + M' 14 9 = M 14 8 + M 14 9 ∧ (∀ i : Nat, (i : Int) < M 14 8 → M' 17 i = M 17 i) ∧ M' 18 = M 18 ∧ tk_n (M 18) (M' 14 9).toNat = tk_n (M 18) (M 14 9).toNat ∧ ∀ k, 11 ≤ k → k ≤ 14 → M' 14 k = M 14 k
theorem tp_one (hP : tk_P M) (h1 : 1 ≤ M 14 9) (hm : sx_mok cl_ly M') (hf : ct_fr tk_c M M') (v8 : M' 14 8 = M 14 8 + 1) (v9 : M' 14 9 = M 14 9 - 1) (hk : ∀ k, 11 ≤ k → k ≤ 14 → M' 14 k = M 14 k) (h18 : M' 18 = M 18) (h17 : ∀ i : Nat, (i : Int) ≠ M 14 8 → M' 17 i = M 17 i) (hne : M 18 (M 14 9 - 1).toNat ≠ 40) : tk_P M' ∧ tp_R M M' := by
  obtain ⟨p1, p2, p3, p4, p5, p6⟩ := hP
  have k11 := hk 11 (by decide) (by decide)
  have k12 := hk 12 (by decide) (by decide)
  have k14 := hk 14 (by decide) (by decide)
  refine ⟨⟨hm, by omega, by omega, by rw [k11]; exact p4, by rw [k12]; exact p5, by rw [k14]; exact p6⟩, hm, hf, by omega, by omega, by omega, fun i hi => h17 i (by omega), h18, ?_, hk⟩
  rw [v9, show (M 14 9).toNat = (M 14 9 - 1).toNat + 1 by omega, tk_n_ne hne]
theorem tp_tr (h1 : tp_R M M1) (h2 : tp_R M1 M2) : tp_R M M2 := by
  obtain ⟨a1, a2, a3, a4, a5, a6, a7, a8, a9⟩ := h1
  obtain ⟨b1, b2, b3, b4, b5, b6, b7, b8, b9⟩ := h2
  rw [a7] at b8
  exact ⟨b1, tk_tr a2 b2, b3, by omega, by omega, fun i hi => by rw [b6 i (by omega), a6 i hi], by rw [b7, a7], by rw [b8, a8], fun k h1 h2 => by rw [b9 k h1 h2, a9 k h1 h2]⟩
theorem tp_rf (hP : tk_P M) (hm : sx_mok cl_ly M') (h : ∀ a, a < 128 → M' a = M a) : tp_R M M' := by
  have e14 := h 14 (by decide)
  have e17 := h 17 (by decide)
  have e18 := h 18 (by decide)
  refine ⟨hm, fun a i ha _ _ => by rw [h a ha], ?_, ?_, ?_, fun i _ => by rw [e17], e18, ?_, fun k _ _ => by rw [e14]⟩
  all_goals rw [e14]
  · exact hP.2.2.1.1
  · exact Int.le_refl _
theorem tw_0 {ρ0 : Nat → Int} (hs0 : sx_sat cl_ly (0, -100) xs L M ρ0 M t0) (hx : sx_ext t0.1 ρ0 ρ) (hs : sx_sat cl_ly (0, -100) xs L M ρ M' t) (h : tw [] [] [] t0 t = true) : ∀ a, a < 128 → M' a = M a := by
  obtain ⟨-, n, m⟩ := tw_ok hs0 hx hs h
  intro a ha
  by_cases e : a = 14
  · subst e
    funext i
    exact n i (fun h => by cases h) (fun q hq => by cases hq)
  · exact m a ha (fun h => by cases h) e
theorem tk_v {n k : Nat} {q c : Int} (x : sx_ext n ρ ρ') (h : k < n) (y : ρ k = q) : sx_val ρ' (k, c) = q + c := by
  unfold sx_val
  rw [x k h, y]
theorem tk_v0 {n k : Nat} {q : Int} (x : sx_ext n ρ ρ') (h : k < n) (y : ρ k = q) : sx_val ρ' (k, 0) = q := by
  rw [tk_v x h y]; exact Int.add_zero _
theorem tk_ok0 {n k : Nat} (h : k < n) (w : sx_w sx_r32 (ρ k)) : sx_ok ρ n (0, k, 0) := ⟨h, fun _ => by
  show sx_w sx_r32 (ρ k + 0)
  rw [Int.add_zero]
  exact w, fun h => by cases h⟩
theorem tk_w13 (hm : sx_mok cl_ly M) : sx_w sx_r32 (M 14 13) := cv_ly_ok (g := (14, 13, sx_r32)) hm (by decide +kernel)
theorem tg_P {z : Int} {b c d e f : Int × Int} (hL : L < 2 ^ 31) (hP : tk_P M) (hz : 0 ≤ z ∧ z ≤ 255) (hb : sx_w b (M 14 9)) (hc : sx_w c (M 14 11)) (hd : sx_w d (M 14 12)) (he : sx_w e (M 14 13)) (hf : sx_w f (M 14 14)) : ∃ ρ : Nat → Int, sx_sat cl_ly (0, -100) xs L M ρ M (tg_s b c d e f) ∧ sx_w sx_r32 (ρ 9) ∧ ρ 9 = z ∧ ρ 10 = M 14 8 ∧ ρ 11 = M 14 9 ∧ ρ 12 = M 14 11 ∧ ρ 13 = M 14 12 ∧ ρ 14 = M 14 13 ∧ ρ 15 = M 14 14 := by
  obtain ⟨p1, p2, p3, p4, p5, p6⟩ := hP
  exact tg_sat hL p1 ⟨hz.1, hz.2⟩ (by rw [sx_r32_iff]; omega) ⟨p2.1, by show M 14 8 ≤ (240 : Int); omega⟩ hb hc hd he hf
theorem tk_m18 (hm : sx_mok cl_ly M) {k : Nat} (hk : k < 128) : sx_w (0, 255) (M 18 k) := hm 18 _ k _ rfl hk rfl
theorem tk_m17 (hm : sx_mok cl_ly M) {k : Nat} (hk : k < 256) : sx_w (-1100, 9999) (M 17 k) := hm 17 _ k _ rfl hk rfl
theorem tk_f45 : (sm_MT 45).2.2.2.2.2 0 = some (.aload_n 0, 1) := rfl
theorem tk_f42 : (sm_MT 42).2.2.2.2.2 5 = some (.aload_n 0, 1) := rfl
/-- aload_0 -/
theorem rz_al {j d pc : Nat} {lv : sm_V} {s : List Value} {a : Nat} (hf : (sm_MT j).2.2.2.2.2 pc = some (.aload_n 0, 1)) (hl : sm_ld lv 0 = some (.ref a)) (k : rz_fin Q L xs j d (pc + 1) lv (.ref a :: s) M) : rz_fin Q L xs j d pc lv s M :=
  rz_st hf rfl rfl rfl (pc' := pc + 1) (lv' := lv) (s' := .ref a :: s) (by
    show (match sm_ld lv 0 with
      | some (Value.ref x) => some (pc + 1, lv, Value.ref x :: s, sx_HH cl_lay cl_rf M)
      | x => none) = _
    rw [hl]) k
def tv_r (z : Int) : sm_V := [(0, .ref 14), (1, .int (Int32.ofInt z))]
theorem tp_nd {l : sx_L} (h : mt_nd (l.map fun q => q.1) = true) : lo_nd (sx_cl1 ρ l) := mt_cl_nd (mt_nd_ok h)
theorem tp_settle (hL : L < 2 ^ 31) {z : Int} (hz : 1 ≤ z ∧ z ≤ 5) : ∀ (n : Nat) (M : Nat → Nat → Int), (M 14 9).toNat = n → tk_P M → rz_fin (fun r M' => r = none ∧ tp_R M M') L xs 45 5 0 (tv_r z) [] M := by
  have z32 : sx_w sx_r32 z := by rw [sx_r32_iff]; omega
  intro n
  induction n with
  | zero =>
    intro M hn hP
    have hP0 := hP
    obtain ⟨p1, p2, p3, p4, p5, p6⟩ := hP
    refine rz_al tk_f45 rfl ?_
    obtain ⟨ρ, s, r9', r9, r10, r11, r12, r13, r14, r15⟩ := tg_P (xs := xs) (z := 0) (b := (0, 0)) (c := (0, 120)) (d := (0, 4)) (e := sx_r32) (f := (-1, 255)) hL hP0 (by decide) ⟨p3.1, by show M 14 9 ≤ (0 : Int); omega⟩ p4 p5 (tk_w13 p1) p6
    obtain ⟨ρ1, x1, s1, r16⟩ := tg_fr (r := (1, 5)) (z := z) (n := 16) s rfl hz (sx_32_64 z32)
    refine tk_use (lv := tl_r) (s := ts_0) tp_d0 s1 (fun q hq => ?_) (fun v hv => by rw [List.mem_singleton.mp hv]; exact sx_ck2 s1 _) (Nat.le_refl _) ?_ rfl (fun o ρ' M' rec y1 y3 => ?_)
    · simp only [tl_r, List.mem_cons, List.not_mem_nil, or_false] at hq
      rcases hq with rfl | rfl
      · exact sx_ck2 s1 _
      · exact tk_ok0 (show 16 < 17 by decide) (by rw [r16]; exact z32)
    · show [(0, Value.ref 14), (1, sx_cv1 ρ1 (0, 16, 0))] = _
      rw [gv_cv, r16]
      rfl
    · unfold tp_q0 at rec
      refine ⟨fun v eo => ?_, fun eo => ?_⟩
      · rw [eo] at rec
        cases v with
        | some v => cases rec
        | none => exact ⟨rfl, tp_rf hP0 y3.2.2.2.2.2.1 (tw_0 s1 y1 y3 rec)⟩
      · rw [eo] at rec; cases rec
  | succ n ih =>
    intro M hn hP
    have hP0 := hP
    obtain ⟨p1, p2, p3, p4, p5, p6⟩ := hP
    have hW : 1 ≤ M 14 9 := by omega
    refine rz_al tk_f45 rfl ?_
    obtain ⟨ρ, s, r9', r9, r10, r11, r12, r13, r14, r15⟩ := tg_P (xs := xs) (z := 0) (b := (1, 120)) (c := (0, 120)) (d := (0, 4)) (e := sx_r32) (f := (-1, 255)) hL hP0 (by decide) ⟨hW, p3.2⟩ p4 p5 (tk_w13 p1) p6
    obtain ⟨ρ1, x1, s1, r16⟩ := tg_fr (r := (1, 5)) (z := z) (n := 16) s rfl hz (sx_32_64 z32)
    have v11 : sx_val ρ1 (11, -1) = M 14 9 - 1 := tk_v x1 (by decide) r11
    have w18 := tk_m18 p1 (k := (M 14 9 - 1).toNat) (by omega)
    obtain ⟨ρ2, x2, s2, r17⟩ := tg_rd (k := 18) (i := (11, -1)) (r := (0, 255)) (n := 17) s1 rfl (by decide) (by decide) (by rw [v11]; omega) (by rw [v11]; exact w18) (by rw [v11]; exact ⟨Int.le_trans (by decide) w18.1, Int.le_trans w18.2 (by decide)⟩)
    rw [v11] at r17
    have q10 : ρ2 10 = M 14 8 := by rw [x2 10 (by decide), x1 10 (by decide)]; exact r10
    have q11 : ρ2 11 = M 14 9 := by rw [x2 11 (by decide), x1 11 (by decide)]; exact r11
    have q16 : ρ2 16 = z := by rw [x2 16 (by decide)]; exact r16
    refine tk_use (lv := tl_r) (s := ts_0) tp_d1 s2 (fun q hq => ?_) (fun v hv => by rw [List.mem_singleton.mp hv]; exact sx_ck2 s2 _) (Nat.le_refl _) ?_ rfl (fun o ρ' M' rec y1 y3 => ?_)
    · simp only [tl_r, List.mem_cons, List.not_mem_nil, or_false] at hq
      rcases hq with rfl | rfl
      · exact sx_ck2 s2 _
      · exact tk_ok0 (show 16 < 18 by decide) (by rw [q16]; exact z32)
    · show [(0, Value.ref 14), (1, sx_cv1 ρ2 (0, 16, 0))] = _
      rw [gv_cv, q16]
      rfl
    · unfold tp_q1 at rec
      refine ⟨fun v eo => ?_, fun eo => ?_⟩
      · rw [eo] at rec
        cases v with
        | some v => cases rec
        | none => exact ⟨rfl, tp_rf hP0 y3.2.2.2.2.2.1 (tw_0 s2 y1 y3 rec)⟩
      · rw [eo] at rec
        obtain ⟨k1, k2⟩ := sx_an_iff.mp rec
        obtain ⟨k1, k3⟩ := sx_an_iff.mp k1
        obtain ⟨k2, k4⟩ := sx_an_iff.mp k2
        obtain ⟨k2, k5⟩ := sx_an_iff.mp k2
        obtain ⟨k4, k6⟩ := sx_an_iff.mp k4
        obtain ⟨v, nn, m⟩ := tw_ok s2 y1 y3 k4
        have e17 : sx_val ρ' (17, 0) = M 18 (M 14 9 - 1).toNat := tk_v0 y1 (show 17 < 18 by decide) r17
        have hne : M 18 (M 14 9 - 1).toNat ≠ 40 := by
          unfold tp_ne7 at k5
          rcases jor k5 with h | h
          · have := jin_ok y3 h
            omega
          · have := jin_ok y3 h
            omega
        have v10 : sx_val ρ' (10, 0) = M 14 8 := tk_v0 y1 (show 10 < 18 by decide) q10
        obtain ⟨-, u⟩ := tw_w_ok (by decide) y3 k6 (by rw [v10]; exact p2.1)
        rw [v10] at u
        have v8 : M' 14 8 = M 14 8 + 1 := (v (8, (10, 1)) (by simp)).trans (tk_v y1 (show 10 < 18 by decide) q10)
        have v9 : M' 14 9 = M 14 9 - 1 := (v (9, (11, -1)) (by simp)).trans (tk_v y1 (show 11 < 18 by decide) q11)
        obtain ⟨hP', hR⟩ := tp_one hP0 hW y3.2.2.2.2.2.1 (tw_fr (ms := [17]) (fs := []) (ps := [(8, (10, 1)), (9, (11, -1))]) (by decide +kernel) nn m) v8 v9 (fun k h1 h2 => nn k (fun h => by cases h) (fun q hq => by
          simp only [List.mem_cons, List.not_mem_nil, or_false] at hq
          rcases hq with rfl | rfl
          · show 8 ≠ k; omega
          · show 9 ≠ k; omega)) (m 18 (by decide) (by decide) (by decide)) u hne
        have hq16 : ρ' 16 = z := by rw [y1 16 (show 16 < 18 by decide)]; exact q16
        have el : sx_cl1 ρ' tl_r = tv_r z := by
          show [(0, Value.ref 14), (1, sx_cv1 ρ' (0, 16, 0))] = _
          rw [gv_cv, hq16]
          rfl
        refine ⟨sx_cl1 ρ' tl_r, tk_lk_ok (tp_nd rfl) k2, ?_⟩
        rw [el, sx_nbeq.mp k1, tk_sk_ok k3]
        obtain ⟨F, r, M2, e1, rfl, e2⟩ := ih M' (by omega) hP'
        exact ⟨F, none, M2, e1, rfl, tp_tr hR e2⟩
theorem tp_endl (hL : L < 2 ^ 31) : ∀ (n : Nat) (M : Nat → Nat → Int), (M 14 9).toNat = n → tk_P M → rz_fin (fun r M' => r = none ∧ tp_R M M') L xs 42 5 5 [(0, .ref 14)] [] M := by
  intro n
  induction n with
  | zero =>
    intro M hn hP
    have hP0 := hP
    obtain ⟨p1, p2, p3, p4, p5, p6⟩ := hP
    refine rz_al tk_f42 rfl ?_
    obtain ⟨ρ, s, r9', r9, r10, r11, r12, r13, r14, r15⟩ := tg_P (xs := xs) (z := 0) (b := (0, 0)) (c := (0, 120)) (d := (0, 4)) (e := sx_r32) (f := (-1, 255)) hL hP0 (by decide) ⟨p3.1, by show M 14 9 ≤ (0 : Int); omega⟩ p4 p5 (tk_w13 p1) p6
    refine tk_use (lv := tl_0) (s := ts_0) te_c0 s (fun q hq => by rw [List.mem_singleton.mp hq]; exact sx_ck2 s _) (fun v hv => by rw [List.mem_singleton.mp hv]; exact sx_ck2 s _) (Nat.le_refl _) rfl rfl (fun o ρ' M' rec y1 y3 => ?_)
    unfold tp_r0 at rec
    refine ⟨fun v eo => ?_, fun eo => ?_⟩
    · rw [eo] at rec
      cases v with
      | some v => cases rec
      | none => exact ⟨rfl, tp_rf hP0 y3.2.2.2.2.2.1 (tw_0 s y1 y3 rec)⟩
    · rw [eo] at rec; cases rec
  | succ n ih =>
    intro M hn hP
    have hP0 := hP
    obtain ⟨p1, p2, p3, p4, p5, p6⟩ := hP
    have hW : 1 ≤ M 14 9 := by omega
    refine rz_al tk_f42 rfl ?_
    obtain ⟨ρ, s, r9', r9, r10, r11, r12, r13, r14, r15⟩ := tg_P (xs := xs) (z := 0) (b := (1, 120)) (c := (0, 120)) (d := (0, 4)) (e := sx_r32) (f := (-1, 255)) hL hP0 (by decide) ⟨hW, p3.2⟩ p4 p5 (tk_w13 p1) p6
    have v11 : sx_val ρ (11, -1) = M 14 9 - 1 := tk_v (n := 16) sx_ext_rfl (by decide) r11
    have w18 := tk_m18 p1 (k := (M 14 9 - 1).toNat) (by omega)
    obtain ⟨ρ2, x2, s2, r16⟩ := tg_rd (k := 18) (i := (11, -1)) (r := (0, 255)) (n := 16) s rfl (by decide) (by decide) (by rw [v11]; omega) (by rw [v11]; exact w18) (by rw [v11]; exact ⟨Int.le_trans (by decide) w18.1, Int.le_trans w18.2 (by decide)⟩)
    rw [v11] at r16
    have q10 : ρ2 10 = M 14 8 := by rw [x2 10 (by decide)]; exact r10
    have q11 : ρ2 11 = M 14 9 := by rw [x2 11 (by decide)]; exact r11
    refine tk_use (lv := tl_0) (s := ts_0) te_c1 s2 (fun q hq => by rw [List.mem_singleton.mp hq]; exact sx_ck2 s2 _) (fun v hv => by rw [List.mem_singleton.mp hv]; exact sx_ck2 s2 _) (Nat.le_refl _) rfl rfl (fun o ρ' M' rec y1 y3 => ?_)
    unfold tp_r1 at rec
    refine ⟨fun v eo => ?_, fun eo => ?_⟩
    · rw [eo] at rec
      cases v with
      | some v => cases rec
      | none => exact ⟨rfl, tp_rf hP0 y3.2.2.2.2.2.1 (tw_0 s2 y1 y3 rec)⟩
    · rw [eo] at rec
      obtain ⟨k1, k2⟩ := sx_an_iff.mp rec
      obtain ⟨k1, k3⟩ := sx_an_iff.mp k1
      obtain ⟨k2, k4⟩ := sx_an_iff.mp k2
      obtain ⟨k2, k5⟩ := sx_an_iff.mp k2
      obtain ⟨k4, k6⟩ := sx_an_iff.mp k4
      obtain ⟨v, nn, m⟩ := tw_ok s2 y1 y3 k4
      have e16 : sx_val ρ' (16, 0) = M 18 (M 14 9 - 1).toNat := tk_v0 y1 (show 16 < 17 by decide) r16
      have hne : M 18 (M 14 9 - 1).toNat ≠ 40 := by
        unfold tp_ne at k5
        rcases jor k5 with h | h
        · have := jin_ok y3 h
          omega
        · have := jin_ok y3 h
          omega
      have v10 : sx_val ρ' (10, 0) = M 14 8 := tk_v0 y1 (show 10 < 17 by decide) q10
      obtain ⟨-, u⟩ := tw_w_ok (by decide) y3 k6 (by rw [v10]; exact p2.1)
      rw [v10] at u
      have v8 : M' 14 8 = M 14 8 + 1 := (v (8, (10, 1)) (by simp)).trans (tk_v y1 (show 10 < 17 by decide) q10)
      have v9 : M' 14 9 = M 14 9 - 1 := (v (9, (11, -1)) (by simp)).trans (tk_v y1 (show 11 < 17 by decide) q11)
      obtain ⟨hP', hR⟩ := tp_one hP0 hW y3.2.2.2.2.2.1 (tw_fr (ms := [17]) (fs := [10]) (ps := [(8, (10, 1)), (9, (11, -1))]) (by decide +kernel) nn m) v8 v9 (fun k h1 h2 => nn k (fun h => by rw [List.mem_singleton.mp h] at h1; omega) (fun q hq => by
        simp only [List.mem_cons, List.not_mem_nil, or_false] at hq
        rcases hq with rfl | rfl
        · show 8 ≠ k; omega
        · show 9 ≠ k; omega)) (m 18 (by decide) (by decide) (by decide)) u hne
      refine ⟨sx_cl1 ρ' tl_0, tk_lk_ok (tp_nd rfl) k2, ?_⟩
      rw [sx_nbeq.mp k1, tk_sk_ok k3]
      obtain ⟨F, r, M2, e1, rfl, e2⟩ := ih M' (by omega) hP'
      exact ⟨F, none, M2, e1, rfl, tp_tr hR e2⟩
theorem tk_w12 (hP : tk_P M) : sx_w (0, 120) (M 14 9) ∧ sx_w (0, 120) (M 14 11) ∧ sx_w (0, 4) (M 14 12) ∧ sx_w sx_r32 (M 14 13) ∧ sx_w (-1, 255) (M 14 14) := ⟨hP.2.2.1, hP.2.2.2.1, hP.2.2.2.2.1, tk_w13 hP.1, hP.2.2.2.2.2⟩
/-- a walk from where any sign may come -/
theorem tg_A {z : Int} (hL : L < 2 ^ 31) (hP : tk_P M) (hz : 0 ≤ z ∧ z ≤ 255) : ∃ ρ : Nat → Int, sx_sat cl_ly (0, -100) xs L M ρ M tg_a ∧ sx_w sx_r32 (ρ 9) ∧ ρ 9 = z ∧ ρ 10 = M 14 8 ∧ ρ 11 = M 14 9 ∧ ρ 12 = M 14 11 ∧ ρ 13 = M 14 12 ∧ ρ 14 = M 14 13 ∧ ρ 15 = M 14 14 := by
  obtain ⟨w1, w2, w3, w4, w5⟩ := tk_w12 hP
  exact tg_P hL hP hz w1 w2 w3 w4 w5
theorem tp_end (hL : L < 2 ^ 31) (hP : tk_P M) : rz_fin (fun r M' => r = none ∧ tp_R M M') L xs 42 5 0 [(0, .ref 14)] [] M := by
  have hP0 := hP
  obtain ⟨p1, p2, p3, p4, p5, p6⟩ := hP
  obtain ⟨ρ, s, r9', r9, r10, r11, r12, r13, r14, r15⟩ := tg_A (xs := xs) (z := 0) hL hP0 (by decide)
  refine tk_use (lv := tl_0) (s := []) te_c s (fun q hq => by rw [List.mem_singleton.mp hq]; exact sx_ck2 s _) (fun v hv => by cases hv) (Nat.le_refl _) rfl rfl (fun o ρ' M' rec y1 y3 => ?_)
  unfold te_r at rec
  refine ⟨fun v eo => ?_, fun eo => ?_⟩
  · rw [eo] at rec; cases rec
  · rw [eo] at rec
    obtain ⟨k1, k2⟩ := sx_an_iff.mp rec
    obtain ⟨k1, k3⟩ := sx_an_iff.mp k1
    obtain ⟨k2, k4⟩ := sx_an_iff.mp k2
    obtain ⟨v, nn, m⟩ := tw_ok s y1 y3 k4
    have e : ∀ i, i ≠ 15 → M' 14 i = M 14 i := fun i hi => nn i (fun h => hi (List.mem_singleton.mp h)) (fun q hq => by cases hq)
    have e17 := m 17 (by decide) (fun h => by cases h) (by decide)
    have e18 := m 18 (by decide) (fun h => by cases h) (by decide)
    have hP' : tk_P M' := by
      refine ⟨y3.2.2.2.2.2.1, ?_, ?_, ?_, ?_, ?_⟩
      · rw [e 8 (by decide), e 9 (by decide)]; exact p2
      · rw [e 9 (by decide)]; exact p3
      · rw [e 11 (by decide)]; exact p4
      · rw [e 12 (by decide)]; exact p5
      · rw [e 14 (by decide)]; exact p6
    refine ⟨sx_cl1 ρ' tl_0, tk_lk_ok (tp_nd rfl) k2, ?_⟩
    rw [sx_nbeq.mp k1, tk_sk_ok k3]
    obtain ⟨F, r, M2, e1, rfl, e2⟩ := tp_endl (xs := xs) hL _ M' rfl hP'
    refine ⟨F, none, M2, e1, rfl, tp_tr ⟨y3.2.2.2.2.2.1, tw_fr (ms := []) (fs := [15]) (ps := []) (by decide +kernel) nn m, ?_, ?_, ?_, fun i _ => by rw [e17], e18, ?_, fun k h1 h2 => e k (by omega)⟩ e2⟩
    · rw [e 9 (by decide)]; exact p3.1
    · rw [e 9 (by decide)]; exact Int.le_refl _
    · rw [e 8 (by decide), e 9 (by decide)]
    · rw [e 9 (by decide)]
end
