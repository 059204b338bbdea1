/-! The reference's parser: a line, put together. -/
section
variable {L : Nat} {xs : Nat → Int32} {M MM M0 M1 M2 M3 : Nat → Nat → Int} {ρ : Nat → Int} {Q : Option Value → (Nat → Nat → Int) → Prop}
def rz_fin (Q : Option Value → (Nat → Nat → Int) → Prop) (L : Nat) (xs : Nat → Int32) (j d pc : Nat) (lv : sm_V) (s : List Value) (M : Nat → Nat → Int) : Prop := ∃ F r M', sm_run sm_MT sm_LK (sm_RO L xs) sm_NV sm_cq F d j pc lv s (sx_HH cl_lay cl_rf M) = some (r, sx_HH cl_lay cl_rf M') ∧ Q r M'
theorem rz_le {j d pc : Nat} {a b : sm_V} {s : List Value} (hle : lo_le a b) (k : rz_fin Q L xs j d pc a s M) : rz_fin Q L xs j d pc b s M := by
  obtain ⟨F, r, M', e, e1⟩ := k
  exact ⟨F, r, M', lo_run _ _ _ _ _ _ _ _ _ hle e, e1⟩
/-- a part without an answer is called -/
theorem rz_call {j k d pc ix : Nat} {lv : sm_V} {R : (Nat → Nat → Int) → Prop} (hf : (sm_MT j).2.2.2.2.2 pc = some (.invokevirtual ix, 3)) (hc : sx_call cl_ly (sm_LK (sm_MT j).1) (fun k => (sm_MT k).2.2.2.1) (.invokevirtual ix) [(2, 0, 53)] = some (k, [(2, 0, 53)], [])) (hk1 : 1 ≤ (sm_MT k).2.1) (hS : ∃ F M', sm_run sm_MT sm_LK (sm_RO L xs) sm_NV sm_cq F d k 0 [(0, .ref 53)] [] (sx_HH cl_lay cl_rf M) = some (none, sx_HH cl_lay cl_rf M') ∧ R M') (next : ∀ M', R M' → rz_fin Q L xs j (d + 1) (pc + 3) lv [] M') : rz_fin Q L xs j (d + 1) pc lv [.ref 53] M := by
  obtain ⟨F1, M1, f1, f2⟩ := hS
  obtain ⟨F2, r, M2, g1, g2⟩ := next M1 f2
  have hok : sx_oks (fun _ => 0) 1 [(2, 0, 53)] := fun v hv => by
    rw [List.mem_singleton.mp hv]
    exact ⟨Nat.lt_succ_self _, (fun h => by cases h), fun h => by cases h⟩
  have c1 := (sx_call_ok (ρ := fun _ => 0) (M := M) (lay := cl_lay) (rf := cl_rf) cl_lok hok hc).1
  obtain ⟨F, hF⟩ := gs_call (xs := xs) (L := L) (j := j) (d := d) (pc := pc) (len := 3) (k := k) (ins := .invokevirtual ix) (lv := lv) (s := [.ref 53]) (as := [.ref 53]) (rest := []) (ro := none) hf rfl rfl c1 ⟨Nat.zero_le _, hk1⟩ f1 g1
  exact ⟨F, r, M2, hF, g2⟩
theorem rz_cont {j d : Nat} {o : sx_P} {ρ' : Nat → Int} {M' : Nat → Nat → Int} {pc pc' : Nat} {lv lv' : sm_V} {s s' : List Value} {P : Prop} (eo : o.1 = none) (hpc : o.2.1 = pc') (hle : lo_le lv' (sx_cl1 ρ' o.2.2.1)) (hs : sx_cs1 ρ' o.2.2.2.1 = s') (x4 : (∃ r, o.1 = some r ∧ sx_rok ρ' o.2.2.2.2.1 r ∧ ∃ F, sm_run sm_MT sm_LK (sm_RO L xs) sm_NV sm_cq F d j pc lv s (sx_HH cl_lay cl_rf M) = some (r.map (sx_cv1 ρ'), sx_HH cl_lay cl_rf M')) ∨ (o.1 = none ∧ P ∧ sx_okl ρ' o.2.2.2.2.1 o.2.2.1 ∧ sx_oks ρ' o.2.2.2.2.1 o.2.2.2.1 ∧ ∀ F r h', sm_run sm_MT sm_LK (sm_RO L xs) sm_NV sm_cq F d j o.2.1 (sx_cl1 ρ' o.2.2.1) (sx_cs1 ρ' o.2.2.2.1) (sx_HH cl_lay cl_rf M') = some (r, h') → ∃ F', sm_run sm_MT sm_LK (sm_RO L xs) sm_NV sm_cq F' d j pc lv s (sx_HH cl_lay cl_rf M) = some (r, h'))) (k : rz_fin Q L xs j d pc' lv' s' M') : rz_fin Q L xs j d pc lv s M := by
  rcases x4 with ⟨r, w1, -⟩ | ⟨-, -, -, -, w5⟩
  · rw [w1] at eo; cases eo
  · obtain ⟨F, r, M2, e, e1⟩ := rz_le hle k
    rw [← hpc, ← hs] at e
    obtain ⟨F', e'⟩ := w5 F _ _ e
    exact ⟨F', r, M2, e', e1⟩
/-- all that is left, for the parser's two parts at the top -/
theorem pe_top (hL : L < 2 ^ 31) : ps_S L xs 176 45 0 := (pe_all hL 6 (by decide)).2
theorem lz_f22 : (sm_MT 175).2.2.2.2.2 22 = some (.invokevirtual 231, 3) := rfl
theorem lz_f63 : (sm_MT 175).2.2.2.2.2 63 = some (.invokevirtual 231, 3) := rfl
theorem lz_okl {r : Int × Int} {lv : sx_L} (hs : sx_sat cl_ly (0, -100) xs L MM ρ M (lz_t r)) (h9 : sx_w sx_r32 (ρ 9)) (hlv : lv = [(0, 2, 0, 53)] ∨ lv = [(0, 2, 0, 53), (1, 0, 9, 0)]) : sx_okl ρ (lz_t r).1 lv := by
  have c9 : sx_ok ρ (lz_t r).1 (0, 9, 0) := ⟨show 9 < 16 by decide, fun _ => by show sx_w sx_r32 (ρ 9 + 0); rw [Int.add_zero]; exact h9, fun h => by cases h⟩
  intro q hq
  rcases hlv with rfl | rfl
  · rw [List.mem_singleton.mp hq]
    exact sx_ck2 hs _
  · simp only [List.mem_cons, List.not_mem_nil, or_false] at hq
    rcases hq with rfl | rfl
    · exact sx_ck2 hs _
    · exact c9
/-- the line's end -/
theorem lz_re_ok {ρ0 : Nat → Int} {M' : Nat → Nat → Int} {t : sx_S} (s : sx_sat cl_ly (0, -100) xs L M ρ0 M (lz_t (61, 121))) (x1 : sx_ext (lz_t (61, 121)).1 ρ0 ρ) (x3 : sx_sat cl_ly (0, -100) xs L M ρ M' t) (h9 : ρ0 9 = 61 + M 69 1) (h14 : ρ0 14 = M 53 25) (h15 : ρ0 15 = M 69 1) (hn : 0 ≤ M 69 1) (h : sx_an (lw [69, 71] [] (lz_t (61, 121)) t) (sx_an (lw_one t 71 (9, 0) (14, 0)) (lw_one t 69 (0, 1) (15, 1))) = true) : lz_e M M' := by
  obtain ⟨k1, k2⟩ := sx_an_iff.mp h
  obtain ⟨k2, k3⟩ := sx_an_iff.mp k2
  obtain ⟨f, -, n, m⟩ := lw_ok s x1 x3 k1
  have v9 : sx_val ρ (9, 0) = 61 + M 69 1 := by
    unfold sx_val
    rw [x1 9 (show 9 < 16 by decide), h9]
    exact Int.add_zero _
  have v14 : sx_val ρ (14, 0) = M 53 25 := by
    unfold sx_val
    rw [x1 14 (show 14 < 16 by decide), h14]
    exact Int.add_zero _
  have v15 : sx_val ρ (15, 1) = M 69 1 + 1 := by
    unfold sx_val
    rw [x1 15 (show 15 < 16 by decide), h15]
  have v1 : sx_val ρ (0, 1) = 1 := sx_v0 x3 1
  obtain ⟨u1, u2⟩ := lw_one_ok (by decide) x3 k2 (by rw [v9]; omega)
  obtain ⟨u3, u4⟩ := lw_one_ok (by decide) x3 k3 (by rw [v1]; decide)
  rw [v9, v14] at u1
  rw [v9] at u2
  rw [v1, v15] at u3
  rw [v1] at u4
  exact ⟨x3.2.2.2.2.2.1, f, n 22 (by simp), n 23 (by simp), n 24 (by simp), n 25 (by simp), m 67 (by decide) (by decide) (by decide), m 68 (by decide) (by decide) (by decide), m 70 (by decide) (by decide) (by decide), u3, fun i hi => u4 i (by omega), u1, u2⟩
theorem ps_PR (hP : ps_P M0) (h : ps_R M0 M1) (hf : M1 53 23 = -1) : ps_P M1 ∧ M1 53 24 = M0 53 24 := by
  obtain ⟨p1, p2, p3, p4, p5, p6, p7, p8⟩ := hP
  obtain ⟨a1, a2, a3, a4, a5, a6, a7⟩ := h
  have t := ps_T a2
  rcases a7 with ⟨k1, k2, k3, k4⟩ | ⟨k1, -⟩
  · exact ⟨⟨a1, hf, by omega, by omega, by omega, by omega, by omega, by omega⟩, k2⟩
  · omega
theorem lz_line (hL : L < 2 ^ 31) (hP : ps_P M) (ho : M 53 24 = 0) (hn : 0 ≤ M 69 1 ∧ M 69 1 ≤ 60) : rz_fin (fun r M' => r = none ∧ lz_R M M') L xs 175 46 0 [(0, .ref 53)] [] M := by
  have hok : pz_ok M := by
    obtain ⟨p1, p2, p3, p4, p5, p6, p7, p8⟩ := hP
    have := pz_T p1
    exact ⟨p1, p3, p4, by omega, by omega, p7, p8, p5, by omega⟩
  obtain ⟨ρ, s, r9, r10, r11, r12, r13, r14, r15⟩ := lz_sat (xs := xs) (z := 0) (r := (0, 0)) hL hok hn ⟨by decide, by decide⟩ sx_w0
  obtain ⟨o, ρ', M1, rec, x1, x2, x3, x4⟩ := gs_use lz_c1 s (lz_okl s (by rw [r9]; exact sx_w0) (Or.inl rfl)) (fun v hv => by cases hv)
  have el0 : sx_cl1 ρ [(0, 2, 0, 53)] = [(0, .ref 53)] := rfl
  rw [el0] at x4
  unfold lz_r1 at rec
  cases eo : o.1 with
  | some r => rw [eo] at rec; cases rec
  | none =>
    rw [eo] at rec
    have ok' : sx_okl ρ' o.2.2.2.2.1 o.2.2.1 := by
      rcases x4 with ⟨r, w1, -⟩ | ⟨-, -, w3, -⟩
      · rw [w1] at eo; cases eo
      · exact w3
    obtain ⟨k1, k2⟩ := sx_an_iff.mp rec
    obtain ⟨k1, k3⟩ := sx_an_iff.mp k1
    obtain ⟨k2, k4⟩ := sx_an_iff.mp k2
    obtain ⟨k4, k5⟩ := sx_an_iff.mp k4
    obtain ⟨f, -, n, m⟩ := lw_ok s x1 x3 k4
    have v15 : sx_val ρ' (15, 61) = 61 + M 69 1 := by
      unfold sx_val
      rw [x1 15 (show 15 < 16 by decide), r15]
      show M 69 1 + 61 = _
      omega
    have v14 : sx_val ρ' (14, 0) = M 53 25 := by
      unfold sx_val
      rw [x1 14 (show 14 < 16 by decide), r14]
      exact Int.add_zero _
    obtain ⟨u1, u2⟩ := lw_one_ok (by decide) x3 k5 (by rw [v15]; omega)
    rw [v15, v14] at u1
    rw [v15] at u2
    have n22 := n 22 (by simp)
    have n24 := n 24 (by simp)
    have hS1 : lz_s 0 M M1 := ⟨x3.2.2.2.2.2.1, f, by omega, by have := hP.2.2.2.1; omega, n 23 (by simp), n24, n 25 (by simp), m 67 (by decide) (by decide) (by decide), m 68 (by decide) (by decide) (by decide), m 69 (by decide) (by decide) (by decide), m 71 (by decide) (by decide) (by decide), u1, u2⟩
    have hP1 := lz_P (by decide) hP hS1
    have m69 := m 69 (by decide) (by decide) (by decide)
    refine rz_cont eo (sx_nbeq.mp k1) (pc_lkv_ok ok' k2) (pc_sk_ok k3) x4 (rz_call (k := 176) (d := 45) (R := ps_R M1) lz_f22 rfl (Nat.le_of_ble_eq_true rfl) (pe_top hL M1 hP1 (by omega)) (fun M2 hR2 => ?_))
    rw [v15]
    have hok2 := ps_okM hP1 hR2
    have q69 : M2 69 1 = M 69 1 := by rw [ps_oth (by decide) (by decide) (by decide) (by decide) hR2.2.1, m69]
    have w32 : sx_w sx_r32 (61 + M 69 1) := by rw [sx_r32_iff]; omega
    have wz : sx_w (61, 121) (61 + M 69 1) := ⟨by show (61 : Int) ≤ _; omega, by show _ ≤ (121 : Int); omega⟩
    obtain ⟨ρ2, s2, q9, q10, q11, q12, q13, q14, q15⟩ := lz_sat (xs := xs) (z := 61 + M 69 1) (r := (61, 121)) hL hok2 (by rw [q69]; exact hn) wz w32
    obtain ⟨o2, ρ3, M3, rec2, y1, y2, y3, y4⟩ := gs_use lz_c2 s2 (lz_okl s2 (by rw [q9]; exact w32) (Or.inr rfl)) (fun v hv => by cases hv)
    have el : sx_cl1 ρ2 [(0, 2, 0, 53), (1, 0, 9, 0)] = [(0, .ref 53), (1, .int (Int32.ofInt (61 + M 69 1)))] := by
      show [(0, Value.ref 53), (1, sx_cv1 ρ2 (0, 9, 0))] = _
      rw [gv_cv, q9]
    rw [el] at y4
    unfold lz_r2 at rec2
    rcases jor rec2 with rec2 | rec2
    · unfold lz_re at rec2
      split at rec2
      · rename_i e
        rcases y4 with ⟨r, w1, w2, F, w3⟩ | ⟨w1, -⟩
        · rw [e] at w1
          cases w1
          exact ⟨F, none, M3, w3, rfl, lz_one hP hn.1 hS1 hR2 (lz_re_ok s2 y1 y3 (by rw [q9, q69]) q14 q15 (by omega) rec2)⟩
        · rw [e] at w1; cases w1
      · cases rec2
    · cases eo2 : o2.1 with
      | some r => rw [eo2] at rec2; cases rec2
      | none =>
        rw [eo2] at rec2
        have ok2 : sx_okl ρ3 o2.2.2.2.2.1 o2.2.2.1 := by
          rcases y4 with ⟨r, w1, -⟩ | ⟨-, -, w3, -⟩
          · rw [w1] at eo2; cases eo2
          · exact w3
        obtain ⟨j1, j2⟩ := sx_an_iff.mp rec2
        obtain ⟨j1, j3⟩ := sx_an_iff.mp j1
        obtain ⟨j2, j4⟩ := sx_an_iff.mp j2
        obtain ⟨j4, j5⟩ := sx_an_iff.mp j4
        obtain ⟨j4, j6⟩ := sx_an_iff.mp j4
        obtain ⟨j5, j7⟩ := sx_an_iff.mp j5
        have j4 := jin_ok y3 j4
        have j6 := po_lt_ok y3 j6
        obtain ⟨f2, v2, n2, m2⟩ := lw_ok s2 y1 y3 j5
        have z9 : sx_val ρ3 (9, 0) = 61 + M 69 1 := by
          unfold sx_val
          rw [y1 9 (show 9 < 16 by decide), q9]
          exact Int.add_zero _
        have z12 : sx_val ρ3 (12, 0) = M2 53 23 := by
          unfold sx_val
          rw [y1 12 (show 12 < 16 by decide), q12]
          exact Int.add_zero _
        have z14 : sx_val ρ3 (14, 0) = M2 53 25 := by
          unfold sx_val
          rw [y1 14 (show 14 < 16 by decide), q14]
          exact Int.add_zero _
        have z10 : ρ3 10 = M2 53 21 := by rw [y1 10 (show 10 < 16 by decide)]; exact q10
        have z11 : ρ3 11 = M2 53 22 := by rw [y1 11 (show 11 < 16 by decide)]; exact q11
        have v22 : M3 53 22 = ρ3 11 + 1 := v2 (22, (11, 1)) (by simp)
        obtain ⟨u3, u4⟩ := lw_one_ok (by decide) y3 j7 (by rw [z9]; omega)
        rw [z9, z14] at u3
        rw [z9] at u4
        rw [← q69] at u3 u4
        have hf : M2 53 23 = -1 := by omega
        have n24' := n2 24 (by simp)
        have hS3 : lz_s 1 M2 M3 := ⟨y3.2.2.2.2.2.1, f2, by omega, by omega, n2 23 (by simp), n24', n2 25 (by simp), m2 67 (by decide) (by decide) (by decide), m2 68 (by decide) (by decide) (by decide), m2 69 (by decide) (by decide) (by decide), m2 71 (by decide) (by decide) (by decide), u3, u4⟩
        obtain ⟨hP2, ho2⟩ := ps_PR hP1 hR2 hf
        have hP3 := lz_P (by decide) hP2 hS3
        have m69' := m2 69 (by decide) (by decide) (by decide)
        refine rz_cont eo2 (sx_nbeq.mp j1) (pc_lkv_ok ok2 j2) (pc_sk_ok j3) y4 (rz_call (k := 176) (d := 45) (R := ps_R M3) lz_f63 rfl (Nat.le_of_ble_eq_true rfl) (pe_top hL M3 hP3 (by omega)) (fun M4 hR4 => ?_))
        rw [z9]
        have hok4 := ps_okM hP3 hR4
        have t69 : M4 69 1 = M 69 1 := by rw [ps_oth (by decide) (by decide) (by decide) (by decide) hR4.2.1, m69', q69]
        obtain ⟨ρ4, s4, t9, t10, t11, t12, t13, t14, t15⟩ := lz_sat (xs := xs) (z := 61 + M 69 1) (r := (61, 121)) hL hok4 (by rw [t69]; exact hn) wz w32
        obtain ⟨o4, ρ5, M5, rec4, b1, b2, b3, b4⟩ := gs_use lz_c3 s4 (lz_okl s4 (by rw [t9]; exact w32) (Or.inr rfl)) (fun v hv => by cases hv)
        have el4 : sx_cl1 ρ4 [(0, 2, 0, 53), (1, 0, 9, 0)] = [(0, .ref 53), (1, .int (Int32.ofInt (61 + M 69 1)))] := by
          show [(0, Value.ref 53), (1, sx_cv1 ρ4 (0, 9, 0))] = _
          rw [gv_cv, t9]
        rw [el4] at b4
        unfold lz_re at rec4
        split at rec4
        · rename_i e
          rcases b4 with ⟨r, w1, w2, F, w3⟩ | ⟨w1, -⟩
          · rw [e] at w1
            cases w1
            exact ⟨F, none, M5, w3, rfl, lz_two hP hn.1 hS1 hR2 hf hS3 hR4 (lz_re_ok s4 b1 b3 (by rw [t9, t69]) t14 t15 (by omega) rec4)⟩
          · rw [e] at w1; cases w1
        · cases rec4
end
