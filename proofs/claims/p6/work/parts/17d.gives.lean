/-! The reference's evaluator: gives, the proof. -/
section
variable {L : Nat} {xs : Nat → Int32} {M MM : Nat → Nat → Int} {ρ : Nat → Int}
theorem gv_inj {x y : Int} (hx : sx_w sx_r32 x) (hy : sx_w sx_r32 y) (h9 : Value.int (Int32.ofInt x) = Value.int (Int32.ofInt y)) : x = y := by
  have := congrArg Int32.toInt (Value.int.inj h9)
  rw [sx_i32 hx, sx_i32 hy] at this
  exact this
theorem gv_cv (ρ : Nat → Int) (s : Nat) : sx_cv1 ρ (0, s, 0) = Value.int (Int32.ofInt (ρ s)) := by
  rw [sx_cvk0 rfl]
  show Value.int (Int32.ofInt (ρ s + 0)) = _
  rw [Int.add_zero]
theorem gv_agr (hfr : ct_fr gv_c MM M) : mt_agr [73] MM M := fun a ha hm => by
  funext i
  exact hfr a i ha hm (fun g hg => by cases hg)
theorem gv_mod : ∀ a ∈ ([73] : List Nat), a < 128 := fun a ha => by
  rw [List.mem_singleton.mp ha]; decide
theorem gv_sat {first l r : Int} (hL : L < 2 ^ 31) (hm : sx_mok cl_ly M) (hfr : ct_fr gv_c MM M) (h1 : 0 ≤ first ∧ first ≤ 130) (h2 : 0 ≤ l ∧ l ≤ 60) (h3 : sx_w sx_r32 r) (h4 : sx_w (0, 130) (M 70 l.toNat)) (h5 : sx_w (0, 130) (M 71 l.toNat)) : ∃ ρ : Nat → Int, sx_sat cl_ly (0, -100) xs L MM ρ M gv_t ∧ ρ 9 = first ∧ ρ 10 = l ∧ ρ 11 = r ∧ ρ 12 = M 70 l.toNat ∧ ρ 13 = M 71 l.toNat := by
  have hvs : ct_vs gv_q [.int (Int32.ofInt first), .int (Int32.ofInt l), .int (Int32.ofInt r)] := ⟨wk_int h1.1 h1.2 (by decide) (by decide), wk_int h2.1 h2.2 (by decide) (by decide), Or.inl ⟨rfl, r, rfl, h3, h3⟩, trivial⟩
  obtain ⟨ρ1, a1, a2, a3, a4, a5⟩ := mt_as_ok hvs (mt_tr_sat (xs := xs) hL gv_mod hm (gv_agr hfr))
  have e1 : (mt_as gv_q (mt_tr [73])).1 = [(0, 9, 0), (0, 10, 0), (0, 11, 0)] := rfl
  rw [e1] at a4 a5
  have w32 : ∀ s, s = 9 ∨ s = 10 ∨ s = 11 → sx_w sx_r32 (ρ1 s) := by
    intro s h9
    have := (a5 (0, s, 0) (by rcases h9 with rfl | rfl | rfl <;> simp)).2.1 rfl
    unfold sx_val at this
    rw [Int.add_zero] at this
    exact this
  have v4 : [sx_cv1 ρ1 (0, 9, 0), sx_cv1 ρ1 (0, 10, 0), sx_cv1 ρ1 (0, 11, 0)] = [.int (Int32.ofInt first), .int (Int32.ofInt l), .int (Int32.ofInt r)] := a4
  simp only [gv_cv, List.cons.injEq, and_true] at v4
  obtain ⟨v1, v2, v3⟩ := v4
  have q9 := gv_inj (w32 9 (by omega)) (by rw [sx_r32_iff]; omega) v1
  have q10 := gv_inj (w32 10 (by omega)) (by rw [sx_r32_iff]; omega) v2
  have q11 := gv_inj (w32 11 (by omega)) h3 v3
  have hv : sx_val ρ1 (10, 0) = l := by unfold sx_val; rw [q10]; exact Int.add_zero _
  have s1 := sx_frl_ok a3 (k := 70) (i := (10, 0)) (by decide) (show 10 < 12 by decide) (by rw [hv]; exact h2.1) (r := (0, 130)) (by rw [hv]; exact h4) (by rw [hv]; exact ⟨Int.le_trans (by decide) h4.1, Int.le_trans h4.2 (by decide)⟩)
  rw [hv] at s1
  have x1 : sx_ext 12 ρ1 (sx_nu ρ1 12 (M 70 l.toNat)) := sx_nu_ext
  have hv' : sx_val (sx_nu ρ1 12 (M 70 l.toNat)) (10, 0) = l := by rw [sx_ext_val x1 (by decide)]; exact hv
  have hv2 : sx_val (sx_nu ρ1 (mt_as gv_q (mt_tr [73])).2.1 (M 70 l.toNat)) (10, 0) = l := hv'
  have s2 := sx_frl_ok s1 (k := 71) (i := (10, 0)) (by decide) (show 10 < 13 by decide) (by rw [hv2]; exact h2.1) (r := (0, 130)) (by rw [hv2]; exact h5) (by rw [hv2]; exact ⟨Int.le_trans (by decide) h5.1, Int.le_trans h5.2 (by decide)⟩)
  rw [hv2] at s2
  have x2 : sx_ext 13 (sx_nu ρ1 12 (M 70 l.toNat)) (sx_nu (sx_nu ρ1 12 (M 70 l.toNat)) 13 (M 71 l.toNat)) := sx_nu_ext
  refine ⟨sx_nu (sx_nu ρ1 12 (M 70 l.toNat)) 13 (M 71 l.toNat), s2, ?_, ?_, ?_, ?_, ?_⟩
  · rw [x2 9 (by decide), x1 9 (by decide)]; exact q9
  · rw [x2 10 (by decide), x1 10 (by decide)]; exact q10
  · rw [x2 11 (by decide), x1 11 (by decide)]; exact q11
  · rw [x2 12 (by decide)]
    unfold sx_nu
    rw [if_pos rfl]
  · unfold sx_nu
    rw [if_pos rfl]
def gv_lv (first l : Int) : sm_V := [(0, .ref 53), (1, .int 0), (2, .int (Int32.ofInt first)), (3, .int (Int32.ofInt l))]
theorem gv_lv_nd (first l : Int) : lo_nd (gv_lv first l) := by
  show ([0, 1, 2, 3] : List Nat).Nodup
  decide
theorem gv_lk_ok {a b : sx_A} {n : Nat} {lv : sx_L} (h0 : ρ 0 = 0) (hl : sx_okl ρ n lv) (h : gv_lk a b lv = true) : lo_le (gv_lv (sx_val ρ a) (sx_val ρ b)) (sx_cl1 ρ lv) := by
  obtain ⟨h1, h2⟩ := sx_an_iff.mp h
  refine ⟨gv_lv_nd _ _, mt_cl_nd (mt_nd_ok h1), ?_⟩
  cases e : mt_at [(0, 2, 53, 53), (1, 0, 0, 0), (2, 0, 0, 0), (3, 0, 0, 0)] lv with
  | none => rw [e] at h2; cases h2
  | some vs =>
    rw [e] at h2
    match vs, h2, e with
    | [p, q, u, v], h2, e =>
      obtain ⟨-, a2⟩ := mt_at_ok hl e
      obtain ⟨k1, k2⟩ := sx_an_iff.mp h2
      obtain ⟨k1, k3⟩ := sx_an_iff.mp k1
      obtain ⟨k1, k4⟩ := sx_an_iff.mp k1
      obtain ⟨k3, k5⟩ := sx_an_iff.mp k3
      obtain ⟨k2, k6⟩ := sx_an_iff.mp k2
      obtain ⟨k2, k7⟩ := sx_an_iff.mp k2
      obtain ⟨k6, k8⟩ := sx_an_iff.mp k6
      have ez : mt_zv [(0, 2, 53, 53), (1, 0, 0, 0), (2, 0, 0, 0), (3, 0, 0, 0)] (sx_cs1 ρ [p, q, u, v]) = gv_lv (sx_val ρ a) (sx_val ρ b) := by
        show [(0, sx_cv1 ρ p), (1, sx_cv1 ρ q), (2, sx_cv1 ρ u), (3, sx_cv1 ρ v)] = _
        rw [sx_cvk2 (sx_nbeq.mp k1), sx_cvk0 (sx_nbeq.mp k3), sx_cvk0 (sx_nbeq.mp k2), sx_cvk0 (sx_nbeq.mp k6), sx_eq_iff.mp k4, sx_ae_iff.mp k5, sx_ae_iff.mp k7, sx_ae_iff.mp k8]
        have : sx_val ρ (0, 0) = 0 := by unfold sx_val; rw [h0]; rfl
        rw [this]
        rfl
      intro k v hv
      rw [← ez] at hv
      exact a2 k v hv
theorem gv_sk_ok {a b : sx_A} {s : List sx_V} (h0 : ρ 0 = 0) (h : gv_sk a b s = true) : sx_cs1 ρ s = [.int (Int32.ofInt (sx_val ρ a)), .int (Int32.ofInt (sx_val ρ b)), .int 0, .ref 53] := by
  unfold gv_sk at h
  split at h
  · rename_i x y z w
    obtain ⟨k1, k2⟩ := sx_an_iff.mp h
    obtain ⟨k1, k3⟩ := sx_an_iff.mp k1
    obtain ⟨k1, k4⟩ := sx_an_iff.mp k1
    obtain ⟨k3, k5⟩ := sx_an_iff.mp k3
    obtain ⟨k2, k6⟩ := sx_an_iff.mp k2
    obtain ⟨k2, k7⟩ := sx_an_iff.mp k2
    obtain ⟨k6, k8⟩ := sx_an_iff.mp k6
    show [sx_cv1 ρ x, sx_cv1 ρ y, sx_cv1 ρ z, sx_cv1 ρ w] = _
    rw [sx_cvk0 (sx_nbeq.mp k1), sx_cvk0 (sx_nbeq.mp k3), sx_cvk0 (sx_nbeq.mp k2), sx_cvk2 (sx_nbeq.mp k6), sx_ae_iff.mp k4, sx_ae_iff.mp k5, sx_ae_iff.mp k7, sx_eq_iff.mp k8]
    have : sx_val ρ (0, 0) = 0 := by unfold sx_val; rw [h0]; rfl
    rw [this]
    rfl
  · cases h
/-- it returns a number, and keeps what it must -/
def gv_fin (L : Nat) (xs : Nat → Int32) (MM : Nat → Nat → Int) (pc : Nat) (lv : sm_V) (s : List Value) (h : sm_H) : Prop := ∃ F r M', sm_run sm_MT sm_LK (sm_RO L xs) sm_NV sm_cq F 5 196 pc lv s h = some (some (.int r), sx_HH cl_lay cl_rf M') ∧ sx_mok cl_ly M' ∧ ct_fr gv_c MM M'
theorem gv_le {pc : Nat} {a b : sm_V} {s : List Value} {h : sm_H} (hle : lo_le a b) (k : gv_fin L xs MM pc a s h) : gv_fin L xs MM pc b s h := by
  obtain ⟨F, r, M', e, e1⟩ := k
  exact ⟨F, r, M', lo_run _ _ _ _ _ _ _ _ _ hle e, e1⟩
theorem gv_rt_ok {t0 : sx_S} {o : sx_P} {ρ0 : Nat → Int} {M' : Nat → Nat → Int} (hs0 : sx_sat cl_ly (0, -100) xs L MM ρ0 M t0) (hx : sx_ext t0.1 ρ0 ρ) (hfr : ct_fr gv_c MM M) (hs : sx_sat cl_ly (0, -100) xs L MM ρ M' o.2.2.2.2) (h : gv_rt t0 o = true) {pc : Nat} {lv : sm_V} {s : List Value} {h9 : sm_H} (x4 : (∃ r, o.1 = some r ∧ sx_rok ρ o.2.2.2.2.1 r ∧ ∃ F, sm_run sm_MT sm_LK (sm_RO L xs) sm_NV sm_cq F 5 196 pc lv s h9 = some (r.map (sx_cv1 ρ), sx_HH cl_lay cl_rf M')) ∨ o.1 = none) : gv_fin L xs MM pc lv s h9 := by
  unfold gv_rt at h
  rcases x4 with ⟨r, w1, w2, F, w3⟩ | w1
  · rw [w1] at h
    obtain ⟨a, -, c9⟩ := mt_end_ok hs0 hx hfr hs w2 h
    cases r with
    | none => cases c9
    | some v =>
      have c9 : ct_v (0, sx_r32) (sx_cv1 ρ v) := c9
      rcases c9 with ⟨-, z, e, -⟩ | ⟨k1, -⟩ | ⟨k1, -⟩
      · have w3 : sm_run sm_MT sm_LK (sm_RO L xs) sm_NV sm_cq F 5 196 pc lv s h9 = some (some (sx_cv1 ρ v), sx_HH cl_lay cl_rf M') := w3
        rw [e] at w3
        exact ⟨F, _, M', w3, hs.2.2.2.2.2.1, a⟩
      · cases k1
      · cases k1
  · rw [w1] at h; cases h
theorem gv_scall {ix : Nat} (hix : ix = 255) {ρ : Nat → Int} {n : Nat} {s : List sx_V} {a b : sx_A} (hk : sx_oks ρ n s) (h : gv_sk a b s = true) : sm_call (sm_LK (sm_MT 196).1) (fun k => (sm_MT k).2.2.2.1) (.invokevirtual ix) (sx_cs1 ρ s) (sx_HH cl_lay cl_rf M) = some (197, (sx_cs1 ρ s).reverse, []) := by
  subst hix
  unfold gv_sk at h
  split at h
  · rename_i x y z w
    obtain ⟨k1, k2⟩ := sx_an_iff.mp h
    obtain ⟨k2, k6⟩ := sx_an_iff.mp k2
    obtain ⟨k6, k8⟩ := sx_an_iff.mp k6
    obtain ⟨wk, wp, wv⟩ := w
    have e1 : wk = 2 := sx_nbeq.mp k6
    have e2 : wv = 53 := sx_eq_iff.mp k8
    subst e1
    subst e2
    have hc : sx_call cl_ly (sm_LK (sm_MT 196).1) (fun k => (sm_MT k).2.2.2.1) (.invokevirtual 255) [x, y, z, (2, wp, 53)] = some (197, [(2, wp, 53), z, y, x], []) := rfl
    exact (sx_call_ok (M := M) (lay := cl_lay) (rf := cl_rf) cl_lok hk hc).1
  · cases h
theorem gv_f41 : (sm_MT 196).2.2.2.2.2 41 = some (.invokevirtual 255, 3) := rfl
theorem gv_f61 : (sm_MT 196).2.2.2.2.2 61 = some (.invokevirtual 255, 3) := rfl
/-- worked is called -/
theorem gv_worked {pc a b : Nat} {lv : sm_V} {s : List sx_V} {x y : sx_A} {n : Nat} (hL : L < 2 ^ 31) (hf : (sm_MT 196).2.2.2.2.2 pc = some (.invokevirtual 255, 3)) (hk : sx_oks ρ n s) (h0 : ρ 0 = 0) (h : gv_sk y x s = true) (hx : sx_val ρ x = (a : Int)) (hy : sx_val ρ y = (b : Int)) (h1 : a ≤ b) (h2 : b ≤ 130) (hm : sx_mok cl_ly M) (hfr : ct_fr gv_c MM M) (hw : wf_seg M a b) (k : ∀ r M', sx_mok cl_ly M' → ct_fr gv_c MM M' → ct_fr gv_c M M' → gv_fin L xs MM (pc + 3) lv [.int r] (sx_HH cl_lay cl_rf M')) : gv_fin L xs MM pc lv (sx_cs1 ρ s) (sx_HH cl_lay cl_rf M) := by
  obtain ⟨F1, r, M1, f1, f2, f3⟩ := wk_ok (xs := xs) hL h1 h2 hm hw
  have fr1 : ct_fr gv_c M M1 := fun i j ha hm hp => f3 i j ha hm hp
  have fr2 : ct_fr gv_c MM M1 := fun i j ha hm hp => (fr1 i j ha hm hp).trans (hfr i j ha hm hp)
  obtain ⟨F2, r2, M2, g1, g2, g3⟩ := k r M1 f2 fr2 fr1
  have es := gv_sk_ok h0 h
  have hc := gv_scall (M := M) rfl hk h
  rw [es, hx, hy] at hc ⊢
  obtain ⟨F, hF⟩ := gs_call (j := 196) (d := 4) (pc := pc) (len := 3) (k := 197) (ins := .invokevirtual 255) (lv := lv) (as := [.ref 53, .int 0, .int (Int32.ofInt (a : Int)), .int (Int32.ofInt (b : Int))]) (rest := []) (ro := some (.int r)) hf rfl rfl hc ⟨Nat.zero_le _, Nat.le_of_ble_eq_true rfl⟩ f1 g1
  exact ⟨F, r2, M2, hF, g2, g3⟩
theorem gv_okl (hs : sx_sat cl_ly (0, -100) xs L MM ρ M gv_t) (h9 : sx_w sx_r32 (ρ 9)) (h10 : sx_w sx_r32 (ρ 10)) : sx_okl ρ gv_t.1 gv_l := by
  intro q hq
  simp only [gv_l, List.mem_cons, List.not_mem_nil, or_false] at hq
  rcases hq with rfl | rfl | rfl | rfl
  · exact sx_ck2 hs _
  · exact sx_ck0 hs sx_w0
  · refine ⟨show 9 < 14 by decide, fun _ => ?_, fun h => by cases h⟩
    show sx_w sx_r32 (ρ 9 + 0)
    rw [Int.add_zero]; exact h9
  · refine ⟨show 10 < 14 by decide, fun _ => ?_, fun h => by cases h⟩
    show sx_w sx_r32 (ρ 10 + 0)
    rw [Int.add_zero]; exact h10
theorem gv_l_cl (ρ : Nat → Int) (h0 : ρ 0 = 0) : sx_cl1 ρ gv_l = gv_lv (ρ 9) (ρ 10) := by
  show [(0, Value.ref 53), (1, sx_cv1 ρ (0, 0, 0)), (2, sx_cv1 ρ (0, 9, 0)), (3, sx_cv1 ρ (0, 10, 0))] = _
  rw [gv_cv, gv_cv, gv_cv, h0]
  rfl
theorem gv_same {a : Nat} (hfr : ct_fr gv_c MM M) (ha : a < 128) (h : a ≠ 73) : M a = MM a := by
  funext i
  exact hfr a i ha (fun hm => h (List.mem_singleton.mp hm)) (fun g hg => by cases hg)
theorem gv_seg {a b : Nat} (hfr : ct_fr gv_c MM M) (h : wf_seg MM a b) : wf_seg M a b := by
  unfold wf_seg at h ⊢
  rw [wf_run_congr (gv_same hfr (by decide) (by decide)) (gv_same hfr (by decide) (by decide))]
  exact h
theorem gv_cont {P : Prop} {o : sx_P} {ρ' : Nat → Int} {M' : Nat → Nat → Int} {pc pc' : Nat} {lv lv' : sm_V} {s s' : List Value} {h : sm_H} (eo : o.1 = none) (hpc : o.2.1 = pc') (hle : lo_le lv' (sx_cl1 ρ' o.2.2.1)) (hs : sx_cs1 ρ' o.2.2.2.1 = s') (x4 : (∃ r, o.1 = some r ∧ sx_rok ρ' o.2.2.2.2.1 r ∧ ∃ F, sm_run sm_MT sm_LK (sm_RO L xs) sm_NV sm_cq F 5 196 pc lv s h = some (r.map (sx_cv1 ρ'), sx_HH cl_lay cl_rf M')) ∨ (o.1 = none ∧ P ∧ sx_okl ρ' o.2.2.2.2.1 o.2.2.1 ∧ sx_oks ρ' o.2.2.2.2.1 o.2.2.2.1 ∧ ∀ F r h', sm_run sm_MT sm_LK (sm_RO L xs) sm_NV sm_cq F 5 196 o.2.1 (sx_cl1 ρ' o.2.2.1) (sx_cs1 ρ' o.2.2.2.1) (sx_HH cl_lay cl_rf M') = some (r, h') → ∃ F', sm_run sm_MT sm_LK (sm_RO L xs) sm_NV sm_cq F' 5 196 pc lv s h = some (r, h'))) (k : gv_fin L xs MM pc' lv' s' (sx_HH cl_lay cl_rf M')) : gv_fin L xs MM pc lv s h := by
  rcases x4 with ⟨r, w1, -⟩ | ⟨-, -, -, -, w5⟩
  · rw [w1] at eo; cases eo
  · obtain ⟨F, r, M2, e, e1⟩ := gv_le hle k
    rw [← hpc, ← hs] at e
    obtain ⟨F', e'⟩ := w5 F _ _ e
    exact ⟨F', r, M2, e', e1⟩
theorem gv_end9 {first : Int} {l : Nat} (hL : L < 2 ^ 31) (hm : sx_mok cl_ly M) (hfr : ct_fr gv_c MM M) (h1 : 0 ≤ first ∧ first ≤ 130) (h2 : l ≤ 61) (h3 : M 69 0 = (l : Int)) : gv_fin L xs MM 7 (gv_lv first (l : Int)) [] (sx_HH cl_lay cl_rf M) := by
  have hvs : ct_vs gv_q9 [.int (Int32.ofInt first), .int (Int32.ofInt (l : Int))] := ⟨wk_int h1.1 h1.2 (by decide) (by decide), wk_int (by omega) (by omega) (by decide) (by decide), trivial⟩
  obtain ⟨ρ1, a1, a2, a3, a4, a5⟩ := mt_as_ok hvs (mt_tr_sat (xs := xs) hL gv_mod hm (gv_agr hfr))
  have e1 : (mt_as gv_q9 (mt_tr [73])).1 = [(0, 9, 0), (0, 10, 0)] := rfl
  rw [e1] at a4 a5
  have w32 : ∀ s, s = 9 ∨ s = 10 → sx_w sx_r32 (ρ1 s) := by
    intro s h9
    have := (a5 (0, s, 0) (by rcases h9 with rfl | rfl <;> simp)).2.1 rfl
    unfold sx_val at this
    rw [Int.add_zero] at this
    exact this
  have v4 : [sx_cv1 ρ1 (0, 9, 0), sx_cv1 ρ1 (0, 10, 0)] = [.int (Int32.ofInt first), .int (Int32.ofInt (l : Int))] := a4
  simp only [gv_cv, List.cons.injEq, and_true] at v4
  obtain ⟨v1, v2⟩ := v4
  have q9 := gv_inj (w32 9 (by omega)) (by rw [sx_r32_iff]; omega) v1
  have q10 := gv_inj (w32 10 (by omega)) (by rw [sx_r32_iff]; omega) v2
  have s1 := la_ad_ok (k := 69) (p := 0) (v := (10, 0)) a3 (by decide) (show 10 < 11 by decide) (by
    unfold sx_val
    rw [q10, h3]
    exact (Int.add_zero _).symm)
  have okl : sx_okl ρ1 gv_t9.1 gv_l := by
    intro q hq
    simp only [gv_l, List.mem_cons, List.not_mem_nil, or_false] at hq
    rcases hq with rfl | rfl | rfl | rfl
    · exact sx_ck2 s1 _
    · exact sx_ck0 s1 sx_w0
    · refine ⟨show 9 < 11 by decide, fun _ => ?_, fun h => by cases h⟩
      show sx_w sx_r32 (ρ1 9 + 0)
      rw [Int.add_zero]; exact w32 9 (by omega)
    · refine ⟨show 10 < 11 by decide, fun _ => ?_, fun h => by cases h⟩
      show sx_w sx_r32 (ρ1 10 + 0)
      rw [Int.add_zero]; exact w32 10 (by omega)
  obtain ⟨o, ρ', M', rec, x1, x2, x3, x4⟩ := gs_use gv_c9 s1 okl (fun v hv => by cases hv)
  rw [gv_l_cl ρ1 s1.2.1, q9, q10] at x4
  exact gv_rt_ok s1 x1 hfr x3 rec (x4.imp id (fun h => h.1))
theorem gv_64 {first r : Int} {l : Nat} (hL : L < 2 ^ 31) (hm : sx_mok cl_ly M) (hfr : ct_fr gv_c MM M) (h1 : 0 ≤ first ∧ first ≤ 130) (h2 : l ≤ 60) (h3 : sx_w sx_r32 r) (h4 : sx_w (0, 130) (MM 70 l)) (h5 : sx_w (0, 130) (MM 71 l)) : gv_fin L xs MM 64 (gv_lv first (l : Int)) [.int (Int32.ofInt r)] (sx_HH cl_lay cl_rf M) := by
  have e70 := gv_same (a := 70) hfr (by decide) (by decide)
  have e71 := gv_same (a := 71) hfr (by decide) (by decide)
  obtain ⟨ρ, s, r9, r10, r11, r12, r13⟩ := gv_sat (xs := xs) (l := (l : Int)) (r := r) hL hm hfr h1 (by omega) h3 (by rw [e70]; exact h4) (by rw [e71]; exact h5)
  obtain ⟨o, ρ', M', rec, x1, x2, x3, x4⟩ := gs_use gv_c3 s (gv_okl s (by rw [r9, sx_r32_iff]; omega) (by rw [r10, sx_r32_iff]; omega)) (fun v hv => by
    rw [List.mem_singleton.mp hv]
    refine ⟨show 11 < 14 by decide, fun _ => ?_, fun h => by cases h⟩
    show sx_w sx_r32 (ρ 11 + 0)
    rw [Int.add_zero, r11]; exact h3)
  rw [gv_l_cl ρ s.2.1, r9, r10] at x4
  have es : sx_cs1 ρ [(0, 11, 0)] = [Value.int (Int32.ofInt r)] := by
    show [sx_cv1 ρ (0, 11, 0)] = _
    rw [gv_cv, r11]
  rw [es] at x4
  exact gv_rt_ok s x1 hfr x3 rec (x4.imp id (fun h => h.1))
theorem gv_main (hL : L < 2 ^ 31) (hW : WF MM) : ∀ (m l : Nat) (M : Nat → Nat → Int), 61 - l = m → l ≤ 61 → (l : Int) ≤ MM 69 0 → 0 ≤ wf_from MM l ∧ wf_from MM l ≤ 130 → sx_mok cl_ly M → ct_fr gv_c MM M → gv_fin L xs MM 7 (gv_lv (wf_from MM l) (l : Int)) [] (sx_HH cl_lay cl_rf M) := by
  intro m
  induction m with
  | zero =>
    intro l M h1 h2 h3 h4 hm hfr
    have h61 := hW.1.2
    refine gv_end9 hL hm hfr h4 h2 ?_
    rw [gv_same (a := 69) hfr (by decide) (by decide)]
    omega
  | succ m ih =>
    intro l M h1 h2 h3 h4 hm hfr
    have e69 := gv_same (a := 69) hfr (by decide) (by decide)
    by_cases hl : (l : Int) = MM 69 0
    · exact gv_end9 hL hm hfr h4 h2 (by rw [e69]; exact hl.symm)
    · have hl : (l : Int) < MM 69 0 := by omega
      have h61 := hW.1.2
      obtain ⟨f1, f2, f3, f4, f5, f6⟩ := hW.2 l hl
      have h70 : sx_w (0, 130) (MM 70 l) := ⟨by show (0 : Int) ≤ _; omega, by show _ ≤ (130 : Int); omega⟩
      have h71 : sx_w (0, 130) (MM 71 l) := ⟨by show (0 : Int) ≤ _; omega, by show _ ≤ (130 : Int); omega⟩
      have e70 := gv_same (a := 70) hfr (by decide) (by decide)
      have e71 := gv_same (a := 71) hfr (by decide) (by decide)
      have c1 : ((wf_from MM l).toNat : Int) = wf_from MM l := Int.toNat_of_nonneg f1
      have c2 : ((MM 70 l).toNat : Int) = MM 70 l := Int.toNat_of_nonneg (by omega)
      have c3 : ((MM 71 l).toNat : Int) = MM 71 l := Int.toNat_of_nonneg (by omega)
      have w32 : ∀ z : Int32, sx_w sx_r32 z.toInt := sx_w32
      -- the second call
      have call61 : ∀ {s : List sx_V} {ρ : Nat → Int} {n : Nat} {M2 : Nat → Nat → Int}, sx_oks ρ n s → ρ 0 = 0 → gv_sk (13, 0) (12, 0) s = true → ρ 12 = MM 70 l → ρ 13 = MM 71 l → sx_mok cl_ly M2 → ct_fr gv_c MM M2 → gv_fin L xs MM 61 (gv_lv (wf_from MM l) (l : Int)) (sx_cs1 ρ s) (sx_HH cl_lay cl_rf M2) := by
        intro s ρ n M2 hk h0 hsk r12 r13 hm2 hfr2
        refine gv_worked (x := (12, 0)) (y := (13, 0)) (a := (MM 70 l).toNat) (b := (MM 71 l).toNat) hL gv_f61 hk h0 hsk (by unfold sx_val; rw [r12, c2]; exact Int.add_zero _) (by unfold sx_val; rw [r13, c3]; exact Int.add_zero _) (by omega) (by omega) hm2 hfr2 (gv_seg hfr2 f6) (fun r M3 hm3 hfr3 _ => ?_)
        have := gv_64 (xs := xs) (r := r.toInt) hL hm3 hfr3 h4 (by omega) (w32 r) h70 h71
        rw [Int32.ofInt_toInt] at this
        exact this
      -- behind the first call
      have at44 : ∀ (r : Int32) (M2 : Nat → Nat → Int), sx_mok cl_ly M2 → ct_fr gv_c MM M2 → gv_fin L xs MM 44 (gv_lv (wf_from MM l) (l : Int)) [.int r] (sx_HH cl_lay cl_rf M2) := by
        intro r M2 hm2 hfr2
        have g70 := gv_same (a := 70) hfr2 (by decide) (by decide)
        have g71 := gv_same (a := 71) hfr2 (by decide) (by decide)
        obtain ⟨ρ, s, r9, r10, r11, r12, r13⟩ := gv_sat (xs := xs) (l := (l : Int)) (r := r.toInt) hL hm2 hfr2 h4 (by omega) (w32 r) (by rw [g70]; exact h70) (by rw [g71]; exact h71)
        have r12 : ρ 12 = MM 70 l := by rw [r12, g70]; rfl
        have r13 : ρ 13 = MM 71 l := by rw [r13, g71]; rfl
        obtain ⟨o, ρ', M', rec, x1, x2, x3, x4⟩ := gs_use gv_c2 s (gv_okl s (by rw [r9, sx_r32_iff]; omega) (by rw [r10, sx_r32_iff]; omega)) (fun v hv => by
          rw [List.mem_singleton.mp hv]
          refine ⟨show 11 < 14 by decide, fun _ => ?_, fun h => by cases h⟩
          show sx_w sx_r32 (ρ 11 + 0)
          rw [Int.add_zero, r11]; exact w32 r)
        rw [gv_l_cl ρ s.2.1, r9, r10] at x4
        have es : sx_cs1 ρ [(0, 11, 0)] = [Value.int r] := by
          show [sx_cv1 ρ (0, 11, 0)] = _
          rw [gv_cv, r11, Int32.ofInt_toInt]
        rw [es] at x4
        have y : ∀ s, s < 14 → ρ' s = ρ s := fun s hs => x1 s hs
        unfold gv_r2 at rec
        cases eo : o.1 with
        | some r => rw [eo] at rec; cases rec
        | none =>
          rw [eo] at rec
          obtain ⟨k1, k2⟩ := sx_an_iff.mp rec
          have fr' := mt_cells_ok s x1 hfr2 x3 k1
          have ok' : sx_okl ρ' o.2.2.2.2.1 o.2.2.1 ∧ sx_oks ρ' o.2.2.2.2.1 o.2.2.2.1 := by
            rcases x4 with ⟨r, w1, -⟩ | ⟨-, -, w3, w4, -⟩
            · rw [w1] at eo; cases eo
            · exact ⟨w3, w4⟩
          cases e7 : Nat.beq o.2.1 7
          · rw [e7] at k2
            obtain ⟨k2, k3⟩ := sx_an_iff.mp k2
            obtain ⟨k3, k4⟩ := sx_an_iff.mp k3
            have hle := gv_lk_ok x3.2.1 ok'.1 k3
            have z9 : sx_val ρ' (9, 0) = wf_from MM l := by unfold sx_val; rw [y 9 (by decide), r9]; exact Int.add_zero _
            have z10 : sx_val ρ' (10, 0) = (l : Int) := by unfold sx_val; rw [y 10 (by decide), r10]; exact Int.add_zero _
            rw [z9, z10] at hle
            exact gv_cont eo (sx_nbeq.mp k2) hle rfl x4 (call61 ok'.2 x3.2.1 k4 (by rw [y 12 (by decide)]; exact r12) (by rw [y 13 (by decide)]; exact r13) x3.2.2.2.2.2.1 fr')
          · rw [e7] at k2
            obtain ⟨k2, k3⟩ := sx_an_iff.mp k2
            have hle := gv_lk_ok x3.2.1 ok'.1 k2
            have z13 : sx_val ρ' (13, 0) = wf_from MM (l + 1) := by
              unfold sx_val
              rw [y 13 (by decide), r13]
              exact Int.add_zero _
            have z10 : sx_val ρ' (10, 1) = ((l + 1 : Nat) : Int) := by
              unfold sx_val
              rw [y 10 (by decide), r10]
              push_cast
              rfl
            rw [z13, z10] at hle
            have hs0 : sx_cs1 ρ' o.2.2.2.1 = [] := by rw [List.eq_nil_of_length_eq_zero (sx_nbeq.mp k3)]; rfl
            have hf : wf_from MM (l + 1) = MM 71 l := rfl
            exact gv_cont eo (sx_nbeq.mp e7) hle hs0 x4 (ih (l + 1) M' (by omega) (by omega) (by push_cast; omega) (by rw [hf]; omega) x3.2.2.2.2.2.1 fr')
      obtain ⟨ρ, s, r9, r10, r11, r12, r13⟩ := gv_sat (xs := xs) (l := (l : Int)) (r := 0) hL hm hfr h4 (by omega) sx_w0 (by rw [e70]; exact h70) (by rw [e71]; exact h71)
      have r12 : ρ 12 = MM 70 l := by rw [r12, e70]; rfl
      have r13 : ρ 13 = MM 71 l := by rw [r13, e71]; rfl
      obtain ⟨o, ρ', M', rec, x1, x2, x3, x4⟩ := gs_use gv_c1 s (gv_okl s (by rw [r9, sx_r32_iff]; omega) (by rw [r10, sx_r32_iff]; omega)) (fun v hv => by cases hv)
      rw [gv_l_cl ρ s.2.1, r9, r10] at x4
      have y : ∀ s, s < 14 → ρ' s = ρ s := fun s hs => x1 s hs
      unfold gv_r1 at rec
      rcases jor rec with rec | rec
      · exact gv_rt_ok s x1 hfr x3 rec (x4.imp id (fun h => h.1))
      · cases eo : o.1 with
        | some r => rw [eo] at rec; cases rec
        | none =>
          rw [eo] at rec
          obtain ⟨k1, k2⟩ := sx_an_iff.mp rec
          obtain ⟨k2, k3⟩ := sx_an_iff.mp k2
          have fr' := mt_cells_ok s x1 hfr x3 k1
          have ok' : sx_okl ρ' o.2.2.2.2.1 o.2.2.1 ∧ sx_oks ρ' o.2.2.2.2.1 o.2.2.2.1 := by
            rcases x4 with ⟨r, w1, -⟩ | ⟨-, -, w3, w4, -⟩
            · rw [w1] at eo; cases eo
            · exact ⟨w3, w4⟩
          have hle := gv_lk_ok x3.2.1 ok'.1 k2
          have z9 : sx_val ρ' (9, 0) = wf_from MM l := by unfold sx_val; rw [y 9 (by decide), r9]; exact Int.add_zero _
          have z10 : sx_val ρ' (10, 0) = (l : Int) := by unfold sx_val; rw [y 10 (by decide), r10]; exact Int.add_zero _
          have z12 : sx_val ρ' (12, 0) = MM 70 l := by unfold sx_val; rw [y 12 (by decide), r12]; exact Int.add_zero _
          rw [z9, z10] at hle
          cases e41 : Nat.beq o.2.1 41
          · rw [e41] at k3
            obtain ⟨k3, k4⟩ := sx_an_iff.mp k3
            exact gv_cont eo (sx_nbeq.mp k3) hle rfl x4 (call61 ok'.2 x3.2.1 k4 (by rw [y 12 (by decide)]; exact r12) (by rw [y 13 (by decide)]; exact r13) x3.2.2.2.2.2.1 fr')
          · rw [e41] at k3
            refine gv_cont eo (sx_nbeq.mp e41) hle rfl x4 ?_
            exact gv_worked (x := (9, 0)) (y := (12, 0)) (a := (wf_from MM l).toNat) (b := (MM 70 l).toNat) hL gv_f41 ok'.2 x3.2.1 k3 (by rw [z9, c1]) (by rw [z12, c2]) (by omega) (by omega) x3.2.2.2.2.2.1 fr' (gv_seg fr' f5) (fun r M3 hm3 hfr3 _ => at44 r M3 hm3 hfr3)
theorem gv_lk0_ok {t : sx_S} {M0 : Nat → Nat → Int} {lv : sx_L} (hs : sx_sat cl_ly (0, -100) xs L M0 ρ M t) (hl : sx_okl ρ t.1 lv) (h : gv_lk0 t lv = true) : lo_le (gv_lv 0 0) (sx_cl1 ρ lv) := by
  obtain ⟨h1, h2⟩ := sx_an_iff.mp h
  refine ⟨gv_lv_nd _ _, mt_cl_nd (mt_nd_ok h1), ?_⟩
  cases e : mt_at [(0, 2, 53, 53), (1, 0, 0, 0), (2, 0, 0, 0), (3, 0, 0, 0)] lv with
  | none => rw [e] at h2; cases h2
  | some vs =>
    rw [e] at h2
    match vs, h2, e with
    | [p, q, u, v], h2, e =>
      obtain ⟨-, a2⟩ := mt_at_ok hl e
      obtain ⟨k1, k2⟩ := sx_an_iff.mp h2
      obtain ⟨k1, k3⟩ := sx_an_iff.mp k1
      obtain ⟨k1, k4⟩ := sx_an_iff.mp k1
      obtain ⟨k3, k5⟩ := sx_an_iff.mp k3
      obtain ⟨k2, k6⟩ := sx_an_iff.mp k2
      obtain ⟨k2, k7⟩ := sx_an_iff.mp k2
      obtain ⟨k6, k8⟩ := sx_an_iff.mp k6
      have k5 := jin_ok hs k5
      have hq0 : sx_val ρ q.2 = 0 := by omega
      have hz : sx_val ρ (0, 0) = 0 := sx_v0 hs 0
      have ez : mt_zv [(0, 2, 53, 53), (1, 0, 0, 0), (2, 0, 0, 0), (3, 0, 0, 0)] (sx_cs1 ρ [p, q, u, v]) = gv_lv 0 0 := by
        show [(0, sx_cv1 ρ p), (1, sx_cv1 ρ q), (2, sx_cv1 ρ u), (3, sx_cv1 ρ v)] = _
        rw [sx_cvk2 (sx_nbeq.mp k1), sx_cvk0 (sx_nbeq.mp k3), sx_cvk0 (sx_nbeq.mp k2), sx_cvk0 (sx_nbeq.mp k6), sx_eq_iff.mp k4, hq0, sx_ae_iff.mp k7, sx_ae_iff.mp k8, hz]
        rfl
      intro k v hv
      rw [← ez] at hv
      exact a2 k v hv
/-- gives, on a law that is well formed -/
theorem gv_ok (hL : L < 2 ^ 31) : cc WF L xs 196 k_mgives := by
  intro d as M hd has hpre hm hW
  have hW : WF M := hW rfl
  have has : ct_vs gv_c.1 as := has
  obtain ⟨ρ, a1, a2, a3, a4, a5⟩ := mt_as_ok has (mt_tr_sat (MM := M) (mod := []) (xs := xs) hL (fun a ha => by cases ha) hm (fun a _ _ => rfl))
  have hfr0 : ct_fr gv_c M M := fun _ _ _ _ _ => rfl
  obtain ⟨o, ρ', M', rec, x1, x2, x3, x4⟩ := gs_use gv_c0 a3 (sx_args_okl a5) (fun v hv => by cases hv)
  rw [← sx_args_ok, a4] at x4
  unfold gv_r0 at rec
  cases eo : o.1 with
  | some r => rw [eo] at rec; cases rec
  | none =>
    rw [eo] at rec
    obtain ⟨k1, k2⟩ := sx_an_iff.mp rec
    obtain ⟨k2, k3⟩ := sx_an_iff.mp k2
    obtain ⟨k3, k4⟩ := sx_an_iff.mp k3
    have fr' := mt_cells_ok a3 x1 hfr0 x3 k1
    have ok' : sx_okl ρ' o.2.2.2.2.1 o.2.2.1 := by
      rcases x4 with ⟨r, w1, -⟩ | ⟨-, -, w3, w4, -⟩
      · rw [w1] at eo; cases eo
      · exact w3
    have hle := gv_lk0_ok x3 ok' k3
    have hs0 : sx_cs1 ρ' o.2.2.2.1 = [] := by rw [List.eq_nil_of_length_eq_zero (sx_nbeq.mp k4)]; rfl
    have hf0 : wf_from M 0 = 0 := rfl
    have m0 := gv_main (xs := xs) hL hW 61 0 M' rfl (by omega) hW.1.1 (by rw [hf0]; omega) x3.2.2.2.2.2.1 fr'
    rw [hf0] at m0
    obtain ⟨F, r, M2, f1, f2, f3⟩ := gv_cont eo (sx_nbeq.mp k2) hle hs0 x4 m0
    exact ⟨F, _, M2, mt_d f1 hd, f2, f3, (fun g hg => by cases hg), Or.inl ⟨rfl, r.toInt, by rw [Int32.ofInt_toInt], sx_w32 r, sx_w32 r⟩⟩
end
