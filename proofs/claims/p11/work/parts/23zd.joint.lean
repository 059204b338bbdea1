/-! Joint walks: from a pair's first call, through both, to the law's loop head, out of a state that knows what both sides hold alike. -/
section
variable {L : Nat} {xs : Nat → Int32} {i : Nat} {M M' M0 : Nat → Nat → Int} {ρ ρ' : Nat → Int} {t t0 : sx_S} {WF : (Nat → Nat → Int) → Prop}
/-- a symbol's range is told -/
def jt_nr (k : Nat) (r : Int × Int) (t : sx_S) : sx_S := (t.1, (k, r) :: t.2.1, t.2.2)
theorem jt_nr_ok {ly : Nat → Option sx_H} {ib : sx_A} {k : Nat} {r : Int × Int} (hs : sx_sat ly ib xs L M0 ρ M t) (hk : k < t.1) (hw : sx_w r (ρ k)) : sx_sat ly ib xs L M0 ρ M (jt_nr k r t) := by
  obtain ⟨a1, a2, a3, a4, a5⟩ := hs
  refine ⟨a1, a2, a3, fun q hq => ?_, a5⟩
  rcases List.mem_cons.mp hq with rfl | hq
  · exact ⟨hk, hw⟩
  · exact a4 q hq
/-- the outcome of a comparison is told: 80 a below b, 81 a not below b -/
def jt_me (g : Nat) (a b : sx_A) (t : sx_S) : sx_S := (t.1, t.2.1, (t.2.2.1.1, (0, g, a, b) :: t.2.2.1.2), t.2.2.2)
theorem jt_me_ok {ly : Nat → Option sx_H} {ib : sx_A} {g : Nat} {a b : sx_A} (hs : sx_sat ly ib xs L M0 ρ M t) (ha : a.1 < t.1) (hb : b.1 < t.1) (h : sx_mf g (sx_val ρ a) (sx_val ρ b) = 0) : sx_sat ly ib xs L M0 ρ M (jt_me g a b t) := by
  obtain ⟨a1, a2, a3, a4, ⟨a5, a6⟩, a7⟩ := hs
  refine ⟨a1, a2, a3, a4, ⟨a5, fun q hq => ?_⟩, a7⟩
  rcases List.mem_cons.mp hq with rfl | hq
  · exact ⟨by show 0 < t.1; omega, ha, hb, by show ρ 0 = _; rw [a2]; exact h.symm⟩
  · exact a6 q hq
theorem jt_lt {a b : Int} (h : a < b) : sx_mf 80 a b = 0 := by
  show (if a < b then (0 : Int) else 1) = 0
  rw [if_pos h]
theorem jt_nl {a b : Int} (h : ¬ a < b) : sx_mf 81 a b = 0 := by
  show (if a < b then (1 : Int) else 0) = 0
  rw [if_neg h]
/-- what a cell holds is told -/
noncomputable def jt_ad (k : Nat) (a v : sx_A) (t : sx_S) : sx_S := (t.1, t.2.1, t.2.2.1, sx_ts 7 t.2.2.2 k ((sx_tg 7 t.2.2.2 k).1, (a, v) :: (sx_tg 7 t.2.2.2 k).2))
theorem jt_ad_ok {ly : Nat → Option sx_H} {ib : sx_A} {k : Nat} {a v : sx_A} (hs : sx_sat ly ib xs L M0 ρ M t) (hk : k < 128) (ha : a.1 < t.1) (h0 : 0 ≤ sx_val ρ a) (hv : v.1 < t.1) (h : M k (sx_val ρ a).toNat = sx_val ρ v) : sx_sat ly ib xs L M0 ρ M (jt_ad k a v t) := by
  refine ⟨hs.1, hs.2.1, hs.2.2.1, hs.2.2.2.1, hs.2.2.2.2.1, hs.2.2.2.2.2.1, fun k' hk' => ?_, hs.2.2.2.2.2.2.2⟩
  show sx_leaf ρ t.1 (M0 k') (M k') (sx_tg 7 (sx_ts 7 t.2.2.2 k _) k')
  rw [sx_tg_ts 7 _ _ _ _ hk hk']
  split
  · rename_i e
    subst e
    obtain ⟨l1, g0, l2, l3, l4⟩ := hs.2.2.2.2.2.2.1 k' hk'
    refine ⟨fun e he => ?_, g0, l2, ?_, l4⟩
    · rcases List.mem_cons.mp he with rfl | he
      · exact ⟨ha, hv, h0⟩
      · exact l1 e he
    · funext j
      show M k' j = sx_fup (sx_app ρ (sx_tg 7 t.2.2.2 k').2 g0) (sx_val ρ a).toNat (sx_val ρ v) j
      unfold sx_fup
      by_cases hj : j = (sx_val ρ a).toNat
      · rw [if_pos hj, hj, ← h]
      · rw [if_neg hj, ← l3]
  · exact hs.2.2.2.2.2.2.1 k' hk'
/-- a cell is read -/
theorem jt_rd {ly : Nat → Option sx_H} {ib : sx_A} {k n : Nat} {a : sx_A} {r : Int × Int} (hs : sx_sat ly ib xs L M0 ρ M t) (hn : t.1 = n) (hk : k < 128) (ha : a.1 < n) (h0 : 0 ≤ sx_val ρ a) (hw : sx_w r (M k (sx_val ρ a).toNat)) (h64 : sx_w sx_r64 (M k (sx_val ρ a).toNat)) : ∃ ρ', sx_ext n ρ ρ' ∧ sx_sat ly ib xs L M0 ρ' M (sx_frl t k a r).2 ∧ ρ' n = M k (sx_val ρ a).toNat ∧ (sx_frl t k a r).2.1 = n + 1 := by
  subst hn
  refine ⟨_, sx_nu_ext, sx_frl_ok hs hk ha h0 hw h64, ?_, rfl⟩
  unfold sx_nu
  rw [if_pos rfl]
noncomputable def jt_out (cps : List la_P) (kc : sx_S → sx_S → Bool) (t0 : sx_S) (o : sx_P) : Bool := match o.1 with
  | some _ => false
  | none => sx_an (sx_an (Nat.beq o.2.1 18) (sx_an (Nat.beq o.2.2.2.1.length 0) (la_lk 6 o.2.2.1))) (sx_an (la_sk cps t0 o.2.2.2.2) (kc t0 o.2.2.2.2))
noncomputable def jt_chk (cps : List la_P) (kc : sx_S → sx_S → Bool) (fc f px : Nat) (s0 : List sx_V) (t0 : sx_S) : Bool := match sx_seg (fun _ _ => none) cl_ly cl_rc (8, 0) false sm_MT sm_LK (fun _ => false) mi_nohk (fun q => Nat.beq q 18) fc f 100 0 true px la_l0 s0 t0 with
  | some os => os.all (jt_out cps kc t0)
  | none => false
theorem jt_ok {cps : List la_P} {kc : sx_S → sx_S → Bool} {SS : (Nat → Nat → Int) → Prop} {fc f px : Nat} {s0 : List sx_V} (hc : jt_chk cps kc fc f px s0 t0 = true) (hz : ∀ M M' : Nat → Nat → Int, (∀ z ∈ cz_zs, M' z = M z) → WF M → WF M') (hL : L ≤ 3072) (hi : i + 6 ≤ L) (hs0 : sx_sat cl_ly (8, 0) xs L M ρ M t0) (hx : sx_ext 9 (la_rho xs L i) ρ) (hk : lb_ok0 s0 = true) (hJ : JJ M) (hW : WF M) (hkc : ∀ (t : sx_S) (ρ' : Nat → Int) (M' : Nat → Nat → Int), sx_ext t0.1 ρ ρ' → sx_sat cl_ly (8, 0) xs L M ρ' M' t → kc t0 t = true → SS M') (k18 : ∀ M', la_I WF cps M' → SS M' → la_R L xs 100 18 (la_lv (Int32.ofInt ((i : Int) + 6))) [] (sx_HH cl_lay cl_rf M')) : la_R L xs 100 px (la_lv (Int32.ofInt (i : Int))) (sx_cs1 (la_rho xs L i) s0) (sx_HH cl_lay cl_rf M) := by
  have hn : 9 ≤ t0.1 := hs0.1
  have r8 : ρ 8 = (i : Int) := by rw [hx 8 (by decide)]; rfl
  have hok : sx_okl ρ t0.1 la_l0 := by
    intro q hq
    simp only [la_l0, List.mem_cons, List.not_mem_nil, or_false] at hq
    rcases hq with rfl | rfl | rfl | rfl
    · exact tk_ok0 (by omega) (by rw [r8, sx_r32_iff]; omega)
    all_goals exact sx_ck2 hs0 _
  have hlv : sx_cl1 ρ la_l0 = la_lv (Int32.ofInt (i : Int)) := by
    show [(3, sx_cv1 ρ (0, 8, 0)), _, _, _] = _
    rw [og_int r8]
    rfl
  have hst : sx_cs1 ρ s0 = sx_cs1 (la_rho xs L i) s0 := List.map_congr_left fun v hv => by
    have h1 := Nat.le_of_ble_eq_true (List.all_eq_true.mp (lb_ok8 hk) v hv)
    unfold sx_cv1 sx_val
    rw [hx _ (by omega)]
  have hoks : sx_oks ρ t0.1 s0 := fun v hv => by
    obtain ⟨h1, h2⟩ := sx_an_iff.mp (List.all_eq_true.mp hk v hv)
    have h1 := Nat.le_of_ble_eq_true h1
    refine ⟨by omega, fun h0 => ?_, fun h => ?_⟩
    · rw [h0] at h2
      have h2 := sx_eq_iff.mp (show sx_eq v.2.2 0 = true from h2)
      unfold sx_val
      rw [hx _ (by omega), h2, Int.add_zero]
      exact la_rho32 hL hi _
    · rw [h] at h2
      cases h2
  unfold jt_chk at hc
  cases e : sx_seg (fun _ _ => none) cl_ly cl_rc (8, 0) false sm_MT sm_LK (fun _ => false) mi_nohk (fun q => Nat.beq q 18) fc f 100 0 true px la_l0 s0 t0 with
  | none => rw [e] at hc; cases hc
  | some os =>
    rw [e] at hc
    have hbs : sx_hbs cl_ly (fun _ _ => none) M := fun k h i c _ _ _ e => by cases e
    have hnh : sx_hok sm_MT sm_LK (sm_RO L xs) sm_NV sm_cq cl_ly (8, 0) xs L M cl_lay cl_rf mi_nohk := fun _ _ _ _ _ _ _ h => by cases h
    obtain ⟨o, om, ρ', M', x1, x2, x3, x4⟩ := sx_seg_ok (NV := sm_NV) (cq := sm_cq) (RO := sm_RO L xs) cl_lok hbs cl_hrf (cl_hro L xs) hnh f 100 0 true px la_l0 s0 t0 os ρ M e hs0 hok hoks
    have ho := List.all_eq_true.mp hc o om
    rw [hlv, hst] at x4
    unfold jt_out at ho
    cases eo : o.1 with
    | some r => rw [eo] at ho; cases ho
    | none =>
      rw [eo] at ho
      obtain ⟨h1, h2⟩ := sx_an_iff.mp ho
      obtain ⟨h1, h3⟩ := sx_an_iff.mp h1
      obtain ⟨h3, h4⟩ := sx_an_iff.mp h3
      obtain ⟨h2, h5⟩ := sx_an_iff.mp h2
      rcases x4 with ⟨v, w1, -⟩ | ⟨-, -, w3, w4, w5⟩
      · rw [w1] at eo; cases eo
      · have hI' := la_sk_ok hz hs0 x1 x3 h2 hJ hW
        have hS' := hkc o.2.2.2.2 ρ' M' x1 x3 h5
        obtain ⟨l1, l2⟩ := la_lk_ok w3 h4
        have r8' : ρ' 8 = (i : Int) := by rw [x1 8 (by omega)]; exact r8
        rw [r8'] at l2
        have hs1 : sx_cs1 ρ' o.2.2.2.1 = [] := by rw [List.eq_nil_of_length_eq_zero (sx_nbeq.mp h3)]; rfl
        have hle : lo_le (la_lv (Int32.ofInt ((i : Int) + 6))) (sx_cl1 ρ' o.2.2.1) := ⟨la_lv_nd _, l1, l2⟩
        obtain ⟨F, hf, e8, e7⟩ := la_le hle (k18 M' hI' hS')
        rw [← hs1, ← sx_nbeq.mp h1] at e8
        obtain ⟨F', e6⟩ := w5 F _ _ e8
        exact ⟨F', hf, e6, e7⟩
/-- the state that every joint walk begins with: what holds at the loop's head -/
noncomputable def jt_0 (ns : List (Nat × Int × Int)) (cps : List la_P) : sx_S := la_cp cps (ct_get la_gi (ns.foldr (fun q t => jt_nr q.1 q.2 t) la_t0))
theorem jt_ns {ns : List (Nat × Int × Int)} (hs : sx_sat cl_ly (8, 0) xs L M (la_rho xs L i) M la_t0) (h : ∀ q ∈ ns, q.1 < 9 ∧ sx_w q.2 (la_rho xs L i q.1)) : sx_sat cl_ly (8, 0) xs L M (la_rho xs L i) M (ns.foldr (fun q t => jt_nr q.1 q.2 t) la_t0) ∧ (ns.foldr (fun q t => jt_nr q.1 q.2 t) la_t0).1 = 9 := by
  induction ns with
  | nil => exact ⟨hs, rfl⟩
  | cons q ns ih =>
    obtain ⟨s1, n1⟩ := ih (fun q hq => h q (List.mem_cons_of_mem _ hq))
    obtain ⟨h1, h2⟩ := h q List.mem_cons_self
    exact ⟨jt_nr_ok s1 (by rw [n1]; exact h1) h2, n1⟩
theorem jt_st {ns : List (Nat × Int × Int)} {cps : List la_P} (hL : L ≤ 3072) (hi : i + 6 ≤ L) (hI : la_I WF cps M) (hg : la_gd cps = true) (h : ∀ q ∈ ns, q.1 < 9 ∧ sx_w q.2 (la_rho xs L i q.1)) : ∃ ρ : Nat → Int, sx_sat cl_ly (8, 0) xs L M ρ M (jt_0 ns cps) ∧ sx_ext 9 (la_rho xs L i) ρ := by
  obtain ⟨s0, n0⟩ := jt_ns (la_sat0 (xs := xs) hL hi hI.1) h
  obtain ⟨ρ1, a1, a2, s1⟩ := ct_get_ok (l := la_gi) s0 (fun g hg => by
    simp only [la_gi, List.mem_cons, List.not_mem_nil, or_false] at hg
    rcases hg with rfl | rfl | rfl
    · have w := hI.2.2.2.1
      exact ⟨Nat.le_of_ble_eq_true rfl, w, sx_32_64 ⟨Int.le_trans (by decide) w.1, Int.le_trans w.2 (by decide)⟩⟩
    · have w : sx_w (0, 40) (M 53 14) := cv_ly_ok (g := (53, 14, 0, 40)) hI.1 (by decide +kernel)
      exact ⟨Nat.le_of_ble_eq_true rfl, w, sx_32_64 ⟨Int.le_trans (by decide) w.1, Int.le_trans w.2 (by decide)⟩⟩
    · have w : sx_w (0, 40) (M 53 15) := cv_ly_ok (g := (53, 15, 0, 40)) hI.1 (by decide +kernel)
      exact ⟨Nat.le_of_ble_eq_true rfl, w, sx_32_64 ⟨Int.le_trans (by decide) w.1, Int.le_trans w.2 (by decide)⟩⟩)
  rw [n0] at a1 a2
  obtain ⟨ρ2, b1, b2, s2⟩ := la_cp_ok (l := cps) s1 hg hI.2.2.2.2
  exact ⟨ρ2, s2, sx_ext_tr a1 b1 a2⟩
end
