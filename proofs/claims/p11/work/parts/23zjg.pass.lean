/-! Joint walks with contracts; pass. -/
section
variable {L : Nat} {xs : Nat → Int32} {i : Nat} {M M' M0 : Nat → Nat → Int} {ρ ρ' : Nat → Int} {t t0 : sx_S} {WF : (Nat → Nat → Int) → Prop}
noncomputable def jh_chk (cts : List (Nat × ct_C)) (cps : List la_P) (kc : sx_S → sx_S → Bool) (fc f px : Nat) (s0 : List sx_V) (t0 : sx_S) : Bool := match sx_seg (fun _ _ => none) cl_ly cl_rc (8, 0) false sm_MT sm_LK (fun _ => false) (ct_hk cl_ly true cz_zs cts) (fun q => Nat.beq q 18) fc f 100 0 true px la_l0 s0 t0 with
  | some os => os.all (jt_out cps kc t0)
  | none => false
theorem jh_ok {cts : List (Nat × ct_C)} {cps : List la_P} {kc : sx_S → sx_S → Bool} {SS : (Nat → Nat → Int) → Prop} {fc f px : Nat} {s0 : List sx_V} (hc : jh_chk cts cps kc fc f px s0 t0 = true) (hz : ∀ M M' : Nat → Nat → Int, (∀ z ∈ cz_zs, M' z = M z) → WF M → WF M') (hall : ∀ c ∈ cts, cc WF L xs c.1 c.2) (hL : L ≤ 3072) (hi : i + 6 ≤ L) (hs0 : sx_sat cl_ly (8, 0) xs L M ρ M t0) (hx : sx_ext 9 (la_rho xs L i) ρ) (hk : lb_ok0 s0 = true) (hJ : JJ M) (hW : WF M) (hkc : ∀ (t : sx_S) (ρ' : Nat → Int) (M' : Nat → Nat → Int), sx_ext t0.1 ρ ρ' → sx_sat cl_ly (8, 0) xs L M ρ' M' t → kc t0 t = true → SS M') (k18 : ∀ M', la_I WF cps M' → SS M' → la_R L xs 100 18 (la_lv (Int32.ofInt ((i : Int) + 6))) [] (sx_HH cl_lay cl_rf M')) : la_R L xs 100 px (la_lv (Int32.ofInt (i : Int))) (sx_cs1 (la_rho xs L i) s0) (sx_HH cl_lay cl_rf M) := by
  have hn : 9 ≤ t0.1 := hs0.1
  have r8 : ρ 8 = (i : Int) := by rw [hx 8 (by decide)]; rfl
  have hok : sx_okl ρ t0.1 la_l0 := by
    intro q hq
    simp only [la_l0, List.mem_cons, List.not_mem_nil, or_false] at hq
    rcases hq with rfl | rfl | rfl | rfl
    · exact tk_ok0 (by omega) (by rw [r8, sx_r32_iff]; omega)
    all_goals exact sx_ck2 hs0 _
  have hlv : sx_cl1 ρ la_l0 = la_lv (Int32.ofInt (i : Int)) := by
    show [(3, sx_cv1 ρ (0, 8, 0)), _, _, _] = _
    rw [og_int r8]
    rfl
  have hst : sx_cs1 ρ s0 = sx_cs1 (la_rho xs L i) s0 := List.map_congr_left fun v hv => by
    have h1 := Nat.le_of_ble_eq_true (List.all_eq_true.mp (lb_ok8 hk) v hv)
    unfold sx_cv1 sx_val
    rw [hx _ (by omega)]
  have hoks : sx_oks ρ t0.1 s0 := fun v hv => by
    obtain ⟨h1, h2⟩ := sx_an_iff.mp (List.all_eq_true.mp hk v hv)
    have h1 := Nat.le_of_ble_eq_true h1
    refine ⟨by omega, fun h0 => ?_, fun h => ?_⟩
    · rw [h0] at h2
      have h2 := sx_eq_iff.mp (show sx_eq v.2.2 0 = true from h2)
      unfold sx_val
      rw [hx _ (by omega), h2, Int.add_zero]
      exact la_rho32 hL hi _
    · rw [h] at h2
      cases h2
  unfold jh_chk at hc
  cases e : sx_seg (fun _ _ => none) cl_ly cl_rc (8, 0) false sm_MT sm_LK (fun _ => false) (ct_hk cl_ly true cz_zs cts) (fun q => Nat.beq q 18) fc f 100 0 true px la_l0 s0 t0 with
  | none => rw [e] at hc; cases hc
  | some os =>
    rw [e] at hc
    have hbs : sx_hbs cl_ly (fun _ _ => none) M := fun k h i c _ _ _ e => by cases e
    obtain ⟨o, om, ρ', M', x1, x2, x3, x4⟩ := sx_seg_ok (NV := sm_NV) (cq := sm_cq) (RO := sm_RO L xs) cl_lok hbs cl_hrf (cl_hro L xs) (ct_hk_ok hz (fun _ => hW) hall) f 100 0 true px la_l0 s0 t0 os ρ M e hs0 hok hoks
    have ho := List.all_eq_true.mp hc o om
    rw [hlv, hst] at x4
    unfold jt_out at ho
    cases eo : o.1 with
    | some r => rw [eo] at ho; cases ho
    | none =>
      rw [eo] at ho
      obtain ⟨h1, h2⟩ := sx_an_iff.mp ho
      obtain ⟨h1, h3⟩ := sx_an_iff.mp h1
      obtain ⟨h3, h4⟩ := sx_an_iff.mp h3
      obtain ⟨h2, h5⟩ := sx_an_iff.mp h2
      rcases x4 with ⟨v, w1, -⟩ | ⟨-, -, w3, w4, w5⟩
      · rw [w1] at eo; cases eo
      · have hI' := la_sk_ok hz hs0 x1 x3 h2 hJ hW
        have hS' := hkc o.2.2.2.2 ρ' M' x1 x3 h5
        obtain ⟨l1, l2⟩ := la_lk_ok w3 h4
        have r8' : ρ' 8 = (i : Int) := by rw [x1 8 (by omega)]; exact r8
        rw [r8'] at l2
        have hs1 : sx_cs1 ρ' o.2.2.2.1 = [] := by rw [List.eq_nil_of_length_eq_zero (sx_nbeq.mp h3)]; rfl
        have hle : lo_le (la_lv (Int32.ofInt ((i : Int) + 6))) (sx_cl1 ρ' o.2.2.1) := ⟨la_lv_nd _, l1, l2⟩
        obtain ⟨F, hf, e8, e7⟩ := la_le hle (k18 M' hI' hS')
        rw [← hs1, ← sx_nbeq.mp h1] at e8
        obtain ⟨F', e6⟩ := w5 F _ _ e8
        exact ⟨F', hf, e6, e7⟩
/-- what is held alike, and so many houses -/
def bs_c6 (rest : List la_P) (h : Nat) : List la_P := ((9, 4), (53, 1), ((h : Int), (h : Int))) :: rest
def bs_hou : la_P := ((9, 4), (53, 1), (0, 6))
theorem bh_I {h : Nat} {rest : List la_P} (hI : la_I WF (bs_hou :: rest) M) (e : M 9 4 = (h : Int)) : la_I WF (bs_c6 rest h) M := by
  refine ⟨hI.1, hI.2.1, hI.2.2.1, hI.2.2.2.1, fun q hq => ?_⟩
  rcases List.mem_cons.mp hq with rfl | hq
  · have e1 : M 9 4 = M 53 1 := (hI.2.2.2.2 bs_hou List.mem_cons_self).2
    show sx_w ((h : Int), (h : Int)) (M 9 4) ∧ M 9 4 = M 53 1
    refine ⟨⟨?_, ?_⟩, e1⟩
    · show (h : Int) ≤ M 9 4
      omega
    · show M 9 4 ≤ (h : Int)
      omega
  · exact hI.2.2.2.2 q (List.mem_cons_of_mem _ hq)
theorem bh_go {cts : List (Nat × ct_C)} {rest : List la_P} {zc : List Nat} {zp : List (Nat × Nat)} {SS : (Nat → Nat → Int) → Prop} {px : Nat} {s0 : List sx_V} (hfp : lb_fp zc zp SS) (hc : ((List.range 7).all fun h => sx_an (la_gd (bs_c6 rest h)) (jh_chk cts (bs_hou :: rest) (lb_un zc zp) 5000 5000 px s0 (jt_0 [] (bs_c6 rest h)))) = true) (hk : lb_ok0 s0 = true) (hz : ∀ M M' : Nat → Nat → Int, (∀ z ∈ cz_zs, M' z = M z) → WF M → WF M') (hall : ∀ c ∈ cts, cc WF L xs c.1 c.2) (hL : L ≤ 3072) (hi : i + 6 ≤ L) (hI : la_I WF (bs_hou :: rest) M) (hS : SS M) (k18 : ∀ M', la_I WF (bs_hou :: rest) M' → SS M' → la_R L xs 100 18 (la_lv (Int32.ofInt ((i : Int) + 6))) [] (sx_HH cl_lay cl_rf M')) : la_R L xs 100 px (la_lv (Int32.ofInt (i : Int))) (sx_cs1 (la_rho xs L i) s0) (sx_HH cl_lay cl_rf M) := by
  have h4 := cx_fld (c := 9) (k := 4) (lo := 0) (hi := 6) hI.1 (by decide +kernel)
  obtain ⟨h, eh⟩ := Int.eq_ofNat_of_zero_le h4.1
  obtain ⟨g, hc⟩ := sx_an_iff.mp (List.all_eq_true.mp hc h (List.mem_range.mpr (by omega)))
  obtain ⟨ρ, s, x⟩ := jt_st (ns := []) (cps := bs_c6 rest h) hL hi (bh_I hI eh) g (fun q hq => by cases hq)
  exact jh_ok hc hz hall hL hi s x hk hI.2.1 hI.2.2.1 (fun t ρ' M' e st h => lb_un_ok hfp s e st h hS) k18
end
