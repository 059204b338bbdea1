/-! What is held alike, with the letters that were fed, the bodies' kinds and how many ran. -/
section
variable {WF SS : (Nat → Nat → Int) → Prop} {L : Nat} {xs : Nat → Int32} {i : Nat} {M M' M0 M1 M2 : Nat → Nat → Int} {cps cps' : List la_P} {zc : List Nat} {zp : List (Nat × Nat)}
theorem la_sub (h : ∀ q ∈ cps', q ∈ cps) (hI : la_I WF cps M) : la_I WF cps' M := ⟨hI.1, hI.2.1, hI.2.2.1, hI.2.2.2.1, fun q hq => hI.2.2.2.2 q (h q hq)⟩
theorem lw_h2 (he : cc_env WF L xs) (hfp : lb_fp zc zp SS) (h1 : la_dis cps (0, 0, k_law) = true) (h2 : la_dis cps (0, 0, k_mlawS) = true) (h3 : lb_cu zc zp k_law = true) (h4 : lb_cu zc zp k_mlawS = true) (hl : la_sp WF L xs 173 k_mlawS) (hI : la_I WF (lw_cps ++ cps) M) (hS : SS M) : ∃ z z' M1 M2, ((0 = 0 ∧ sx_w sx_r32 z ∧ sx_w sx_r32 z') ∨ (0 = 1 ∧ sx_w sx_r64 z ∧ sx_w sx_r64 z')) ∧ lb_run L xs 32 [.ref 8] M (lb_val 0 z) M1 ∧ sx_mok cl_ly M1 ∧ lb_run L xs 173 [.ref 53] M1 (lb_val 0 z') M2 ∧ sx_mok cl_ly M2 ∧ la_I WF (lw_cps ++ cps) M2 ∧ SS M2 := by
  have hI0 : la_I WF cps M := la_sub (fun q hq => List.mem_append_right _ hq) hI
  obtain ⟨z, M1, z1, z2, z3, z4, z5, z6⟩ := lp_cc (M := M) (as := [.ref 8]) (c_law he) rfl (show (13 : Nat) ≤ 99 by decide) ⟨lp_rf (show (8 : Int).toNat = 8 from rfl), trivial⟩ (fun g hg => by cases hg) hI.1 hI.2.2.1
  have hI1 : la_I WF cps M1 := lp_I he.2.1 (c := k_law) (sx_an_iff.mpr ⟨h1, by decide +kernel⟩) hI0 z4 z5 z6
  obtain ⟨y, M2, y1, y2, y3, y4, y5, y6, y7, y8⟩ := lp_sp (M := M1) (as := [.ref 53]) hl rfl (show (60 : Nat) ≤ 99 by decide) ⟨lp_rf (show (53 : Int).toNat = 53 from rfl), trivial⟩ (fun g hg => by cases hg) hI1.1 hI1.2.1 hI1.2.2.1
  have hI2 : la_I WF cps M2 := la_I_sp (q := (0, 0, k_mlawS)) hI1 h2 y4 y5 y6 y7 y8
  have a1 : M1 14 6 = 0 := by
    have := z6 (14, 6, .ofNat 0, .ofNat 0) (by simp [k_law])
    exact Int.le_antisymm this.2 this.1
  have a2 : M2 14 6 = M1 14 6 := la_un_ok (c := k_mlawS) (p := (14, 6)) (by decide +kernel) y5
  have a3 : M2 53 21 = 0 := by
    have := y6 (53, 21, .ofNat 0, .ofNat 0) (by simp [k_mlawS])
    exact Int.le_antisymm this.2 this.1
  refine ⟨z, y, M1, M2, lp_32 z2 y2, z3, z4, y3, y4, ⟨hI2.1, hI2.2.1, hI2.2.2.1, hI2.2.2.2.1, fun q hq => ?_⟩, lb_cu_ok hfp h4 y5 (lb_cu_ok hfp h3 z5 hS)⟩
  rcases List.mem_append.mp hq with hq | hq
  · rw [List.mem_singleton.mp hq]
    show sx_w (0, 120) (M2 14 6) ∧ M2 14 6 = M2 53 21
    rw [a2, a1, a3]
    exact ⟨⟨by decide, by decide⟩, rfl⟩
  · exact hI2.2.2.2.2 q hq
def b2_x : List la_P := [((14, 6), (53, 21), (0, 120)), ((37, 3), (53, 59), (0, 1000000))]
def b2_cps : List la_P := bs_cps ++ b2_x
def b2_SS (M : Nat → Nat → Int) : Prop := bs_SS M ∧ ac_SS bd_a1 M
def b2_zc : List Nat := bs_zc ++ [38, 85]
theorem b2_fp : lb_fp b2_zc nm_zp b2_SS := fun M M' h1 h2 h => ⟨bs_fp M M' (fun z hz => h1 z (List.mem_append_left _ hz)) h2 h.1, ac_fp (zc := [38, 85]) (by decide +kernel) M M' (fun z hz => h1 z (List.mem_append_right _ hz)) (fun p hp => by cases hp) h.2⟩
theorem b2_S0 : b2_SS cl_M0 := ⟨bs_S0, fun q hq => bd_S0 q (by
  simp only [bd_a1, List.mem_cons, List.not_mem_nil, or_false] at hq
  rw [hq]
  simp [bd_a2])⟩
theorem b2_dn (hI : la_I WF b2_cps M) : la_I WF bs_cps M := la_sub (fun q hq => List.mem_append_left _ hq) hI
theorem b2_up (h : la_I WF bs_cps M2 ∧ bs_SS M2 ∧ bs_fr M M2) (hI : la_I WF b2_cps M) (hS : b2_SS M) : la_I WF b2_cps M2 ∧ b2_SS M2 := by
  obtain ⟨h1, h2, f1, f2⟩ := h
  refine ⟨⟨h1.1, h1.2.1, h1.2.2.1, h1.2.2.2.1, fun q hq => ?_⟩, h2, fun q hq j hj => ?_⟩
  · rcases List.mem_append.mp hq with hq | hq
    · exact h1.2.2.2.2 q hq
    · have h9 := hI.2.2.2.2 q (List.mem_append_right _ hq)
      have w14 : M2 14 = M 14 := f1 14 (by decide) (by unfold bs_w; decide)
      have w37 : M2 37 = M 37 := f1 37 (by decide) (by unfold bs_w; decide)
      simp only [b2_x, List.mem_cons, List.not_mem_nil, or_false] at hq
      rcases hq with rfl | rfl
      · show sx_w (0, 120) (M2 14 6) ∧ M2 14 6 = M2 53 21
        rw [w14, f2 21 (by unfold bs_v; decide)]
        exact h9
      · show sx_w (0, 1000000) (M2 37 3) ∧ M2 37 3 = M2 53 59
        rw [w37, f2 59 (by unfold bs_v; decide)]
        exact h9
  · have h9 := hS.2 q hq j hj
    have hq' := hq
    simp only [bd_a1, List.mem_cons, List.not_mem_nil, or_false] at hq'
    subst hq'
    show M2 38 j = M2 85 j
    rw [f1 38 (by decide) (by unfold bs_w; decide), f1 85 (by decide) (by unfold bs_w; decide)]
    exact h9
/-- what b2 is, beside a pair -/
theorem b2_P {kx km : Nat} {ax am : List Value} {r : Int × Int} (h : bs_P WF L xs kx km ax am r M) (hI : la_I WF b2_cps M) (hS : b2_SS M) : ∃ z M1 M2, sx_w r z ∧ ((0 = 0 ∧ sx_w sx_r32 z) ∨ (0 = 1 ∧ sx_w sx_r64 z)) ∧ lb_run L xs kx ax M (lb_val 0 z) M1 ∧ sx_mok cl_ly M1 ∧ lb_run L xs km am M1 (lb_val 0 z) M2 ∧ sx_mok cl_ly M2 ∧ la_I WF b2_cps M2 ∧ b2_SS M2 := by
  obtain ⟨z, M1, M2, h0, h1, h2, h3, h4, h5, h6⟩ := h
  obtain ⟨a, b⟩ := b2_up h6 hI hS
  exact ⟨z, M1, M2, h0, h1, h2, h3, h4, h5, a, b⟩
theorem b2_law (he : cc_env WF L xs) (hl : la_sp WF L xs 173 k_mlawS) (hI : la_I WF b2_cps M) (hS : b2_SS M) : ∃ z z' M1 M2, ((0 = 0 ∧ sx_w sx_r32 z ∧ sx_w sx_r32 z') ∨ (0 = 1 ∧ sx_w sx_r64 z ∧ sx_w sx_r64 z')) ∧ lb_run L xs 32 [.ref 8] M (lb_val 0 z) M1 ∧ sx_mok cl_ly M1 ∧ lb_run L xs 173 [.ref 53] M1 (lb_val 0 z') M2 ∧ sx_mok cl_ly M2 ∧ la_I WF b2_cps M2 ∧ b2_SS M2 := by
  have e1 : ∀ q ∈ lw_cps ++ (bs_cps ++ [((37, 3), (53, 59), (0, 1000000))]), q ∈ b2_cps := by decide +kernel
  have e2 : ∀ q ∈ b2_cps, q ∈ lw_cps ++ (bs_cps ++ [((37, 3), (53, 59), (0, 1000000))]) := by decide +kernel
  obtain ⟨z, z', M1, M2, h1, h2, h3, h4, h5, h6, h7⟩ := lw_h2 he b2_fp (cps := bs_cps ++ [((37, 3), (53, 59), (0, 1000000))]) (by decide +kernel) (by decide +kernel) (by decide +kernel) (by decide +kernel) hl (la_sub e1 hI) hS
  exact ⟨z, z', M1, M2, h1, h2, h3, h4, h5, la_sub e2 h6, h7⟩
-- joint walks that change the bodies
noncomputable def b2_kc (t0 t : sx_S) : Bool := sx_an (ac_kc bd_a1 t0 t) (lb_un bs_zc nm_zp t0 t)
theorem b2_go {ns : List (Nat × Int × Int)} {rs : List jt_C} {px : Nat} {s0 : List sx_V} (hc : jt_chk b2_cps b2_kc 5000 5000 px s0 (jt_cr rs (jt_0 ns b2_cps)) = true) (hk : lb_ok0 s0 = true) (hz : ∀ M M' : Nat → Nat → Int, (∀ z ∈ cz_zs, M' z = M z) → WF M → WF M') (hL : L ≤ 3072) (hi : i + 6 ≤ L) (hI : la_I WF b2_cps M) (hS : b2_SS M) (hn : ∀ q ∈ ns, q.1 < 9 ∧ sx_w q.2 (la_rho xs L i q.1)) (hr : ∀ q ∈ rs, jt_cq (la_rho xs L i) M q) (k18 : ∀ M', la_I WF b2_cps M' → b2_SS M' → la_R L xs 100 18 (la_lv (Int32.ofInt ((i : Int) + 6))) [] (sx_HH cl_lay cl_rf M')) : la_R L xs 100 px (la_lv (Int32.ofInt (i : Int))) (sx_cs1 (la_rho xs L i) s0) (sx_HH cl_lay cl_rf M) := by
  obtain ⟨ρ0, s, x⟩ := jt_st (ns := ns) (cps := b2_cps) hL hi hI (by decide +kernel) hn
  obtain ⟨ρ, s', x'⟩ := jt_cr_ok s x hr
  refine jt_ok hc hz hL hi s' x' hk hI.2.1 hI.2.2.1 (fun t ρ' M' e st h => ?_) k18
  obtain ⟨h1, h2⟩ := sx_an_iff.mp h
  exact ⟨lb_un_ok bs_fp s' e st h2 hS.1, ac_ok st h1 hS.2⟩
end
