/-! ask: the pair; joint walks beside all that is held alike. -/
section
variable {WF : (Nat → Nat → Int) → Prop} {L : Nat} {xs : Nat → Int32} {i : Nat} {M M' M0 M1 M2 : Nat → Nat → Int} {s : Int}
def ak_c (n : Nat) : ct_C := ([(2, .ofNat 53, .ofNat 53), (0, .negSucc 2147483647, .ofNat 2147483647)], [(53, 1, .ofNat 0, .ofNat 6), (53, 7, .negSucc 2147483647, .ofNat 2147483647), (53, 8, (n : Int), (n : Int)), (53, 13, .ofNat 0, .ofNat 29)], [(53, 8, (n : Int), (n : Int)), (60, n, .negSucc 0, .ofNat 143), (53, 35, .negSucc 2147483647, .ofNat 2147483647), (53, 36, .negSucc 2147483647, .ofNat 2147483647)], [59, 72, 73, 75, 76, 77], (some (0, .negSucc 1, .ofNat 29)), 11, true)
def ak_k (n : Nat) : List mt_K := [(61, [(0, (2, .ofNat 53, .ofNat 53)), (1, (0, .ofNat 0, .ofNat 5)), (2, (0, .negSucc 1, .ofNat 29)), (3, (0, .ofNat 0, .ofNat 30))], [(53, 8, (n : Int) + 1, (n : Int) + 1), (60, n, .negSucc 0, .ofNat 143), (53, 35, .negSucc 2147483647, .ofNat 2147483647), (53, 36, .negSucc 2147483647, .ofNat 2147483647)], [(53, 1, .ofNat 1, .ofNat 6), (53, 7, .negSucc 2147483647, .ofNat 2147483647), (53, 13, .ofNat 0, .ofNat 29)], [(.negSucc 0, 3)], .ofNat 30, none)]
theorem ak_all : ((List.range 12).all fun n => mt_chk cl_ly cl_rc sm_MT sm_LK cz_zs [(190, k_mgoTo)] 3000 3000 216 (ak_c n) (ak_k n)) = true := by decide +kernel
def ak_12 : ct_C := ([(2, .ofNat 53, .ofNat 53), (0, .negSucc 2147483647, .ofNat 2147483647)], [(53, 8, .ofNat 12, .ofNat 12)], [], [], (some (0, .negSucc 1, .ofNat 29)), 3, false)
theorem ak_12c : mt_chk cl_ly cl_rc sm_MT sm_LK cz_zs [] 3000 3000 216 ak_12 [] = true := by decide +kernel
theorem ak_hp (he : cc_env WF L xs) (hI : la_I WF bs_cps M) (hS : bs_SS M) (hs : sx_w sx_r32 s) : ∃ z z' M1 M2, ((0 = 0 ∧ sx_w sx_r32 z ∧ sx_w sx_r32 z') ∨ (0 = 1 ∧ sx_w sx_r64 z ∧ sx_w sx_r64 z')) ∧ lb_run L xs 85 [.ref 8, .int (Int32.ofInt s)] M (lb_val 0 z) M1 ∧ sx_mok cl_ly M1 ∧ lb_run L xs 216 [.ref 53, .int (Int32.ofInt s)] M1 (lb_val 0 z') M2 ∧ sx_mok cl_ly M2 ∧ la_I WF bs_cps M2 ∧ bs_SS M2 ∧ bs_fr M M2 := by
  obtain ⟨z, M1, z1, z2, z3, z4, z5, z6⟩ := lp_cc (M := M) (as := [.ref 8, .int (Int32.ofInt s)]) (c_ask he) rfl (show (6 : Nat) ≤ 99 by decide) ⟨lp_rf (show (8 : Int).toNat = 8 from rfl), lp_v hs hs, trivial⟩ (fun g hg => by rw [List.mem_singleton.mp hg]; exact hI.2.2.2.1) hI.1 hI.2.2.1
  have hI1 : la_I WF bs_cps M1 := lp_I he.2.1 (c := k_ask) (by decide +kernel) hI z4 z5 z6
  have hS1 : bs_SS M1 := lb_cu_ok (c := k_ask) bs_fp (by decide +kernel) z5 hS
  have w1 : ∀ a, a < 128 → ¬ (19 ≤ a ∧ a ≤ 23) → M1 a = M a := fun a ha h => by
    funext j
    refine z5 a j ha (fun hm => ?_) (fun g hg e => ?_)
    · simp only [k_ask, List.mem_cons, List.not_mem_nil, or_false] at hm
      omega
    · simp only [k_ask, List.mem_cons, List.not_mem_nil, or_false] at hg
      rcases hg with rfl | rfl
      · have e : 21 = a := e
        omega
      · have e : 21 = a := e
        omega
  have g8 := cx_fld (c := 53) (k := 8) (lo := 0) (hi := 12) z4 (by decide +kernel)
  obtain ⟨n, en⟩ := Int.eq_ofNat_of_zero_le g8.1
  by_cases h12 : n = 12
  · obtain ⟨y, M2, y1, y2, y3, y4, y5, y6⟩ := lp_cc (M := M1) (c := ak_12) (as := [.ref 53, .int (Int32.ofInt s)]) (cc_ok he cc_nil ak_12c) rfl (show (3 : Nat) ≤ 99 by decide) ⟨lp_rf (show (53 : Int).toNat = 53 from rfl), lp_v hs hs, trivial⟩ (fun g hg => by
      rw [List.mem_singleton.mp hg]
      show (12 : Int) ≤ M1 53 8 ∧ M1 53 8 ≤ 12
      omega) z4 hI1.2.2.1
    exact ⟨z, y, M1, M2, lp_32 z2 y2, z3, z4, y3, y4, lp_I he.2.1 (c := ak_12) (by decide +kernel) hI1 y4 y5 y6, lb_cu_ok (c := ak_12) bs_fp (by decide +kernel) y5 hS1, fun a ha w => by
        unfold bs_w at w
        rw [← w1 a ha (by omega)]
        funext j
        exact y5 a j ha (fun h => by cases h) (fun g hg => by cases hg), fun j _ => by
        rw [← w1 53 (by decide) (by omega)]
        exact y5 53 j (by decide) (fun h => by cases h) (fun g hg => by cases hg)⟩
  · have hn : n < 12 := by omega
    obtain ⟨y, M2, y1, y2, y3, y4, y5, y6⟩ := lp_cc (M := M1) (c := ak_c n) (as := [.ref 53, .int (Int32.ofInt s)]) (cc_ok he (cc_cons (c_mgoTo he) cc_nil) (List.all_eq_true.mp ak_all n (List.mem_range.mpr hn))) rfl (show (11 : Nat) ≤ 99 by decide) ⟨lp_rf (show (53 : Int).toNat = 53 from rfl), lp_v hs hs, trivial⟩ (fun g hg => by
      simp only [ak_c, List.mem_cons, List.not_mem_nil, or_false] at hg
      rcases hg with rfl | rfl | rfl | rfl
      · exact cx_fld (c := 53) (k := 1) (lo := 0) (hi := 6) z4 (by decide +kernel)
      · exact cx_fld (c := 53) (k := 7) (lo := -2147483648) (hi := 2147483647) z4 (by decide +kernel)
      · show (n : Int) ≤ M1 53 8 ∧ M1 53 8 ≤ (n : Int)
        omega
      · exact cx_fld (c := 53) (k := 13) (lo := 0) (hi := 29) z4 (by decide +kernel)) z4 hI1.2.2.1
    have e8 : M2 53 8 = M1 53 8 := by
      have h := y6 (53, 8, (n : Int), (n : Int)) (by simp [ak_c])
      have h : (n : Int) ≤ M2 53 8 ∧ M2 53 8 ≤ (n : Int) := h
      omega
    have fr : ∀ a j, a < 128 → a ∉ [59, 72, 73, 75, 76, 77] → ¬ (a = 60 ∧ j = n) → ¬ (a = 53 ∧ (j = 35 ∨ j = 36)) → M2 a j = M1 a j := fun a j ha h1 h2 h3 => by
      by_cases h8 : a = 53 ∧ j = 8
      · rw [h8.1, h8.2]
        exact e8
      · refine y5 a j ha h1 (fun g hg k1 k2 => ?_)
        simp only [ak_c, List.mem_cons, List.not_mem_nil, or_false] at hg
        rcases hg with rfl | rfl | rfl | rfl
        · exact h8 ⟨k1.symm, k2.symm⟩
        · exact h2 ⟨k1.symm, k2.symm⟩
        · exact h3 ⟨k1.symm, Or.inl k2.symm⟩
        · exact h3 ⟨k1.symm, Or.inr k2.symm⟩
    have fc : ∀ a, a < 128 → a ∉ [59, 60, 72, 73, 75, 76, 77] → a ≠ 53 → M2 a = M1 a := fun a ha h1 h2 => by
      simp only [List.mem_cons, List.not_mem_nil, or_false] at h1
      funext j
      refine fr a j ha (fun h => ?_) (fun h => ?_) (fun h => h2 h.1)
      · simp only [List.mem_cons, List.not_mem_nil, or_false] at h
        omega
      · omega
    have f53 : ∀ j, j ≠ 35 → j ≠ 36 → M2 53 j = M1 53 j := fun j h1 h2 => fr 53 j (by decide) (by decide) (fun h => by omega) (fun h => by omega)
    obtain ⟨⟨n1, n2, n3⟩, c1, c2⟩ := hS1.2
    have G : la_I WF bs_cps M2 ∧ bs_SS M2 := by
      refine ⟨⟨y4, fp_JJ M1 M2 (fun u hu => ?_) (fun p hp => ?_) hI1.2.1, he.2.1 M1 M2 (fun u hu => ?_) hI1.2.2.1, by rw [fc 10 (by decide) (by decide) (by decide)]; exact hI1.2.2.2.1, fun p hp => ?_⟩, ?_, ⟨fun w n' hw hn' => ?_, fun n' hn' => ?_, fun n' hn' h => ?_⟩, fun q hq => ?_, ?_⟩
      · have : ∀ u ∈ [33, 62, 63, 64, 65], u < 128 ∧ u ∉ [59, 60, 72, 73, 75, 76, 77] ∧ u ≠ 53 := by decide +kernel
        exact fc u (this u hu).1 (this u hu).2.1 (this u hu).2.2
      · simp only [List.mem_cons, List.not_mem_nil, or_false] at hp
        rcases hp with rfl | rfl | rfl | rfl
        · show M2 32 1 = M1 32 1
          rw [fc 32 (by decide) (by decide) (by decide)]
        · show M2 32 2 = M1 32 2
          rw [fc 32 (by decide) (by decide) (by decide)]
        · exact f53 14 (by decide) (by decide)
        · exact f53 15 (by decide) (by decide)
      · have : ∀ u ∈ cz_zs, u < 128 ∧ u ∉ [59, 60, 72, 73, 75, 76, 77] ∧ u ≠ 53 := by decide +kernel
        exact fc u (this u hu).1 (this u hu).2.1 (this u hu).2.2
      · have h9 := hI1.2.2.2.2 p hp
        have : ∀ p ∈ bs_cps, p.1.1 < 128 ∧ p.1.1 ∉ [59, 60, 72, 73, 75, 76, 77] ∧ p.1.1 ≠ 53 ∧ p.2.1.1 = 53 ∧ p.2.1.2 ≠ 35 ∧ p.2.1.2 ≠ 36 := by decide +kernel
        obtain ⟨t1, t2, t3, t4, t5, t6⟩ := this p hp
        rw [fc p.1.1 t1 t2 t3]
        rw [t4] at h9 ⊢
        rw [f53 p.2.1.2 t5 t6]
        exact h9
      · exact sh_fp M1 M2 (fun u hu => by
          have : ∀ u ∈ [41, 42, 43, 44, 45, 46, 47, 48, 49, 50, 51, 52, 87, 88, 89], u < 128 ∧ u ∉ [59, 60, 72, 73, 75, 76, 77] ∧ u ≠ 53 := by decide +kernel
          exact fc u (this u hu).1 (this u hu).2.1 (this u hu).2.2) (fun p hp => by cases hp) hS1.1
      · rw [fc 10 (by decide) (by decide) (by decide), fc (54 + w) (by omega) (by simp only [List.mem_cons, List.not_mem_nil, or_false]; omega) (by omega)]
        exact n1 w n' hw hn'
      · rw [fc 10 (by decide) (by decide) (by decide), fc 61 (by decide) (by decide) (by decide)]
        exact n2 n' hn'
      · rw [f53 8 (by decide) (by decide)] at h
        rw [fc 10 (by decide) (by decide) (by decide), fr 60 n' (by decide) (by decide) (fun h' => by omega) (fun h' => by omega)]
        exact n3 n' hn' h
      · rw [fc 33 (by decide) (by decide) (by decide), fc 62 (by decide) (by decide) (by decide), fc 63 (by decide) (by decide) (by decide), fc 64 (by decide) (by decide) (by decide), fc 65 (by decide) (by decide) (by decide)]
        exact c1 q hq
      · rw [fc 32 (by decide) (by decide) (by decide), f53 14 (by decide) (by decide), f53 15 (by decide) (by decide)]
        exact c2
    refine ⟨z, y, M1, M2, lp_32 z2 y2, z3, z4, y3, y4, G.1, G.2, fun a ha w => ?_, fun j v => ?_⟩
    · unfold bs_w at w
      rw [fc a ha (by simp only [List.mem_cons, List.not_mem_nil, or_false]; omega) (by omega), w1 a ha (by omega)]
    · unfold bs_v at v
      rw [f53 j (by omega) (by omega), w1 53 (by decide) (by omega)]
-- joint walks
theorem bt_go {cps : List la_P} {zc : List Nat} {zp : List (Nat × Nat)} {SS : (Nat → Nat → Int) → Prop} {ns : List (Nat × Int × Int)} {rs : List jt_C} {px : Nat} {s0 : List sx_V} (hfp : lb_fp zc zp SS) (hc : jt_chk cps (lb_un zc zp) 5000 5000 px s0 (jt_cr rs (jt_0 ns cps)) = true) (hg : la_gd cps = true) (hk : lb_ok0 s0 = true) (hz : ∀ M M' : Nat → Nat → Int, (∀ z ∈ cz_zs, M' z = M z) → WF M → WF M') (hL : L ≤ 3072) (hi : i + 6 ≤ L) (hI : la_I WF cps M) (hS : SS M) (hn : ∀ q ∈ ns, q.1 < 9 ∧ sx_w q.2 (la_rho xs L i q.1)) (hr : ∀ q ∈ rs, jt_cq (la_rho xs L i) M q) (k18 : ∀ M', la_I WF cps M' → SS M' → la_R L xs 100 18 (la_lv (Int32.ofInt ((i : Int) + 6))) [] (sx_HH cl_lay cl_rf M')) : la_R L xs 100 px (la_lv (Int32.ofInt (i : Int))) (sx_cs1 (la_rho xs L i) s0) (sx_HH cl_lay cl_rf M) := by
  obtain ⟨ρ0, s, x⟩ := jt_st (ns := ns) (cps := cps) hL hi hI hg hn
  obtain ⟨ρ, s', x'⟩ := jt_cr_ok s x hr
  exact jt_ok hc hz hL hi s' x' hk hI.2.1 hI.2.2.1 (fun t ρ' M' e st h => lb_un_ok hfp s' e st h hS) k18
/-- odds: the risk, and how dry it is -/
theorem od_cq (hm : sx_mok cl_ly M) (hS : bs_SS M) (h2 : sx_w (0, 5) (la_rho xs L i 2)) (h3 : sx_w (0, 29) (la_rho xs L i 3)) : ∀ q ∈ [((10, (2, 30), 55, (2, 0), (-1, 143)) : jt_C), (10, (3, 150), 61, (3, 0), (-1, 143))], jt_cq (la_rho xs L i) M q := by
  have a1 : 0 ≤ la_rho xs L i 2 := h2.1
  have a2 : la_rho xs L i 2 ≤ 5 := h2.2
  have b1 : 0 ≤ la_rho xs L i 3 := h3.1
  have b2 : la_rho xs L i 3 ≤ 29 := h3.2
  intro q hq
  simp only [List.mem_cons, List.not_mem_nil, or_false] at hq
  rcases hq with rfl | rfl
  · obtain ⟨h, eh⟩ := Int.eq_ofNat_of_zero_le a1
    have v1 : sx_val (la_rho xs L i) (2, 30) = (h : Int) + 30 := by show la_rho xs L i 2 + 30 = _; rw [eh]
    have v2 : sx_val (la_rho xs L i) (2, 0) = (h : Int) := by show la_rho xs L i 2 + 0 = _; rw [eh, Int.add_zero]
    have w := cx_m10 hm (k := 30 + h) (by omega)
    have e := hS.2.1.1 1 h (by decide) (by omega)
    have t1 : ((h : Int) + 30).toNat = 30 + h := by omega
    refine ⟨by decide, by decide, by decide, by decide, ?_, ?_, ?_, ?_, ?_⟩
    · show 0 ≤ sx_val (la_rho xs L i) (2, 30); rw [v1]; omega
    · show 0 ≤ sx_val (la_rho xs L i) (2, 0); rw [v2]; omega
    · show sx_w (-1, 143) (M 10 (sx_val (la_rho xs L i) (2, 30)).toNat); rw [v1, t1]; exact w
    · show sx_w sx_r64 (M 10 (sx_val (la_rho xs L i) (2, 30)).toNat); rw [v1, t1]; exact sx_32_64 (og_w32 (by omega) (by omega))
    · show M 10 (sx_val (la_rho xs L i) (2, 30)).toNat = M 55 (sx_val (la_rho xs L i) (2, 0)).toNat
      rw [v1, v2, t1, Int.toNat_natCast]
      exact e
  · obtain ⟨h, eh⟩ := Int.eq_ofNat_of_zero_le b1
    have v1 : sx_val (la_rho xs L i) (3, 150) = (h : Int) + 150 := by show la_rho xs L i 3 + 150 = _; rw [eh]
    have v2 : sx_val (la_rho xs L i) (3, 0) = (h : Int) := by show la_rho xs L i 3 + 0 = _; rw [eh, Int.add_zero]
    have w := cx_m10 hm (k := 150 + h) (by omega)
    have e := hS.2.1.2.1 h (by omega)
    have t1 : ((h : Int) + 150).toNat = 150 + h := by omega
    refine ⟨by decide, by decide, by decide, by decide, ?_, ?_, ?_, ?_, ?_⟩
    · show 0 ≤ sx_val (la_rho xs L i) (3, 150); rw [v1]; omega
    · show 0 ≤ sx_val (la_rho xs L i) (3, 0); rw [v2]; omega
    · show sx_w (-1, 143) (M 10 (sx_val (la_rho xs L i) (3, 150)).toNat); rw [v1, t1]; exact w
    · show sx_w sx_r64 (M 10 (sx_val (la_rho xs L i) (3, 150)).toNat); rw [v1, t1]; exact sx_32_64 (og_w32 (by omega) (by omega))
    · show M 10 (sx_val (la_rho xs L i) (3, 150)).toNat = M 61 (sx_val (la_rho xs L i) (3, 0)).toNat
      rw [v1, v2, t1, Int.toNat_natCast]
      exact e
end
