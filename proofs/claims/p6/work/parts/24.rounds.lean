/-! The law of p6: its rounds, with pairs of calls by hand. -/
section
variable {L : Nat} {xs : Nat → Int32}
def le_cps : List la_P := bs_cps
def le_cts : List (Nat × ct_C) := [(51, k_likes), (65, k_accepts), (66, k_visits), (67, k_first), (70, k_odds), (72, k_burns), (76, k_mean), (77, k_plan), (84, k_planned), (87, k_sweetenS), (90, k_evening), (96, k_belief), (98, k_lists), (104, k_judge), (107, k_readS), (110, k_drawn), (116, k_led), (128, k_act), (136, k_trace), (146, k_element), (149, k_taken), (151, k_count), (188, k_mlikes), (199, k_maccepts), (201, k_mvisits), (202, k_mfirst), (203, k_modds), (205, k_mburns), (210, k_mmean), (212, k_mplan), (215, k_mplanned), (218, k_msweetenS), (221, k_mevening), (226, k_mbelief), (229, k_mlists), (234, k_mjudge), (236, k_mreadS), (239, k_mdrawn), (242, k_mled), (245, k_mtrace), (247, k_mact), (262, k_mcount), (267, k_melement), (269, k_mtaken)]
theorem le_all (he : cc_env WF L xs) : ∀ c ∈ le_cts, cc WF L xs c.1 c.2 := (cc_cons (c_likes he) (cc_cons (c_accepts he) (cc_cons (c_visits he) (cc_cons (c_first he) (cc_cons (c_odds he) (cc_cons (c_burns he) (cc_cons (c_mean he) (cc_cons (c_plan he) (cc_cons (c_planned he) (cc_cons (c_sweetenS he) (cc_cons (c_evening he) (cc_cons (c_belief he) (cc_cons (c_lists he) (cc_cons (c_judge he) (cc_cons (c_readS he) (cc_cons (c_drawn he) (cc_cons (c_led he) (cc_cons (c_act he) (cc_cons (c_trace he) (cc_cons (c_element he) (cc_cons (c_taken he) (cc_cons (c_count he) (cc_cons (c_mlikes he) (cc_cons (c_maccepts he) (cc_cons (c_mvisits he) (cc_cons (c_mfirst he) (cc_cons (c_modds he) (cc_cons (c_mburns he) (cc_cons (c_mmean he) (cc_cons (c_mplan he) (cc_cons (c_mplanned he) (cc_cons (c_msweetenS he) (cc_cons (c_mevening he) (cc_cons (c_mbelief he) (cc_cons (c_mlists he) (cc_cons (c_mjudge he) (cc_cons (c_mreadS he) (cc_cons (c_mdrawn he) (cc_cons (c_mled he) (cc_cons (c_mtrace he) (cc_cons (c_mact he) (cc_cons (c_mcount he) (cc_cons (c_melement he) (cc_cons (c_mtaken he) cc_nil))))))))))))))))))))))))))))))))))))))))))))
def le_zc : List Nat := (bs_zc ++ fs_zc)
def le_zp : List (Nat × Nat) := (nm_zp ++ fs_zp)
def le_SS : (Nat → Nat → Int) → Prop := fs_SS
theorem le_fp : lb_fp le_zc le_zp le_SS := fs_fp
def le_wf (c : ct_C) : Bool := cz_zs.all fun z => sx_an (Nat.blt z 128) (bif c.2.2.2.1.any (Nat.beq z) then false else bif c.2.2.1.any (fun g => Nat.beq g.1 z) then false else true)
theorem le_ci {k : Nat} {c : ct_C} (hz : ∀ M M' : Nat → Nat → Int, (∀ z ∈ cz_zs, M' z = M z) → WF M → WF M') (hw : le_wf c = true) (h : ci L xs k c) : la_sp WF L xs k c := by
  intro d as M hd has hg hm hJ hW
  obtain ⟨F, r, M', f1, f2, f3, f4, f5, f6⟩ := h d as M hd has hg hm hJ
  refine ⟨F, r, M', f1, f2, f3, f4, f5, f6, hz M M' (fun z hzz => ?_) hW⟩
  obtain ⟨a, b⟩ := sx_an_iff.mp (List.all_eq_true.mp hw z hzz)
  funext i
  cases e1 : c.2.2.2.1.any (Nat.beq z)
  · rw [e1] at b
    cases e2 : c.2.2.1.any (fun g => Nat.beq g.1 z)
    · refine f3 z i (sx_blt a) (fun hm => ?_) (fun g hg e3 => ?_)
      · have : c.2.2.2.1.any (Nat.beq z) = true := List.any_eq_true.mpr ⟨z, hm, Nat.beq_refl _⟩
        rw [this] at e1; cases e1
      · have : c.2.2.1.any (fun g => Nat.beq g.1 z) = true := List.any_eq_true.mpr ⟨g, hg, sx_nbeq.mpr e3⟩
        rw [this] at e2; cases e2
    · rw [e2] at b; cases b
  · rw [e1] at b; cases b
def le_s27 : List la_S := []
def le_q27 : List lb_Q := [(218, [(0, 2, 0), (2, 0, 8)]), (246, [(0, 3, 0), (0, 2, 0), (2, 0, 8)]), (284, [(0, 4, 0), (0, 3, 0), (0, 2, 0), (2, 0, 8)]), (327, [(0, 4, 0), (0, 3, 0), (0, 2, 0), (2, 0, 8)]), (365, [(0, 3, 0), (0, 2, 0), (2, 0, 8)]), (393, [(0, 2, 0), (2, 0, 8)]), (411, [(2, 0, 8)]), (726, [(0, 2, 0), (2, 0, 8)]), (1010, [(0, 2, 0), (2, 0, 8)]), (1033, [(0, 2, 0), (2, 0, 8)]), (1074, [(2, 0, 8)]), (1087, [(2, 0, 8)]), (1100, [(2, 0, 8)]), (1113, [(2, 0, 8)]), (1225, [(0, 3, 0), (0, 2, 0), (2, 0, 8)]), (1263, [(0, 4, 0), (0, 3, 0), (0, 2, 0), (2, 0, 8)]), (1301, [(0, 3, 0), (0, 2, 0), (2, 0, 8)]), (1422, [(0, 6, 0), (0, 5, 0), (0, 4, 0), (0, 3, 0), (0, 2, 0), (2, 0, 8)])]
set_option maxRecDepth 100000 in
theorem le_c27 : lb_chk le_cts le_cps le_zc le_zp le_s27 le_q27 3000 3000 27 = true := by decide +kernel
theorem le_d27 : (le_s27.all fun q => sx_an (sx_an (la_dis le_cps q) (lb_cu le_zc le_zp q.2.2)) (la_popat (q.1 + 3))) = true := by decide +kernel
def le_hand (WF : (Nat → Nat → Int) → Prop) (L : Nat) (xs : Nat → Int32) : Prop := la_sp WF L xs 173 k_mlawS
variable {i : Nat} {M : Nat → Nat → Int}
def le_K (WF : (Nat → Nat → Int) → Prop) (L : Nat) (xs : Nat → Int32) (i : Nat) : Prop := ∀ M', la_I WF le_cps M' → le_SS M' → la_R L xs 100 18 (la_lv (Int32.ofInt ((i : Int) + 6))) [] (sx_HH cl_lay cl_rf M')
theorem le_w (hL : L ≤ 3072) (hi : i + 6 ≤ L) (k : Nat) : sx_w sx_r32 (sx_val (la_rho xs L i) (k, 0)) := by
  unfold sx_val
  rw [Int.add_zero]
  exact la_rho32 hL hi k
theorem le_p218 (he : cc_env WF L xs) (hl : le_hand WF L xs) (hL : L ≤ 3072) (hi : i + 6 ≤ L) (hI : la_I WF le_cps M) (hS : le_SS M) (k18 : le_K WF L xs i) : la_R L xs 100 218 (la_lv (Int32.ofInt (i : Int))) (sx_cs1 (la_rho xs L i) [(0, 2, 0), (2, 0, 8)]) (sx_HH cl_lay cl_rf M) := by
  obtain ⟨z, M1, M2, h0, h1, h2, h3, h4, h5, h6, hS2⟩ := fs_hs he.1 hI hS (le_w hL hi 2)
  exact lb_pair0 (kd := 0) (kx := 11) (km := 153) (px := 218) (pm := 228) (ix := 13) (im := 17) (s0 := [(0, 2, 0), (2, 0, 8)]) (s1 := [(0, 2, 0), (2, 0, 53)]) (asx := [(2, 0, 8), (0, 2, 0)]) (asm := [(2, 0, 53), (0, 2, 0)]) (Or.inl rfl) rfl rfl rfl rfl (by decide +kernel) (by decide +kernel) (by decide +kernel) (by decide +kernel) hL hi ⟨z, z, M1, M2, lp_same h1, h2, h3, h4, h5, k18 M2 h6 hS2⟩
theorem le_p246 (he : cc_env WF L xs) (hl : le_hand WF L xs) (hL : L ≤ 3072) (hi : i + 6 ≤ L) (hI : la_I WF le_cps M) (hS : le_SS M) (k18 : le_K WF L xs i) : la_R L xs 100 246 (la_lv (Int32.ofInt (i : Int))) (sx_cs1 (la_rho xs L i) [(0, 3, 0), (0, 2, 0), (2, 0, 8)]) (sx_HH cl_lay cl_rf M) := by
  obtain ⟨z, M1, M2, h0, h1, h2, h3, h4, h5, h6, hS2⟩ := fs_ka he.1 hI hS (le_w hL hi 2) (le_w hL hi 3)
  exact lb_pair0 (kd := 0) (kx := 15) (km := 155) (px := 246) (pm := 261) (ix := 18) (im := 22) (s0 := [(0, 3, 0), (0, 2, 0), (2, 0, 8)]) (s1 := [(0, 3, 0), (0, 2, 0), (2, 0, 53)]) (asx := [(2, 0, 8), (0, 2, 0), (0, 3, 0)]) (asm := [(2, 0, 53), (0, 2, 0), (0, 3, 0)]) (Or.inl rfl) rfl rfl rfl rfl (by decide +kernel) (by decide +kernel) (by decide +kernel) (by decide +kernel) hL hi ⟨z, z, M1, M2, lp_same h1, h2, h3, h4, h5, k18 M2 h6 hS2⟩
theorem le_p284 (he : cc_env WF L xs) (hl : le_hand WF L xs) (hL : L ≤ 3072) (hi : i + 6 ≤ L) (hI : la_I WF le_cps M) (hS : le_SS M) (k18 : le_K WF L xs i) : la_R L xs 100 284 (la_lv (Int32.ofInt (i : Int))) (sx_cs1 (la_rho xs L i) [(0, 4, 0), (0, 3, 0), (0, 2, 0), (2, 0, 8)]) (sx_HH cl_lay cl_rf M) := by
  obtain ⟨z, M1, M2, h0, h1, h2, h3, h4, h5, h6, hS2⟩ := fs_cd he.1 hI hS (le_w hL hi 2) (le_w hL hi 3) (le_w hL hi 4)
  exact lb_pair0 (kd := 0) (kx := 18) (km := 158) (px := 284) (pm := 304) (ix := 23) (im := 27) (s0 := [(0, 4, 0), (0, 3, 0), (0, 2, 0), (2, 0, 8)]) (s1 := [(0, 4, 0), (0, 3, 0), (0, 2, 0), (2, 0, 53)]) (asx := [(2, 0, 8), (0, 2, 0), (0, 3, 0), (0, 4, 0)]) (asm := [(2, 0, 53), (0, 2, 0), (0, 3, 0), (0, 4, 0)]) (Or.inl rfl) rfl rfl rfl rfl (by decide +kernel) (by decide +kernel) (by decide +kernel) (by decide +kernel) hL hi ⟨z, z, M1, M2, lp_same h1, h2, h3, h4, h5, k18 M2 h6 hS2⟩
theorem le_p327 (he : cc_env WF L xs) (hl : le_hand WF L xs) (hL : L ≤ 3072) (hi : i + 6 ≤ L) (hI : la_I WF le_cps M) (hS : le_SS M) (k18 : le_K WF L xs i) : la_R L xs 100 327 (la_lv (Int32.ofInt (i : Int))) (sx_cs1 (la_rho xs L i) [(0, 4, 0), (0, 3, 0), (0, 2, 0), (2, 0, 8)]) (sx_HH cl_lay cl_rf M) := by
  obtain ⟨z, M1, M2, h0, h1, h2, h3, h4, h5, h6, hS2⟩ := fs_me he.1 hI hS (le_w hL hi 2) (le_w hL hi 3) (le_w hL hi 4)
  exact lb_pair0 (kd := 0) (kx := 23) (km := 163) (px := 327) (pm := 347) (ix := 28) (im := 31) (s0 := [(0, 4, 0), (0, 3, 0), (0, 2, 0), (2, 0, 8)]) (s1 := [(0, 4, 0), (0, 3, 0), (0, 2, 0), (2, 0, 53)]) (asx := [(2, 0, 8), (0, 2, 0), (0, 3, 0), (0, 4, 0)]) (asm := [(2, 0, 53), (0, 2, 0), (0, 3, 0), (0, 4, 0)]) (Or.inl rfl) rfl rfl rfl rfl (by decide +kernel) (by decide +kernel) (by decide +kernel) (by decide +kernel) hL hi ⟨z, z, M1, M2, lp_same h1, h2, h3, h4, h5, k18 M2 h6 hS2⟩
theorem le_p365 (he : cc_env WF L xs) (hl : le_hand WF L xs) (hL : L ≤ 3072) (hi : i + 6 ≤ L) (hI : la_I WF le_cps M) (hS : le_SS M) (k18 : le_K WF L xs i) : la_R L xs 100 365 (la_lv (Int32.ofInt (i : Int))) (sx_cs1 (la_rho xs L i) [(0, 3, 0), (0, 2, 0), (2, 0, 8)]) (sx_HH cl_lay cl_rf M) := by
  obtain ⟨z, M1, M2, h0, h1, h2, h3, h4, h5, h6, hS2⟩ := fs_of he.1 hI hS (le_w hL hi 2) (le_w hL hi 3)
  exact lb_pair (kd := 0) (kx := 27) (km := 170) (px := 365) (pm := 379) (ix := 32) (im := 35) (s0 := [(0, 3, 0), (0, 2, 0), (2, 0, 8)]) (s1 := [(0, 3, 0), (0, 2, 0), (2, 0, 53)]) (asx := [(2, 0, 8), (0, 2, 0), (0, 3, 0)]) (asm := [(2, 0, 53), (0, 2, 0), (0, 3, 0)]) (r := (.negSucc 1999999999, .ofNat 143)) (Or.inl rfl) rfl rfl rfl rfl (by decide +kernel) (by decide +kernel) (by decide +kernel) (by decide +kernel) hL hi ⟨z, M1, M2, h0, h1, h2, h3, h4, h5, k18 M2 h6 hS2⟩
theorem le_p393 (he : cc_env WF L xs) (hl : le_hand WF L xs) (hL : L ≤ 3072) (hi : i + 6 ≤ L) (hI : la_I WF le_cps M) (hS : le_SS M) (k18 : le_K WF L xs i) : la_R L xs 100 393 (la_lv (Int32.ofInt (i : Int))) (sx_cs1 (la_rho xs L i) [(0, 2, 0), (2, 0, 8)]) (sx_HH cl_lay cl_rf M) := by
  obtain ⟨z, M1, M2, h0, h1, h2, h3, h4, h5, h6, hS2⟩ := fs_fd he.1 hI hS (le_w hL hi 2)
  exact lb_pair0 (kd := 0) (kx := 30) (km := 172) (px := 393) (pm := 403) (ix := 36) (im := 39) (s0 := [(0, 2, 0), (2, 0, 8)]) (s1 := [(0, 2, 0), (2, 0, 53)]) (asx := [(2, 0, 8), (0, 2, 0)]) (asm := [(2, 0, 53), (0, 2, 0)]) (Or.inl rfl) rfl rfl rfl rfl (by decide +kernel) (by decide +kernel) (by decide +kernel) (by decide +kernel) hL hi ⟨z, z, M1, M2, lp_same h1, h2, h3, h4, h5, k18 M2 h6 hS2⟩
theorem le_p411 (he : cc_env WF L xs) (hl : le_hand WF L xs) (hL : L ≤ 3072) (hi : i + 6 ≤ L) (hI : la_I WF le_cps M) (hS : le_SS M) (k18 : le_K WF L xs i) : la_R L xs 100 411 (la_lv (Int32.ofInt (i : Int))) (sx_cs1 (la_rho xs L i) [(2, 0, 8)]) (sx_HH cl_lay cl_rf M) := by
  obtain ⟨z, M1, M2, h0, h1, h2, h3, h4, h5, h6, hS2⟩ := fs_lw he.1 hI hS 
  exact lb_pair0 (kd := 0) (kx := 32) (km := 173) (px := 411) (pm := 416) (ix := 40) (im := 44) (s0 := [(2, 0, 8)]) (s1 := [(2, 0, 53)]) (asx := [(2, 0, 8)]) (asm := [(2, 0, 53)]) (Or.inl rfl) rfl rfl rfl rfl (by decide +kernel) (by decide +kernel) (by decide +kernel) (by decide +kernel) hL hi ⟨z, z, M1, M2, lp_same h1, h2, h3, h4, h5, k18 M2 h6 hS2⟩
theorem le_p726 (he : cc_env WF L xs) (hl : le_hand WF L xs) (hL : L ≤ 3072) (hi : i + 6 ≤ L) (hI : la_I WF le_cps M) (hS : le_SS M) (k18 : le_K WF L xs i) : la_R L xs 100 726 (la_lv (Int32.ofInt (i : Int))) (sx_cs1 (la_rho xs L i) [(0, 2, 0), (2, 0, 8)]) (sx_HH cl_lay cl_rf M) := by
  obtain ⟨z, z', M1, M2, h1, h2, h3, h4, h5, h6, hS2⟩ := fs_ak he hI hS (le_w hL hi 2)
  exact lb_pair0 (kd := 0) (kx := 85) (km := 216) (px := 726) (pm := 736) (ix := 83) (im := 86) (s0 := [(0, 2, 0), (2, 0, 8)]) (s1 := [(0, 2, 0), (2, 0, 53)]) (asx := [(2, 0, 8), (0, 2, 0)]) (asm := [(2, 0, 53), (0, 2, 0)]) (Or.inl rfl) rfl rfl rfl rfl (by decide +kernel) (by decide +kernel) (by decide +kernel) (by decide +kernel) hL hi ⟨z, z', M1, M2, h1, h2, h3, h4, h5, k18 M2 h6 hS2⟩
theorem le_p1010 (he : cc_env WF L xs) (hl : le_hand WF L xs) (hL : L ≤ 3072) (hi : i + 6 ≤ L) (hI : la_I WF le_cps M) (hS : le_SS M) (k18 : le_K WF L xs i) : la_R L xs 100 1010 (la_lv (Int32.ofInt (i : Int))) (sx_cs1 (la_rho xs L i) [(0, 2, 0), (2, 0, 8)]) (sx_HH cl_lay cl_rf M) := by
  obtain ⟨z, M1, M2, h0, h1, h2, h3, h4, h5, h6, hS2⟩ := fs_pa he.1 hI hS (le_w hL hi 2)
  exact lb_pair0 (kd := 0) (kx := 113) (km := 240) (px := 1010) (pm := 1020) (ix := 116) (im := 119) (s0 := [(0, 2, 0), (2, 0, 8)]) (s1 := [(0, 2, 0), (2, 0, 53)]) (asx := [(2, 0, 8), (0, 2, 0)]) (asm := [(2, 0, 53), (0, 2, 0)]) (Or.inl rfl) rfl rfl rfl rfl (by decide +kernel) (by decide +kernel) (by decide +kernel) (by decide +kernel) hL hi ⟨z, z, M1, M2, lp_same h1, h2, h3, h4, h5, k18 M2 h6 hS2⟩
theorem le_p1033 (he : cc_env WF L xs) (hl : le_hand WF L xs) (hL : L ≤ 3072) (hi : i + 6 ≤ L) (hI : la_I WF le_cps M) (hS : le_SS M) (k18 : le_K WF L xs i) : la_R L xs 100 1033 (la_lv (Int32.ofInt (i : Int))) (sx_cs1 (la_rho xs L i) [(0, 2, 0), (2, 0, 8)]) (sx_HH cl_lay cl_rf M) := by
  obtain ⟨z, M1, M2, h0, h1, h2, h3, h4, h5, h6, hS2⟩ := fs_bu he.1 hI hS (le_w hL hi 2)
  exact lb_pair0 (kd := 0) (kx := 115) (km := 241) (px := 1033) (pm := 1043) (ix := 120) (im := 123) (s0 := [(0, 2, 0), (2, 0, 8)]) (s1 := [(0, 2, 0), (2, 0, 53)]) (asx := [(2, 0, 8), (0, 2, 0)]) (asm := [(2, 0, 53), (0, 2, 0)]) (Or.inl rfl) rfl rfl rfl rfl (by decide +kernel) (by decide +kernel) (by decide +kernel) (by decide +kernel) hL hi ⟨z, z, M1, M2, lp_same h1, h2, h3, h4, h5, k18 M2 h6 hS2⟩
theorem le_p1074 (he : cc_env WF L xs) (hl : le_hand WF L xs) (hL : L ≤ 3072) (hi : i + 6 ≤ L) (hI : la_I WF le_cps M) (hS : le_SS M) (k18 : le_K WF L xs i) : la_R L xs 100 1074 (la_lv (Int32.ofInt (i : Int))) (sx_cs1 (la_rho xs L i) [(2, 0, 8)]) (sx_HH cl_lay cl_rf M) := by
  obtain ⟨z, M1, M2, h0, h1, h2, h3, h4, h5, h6, hS2⟩ := fs_im he.1 hI hS 
  exact lb_pair0 (kd := 0) (kx := 117) (km := 243) (px := 1074) (pm := 1079) (ix := 128) (im := 131) (s0 := [(2, 0, 8)]) (s1 := [(2, 0, 53)]) (asx := [(2, 0, 8)]) (asm := [(2, 0, 53)]) (Or.inl rfl) rfl rfl rfl rfl (by decide +kernel) (by decide +kernel) (by decide +kernel) (by decide +kernel) hL hi ⟨z, z, M1, M2, lp_same h1, h2, h3, h4, h5, k18 M2 h6 hS2⟩
theorem le_p1087 (he : cc_env WF L xs) (hl : le_hand WF L xs) (hL : L ≤ 3072) (hi : i + 6 ≤ L) (hI : la_I WF le_cps M) (hS : le_SS M) (k18 : le_K WF L xs i) : la_R L xs 100 1087 (la_lv (Int32.ofInt (i : Int))) (sx_cs1 (la_rho xs L i) [(2, 0, 8)]) (sx_HH cl_lay cl_rf M) := by
  obtain ⟨z, M1, M2, h0, h1, h2, h3, h4, h5, h6, hS2⟩ := fs_bk he.1 hI hS 
  exact lb_pair0 (kd := 0) (kx := 119) (km := 244) (px := 1087) (pm := 1092) (ix := 132) (im := 135) (s0 := [(2, 0, 8)]) (s1 := [(2, 0, 53)]) (asx := [(2, 0, 8)]) (asm := [(2, 0, 53)]) (Or.inl rfl) rfl rfl rfl rfl (by decide +kernel) (by decide +kernel) (by decide +kernel) (by decide +kernel) hL hi ⟨z, z, M1, M2, lp_same h1, h2, h3, h4, h5, k18 M2 h6 hS2⟩
theorem le_p1100 (he : cc_env WF L xs) (hl : le_hand WF L xs) (hL : L ≤ 3072) (hi : i + 6 ≤ L) (hI : la_I WF le_cps M) (hS : le_SS M) (k18 : le_K WF L xs i) : la_R L xs 100 1100 (la_lv (Int32.ofInt (i : Int))) (sx_cs1 (la_rho xs L i) [(2, 0, 8)]) (sx_HH cl_lay cl_rf M) := by
  obtain ⟨z, M1, M2, h0, h1, h2, h3, h4, h5, h6, hS2⟩ := fs_un he.1 hI hS 
  exact lb_pair0 (kd := 0) (kx := 121) (km := 160) (px := 1100) (pm := 1105) (ix := 136) (im := 139) (s0 := [(2, 0, 8)]) (s1 := [(2, 0, 53)]) (asx := [(2, 0, 8)]) (asm := [(2, 0, 53)]) (Or.inl rfl) rfl rfl rfl rfl (by decide +kernel) (by decide +kernel) (by decide +kernel) (by decide +kernel) hL hi ⟨z, z, M1, M2, lp_same h1, h2, h3, h4, h5, k18 M2 h6 hS2⟩
theorem le_p1113 (he : cc_env WF L xs) (hl : le_hand WF L xs) (hL : L ≤ 3072) (hi : i + 6 ≤ L) (hI : la_I WF le_cps M) (hS : le_SS M) (k18 : le_K WF L xs i) : la_R L xs 100 1113 (la_lv (Int32.ofInt (i : Int))) (sx_cs1 (la_rho xs L i) [(2, 0, 8)]) (sx_HH cl_lay cl_rf M) := by
  obtain ⟨z, M1, M2, h0, h1, h2, h3, h4, h5, h6, hS2⟩ := fs_re he.1 hI hS 
  exact lb_pair0 (kd := 0) (kx := 123) (km := 162) (px := 1113) (pm := 1118) (ix := 140) (im := 143) (s0 := [(2, 0, 8)]) (s1 := [(2, 0, 53)]) (asx := [(2, 0, 8)]) (asm := [(2, 0, 53)]) (Or.inl rfl) rfl rfl rfl rfl (by decide +kernel) (by decide +kernel) (by decide +kernel) (by decide +kernel) hL hi ⟨z, z, M1, M2, lp_same h1, h2, h3, h4, h5, k18 M2 h6 hS2⟩
theorem le_p1225 (he : cc_env WF L xs) (hl : le_hand WF L xs) (hL : L ≤ 3072) (hi : i + 6 ≤ L) (hI : la_I WF le_cps M) (hS : le_SS M) (k18 : le_K WF L xs i) : la_R L xs 100 1225 (la_lv (Int32.ofInt (i : Int))) (sx_cs1 (la_rho xs L i) [(0, 3, 0), (0, 2, 0), (2, 0, 8)]) (sx_HH cl_lay cl_rf M) := by
  obtain ⟨z, M1, M2, h0, h1, h2, h3, h4, h5, h6, hS2⟩ := fs_kp he.1 hI hS (le_w hL hi 2) (le_w hL hi 3)
  exact lb_pair0 (kd := 0) (kx := 138) (km := 263) (px := 1225) (pm := 1240) (ix := 156) (im := 159) (s0 := [(0, 3, 0), (0, 2, 0), (2, 0, 8)]) (s1 := [(0, 3, 0), (0, 2, 0), (2, 0, 53)]) (asx := [(2, 0, 8), (0, 2, 0), (0, 3, 0)]) (asm := [(2, 0, 53), (0, 2, 0), (0, 3, 0)]) (Or.inl rfl) rfl rfl rfl rfl (by decide +kernel) (by decide +kernel) (by decide +kernel) (by decide +kernel) hL hi ⟨z, z, M1, M2, lp_same h1, h2, h3, h4, h5, k18 M2 h6 hS2⟩
theorem le_p1263 (he : cc_env WF L xs) (hl : le_hand WF L xs) (hL : L ≤ 3072) (hi : i + 6 ≤ L) (hI : la_I WF le_cps M) (hS : le_SS M) (k18 : le_K WF L xs i) : la_R L xs 100 1263 (la_lv (Int32.ofInt (i : Int))) (sx_cs1 (la_rho xs L i) [(0, 4, 0), (0, 3, 0), (0, 2, 0), (2, 0, 8)]) (sx_HH cl_lay cl_rf M) := by
  obtain ⟨z, M1, M2, h0, h1, h2, h3, h4, h5, h6, hS2⟩ := fs_ro he.1 hI hS (le_w hL hi 2) (le_w hL hi 3) (le_w hL hi 4)
  exact lb_pair0 (kd := 0) (kx := 140) (km := 264) (px := 1263) (pm := 1283) (ix := 160) (im := 163) (s0 := [(0, 4, 0), (0, 3, 0), (0, 2, 0), (2, 0, 8)]) (s1 := [(0, 4, 0), (0, 3, 0), (0, 2, 0), (2, 0, 53)]) (asx := [(2, 0, 8), (0, 2, 0), (0, 3, 0), (0, 4, 0)]) (asm := [(2, 0, 53), (0, 2, 0), (0, 3, 0), (0, 4, 0)]) (Or.inl rfl) rfl rfl rfl rfl (by decide +kernel) (by decide +kernel) (by decide +kernel) (by decide +kernel) hL hi ⟨z, z, M1, M2, lp_same h1, h2, h3, h4, h5, k18 M2 h6 hS2⟩
theorem le_p1301 (he : cc_env WF L xs) (hl : le_hand WF L xs) (hL : L ≤ 3072) (hi : i + 6 ≤ L) (hI : la_I WF le_cps M) (hS : le_SS M) (k18 : le_K WF L xs i) : la_R L xs 100 1301 (la_lv (Int32.ofInt (i : Int))) (sx_cs1 (la_rho xs L i) [(0, 3, 0), (0, 2, 0), (2, 0, 8)]) (sx_HH cl_lay cl_rf M) :=
  lb_put (p0 := 1301) (px := 1321) (p1 := 1336) (pm := 1356) (ix := 166) (im := 170) (tl := []) (Or.inl rfl) rfl rfl rfl rfl (by decide +kernel) (by decide +kernel) (by decide +kernel) (by decide +kernel) (by decide +kernel) hL hi hI.1 (fun v hv => by
    obtain ⟨z, M1, M2, h0, h1, h2, h3, h4, h5, h6, hS2⟩ := fs_pt he.1 hI hS (la_rho32 hL hi 2) (la_rho32 hL hi 3) hv
    exact ⟨z, M1, M2, h0, h1, h2, h3, h4, h5, k18 M2 h6 hS2⟩)
theorem le_p1422 (he : cc_env WF L xs) (hl : le_hand WF L xs) (hL : L ≤ 3072) (hi : i + 6 ≤ L) (hI : la_I WF le_cps M) (hS : le_SS M) (k18 : le_K WF L xs i) : la_R L xs 100 1422 (la_lv (Int32.ofInt (i : Int))) (sx_cs1 (la_rho xs L i) [(0, 6, 0), (0, 5, 0), (0, 4, 0), (0, 3, 0), (0, 2, 0), (2, 0, 8)]) (sx_HH cl_lay cl_rf M) := by
  obtain ⟨z, M1, M2, h0, h1, h2, h3, h4, h5, h6, hS2⟩ := fs_sf he.1 hI hS (le_w hL hi 2) (le_w hL hi 3) (le_w hL hi 4) (le_w hL hi 5) (le_w hL hi 6)
  exact lb_pair0 (kd := 0) (kx := 147) (km := 268) (px := 1422) (pm := 1452) (ix := 175) (im := 179) (s0 := [(0, 6, 0), (0, 5, 0), (0, 4, 0), (0, 3, 0), (0, 2, 0), (2, 0, 8)]) (s1 := [(0, 6, 0), (0, 5, 0), (0, 4, 0), (0, 3, 0), (0, 2, 0), (2, 0, 53)]) (asx := [(2, 0, 8), (0, 2, 0), (0, 3, 0), (0, 4, 0), (0, 5, 0), (0, 6, 0)]) (asm := [(2, 0, 53), (0, 2, 0), (0, 3, 0), (0, 4, 0), (0, 5, 0), (0, 6, 0)]) (Or.inl rfl) rfl rfl rfl rfl (by decide +kernel) (by decide +kernel) (by decide +kernel) (by decide +kernel) hL hi ⟨z, z, M1, M2, lp_same h1, h2, h3, h4, h5, k18 M2 h6 hS2⟩
theorem le_n27 (he : cc_env WF L xs) (hl : le_hand WF L xs) (hL : L ≤ 3072) (hi : i + 6 ≤ L) (hI : la_I WF le_cps M) (hS : le_SS M) (k18 : le_K WF L xs i) : la_R L xs 100 27 (la_lv (Int32.ofInt (i : Int))) [] (sx_HH cl_lay cl_rf M) :=
  lb_node le_c27 le_fp le_d27 he.2.1 (le_all he) hL hi hI hS (fun q hq => by cases hq) k18 (fun q hq => by cases hq) (fun q hq M' hI' hS' => by
    simp only [le_q27, List.mem_cons, List.not_mem_nil, or_false] at hq
    rcases hq with rfl | rfl | rfl | rfl | rfl | rfl | rfl | rfl | rfl | rfl | rfl | rfl | rfl | rfl | rfl | rfl | rfl | rfl
    · exact le_p218 he hl hL hi hI' hS' k18
    · exact le_p246 he hl hL hi hI' hS' k18
    · exact le_p284 he hl hL hi hI' hS' k18
    · exact le_p327 he hl hL hi hI' hS' k18
    · exact le_p365 he hl hL hi hI' hS' k18
    · exact le_p393 he hl hL hi hI' hS' k18
    · exact le_p411 he hl hL hi hI' hS' k18
    · exact le_p726 he hl hL hi hI' hS' k18
    · exact le_p1010 he hl hL hi hI' hS' k18
    · exact le_p1033 he hl hL hi hI' hS' k18
    · exact le_p1074 he hl hL hi hI' hS' k18
    · exact le_p1087 he hl hL hi hI' hS' k18
    · exact le_p1100 he hl hL hi hI' hS' k18
    · exact le_p1113 he hl hL hi hI' hS' k18
    · exact le_p1225 he hl hL hi hI' hS' k18
    · exact le_p1263 he hl hL hi hI' hS' k18
    · exact le_p1301 he hl hL hi hI' hS' k18
    · exact le_p1422 he hl hL hi hI' hS' k18
    )
theorem le_cmp (hL : L ≤ 3072) (hi : i ≤ L) : sm_c2 .gt (Int32.ofInt (i : Int)) (Int32.ofNat L - 6) = decide (L < i + 6) := by
  have e : Int32.ofNat L - 6 = Int32.ofInt ((L : Int) - 6) := by
    rw [Int32.ofInt_sub, Int32.ofInt_eq_ofNat]
    rfl
  show decide (Int32.ofNat L - 6 < Int32.ofInt (i : Int)) = _
  rw [e]
  have h := sx_lt32 (a := (L : Int) - 6) (b := (i : Int)) (by rw [sx_r32_iff]; omega) (by rw [sx_r32_iff]; omega)
  exact decide_eq_decide.mpr ⟨fun h9 => by have := h.mp h9; omega, fun h9 => h.mpr (by omega)⟩
set_option maxRecDepth 100000 in
theorem le_head (hL : L ≤ 3072) (hi : i ≤ L) (h : sm_H) (hs : h.length ≤ 600000 ∧ sm_sz h ≤ 7302250) (k : i + 6 ≤ L → la_R L xs 100 27 (la_lv (Int32.ofInt (i : Int))) [] h) : la_R L xs 100 18 (la_lv (Int32.ofInt (i : Int))) [] h := by
  generalize hz : Int32.ofInt (i : Int) = z at k ⊢
  refine la_st (pc := 18) (ins := .iload_n 3) (len := 1) rfl rfl rfl rfl (o := (19, la_lv z, [.int z], h)) rfl ?_
  refine la_st (pc := 19) (ins := .aload_n 0) (len := 1) rfl rfl rfl rfl (o := (20, la_lv z, [.ref 0, .int z], h)) rfl ?_
  refine la_st (pc := 20) (ins := .arraylength) (len := 1) rfl rfl rfl rfl (o := (21, la_lv z, [.int (Int32.ofNat L), .int z], h)) rfl ?_
  refine la_st (pc := 21) (ins := .bipush 6) (len := 2) rfl rfl rfl rfl (o := (23, la_lv z, [.int 6, .int (Int32.ofNat L), .int z], h)) rfl ?_
  refine la_st (pc := 23) (ins := .isub) (len := 1) rfl rfl rfl rfl (o := (24, la_lv z, [.int (Int32.ofNat L - 6), .int z], h)) rfl ?_
  have hc := le_cmp hL hi
  rw [hz] at hc
  by_cases hlt : L < i + 6
  · refine la_st (pc := 24) (ins := .if_icmp .gt 1497) (len := 3) rfl rfl rfl rfl (o := (24 + 1497, la_lv z, [], h)) ?_ ?_
    · show sm_br (sm_tg 24 1497) (sm_c2 .gt z (Int32.ofNat L - 6)) 24 (la_lv z) [] h = _
      rw [hc, decide_eq_true hlt]
      rfl
    refine la_st (pc := 24 + 1497) (ins := .iconst 1) (len := 1) rfl rfl rfl rfl (o := (25 + 1497, la_lv z, [.int 1], h)) rfl ?_
    refine ⟨1, h, ?_, hs⟩
    rw [sm_run_f (ins := .ireturn) (len := 1) rfl rfl]
    rfl
  · refine la_st (pc := 24) (ins := .if_icmp .gt 1497) (len := 3) rfl rfl rfl rfl (o := (27, la_lv z, [], h)) ?_ (k (by omega))
    show sm_br (sm_tg 24 1497) (sm_c2 .gt z (Int32.ofNat L - 6)) 24 (la_lv z) [] h = _
    rw [hc, decide_eq_false hlt]
    rfl
theorem le_loop (he : cc_env WF L xs) (hl : le_hand WF L xs) (hL : L ≤ 3072) : ∀ (n i : Nat) (M : Nat → Nat → Int), L - i ≤ n → i ≤ L → la_I WF le_cps M → le_SS M → la_R L xs 100 18 (la_lv (Int32.ofInt (i : Int))) [] (sx_HH cl_lay cl_rf M) := by
  intro n
  induction n with
  | zero =>
    intro i M h1 h2 hI hS
    exact le_head hL h2 _ (cl_small M) (fun h => by omega)
  | succ n ih =>
    intro i M h1 h2 hI hS
    refine le_head hL h2 _ (cl_small M) (fun h => le_n27 he hl hL h hI hS (fun M' hI' hS' => ?_))
    have := ih (i + 6) M' (by omega) h hI' hS'
    push_cast at this
    exact this
noncomputable def le_jq (q : Nat) : Bool := sx_an (sx_an (sx_eq (cl_M0 33 (4 * q)) 0) (sx_an (sx_eq (cl_M0 33 (4 * q + 1)) 0) (sx_an (sx_eq (cl_M0 33 (4 * q + 2)) 0) (sx_eq (cl_M0 33 (4 * q + 3)) 0)))) (sx_an (sx_eq (cl_M0 62 q) 0) (sx_an (sx_eq (cl_M0 63 q) 0) (sx_an (sx_eq (cl_M0 64 q) 0) (sx_eq (cl_M0 65 q) 0))))
set_option maxRecDepth 100000 in
theorem le_jq_all : (List.range 40).all le_jq = true := by decide +kernel
set_option maxRecDepth 100000 in
theorem le_ini : sx_an (sx_an (sx_eq (cl_M0 32 1) 0) (sx_eq (cl_M0 32 2) 0)) (sx_an (sx_an (sx_eq (cl_M0 53 14) 0) (sx_eq (cl_M0 53 15) 0)) (sx_eq (cl_M0 10 210) 0)) = true := by decide +kernel
set_option maxRecDepth 100000 in
theorem le_cp0 : (le_cps.all fun q => sx_an (sx_in (cl_M0 q.1.1 q.1.2, cl_M0 q.1.1 q.1.2) q.2.2) (sx_eq (cl_M0 q.1.1 q.1.2) (cl_M0 q.2.1.1 q.2.1.2))) = true := by decide +kernel
theorem le_jp0 : jp 0 0 0 0 := by unfold jp; omega
theorem le_J0 : JJ cl_M0 := by
  obtain ⟨h1, h2⟩ := sx_an_iff.mp le_ini
  obtain ⟨h1, h3⟩ := sx_an_iff.mp h1
  obtain ⟨h2, h4⟩ := sx_an_iff.mp h2
  obtain ⟨h2, h5⟩ := sx_an_iff.mp h2
  have h1 := sx_eq_iff.mp h1
  have h3 := sx_eq_iff.mp h3
  have h2 := sx_eq_iff.mp h2
  have h5 := sx_eq_iff.mp h5
  refine ⟨fun q hq => ?_, fun q hq => ?_, by rw [h1, h3]; decide, by rw [h2, h5]; decide⟩
  · obtain ⟨a, -⟩ := sx_an_iff.mp (List.all_eq_true.mp le_jq_all q (List.mem_range.mpr hq))
    obtain ⟨a0, a⟩ := sx_an_iff.mp a
    obtain ⟨a1, a⟩ := sx_an_iff.mp a
    obtain ⟨a2, a3⟩ := sx_an_iff.mp a
    show jp (cl_M0 33 (4 * q)) (cl_M0 33 (4 * q + 1)) (cl_M0 33 (4 * q + 2)) (cl_M0 33 (4 * q + 3))
    rw [sx_eq_iff.mp a0, sx_eq_iff.mp a1, sx_eq_iff.mp a2, sx_eq_iff.mp a3]
    exact le_jp0
  · obtain ⟨-, a⟩ := sx_an_iff.mp (List.all_eq_true.mp le_jq_all q (List.mem_range.mpr hq))
    obtain ⟨a0, a⟩ := sx_an_iff.mp a
    obtain ⟨a1, a⟩ := sx_an_iff.mp a
    obtain ⟨a2, a3⟩ := sx_an_iff.mp a
    show jp (cl_M0 62 q) (cl_M0 63 q) (cl_M0 64 q) (cl_M0 65 q)
    rw [sx_eq_iff.mp a0, sx_eq_iff.mp a1, sx_eq_iff.mp a2, sx_eq_iff.mp a3]
    exact le_jp0
theorem le_cpM (h : (le_cps.all fun q => sx_an (sx_in (M q.1.1 q.1.2, M q.1.1 q.1.2) q.2.2) (sx_eq (M q.1.1 q.1.2) (M q.2.1.1 q.2.1.2))) = true) : la_eq le_cps M := fun q hq => by
  obtain ⟨a, b⟩ := sx_an_iff.mp (List.all_eq_true.mp h q hq)
  exact ⟨sx_in_iff.mp a, sx_eq_iff.mp b⟩
theorem le_I0 (hw0 : WF cl_M0) : la_I WF le_cps cl_M0 := by
  refine ⟨cl_mok, le_J0, hw0, ?_, le_cpM (M := cl_M0) le_cp0⟩
  · rw [sx_eq_iff.mp (sx_an_iff.mp (sx_an_iff.mp le_ini).2).2]
    exact ⟨by decide, by decide⟩
theorem le_S0 : le_SS cl_M0 := fs_S0
theorem le_runs (he : cc_env WF L xs) (hl : le_hand WF L xs) (hw0 : WF cl_M0) (hL : L ≤ 3072) : ∃ (f d : Nat) (hf : sm_H), sm_run sm_MT sm_LK (sm_RO L xs) sm_NV sm_cq f d 0 0 [(0, .ref 0)] [] [] = some (some (.int 1), hf) ∧ d ≤ room_1.frames ∧ d * 100 ≤ room_1.locals ∧ hf.length ≤ room_1.cells ∧ sm_sz hf ≤ room_1.slots := by
  have h := le_loop he hl hL L 0 cl_M0 (by omega) (Nat.zero_le _) (le_I0 hw0) le_S0
  rw [← cl_h_eq] at h
  obtain ⟨F, hf, e, e1, e2⟩ := la_pre h
  exact ⟨F, 100, hf, e, by decide, by decide, e1, e2⟩
end
