/-! Rows of bytes hold bytes: what else both sides hold. -/
section
variable {L : Nat} {xs : Nat → Int32} {M M' N N' M0 M1 M2 : Nat → Nat → Int} {k kx km : Nat} {as ax am : List Value} {r : Int × Int} {b c d e f v : Int} {II : (Nat → Nat → Int) → Prop}
def bb (M : Nat → Nat → Int) : Prop := ∀ c, c < 6 → M 87 c = -2 → ∀ i : Nat, (i : Int) < M 88 c → -128 ≤ M 89 (60 * c + i) ∧ M 89 (60 * c + i) ≤ 127
theorem bb_fp : lb_fp [87, 88, 89] [] bb := fun M M' z _ h => by
  have z : ∀ a ∈ [87, 88, 89], M' a = M a := z
  unfold bb
  rw [z 87 (by decide), z 88 (by decide), z 89 (by decide)]
  exact h
theorem bb_0 : bb cl_M0 := fun c hc h => by
  have h1 : ((List.range 6).all fun c => sx_eq (cl_M0 87 c) (-1)) = true := by decide +kernel
  have h2 := sx_eq_iff.mp (List.all_eq_true.mp h1 c (List.mem_range.mpr hc))
  rw [h2] at h
  exact absurd h (by decide)
def gs_SS (M : Nat → Nat → Int) : Prop := fs_SS M ∧ bb M
theorem gs_fp : lb_fp (bs_zc ++ fs_zc) (nm_zp ++ fs_zp) gs_SS := fun M M' h1 h2 h => ⟨fs_fp M M' h1 h2 h.1, bb_fp M M' (fun z hz => h1 z (by
  have : ∀ z ∈ [87, 88, 89], z ∈ bs_zc ++ fs_zc := by decide +kernel
  exact this z hz)) (fun p hp => by cases hp) h.2⟩
theorem gs_S0 : gs_SS cl_M0 := ⟨fs_S0, bb_0⟩
def gs_P (WF : (Nat → Nat → Int) → Prop) (L : Nat) (xs : Nat → Int32) (kd kx km : Nat) (ax am : List Value) (r : Int × Int) (M : Nat → Nat → Int) : Prop := ∃ z M1 M2, sx_w r z ∧ ((kd = 0 ∧ sx_w sx_r32 z) ∨ (kd = 1 ∧ sx_w sx_r64 z)) ∧ lb_run L xs kx ax M (lb_val kd z) M1 ∧ sx_mok cl_ly M1 ∧ lb_run L xs km am M1 (lb_val kd z) M2 ∧ sx_mok cl_ly M2 ∧ la_I WF bs_cps M2 ∧ gs_SS M2
/-- an element of a row of longs -/
theorem fd_lng {a i : Nat} {g : sx_H} (hH : sx_HH cl_lay cl_rf N = sx_HH cl_lay cl_rf N') (e : cl_ly a = some g) (h0 : g.1 = 0) (h1 : g.2.1 = 1) (w : sx_w sx_r64 (N a i)) (w' : sx_w sx_r64 (N' a i)) : N a i = N' a i := by
  have h := fd_cell hH e
  unfold sx_hc at h
  rw [if_pos h0, if_pos h0, if_pos h1, if_pos h1] at h
  have h := (Prod.mk.inj (Prod.mk.inj (Sum.inl.inj h)).2).2
  have h := Sum.inl.inj (Sum.inr.inj h)
  have h := congrFun h i
  rw [← sx_i64 w, ← sx_i64 w', show Int64.ofInt (N a i) = Int64.ofInt (N' a i) from h]
theorem bb_H (hH : sx_HH cl_lay cl_rf N = sx_HH cl_lay cl_rf N') (m : sx_mok cl_ly N) (m' : sx_mok cl_ly N') (h : bb N') : bb N := fun c hc h87 i hi => by
  have a87 : ∀ {K : Nat → Nat → Int}, sx_mok cl_ly K → sx_w (-6, 49) (K 87 c) := fun {K} hm => hm 87 _ c _ rfl hc rfl
  have a88 : ∀ {K : Nat → Nat → Int}, sx_mok cl_ly K → sx_w (0, 60) (K 88 c) := fun {K} hm => hm 88 _ c _ rfl hc rfl
  have p87 : -6 ≤ N 87 c ∧ N 87 c ≤ 49 := a87 m
  have q87 : -6 ≤ N' 87 c ∧ N' 87 c ≤ 49 := a87 m'
  have p88 : 0 ≤ N 88 c ∧ N 88 c ≤ 60 := a88 m
  have q88 : 0 ≤ N' 88 c ∧ N' 88 c ≤ 60 := a88 m'
  have e87 : N 87 c = N' 87 c := fd_arr hH rfl rfl (by decide) (by decide) (og_w32 (by omega) (by omega)) (og_w32 (by omega) (by omega))
  have e88 : N 88 c = N' 88 c := fd_arr hH rfl rfl (by decide) (by decide) (og_w32 (by omega) (by omega)) (og_w32 (by omega) (by omega))
  have e89 : N 89 (60 * c + i) = N' 89 (60 * c + i) := fd_lng hH rfl rfl rfl (m 89 _ _ _ rfl (by show 60 * c + i < 360; omega) rfl) (m' 89 _ _ _ rfl (by show 60 * c + i < 360; omega) rfl)
  rw [e89]
  exact h c hc (by rw [← e87]; exact h87) i (by rw [← e88]; exact hi)
/-- the pair stays, and with it that bytes are bytes -/
theorem gb_of {kd : Nat} (hP : fs_P WF L xs kd kx km ax am r M) (h1 : ∃ v N, lb_run L xs kx ax M v N ∧ sx_mok cl_ly N ∧ II N ∧ bb N) (h2 : ∀ N, sx_mok cl_ly N → II N → bb N → ∃ v N', lb_run L xs km am N v N' ∧ sx_mok cl_ly N' ∧ bb N') : gs_P WF L xs kd kx km ax am r M := by
  obtain ⟨z, M1, M2, p0, p1, p2, p3, p4, p5, p6, p7⟩ := hP
  obtain ⟨v, N1, n1, n2, n3, n4⟩ := h1
  obtain ⟨-, e1⟩ := fd_run p2 n1
  obtain ⟨v', N2, q1, q2, q3⟩ := h2 N1 n2 n3 n4
  have p4' : lb_run L xs km am N1 (lb_val kd z) M2 := by
    unfold lb_run at p4 ⊢
    rw [← e1]
    exact p4
  obtain ⟨-, e2⟩ := fd_run p4' q1
  exact ⟨z, M1, M2, p0, p1, p2, p3, p4, p5, p6, p7, bb_H e2 p5 q2 q3⟩
theorem gs_pre {c : ct_C} (hm : sx_mok cl_ly M) (h : sx_w (0, 29) (M 10 210)) (hc : (c.2.1.all fun g => bif cv_ly cl_ly g then true else sx_an (Nat.beq g.1 10) (sx_an (Nat.beq g.2.1 210) (sx_in (0, 29) g.2.2))) = true) : ct_g c.2.1 M := fun g hg => by
  have h1 := List.all_eq_true.mp hc g hg
  cases e : cv_ly cl_ly g with
  | true => exact cv_ly_ok hm e
  | false =>
    rw [e] at h1
    obtain ⟨h2, h3⟩ := sx_an_iff.mp (show sx_an (Nat.beq g.1 10) (sx_an (Nat.beq g.2.1 210) (sx_in (0, 29) g.2.2)) = true from h1)
    obtain ⟨h3, h4⟩ := sx_an_iff.mp h3
    rw [sx_nbeq.mp h2, sx_nbeq.mp h3]
    have h4 := sx_in_iff.mp h4
    exact ⟨Int.le_trans h4.1 h.1, Int.le_trans h.2 h4.2⟩
theorem gs_prm {c : ct_C} (hm : sx_mok cl_ly M) (hc : (c.2.1.all (cv_ly cl_ly)) = true) : ct_g c.2.1 M := fun g hg => cv_ly_ok hm (List.all_eq_true.mp hc g hg)
/-- a call by its contract -/
theorem gb_cc (he : cc_env WF L xs) {c : ct_C} {q : Int × Int} (h : cc WF L xs k c) (hr : c.2.2.2.2.1 = some (0, q)) (hd : c.2.2.2.2.2.1 ≤ 99) (hv : ct_vs c.1 as) (hg : ct_g c.2.1 M) (hm : sx_mok cl_ly M) (hW : WF M) (hb : bb M) (hu : lb_cu [87, 88, 89] [] c = true) (hw : lb_cu cz_zs [] c = true) : ∃ v N, lb_run L xs k as M v N ∧ sx_mok cl_ly N ∧ WF N ∧ bb N := by
  obtain ⟨z, N, z1, z2, z3, z4, z5, z6⟩ := lp_cc (M := M) (as := as) h hr hd hv hg hm hW
  exact ⟨_, N, z3, z4, lb_cu_ok (fp_WF he.2.1) hw z5 hW, lb_cu_ok bb_fp hu z5 hb⟩
theorem gb_cx (he : cc_env WF L xs) {c : ct_C} {q : Int × Int} (h : cc WF L xs k c) (hr : c.2.2.2.2.1 = some (0, q)) (hd : c.2.2.2.2.2.1 ≤ 99) (hv : ct_vs c.1 as) (hg : ct_g c.2.1 M) (hm : sx_mok cl_ly M) (hW : WF M) (hb : bb M) (hu : lb_cu [87, 88, 89] [] c = true) : ∃ v N, lb_run L xs k as M v N ∧ sx_mok cl_ly N ∧ bb N := by
  obtain ⟨z, N, z1, z2, z3, z4, z5, z6⟩ := lp_cc (M := M) (as := as) h hr hd hv hg hm hW
  exact ⟨_, N, z3, z4, lb_cu_ok bb_fp hu z5 hb⟩
theorem gs_hs (he : cc_env WF L xs) (hI : la_I WF bs_cps M) (hS : gs_SS M) (hb : sx_w sx_r32 b) : gs_P WF L xs 0 11 153 [.ref 8, .int (Int32.ofInt b)] [.ref 53, .int (Int32.ofInt b)] (-3, 5) M :=
  gb_of (II := WF) (fs_hs he.1 hI hS.1 hb) (gb_cc he (c_house he) rfl (show (3 : Nat) ≤ 99 by decide) ⟨lp_rf (show (8 : Int).toNat = 8 from rfl), lp_v hb hb, trivial⟩ (gs_pre hI.1 hI.2.2.2.1 (by decide +kernel)) hI.1 hI.2.2.1 hS.2 (by decide +kernel) (by decide +kernel)) (fun N mN wN bN => gb_cx he (c_mhouse he) rfl (show (2 : Nat) ≤ 99 by decide) ⟨lp_rf (show (53 : Int).toNat = 53 from rfl), lp_v hb hb, trivial⟩ (gs_prm mN (by decide +kernel)) mN wN bN (by decide +kernel))
theorem gs_ka (he : cc_env WF L xs) (hI : la_I WF bs_cps M) (hS : gs_SS M) (hb : sx_w sx_r32 b) (hc : sx_w sx_r32 c) : gs_P WF L xs 0 15 155 [.ref 8, .int (Int32.ofInt b), .int (Int32.ofInt c)] [.ref 53, .int (Int32.ofInt b), .int (Int32.ofInt c)] (-3, 11) M :=
  gb_of (II := WF) (fs_ka he.1 hI hS.1 hb hc) (gb_cc he (c_card he) rfl (show (3 : Nat) ≤ 99 by decide) ⟨lp_rf (show (8 : Int).toNat = 8 from rfl), lp_v hb hb, lp_v hc hc, trivial⟩ (gs_pre hI.1 hI.2.2.2.1 (by decide +kernel)) hI.1 hI.2.2.1 hS.2 (by decide +kernel) (by decide +kernel)) (fun N mN wN bN => gb_cx he (c_mcard he) rfl (show (3 : Nat) ≤ 99 by decide) ⟨lp_rf (show (53 : Int).toNat = 53 from rfl), lp_v hb hb, lp_v hc hc, trivial⟩ (gs_prm mN (by decide +kernel)) mN wN bN (by decide +kernel))
theorem gs_cd (he : cc_env WF L xs) (hI : la_I WF bs_cps M) (hS : gs_SS M) (hb : sx_w sx_r32 b) (hc : sx_w sx_r32 c) (hd : sx_w sx_r32 d) : gs_P WF L xs 0 18 158 [.ref 8, .int (Int32.ofInt b), .int (Int32.ofInt c), .int (Int32.ofInt d)] [.ref 53, .int (Int32.ofInt b), .int (Int32.ofInt c), .int (Int32.ofInt d)] (-12, 12) M :=
  gb_of (II := WF) (fs_cd he.1 hI hS.1 hb hc hd) (gb_cc he (c_cards he) rfl (show (4 : Nat) ≤ 99 by decide) ⟨lp_rf (show (8 : Int).toNat = 8 from rfl), lp_v hb hb, lp_v hc hc, lp_v hd hd, trivial⟩ (gs_pre hI.1 hI.2.2.2.1 (by decide +kernel)) hI.1 hI.2.2.1 hS.2 (by decide +kernel) (by decide +kernel)) (fun N mN wN bN => gb_cx he (c_mcards he) rfl (show (3 : Nat) ≤ 99 by decide) ⟨lp_rf (show (53 : Int).toNat = 53 from rfl), lp_v hb hb, lp_v hc hc, lp_v hd hd, trivial⟩ (gs_prm mN (by decide +kernel)) mN wN bN (by decide +kernel))
theorem gs_pa (he : cc_env WF L xs) (hI : la_I WF bs_cps M) (hS : gs_SS M) (hb : sx_w sx_r32 b) : gs_P WF L xs 0 113 240 [.ref 8, .int (Int32.ofInt b)] [.ref 53, .int (Int32.ofInt b)] (-5, 5) M :=
  gb_of (II := WF) (fs_pa he.1 hI hS.1 hb) (gb_cc he (c_pass he) rfl (show (6 : Nat) ≤ 99 by decide) ⟨lp_rf (show (8 : Int).toNat = 8 from rfl), lp_v hb hb, trivial⟩ (gs_pre hI.1 hI.2.2.2.1 (by decide +kernel)) hI.1 hI.2.2.1 hS.2 (by decide +kernel) (by decide +kernel)) (fun N mN wN bN => gb_cx he (c_mpass he) rfl (show (9 : Nat) ≤ 99 by decide) ⟨lp_rf (show (53 : Int).toNat = 53 from rfl), lp_v hb hb, trivial⟩ (gs_prm mN (by decide +kernel)) mN wN bN (by decide +kernel))
theorem gs_fd (he : cc_env WF L xs) (hI : la_I WF bs_cps M) (hS : gs_SS M) (hb : sx_w sx_r32 b) : gs_P WF L xs 0 30 172 [.ref 8, .int (Int32.ofInt b)] [.ref 53, .int (Int32.ofInt b)] (-3, 120) M :=
  gb_of (II := WF) (fs_fd he.1 hI hS.1 hb) (gb_cc he (c_feed he) rfl (show (2 : Nat) ≤ 99 by decide) ⟨lp_rf (show (8 : Int).toNat = 8 from rfl), lp_v hb hb, trivial⟩ (gs_pre hI.1 hI.2.2.2.1 (by decide +kernel)) hI.1 hI.2.2.1 hS.2 (by decide +kernel) (by decide +kernel)) (fun N mN wN bN => gb_cx he (c_mfeed he) rfl (show (2 : Nat) ≤ 99 by decide) ⟨lp_rf (show (53 : Int).toNat = 53 from rfl), lp_v hb hb, trivial⟩ (gs_prm mN (by decide +kernel)) mN wN bN (by decide +kernel))
theorem gs_bu (he : cc_env WF L xs) (hI : la_I WF bs_cps M) (hS : gs_SS M) (hb : sx_w sx_r32 b) : gs_P WF L xs 0 115 241 [.ref 8, .int (Int32.ofInt b)] [.ref 53, .int (Int32.ofInt b)] (-5, 1) M :=
  gb_of (II := WF) (fs_bu he.1 hI hS.1 hb) (gb_cc he (c_build he) rfl (show (2 : Nat) ≤ 99 by decide) ⟨lp_rf (show (8 : Int).toNat = 8 from rfl), lp_v hb hb, trivial⟩ (gs_pre hI.1 hI.2.2.2.1 (by decide +kernel)) hI.1 hI.2.2.1 hS.2 (by decide +kernel) (by decide +kernel)) (fun N mN wN bN => gb_cx he (c_mbuild he) rfl (show (3 : Nat) ≤ 99 by decide) ⟨lp_rf (show (53 : Int).toNat = 53 from rfl), lp_v hb hb, trivial⟩ (gs_prm mN (by decide +kernel)) mN wN bN (by decide +kernel))
theorem gs_im (he : cc_env WF L xs) (hI : la_I WF bs_cps M) (hS : gs_SS M) : gs_P WF L xs 0 117 243 [.ref 8] [.ref 53] (0, 29) M :=
  gb_of (II := WF) (fs_im he.1 hI hS.1) (gb_cc he (c_image he) rfl (show (3 : Nat) ≤ 99 by decide) ⟨lp_rf (show (8 : Int).toNat = 8 from rfl), trivial⟩ (gs_pre hI.1 hI.2.2.2.1 (by decide +kernel)) hI.1 hI.2.2.1 hS.2 (by decide +kernel) (by decide +kernel)) (fun N mN wN bN => gb_cx he (c_mimage he) rfl (show (1 : Nat) ≤ 99 by decide) ⟨lp_rf (show (53 : Int).toNat = 53 from rfl), trivial⟩ (gs_prm mN (by decide +kernel)) mN wN bN (by decide +kernel))
theorem gs_bk (he : cc_env WF L xs) (hI : la_I WF bs_cps M) (hS : gs_SS M) : gs_P WF L xs 0 119 244 [.ref 8] [.ref 53] (-5, 29) M :=
  gb_of (II := WF) (fs_bk he.1 hI hS.1) (gb_cc he (c_back he) rfl (show (3 : Nat) ≤ 99 by decide) ⟨lp_rf (show (8 : Int).toNat = 8 from rfl), trivial⟩ (gs_pre hI.1 hI.2.2.2.1 (by decide +kernel)) hI.1 hI.2.2.1 hS.2 (by decide +kernel) (by decide +kernel)) (fun N mN wN bN => gb_cx he (c_mback he) rfl (show (1 : Nat) ≤ 99 by decide) ⟨lp_rf (show (53 : Int).toNat = 53 from rfl), trivial⟩ (gs_prm mN (by decide +kernel)) mN wN bN (by decide +kernel))
theorem gs_me (he : cc_env WF L xs) (hI : la_I WF bs_cps M) (hS : gs_SS M) (hb : sx_w sx_r32 b) (hc : sx_w sx_r32 c) (hd : sx_w sx_r32 d) : gs_P WF L xs 0 23 163 [.ref 8, .int (Int32.ofInt b), .int (Int32.ofInt c), .int (Int32.ofInt d)] [.ref 53, .int (Int32.ofInt b), .int (Int32.ofInt c), .int (Int32.ofInt d)] (-2000000000, 143) M := by
  refine gb_of (II := JJ) (fs_me he.1 hI hS.1 hb hc hd) ?_ (fun N mN jN bN => ?_)
  · obtain ⟨u, N, a1, a2, a3, a4⟩ := fd_ci (M := M) (as := [.ref 8, .int (Int32.ofInt b), .int (Int32.ofInt c), .int (Int32.ofInt d)]) (c2_xmend (xs := xs) he.1) rfl (by decide) ⟨lp_rf (show (8 : Int).toNat = 8 from rfl), lp_v hb hb, lp_v hc hc, lp_v hd hd, trivial⟩ (fun g hg => by rw [List.mem_singleton.mp hg]; exact hI.2.2.2.1) hI.1 hI.2.1
    exact ⟨u, N, a1, a2, a3, lb_cu_ok bb_fp (by decide +kernel) a4 hS.2⟩
  · obtain ⟨u, N', a1, a2, a3, a4⟩ := fd_ci (M := N) (as := [.ref 53, .int (Int32.ofInt b), .int (Int32.ofInt c), .int (Int32.ofInt d)]) (c2_mmend (xs := xs) he.1) rfl (by decide) ⟨lp_rf (show (53 : Int).toNat = 53 from rfl), lp_v hb hb, lp_v hc hc, lp_v hd hd, trivial⟩ (fun g hg => by cases hg) mN jN
    exact ⟨u, N', a1, a2, lb_cu_ok bb_fp (by decide +kernel) a4 bN⟩
theorem gs_un (he : cc_env WF L xs) (hI : la_I WF bs_cps M) (hS : gs_SS M) : gs_P WF L xs 0 121 160 [.ref 8] [.ref 53] (-5, 39) M := by
  refine gb_of (II := JJ) (fs_un he.1 hI hS.1) ?_ (fun N mN jN bN => ?_)
  · obtain ⟨u, N, a1, a2, a3, a4⟩ := fd_ci (M := M) (as := [.ref 8]) (c2_xundo (xs := xs) he.1) rfl (by decide) ⟨lp_rf (show (8 : Int).toNat = 8 from rfl), trivial⟩ (fun g hg => by rw [List.mem_singleton.mp hg]; exact hI.2.2.2.1) hI.1 hI.2.1
    exact ⟨u, N, a1, a2, a3, lb_cu_ok bb_fp (by decide +kernel) a4 hS.2⟩
  · obtain ⟨u, N', a1, a2, a3, a4⟩ := fd_ci (M := N) (as := [.ref 53]) (c2_mundo (xs := xs) he.1) rfl (by decide) ⟨lp_rf (show (53 : Int).toNat = 53 from rfl), trivial⟩ (fun g hg => by cases hg) mN jN
    exact ⟨u, N', a1, a2, lb_cu_ok bb_fp (by decide +kernel) a4 bN⟩
theorem gs_re (he : cc_env WF L xs) (hI : la_I WF bs_cps M) (hS : gs_SS M) : gs_P WF L xs 0 123 162 [.ref 8] [.ref 53] (-5, 39) M := by
  refine gb_of (II := JJ) (fs_re he.1 hI hS.1) ?_ (fun N mN jN bN => ?_)
  · obtain ⟨u, N, a1, a2, a3, a4⟩ := fd_ci (M := M) (as := [.ref 8]) (c2_xredo (xs := xs) he.1) rfl (by decide) ⟨lp_rf (show (8 : Int).toNat = 8 from rfl), trivial⟩ (fun g hg => by rw [List.mem_singleton.mp hg]; exact hI.2.2.2.1) hI.1 hI.2.1
    exact ⟨u, N, a1, a2, a3, lb_cu_ok bb_fp (by decide +kernel) a4 hS.2⟩
  · obtain ⟨u, N', a1, a2, a3, a4⟩ := fd_ci (M := N) (as := [.ref 53]) (c2_mredo (xs := xs) he.1) rfl (by decide) ⟨lp_rf (show (53 : Int).toNat = 53 from rfl), trivial⟩ (fun g hg => by cases hg) mN jN
    exact ⟨u, N', a1, a2, lb_cu_ok bb_fp (by decide +kernel) a4 bN⟩
theorem gs_lw (he : cc_env WF L xs) (hI : la_I WF bs_cps M) (hS : gs_SS M) : gs_P WF L xs 0 32 173 [.ref 8] [.ref 53] (-220, 1) M := by
  obtain ⟨l1, l2, l3⟩ := hS.1.2.2.2.2.2.2
  obtain ⟨z, M1, M2, z1, z2, a1, a2, b1, b2, w, r, e1, e2, f1, f2⟩ := vu_law (xs := xs) he.1 (ft_I hI hS.1) l2 l3
  obtain ⟨g1, g2⟩ := ft_q hI hS.1 b2 w (fun a ha h => by
    unfold ft_n at h
    exact f1 a ha (by omega) (by omega) (by omega) (by omega)) (fun j h => by
    unfold ft_m at h
    exact f2 j (by omega) (by omega)) ⟨e1.trans e2.symm, fun i hi => by
    rw [e1] at hi
    omega, r⟩
  refine ⟨z, M1, M2, z1, Or.inl ⟨rfl, z2⟩, a1, a2, b1, b2, g1, g2, bb_fp M M2 (fun u hu => ?_) (fun p hp => by cases hp) hS.2⟩
  simp only [List.mem_cons, List.not_mem_nil, or_false] at hu
  exact f1 u (by omega) (by omega) (by omega) (by omega) (by omega)
theorem gs_ak (he : cc_env WF L xs) (hI : la_I WF bs_cps M) (hS : gs_SS M) (hb : sx_w sx_r32 b) : ∃ z z' M1 M2, ((0 = 0 ∧ sx_w sx_r32 z ∧ sx_w sx_r32 z') ∨ (0 = 1 ∧ sx_w sx_r64 z ∧ sx_w sx_r64 z')) ∧ lb_run L xs 85 [.ref 8, .int (Int32.ofInt b)] M (lb_val 0 z) M1 ∧ sx_mok cl_ly M1 ∧ lb_run L xs 216 [.ref 53, .int (Int32.ofInt b)] M1 (lb_val 0 z') M2 ∧ sx_mok cl_ly M2 ∧ la_I WF bs_cps M2 ∧ gs_SS M2 := by
  obtain ⟨z, z', M1, M2, p0, p2, p3, p4, p5, p6, p7⟩ := fs_ak he hI hS.1 hb
  obtain ⟨v, N1, n1, n2, n3, n4⟩ := gb_cc (as := [.ref 8, .int (Int32.ofInt b)]) he (c_ask he) rfl (show (6 : Nat) ≤ 99 by decide) ⟨lp_rf (show (8 : Int).toNat = 8 from rfl), lp_v hb hb, trivial⟩ (gs_pre hI.1 hI.2.2.2.1 (by decide +kernel)) hI.1 hI.2.2.1 hS.2 (by decide +kernel) (by decide +kernel)
  obtain ⟨v', N2, q1, q2, q3⟩ := gb_cx (as := [.ref 53, .int (Int32.ofInt b)]) he (c_mask he) rfl (show (11 : Nat) ≤ 99 by decide) ⟨lp_rf (show (53 : Int).toNat = 53 from rfl), lp_v hb hb, trivial⟩ (gs_prm n2 (by decide +kernel)) n2 n3 n4 (by decide +kernel)
  obtain ⟨-, e1⟩ := fd_run p2 n1
  have p4' : lb_run L xs 216 [.ref 53, .int (Int32.ofInt b)] N1 (lb_val 0 z') M2 := by
    unfold lb_run at p4 ⊢
    rw [← e1]
    exact p4
  obtain ⟨-, e2⟩ := fd_run p4' q1
  exact ⟨z, z', M1, M2, p0, p2, p3, p4, p5, p6, p7, bb_H e2 p5 q2 q3⟩
-- shelves
theorem bb_same (h : ∀ a, a < 128 → N a = M a) (hb : bb M) : bb N := bb_fp M N (fun z hz => h z (by
  simp only [List.mem_cons, List.not_mem_nil, or_false] at hz
  omega)) (fun p hp => by cases hp) hb
theorem gs_kp (he : cc_env WF L xs) (hI : la_I WF bs_cps M) (hS : gs_SS M) (hb : sx_w sx_r32 b) (hc : sx_w sx_r32 c) : gs_P WF L xs 0 138 263 [.ref 8, .int (Int32.ofInt b), .int (Int32.ofInt c)] [.ref 53, .int (Int32.ofInt b), .int (Int32.ofInt c)] (-1, 1) M :=
  gb_of (II := WF) (fs_kp he.1 hI hS.1 hb hc) (gb_cc he (c_keep he) rfl (show (2 : Nat) ≤ 99 by decide) ⟨lp_rf (show (8 : Int).toNat = 8 from rfl), lp_v hb hb, lp_v hc hc, trivial⟩ (gs_pre hI.1 hI.2.2.2.1 (by decide +kernel)) hI.1 hI.2.2.1 hS.2 (by decide +kernel) (by decide +kernel)) (fun N mN _ bN => by
    obtain ⟨z, N', a1, a2, a3⟩ := lb_of (k := 263) (vs := [.ref 53, .int (Int32.ofInt b), .int (Int32.ofInt c)]) (show 4 ≤ 99 by decide) (kp_m (xs := xs) he.1 mN hb hc)
    refine ⟨_, N', a1, a2, ?_⟩
    rcases a3 with ⟨-, -, h⟩ | ⟨-, hn, h⟩
    · exact bb_same h bN
    · intro g hg h87 i hi
      rw [h 88 (by decide), sh_une (by decide)] at hi
      rw [h 89 (by decide), sh_une (by decide)]
      rw [h 87 (by decide)] at h87
      by_cases q : g = b.toNat
      · rw [q, sh_uat] at h87
        exact absurd (Or.inr (Or.inr (Or.inl (by omega)))) hn
      · rw [sh_unj q] at h87
        exact bN g hg h87 i hi)
theorem gs_ro (he : cc_env WF L xs) (hI : la_I WF bs_cps M) (hS : gs_SS M) (hb : sx_w sx_r32 b) (hc : sx_w sx_r32 c) (hd : sx_w sx_r32 d) : gs_P WF L xs 0 140 264 [.ref 8, .int (Int32.ofInt b), .int (Int32.ofInt c), .int (Int32.ofInt d)] [.ref 53, .int (Int32.ofInt b), .int (Int32.ofInt c), .int (Int32.ofInt d)] (-14, 1) M :=
  gb_of (II := WF) (fs_ro he.1 hI hS.1 hb hc hd) (gb_cc he (c_row he) rfl (show (2 : Nat) ≤ 99 by decide) ⟨lp_rf (show (8 : Int).toNat = 8 from rfl), lp_v hb hb, lp_v hc hc, lp_v hd hd, trivial⟩ (gs_pre hI.1 hI.2.2.2.1 (by decide +kernel)) hI.1 hI.2.2.1 hS.2 (by decide +kernel) (by decide +kernel)) (fun N mN _ bN => by
    obtain ⟨z, N', a1, a2, a3⟩ := lb_of (k := 264) (vs := [.ref 53, .int (Int32.ofInt b), .int (Int32.ofInt c), .int (Int32.ofInt d)]) (show 4 ≤ 99 by decide) (rw_mm (xs := xs) he.1 mN hb hc hd)
    refine ⟨_, N', a1, a2, ?_⟩
    rcases a3 with ⟨-, -, h⟩ | ⟨-, -, -, h⟩ | ⟨-, hn, h0, h, h89⟩
    · exact bb_same h bN
    · exact bb_same h bN
    · intro g hg h87 i hi
      have m88 : 0 ≤ N' 88 g ∧ N' 88 g ≤ 60 := a2 88 _ g _ rfl hg rfl
      rw [h89]
      by_cases q : g = b.toNat
      · rw [if_pos (by omega)]
        decide
      · rw [if_neg (by omega)]
        rw [h 87 (by decide) (by decide), sh_une (by decide), sh_unj q] at h87
        rw [h 88 (by decide) (by decide), sh_unj q, sh_une (by decide)] at hi
        exact bN g hg h87 i hi)
theorem mf_65 (x : Int) : -128 ≤ sx_mf 65 x 0 ∧ sx_mf 65 x 0 ≤ 127 := by
  show -128 ≤ (Int32.ofInt x).toInt8.toInt ∧ (Int32.ofInt x).toInt8.toInt ≤ 127
  have h1 := Int8.le_toInt (Int32.ofInt x).toInt8
  have h2 := Int8.toInt_lt (Int32.ofInt x).toInt8
  omega
theorem gs_pt (he : cc_env WF L xs) (hI : la_I WF bs_cps M) (hS : gs_SS M) (hb : sx_w sx_r32 b) (hc : sx_w sx_r32 c) (hv : sx_w sx_r64 v) : gs_P WF L xs 0 142 265 [.ref 8, .int (Int32.ofInt b), .int (Int32.ofInt c), .long (Int64.ofInt v)] [.ref 53, .int (Int32.ofInt b), .int (Int32.ofInt c), .long (Int64.ofInt v)] (-13, 1) M :=
  gb_of (II := WF) (fs_pt he.1 hI hS.1 hb hc hv) (gb_cc he (c_put he) rfl (show (3 : Nat) ≤ 99 by decide) ⟨lp_rf (show (8 : Int).toNat = 8 from rfl), lp_v hb hb, lp_v hc hc, Or.inr (Or.inl ⟨rfl, v, rfl, hv, hv⟩), trivial⟩ (gs_pre hI.1 hI.2.2.2.1 (by decide +kernel)) hI.1 hI.2.2.1 hS.2 (by decide +kernel) (by decide +kernel)) (fun N mN _ bN => by
    rw [sx_r32_iff] at hb
    by_cases b1 : b < 0
    · obtain ⟨z, N', a1, a2, -, a3⟩ := lb_of (k := 265) (vs := [.ref 53, .int (Int32.ofInt b), .int (Int32.ofInt c), .long (Int64.ofInt v)]) (show 4 ≤ 99 by decide) (pt_o (xs := xs) (a := 53) (r := (og_mn, -1)) rfl op_cm9 he.1 mN ⟨hb.1, by show b ≤ -1; omega⟩ (sx_r32_iff.mpr hb) hc hv)
      exact ⟨_, N', a1, a2, bb_same a3 bN⟩
    by_cases b6 : 6 ≤ b
    · obtain ⟨z, N', a1, a2, -, a3⟩ := lb_of (k := 265) (vs := [.ref 53, .int (Int32.ofInt b), .int (Int32.ofInt c), .long (Int64.ofInt v)]) (show 4 ≤ 99 by decide) (pt_o (xs := xs) (a := 53) (r := (6, og_mx)) rfl op_cm6 he.1 mN ⟨b6, by show b ≤ 2147483647; omega⟩ (sx_r32_iff.mpr hb) hc hv)
      exact ⟨_, N', a1, a2, bb_same a3 bN⟩
    obtain ⟨g, rfl⟩ := Int.eq_ofNat_of_zero_le (show 0 ≤ b by omega)
    obtain ⟨z, N', a1, a2, a3⟩ := lb_of (k := 265) (vs := [.ref 53, .int (Int32.ofInt (g : Int)), .int (Int32.ofInt c), .long (Int64.ofInt v)]) (show 4 ≤ 99 by decide) (pt_m (xs := xs) he.1 mN (show g < 6 by omega) rfl hc hv)
    refine ⟨_, N', a1, a2, ?_⟩
    rcases a3 with ⟨-, -, h⟩ | ⟨-, -, h⟩ | ⟨-, -, -, h⟩ | ⟨-, k1, k2, k3, h⟩
    · exact bb_same h bN
    · exact bb_same h bN
    · exact bb_same h bN
    · intro u hu h87 i hi
      rw [h 87 (by decide), sh_une (by decide)] at h87
      rw [h 88 (by decide), sh_une (by decide)] at hi
      have m88 : 0 ≤ N 88 u ∧ N 88 u ≤ 60 := mN 88 _ u _ rfl hu rfl
      have m8g : 0 ≤ N 88 g ∧ N 88 g ≤ 60 := mN 88 _ g _ rfl (show g < 6 by omega) rfl
      rw [h 89 (by decide)]
      by_cases q : 60 * u + i = (c + 60 * (g : Int)).toNat
      · have eg : u = g := by omega
        rw [q, sh_uat]
        rw [eg] at h87
        rw [h87]
        have e0 : pt_v (-2 - -2) v = sx_mf 65 (sx_mf 64 v 0) 0 := if_pos (by decide)
        rw [e0]
        exact mf_65 _
      · rw [sh_unj q]
        exact bN u hu h87 i hi)
theorem sn_any {g : Nat} (hm : sx_mok cl_ly N) (hg : g < 6) : sn_sk N g (so_kd (N 87 g)) := by
  have m87 : -6 ≤ N 87 g ∧ N 87 g ≤ 49 := hm 87 _ g _ rfl hg rfl
  unfold sn_sk so_kd
  by_cases q : N 87 g = -1
  · rw [if_pos q, q]
    exact ⟨by decide, by decide⟩
  · rw [if_neg q]
    by_cases q2 : 0 ≤ N 87 g
    · rw [if_pos q2]
      exact ⟨q2, m87.2⟩
    · rw [if_neg q2]
      exact ⟨m87.1, by show N 87 g ≤ -2; omega⟩
theorem gs_sf (he : cc_env WF L xs) (hI : la_I WF bs_cps M) (hS : gs_SS M) (hb : sx_w sx_r32 b) (hc : sx_w sx_r32 c) (hd : sx_w sx_r32 d) (hk : sx_w sx_r32 e) (hf : sx_w sx_r32 f) : gs_P WF L xs 0 147 268 [.ref 8, .int (Int32.ofInt b), .int (Int32.ofInt c), .int (Int32.ofInt d), .int (Int32.ofInt e), .int (Int32.ofInt f)] [.ref 53, .int (Int32.ofInt b), .int (Int32.ofInt c), .int (Int32.ofInt d), .int (Int32.ofInt e), .int (Int32.ofInt f)] (-13, 2147483647) M :=
  gb_of (II := WF) (fs_sf he.1 hI hS.1 hb hc hd hk hf) (gb_cc he (c_shift he) rfl (show (2 : Nat) ≤ 99 by decide) ⟨lp_rf (show (8 : Int).toNat = 8 from rfl), lp_v hb hb, lp_v hc hc, lp_v hd hd, lp_v hk hk, lp_v hf hf, trivial⟩ (gs_pre hI.1 hI.2.2.2.1 (by decide +kernel)) hI.1 hI.2.2.1 hS.2 (by decide +kernel) (by decide +kernel)) (fun N mN _ bN => by
    have hb' := sx_r32_iff.mp hb
    have hd' := sx_r32_iff.mp hd
    have neg : ∀ {r q : Int × Int}, (r, q) ∈ so_R → sx_w r b → sx_w q d → ∃ v N', lb_run L xs 268 [.ref 53, .int (Int32.ofInt b), .int (Int32.ofInt c), .int (Int32.ofInt d), .int (Int32.ofInt e), .int (Int32.ofInt f)] N v N' ∧ sx_mok cl_ly N' ∧ bb N' := fun {r q} hm hr hq => by
      obtain ⟨y, M2, b1, b2, -, b3⟩ := lb_of (k := 268) (vs := [.ref 53, .int (Int32.ofInt b), .int (Int32.ofInt c), .int (Int32.ofInt d), .int (Int32.ofInt e), .int (Int32.ofInt f)]) (show 4 ≤ 99 by decide) (so_o (xs := xs) (a := 53) rfl (List.all_eq_true.mp so_cm _ hm) he.1 mN hr hq hb hc hd hk hf)
      exact ⟨_, M2, b1, b2, bb_same b3 bN⟩
    by_cases h1 : b < 0
    · exact neg (r := (og_mn, -1)) (q := sx_r32) (by simp [so_R]) ⟨hb'.1, by show b ≤ -1; omega⟩ hd
    by_cases h2 : 5 < b
    · exact neg (r := (6, og_mx)) (q := sx_r32) (by simp [so_R]) ⟨by show 6 ≤ b; omega, by show b ≤ 2147483647; omega⟩ hd
    by_cases h3 : d < 0
    · exact neg (r := (0, 5)) (q := (og_mn, -1)) (by simp [so_R]) ⟨by show 0 ≤ b; omega, by show b ≤ 5; omega⟩ ⟨hd'.1, by show d ≤ -1; omega⟩
    by_cases h4 : 5 < d
    · exact neg (r := (0, 5)) (q := (6, og_mx)) (by simp [so_R]) ⟨by show 0 ≤ b; omega, by show b ≤ 5; omega⟩ ⟨by show 6 ≤ d; omega, by show d ≤ 2147483647; omega⟩
    obtain ⟨g, rfl⟩ := Int.eq_ofNat_of_zero_le (show 0 ≤ b by omega)
    obtain ⟨o, rfl⟩ := Int.eq_ofNat_of_zero_le (show 0 ≤ d by omega)
    have hg6 : g < 6 := by omega
    have ho6 : o < 6 := by omega
    obtain ⟨y, M2, b1, b2, b3⟩ := lb_of (k := 268) (vs := [.ref 53, .int (Int32.ofInt (g : Int)), .int (Int32.ofInt c), .int (Int32.ofInt (o : Int)), .int (Int32.ofInt e), .int (Int32.ofInt f)]) (show 4 ≤ 99 by decide) (sn_x (xs := xs) (kc := so_kd (N 87 g)) (ke := so_kd (N 87 o)) he.1 mN hg6 ho6 so_lt so_lt (fun h => by rw [h]) (sn_any mN hg6) (sn_any mN ho6) hc hk hf)
    refine ⟨_, M2, b1, b2, ?_⟩
    unfold sn_X at b3
    split at b3
    · exact bb_same b3.2 bN
    · split at b3
      · exact bb_same b3.2 bN
      · rcases b3 with ⟨-, -, h⟩ | ⟨-, -, -, h⟩ | ⟨-, k1, k2, h, h89⟩
        · exact bb_same h bN
        · exact bb_same h bN
        · intro u hu h87 i hi
          rw [h 87 (by decide) (by decide) (by decide)] at h87
          rw [h 88 (by decide) (by decide) (by decide)] at hi
          have m88 : 0 ≤ N 88 u ∧ N 88 u ≤ 60 := mN 88 _ u _ rfl hu rfl
          have m8o : 0 ≤ N 88 o ∧ N 88 o ≤ 60 := mN 88 _ o _ rfl ho6 rfl
          have m8g : 0 ≤ N 88 g ∧ N 88 g ≤ 60 := mN 88 _ g _ rfl hg6 rfl
          unfold sf_bad at k2
          have q0 : 0 ≤ f ∧ 0 ≤ c ∧ 0 ≤ e ∧ c + f ≤ N 88 g ∧ e + f ≤ N 88 o := by omega
          rw [h89]
          by_cases q : 60 * o + e.toNat ≤ 60 * u + i ∧ 60 * u + i < 60 * o + e.toNat + f.toNat
          · rw [if_pos q]
            have eu : u = o := by omega
            rw [eu, ← k1] at h87
            have := bN g hg6 h87 (c.toNat + (60 * u + i - (60 * o + e.toNat))) (by omega)
            rw [show 60 * g + (c.toNat + (60 * u + i - (60 * o + e.toNat))) = 60 * g + c.toNat + (60 * u + i - (60 * o + e.toNat)) by omega] at this
            exact this
          · rw [if_neg q]
            exact bN u hu h87 i hi)
end
