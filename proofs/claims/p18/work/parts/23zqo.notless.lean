/-! No number of risk or of dryness is below 0: what else both sides hold. -/
section
variable {L : Nat} {xs : Nat → Int32} {M M' N N' M0 M1 M2 : Nat → Nat → Int} {k kx km : Nat} {as ax am : List Value} {r : Int × Int} {b c d e f v w : Int} {II : (Nat → Nat → Int) → Prop} {f0 g0 g1 : Nat → Int}
def nnc (f g0 g1 : Nat → Int) : Prop := ∀ q : Nat, q < 40 → (f q = 1 ∨ f q = 5) → 0 ≤ g0 q ∧ 0 ≤ g1 q
def nn (M : Nat → Nat → Int) : Prop := (∀ h : Nat, h < 6 → 0 ≤ M 55 h) ∧ (∀ d : Nat, d < 30 → 0 ≤ M 61 d) ∧ nnc (M 62) (M 64) (M 65)
theorem nn_fp : lb_fp [55, 61, 62, 64, 65] [] nn := fun M M' z _ h => by
  have z : ∀ a ∈ [55, 61, 62, 64, 65], M' a = M a := z
  unfold nn
  rw [z 55 (by decide), z 61 (by decide), z 62 (by decide), z 64 (by decide), z 65 (by decide)]
  exact h
theorem nn_T : (sx_an ((List.range 6).all fun h => sx_le 0 (cl_M0 55 h)) (sx_an ((List.range 30).all fun d => sx_le 0 (cl_M0 61 d)) ((List.range 40).all fun q => sx_an (sx_le 0 (cl_M0 64 q)) (sx_le 0 (cl_M0 65 q))))) = true := by decide +kernel
theorem nn_0 : nn cl_M0 := by
  obtain ⟨t1, t2⟩ := sx_an_iff.mp nn_T
  obtain ⟨t2, t3⟩ := sx_an_iff.mp t2
  refine ⟨fun h hh => sx_le_iff.mp (List.all_eq_true.mp t1 h (List.mem_range.mpr hh)), fun d hd => sx_le_iff.mp (List.all_eq_true.mp t2 d (List.mem_range.mpr hd)), fun q hq _ => ?_⟩
  obtain ⟨a, b⟩ := sx_an_iff.mp (List.all_eq_true.mp t3 q (List.mem_range.mpr hq))
  exact ⟨sx_le_iff.mp a, sx_le_iff.mp b⟩
def hn_SS (M : Nat → Nat → Int) : Prop := fs_SS M ∧ nn M
theorem hn_fp : lb_fp (bs_zc ++ fs_zc) (nm_zp ++ fs_zp) hn_SS := fun M M' h1 h2 h => ⟨fs_fp M M' h1 h2 h.1, nn_fp M M' (fun z hz => h1 z (by
  have : ∀ z ∈ [55, 61, 62, 64, 65], z ∈ bs_zc ++ fs_zc := by decide +kernel
  exact this z hz)) (fun p hp => by cases hp) h.2⟩
theorem hn_S0 : hn_SS cl_M0 := ⟨fs_S0, nn_0⟩
def hn_P (WF : (Nat → Nat → Int) → Prop) (L : Nat) (xs : Nat → Int32) (kd kx km : Nat) (ax am : List Value) (r : Int × Int) (M : Nat → Nat → Int) : Prop := ∃ z M1 M2, sx_w r z ∧ ((kd = 0 ∧ sx_w sx_r32 z) ∨ (kd = 1 ∧ sx_w sx_r64 z)) ∧ lb_run L xs kx ax M (lb_val kd z) M1 ∧ sx_mok cl_ly M1 ∧ lb_run L xs km am M1 (lb_val kd z) M2 ∧ sx_mok cl_ly M2 ∧ la_I WF bs_cps M2 ∧ hn_SS M2
theorem nn_H (hH : sx_HH cl_lay cl_rf N = sx_HH cl_lay cl_rf N') (m : sx_mok cl_ly N) (m' : sx_mok cl_ly N') (h : nn N') : nn N := by
  refine ⟨fun g hg => ?_, fun g hg => ?_, fun q hq hk => ?_⟩
  · have a : ∀ {K : Nat → Nat → Int}, sx_mok cl_ly K → sx_w (-1, 143) (K 55 g) := fun {K} hm => hm 55 _ g _ rfl hg rfl
    have p : -1 ≤ N 55 g ∧ N 55 g ≤ 143 := a m
    have p' : -1 ≤ N' 55 g ∧ N' 55 g ≤ 143 := a m'
    rw [fd_arr (a := 55) (i := g) hH rfl rfl (by decide) (by decide) (og_w32 (by omega) (by omega)) (og_w32 (by omega) (by omega))]
    exact h.1 g hg
  · have a : ∀ {K : Nat → Nat → Int}, sx_mok cl_ly K → sx_w (-1, 143) (K 61 g) := fun {K} hm => hm 61 _ g _ rfl hg rfl
    have p : -1 ≤ N 61 g ∧ N 61 g ≤ 143 := a m
    have p' : -1 ≤ N' 61 g ∧ N' 61 g ≤ 143 := a m'
    rw [fd_arr (a := 61) (i := g) hH rfl rfl (by decide) (by decide) (og_w32 (by omega) (by omega)) (og_w32 (by omega) (by omega))]
    exact h.2.1 g hg
  · have a62 : ∀ {K : Nat → Nat → Int}, sx_mok cl_ly K → sx_w sx_r32 (K 62 q) := fun {K} hm => hm 62 _ q _ rfl hq rfl
    have a64 : ∀ {K : Nat → Nat → Int}, sx_mok cl_ly K → sx_w sx_r32 (K 64 q) := fun {K} hm => hm 64 _ q _ rfl hq rfl
    have a65 : ∀ {K : Nat → Nat → Int}, sx_mok cl_ly K → sx_w sx_r32 (K 65 q) := fun {K} hm => hm 65 _ q _ rfl hq rfl
    rw [fd_arr (a := 62) (i := q) hH rfl rfl (by decide) (by decide) (a62 m) (a62 m')] at hk
    rw [fd_arr (a := 64) (i := q) hH rfl rfl (by decide) (by decide) (a64 m) (a64 m'), fd_arr (a := 65) (i := q) hH rfl rfl (by decide) (by decide) (a65 m) (a65 m')]
    exact h.2.2 q hq hk
/-- the pair stays, and with it that bytes are bytes -/
theorem gn_of {kd : Nat} (hP : fs_P WF L xs kd kx km ax am r M) (h1 : ∃ v N, lb_run L xs kx ax M v N ∧ sx_mok cl_ly N ∧ II N ∧ nn N) (h2 : ∀ N, sx_mok cl_ly N → II N → nn N → ∃ v N', lb_run L xs km am N v N' ∧ sx_mok cl_ly N' ∧ nn N') : hn_P WF L xs kd kx km ax am r M := by
  obtain ⟨z, M1, M2, p0, p1, p2, p3, p4, p5, p6, p7⟩ := hP
  obtain ⟨v, N1, n1, n2, n3, n4⟩ := h1
  obtain ⟨-, e1⟩ := fd_run p2 n1
  obtain ⟨v', N2, q1, q2, q3⟩ := h2 N1 n2 n3 n4
  have p4' : lb_run L xs km am N1 (lb_val kd z) M2 := by
    unfold lb_run at p4 ⊢
    rw [← e1]
    exact p4
  obtain ⟨-, e2⟩ := fd_run p4' q1
  exact ⟨z, M1, M2, p0, p1, p2, p3, p4, p5, p6, p7, nn_H e2 p5 q2 q3⟩
/-- a call by its contract -/
theorem gn_cc (he : cc_env WF L xs) {c : ct_C} {q : Int × Int} (h : cc WF L xs k c) (hr : c.2.2.2.2.1 = some (0, q)) (hd : c.2.2.2.2.2.1 ≤ 99) (hv : ct_vs c.1 as) (hg : ct_g c.2.1 M) (hm : sx_mok cl_ly M) (hW : WF M) (hb : nn M) (hu : lb_cu [55, 61, 62, 64, 65] [] c = true) (hw : lb_cu cz_zs [] c = true) : ∃ v N, lb_run L xs k as M v N ∧ sx_mok cl_ly N ∧ WF N ∧ nn N := by
  obtain ⟨z, N, z1, z2, z3, z4, z5, z6⟩ := lp_cc (M := M) (as := as) h hr hd hv hg hm hW
  exact ⟨_, N, z3, z4, lb_cu_ok (fp_WF he.2.1) hw z5 hW, lb_cu_ok nn_fp hu z5 hb⟩
theorem gn_cx (he : cc_env WF L xs) {c : ct_C} {q : Int × Int} (h : cc WF L xs k c) (hr : c.2.2.2.2.1 = some (0, q)) (hd : c.2.2.2.2.2.1 ≤ 99) (hv : ct_vs c.1 as) (hg : ct_g c.2.1 M) (hm : sx_mok cl_ly M) (hW : WF M) (hb : nn M) (hu : lb_cu [55, 61, 62, 64, 65] [] c = true) : ∃ v N, lb_run L xs k as M v N ∧ sx_mok cl_ly N ∧ nn N := by
  obtain ⟨z, N, z1, z2, z3, z4, z5, z6⟩ := lp_cc (M := M) (as := as) h hr hd hv hg hm hW
  exact ⟨_, N, z3, z4, lb_cu_ok nn_fp hu z5 hb⟩
theorem hn_ka (he : cc_env WF L xs) (hI : la_I WF bs_cps M) (hS : hn_SS M) (hb : sx_w sx_r32 b) (hc : sx_w sx_r32 c) : hn_P WF L xs 0 15 155 [.ref 8, .int (Int32.ofInt b), .int (Int32.ofInt c)] [.ref 53, .int (Int32.ofInt b), .int (Int32.ofInt c)] (-3, 11) M :=
  gn_of (II := WF) (fs_ka he.1 hI hS.1 hb hc) (gn_cc he (c_card he) rfl (show (3 : Nat) ≤ 99 by decide) ⟨lp_rf (show (8 : Int).toNat = 8 from rfl), lp_v hb hb, lp_v hc hc, trivial⟩ (gs_pre hI.1 hI.2.2.2.1 (by decide +kernel)) hI.1 hI.2.2.1 hS.2 (by decide +kernel) (by decide +kernel)) (fun N mN wN bN => gn_cx he (c_mcard he) rfl (show (3 : Nat) ≤ 99 by decide) ⟨lp_rf (show (53 : Int).toNat = 53 from rfl), lp_v hb hb, lp_v hc hc, trivial⟩ (gs_prm mN (by decide +kernel)) mN wN bN (by decide +kernel))
theorem hn_cd (he : cc_env WF L xs) (hI : la_I WF bs_cps M) (hS : hn_SS M) (hb : sx_w sx_r32 b) (hc : sx_w sx_r32 c) (hd : sx_w sx_r32 d) : hn_P WF L xs 0 18 158 [.ref 8, .int (Int32.ofInt b), .int (Int32.ofInt c), .int (Int32.ofInt d)] [.ref 53, .int (Int32.ofInt b), .int (Int32.ofInt c), .int (Int32.ofInt d)] (-12, 12) M :=
  gn_of (II := WF) (fs_cd he.1 hI hS.1 hb hc hd) (gn_cc he (c_cards he) rfl (show (4 : Nat) ≤ 99 by decide) ⟨lp_rf (show (8 : Int).toNat = 8 from rfl), lp_v hb hb, lp_v hc hc, lp_v hd hd, trivial⟩ (gs_pre hI.1 hI.2.2.2.1 (by decide +kernel)) hI.1 hI.2.2.1 hS.2 (by decide +kernel) (by decide +kernel)) (fun N mN wN bN => gn_cx he (c_mcards he) rfl (show (3 : Nat) ≤ 99 by decide) ⟨lp_rf (show (53 : Int).toNat = 53 from rfl), lp_v hb hb, lp_v hc hc, lp_v hd hd, trivial⟩ (gs_prm mN (by decide +kernel)) mN wN bN (by decide +kernel))
theorem hn_pa (he : cc_env WF L xs) (hI : la_I WF bs_cps M) (hS : hn_SS M) (hb : sx_w sx_r32 b) : hn_P WF L xs 0 113 240 [.ref 8, .int (Int32.ofInt b)] [.ref 53, .int (Int32.ofInt b)] (-5, 5) M :=
  gn_of (II := WF) (fs_pa he.1 hI hS.1 hb) (gn_cc he (c_pass he) rfl (show (6 : Nat) ≤ 99 by decide) ⟨lp_rf (show (8 : Int).toNat = 8 from rfl), lp_v hb hb, trivial⟩ (gs_pre hI.1 hI.2.2.2.1 (by decide +kernel)) hI.1 hI.2.2.1 hS.2 (by decide +kernel) (by decide +kernel)) (fun N mN wN bN => gn_cx he (c_mpass he) rfl (show (9 : Nat) ≤ 99 by decide) ⟨lp_rf (show (53 : Int).toNat = 53 from rfl), lp_v hb hb, trivial⟩ (gs_prm mN (by decide +kernel)) mN wN bN (by decide +kernel))
theorem hn_fd (he : cc_env WF L xs) (hI : la_I WF bs_cps M) (hS : hn_SS M) (hb : sx_w sx_r32 b) : hn_P WF L xs 0 30 172 [.ref 8, .int (Int32.ofInt b)] [.ref 53, .int (Int32.ofInt b)] (-3, 120) M :=
  gn_of (II := WF) (fs_fd he.1 hI hS.1 hb) (gn_cc he (c_feed he) rfl (show (2 : Nat) ≤ 99 by decide) ⟨lp_rf (show (8 : Int).toNat = 8 from rfl), lp_v hb hb, trivial⟩ (gs_pre hI.1 hI.2.2.2.1 (by decide +kernel)) hI.1 hI.2.2.1 hS.2 (by decide +kernel) (by decide +kernel)) (fun N mN wN bN => gn_cx he (c_mfeed he) rfl (show (2 : Nat) ≤ 99 by decide) ⟨lp_rf (show (53 : Int).toNat = 53 from rfl), lp_v hb hb, trivial⟩ (gs_prm mN (by decide +kernel)) mN wN bN (by decide +kernel))
theorem hn_bu (he : cc_env WF L xs) (hI : la_I WF bs_cps M) (hS : hn_SS M) (hb : sx_w sx_r32 b) : hn_P WF L xs 0 115 241 [.ref 8, .int (Int32.ofInt b)] [.ref 53, .int (Int32.ofInt b)] (-5, 1) M :=
  gn_of (II := WF) (fs_bu he.1 hI hS.1 hb) (gn_cc he (c_build he) rfl (show (2 : Nat) ≤ 99 by decide) ⟨lp_rf (show (8 : Int).toNat = 8 from rfl), lp_v hb hb, trivial⟩ (gs_pre hI.1 hI.2.2.2.1 (by decide +kernel)) hI.1 hI.2.2.1 hS.2 (by decide +kernel) (by decide +kernel)) (fun N mN wN bN => gn_cx he (c_mbuild he) rfl (show (3 : Nat) ≤ 99 by decide) ⟨lp_rf (show (53 : Int).toNat = 53 from rfl), lp_v hb hb, trivial⟩ (gs_prm mN (by decide +kernel)) mN wN bN (by decide +kernel))
theorem hn_im (he : cc_env WF L xs) (hI : la_I WF bs_cps M) (hS : hn_SS M) : hn_P WF L xs 0 117 243 [.ref 8] [.ref 53] (0, 29) M :=
  gn_of (II := WF) (fs_im he.1 hI hS.1) (gn_cc he (c_image he) rfl (show (3 : Nat) ≤ 99 by decide) ⟨lp_rf (show (8 : Int).toNat = 8 from rfl), trivial⟩ (gs_pre hI.1 hI.2.2.2.1 (by decide +kernel)) hI.1 hI.2.2.1 hS.2 (by decide +kernel) (by decide +kernel)) (fun N mN wN bN => gn_cx he (c_mimage he) rfl (show (1 : Nat) ≤ 99 by decide) ⟨lp_rf (show (53 : Int).toNat = 53 from rfl), trivial⟩ (gs_prm mN (by decide +kernel)) mN wN bN (by decide +kernel))
theorem hn_bk (he : cc_env WF L xs) (hI : la_I WF bs_cps M) (hS : hn_SS M) : hn_P WF L xs 0 119 244 [.ref 8] [.ref 53] (-5, 29) M :=
  gn_of (II := WF) (fs_bk he.1 hI hS.1) (gn_cc he (c_back he) rfl (show (3 : Nat) ≤ 99 by decide) ⟨lp_rf (show (8 : Int).toNat = 8 from rfl), trivial⟩ (gs_pre hI.1 hI.2.2.2.1 (by decide +kernel)) hI.1 hI.2.2.1 hS.2 (by decide +kernel) (by decide +kernel)) (fun N mN wN bN => gn_cx he (c_mback he) rfl (show (1 : Nat) ≤ 99 by decide) ⟨lp_rf (show (53 : Int).toNat = 53 from rfl), trivial⟩ (gs_prm mN (by decide +kernel)) mN wN bN (by decide +kernel))
theorem hn_kp (he : cc_env WF L xs) (hI : la_I WF bs_cps M) (hS : hn_SS M) (hb : sx_w sx_r32 b) (hc : sx_w sx_r32 c) : hn_P WF L xs 0 138 263 [.ref 8, .int (Int32.ofInt b), .int (Int32.ofInt c)] [.ref 53, .int (Int32.ofInt b), .int (Int32.ofInt c)] (-1, 1) M :=
  gn_of (II := WF) (fs_kp he.1 hI hS.1 hb hc) (gn_cc he (c_keep he) rfl (show (2 : Nat) ≤ 99 by decide) ⟨lp_rf (show (8 : Int).toNat = 8 from rfl), lp_v hb hb, lp_v hc hc, trivial⟩ (gs_pre hI.1 hI.2.2.2.1 (by decide +kernel)) hI.1 hI.2.2.1 hS.2 (by decide +kernel) (by decide +kernel)) (fun N mN wN bN => gn_cx he (c_mkeep he) rfl (show (3 : Nat) ≤ 99 by decide) ⟨lp_rf (show (53 : Int).toNat = 53 from rfl), lp_v hb hb, lp_v hc hc, trivial⟩ (gs_prm mN (by decide +kernel)) mN wN bN (by decide +kernel))
theorem hn_ro (he : cc_env WF L xs) (hI : la_I WF bs_cps M) (hS : hn_SS M) (hb : sx_w sx_r32 b) (hc : sx_w sx_r32 c) (hd : sx_w sx_r32 d) : hn_P WF L xs 0 140 264 [.ref 8, .int (Int32.ofInt b), .int (Int32.ofInt c), .int (Int32.ofInt d)] [.ref 53, .int (Int32.ofInt b), .int (Int32.ofInt c), .int (Int32.ofInt d)] (-14, 1) M :=
  gn_of (II := WF) (fs_ro he.1 hI hS.1 hb hc hd) (gn_cc he (c_row he) rfl (show (2 : Nat) ≤ 99 by decide) ⟨lp_rf (show (8 : Int).toNat = 8 from rfl), lp_v hb hb, lp_v hc hc, lp_v hd hd, trivial⟩ (gs_pre hI.1 hI.2.2.2.1 (by decide +kernel)) hI.1 hI.2.2.1 hS.2 (by decide +kernel) (by decide +kernel)) (fun N mN wN bN => gn_cx he (c_mrow he) rfl (show (3 : Nat) ≤ 99 by decide) ⟨lp_rf (show (53 : Int).toNat = 53 from rfl), lp_v hb hb, lp_v hc hc, lp_v hd hd, trivial⟩ (gs_prm mN (by decide +kernel)) mN wN bN (by decide +kernel))
theorem hn_sf (he : cc_env WF L xs) (hI : la_I WF bs_cps M) (hS : hn_SS M) (hb : sx_w sx_r32 b) (hc : sx_w sx_r32 c) (hd : sx_w sx_r32 d) (hk : sx_w sx_r32 e) (hf : sx_w sx_r32 f) : hn_P WF L xs 0 147 268 [.ref 8, .int (Int32.ofInt b), .int (Int32.ofInt c), .int (Int32.ofInt d), .int (Int32.ofInt e), .int (Int32.ofInt f)] [.ref 53, .int (Int32.ofInt b), .int (Int32.ofInt c), .int (Int32.ofInt d), .int (Int32.ofInt e), .int (Int32.ofInt f)] (-13, 2147483647) M :=
  gn_of (II := WF) (fs_sf he.1 hI hS.1 hb hc hd hk hf) (gn_cc he (c_shift he) rfl (show (2 : Nat) ≤ 99 by decide) ⟨lp_rf (show (8 : Int).toNat = 8 from rfl), lp_v hb hb, lp_v hc hc, lp_v hd hd, lp_v hk hk, lp_v hf hf, trivial⟩ (gs_pre hI.1 hI.2.2.2.1 (by decide +kernel)) hI.1 hI.2.2.1 hS.2 (by decide +kernel) (by decide +kernel)) (fun N mN wN bN => gn_cx he (c_mshift he) rfl (show (3 : Nat) ≤ 99 by decide) ⟨lp_rf (show (53 : Int).toNat = 53 from rfl), lp_v hb hb, lp_v hc hc, lp_v hd hd, lp_v hk hk, lp_v hf hf, trivial⟩ (gs_prm mN (by decide +kernel)) mN wN bN (by decide +kernel))
theorem dl_55 {c : Nat} (h : 55 = dl_cell c) : c = 1 := by
  unfold dl_cell at h
  split at h
  · omega
  · split at h <;> omega
theorem dl_61 {c : Nat} (h : 61 = dl_cell c) : c = 5 := by
  unfold dl_cell at h
  split at h
  · omega
  · split at h <;> omega
/-- a number is laid -/
theorem nn_lay {c m : Nat} (hl : dy_L (c : Int) (m : Int) v N N') (hv : c = 1 ∨ c = 5 → 0 ≤ v) (h : nn N) : nn N' := by
  obtain ⟨l1, -, -, l4⟩ := ly_f hl
  refine ⟨fun g hg => ?_, fun g hg => ?_, ?_⟩
  · rw [l1 55 g (by decide) (by decide)]
    split
    · rename_i q
      exact hv (Or.inl (dl_55 q.2.1))
    · exact h.1 g hg
  · rw [l1 61 g (by decide) (by decide)]
    split
    · rename_i q
      exact hv (Or.inr (dl_61 q.2.1))
    · exact h.2.1 g hg
  · rw [l4 62 (by decide) (by decide), l4 64 (by decide) (by decide), l4 65 (by decide) (by decide)]
    exact h.2.2
theorem nn_pt {q0 : Nat} (h : nnc f0 g0 g1) (hw : w = 1 ∨ w = 5 → 0 ≤ b ∧ 0 ≤ v) : nnc (dy_pt f0 q0 w) (dy_pt g0 q0 b) (dy_pt g1 q0 v) := fun q hq hk => by
  have hk : (if q = q0 then w else f0 q) = 1 ∨ (if q = q0 then w else f0 q) = 5 := hk
  show 0 ≤ (if q = q0 then b else g0 q) ∧ 0 ≤ (if q = q0 then v else g1 q)
  by_cases e : q = q0
  · rw [if_pos e] at hk
    rw [if_pos e, if_pos e]
    exact hw hk
  · rw [if_neg e] at hk
    rw [if_neg e, if_neg e]
    exact h q hq hk
theorem nn_sh (h : nnc f0 g0 g1) : nnc (dy_sh f0) (dy_sh g0) (dy_sh g1) := fun q hq hk => by
  have hk : (if q < 39 then f0 (q + 1) else f0 q) = 1 ∨ (if q < 39 then f0 (q + 1) else f0 q) = 5 := hk
  show 0 ≤ (if q < 39 then g0 (q + 1) else g0 q) ∧ 0 ≤ (if q < 39 then g1 (q + 1) else g1 q)
  by_cases e : q < 39
  · rw [if_pos e] at hk
    rw [if_pos e, if_pos e]
    exact h (q + 1) (by omega) hk
  · rw [if_neg e] at hk
    rw [if_neg e, if_neg e]
    exact h q hq hk
theorem nn_on (h : ∀ a, 54 ≤ a ∧ a ≤ 65 → N a = M a) (hb : nn M) : nn N := nn_fp M N (fun z hz => h z (by
  simp only [List.mem_cons, List.not_mem_nil, or_false] at hz
  omega)) (fun p hp => by cases hp) hb
theorem nn_same (h : ∀ a, a < 128 → N a = M a) (hb : nn M) : nn N := nn_on (fun a ha => h a (by omega)) hb
theorem hn_me (he : cc_env WF L xs) (hI : la_I WF bs_cps M) (hS : hn_SS M) (hb : sx_w sx_r32 b) (hc : sx_w sx_r32 c) (hd : sx_w sx_r32 d) : hn_P WF L xs 0 23 163 [.ref 8, .int (Int32.ofInt b), .int (Int32.ofInt c), .int (Int32.ofInt d)] [.ref 53, .int (Int32.ofInt b), .int (Int32.ofInt c), .int (Int32.ofInt d)] (-2000000000, 143) M := by
  refine gn_of (II := JJ) (fs_me he.1 hI hS.1 hb hc hd) ?_ (fun N mN jN bN => ?_)
  · obtain ⟨u, N, a1, a2, a3, a4⟩ := fd_ci (M := M) (as := [.ref 8, .int (Int32.ofInt b), .int (Int32.ofInt c), .int (Int32.ofInt d)]) (c2_xmend (xs := xs) he.1) rfl (by decide) ⟨lp_rf (show (8 : Int).toNat = 8 from rfl), lp_v hb hb, lp_v hc hc, lp_v hd hd, trivial⟩ (fun g hg => by rw [List.mem_singleton.mp hg]; exact hI.2.2.2.1) hI.1 hI.2.1
    exact ⟨u, N, a1, a2, a3, lb_cu_ok nn_fp (by decide +kernel) a4 hS.2⟩
  · skip
    obtain ⟨F2, r2, M2, f2, m2, b3⟩ := rz_d (show 3 ≤ 99 by decide) (dy_mend (xs := xs) he.1 mN hb hc hd)
    rcases b3 with ⟨-, rfl, h⟩ | ⟨pl, rg, -, rfl, h⟩
    · exact ⟨_, M2, ⟨F2, f2⟩, m2, nn_same h bN⟩
    refine ⟨_, M2, ⟨F2, f2⟩, m2, ?_⟩
    rcases h with ⟨-, h⟩ | ⟨-, N1, hA, hl⟩
    · exact nn_same h bN
    obtain ⟨-, a2, -, -, a5⟩ := hA
    have h6 := cx_fld (c := 53) (k := 1) (lo := 0) (hi := 6) mN (by decide +kernel)
    unfold cm_pl at pl
    unfold cm_rg at rg
    obtain ⟨w, rfl⟩ := Int.eq_ofNat_of_zero_le (show 0 ≤ c by omega)
    obtain ⟨n, rfl⟩ := Int.eq_ofNat_of_zero_le (show 0 ≤ b by omega)
    have hv : (w : Int) = 1 ∨ (w : Int) = 5 → 0 ≤ dy_at (w : Int) (n : Int) N ∧ 0 ≤ d := fun q => by
      have q : w = 1 ∨ w = 5 := by omega
      refine ⟨?_, by omega⟩
      rcases q with q | q
      · subst q
        have e : dy_at ((1 : Nat) : Int) (n : Int) N = N 55 n := by
          unfold dy_at
          rw [if_neg (by omega), Int.toNat_natCast, Int.toNat_natCast]
          rfl
        rw [e]
        exact bN.1 n (by omega)
      · subst q
        have e : dy_at ((5 : Nat) : Int) (n : Int) N = N 61 n := by
          unfold dy_at
          rw [if_neg (by omega), Int.toNat_natCast, Int.toNat_natCast]
          rfl
        rw [e]
        exact bN.2.1 n (by omega)
    refine nn_lay hl (fun q => by omega) ⟨fun h hh => by rw [a2 55 (by decide) (by decide) (by decide)]; exact bN.1 h hh, fun g hg => by rw [a2 61 (by decide) (by decide) (by decide)]; exact bN.2.1 g hg, ?_⟩
    rcases a5 with ⟨-, -, k62, -, k64, k65⟩ | ⟨-, -, k62, -, k64, k65⟩
    · rw [k62, k64, k65]
      exact nn_pt bN.2.2 hv
    · rw [k62, k64, k65]
      exact nn_pt (nn_sh bN.2.2) hv
theorem hn_un (he : cc_env WF L xs) (hI : la_I WF bs_cps M) (hS : hn_SS M) : hn_P WF L xs 0 121 160 [.ref 8] [.ref 53] (-5, 39) M := by
  refine gn_of (II := JJ) (fs_un he.1 hI hS.1) ?_ (fun N mN jN bN => ?_)
  · obtain ⟨u, N, a1, a2, a3, a4⟩ := fd_ci (M := M) (as := [.ref 8]) (c2_xundo (xs := xs) he.1) rfl (by decide) ⟨lp_rf (show (8 : Int).toNat = 8 from rfl), trivial⟩ (fun g hg => by rw [List.mem_singleton.mp hg]; exact hI.2.2.2.1) hI.1 hI.2.1
    exact ⟨u, N, a1, a2, a3, lb_cu_ok nn_fp (by decide +kernel) a4 hS.2⟩
  · skip
    obtain ⟨j1, j2, j3, j4⟩ := JJ_iff.mp jN
    have h14 := cx_fld (c := 53) (k := 14) (lo := 0) (hi := 40) mN (by decide +kernel)
    obtain ⟨F2, r2, M2, f2, m2, b3⟩ := rz_d (show 2 ≤ 99 by decide) (dy_undo (xs := xs) he.1 mN j4 j2)
    rcases b3 with ⟨-, rfl, h⟩ | ⟨y1, rfl, N1, hD, hl⟩
    · exact ⟨_, M2, ⟨F2, f2⟩, m2, nn_same h bN⟩
    refine ⟨_, M2, ⟨F2, f2⟩, m2, ?_⟩
    obtain ⟨-, d2, -⟩ := hD
    have hq : (N 53 14 - 1).toNat < 40 := by omega
    have hj := j2 (N 53 14 - 1).toNat hq
    have hc := bN.2.2 (N 53 14 - 1).toNat hq
    unfold jp at hj
    obtain ⟨w, ew⟩ := Int.eq_ofNat_of_zero_le (show 0 ≤ N 62 (N 53 14 - 1).toNat by omega)
    obtain ⟨n, en⟩ := Int.eq_ofNat_of_zero_le (show 0 ≤ N 63 (N 53 14 - 1).toNat by omega)
    rw [ew, en] at hl
    rw [ew] at hc
    exact nn_lay hl (fun q => (hc (by omega)).1) (nn_on (fun a ha => d2 a (by omega) (by omega)) bN)
theorem hn_re (he : cc_env WF L xs) (hI : la_I WF bs_cps M) (hS : hn_SS M) : hn_P WF L xs 0 123 162 [.ref 8] [.ref 53] (-5, 39) M := by
  refine gn_of (II := JJ) (fs_re he.1 hI hS.1) ?_ (fun N mN jN bN => ?_)
  · obtain ⟨u, N, a1, a2, a3, a4⟩ := fd_ci (M := M) (as := [.ref 8]) (c2_xredo (xs := xs) he.1) rfl (by decide) ⟨lp_rf (show (8 : Int).toNat = 8 from rfl), trivial⟩ (fun g hg => by rw [List.mem_singleton.mp hg]; exact hI.2.2.2.1) hI.1 hI.2.1
    exact ⟨u, N, a1, a2, a3, lb_cu_ok nn_fp (by decide +kernel) a4 hS.2⟩
  · skip
    obtain ⟨j1, j2, j3, j4⟩ := JJ_iff.mp jN
    have h14 := cx_fld (c := 53) (k := 14) (lo := 0) (hi := 40) mN (by decide +kernel)
    obtain ⟨F2, r2, M2, f2, m2, b3⟩ := rz_d (show 2 ≤ 99 by decide) (dy_redo (xs := xs) he.1 mN j4 j2)
    rcases b3 with ⟨-, rfl, h⟩ | ⟨y1, rfl, N1, hl, hD⟩
    · exact ⟨_, M2, ⟨F2, f2⟩, m2, nn_same h bN⟩
    refine ⟨_, M2, ⟨F2, f2⟩, m2, ?_⟩
    obtain ⟨-, d2, -⟩ := hD
    have hq : (N 53 14).toNat < 40 := by omega
    have hj := j2 (N 53 14).toNat hq
    have hc := bN.2.2 (N 53 14).toNat hq
    unfold jp at hj
    obtain ⟨w, ew⟩ := Int.eq_ofNat_of_zero_le (show 0 ≤ N 62 (N 53 14).toNat by omega)
    obtain ⟨n, en⟩ := Int.eq_ofNat_of_zero_le (show 0 ≤ N 63 (N 53 14).toNat by omega)
    rw [ew, en] at hl
    rw [ew] at hc
    exact nn_on (fun a ha => d2 a (by omega) (by omega)) (nn_lay hl (fun q => (hc (by omega)).2) bN)
theorem hn_hs (he : cc_env WF L xs) (hI : la_I WF bs_cps M) (hS : hn_SS M) (hb : sx_w sx_r32 b) : hn_P WF L xs 0 11 153 [.ref 8, .int (Int32.ofInt b)] [.ref 53, .int (Int32.ofInt b)] (-3, 5) M :=
  gn_of (II := WF) (fs_hs he.1 hI hS.1 hb) (gn_cc he (c_house he) rfl (show (3 : Nat) ≤ 99 by decide) ⟨lp_rf (show (8 : Int).toNat = 8 from rfl), lp_v hb hb, trivial⟩ (gs_pre hI.1 hI.2.2.2.1 (by decide +kernel)) hI.1 hI.2.2.1 hS.2 (by decide +kernel) (by decide +kernel)) (fun N mN _ bN => by
    obtain ⟨z, N', a1, a2, a3⟩ := lb_of (k := 153) (vs := [.ref 53, .int (Int32.ofInt b)]) (show 3 ≤ 99 by decide) (hs_m (xs := xs) he.1 mN hb)
    refine ⟨_, N', a1, a2, ?_⟩
    rcases a3 with ⟨-, h⟩ | ⟨-, -, -, -, f, -, g⟩
    · exact nn_same h bN
    · refine ⟨fun n hn => ?_, by rw [f 61 (by decide) (by decide)]; exact bN.2.1, by rw [f 62 (by decide) (by decide), f 64 (by decide) (by decide), f 65 (by decide) (by decide)]; exact bN.2.2⟩
      have e : N' 55 n = if n = (N 53 1).toNat then hs_V b 1 else N 55 n := g 1 n (by decide)
      rw [e]
      split
      · show (0 : Int) ≤ 3
        decide
      · exact bN.1 n hn)
theorem hn_pt (he : cc_env WF L xs) (hI : la_I WF bs_cps M) (hS : hn_SS M) (hb : sx_w sx_r32 b) (hc : sx_w sx_r32 c) (hv : sx_w sx_r64 v) : hn_P WF L xs 0 142 265 [.ref 8, .int (Int32.ofInt b), .int (Int32.ofInt c), .long (Int64.ofInt v)] [.ref 53, .int (Int32.ofInt b), .int (Int32.ofInt c), .long (Int64.ofInt v)] (-13, 1) M :=
  gn_of (II := WF) (fs_pt he.1 hI hS.1 hb hc hv) (gn_cc he (c_put he) rfl (show (3 : Nat) ≤ 99 by decide) ⟨lp_rf (show (8 : Int).toNat = 8 from rfl), lp_v hb hb, lp_v hc hc, Or.inr (Or.inl ⟨rfl, v, rfl, hv, hv⟩), trivial⟩ (gs_pre hI.1 hI.2.2.2.1 (by decide +kernel)) hI.1 hI.2.2.1 hS.2 (by decide +kernel) (by decide +kernel)) (fun N mN wN bN => gn_cx he (c_mput he) rfl (show (4 : Nat) ≤ 99 by decide) ⟨lp_rf (show (53 : Int).toNat = 53 from rfl), lp_v hb hb, lp_v hc hc, Or.inr (Or.inl ⟨rfl, v, rfl, hv, hv⟩), trivial⟩ (gs_prm mN (by decide +kernel)) mN wN bN (by decide +kernel))
theorem hn_lw (he : cc_env WF L xs) (hI : la_I WF bs_cps M) (hS : hn_SS M) : hn_P WF L xs 0 32 173 [.ref 8] [.ref 53] (-220, 1) M := by
  obtain ⟨l1, l2, l3⟩ := hS.1.2.2.2.2.2.2
  obtain ⟨z, M1, M2, z1, z2, a1, a2, b1, b2, w, r, e1, e2, f1, f2⟩ := vu_law (xs := xs) he.1 (ft_I hI hS.1) l2 l3
  obtain ⟨g1, g2⟩ := ft_q hI hS.1 b2 w (fun a ha h => by
    unfold ft_n at h
    exact f1 a ha (by omega) (by omega) (by omega) (by omega)) (fun j h => by
    unfold ft_m at h
    exact f2 j (by omega) (by omega)) ⟨e1.trans e2.symm, fun i hi => by
    rw [e1] at hi
    omega, r⟩
  refine ⟨z, M1, M2, z1, Or.inl ⟨rfl, z2⟩, a1, a2, b1, b2, g1, g2, nn_fp M M2 (fun u hu => ?_) (fun p hp => by cases hp) hS.2⟩
  simp only [List.mem_cons, List.not_mem_nil, or_false] at hu
  exact f1 u (by omega) (by omega) (by omega) (by omega) (by omega)
end
