/-! No card's day is above the last: what else both sides hold, for lists. -/
section
variable {L : Nat} {xs : Nat → Int32} {M M' N N' M0 M1 M2 : Nat → Nat → Int} {k kx km : Nat} {as ax am : List Value} {r : Int × Int} {b c d e f v w : Int} {II : (Nat → Nat → Int) → Prop} {f0 g0 g1 : Nat → Int}
def ndc (f g0 g1 : Nat → Int) : Prop := ∀ q : Nat, q < 40 → f q = 6 → g0 q ≤ 29 ∧ g1 q ≤ 29
def nd (M : Nat → Nat → Int) : Prop := (∀ c : Nat, (c : Int) < M 53 8 → M 60 c ≤ 29) ∧ ndc (M 62) (M 64) (M 65)
theorem nd_fp : lb_fp [60, 62, 64, 65] [(53, 8)] nd := fun M M' z p h => by
  have z : ∀ a ∈ [60, 62, 64, 65], M' a = M a := z
  have p8 : M' 53 8 = M 53 8 := p (53, 8) (List.mem_singleton.mpr rfl)
  unfold nd
  rw [z 60 (by decide), z 62 (by decide), z 64 (by decide), z 65 (by decide), p8]
  exact h
theorem nd_T : sx_an (sx_eq (cl_M0 53 8) 0) ((List.range 40).all fun q => sx_an (sx_le (cl_M0 64 q) 29) (sx_le (cl_M0 65 q) 29)) = true := by decide +kernel
theorem nd_0 : nd cl_M0 := by
  obtain ⟨t1, t2⟩ := sx_an_iff.mp nd_T
  have t1 := sx_eq_iff.mp t1
  refine ⟨fun c hc => by omega, fun q hq _ => ?_⟩
  obtain ⟨a, b⟩ := sx_an_iff.mp (List.all_eq_true.mp t2 q (List.mem_range.mpr hq))
  exact ⟨sx_le_iff.mp a, sx_le_iff.mp b⟩
def jn_SS (M : Nat → Nat → Int) : Prop := fs_SS M ∧ nd M
theorem nd_in : (∀ z ∈ [60, 62, 64, 65], z ∈ bs_zc ++ fs_zc) ∧ (53, 8) ∈ nm_zp ++ fs_zp := by decide +kernel
theorem jn_fp : lb_fp (bs_zc ++ fs_zc) (nm_zp ++ fs_zp) jn_SS := fun M M' h1 h2 h => ⟨fs_fp M M' h1 h2 h.1, nd_fp M M' (fun z hz => h1 z (nd_in.1 z hz)) (fun p hp => by
  rw [List.mem_singleton.mp hp]
  exact h2 (53, 8) nd_in.2) h.2⟩
theorem jn_S0 : jn_SS cl_M0 := ⟨fs_S0, nd_0⟩
def jn_P (WF : (Nat → Nat → Int) → Prop) (L : Nat) (xs : Nat → Int32) (kd kx km : Nat) (ax am : List Value) (r : Int × Int) (M : Nat → Nat → Int) : Prop := ∃ z M1 M2, sx_w r z ∧ ((kd = 0 ∧ sx_w sx_r32 z) ∨ (kd = 1 ∧ sx_w sx_r64 z)) ∧ lb_run L xs kx ax M (lb_val kd z) M1 ∧ sx_mok cl_ly M1 ∧ lb_run L xs km am M1 (lb_val kd z) M2 ∧ sx_mok cl_ly M2 ∧ la_I WF bs_cps M2 ∧ jn_SS M2
theorem nd_H (hH : sx_HH cl_lay cl_rf N = sx_HH cl_lay cl_rf N') (m : sx_mok cl_ly N) (m' : sx_mok cl_ly N') (h : nd N') : nd N := by
  have g8 : ∀ {K : Nat → Nat → Int}, sx_mok cl_ly K → 0 ≤ K 53 8 ∧ K 53 8 ≤ 12 := fun {K} hm => cx_fld (c := 53) (k := 8) (lo := 0) (hi := 12) hm (by decide +kernel)
  have p8 := g8 m
  have p8' := g8 m'
  have e8 : N 53 8 = N' 53 8 := fd_fld (a := 53) (i := 8) hH rfl (by decide) rfl (by decide) (by decide) (og_w32 (by omega) (by omega)) (og_w32 (by omega) (by omega))
  refine ⟨fun g hg => ?_, fun q hq hk => ?_⟩
  · have a : ∀ {K : Nat → Nat → Int}, sx_mok cl_ly K → sx_w (-1, 143) (K 60 g) := fun {K} hm => hm 60 _ g _ rfl (by show g < 12; omega) rfl
    have p : -1 ≤ N 60 g ∧ N 60 g ≤ 143 := a m
    have p' : -1 ≤ N' 60 g ∧ N' 60 g ≤ 143 := a m'
    rw [fd_arr (a := 60) (i := g) hH rfl rfl (by decide) (by decide) (og_w32 (by omega) (by omega)) (og_w32 (by omega) (by omega))]
    exact h.1 g (by omega)
  · have a62 : ∀ {K : Nat → Nat → Int}, sx_mok cl_ly K → sx_w sx_r32 (K 62 q) := fun {K} hm => hm 62 _ q _ rfl hq rfl
    have a64 : ∀ {K : Nat → Nat → Int}, sx_mok cl_ly K → sx_w sx_r32 (K 64 q) := fun {K} hm => hm 64 _ q _ rfl hq rfl
    have a65 : ∀ {K : Nat → Nat → Int}, sx_mok cl_ly K → sx_w sx_r32 (K 65 q) := fun {K} hm => hm 65 _ q _ rfl hq rfl
    rw [fd_arr (a := 62) (i := q) hH rfl rfl (by decide) (by decide) (a62 m) (a62 m')] at hk
    rw [fd_arr (a := 64) (i := q) hH rfl rfl (by decide) (by decide) (a64 m) (a64 m'), fd_arr (a := 65) (i := q) hH rfl rfl (by decide) (by decide) (a65 m) (a65 m')]
    exact h.2 q hq hk
/-- the pair stays, and with it that bytes are bytes -/
theorem jo_of {kd : Nat} (hP : fs_P WF L xs kd kx km ax am r M) (h1 : ∃ v N, lb_run L xs kx ax M v N ∧ sx_mok cl_ly N ∧ II N ∧ nd N) (h2 : ∀ N, sx_mok cl_ly N → II N → nd N → ∃ v N', lb_run L xs km am N v N' ∧ sx_mok cl_ly N' ∧ nd N') : jn_P WF L xs kd kx km ax am r M := by
  obtain ⟨z, M1, M2, p0, p1, p2, p3, p4, p5, p6, p7⟩ := hP
  obtain ⟨v, N1, n1, n2, n3, n4⟩ := h1
  obtain ⟨-, e1⟩ := fd_run p2 n1
  obtain ⟨v', N2, q1, q2, q3⟩ := h2 N1 n2 n3 n4
  have p4' : lb_run L xs km am N1 (lb_val kd z) M2 := by
    unfold lb_run at p4 ⊢
    rw [← e1]
    exact p4
  obtain ⟨-, e2⟩ := fd_run p4' q1
  exact ⟨z, M1, M2, p0, p1, p2, p3, p4, p5, p6, p7, nd_H e2 p5 q2 q3⟩
/-- a call by its contract -/
theorem jo_cc (he : cc_env WF L xs) {c : ct_C} {q : Int × Int} (h : cc WF L xs k c) (hr : c.2.2.2.2.1 = some (0, q)) (hd : c.2.2.2.2.2.1 ≤ 99) (hv : ct_vs c.1 as) (hg : ct_g c.2.1 M) (hm : sx_mok cl_ly M) (hW : WF M) (hb : nd M) (hu : lb_cu [60, 62, 64, 65] [(53, 8)] c = true) (hw : lb_cu cz_zs [] c = true) : ∃ v N, lb_run L xs k as M v N ∧ sx_mok cl_ly N ∧ WF N ∧ nd N := by
  obtain ⟨z, N, z1, z2, z3, z4, z5, z6⟩ := lp_cc (M := M) (as := as) h hr hd hv hg hm hW
  exact ⟨_, N, z3, z4, lb_cu_ok (fp_WF he.2.1) hw z5 hW, lb_cu_ok nd_fp hu z5 hb⟩
theorem jo_cx (he : cc_env WF L xs) {c : ct_C} {q : Int × Int} (h : cc WF L xs k c) (hr : c.2.2.2.2.1 = some (0, q)) (hd : c.2.2.2.2.2.1 ≤ 99) (hv : ct_vs c.1 as) (hg : ct_g c.2.1 M) (hm : sx_mok cl_ly M) (hW : WF M) (hb : nd M) (hu : lb_cu [60, 62, 64, 65] [(53, 8)] c = true) : ∃ v N, lb_run L xs k as M v N ∧ sx_mok cl_ly N ∧ nd N := by
  obtain ⟨z, N, z1, z2, z3, z4, z5, z6⟩ := lp_cc (M := M) (as := as) h hr hd hv hg hm hW
  exact ⟨_, N, z3, z4, lb_cu_ok nd_fp hu z5 hb⟩
theorem jn_pa (he : cc_env WF L xs) (hI : la_I WF bs_cps M) (hS : jn_SS M) (hb : sx_w sx_r32 b) : jn_P WF L xs 0 113 240 [.ref 8, .int (Int32.ofInt b)] [.ref 53, .int (Int32.ofInt b)] (-5, 5) M :=
  jo_of (II := WF) (fs_pa he.1 hI hS.1 hb) (jo_cc he (c_pass he) rfl (show (6 : Nat) ≤ 99 by decide) ⟨lp_rf (show (8 : Int).toNat = 8 from rfl), lp_v hb hb, trivial⟩ (gs_pre hI.1 hI.2.2.2.1 (by decide +kernel)) hI.1 hI.2.2.1 hS.2 (by decide +kernel) (by decide +kernel)) (fun N mN wN bN => jo_cx he (c_mpass he) rfl (show (9 : Nat) ≤ 99 by decide) ⟨lp_rf (show (53 : Int).toNat = 53 from rfl), lp_v hb hb, trivial⟩ (gs_prm mN (by decide +kernel)) mN wN bN (by decide +kernel))
theorem jn_fd (he : cc_env WF L xs) (hI : la_I WF bs_cps M) (hS : jn_SS M) (hb : sx_w sx_r32 b) : jn_P WF L xs 0 30 172 [.ref 8, .int (Int32.ofInt b)] [.ref 53, .int (Int32.ofInt b)] (-3, 120) M :=
  jo_of (II := WF) (fs_fd he.1 hI hS.1 hb) (jo_cc he (c_feed he) rfl (show (2 : Nat) ≤ 99 by decide) ⟨lp_rf (show (8 : Int).toNat = 8 from rfl), lp_v hb hb, trivial⟩ (gs_pre hI.1 hI.2.2.2.1 (by decide +kernel)) hI.1 hI.2.2.1 hS.2 (by decide +kernel) (by decide +kernel)) (fun N mN wN bN => jo_cx he (c_mfeed he) rfl (show (2 : Nat) ≤ 99 by decide) ⟨lp_rf (show (53 : Int).toNat = 53 from rfl), lp_v hb hb, trivial⟩ (gs_prm mN (by decide +kernel)) mN wN bN (by decide +kernel))
theorem jn_bu (he : cc_env WF L xs) (hI : la_I WF bs_cps M) (hS : jn_SS M) (hb : sx_w sx_r32 b) : jn_P WF L xs 0 115 241 [.ref 8, .int (Int32.ofInt b)] [.ref 53, .int (Int32.ofInt b)] (-5, 1) M :=
  jo_of (II := WF) (fs_bu he.1 hI hS.1 hb) (jo_cc he (c_build he) rfl (show (2 : Nat) ≤ 99 by decide) ⟨lp_rf (show (8 : Int).toNat = 8 from rfl), lp_v hb hb, trivial⟩ (gs_pre hI.1 hI.2.2.2.1 (by decide +kernel)) hI.1 hI.2.2.1 hS.2 (by decide +kernel) (by decide +kernel)) (fun N mN wN bN => jo_cx he (c_mbuild he) rfl (show (3 : Nat) ≤ 99 by decide) ⟨lp_rf (show (53 : Int).toNat = 53 from rfl), lp_v hb hb, trivial⟩ (gs_prm mN (by decide +kernel)) mN wN bN (by decide +kernel))
theorem jn_im (he : cc_env WF L xs) (hI : la_I WF bs_cps M) (hS : jn_SS M) : jn_P WF L xs 0 117 243 [.ref 8] [.ref 53] (0, 29) M :=
  jo_of (II := WF) (fs_im he.1 hI hS.1) (jo_cc he (c_image he) rfl (show (3 : Nat) ≤ 99 by decide) ⟨lp_rf (show (8 : Int).toNat = 8 from rfl), trivial⟩ (gs_pre hI.1 hI.2.2.2.1 (by decide +kernel)) hI.1 hI.2.2.1 hS.2 (by decide +kernel) (by decide +kernel)) (fun N mN wN bN => jo_cx he (c_mimage he) rfl (show (1 : Nat) ≤ 99 by decide) ⟨lp_rf (show (53 : Int).toNat = 53 from rfl), trivial⟩ (gs_prm mN (by decide +kernel)) mN wN bN (by decide +kernel))
theorem jn_bk (he : cc_env WF L xs) (hI : la_I WF bs_cps M) (hS : jn_SS M) : jn_P WF L xs 0 119 244 [.ref 8] [.ref 53] (-5, 29) M :=
  jo_of (II := WF) (fs_bk he.1 hI hS.1) (jo_cc he (c_back he) rfl (show (3 : Nat) ≤ 99 by decide) ⟨lp_rf (show (8 : Int).toNat = 8 from rfl), trivial⟩ (gs_pre hI.1 hI.2.2.2.1 (by decide +kernel)) hI.1 hI.2.2.1 hS.2 (by decide +kernel) (by decide +kernel)) (fun N mN wN bN => jo_cx he (c_mback he) rfl (show (1 : Nat) ≤ 99 by decide) ⟨lp_rf (show (53 : Int).toNat = 53 from rfl), trivial⟩ (gs_prm mN (by decide +kernel)) mN wN bN (by decide +kernel))
theorem jn_kp (he : cc_env WF L xs) (hI : la_I WF bs_cps M) (hS : jn_SS M) (hb : sx_w sx_r32 b) (hc : sx_w sx_r32 c) : jn_P WF L xs 0 138 263 [.ref 8, .int (Int32.ofInt b), .int (Int32.ofInt c)] [.ref 53, .int (Int32.ofInt b), .int (Int32.ofInt c)] (-1, 1) M :=
  jo_of (II := WF) (fs_kp he.1 hI hS.1 hb hc) (jo_cc he (c_keep he) rfl (show (2 : Nat) ≤ 99 by decide) ⟨lp_rf (show (8 : Int).toNat = 8 from rfl), lp_v hb hb, lp_v hc hc, trivial⟩ (gs_pre hI.1 hI.2.2.2.1 (by decide +kernel)) hI.1 hI.2.2.1 hS.2 (by decide +kernel) (by decide +kernel)) (fun N mN wN bN => jo_cx he (c_mkeep he) rfl (show (3 : Nat) ≤ 99 by decide) ⟨lp_rf (show (53 : Int).toNat = 53 from rfl), lp_v hb hb, lp_v hc hc, trivial⟩ (gs_prm mN (by decide +kernel)) mN wN bN (by decide +kernel))
theorem jn_ro (he : cc_env WF L xs) (hI : la_I WF bs_cps M) (hS : jn_SS M) (hb : sx_w sx_r32 b) (hc : sx_w sx_r32 c) (hd : sx_w sx_r32 d) : jn_P WF L xs 0 140 264 [.ref 8, .int (Int32.ofInt b), .int (Int32.ofInt c), .int (Int32.ofInt d)] [.ref 53, .int (Int32.ofInt b), .int (Int32.ofInt c), .int (Int32.ofInt d)] (-14, 1) M :=
  jo_of (II := WF) (fs_ro he.1 hI hS.1 hb hc hd) (jo_cc he (c_row he) rfl (show (2 : Nat) ≤ 99 by decide) ⟨lp_rf (show (8 : Int).toNat = 8 from rfl), lp_v hb hb, lp_v hc hc, lp_v hd hd, trivial⟩ (gs_pre hI.1 hI.2.2.2.1 (by decide +kernel)) hI.1 hI.2.2.1 hS.2 (by decide +kernel) (by decide +kernel)) (fun N mN wN bN => jo_cx he (c_mrow he) rfl (show (3 : Nat) ≤ 99 by decide) ⟨lp_rf (show (53 : Int).toNat = 53 from rfl), lp_v hb hb, lp_v hc hc, lp_v hd hd, trivial⟩ (gs_prm mN (by decide +kernel)) mN wN bN (by decide +kernel))
theorem jn_sf (he : cc_env WF L xs) (hI : la_I WF bs_cps M) (hS : jn_SS M) (hb : sx_w sx_r32 b) (hc : sx_w sx_r32 c) (hd : sx_w sx_r32 d) (hk : sx_w sx_r32 e) (hf : sx_w sx_r32 f) : jn_P WF L xs 0 147 268 [.ref 8, .int (Int32.ofInt b), .int (Int32.ofInt c), .int (Int32.ofInt d), .int (Int32.ofInt e), .int (Int32.ofInt f)] [.ref 53, .int (Int32.ofInt b), .int (Int32.ofInt c), .int (Int32.ofInt d), .int (Int32.ofInt e), .int (Int32.ofInt f)] (-13, 2147483647) M :=
  jo_of (II := WF) (fs_sf he.1 hI hS.1 hb hc hd hk hf) (jo_cc he (c_shift he) rfl (show (2 : Nat) ≤ 99 by decide) ⟨lp_rf (show (8 : Int).toNat = 8 from rfl), lp_v hb hb, lp_v hc hc, lp_v hd hd, lp_v hk hk, lp_v hf hf, trivial⟩ (gs_pre hI.1 hI.2.2.2.1 (by decide +kernel)) hI.1 hI.2.2.1 hS.2 (by decide +kernel) (by decide +kernel)) (fun N mN wN bN => jo_cx he (c_mshift he) rfl (show (3 : Nat) ≤ 99 by decide) ⟨lp_rf (show (53 : Int).toNat = 53 from rfl), lp_v hb hb, lp_v hc hc, lp_v hd hd, lp_v hk hk, lp_v hf hf, trivial⟩ (gs_prm mN (by decide +kernel)) mN wN bN (by decide +kernel))
theorem jn_pt (he : cc_env WF L xs) (hI : la_I WF bs_cps M) (hS : jn_SS M) (hb : sx_w sx_r32 b) (hc : sx_w sx_r32 c) (hv : sx_w sx_r64 v) : jn_P WF L xs 0 142 265 [.ref 8, .int (Int32.ofInt b), .int (Int32.ofInt c), .long (Int64.ofInt v)] [.ref 53, .int (Int32.ofInt b), .int (Int32.ofInt c), .long (Int64.ofInt v)] (-13, 1) M :=
  jo_of (II := WF) (fs_pt he.1 hI hS.1 hb hc hv) (jo_cc he (c_put he) rfl (show (3 : Nat) ≤ 99 by decide) ⟨lp_rf (show (8 : Int).toNat = 8 from rfl), lp_v hb hb, lp_v hc hc, Or.inr (Or.inl ⟨rfl, v, rfl, hv, hv⟩), trivial⟩ (gs_pre hI.1 hI.2.2.2.1 (by decide +kernel)) hI.1 hI.2.2.1 hS.2 (by decide +kernel) (by decide +kernel)) (fun N mN wN bN => jo_cx he (c_mput he) rfl (show (4 : Nat) ≤ 99 by decide) ⟨lp_rf (show (53 : Int).toNat = 53 from rfl), lp_v hb hb, lp_v hc hc, Or.inr (Or.inl ⟨rfl, v, rfl, hv, hv⟩), trivial⟩ (gs_prm mN (by decide +kernel)) mN wN bN (by decide +kernel))
theorem nd_same (h : ∀ a, a < 128 → N a = M a) (hb : nd M) : nd N := nd_fp M N (fun z hz => h z (by
  simp only [List.mem_cons, List.not_mem_nil, or_false] at hz
  omega)) (fun p hp => by
  rw [List.mem_singleton.mp hp]
  show N 53 8 = M 53 8
  rw [h 53 (by decide)]) hb
theorem dl_60 {c : Nat} (hc : c ≤ 6) (h : 60 = dl_cell c) : c = 6 := by
  unfold dl_cell at h
  split at h
  · omega
  · split at h <;> omega
/-- a number is laid -/
theorem nd_lay {c m : Nat} (hc : c ≤ 7) (hl : dy_L (c : Int) (m : Int) v N N') (hv : c = 6 → v ≤ 29) (h : nd N) : nd N' := by
  obtain ⟨l1, -, l3, l4⟩ := ly_f hl
  have e8 : N' 53 8 = N 53 8 := l3 8 (by decide)
  refine ⟨fun g hg => ?_, ?_⟩
  · rw [e8] at hg
    rw [l1 60 g (by decide) (by decide)]
    split
    · rename_i q
      exact hv (dl_60 (by omega) q.2.1)
    · exact h.1 g hg
  · rw [l4 62 (by decide) (by decide), l4 64 (by decide) (by decide), l4 65 (by decide) (by decide)]
    exact h.2
theorem nd_pt {q0 : Nat} (h : ndc f0 g0 g1) (hw : w = 6 → b ≤ 29 ∧ v ≤ 29) : ndc (dy_pt f0 q0 w) (dy_pt g0 q0 b) (dy_pt g1 q0 v) := fun q hq hk => by
  have hk : (if q = q0 then w else f0 q) = 6 := hk
  show (if q = q0 then b else g0 q) ≤ 29 ∧ (if q = q0 then v else g1 q) ≤ 29
  by_cases e : q = q0
  · rw [if_pos e] at hk
    rw [if_pos e, if_pos e]
    exact hw hk
  · rw [if_neg e] at hk
    rw [if_neg e, if_neg e]
    exact h q hq hk
theorem nd_sh (h : ndc f0 g0 g1) : ndc (dy_sh f0) (dy_sh g0) (dy_sh g1) := fun q hq hk => by
  have hk : (if q < 39 then f0 (q + 1) else f0 q) = 6 := hk
  show (if q < 39 then g0 (q + 1) else g0 q) ≤ 29 ∧ (if q < 39 then g1 (q + 1) else g1 q) ≤ 29
  by_cases e : q < 39
  · rw [if_pos e] at hk
    rw [if_pos e, if_pos e]
    exact h (q + 1) (by omega) hk
  · rw [if_neg e] at hk
    rw [if_neg e, if_neg e]
    exact h q hq hk
theorem jn_me (he : cc_env WF L xs) (hI : la_I WF bs_cps M) (hS : jn_SS M) (hb : sx_w sx_r32 b) (hc : sx_w sx_r32 c) (hd : sx_w sx_r32 d) : jn_P WF L xs 0 23 163 [.ref 8, .int (Int32.ofInt b), .int (Int32.ofInt c), .int (Int32.ofInt d)] [.ref 53, .int (Int32.ofInt b), .int (Int32.ofInt c), .int (Int32.ofInt d)] (-2000000000, 143) M := by
  refine jo_of (II := JJ) (fs_me he.1 hI hS.1 hb hc hd) ?_ (fun N mN jN bN => ?_)
  · obtain ⟨u, N, a1, a2, a3, a4⟩ := fd_ci (M := M) (as := [.ref 8, .int (Int32.ofInt b), .int (Int32.ofInt c), .int (Int32.ofInt d)]) (c2_xmend (xs := xs) he.1) rfl (by decide) ⟨lp_rf (show (8 : Int).toNat = 8 from rfl), lp_v hb hb, lp_v hc hc, lp_v hd hd, trivial⟩ (fun g hg => by rw [List.mem_singleton.mp hg]; exact hI.2.2.2.1) hI.1 hI.2.1
    exact ⟨u, N, a1, a2, a3, lb_cu_ok nd_fp (by decide +kernel) a4 hS.2⟩
  · skip
    obtain ⟨F2, r2, M2, f2, m2, b3⟩ := rz_d (show 3 ≤ 99 by decide) (dy_mend (xs := xs) he.1 mN hb hc hd)
    rcases b3 with ⟨-, rfl, h⟩ | ⟨pl, rg, -, rfl, h⟩
    · exact ⟨_, M2, ⟨F2, f2⟩, m2, nd_same h bN⟩
    refine ⟨_, M2, ⟨F2, f2⟩, m2, ?_⟩
    rcases h with ⟨-, h⟩ | ⟨-, N1, hA, hl⟩
    · exact nd_same h bN
    obtain ⟨-, a2, a53, -, a5⟩ := hA
    have h6 := cx_fld (c := 53) (k := 1) (lo := 0) (hi := 6) mN (by decide +kernel)
    unfold cm_pl at pl
    unfold cm_rg at rg
    obtain ⟨w, rfl⟩ := Int.eq_ofNat_of_zero_le (show 0 ≤ c by omega)
    obtain ⟨n, rfl⟩ := Int.eq_ofNat_of_zero_le (show 0 ≤ b by omega)
    have hv : (w : Int) = 6 → dy_at (w : Int) (n : Int) N ≤ 29 ∧ d ≤ 29 := fun q => by
      have q : w = 6 := by omega
      refine ⟨?_, by omega⟩
      subst q
      have e : dy_at ((6 : Nat) : Int) (n : Int) N = N 60 n := by
        unfold dy_at
        rw [if_neg (by omega), Int.toNat_natCast, Int.toNat_natCast]
        rfl
      rw [e]
      exact bN.1 n (by omega)
    have a8 : N1 53 8 = N 53 8 := a53 8 (by decide) (by decide)
    refine nd_lay (by omega) hl (fun q => by omega) ⟨fun h hh => by rw [a2 60 (by decide) (by decide) (by decide)]; exact bN.1 h (by omega), ?_⟩
    rcases a5 with ⟨-, -, k62, -, k64, k65⟩ | ⟨-, -, k62, -, k64, k65⟩
    · rw [k62, k64, k65]
      exact nd_pt bN.2 hv
    · rw [k62, k64, k65]
      exact nd_pt (nd_sh bN.2) hv
theorem jn_un (he : cc_env WF L xs) (hI : la_I WF bs_cps M) (hS : jn_SS M) : jn_P WF L xs 0 121 160 [.ref 8] [.ref 53] (-5, 39) M := by
  refine jo_of (II := JJ) (fs_un he.1 hI hS.1) ?_ (fun N mN jN bN => ?_)
  · obtain ⟨u, N, a1, a2, a3, a4⟩ := fd_ci (M := M) (as := [.ref 8]) (c2_xundo (xs := xs) he.1) rfl (by decide) ⟨lp_rf (show (8 : Int).toNat = 8 from rfl), trivial⟩ (fun g hg => by rw [List.mem_singleton.mp hg]; exact hI.2.2.2.1) hI.1 hI.2.1
    exact ⟨u, N, a1, a2, a3, lb_cu_ok nd_fp (by decide +kernel) a4 hS.2⟩
  · skip
    obtain ⟨j1, j2, j3, j4⟩ := JJ_iff.mp jN
    have h14 := cx_fld (c := 53) (k := 14) (lo := 0) (hi := 40) mN (by decide +kernel)
    obtain ⟨F2, r2, M2, f2, m2, b3⟩ := rz_d (show 2 ≤ 99 by decide) (dy_undo (xs := xs) he.1 mN j4 j2)
    rcases b3 with ⟨-, rfl, h⟩ | ⟨y1, rfl, N1, hD, hl⟩
    · exact ⟨_, M2, ⟨F2, f2⟩, m2, nd_same h bN⟩
    refine ⟨_, M2, ⟨F2, f2⟩, m2, ?_⟩
    obtain ⟨-, d2, d53, -⟩ := hD
    have hq : (N 53 14 - 1).toNat < 40 := by omega
    have hj := j2 (N 53 14 - 1).toNat hq
    have hc := bN.2 (N 53 14 - 1).toNat hq
    unfold jp at hj
    obtain ⟨w, ew⟩ := Int.eq_ofNat_of_zero_le (show 0 ≤ N 62 (N 53 14 - 1).toNat by omega)
    obtain ⟨n, en⟩ := Int.eq_ofNat_of_zero_le (show 0 ≤ N 63 (N 53 14 - 1).toNat by omega)
    rw [ew, en] at hl
    rw [ew] at hc
    have d8 : N1 53 8 = N 53 8 := d53 8 (by decide) (by decide)
    exact nd_lay (by omega) hl (fun q => (hc (by omega)).1) (nd_fp N N1 (fun a ha => d2 a (by simp only [List.mem_cons, List.not_mem_nil, or_false] at ha; omega) (by simp only [List.mem_cons, List.not_mem_nil, or_false] at ha; omega)) (fun p hp => by rw [List.mem_singleton.mp hp]; exact d8) bN)
theorem jn_re (he : cc_env WF L xs) (hI : la_I WF bs_cps M) (hS : jn_SS M) : jn_P WF L xs 0 123 162 [.ref 8] [.ref 53] (-5, 39) M := by
  refine jo_of (II := JJ) (fs_re he.1 hI hS.1) ?_ (fun N mN jN bN => ?_)
  · obtain ⟨u, N, a1, a2, a3, a4⟩ := fd_ci (M := M) (as := [.ref 8]) (c2_xredo (xs := xs) he.1) rfl (by decide) ⟨lp_rf (show (8 : Int).toNat = 8 from rfl), trivial⟩ (fun g hg => by rw [List.mem_singleton.mp hg]; exact hI.2.2.2.1) hI.1 hI.2.1
    exact ⟨u, N, a1, a2, a3, lb_cu_ok nd_fp (by decide +kernel) a4 hS.2⟩
  · skip
    obtain ⟨j1, j2, j3, j4⟩ := JJ_iff.mp jN
    have h14 := cx_fld (c := 53) (k := 14) (lo := 0) (hi := 40) mN (by decide +kernel)
    obtain ⟨F2, r2, M2, f2, m2, b3⟩ := rz_d (show 2 ≤ 99 by decide) (dy_redo (xs := xs) he.1 mN j4 j2)
    rcases b3 with ⟨-, rfl, h⟩ | ⟨y1, rfl, N1, hl, hD⟩
    · exact ⟨_, M2, ⟨F2, f2⟩, m2, nd_same h bN⟩
    refine ⟨_, M2, ⟨F2, f2⟩, m2, ?_⟩
    obtain ⟨-, d2, d53, -⟩ := hD
    have hq : (N 53 14).toNat < 40 := by omega
    have hj := j2 (N 53 14).toNat hq
    have hc := bN.2 (N 53 14).toNat hq
    unfold jp at hj
    obtain ⟨w, ew⟩ := Int.eq_ofNat_of_zero_le (show 0 ≤ N 62 (N 53 14).toNat by omega)
    obtain ⟨n, en⟩ := Int.eq_ofNat_of_zero_le (show 0 ≤ N 63 (N 53 14).toNat by omega)
    rw [ew, en] at hl
    rw [ew] at hc
    have d8 : M2 53 8 = N1 53 8 := d53 8 (by decide) (by decide)
    exact nd_fp N1 M2 (fun a ha => d2 a (by simp only [List.mem_cons, List.not_mem_nil, or_false] at ha; omega) (by simp only [List.mem_cons, List.not_mem_nil, or_false] at ha; omega)) (fun p hp => by rw [List.mem_singleton.mp hp]; exact d8) (nd_lay (by omega) hl (fun q => (hc (by omega)).2) bN)
theorem jn_hs (he : cc_env WF L xs) (hI : la_I WF bs_cps M) (hS : jn_SS M) (hb : sx_w sx_r32 b) : jn_P WF L xs 0 11 153 [.ref 8, .int (Int32.ofInt b)] [.ref 53, .int (Int32.ofInt b)] (-3, 5) M :=
  jo_of (II := WF) (fs_hs he.1 hI hS.1 hb) (jo_cc he (c_house he) rfl (show (3 : Nat) ≤ 99 by decide) ⟨lp_rf (show (8 : Int).toNat = 8 from rfl), lp_v hb hb, trivial⟩ (gs_pre hI.1 hI.2.2.2.1 (by decide +kernel)) hI.1 hI.2.2.1 hS.2 (by decide +kernel) (by decide +kernel)) (fun N mN _ bN => by
    obtain ⟨z, N', a1, a2, a3⟩ := lb_of (k := 153) (vs := [.ref 53, .int (Int32.ofInt b)]) (show 3 ≤ 99 by decide) (hs_m (xs := xs) he.1 mN hb)
    refine ⟨_, N', a1, a2, ?_⟩
    rcases a3 with ⟨-, h⟩ | ⟨-, -, -, -, f, ⟨-, f53, -⟩, -⟩
    · exact nd_same h bN
    · have f8 : N' 53 8 = N 53 8 := f53 8 (by decide) (by decide)
      exact nd_fp N N' (fun a ha => f a (by simp only [List.mem_cons, List.not_mem_nil, or_false] at ha; omega) (by simp only [List.mem_cons, List.not_mem_nil, or_false] at ha; omega)) (fun p hp => by rw [List.mem_singleton.mp hp]; exact f8) bN)
theorem jn_ka (he : cc_env WF L xs) (hI : la_I WF bs_cps M) (hS : jn_SS M) (hb : sx_w sx_r32 b) (hc : sx_w sx_r32 c) : jn_P WF L xs 0 15 155 [.ref 8, .int (Int32.ofInt b), .int (Int32.ofInt c)] [.ref 53, .int (Int32.ofInt b), .int (Int32.ofInt c)] (-3, 11) M :=
  jo_of (II := WF) (fs_ka he.1 hI hS.1 hb hc) (jo_cc he (c_card he) rfl (show (3 : Nat) ≤ 99 by decide) ⟨lp_rf (show (8 : Int).toNat = 8 from rfl), lp_v hb hb, lp_v hc hc, trivial⟩ (gs_pre hI.1 hI.2.2.2.1 (by decide +kernel)) hI.1 hI.2.2.1 hS.2 (by decide +kernel) (by decide +kernel)) (fun N mN _ bN => by
    obtain ⟨z, N', a1, a2, a3⟩ := lb_of (k := 155) (vs := [.ref 53, .int (Int32.ofInt b), .int (Int32.ofInt c)]) (show 4 ≤ 99 by decide) (ka_m (xs := xs) he.1 mN hb hc)
    refine ⟨_, N', a1, a2, ?_⟩
    have g8 := cx_fld (c := 53) (k := 8) (lo := 0) (hi := 12) mN (by decide +kernel)
    rcases a3 with ⟨-, h⟩ | ⟨-, -, -, k29, -, -, f, f53, f60⟩
    · exact nd_same h bN
    · have f8 : N' 53 8 = N 53 8 + 1 := by
        rw [f53 8]
        exact if_pos rfl
      refine ⟨fun g hg => ?_, by rw [f 62 (by decide) (by decide) (by decide) (by decide), f 64 (by decide) (by decide) (by decide) (by decide), f 65 (by decide) (by decide) (by decide) (by decide)]; exact bN.2⟩
      rw [f60 g]
      split
      · exact k29
      · exact bN.1 g (by omega))
theorem jn_cd (he : cc_env WF L xs) (hI : la_I WF bs_cps M) (hS : jn_SS M) (hb : sx_w sx_r32 b) (hc : sx_w sx_r32 c) (hd : sx_w sx_r32 d) : jn_P WF L xs 0 18 158 [.ref 8, .int (Int32.ofInt b), .int (Int32.ofInt c), .int (Int32.ofInt d)] [.ref 53, .int (Int32.ofInt b), .int (Int32.ofInt c), .int (Int32.ofInt d)] (-12, 12) M := by
  refine jo_of (II := fun N => N 87 = M 87) (fs_cd he.1 hI hS.1 hb hc hd) ?_ (fun N mN eN bN => ?_)
  · obtain ⟨z, N, z1, z2, z3, z4, z5, z6⟩ := lp_cc (M := M) (as := [.ref 8, .int (Int32.ofInt b), .int (Int32.ofInt c), .int (Int32.ofInt d)]) (c_cards he) rfl (show (4 : Nat) ≤ 99 by decide) ⟨lp_rf (show (8 : Int).toNat = 8 from rfl), lp_v hb hb, lp_v hc hc, lp_v hd hd, trivial⟩ (gs_pre hI.1 hI.2.2.2.1 (by decide +kernel)) hI.1 hI.2.2.1
    have f87 : lb_fp [87] [] (fun K => K 87 = M 87) := fun X Y z _ h => (z 87 (List.mem_singleton.mpr rfl)).trans h
    exact ⟨_, N, z3, z4, lb_cu_ok f87 (by decide +kernel) z5 rfl, lb_cu_ok nd_fp (by decide +kernel) z5 hS.2⟩
  · have eN : N 87 = M 87 := eN
    have hs' := sx_r32_iff.mp hb
    have neg : ∀ {r : Int × Int}, r ∈ zo_R → sx_w r b → ∃ v N', lb_run L xs 158 [.ref 53, .int (Int32.ofInt b), .int (Int32.ofInt c), .int (Int32.ofInt d)] N v N' ∧ sx_mok cl_ly N' ∧ nd N' := fun {r} hm hr => by
      obtain ⟨y, N', b1, b2, -, b3⟩ := lb_of (k := 158) (vs := [.ref 53, .int (Int32.ofInt b), .int (Int32.ofInt c), .int (Int32.ofInt d)]) (show 3 ≤ 99 by decide) (zo_o (xs := xs) (a := 53) rfl (List.all_eq_true.mp zo_cm _ hm) he.1 mN hr hb hc hd)
      exact ⟨_, N', b1, b2, nd_same b3 bN⟩
    by_cases h1 : b < 0
    · exact neg (r := (og_mn, -1)) (by simp [zo_R]) ⟨hs'.1, by show b ≤ -1; omega⟩
    by_cases h2 : 5 < b
    · exact neg (r := (6, og_mx)) (by simp [zo_R]) ⟨by show 6 ≤ b; omega, by show b ≤ 2147483647; omega⟩
    obtain ⟨s, rfl⟩ := Int.eq_ofNat_of_zero_le (show 0 ≤ b by omega)
    have h6 : s < 6 := by omega
    obtain ⟨q, q4, x2, x3, xm, x9⟩ := zd_kd (hS.1.1.1 s h6)
    obtain ⟨y, N', b1, b2, b3⟩ := lb_of (k := 158) (vs := [.ref 53, .int (Int32.ofInt (s : Int)), .int (Int32.ofInt c), .int (Int32.ofInt d)]) (show 4 ≤ 99 by decide) (zd_mm (xs := xs) he.1 mN h6 q4 (by rw [eN]; exact xm) hc hd)
    refine ⟨_, N', b1, b2, ?_⟩
    have g8 := cx_fld (c := 53) (k := 8) (lo := 0) (hi := 12) mN (by decide +kernel)
    unfold zd_M at b3
    split at b3
    · exact nd_same b3.2 bN
    · split at b3
      · exact nd_same b3.2 bN
      · split at b3
        · obtain ⟨k, -, k12, -, kc, kf, k53, k60, -⟩ := b3
          have f8 : N' 53 8 = N 53 8 + (k : Int) := by
            rw [k53 8]
            exact if_pos rfl
          refine ⟨fun g hg => ?_, by rw [kf 62 (by decide) (by decide) (by decide) (by decide), kf 64 (by decide) (by decide) (by decide) (by decide), kf 65 (by decide) (by decide) (by decide) (by decide)]; exact bN.2⟩
          rw [k60 g]
          split
          · rename_i q1
            have q2 := (kc (g - (N 53 8).toNat) (by omega)).2.2.2.2.2.2.1
            exact q2
          · exact bN.1 g (by omega)
        · exact nd_same b3.2 bN
theorem jn_lw (he : cc_env WF L xs) (hI : la_I WF bs_cps M) (hS : jn_SS M) : jn_P WF L xs 0 32 173 [.ref 8] [.ref 53] (-220, 1) M := by
  obtain ⟨l1, l2, l3⟩ := hS.1.2.2.2.2.2.2
  obtain ⟨z, M1, M2, z1, z2, a1, a2, b1, b2, w, r, e1, e2, f1, f2⟩ := vu_law (xs := xs) he.1 (ft_I hI hS.1) l2 l3
  obtain ⟨g1, g2⟩ := ft_q hI hS.1 b2 w (fun a ha h => by
    unfold ft_n at h
    exact f1 a ha (by omega) (by omega) (by omega) (by omega)) (fun j h => by
    unfold ft_m at h
    exact f2 j (by omega) (by omega)) ⟨e1.trans e2.symm, fun i hi => by
    rw [e1] at hi
    omega, r⟩
  refine ⟨z, M1, M2, z1, Or.inl ⟨rfl, z2⟩, a1, a2, b1, b2, g1, g2, nd_fp M M2 (fun u hu => ?_) (fun p hp => ?_) hS.2⟩
  · simp only [List.mem_cons, List.not_mem_nil, or_false] at hu
    exact f1 u (by omega) (by omega) (by omega) (by omega) (by omega)
  · rw [List.mem_singleton.mp hp]
    exact f2 8 (by omega) (by omega)
/-- ask: the reference lays a card beyond the cards, and takes it away -/
theorem nd_ak (he : cc_env WF L xs) (mN : sx_mok cl_ly N) (wN : WF N) (bN : nd N) (hb : sx_w sx_r32 b) : ∃ v N', lb_run L xs 216 [.ref 53, .int (Int32.ofInt b)] N v N' ∧ sx_mok cl_ly N' ∧ nd N' := by
  have g8 := cx_fld (c := 53) (k := 8) (lo := 0) (hi := 12) mN (by decide +kernel)
  obtain ⟨n, en⟩ := Int.eq_ofNat_of_zero_le g8.1
  by_cases h12 : n = 12
  · obtain ⟨y, M2, y1, y2, y3, y4, y5, y6⟩ := lp_cc (M := N) (c := ak_12) (as := [.ref 53, .int (Int32.ofInt b)]) (cc_ok he cc_nil ak_12c) rfl (show (3 : Nat) ≤ 99 by decide) ⟨lp_rf (show (53 : Int).toNat = 53 from rfl), lp_v hb hb, trivial⟩ (fun g hg => by
      rw [List.mem_singleton.mp hg]
      show (12 : Int) ≤ N 53 8 ∧ N 53 8 ≤ 12
      omega) mN wN
    exact ⟨_, M2, y3, y4, lb_cu_ok (c := ak_12) nd_fp (by decide +kernel) y5 bN⟩
  · have hn : n < 12 := by omega
    obtain ⟨y, M2, y1, y2, y3, y4, y5, y6⟩ := lp_cc (M := N) (c := fk_c n) (as := [.ref 53, .int (Int32.ofInt b)]) (cc_ok he (cc_cons (c_mgoTo he) cc_nil) (List.all_eq_true.mp fk_all n (List.mem_range.mpr hn))) rfl (show (11 : Nat) ≤ 99 by decide) ⟨lp_rf (show (53 : Int).toNat = 53 from rfl), lp_v hb hb, trivial⟩ (fun g hg => by
      simp only [fk_c, List.mem_cons, List.not_mem_nil, or_false] at hg
      rcases hg with rfl | rfl | rfl | rfl
      · exact cx_fld (c := 53) (k := 1) (lo := 0) (hi := 6) mN (by decide +kernel)
      · exact cx_fld (c := 53) (k := 7) (lo := -2147483648) (hi := 2147483647) mN (by decide +kernel)
      · show (n : Int) ≤ N 53 8 ∧ N 53 8 ≤ (n : Int)
        omega
      · exact cx_fld (c := 53) (k := 13) (lo := 0) (hi := 29) mN (by decide +kernel)) mN wN
    have e8 : M2 53 8 = N 53 8 := by
      have h := y6 (53, 8, (n : Int), (n : Int)) (by simp [fk_c])
      have h : (n : Int) ≤ M2 53 8 ∧ M2 53 8 ≤ (n : Int) := h
      omega
    have fr : ∀ a j, a < 128 → a ∉ [72, 73, 75, 76, 77] → ¬ (a = 60 ∧ j = n) → ¬ (a = 59 ∧ j = n) → a ≠ 53 → M2 a j = N a j := fun a j ha h1 h2 h4 h3 => by
      refine y5 a j ha h1 (fun g hg k1 k2 => ?_)
      simp only [fk_c, List.mem_cons, List.not_mem_nil, or_false] at hg
      rcases hg with rfl | rfl | rfl | rfl | rfl
      · exact h3 k1.symm
      · exact h2 ⟨k1.symm, k2.symm⟩
      · exact h4 ⟨k1.symm, k2.symm⟩
      · exact h3 k1.symm
      · exact h3 k1.symm
    have fw : ∀ a, a = 62 ∨ a = 64 ∨ a = 65 → M2 a = N a := fun a ha => by
      funext j
      exact fr a j (by omega) (by simp only [List.mem_cons, List.not_mem_nil, or_false]; omega) (fun q => by omega) (fun q => by omega) (by omega)
    refine ⟨_, M2, y3, y4, fun g hg => ?_, ?_⟩
    · rw [fr 60 g (by decide) (by decide) (fun q => by omega) (fun q => by omega) (by decide)]
      exact bN.1 g (by omega)
    · rw [fw 62 (by omega), fw 64 (by omega), fw 65 (by omega)]
      exact bN.2
theorem jn_ak (he : cc_env WF L xs) (hI : la_I WF bs_cps M) (hS : jn_SS M) (hb : sx_w sx_r32 b) : ∃ z z' M1 M2, ((0 = 0 ∧ sx_w sx_r32 z ∧ sx_w sx_r32 z') ∨ (0 = 1 ∧ sx_w sx_r64 z ∧ sx_w sx_r64 z')) ∧ lb_run L xs 85 [.ref 8, .int (Int32.ofInt b)] M (lb_val 0 z) M1 ∧ sx_mok cl_ly M1 ∧ lb_run L xs 216 [.ref 53, .int (Int32.ofInt b)] M1 (lb_val 0 z') M2 ∧ sx_mok cl_ly M2 ∧ la_I WF bs_cps M2 ∧ jn_SS M2 := by
  obtain ⟨z, z', M1, M2, p0, p2, p3, p4, p5, p6, p7⟩ := fs_ak he hI hS.1 hb
  obtain ⟨v, N1, n1, n2, n3, n4⟩ := jo_cc (as := [.ref 8, .int (Int32.ofInt b)]) he (c_ask he) rfl (show (6 : Nat) ≤ 99 by decide) ⟨lp_rf (show (8 : Int).toNat = 8 from rfl), lp_v hb hb, trivial⟩ (gs_pre hI.1 hI.2.2.2.1 (by decide +kernel)) hI.1 hI.2.2.1 hS.2 (by decide +kernel) (by decide +kernel)
  obtain ⟨v', N2, q1, q2, q3⟩ := nd_ak (xs := xs) he n2 n3 n4 hb
  obtain ⟨-, e1⟩ := fd_run p2 n1
  have p4' : lb_run L xs 216 [.ref 53, .int (Int32.ofInt b)] N1 (lb_val 0 z') M2 := by
    unfold lb_run at p4 ⊢
    rw [← e1]
    exact p4
  obtain ⟨-, e2⟩ := fd_run p4' q1
  exact ⟨z, z', M1, M2, p0, p2, p3, p4, p5, p6, p7, nd_H e2 p5 q2 q3⟩
end
