/-! Pairs of calls that were shown already: what else both sides hold alike stays so, too. -/
section
variable {L : Nat} {xs : Nat → Int32} {M M' N N' M0 M1 M2 : Nat → Nat → Int} {k kx km : Nat} {as ax am : List Value} {r : Int × Int} {n w v s b i o j q : Int}
/-- what most calls leave of the club: by cells, and place by place -/
def fs_K (M N : Nat → Nat → Int) : Prop := (∀ j, 4 ≤ j → j ≤ 7 → N 9 j = M 9 j) ∧ N 11 = M 11 ∧ N 59 = M 59 ∧ N 74 = M 74 ∧ N 53 7 = M 53 7
def fs_k (M N : Nat → Nat → Int) : Prop := (∀ j, 4 ≤ j → j ≤ 7 → N 9 j = M 9 j) ∧ (∀ c, c < 12 → N 11 c = M 11 c ∧ N 59 c = M 59 c) ∧ (∀ h, h < 6 → N 74 h = M 74 h) ∧ N 53 7 = M 53 7
theorem fs_Kk (h : fs_K M N) : fs_k M N := ⟨h.1, fun c _ => by rw [h.2.1, h.2.2.1]; exact ⟨rfl, rfl⟩, fun g _ => by rw [h.2.2.2.1], h.2.2.2.2⟩
theorem fs_k_tr (h1 : fs_k M M1) (h2 : fs_k M1 M2) : fs_k M M2 := ⟨fun j p q => (h2.1 j p q).trans (h1.1 j p q), fun c hc => ⟨(h2.2.1 c hc).1.trans (h1.2.1 c hc).1, (h2.2.1 c hc).2.trans (h1.2.1 c hc).2⟩, fun g hg => (h2.2.2.1 g hg).trans (h1.2.2.1 g hg), h2.2.2.2.trans h1.2.2.2⟩
theorem fd_w5 {z : Int} (h : sx_w (0, 5) z) : sx_w sx_r32 z := by
  have h1 : 0 ≤ z := h.1
  have h2 : z ≤ 5 := h.2
  exact og_w32 (by omega) (by omega)
/-- one heap: the same numbers -/
theorem fd_k (hH : sx_HH cl_lay cl_rf N = sx_HH cl_lay cl_rf N') (m : sx_mok cl_ly N) (m' : sx_mok cl_ly N') : fs_k N' N := by
  have f4 : ∀ {K : Nat → Nat → Int}, sx_mok cl_ly K → sx_w sx_r32 (K 9 4) := fun {K} hm => by
    have := cx_fld (c := 9) (k := 4) (lo := 0) (hi := 6) hm (by decide +kernel)
    exact og_w32 (by omega) (by omega)
  have f5 : ∀ {K : Nat → Nat → Int}, sx_mok cl_ly K → sx_w sx_r32 (K 9 5) := fun {K} hm => by
    have := cx_fld (c := 9) (k := 5) (lo := 0) (hi := 12) hm (by decide +kernel)
    exact og_w32 (by omega) (by omega)
  refine ⟨fun j h1 h2 => ?_, fun c hc => ⟨?_, ?_⟩, fun h hh => ?_, ?_⟩
  · have e : j = 4 ∨ j = 5 ∨ j = 6 ∨ j = 7 := by omega
    rcases e with rfl | rfl | rfl | rfl
    · exact fd_fld hH rfl (by decide) rfl (by decide) (by decide) (f4 m) (f4 m')
    · exact fd_fld hH rfl (by decide) rfl (by decide) (by decide) (f5 m) (f5 m')
    · exact fd_fld hH rfl (by decide) rfl (by decide) (by decide) (cv_ly_ok (g := (9, 6, sx_r32)) m (by decide +kernel)) (cv_ly_ok (g := (9, 6, sx_r32)) m' (by decide +kernel))
    · exact fd_fld hH rfl (by decide) rfl (by decide) (by decide) (cv_ly_ok (g := (9, 7, sx_r32)) m (by decide +kernel)) (cv_ly_ok (g := (9, 7, sx_r32)) m' (by decide +kernel))
  · exact fd_arr hH rfl rfl (by decide) (by decide) (fd_w5 (m 11 _ c _ rfl hc rfl)) (fd_w5 (m' 11 _ c _ rfl hc rfl))
  · exact fd_arr hH rfl rfl (by decide) (by decide) (fd_w5 (m 59 _ c _ rfl hc rfl)) (fd_w5 (m' 59 _ c _ rfl hc rfl))
  · exact fd_arr hH rfl rfl (by decide) (by decide) (m 74 _ h _ rfl hh rfl) (m' 74 _ h _ rfl hh rfl)
  · exact fd_fld hH rfl (by decide) rfl (by decide) (by decide) (cv_ly_ok (g := (53, 7, sx_r32)) m (by decide +kernel)) (cv_ly_ok (g := (53, 7, sx_r32)) m' (by decide +kernel))
/-- what pairs of these calls leave of all else -/
theorem fs_Xk (hm : sx_mok cl_ly M) (hX : fs_X M) (fr : bs_fr M N) (hk : fs_k M N) : fs_X N := by
  obtain ⟨⟨s1, s2, s3, s4⟩, o, b1, b2, ⟨⟨i1, i2, i3, i4⟩, i5, i6, i7, i8, i9, i10⟩, l1, l2, l3⟩ := hX
  obtain ⟨k1, k2, k3, k4⟩ := hk
  have z : ∀ a, a < 128 → bs_w a → N a = M a := fr.1
  have zz : ∀ a ∈ [12, 13, 14, 15, 16, 34, 35, 36, 66, 67, 68, 69, 70, 71, 82, 83, 84], N a = M a := fun a ha => by
    have : ∀ a ∈ [12, 13, 14, 15, 16, 34, 35, 36, 66, 67, 68, 69, 70, 71, 82, 83, 84], a < 128 ∧ bs_w a := by unfold bs_w; decide +kernel
    exact z a (this a ha).1 (this a ha).2
  have p : ∀ j, j = 11 ∨ j = 21 ∨ j = 33 ∨ (50 ≤ j ∧ j ≤ 53) → N 53 j = M 53 j := fun j hj => fr.2 j (by unfold bs_v; omega)
  have z12 := zz 12 (by decide)
  have z13 := zz 13 (by decide)
  have z14 := zz 14 (by decide)
  have z34 := zz 34 (by decide)
  have hC := cx_fld (c := 9) (k := 5) (lo := 0) (hi := 12) hm (by decide +kernel)
  refine ⟨⟨?_, ?_, fun h hh => ?_, fun k hk => ?_⟩, fun c hc => ?_, ?_, ?_, ⟨⟨?_, ?_, ?_, ?_⟩, fun h hh => ?_, fun k hk => ?_, ?_, ?_, ?_, ?_⟩, ?_, fun i hi => ?_, ?_⟩
  · rw [k1 6 (by decide) (by decide), k4]; exact s1
  · rw [k1 7 (by decide) (by decide), p 11 (by decide)]; exact s2
  · rw [z12, k3 h hh]; exact s3 h hh
  · rw [z13, zz 82 (by decide)]; exact s4 k hk
  · rw [k1 5 (by decide) (by decide)] at hc
    obtain ⟨c1, c2⟩ := k2 c (by omega)
    rw [c1, c2, k1 4 (by decide) (by decide)]
    exact o c hc
  · rw [k1 6 (by decide) (by decide), k1 4 (by decide) (by decide)]; exact b1
  · rw [k1 7 (by decide) (by decide), k1 5 (by decide) (by decide)]; exact b2
  · rw [z34, p 50 (by decide)]; exact i1
  · rw [z34, p 51 (by decide)]; exact i2
  · rw [z34, p 52 (by decide)]; exact i3
  · rw [z34, p 53 (by decide)]; exact i4
  · rw [zz 35 (by decide), zz 83 (by decide)]; exact i5 h hh
  · rw [zz 36 (by decide), zz 84 (by decide)]; exact i6 k hk
  · rw [z34]; exact i7
  · rw [z34]; exact i8
  · rw [z34, k1 4 (by decide) (by decide)]; exact i9
  · rw [z34, k1 5 (by decide) (by decide)]; exact i10
  · rw [z14, p 21 (by decide)]; exact l1
  · rw [z14] at hi
    rw [zz 66 (by decide), zz 15 (by decide)]
    exact l2 i hi
  · exact vu_M (zz 16 (by decide)) (by rw [z14]) (p 33 (by decide)) (zz 67 (by decide)) (zz 68 (by decide)) (zz 69 (by decide)) (zz 70 (by decide)) (zz 71 (by decide)) l3
theorem fd_ci {c : ct_C} {q : Int × Int} (h : ci L xs k c) (hr : c.2.2.2.2.1 = some (0, q)) (hd : c.2.2.2.2.2.1 ≤ 99) (hv : ct_vs c.1 as) (hg : ct_g c.2.1 M) (hm : sx_mok cl_ly M) (hJ : JJ M) : ∃ v N, lb_run L xs k as M v N ∧ sx_mok cl_ly N ∧ JJ N ∧ ct_fr c M N := by
  obtain ⟨F, r, N, f1, f2, f3, f4, f5, f6⟩ := h 99 as M hd hv hg hm hJ
  rw [hr] at f5
  cases r with
  | none => cases f5
  | some v => exact ⟨v, N, ⟨F, f1⟩, f2, f6, f3⟩
theorem fs_from (hI : la_I WF bs_cps M) (hS : fs_SS M) (hb : bs_P WF L xs kx km ax am r M) (hx : ∃ v N, lb_run L xs kx ax M v N ∧ sx_mok cl_ly N ∧ JJ N ∧ fs_K M N) (hm : ∀ N, sx_mok cl_ly N → JJ N → ∃ v N', lb_run L xs km am N v N' ∧ sx_mok cl_ly N' ∧ fs_K N N') : fs_P WF L xs 0 kx km ax am r M := by
  obtain ⟨z, M1, M2, h0, h1, h2, h3, h4, h5, h6, h7, h8⟩ := hb
  obtain ⟨v, N1, n1, n2, n3, n4⟩ := hx
  obtain ⟨-, e1⟩ := fd_run h2 n1
  obtain ⟨v', N2, p1, p2, p3⟩ := hm N1 n2 n3
  have h4' : lb_run L xs km am N1 (lb_val 0 z) M2 := by
    unfold lb_run at h4 ⊢
    rw [← e1]
    exact h4
  obtain ⟨-, e2⟩ := fd_run h4' p1
  have hk : fs_k M M2 := fs_k_tr (fs_k_tr (fs_Kk n4) (fs_Kk p3)) (fd_k e2 h5 p2)
  exact ⟨z, M1, M2, h0, h1, h2, h3, h4, h5, h6, h7, fs_Xk hI.1 hS.2 h8 hk⟩
theorem fs_Kof {c : ct_C} (h : ct_fr c M N) (hc : (sx_an (lb_cu [11, 59, 74] [(9, 4), (9, 5), (9, 6), (9, 7), (53, 7)] c) true) = true) : fs_K M N := by
  have h1 := (sx_an_iff.mp hc).1
  have K : lb_fp [11, 59, 74] [(9, 4), (9, 5), (9, 6), (9, 7), (53, 7)] (fs_K M) := fun A B z p k => by
    have q4 : B 9 4 = A 9 4 := p (9, 4) (by decide)
    have q5 : B 9 5 = A 9 5 := p (9, 5) (by decide)
    have q6 : B 9 6 = A 9 6 := p (9, 6) (by decide)
    have q7 : B 9 7 = A 9 7 := p (9, 7) (by decide)
    have q8 : B 53 7 = A 53 7 := p (53, 7) (by decide)
    refine ⟨fun j a b => ?_, ?_, ?_, ?_, ?_⟩
    · have e : j = 4 ∨ j = 5 ∨ j = 6 ∨ j = 7 := by omega
      rcases e with rfl | rfl | rfl | rfl
      · rw [q4]; exact k.1 4 (by decide) (by decide)
      · rw [q5]; exact k.1 5 (by decide) (by decide)
      · rw [q6]; exact k.1 6 (by decide) (by decide)
      · rw [q7]; exact k.1 7 (by decide) (by decide)
    · rw [z 11 (by decide)]; exact k.2.1
    · rw [z 59 (by decide)]; exact k.2.2.1
    · rw [z 74 (by decide)]; exact k.2.2.2.1
    · rw [q8]; exact k.2.2.2.2
  exact lb_cu_ok K h1 h ⟨fun _ _ _ => rfl, rfl, rfl, rfl, rfl⟩
theorem fs_me (hL : L < 2 ^ 31) (hI : la_I WF bs_cps M) (hS : fs_SS M) (hn : sx_w sx_r32 n) (hw : sx_w sx_r32 w) (hv : sx_w sx_r32 v) : fs_P WF L xs 0 23 163 [.ref 8, .int (Int32.ofInt n), .int (Int32.ofInt w), .int (Int32.ofInt v)] [.ref 53, .int (Int32.ofInt n), .int (Int32.ofInt w), .int (Int32.ofInt v)] (-2000000000, 143) M := by
  refine fs_from hI hS (me_hp WF_zs hL hI hS.1 hn hw hv) ?_ (fun N mN jN => ?_)
  · obtain ⟨u, N, a1, a2, a3, a4⟩ := fd_ci (M := M) (as := [.ref 8, .int (Int32.ofInt n), .int (Int32.ofInt w), .int (Int32.ofInt v)]) (c2_xmend (xs := xs) hL) rfl (by decide) ⟨lp_rf (show (8 : Int).toNat = 8 from rfl), lp_v hn hn, lp_v hw hw, lp_v hv hv, trivial⟩ (fun g hg => by rw [List.mem_singleton.mp hg]; exact hI.2.2.2.1) hI.1 hI.2.1
    exact ⟨u, N, a1, a2, a3, fs_Kof a4 (by decide +kernel)⟩
  · obtain ⟨u, N', a1, a2, a3, a4⟩ := fd_ci (M := N) (as := [.ref 53, .int (Int32.ofInt n), .int (Int32.ofInt w), .int (Int32.ofInt v)]) (c2_mmend (xs := xs) hL) rfl (by decide) ⟨lp_rf (show (53 : Int).toNat = 53 from rfl), lp_v hn hn, lp_v hw hw, lp_v hv hv, trivial⟩ (fun g hg => by cases hg) mN jN
    exact ⟨u, N', a1, a2, fs_Kof a4 (by decide +kernel)⟩
theorem fs_un (hL : L < 2 ^ 31) (hI : la_I WF bs_cps M) (hS : fs_SS M) : fs_P WF L xs 0 121 160 [.ref 8] [.ref 53] (-5, 39) M := by
  refine fs_from hI hS (un_hp WF_zs hL hI hS.1) ?_ (fun N mN jN => ?_)
  · obtain ⟨u, N, a1, a2, a3, a4⟩ := fd_ci (M := M) (as := [.ref 8]) (c2_xundo (xs := xs) hL) rfl (by decide) ⟨lp_rf (show (8 : Int).toNat = 8 from rfl), trivial⟩ (fun g hg => by rw [List.mem_singleton.mp hg]; exact hI.2.2.2.1) hI.1 hI.2.1
    exact ⟨u, N, a1, a2, a3, fs_Kof a4 (by decide +kernel)⟩
  · obtain ⟨u, N', a1, a2, a3, a4⟩ := fd_ci (M := N) (as := [.ref 53]) (c2_mundo (xs := xs) hL) rfl (by decide) ⟨lp_rf (show (53 : Int).toNat = 53 from rfl), trivial⟩ (fun g hg => by cases hg) mN jN
    exact ⟨u, N', a1, a2, fs_Kof a4 (by decide +kernel)⟩
theorem fs_re (hL : L < 2 ^ 31) (hI : la_I WF bs_cps M) (hS : fs_SS M) : fs_P WF L xs 0 123 162 [.ref 8] [.ref 53] (-5, 39) M := by
  refine fs_from hI hS (re_hp WF_zs hL hI hS.1) ?_ (fun N mN jN => ?_)
  · obtain ⟨u, N, a1, a2, a3, a4⟩ := fd_ci (M := M) (as := [.ref 8]) (c2_xredo (xs := xs) hL) rfl (by decide) ⟨lp_rf (show (8 : Int).toNat = 8 from rfl), trivial⟩ (fun g hg => by rw [List.mem_singleton.mp hg]; exact hI.2.2.2.1) hI.1 hI.2.1
    exact ⟨u, N, a1, a2, a3, fs_Kof a4 (by decide +kernel)⟩
  · obtain ⟨u, N', a1, a2, a3, a4⟩ := fd_ci (M := N) (as := [.ref 53]) (c2_mredo (xs := xs) hL) rfl (by decide) ⟨lp_rf (show (53 : Int).toNat = 53 from rfl), trivial⟩ (fun g hg => by cases hg) mN jN
    exact ⟨u, N', a1, a2, fs_Kof a4 (by decide +kernel)⟩
-- shelves
theorem fs_G : sh_G (fun N => WF N ∧ nm_E N ∧ fs_X N) := fun N N' h k => by
  have e : ∀ z, sh_o z = true → N' z = N z := fun z hz => by
    obtain ⟨a, b, c⟩ := sh_o_ok hz
    exact h.2 z a b c
  refine ⟨sh_G_of WF_zs N N' h k.1, nm_fp N N' (fun z hz => e z ?_) (fun p hp => ?_) k.2.1, fs_fpX N N' (fun z hz => e z ?_) (fun p hp => ?_) k.2.2⟩
  · have : (nm_zc.all sh_o) = true := by decide +kernel
    exact List.all_eq_true.mp this z hz
  · have : (nm_zp.all fun p => sh_o p.1) = true := by decide +kernel
    rw [e p.1 (List.all_eq_true.mp this p hp)]
  · have : (fs_zc.all sh_o) = true := by decide +kernel
    exact List.all_eq_true.mp this z hz
  · have : (fs_zp.all fun p => sh_o p.1) = true := by decide +kernel
    rw [e p.1 (List.all_eq_true.mp this p hp)]
theorem fs_I1 (hI : la_I WF bs_cps M) (hS : fs_SS M) : la_I (fun N => WF N ∧ nm_E N ∧ fs_X N) bs_cps M := ⟨hI.1, hI.2.1, ⟨hI.2.2.1, hS.1.2, hS.2⟩, hI.2.2.2⟩
theorem fs_sh (h : sh_P (fun N => WF N ∧ nm_E N ∧ fs_X N) L xs bs_cps kx km ax am r M) : fs_P WF L xs 0 kx km ax am r M := by
  obtain ⟨z, M1, M2, h0, h1, h2, h3, h4, h5, h6, h7⟩ := h
  exact ⟨z, M1, M2, h0, h1, h2, h3, h4, h5, ⟨h6.1, h6.2.1, h6.2.2.1.1, h6.2.2.2⟩, ⟨⟨h7, h6.2.2.1.2.1⟩, h6.2.2.1.2.2⟩⟩
theorem fs_kp (hL : L < 2 ^ 31) (hI : la_I WF bs_cps M) (hS : fs_SS M) (hs : sx_w sx_r32 s) (hb : sx_w sx_r32 b) : fs_P WF L xs 0 138 263 [.ref 8, .int (Int32.ofInt s), .int (Int32.ofInt b)] [.ref 53, .int (Int32.ofInt s), .int (Int32.ofInt b)] (-1, 1) M := fs_sh (kp_hp' fs_G (by decide +kernel) (by simp [bs_cps]) hL (fs_I1 hI hS) hS.1.1 hs hb)
theorem fs_ro (hL : L < 2 ^ 31) (hI : la_I WF bs_cps M) (hS : fs_SS M) (hs : sx_w sx_r32 s) (hq : sx_w sx_r32 q) (hn : sx_w sx_r32 n) : fs_P WF L xs 0 140 264 [.ref 8, .int (Int32.ofInt s), .int (Int32.ofInt q), .int (Int32.ofInt n)] [.ref 53, .int (Int32.ofInt s), .int (Int32.ofInt q), .int (Int32.ofInt n)] (-14, 1) M := fs_sh (ro_hp fs_G (by decide +kernel) hL (fs_I1 hI hS) hS.1.1 hs hq hn)
theorem fs_sf (hL : L < 2 ^ 31) (hI : la_I WF bs_cps M) (hS : fs_SS M) (hs : sx_w sx_r32 s) (hi : sx_w sx_r32 i) (ho : sx_w sx_r32 o) (hj : sx_w sx_r32 j) (hn : sx_w sx_r32 n) : fs_P WF L xs 0 147 268 [.ref 8, .int (Int32.ofInt s), .int (Int32.ofInt i), .int (Int32.ofInt o), .int (Int32.ofInt j), .int (Int32.ofInt n)] [.ref 53, .int (Int32.ofInt s), .int (Int32.ofInt i), .int (Int32.ofInt o), .int (Int32.ofInt j), .int (Int32.ofInt n)] (-13, 2147483647) M := fs_sh (sf_hp fs_G (by decide +kernel) hL (fs_I1 hI hS) hS.1.1 hs hi ho hj hn)
theorem fs_pt (hL : L < 2 ^ 31) (hI : la_I WF bs_cps M) (hS : fs_SS M) (hs : sx_w sx_r32 s) (hi : sx_w sx_r32 i) (hv : sx_w sx_r64 v) : fs_P WF L xs 0 142 265 [.ref 8, .int (Int32.ofInt s), .int (Int32.ofInt i), .long (Int64.ofInt v)] [.ref 53, .int (Int32.ofInt s), .int (Int32.ofInt i), .long (Int64.ofInt v)] (-13, 1) M := fs_sh (pt_hp fs_G (by decide +kernel) hL (fs_I1 hI hS) hS.1.1 hs hi hv)
end
