/-! feed, law, ask: the pairs, with all that is held alike. -/
section
variable {L : Nat} {xs : Nat → Int32} {M M' N N' M0 M1 M2 : Nat → Nat → Int} {b s : Int}
/-- what feed and law may touch -/
def ft_n (a : Nat) : Prop := ¬ (14 ≤ a ∧ a ≤ 18) ∧ a ≠ 53 ∧ ¬ (66 ≤ a ∧ a ≤ 71)
def ft_m (j : Nat) : Prop := j ≠ 33 ∧ ¬ (21 ≤ j ∧ j ≤ 25)
theorem ft_q (hI : la_I WF bs_cps M) (hS : fs_SS M) (hm : sx_mok cl_ly M2) (hw : WF M2) (h1 : ∀ a, a < 128 → ft_n a → M2 a = M a) (h2 : ∀ j, ft_m j → M2 53 j = M 53 j) (hl : fs_L M2) : la_I WF bs_cps M2 ∧ fs_SS M2 := by
  obtain ⟨⟨s1, s2, s3, s4⟩, o, b1, b2, ⟨⟨i1, i2, i3, i4⟩, i5, i6, i7, i8, i9, i10⟩, -⟩ := id hS.2
  have zz : ∀ a ∈ [9, 10, 11, 12, 13, 34, 35, 36, 59, 74, 82, 83, 84], M2 a = M a := fun a ha => by
    have : ∀ a ∈ [9, 10, 11, 12, 13, 34, 35, 36, 59, 74, 82, 83, 84], a < 128 ∧ ft_n a := by unfold ft_n; decide +kernel
    exact h1 a (this a ha).1 (this a ha).2
  have p : ∀ j, j = 7 ∨ j = 11 ∨ (50 ≤ j ∧ j ≤ 53) → M2 53 j = M 53 j := fun j hj => h2 j (by unfold ft_m; omega)
  have z9 := zz 9 (by decide)
  have z34 := zz 34 (by decide)
  refine ⟨⟨hm, fp_JJ M M2 (fun u hu => ?_) (fun p hp => ?_) hI.2.1, hw, ?_, fun p hp => ?_⟩, bs_fp M M2 (fun u hu => ?_) (fun p hp => ?_) hS.1, ⟨?_, ?_, fun h hh => ?_, fun k hk => ?_⟩, fun c hc => ?_, ?_, ?_, ⟨⟨?_, ?_, ?_, ?_⟩, fun h hh => ?_, fun k hk => ?_, ?_, ?_, ?_, ?_⟩, hl⟩
  · have : ∀ u ∈ [33, 62, 63, 64, 65], u < 128 ∧ ft_n u := by unfold ft_n; decide +kernel
    exact h1 u (this u hu).1 (this u hu).2
  · simp only [List.mem_cons, List.not_mem_nil, or_false] at hp
    rcases hp with rfl | rfl | rfl | rfl
    · show M2 32 1 = M 32 1
      rw [h1 32 (by decide) (by unfold ft_n; decide)]
    · show M2 32 2 = M 32 2
      rw [h1 32 (by decide) (by unfold ft_n; decide)]
    · exact h2 14 (by unfold ft_m; decide)
    · exact h2 15 (by unfold ft_m; decide)
  · rw [zz 10 (by decide)]
    exact hI.2.2.2.1
  · have h9 := hI.2.2.2.2 p hp
    have : ∀ p ∈ bs_cps, p.1.1 < 128 ∧ ft_n p.1.1 ∧ p.2.1.1 = 53 ∧ ft_m p.2.1.2 := by unfold ft_n ft_m; decide +kernel
    obtain ⟨t1, t2, t3, t4⟩ := this p hp
    rw [h1 p.1.1 t1 t2]
    rw [t3] at h9 ⊢
    rw [h2 p.2.1.2 t4]
    exact h9
  · have : ∀ u ∈ bs_zc, u < 128 ∧ ft_n u := by unfold ft_n; decide +kernel
    exact h1 u (this u hu).1 (this u hu).2
  · have : ∀ p ∈ nm_zp, p.1 < 128 ∧ ((p.1 ≠ 53 ∧ ft_n p.1) ∨ (p.1 = 53 ∧ ft_m p.2)) := by unfold ft_n ft_m; decide +kernel
    obtain ⟨t1, t2⟩ := this p hp
    rcases t2 with ⟨t2, t3⟩ | ⟨t2, t3⟩
    · rw [h1 p.1 t1 t3]
    · rw [t2]
      exact h2 p.2 t3
  · rw [z9, p 7 (by decide)]; exact s1
  · rw [z9, p 11 (by decide)]; exact s2
  · rw [zz 12 (by decide), zz 74 (by decide)]; exact s3 h hh
  · rw [zz 13 (by decide), zz 82 (by decide)]; exact s4 k hk
  · rw [z9] at hc ⊢
    rw [zz 59 (by decide), zz 11 (by decide)]
    exact o c hc
  · rw [z9]; exact b1
  · rw [z9]; exact b2
  · rw [z34, p 50 (by decide)]; exact i1
  · rw [z34, p 51 (by decide)]; exact i2
  · rw [z34, p 52 (by decide)]; exact i3
  · rw [z34, p 53 (by decide)]; exact i4
  · rw [zz 35 (by decide), zz 83 (by decide)]; exact i5 h hh
  · rw [zz 36 (by decide), zz 84 (by decide)]; exact i6 k hk
  · rw [z34]; exact i7
  · rw [z34]; exact i8
  · rw [z34, z9]; exact i9
  · rw [z34, z9]; exact i10
theorem ft_I (hI : la_I WF bs_cps M) (hS : fs_SS M) : la_I WF lw_cps M := ⟨hI.1, hI.2.1, hI.2.2.1, hI.2.2.2.1, fun q hq => by
  rw [List.mem_singleton.mp hq]
  exact ⟨cx_fld (c := 14) (k := 6) (lo := 0) (hi := 120) hI.1 (by decide +kernel), hS.2.2.2.2.2.2.1⟩⟩
/-- law of both sides -/
theorem fs_lw (hL : L < 2 ^ 31) (hI : la_I WF bs_cps M) (hS : fs_SS M) : fs_P WF L xs 0 32 173 [.ref 8] [.ref 53] (-220, 1) M := by
  obtain ⟨l1, l2, l3⟩ := hS.2.2.2.2.2.2
  obtain ⟨z, M1, M2, z1, z2, a1, a2, b1, b2, w, r, e1, e2, f1, f2⟩ := vu_law (xs := xs) hL (ft_I hI hS) l2 l3
  obtain ⟨g1, g2⟩ := ft_q hI hS b2 w (fun a ha h => by
    unfold ft_n at h
    exact f1 a ha (by omega) (by omega) (by omega) (by omega)) (fun j h => by
    unfold ft_m at h
    exact f2 j (by omega) (by omega)) ⟨e1.trans e2.symm, fun i hi => by
    rw [e1] at hi
    omega, r⟩
  exact ⟨z, M1, M2, z1, Or.inl ⟨rfl, z2⟩, a1, a2, b1, b2, g1, g2⟩
theorem fs_fd (hL : L < 2 ^ 31) (hI : la_I WF bs_cps M) (hS0 : fs_SS M) (hb : sx_w sx_r32 b) : fs_P WF L xs 0 30 172 [.ref 8, .int (Int32.ofInt b)] [.ref 53, .int (Int32.ofInt b)] (-3, 120) M := by
  obtain ⟨eN, hS, hR⟩ := hS0.2.2.2.2.2.2
  have wN : sx_w (0, 120) (M 14 6) := cx_fld (c := 14) (k := 6) (lo := 0) (hi := 120) hI.1 (by decide +kernel)
  have n0 : 0 ≤ M 14 6 := wN.1
  obtain ⟨z, M1, a1, a2, a3⟩ := lb_of (k := 30) (vs := [.ref 8, .int (Int32.ofInt b)]) (show 3 ≤ 99 by decide) (ym_fx (xs := xs) hL hI.1 wN hb)
  have e53 : M1 53 21 = M 14 6 := by
    rcases a3 with ⟨-, -, c⟩ | ⟨-, -, -, c⟩ | ⟨-, -, -, c⟩
    · rw [c 53 (by decide), eN]
    · rw [c 53 (by decide), eN]
    · rw [c 53 (by decide), sh_une (by decide), sh_une (by decide), eN]
  obtain ⟨y, M2, b1, b2, b3⟩ := lb_of (k := 172) (vs := [.ref 53, .int (Int32.ofInt b)]) (show 3 ≤ 99 by decide) (ym_fm (xs := xs) hL a2 (by rw [e53]; exact wN) hb)
  unfold ym_F at b3
  rw [e53] at b3
  have same : (∀ c, c < 128 → M2 c = M c) → la_I WF bs_cps M2 ∧ fs_SS M2 := fun e => fs_q WF_zs hI hS0 b2 ⟨fun a ha _ => e a ha, fun j _ => by rw [e 53 (by decide)]⟩
  rcases a3 with ⟨rfl, c1, c2⟩ | ⟨rfl, c1, c2, c3⟩ | ⟨rfl, c1, c2, c3⟩
  · rcases b3 with ⟨rfl, d1, d2⟩ | ⟨-, d1, -⟩ | ⟨-, d1, -⟩
    · exact ⟨-1, M1, M2, ⟨by decide, by decide⟩, Or.inl ⟨rfl, og_w32 (by decide) (by decide)⟩, a1, a2, b1, b2, same (fun c hc => (d2 c hc).trans (c2 c hc))⟩
    · exact absurd d1 c1
    · exact absurd d1 c1
  · rcases b3 with ⟨-, d1, -⟩ | ⟨rfl, d1, d2, d3⟩ | ⟨-, d1, d2, -⟩
    · exact absurd c1 d1
    · exact ⟨-3, M1, M2, ⟨by decide, by decide⟩, Or.inl ⟨rfl, og_w32 (by decide) (by decide)⟩, a1, a2, b1, b2, same (fun c hc => (d3 c hc).trans (c3 c hc))⟩
    · omega
  · rcases b3 with ⟨-, d1, -⟩ | ⟨-, d1, d2, -⟩ | ⟨rfl, d1, d2, d3⟩
    · exact absurd c1 d1
    · omega
    · have f1 : ∀ a, a < 128 → a ≠ 14 → a ≠ 15 → M1 a = M a := fun a ha g1 g2 => by rw [c3 a ha, sh_une g1, sh_une g2]
      have f2 : ∀ a, a < 128 → a ≠ 53 → a ≠ 66 → M2 a = M1 a := fun a ha g1 g2 => by rw [d3 a ha, sh_une g1, sh_une g2]
      have ff : ∀ a, a < 128 → a ≠ 14 → a ≠ 15 → a ≠ 53 → a ≠ 66 → M2 a = M a := fun a ha g1 g2 g3 g4 => (f2 a ha g3 g4).trans (f1 a ha g1 g2)
      have h14 : ∀ k, M2 14 k = if k = 6 then M 14 6 + 1 else M 14 k := fun k => by
        rw [f2 14 (by decide) (by decide) (by decide), c3 14 (by decide)]
        simp [sx_up]
      have h15 : ∀ k, M2 15 k = if k = (M 14 6).toNat then b else M 15 k := fun k => by
        rw [f2 15 (by decide) (by decide) (by decide), c3 15 (by decide)]
        simp [sx_up]
      have h53 : ∀ k, M2 53 k = if k = 21 then M 14 6 + 1 else M 53 k := fun k => by
        rw [d3 53 (by decide), ← f1 53 (by decide) (by decide) (by decide)]
        simp [sx_up]
      have h66 : ∀ k, M2 66 k = if k = (M 14 6).toNat then ym_sg b else M 66 k := fun k => by
        rw [d3 66 (by decide), ← f1 66 (by decide) (by decide) (by decide)]
        simp [sx_up]
      have s14 : M2 14 6 = M 14 6 + 1 := h14 6
      have s53 : M2 53 21 = M 14 6 + 1 := h53 21
      have w2 : WF M2 := WF_zs M M2 (fun k hk => by
        simp only [cz_zs, List.mem_cons, List.not_mem_nil, or_false] at hk
        exact ff k (by omega) (by omega) (by omega) (by omega) (by omega)) hI.2.2.1
      have r2 : vu_R M2 := vu_M (ff 16 (by decide) (by decide) (by decide) (by decide) (by decide)) (by rw [h14, if_neg (by decide)]) (by rw [h53, if_neg (by decide)]) (ff 67 (by decide) (by decide) (by decide) (by decide) (by decide)) (ff 68 (by decide) (by decide) (by decide) (by decide) (by decide)) (ff 69 (by decide) (by decide) (by decide) (by decide) (by decide)) (ff 70 (by decide) (by decide) (by decide) (by decide) (by decide)) (ff 71 (by decide) (by decide) (by decide) (by decide) (by decide)) hR
      obtain ⟨g1, g2⟩ := ft_q hI hS0 b2 w2 (fun a ha h => by
        unfold ft_n at h
        exact ff a ha (by omega) (by omega) (by omega) (by omega)) (fun j h => by
        unfold ft_m at h
        rw [h53, if_neg (by omega)]) ⟨s14.trans s53.symm, fun i hi => by
        rw [s14] at hi
        rw [h66, h15]
        by_cases e : i = (M 14 6).toNat
        · rw [if_pos e, if_pos e]
        · rw [if_neg e, if_neg e]
          exact hS i (by omega), r2⟩
      exact ⟨M 14 6 + 1, M1, M2, ⟨by show (-3 : Int) ≤ _; omega, by show _ ≤ (120 : Int); omega⟩, Or.inl ⟨rfl, og_w32 (by omega) (by omega)⟩, a1, a2, b1, b2, g1, g2⟩
/-- beyond the cards nothing matters -/
theorem fk_on {X N : Nat → Nat → Int} (hI : la_I WF bs_cps X) (hS : fs_SS X) (hm : sx_mok cl_ly N) (f : ∀ a, a < 128 → a ≠ 59 → a ≠ 60 → N a = X a) (h59 : ∀ c : Nat, (c : Int) < X 53 8 → N 59 c = X 59 c ∧ N 60 c = X 60 c) : la_I WF bs_cps N ∧ fs_SS N := by
  obtain ⟨-, e2, -, -, -, -, -⟩ := bs_eq hI
  obtain ⟨⟨s, ⟨n1, n2, n3⟩, c1, c2⟩, S, O, b1, b2, I, L⟩ := hS
  have f9 : N 9 = X 9 := f 9 (by decide) (by decide) (by decide)
  have f10 : N 10 = X 10 := f 10 (by decide) (by decide) (by decide)
  have f32 : N 32 = X 32 := f 32 (by decide) (by decide) (by decide)
  have f53 : N 53 = X 53 := f 53 (by decide) (by decide) (by decide)
  have g : ∀ a ∈ [11, 12, 13, 14, 15, 16, 33, 34, 35, 36, 62, 63, 64, 65, 66, 67, 68, 69, 70, 71, 74, 82, 83, 84], N a = X a := fun a ha => by
    have : ∀ a ∈ [11, 12, 13, 14, 15, 16, 33, 34, 35, 36, 62, 63, 64, 65, 66, 67, 68, 69, 70, 71, 74, 82, 83, 84], a < 128 ∧ a ≠ 59 ∧ a ≠ 60 := by decide +kernel
    exact f a (this a ha).1 (this a ha).2.1 (this a ha).2.2
  refine ⟨⟨hm, fp_JJ X N (fun u hu => ?_) (fun p hp => ?_) hI.2.1, WF_zs X N (fun u hu => ?_) hI.2.2.1, by rw [f10]; exact hI.2.2.2.1, fun p hp => ?_⟩, ⟨?_, ⟨fun w n hw hn => ?_, fun n hn => ?_, fun n hn h => ?_⟩, fun q hq => ?_, ?_⟩, ?_, fun c hc => ?_, by rw [f9]; exact b1, by rw [f9]; exact b2, ?_, ?_, ?_, ?_⟩
  · have : ∀ u ∈ [33, 62, 63, 64, 65], u < 128 ∧ u ≠ 59 ∧ u ≠ 60 := by decide +kernel
    exact f u (this u hu).1 (this u hu).2.1 (this u hu).2.2
  · simp only [List.mem_cons, List.not_mem_nil, or_false] at hp
    rcases hp with rfl | rfl | rfl | rfl
    · show N 32 1 = X 32 1
      rw [f32]
    · show N 32 2 = X 32 2
      rw [f32]
    · show N 53 14 = X 53 14
      rw [f53]
    · show N 53 15 = X 53 15
      rw [f53]
  · have : ∀ u ∈ cz_zs, u < 128 ∧ u ≠ 59 ∧ u ≠ 60 := by decide +kernel
    exact f u (this u hu).1 (this u hu).2.1 (this u hu).2.2
  · have h9 := hI.2.2.2.2 p hp
    have : ∀ p ∈ bs_cps, p.1.1 < 128 ∧ p.1.1 ≠ 59 ∧ p.1.1 ≠ 60 ∧ p.2.1.1 = 53 := by decide +kernel
    obtain ⟨t1, t2, t3, t4⟩ := this p hp
    rw [f p.1.1 t1 t2 t3]
    rw [t4] at h9 ⊢
    rw [f53]
    exact h9
  · exact sh_fp X N (fun u hu => by
      have : ∀ u ∈ [41, 42, 43, 44, 45, 46, 47, 48, 49, 50, 51, 52, 87, 88, 89], u < 128 ∧ u ≠ 59 ∧ u ≠ 60 := by decide +kernel
      exact f u (this u hu).1 (this u hu).2.1 (this u hu).2.2) (fun p hp => by cases hp) s
  · rw [f10, f (54 + w) (by omega) (by omega) (by omega)]
    exact n1 w n hw hn
  · rw [f10, f 61 (by decide) (by decide) (by decide)]
    exact n2 n hn
  · rw [f53] at h
    rw [f10, (h59 n h).2]
    exact n3 n hn h
  · rw [g 33 (by decide), g 62 (by decide), g 63 (by decide), g 64 (by decide), g 65 (by decide)]
    exact c1 q hq
  · rw [f32, f53]
    exact c2
  · unfold fs_S
    rw [f9, f53, g 12 (by decide), g 74 (by decide), g 13 (by decide), g 82 (by decide)]
    exact S
  · rw [f9] at hc ⊢
    rw [(h59 c (by omega)).1, g 11 (by decide)]
    exact O c hc
  · unfold fs_I
    rw [f9, f53, g 34 (by decide), g 35 (by decide), g 36 (by decide), g 83 (by decide), g 84 (by decide)]
    exact I
  · rw [g 14 (by decide), f53]
    exact L.1
  · unfold ym_SS
    rw [g 14 (by decide), g 66 (by decide), g 15 (by decide)]
    exact L.2.1
  · exact vu_M (g 16 (by decide)) (by rw [g 14 (by decide)]) (by rw [f53]) (g 67 (by decide)) (g 68 (by decide)) (g 69 (by decide)) (g 70 (by decide)) (g 71 (by decide)) L.2.2
-- ask: what stays
def fk_c (n : Nat) : ct_C := ([(2, .ofNat 53, .ofNat 53), (0, .negSucc 2147483647, .ofNat 2147483647)], [(53, 1, .ofNat 0, .ofNat 6), (53, 7, .negSucc 2147483647, .ofNat 2147483647), (53, 8, (n : Int), (n : Int)), (53, 13, .ofNat 0, .ofNat 29)], [(53, 8, (n : Int), (n : Int)), (60, n, .negSucc 0, .ofNat 143), (59, n, .ofNat 0, .ofNat 5), (53, 35, .negSucc 2147483647, .ofNat 2147483647), (53, 36, .negSucc 2147483647, .ofNat 2147483647)], [72, 73, 75, 76, 77], (some (0, .negSucc 1, .ofNat 29)), 11, true)
def fk_k (n : Nat) : List mt_K := [(61, [(0, (2, .ofNat 53, .ofNat 53)), (1, (0, .ofNat 0, .ofNat 5)), (2, (0, .negSucc 1, .ofNat 29)), (3, (0, .ofNat 0, .ofNat 30))], [(53, 8, (n : Int) + 1, (n : Int) + 1), (60, n, .negSucc 0, .ofNat 143), (59, n, .ofNat 0, .ofNat 5), (53, 35, .negSucc 2147483647, .ofNat 2147483647), (53, 36, .negSucc 2147483647, .ofNat 2147483647)], [(53, 1, .ofNat 1, .ofNat 6), (53, 7, .negSucc 2147483647, .ofNat 2147483647), (53, 13, .ofNat 0, .ofNat 29)], [(.negSucc 0, 3)], .ofNat 30, none)]
theorem fk_all : ((List.range 12).all fun n => mt_chk cl_ly cl_rc sm_MT sm_LK cz_zs [(190, k_mgoTo)] 3000 3000 216 (fk_c n) (fk_k n)) = true := by decide +kernel
theorem fs_ak (he : cc_env WF L xs) (hI : la_I WF bs_cps M) (hS : fs_SS M) (hs : sx_w sx_r32 s) : ∃ z z' M1 M2, ((0 = 0 ∧ sx_w sx_r32 z ∧ sx_w sx_r32 z') ∨ (0 = 1 ∧ sx_w sx_r64 z ∧ sx_w sx_r64 z')) ∧ lb_run L xs 85 [.ref 8, .int (Int32.ofInt s)] M (lb_val 0 z) M1 ∧ sx_mok cl_ly M1 ∧ lb_run L xs 216 [.ref 53, .int (Int32.ofInt s)] M1 (lb_val 0 z') M2 ∧ sx_mok cl_ly M2 ∧ la_I WF bs_cps M2 ∧ fs_SS M2 := by
  obtain ⟨z, M1, z1, z2, z3, z4, z5, z6⟩ := lp_cc (M := M) (as := [.ref 8, .int (Int32.ofInt s)]) (c_ask he) rfl (show (6 : Nat) ≤ 99 by decide) ⟨lp_rf (show (8 : Int).toNat = 8 from rfl), lp_v hs hs, trivial⟩ (fun g hg => by rw [List.mem_singleton.mp hg]; exact hI.2.2.2.1) hI.1 hI.2.2.1
  have hI1 : la_I WF bs_cps M1 := lp_I he.2.1 (c := k_ask) (by decide +kernel) hI z4 z5 z6
  have hS1 : fs_SS M1 := lb_cu_ok (c := k_ask) fs_fp (by decide +kernel) z5 hS
  have g8 := cx_fld (c := 53) (k := 8) (lo := 0) (hi := 12) z4 (by decide +kernel)
  obtain ⟨n, en⟩ := Int.eq_ofNat_of_zero_le g8.1
  by_cases h12 : n = 12
  · obtain ⟨y, M2, y1, y2, y3, y4, y5, y6⟩ := lp_cc (M := M1) (c := ak_12) (as := [.ref 53, .int (Int32.ofInt s)]) (cc_ok he cc_nil ak_12c) rfl (show (3 : Nat) ≤ 99 by decide) ⟨lp_rf (show (53 : Int).toNat = 53 from rfl), lp_v hs hs, trivial⟩ (fun g hg => by
      rw [List.mem_singleton.mp hg]
      show (12 : Int) ≤ M1 53 8 ∧ M1 53 8 ≤ 12
      omega) z4 hI1.2.2.1
    exact ⟨z, y, M1, M2, lp_32 z2 y2, z3, z4, y3, y4, lp_I he.2.1 (c := ak_12) (by decide +kernel) hI1 y4 y5 y6, lb_cu_ok (c := ak_12) fs_fp (by decide +kernel) y5 hS1⟩
  · have hn : n < 12 := by omega
    obtain ⟨y, M2, y1, y2, y3, y4, y5, y6⟩ := lp_cc (M := M1) (c := fk_c n) (as := [.ref 53, .int (Int32.ofInt s)]) (cc_ok he (cc_cons (c_mgoTo he) cc_nil) (List.all_eq_true.mp fk_all n (List.mem_range.mpr hn))) rfl (show (11 : Nat) ≤ 99 by decide) ⟨lp_rf (show (53 : Int).toNat = 53 from rfl), lp_v hs hs, trivial⟩ (fun g hg => by
      simp only [fk_c, List.mem_cons, List.not_mem_nil, or_false] at hg
      rcases hg with rfl | rfl | rfl | rfl
      · exact cx_fld (c := 53) (k := 1) (lo := 0) (hi := 6) z4 (by decide +kernel)
      · exact cx_fld (c := 53) (k := 7) (lo := -2147483648) (hi := 2147483647) z4 (by decide +kernel)
      · show (n : Int) ≤ M1 53 8 ∧ M1 53 8 ≤ (n : Int)
        omega
      · exact cx_fld (c := 53) (k := 13) (lo := 0) (hi := 29) z4 (by decide +kernel)) z4 hI1.2.2.1
    have e8 : M2 53 8 = M1 53 8 := by
      have h := y6 (53, 8, (n : Int), (n : Int)) (by simp [fk_c])
      have h : (n : Int) ≤ M2 53 8 ∧ M2 53 8 ≤ (n : Int) := h
      omega
    have fr : ∀ a j, a < 128 → a ∉ [72, 73, 75, 76, 77] → ¬ (a = 60 ∧ j = n) → ¬ (a = 59 ∧ j = n) → ¬ (a = 53 ∧ (j = 35 ∨ j = 36)) → M2 a j = M1 a j := fun a j ha h1 h2 h4 h3 => by
      by_cases h8 : a = 53 ∧ j = 8
      · rw [h8.1, h8.2]
        exact e8
      · refine y5 a j ha h1 (fun g hg k1 k2 => ?_)
        simp only [fk_c, List.mem_cons, List.not_mem_nil, or_false] at hg
        rcases hg with rfl | rfl | rfl | rfl | rfl
        · exact h8 ⟨k1.symm, k2.symm⟩
        · exact h2 ⟨k1.symm, k2.symm⟩
        · exact h4 ⟨k1.symm, k2.symm⟩
        · exact h3 ⟨k1.symm, Or.inl k2.symm⟩
        · exact h3 ⟨k1.symm, Or.inr k2.symm⟩
    -- n is beyond the cards: what is held alike isn't touched there
    have hI2 : la_I WF bs_cps M2 ∧ fs_SS M2 := by
      let X : Nat → Nat → Int := fun a j => if a = 59 ∨ a = 60 then M1 a j else M2 a j
      have xx : ∀ a, a ≠ 59 → a ≠ 60 → X a = M2 a := fun a h1 h2 => by
        funext j
        show (if a = 59 ∨ a = 60 then M1 a j else M2 a j) = M2 a j
        rw [if_neg (by omega)]
      have x1 : ∀ a, a < 128 → a ∉ [72, 73, 75, 76, 77] → a ≠ 53 → X a = M1 a := fun a ha h1 h2 => by
        funext j
        show (if a = 59 ∨ a = 60 then M1 a j else M2 a j) = M1 a j
        split
        · rfl
        · exact fr a j ha h1 (fun h => by omega) (fun h => by omega) (fun h => h2 h.1)
      have x53 : ∀ j, j ≠ 35 → j ≠ 36 → X 53 j = M1 53 j := fun j h1 h2 => by
        rw [xx 53 (by decide) (by decide)]
        exact fr 53 j (by decide) (by decide) (fun h => by omega) (fun h => by omega) (fun h => by omega)
      have mX : sx_mok cl_ly X := fun a g i q e hi hq => by
        show sx_w q (if a = 59 ∨ a = 60 then M1 a i else M2 a i)
        split
        · exact z4 a g i q e hi hq
        · exact y4 a g i q e hi hq
      obtain ⟨hIX, hSX⟩ := fs_q (M2 := X) WF_zs hI1 hS1 mX ⟨fun a ha h => by
        unfold fs_n at h
        exact x1 a ha (by simp only [List.mem_cons, List.not_mem_nil, or_false]; omega) (by omega), fun j h => by
        unfold fs_m at h
        exact x53 j (by omega) (by omega)⟩
      refine fk_on hIX hSX y4 (fun a ha h1 h2 => (xx a h1 h2).symm) (fun c hc => ?_)
      rw [x53 8 (by decide) (by decide)] at hc
      have e59 : X 59 c = M1 59 c := if_pos (Or.inl rfl)
      have e60 : X 60 c = M1 60 c := if_pos (Or.inr rfl)
      rw [e59, e60]
      exact ⟨fr 59 c (by decide) (by decide) (fun h => by omega) (fun h => by omega) (fun h => by omega), fr 60 c (by decide) (by decide) (fun h => by omega) (fun h => by omega) (fun h => by omega)⟩
    exact ⟨z, y, M1, M2, lp_32 z2 y2, z3, z4, y3, y4, hI2.1, hI2.2⟩
end
