/-! judge: the pair. -/
section
variable {L : Nat} {xs : Nat → Int32} {M M' N N' B X Y : Nat → Nat → Int} {c t nc H : Nat} {s : Int}
def ju1_i (c : Nat) : List qs_I := [(1, 41 + 2 * c, (0, 2), (-1, 4)), (1, 41 + 2 * c, (0, 3), (-1, 49))]
def ju1_T (c : Nat) : List og_T := [(none, some (0, 0, -11), [], [], [], [(0, (9, 0), (0, 0), -1, -1), (0, (10, 0), (0, 0), -1, -1)]), (none, some (0, 0, -12), [], [], [], [(0, (9, 0), (0, 0), -1, -1), (7, (10, 0), (0, 0), -1, 0)]), (none, some (0, 0, -12), [], [], [], [(7, (9, 0), (0, 0), -1, 0), (7, (9, 0), (0, 0), 0, 0)]), (some 37, none, [(2, 0, 41 + 2 * (c : Int)), (2, 0, 21)], [(0, 2, 0, 8)], [], [(0, (9, 0), (0, 0), 0, 0), (7, (9, 0), (0, 0), -1, 0)])]
theorem ju1_c : ((List.range 6).all fun c => qs_chk (fun pc => Nat.beq pc 37) (ju1_i c) 0 (ju1_T c) 400 400 23 104 0 [(0, 2, 0, 8), (1, 0, 0, (c : Int))] []) = true := by decide +kernel
def ju2_i : List qs_I := [(0, 0, (0, 0), (-2147483648, -1))]
def ju2_T : List og_T := [(none, some (0, 0, -1), [], [], [], [])]
theorem ju2_c : qs_chk (fun pc => Nat.beq pc 37) ju2_i 0 ju2_T 400 400 23 104 0 [(0, 2, 0, 8), (1, 0, 9, 0)] [] = true := by decide +kernel
def ju3_i : List qs_I := [(0, 0, (0, 0), (6, 2147483647))]
def ju3_T : List og_T := [(none, some (0, 0, -1), [], [], [], [])]
theorem ju3_c : qs_chk (fun pc => Nat.beq pc 37) ju3_i 0 ju3_T 400 400 23 104 0 [(0, 2, 0, 8), (1, 0, 9, 0)] [] = true := by decide +kernel
def ju4_i : List qs_I := [(0, 0, (0, 0), sx_r32)]
def ju4_T : List og_T := [(none, some (0, 9, 0), [], [], [], [])]
theorem ju4_c : qs_chk (fun pc => Nat.beq pc 37) ju4_i 0 ju4_T 400 400 23 104 40 [] [(0, 9, 0)] = true := by decide +kernel
def jv1_i (c : Nat) : List qs_I := [(1, 87, (0, (c : Int)), (-6, 49))]
def jv1_T (c : Nat) : List og_T := [(none, some (0, 0, -11), [], [], [], [(0, (9, 0), (0, 0), -1, -1)]), (none, some (0, 0, -12), [], [], [], [(7, (9, 0), (0, 0), -2, 0), (7, (9, 0), (0, 0), -1, 0)]), (some 27, none, [(0, 0, (c : Int)), (2, 0, 53)], [(0, 2, 0, 53)], [], [(0, (9, 0), (0, 0), -2, -2), (7, (9, 0), (0, 0), -1, 0)])]
theorem jv1_c : ((List.range 6).all fun c => qs_chk (fun pc => Nat.beq pc 27) (jv1_i c) 0 (jv1_T c) 400 400 23 234 0 [(0, 2, 0, 53), (1, 0, 0, (c : Int))] []) = true := by decide +kernel
def jv2_i : List qs_I := [(0, 0, (0, 0), (-2147483648, -1))]
def jv2_T : List og_T := [(none, some (0, 0, -1), [], [], [], [])]
theorem jv2_c : qs_chk (fun pc => Nat.beq pc 27) jv2_i 0 jv2_T 400 400 23 234 0 [(0, 2, 0, 53), (1, 0, 9, 0)] [] = true := by decide +kernel
def jv3_i : List qs_I := [(0, 0, (0, 0), (6, 2147483647))]
def jv3_T : List og_T := [(none, some (0, 0, -1), [], [], [], [])]
theorem jv3_c : qs_chk (fun pc => Nat.beq pc 27) jv3_i 0 jv3_T 400 400 23 234 0 [(0, 2, 0, 53), (1, 0, 9, 0)] [] = true := by decide +kernel
def jv4_i : List qs_I := [(0, 0, (0, 0), sx_r32)]
def jv4_T : List og_T := [(none, some (0, 9, 0), [], [], [], [])]
theorem jv4_c : qs_chk (fun pc => Nat.beq pc 27) jv4_i 0 jv4_T 400 400 23 234 30 [] [(0, 9, 0)] = true := by decide +kernel
theorem gs_qb (h : fs_F M M') (hb : bb M) : bb M' := bb_fp M M' (fun z hz => h.1 z (by
  simp only [List.mem_cons, List.not_mem_nil, or_false] at hz
  omega) (by
  simp only [List.mem_cons, List.not_mem_nil, or_false] at hz
  unfold fs_n
  omega)) (fun p hp => by cases hp) hb
def ju_v (M : Nat → Nat → Int) (nc t c : Nat) : Int := if M 87 c = -1 then -11 else if M 87 c = -2 then fu (vi M nc t) (fun i => M 89 (60 * c + i)) t (M 88 c).toNat 0 else -12
theorem ju_r (hm : sx_mok cl_ly M) (hc6 : c < 6) : -12 ≤ ju_v M nc t c ∧ ju_v M nc t c ≤ 60 := by
  have h60 : 0 ≤ M 88 c ∧ M 88 c ≤ 60 := hm 88 _ c _ rfl hc6 rfl
  unfold ju_v
  split
  · decide
  · split
    · have := fu_r (g := vi M nc t) (E := fun i => M 89 (60 * c + i)) (t := t) (M 88 c).toNat 0
      omega
    · decide
theorem ju_x (hL : L < 2 ^ 31) (hm : sx_mok cl_ly M) (hw : WF M) (hR : vu_R M) (hA : fs_A M nc H) (hS : sh_S M c) (hc6 : c < 6) (ht : M 10 210 = (t : Int)) (h29 : t ≤ 29) : rz_fin (fun r N => sx_mok cl_ly N ∧ fs_x M N ∧ r = some (.int (Int32.ofInt (ju_v M nc t c)))) L xs 104 23 0 [(0, .ref 8), (1, .int (Int32.ofInt (c : Int)))] [] M := by
  obtain ⟨⟨a1, a2, a3, a4, a5⟩, -⟩ := id hA
  obtain ⟨r2, r3⟩ := fu_23 hm hc6
  have rg := ju_r (nc := nc) (t := t) hm hc6
  have wr : sx_w sx_r32 (ju_v M nc t c) := og_w32 (by omega) (by omega)
  refine qs_use (zs := [M (41 + 2 * c) 2, M (41 + 2 * c) 3]) (List.all_eq_true.mp ju1_c c (List.mem_range.mpr hc6)) hL hm (qs_rd (show (0 : Int) ≤ 2 by decide) rfl r2 (qs_rd (show (0 : Int) ≤ 3 by decide) rfl r3 (qs_fin rfl))) (Nat.le_refl _) rfl rfl (qs_c (fun K hK hc hM => ?_) (qs_c (fun K hK hc hM => ?_) (qs_c (fun K hK hc hM => ?_) (qs_c (fun K hK hc hM => ?_) qs_z))))
  · obtain ⟨c1, c2, -⟩ := hc
    have c1 : -1 ≤ M (41 + 2 * c) 2 ∧ M (41 + 2 * c) 2 ≤ -1 := c1
    have c2 : -1 ≤ M (41 + 2 * c) 3 ∧ M (41 + 2 * c) 3 ≤ -1 := c2
    have fK : ∀ a, a < 128 → K a = M a := hM
    refine ⟨hK, fun a ha _ => fK a ha, ?_⟩
    have e : ju_v M nc t c = -11 := if_pos (by unfold sh_S at hS; omega)
    rw [e]
    rfl
  · obtain ⟨c1, c2, -⟩ := hc
    have c1 : -1 ≤ M (41 + 2 * c) 2 ∧ M (41 + 2 * c) 2 ≤ -1 := c1
    have c2 : M (41 + 2 * c) 3 ≠ -1 := c2
    have fK : ∀ a, a < 128 → K a = M a := hM
    refine ⟨hK, fun a ha _ => fK a ha, ?_⟩
    have e : ju_v M nc t c = -12 := by
      unfold ju_v
      rw [if_neg (by unfold sh_S at hS; omega), if_neg (by unfold sh_S at hS; omega)]
    rw [e]
    rfl
  · obtain ⟨c1, c2, -⟩ := hc
    have c1 : M (41 + 2 * c) 2 ≠ -1 := c1
    have c2 : M (41 + 2 * c) 2 ≠ 0 := c2
    have fK : ∀ a, a < 128 → K a = M a := hM
    refine ⟨hK, fun a ha _ => fK a ha, ?_⟩
    have e : ju_v M nc t c = -12 := by
      unfold ju_v
      rw [if_neg (by unfold sh_S at hS; omega), if_neg (by unfold sh_S at hS; omega)]
    rw [e]
    rfl
  · obtain ⟨c1, c2, -⟩ := hc
    have c1 : 0 ≤ M (41 + 2 * c) 2 ∧ M (41 + 2 * c) 2 ≤ 0 := c1
    have c2 : M (41 + 2 * c) 2 ≠ -1 := c2
    have fK : ∀ a, a < 128 → K a = M a := hM
    unfold sh_S at hS
    have q2 : M 87 c = -2 := by omega
    obtain ⟨-, -, -, -, s5, s6⟩ : -6 ≤ M 87 c ∧ M 87 c ≤ -2 ∧ M (41 + 2 * c) 2 = -2 - M 87 c ∧ M (41 + 2 * c) 3 = -1 ∧ M (41 + 2 * c) 1 = M 88 c ∧ ∀ i : Nat, (i : Int) < M 88 c → M (42 + 2 * c) i = M 89 (60 * c + i) := by
      rcases hS with h | h | h
      · omega
      · omega
      · exact h
    have h60 : 0 ≤ M 88 c ∧ M 88 c ≤ 60 := hm 88 _ c _ rfl hc6 rfl
    obtain ⟨len, el⟩ := Int.eq_ofNat_of_zero_le h60.1
    have e : ju_v M nc t c = fu (vi M nc t) (fun i => M 89 (60 * c + i)) t len 0 := by
      unfold ju_v
      rw [if_neg (by omega), if_pos q2, el, Int.toNat_natCast]
    obtain ⟨w1, r1⟩ := wr_same hw hR fK
    show rz_fin _ L xs 104 23 37 [(0, .ref 8)] [.ref (41 + 2 * c), .ref 21] K
    refine qs_vc (k := 106) (b := 21) (d := 22) (d' := 22) (rest := []) rfl rfl rfl rfl rfl rfl rfl rfl (Nat.le_refl _) rfl (rz_d (by decide) (fu_x (xs := xs) (nc := nc) (t := t) (c := c) (len := len) hL hK w1 r1 (by rw [fK 9 (by decide)]; exact a1) a3 hc6 (by rw [fK 10 (by decide)]; exact ht) h29 (by rw [fK (41 + 2 * c) (by omega), s5, el]))) (fun r9 N2 hr => ?_)
    obtain ⟨X, hX, F2, hN2, rfl⟩ := hr
    have pX : pv M X := pv_of (fun a q => fK a (by omega)) hX
    rw [fK (42 + 2 * c) (by omega), fu_eq (g := vi M nc t) (E := fun i => M 89 (60 * c + i)) len 0 (fun d h1 h2 => vi_x hA pX (by omega) h2) (fun j _ hj => s6 j (by omega)), ← e]
    refine qs_nl (by show ([0] : List Nat).Nodup; decide) (qs_use (zs := [ju_v M nc t c]) ju4_c hL hN2 (qs_iw wr (qs_fin rfl)) (Nat.le_refl _) rfl rfl (qs_c (fun N3 hN3 hc hM => ?_) qs_z))
    have f3 : ∀ a, a < 128 → N3 a = N2 a := hM
    have x2 := vs_x hX F2
    exact ⟨hN3, fun a ha hn => (f3 a ha).trans ((x2 a ha hn).trans (fK a ha)), rfl⟩
theorem jv_y (hL : L < 2 ^ 31) (hm : sx_mok cl_ly B) (hw : WF B) (hR : vu_R B) (hA : fs_A M nc H) (fB : ∀ a, a < 128 → 53 ≤ a → B a = M a) (hbb : bb M) (hc6 : c < 6) (ht : M 53 13 = (t : Int)) (h29 : t ≤ 29) : rz_fin (fun r N => sx_mok cl_ly N ∧ fs_y B N ∧ r = some (.int (Int32.ofInt (ju_v M nc t c)))) L xs 234 23 0 [(0, .ref 53), (1, .int (Int32.ofInt (c : Int)))] [] B := by
  obtain ⟨⟨a1, a2, a3, a4, a5⟩, -⟩ := id hA
  have b53 : B 53 = M 53 := fB 53 (by decide) (by decide)
  have b87 : B 87 = M 87 := fB 87 (by decide) (by decide)
  have b88 : B 88 = M 88 := fB 88 (by decide) (by decide)
  have b89 : B 89 = M 89 := fB 89 (by decide) (by decide)
  have m87 : -6 ≤ M 87 c ∧ M 87 c ≤ 49 := by rw [← b87]; exact hm 87 _ c _ rfl hc6 rfl
  have h60 : 0 ≤ M 88 c ∧ M 88 c ≤ 60 := by rw [← b88]; exact hm 88 _ c _ rfl hc6 rfl
  have yy : ∀ K : Nat → Nat → Int, (∀ a, a < 128 → K a = B a) → fs_y B K := fun K f => ⟨fun a ha _ _ _ _ => f a ha, fun j _ => by rw [f 53 (by decide)]⟩
  refine qs_use (zs := [M 87 c]) (List.all_eq_true.mp jv1_c c (List.mem_range.mpr hc6)) hL hm (qs_rd (show 0 ≤ (c : Int) by omega) (by show B 87 (c : Int).toNat = M 87 c; rw [Int.toNat_natCast, b87]) m87 (qs_fin rfl)) (Nat.le_refl _) rfl rfl (qs_c (fun K hK hc hM => ?_) (qs_c (fun K hK hc hM => ?_) (qs_c (fun K hK hc hM => ?_) qs_z)))
  · obtain ⟨c1, -⟩ := hc
    have c1 : -1 ≤ M 87 c ∧ M 87 c ≤ -1 := c1
    have fK : ∀ a, a < 128 → K a = B a := hM
    refine ⟨hK, yy K fK, ?_⟩
    have e : ju_v M nc t c = -11 := if_pos (by omega)
    rw [e]
    rfl
  · obtain ⟨c1, c2, -⟩ := hc
    have c1 : M 87 c ≠ -2 := c1
    have c2 : M 87 c ≠ -1 := c2
    have fK : ∀ a, a < 128 → K a = B a := hM
    refine ⟨hK, yy K fK, ?_⟩
    have e : ju_v M nc t c = -12 := by
      unfold ju_v
      rw [if_neg (by omega), if_neg (by omega)]
    rw [e]
    rfl
  · obtain ⟨c1, c2, -⟩ := hc
    have c1 : -2 ≤ M 87 c ∧ M 87 c ≤ -2 := c1
    have c2 : M 87 c ≠ -1 := c2
    have fK : ∀ a, a < 128 → K a = B a := hM
    have q2 : M 87 c = -2 := by omega
    obtain ⟨len, el⟩ := Int.eq_ofNat_of_zero_le h60.1
    have e : ju_v M nc t c = fu (vi M nc t) (fun i => M 89 (60 * c + i)) t len 0 := by
      unfold ju_v
      rw [if_neg (by omega), if_pos q2, el, Int.toNat_natCast]
    have fr := fu_r (g := vi M nc t) (E := fun i => M 89 (60 * c + i)) (t := t) len 0
    have wr : sx_w sx_r32 (ju_v M nc t c) := by rw [e]; exact og_w32 (by omega) (by omega)
    obtain ⟨w1, r1⟩ := wr_same hw hR fK
    have o53 : K 53 = M 53 := (fK 53 (by decide)).trans b53
    show rz_fin _ L xs 234 23 27 [(0, .ref 53)] [.int (Int32.ofInt (c : Int)), .ref 53] K
    refine qs_vc (k := 235) (b := 53) (d := 22) (d' := 22) (rest := []) rfl rfl rfl rfl rfl rfl rfl rfl (Nat.le_refl _) rfl (rz_d (by decide) (jw_y (xs := xs) (nc := nc) (H := H) (t := t) (c := c) (len := len) hL hK w1 r1 (by rw [o53]; exact a4) (by rw [o53]; exact a2) hc6 (by rw [o53]; exact ht) h29 (by rw [fK 88 (by decide), b88, el]) (fun i hi => by rw [fK 89 (by decide), b89]; exact hbb c hc6 q2 i (by omega)))) (fun r9 N2 hr => ?_)
    obtain ⟨Y, hY, F2, hN2, rfl⟩ := hr
    have mY : mv M H Y := mv_of (fun a q => (fK a (by omega)).trans (fB a (by omega) (by omega))) (fun j _ => by rw [o53]) hY
    rw [fK 89 (by decide), b89, fu_eq (g := vi M nc t) (E := fun i => M 89 (60 * c + i)) (E' := fun i => M 89 (60 * c + i)) len 0 (fun d h1 h2 => vi_y hA mY (by omega) h2) (fun j _ _ => rfl), ← e]
    refine qs_nl (by show ([0] : List Nat).Nodup; decide) (qs_use (zs := [ju_v M nc t c]) jv4_c hL hN2 (qs_iw wr (qs_fin rfl)) (Nat.le_refl _) rfl rfl (qs_c (fun N3 hN3 hc hM => ?_) qs_z))
    have f3 : ∀ a, a < 128 → N3 a = N2 a := hM
    have y2 := ms_y hY F2
    exact ⟨hN3, ⟨fun a ha x1 x2 x3 x4 => (f3 a ha).trans ((y2.1 a ha x1 x2 x3 x4).trans (fK a ha)), fun j hj => by rw [f3 53 (by decide), y2.2 j hj, fK 53 (by decide)]⟩, rfl⟩
/-- judge of both sides -/
theorem gs_ju (hL : L < 2 ^ 31) (hI : la_I WF bs_cps M) (hS : gs_SS M) (ws : sx_w sx_r32 s) : gs_P WF L xs 0 104 234 [.ref 8, .int (Int32.ofInt s)] [.ref 53, .int (Int32.ofInt s)] (-12, 60) M := by
  obtain ⟨nc, H, hA⟩ := fs_toA hI hS.1
  obtain ⟨e1, -, -, e4, -, -, -⟩ := bs_eq hI
  have h29 : 0 ≤ M 10 210 ∧ M 10 210 ≤ 29 := hI.2.2.2.1
  have hm := hI.1
  have hw := hI.2.2.1
  have hR : vu_R M := hS.1.2.2.2.2.2.2.2.2
  obtain ⟨t, et⟩ := Int.eq_ofNat_of_zero_le h29.1
  have ws' := sx_r32_iff.mp ws
  -- questions leave what both hold
  have go : ∀ z : Int, (-12 ≤ z ∧ z ≤ 60) → (∃ F1 M1, sm_run sm_MT sm_LK (sm_RO L xs) sm_NV sm_cq F1 99 104 0 (lv_args 0 [.ref 8, .int (Int32.ofInt s)]) [] (sx_HH cl_lay cl_rf M) = some (some (lb_val 0 z), sx_HH cl_lay cl_rf M1) ∧ sx_mok cl_ly M1 ∧ fs_x M M1 ∧ ∃ F2 M2, sm_run sm_MT sm_LK (sm_RO L xs) sm_NV sm_cq F2 99 234 0 (lv_args 0 [.ref 53, .int (Int32.ofInt s)]) [] (sx_HH cl_lay cl_rf M1) = some (some (lb_val 0 z), sx_HH cl_lay cl_rf M2) ∧ sx_mok cl_ly M2 ∧ fs_y M1 M2) → gs_P WF L xs 0 104 234 [.ref 8, .int (Int32.ofInt s)] [.ref 53, .int (Int32.ofInt s)] (-12, 60) M := fun z hz h => by
    obtain ⟨F1, M1, f1, m1, x1, F2, M2, f2, m2, y2⟩ := h
    have ff := fs_xy x1 y2
    obtain ⟨g1, g2⟩ := fs_q WF_zs hI hS.1 m2 ff
    exact ⟨z, M1, M2, hz, Or.inl ⟨rfl, og_w32 (by omega) (by omega)⟩, ⟨F1, f1⟩, m1, ⟨F2, f2⟩, m2, g1, g2, gs_qb ff hS.2⟩
  by_cases s0 : s < 0
  · obtain ⟨F1, v1, M1, f1, rfl, m1, x1⟩ := rz_d (show 23 ≤ 99 by decide) (show rz_fin (fun r N => r = some (.int (Int32.ofInt (-1))) ∧ sx_mok cl_ly N ∧ ∀ a, a < 128 → N a = M a) L xs 104 23 0 (lv_args 0 [.ref 8, .int (Int32.ofInt s)]) [] M from qs_use (zs := [s]) ju2_c hL hm (qs_in (show -2147483648 ≤ s ∧ s ≤ -1 by omega) (qs_fin rfl)) (Nat.le_refl _) rfl rfl (qs_c (fun K hK hc hM => ⟨rfl, hK, hM⟩) qs_z))
    obtain ⟨F2, v2, M2, f2, rfl, m2, x2⟩ := rz_d (show 23 ≤ 99 by decide) (show rz_fin (fun r N => r = some (.int (Int32.ofInt (-1))) ∧ sx_mok cl_ly N ∧ ∀ a, a < 128 → N a = M1 a) L xs 234 23 0 (lv_args 0 [.ref 53, .int (Int32.ofInt s)]) [] M1 from qs_use (zs := [s]) jv2_c hL m1 (qs_in (show -2147483648 ≤ s ∧ s ≤ -1 by omega) (qs_fin rfl)) (Nat.le_refl _) rfl rfl (qs_c (fun K hK hc hM => ⟨rfl, hK, hM⟩) qs_z))
    exact go (-1) (by decide) ⟨F1, M1, f1, m1, fun a ha _ => x1 a ha, F2, M2, f2, m2, fun a ha _ _ _ _ => x2 a ha, fun j _ => by rw [x2 53 (by decide)]⟩
  by_cases s6 : 6 ≤ s
  · obtain ⟨F1, v1, M1, f1, rfl, m1, x1⟩ := rz_d (show 23 ≤ 99 by decide) (show rz_fin (fun r N => r = some (.int (Int32.ofInt (-1))) ∧ sx_mok cl_ly N ∧ ∀ a, a < 128 → N a = M a) L xs 104 23 0 (lv_args 0 [.ref 8, .int (Int32.ofInt s)]) [] M from qs_use (zs := [s]) ju3_c hL hm (qs_in (show 6 ≤ s ∧ s ≤ 2147483647 by omega) (qs_fin rfl)) (Nat.le_refl _) rfl rfl (qs_c (fun K hK hc hM => ⟨rfl, hK, hM⟩) qs_z))
    obtain ⟨F2, v2, M2, f2, rfl, m2, x2⟩ := rz_d (show 23 ≤ 99 by decide) (show rz_fin (fun r N => r = some (.int (Int32.ofInt (-1))) ∧ sx_mok cl_ly N ∧ ∀ a, a < 128 → N a = M1 a) L xs 234 23 0 (lv_args 0 [.ref 53, .int (Int32.ofInt s)]) [] M1 from qs_use (zs := [s]) jv3_c hL m1 (qs_in (show 6 ≤ s ∧ s ≤ 2147483647 by omega) (qs_fin rfl)) (Nat.le_refl _) rfl rfl (qs_c (fun K hK hc hM => ⟨rfl, hK, hM⟩) qs_z))
    exact go (-1) (by decide) ⟨F1, M1, f1, m1, fun a ha _ => x1 a ha, F2, M2, f2, m2, fun a ha _ _ _ _ => x2 a ha, fun j _ => by rw [x2 53 (by decide)]⟩
  obtain ⟨c, rfl⟩ := Int.eq_ofNat_of_zero_le (show 0 ≤ s by omega)
  have hc6 : c < 6 := by omega
  obtain ⟨F1, v1, M1, f1, m1, x1, rfl⟩ := rz_d (show 23 ≤ 99 by decide) (ju_x (xs := xs) (nc := nc) (H := H) (t := t) (c := c) hL hm hw hR hA (hS.1.1.1 c hc6) hc6 et (by omega))
  obtain ⟨w1, r1⟩ := fs_same hw hR x1
  have hf : ∀ a, a < 128 → 53 ≤ a → M1 a = M a := fun a ha g => x1 a ha (by omega)
  obtain ⟨F2, v2, M2, f2, m2, y2, rfl⟩ := rz_d (show 23 ≤ 99 by decide) (jv_y (xs := xs) (M := M) (B := M1) (nc := nc) (H := H) (t := t) (c := c) hL m1 w1 r1 hA hf hS.2 hc6 (by rw [← e4]; exact et) (by omega))
  exact go _ (ju_r hm hc6) ⟨F1, M1, f1, m1, x1, F2, M2, f2, m2, y2⟩
end
