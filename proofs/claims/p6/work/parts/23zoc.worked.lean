/-! The class's law: a step of its program. -/
section
variable {L : Nat} {xs : Nat → Int32} {M M' M1 M2 : Nat → Nat → Int} {N : Nat → Int} {A U V : List Int} {s a b z : Int} {i : Nat} {Q R : Option Value → (Nat → Nat → Int) → Prop} {zs : List Int}
theorem qs_of {j d n : Nat} : ∀ {Ts : List og_T}, (∀ T ∈ Ts, qs_all n (fun us => qs_K1 Q L xs j d M T (zs ++ us))) → qs_Ks Q L xs j d n M zs Ts := by
  intro Ts
  induction Ts with
  | nil => intro _; trivial
  | cons T Ts ih => intro h; exact ⟨h T List.mem_cons_self, ih (fun T' hT => h T' (List.mem_cons_of_mem _ hT))⟩
def wx_v (t i : Int) : sm_V := [(0, .ref 14), (1, .int (Int32.ofInt t)), (2, .int (Int32.ofInt i))]
def wx_l : sx_L := [(0, 2, 0, 14), (1, 0, 9, 0), (2, 0, 10, 0)]
def wx_m (t i : Int) : sx_L := [(0, 2, 0, 14), (1, 0, 9, t), (2, 0, 10, i)]
def wx_st (pc : Nat) : Bool := Nat.beq pc 4
/-- 9 how many values, 10 where, 11 how many steps, 12 the step -/
def wx_i (t0 t1 s0 s1 : Int) (l : List qs_I) : List qs_I := [(0, 0, (0, 0), (t0, t1)), (0, 0, (0, 0), (0, 255)), (1, 14, (0, 7), (0, 256)), (1, 16, (10, 0), (s0, s1)), (2, 11, (10, 0), (0, 0))] ++ l
def wx1_T : List og_T := [(some 4, none, [], wx_m 1 1, [(19, (9, 0), (12, 0))], [])]
theorem wx1_c : qs_chk wx_st (wx_i 0 127 0 9999 []) 0 wx1_T 400 400 2 61 4 wx_l [] = true := by decide +kernel
def wx2_T : List og_T := [(some 4, none, [], wx_m 1 1, [(19, (9, 0), (13, 0))], [])]
theorem wx2_c : ((List.range 6).all fun k => qs_chk wx_st (wx_i 0 127 (-1000 - Int.ofNat k) (-1000 - Int.ofNat k) [(1, 20, (0, Int.ofNat k), sx_r32)]) 0 wx2_T 400 400 2 61 4 wx_l []) = true := by decide +kernel
def wx3_T : List og_T := [(some 4, none, [], wx_m 0 1, [(19, (9, -1), (0, 1))], [(0, (13, 0), (0, 0), 0, 0)]), (some 4, none, [], wx_m 0 1, [(19, (9, -1), (0, 0))], [(7, (13, 0), (0, 0), 0, 0)])]
theorem wx3_c : qs_chk wx_st (wx_i 1 128 (-33) (-33) [(1, 19, (9, -1), sx_r32)]) 0 wx3_T 400 400 2 61 4 wx_l [] = true := by decide +kernel
def wx4_T : List og_T := [(some 4, none, [], wx_m 0 1, [(19, (9, -1), (14, 0))], [(5, (0, 0), (13, 0), 1, 14)])]
theorem wx4_c : qs_chk wx_st (wx_i 1 128 (-126) (-126) [(1, 19, (9, -1), sx_r32)]) 1 wx4_T 400 400 2 61 4 wx_l [] = true := by decide +kernel
def wx5_T (l : List (sx_A × List og_D)) : List og_T := l.map fun q => (some 4, none, [], wx_m (-1) 1, [(19, (9, -2), q.1)], q.2)
theorem wx5_c : (wu_z.all fun q => qs_chk wx_st (wx_i 2 128 (-q.1) (-q.1) [(1, 19, (9, -2), sx_r32), (1, 19, (9, -1), sx_r32)]) 1 (wx5_T q.2) 400 400 2 61 4 wx_l []) = true := by decide +kernel
theorem wx_two {t i n s u : Int} {q : Int × List (sx_A × List og_D)} (hq : q ∈ wu_z) {r : sx_A × List og_D} (hr : r ∈ q.2) (hc : qs_cc [t, i, n, s, a, b, u] M' r.2) : qs_a [t, i, n, s, a, b, u] r.1 = vt_j q.1 a b := by
  simp only [wu_z, List.mem_cons, List.not_mem_nil, or_false] at hq
  rcases hq with rfl | rfl | rfl | rfl | rfl | rfl | rfl | rfl | rfl | rfl
  · simp only [List.mem_cons, List.not_mem_nil, or_false] at hr
    rcases hr with rfl | rfl | rfl
    · have c1 : 0 ≤ a ∧ a ≤ 0 := hc.1
      have c2 : 0 ≤ b ∧ b ≤ 0 := hc.2.1
      show (0 : Int) = if a = 0 ∧ b = 0 then 0 else 1
      rw [if_pos (by omega)]
    · have c1 : a ≠ 0 := hc.1
      show (1 : Int) = if a = 0 ∧ b = 0 then 0 else 1
      rw [if_neg (by omega)]
    · have c1 : b ≠ 0 := hc.2.1
      show (1 : Int) = if a = 0 ∧ b = 0 then 0 else 1
      rw [if_neg (by omega)]
  · simp only [List.mem_cons, List.not_mem_nil, or_false] at hr
    rcases hr with rfl | rfl | rfl
    · have c1 : 0 ≤ a ∧ a ≤ 0 := hc.1
      show (0 : Int) = if a = 0 ∨ b = 0 then 0 else 1
      rw [if_pos (by omega)]
    · have c1 : 0 ≤ b ∧ b ≤ 0 := hc.2.1
      show (0 : Int) = if a = 0 ∨ b = 0 then 0 else 1
      rw [if_pos (by omega)]
    · have c1 : a ≠ 0 := hc.1
      have c2 : b ≠ 0 := hc.2.1
      show (1 : Int) = if a = 0 ∨ b = 0 then 0 else 1
      rw [if_neg (by omega)]
  · simp only [List.mem_cons, List.not_mem_nil, or_false] at hr
    rcases hr with rfl | rfl
    · have c1 : a < b := hc.1
      show (1 : Int) = if a < b then 1 else 0
      rw [if_pos c1]
    · have c1 : ¬ a < b := hc.1
      show (0 : Int) = if a < b then 1 else 0
      rw [if_neg c1]
  · simp only [List.mem_cons, List.not_mem_nil, or_false] at hr
    rcases hr with rfl | rfl
    · have c1 : a = b := hc.1
      show (1 : Int) = if a = b then 1 else 0
      rw [if_pos c1]
    · have c1 : ¬ a = b := hc.1
      show (0 : Int) = if a = b then 1 else 0
      rw [if_neg c1]
  · simp only [List.mem_cons, List.not_mem_nil, or_false] at hr
    rcases hr with rfl | rfl
    · have c1 : b < a := hc.1
      show (1 : Int) = if b < a then 1 else 0
      rw [if_pos c1]
    · have c1 : ¬ b < a := hc.1
      show (0 : Int) = if b < a then 1 else 0
      rw [if_neg c1]
  · rw [List.mem_singleton.mp hr] at hc ⊢
    exact hc.1
  · rw [List.mem_singleton.mp hr] at hc ⊢
    exact hc.1
  · rw [List.mem_singleton.mp hr] at hc ⊢
    exact hc.1
  · simp only [List.mem_cons, List.not_mem_nil, or_false] at hr
    rcases hr with rfl | rfl | rfl
    · have c1 : 0 ≤ b ∧ b ≤ 0 := hc.1
      show (0 : Int) = if b = 0 then 0 else sx_mf 6 a b
      rw [if_pos (by omega)]
    · have c1 : -1 ≤ b ∧ b ≤ -1 := hc.1
      have c2 : u = sx_mf 1 0 a := hc.2.1
      have eb : b = -1 := by omega
      show u = if b = 0 then 0 else sx_mf 6 a b
      rw [if_neg (by omega), eb, wu_div, c2]
    · have c1 : b ≠ 0 := hc.1
      show u = if b = 0 then 0 else sx_mf 6 a b
      rw [if_neg c1]
      exact hc.2.1
  · simp only [List.mem_cons, List.not_mem_nil, or_false] at hr
    rcases hr with rfl | rfl | rfl
    · have c1 : 0 ≤ b ∧ b ≤ 0 := hc.1
      show (0 : Int) = if b = 0 then 0 else sx_mf 7 a b
      rw [if_pos (by omega)]
    · have c1 : -1 ≤ b ∧ b ≤ -1 := hc.1
      have eb : b = -1 := by omega
      show (0 : Int) = if b = 0 then 0 else sx_mf 7 a b
      rw [if_neg (by omega), eb, wu_rem]
    · have c1 : b ≠ 0 := hc.1
      show u = if b = 0 then 0 else sx_mf 7 a b
      rw [if_neg c1]
      exact hc.2.1
theorem wx_up {k : Nat} {x : Int} (hM : ∀ a, a < 128 → M' a = sx_up M 19 k x a) : (∀ a, a < 128 → a ≠ 19 → M' a = M a) ∧ M' 19 k = x ∧ ∀ j, j ≠ k → M' 19 j = M 19 j := by
  refine ⟨fun a ha g => by rw [hM a ha, sh_une g], by rw [hM 19 (by decide), sh_uat], fun j hj => by rw [hM 19 (by decide), sh_unj hj]⟩
theorem wx_19 (hm : sx_mok cl_ly M) {i : Nat} (hi : i < 128) : sx_w sx_r32 (M 19 i) := hm 19 _ i _ rfl hi rfl
theorem wx_16 (hm : sx_mok cl_ly M) {i : Nat} (hi : i < 256) : -1100 ≤ M 16 i ∧ M 16 i ≤ 9999 := hm 16 _ i _ rfl hi rfl
theorem wx_20 (hm : sx_mok cl_ly M) {i : Nat} (hi : i < 6) : sx_w sx_r32 (M 20 i) := hm 20 _ i _ rfl hi rfl
theorem wx_7 (hm : sx_mok cl_ly M) : 0 ≤ M 14 7 ∧ M 14 7 ≤ 256 := cv_ly_ok (g := (14, 7, 0, 256)) hm (by decide +kernel)
theorem wx_ok {t0 t1 s0 s1 t : Int} {l : List qs_I} {ys : List Int} (hm : sx_mok cl_ly M) (ht : t0 ≤ t ∧ t ≤ t1) (hi : (i : Int) < M 14 7) (hs : M 16 i = s) (hr : s0 ≤ s ∧ s ≤ s1) (r : qs_ok M (t :: (i : Int) :: M 14 7 :: s :: ys) l 4) : qs_ok M (t :: (i : Int) :: M 14 7 :: s :: ys) (wx_i t0 t1 s0 s1 l) 0 := by
  have h7 := wx_7 hm
  exact qs_in ht (qs_in (show 0 ≤ (i : Int) ∧ (i : Int) ≤ 255 by omega) (qs_rd (show (0 : Int) ≤ 7 by decide) rfl h7 (qs_rd (show 0 ≤ (i : Int) by omega) hs hr (qs_lt hi r))))
theorem wx_round (hL : L < 2 ^ 31) (hm : sx_mok cl_ly M) (hS : wu_S 19 M V) (hi : (i : Int) < M 14 7) (hs : M 16 i = s) (hp : vt_p s) (hV : V.length + vt_c [s] ≤ 128) (hst : vt_st (M 20) s V = some U) (K : ∀ M', sx_mok cl_ly M' → (∀ a, a < 128 → a ≠ 19 → M' a = M a) → wu_S 19 M' U → rz_fin Q L xs 61 2 4 (wx_v (U.length : Int) ((i : Int) + 1)) [] M') : rz_fin Q L xs 61 2 4 (wx_v (V.length : Int) (i : Int)) [] M := by
  have h7 := wx_7 hm
  have h16 := wx_16 hm (i := i) (by omega)
  rw [hs] at h16
  have plain : 0 ≤ s ∨ s ≤ -1000 → vt_c [s] = 1 := fun h => by
    unfold vt_c
    rw [List.countP_cons, List.countP_nil, if_pos (decide_eq_true h)]
  rcases hp with h0 | h0 | h0 | h0 | ⟨w, hw, h0⟩
  · have hV := hV
    rw [plain (Or.inl h0)] at hV
    refine qs_use (zs := [(V.length : Int), (i : Int), M 14 7, s]) wx1_c hL hm (wx_ok hm (show 0 ≤ (V.length : Int) ∧ (V.length : Int) ≤ 127 by omega) hi hs ⟨h0, h16.2⟩ (qs_fin rfl)) (Nat.le_refl _) rfl rfl (qs_c (fun M' hm' hc hM => ?_) qs_z)
    have hM : ∀ a, a < 128 → M' a = sx_up M 19 (V.length : Int).toNat s a := hM
    rw [Int.toNat_natCast] at hM
    obtain ⟨f1, f2, f3⟩ := wx_up hM
    have eU : s :: V = U := by
      unfold vt_st at hst
      rw [if_pos h0] at hst
      exact Option.some.inj hst
    have := K M' hm' f1 (by rw [← eU]; exact wu_push hS f2 (fun j hj => f3 j (by omega)))
    rw [← eU, show ((s :: V).length : Int) = (V.length : Int) + 1 by rw [List.length_cons]; omega] at this
    exact this
  · rw [plain (Or.inr h0.2)] at hV
    obtain ⟨k, hk⟩ : ∃ k : Nat, s = -1000 - Int.ofNat k := ⟨(-1000 - s).toNat, by show s = -1000 - (((-1000 - s).toNat : Nat) : Int); omega⟩
    have hk' : s = -1000 - (k : Int) := hk
    have k6 : k < 6 := by omega
    have hc := List.all_eq_true.mp wx2_c k (List.mem_range.mpr k6)
    refine qs_use (zs := [(V.length : Int), (i : Int), M 14 7, s, M 20 k]) hc hL hm (wx_ok hm (show 0 ≤ (V.length : Int) ∧ (V.length : Int) ≤ 127 by omega) hi hs (show -1000 - Int.ofNat k ≤ s ∧ s ≤ -1000 - Int.ofNat k by rw [← hk]; exact ⟨Int.le_refl _, Int.le_refl _⟩) (qs_rd (show (0 : Int) ≤ Int.ofNat k from Int.natCast_nonneg k) rfl (wx_20 hm k6) (qs_fin rfl))) (Nat.le_refl _) rfl rfl (qs_c (fun M' hm' hc hM => ?_) qs_z)
    have hM : ∀ a, a < 128 → M' a = sx_up M 19 (V.length : Int).toNat (M 20 k) a := hM
    rw [Int.toNat_natCast] at hM
    obtain ⟨f1, f2, f3⟩ := wx_up hM
    have eU : M 20 k :: V = U := by
      unfold vt_st at hst
      rw [if_neg (by omega), if_pos h0.2, show (-1000 - s).toNat = k by omega] at hst
      exact Option.some.inj hst
    have := K M' hm' f1 (by rw [← eU]; exact wu_push hS f2 (fun j hj => f3 j (by omega)))
    rw [← eU, show ((M 20 k :: V).length : Int) = (V.length : Int) + 1 by rw [List.length_cons]; omega] at this
    exact this
  · subst h0
    match V, hst, hS, hV with
    | [], hst, _, _ => cases hst
    | a :: V, hst, hS, hV =>
      have hst : some ((if a = 0 then 1 else 0) :: V) = some U := hst
      obtain ⟨p1, p2⟩ := wu_top hS
      have hV : V.length + 1 + vt_c [-33] ≤ 128 := hV
      have lV : ((a :: V).length : Int) = (V.length : Int) + 1 := by rw [List.length_cons]; omega
      have wa := wx_19 hm (i := V.length) (by omega)
      rw [p1] at wa
      have fin : ∀ (M' : Nat → Nat → Int) (y : Int), y = (if a = 0 then 1 else 0) → sx_mok cl_ly M' → (∀ c, c < 128 → M' c = sx_up M 19 (((a :: V).length : Int) + -1).toNat y c) → rz_fin Q L xs 61 2 4 (wx_v ((a :: V).length : Int) ((i : Int) + 1)) [] M' := fun M' y hy hm' hM => by
        rw [show (((a :: V).length : Int) + -1).toNat = V.length by omega] at hM
        obtain ⟨f1, f2, f3⟩ := wx_up hM
        have eU : y :: V = U := by rw [hy]; exact Option.some.inj hst
        have := K M' hm' f1 (by rw [← eU]; exact wu_push p2 f2 (fun j hj => f3 j (by omega)))
        rw [← eU, show ((y :: V).length : Int) = ((a :: V).length : Int) by rw [List.length_cons, List.length_cons]] at this
        exact this
      refine qs_use (zs := [((a :: V).length : Int), (i : Int), M 14 7, -33, a]) wx3_c hL hm (wx_ok hm (show 1 ≤ ((a :: V).length : Int) ∧ ((a :: V).length : Int) ≤ 128 by omega) hi hs ⟨Int.le_refl _, Int.le_refl _⟩ (qs_rd (show 0 ≤ ((a :: V).length : Int) + -1 by omega) (show M 19 (((a :: V).length : Int) + -1).toNat = a by rw [show (((a :: V).length : Int) + -1).toNat = V.length by omega]; exact p1) wa (qs_fin rfl))) (Nat.le_refl _) rfl rfl (qs_c (fun M' hm' hc hM => ?_) (qs_c (fun M' hm' hc hM => ?_) qs_z))
      · have c1 : 0 ≤ a ∧ a ≤ 0 := hc.1
        exact fin M' 1 (by rw [if_pos (by omega)]) hm' hM
      · have c1 : a ≠ 0 := hc.1
        exact fin M' 0 (by rw [if_neg c1]) hm' hM
  · subst h0
    match V, hst, hS, hV with
    | [], hst, _, _ => cases hst
    | a :: V, hst, hS, hV =>
      have hst : some (sx_mf 1 0 a :: V) = some U := hst
      obtain ⟨p1, p2⟩ := wu_top hS
      have hV : V.length + 1 + vt_c [-126] ≤ 128 := hV
      have lV : ((a :: V).length : Int) = (V.length : Int) + 1 := by rw [List.length_cons]; omega
      have wa := wx_19 hm (i := V.length) (by omega)
      rw [p1] at wa
      refine qs_use (zs := [((a :: V).length : Int), (i : Int), M 14 7, -126, a]) wx4_c hL hm (wx_ok hm (show 1 ≤ ((a :: V).length : Int) ∧ ((a :: V).length : Int) ≤ 128 by omega) hi hs ⟨Int.le_refl _, Int.le_refl _⟩ (qs_rd (show 0 ≤ ((a :: V).length : Int) + -1 by omega) (show M 19 (((a :: V).length : Int) + -1).toNat = a by rw [show (((a :: V).length : Int) + -1).toNat = V.length by omega]; exact p1) wa (qs_fin rfl))) (Nat.le_refl _) rfl rfl (qs_c (fun u M' hm' hc hM => ?_) qs_z)
      have c1 : u = sx_mf 1 0 a := hc.1
      have hM : ∀ c, c < 128 → M' c = sx_up M 19 (((a :: V).length : Int) + -1).toNat u c := hM
      rw [show (((a :: V).length : Int) + -1).toNat = V.length by omega] at hM
      obtain ⟨f1, f2, f3⟩ := wx_up hM
      have eU : u :: V = U := by rw [c1]; exact Option.some.inj hst
      have := K M' hm' f1 (by rw [← eU]; exact wu_push p2 f2 (fun j hj => f3 j (by omega)))
      rw [← eU, show ((u :: V).length : Int) = ((a :: V).length : Int) by rw [List.length_cons, List.length_cons]] at this
      exact this
  · subst h0
    obtain ⟨q, hq, rfl⟩ := wu_zin hw
    have hs9 := (yk_ops hw).1
    simp only [yk_sg, List.mem_cons, List.not_mem_nil, or_false] at hs9
    obtain ⟨-, -, -, -, n33, n126, -⟩ := yk_rank_ne hw
    unfold vt_st at hst
    rw [if_neg (by omega), if_neg (by omega), if_neg (by omega), if_neg (by omega)] at hst
    match V, hst, hS, hV with
    | [], hst, _, _ => cases hst
    | [_], hst, _, _ => cases hst
    | b :: a :: V, hst, hS, hV =>
      have eU : vt_j (-(-q.1)) a b :: V = U := Option.some.inj hst
      rw [Int.neg_neg] at eU
      obtain ⟨p1, p2⟩ := wu_top hS
      obtain ⟨p3, p4⟩ := wu_top p2
      have p1 : M 19 (V.length + 1) = b := p1
      have hV : V.length + 1 + 1 + vt_c [-q.1] ≤ 128 := hV
      have lV : ((b :: a :: V).length : Int) = (V.length : Int) + 2 := by rw [List.length_cons, List.length_cons]; omega
      have wa := wx_19 hm (i := V.length) (by omega)
      have wb := wx_19 hm (i := V.length + 1) (by omega)
      rw [p3] at wa
      rw [p1] at wb
      have hcc := List.all_eq_true.mp wx5_c q hq
      refine qs_use (zs := [((b :: a :: V).length : Int), (i : Int), M 14 7, -q.1, a, b]) hcc hL hm (wx_ok hm (show 2 ≤ ((b :: a :: V).length : Int) ∧ ((b :: a :: V).length : Int) ≤ 128 by omega) hi hs ⟨Int.le_refl _, Int.le_refl _⟩ (qs_rd (show 0 ≤ ((b :: a :: V).length : Int) + -2 by omega) (show M 19 (((b :: a :: V).length : Int) + -2).toNat = a by rw [show (((b :: a :: V).length : Int) + -2).toNat = V.length by omega]; exact p3) wa (qs_rd (show 0 ≤ ((b :: a :: V).length : Int) + -1 by omega) (show M 19 (((b :: a :: V).length : Int) + -1).toNat = b by rw [show (((b :: a :: V).length : Int) + -1).toNat = V.length + 1 by omega]; exact p1) wb (qs_fin rfl)))) (Nat.le_refl _) rfl rfl (qs_of (fun T hT => ?_))
      obtain ⟨r, hr, rfl⟩ := List.mem_map.mp hT
      intro u M' hm' hc hM
      have hv := wx_two (t := ((b :: a :: V).length : Int)) (i := (i : Int)) (n := M 14 7) (s := -q.1) (u := u) hq hr hc
      have hM : ∀ c, c < 128 → M' c = sx_up M 19 (((b :: a :: V).length : Int) + -2).toNat (qs_a [((b :: a :: V).length : Int), (i : Int), M 14 7, -q.1, a, b, u] r.1) c := hM
      rw [hv, show (((b :: a :: V).length : Int) + -2).toNat = V.length by omega] at hM
      obtain ⟨f1, f2, f3⟩ := wx_up hM
      have := K M' hm' f1 (by rw [← eU]; exact wu_push p4 f2 (fun j hj => f3 j (by omega)))
      rw [← eU, show ((vt_j q.1 a b :: V).length : Int) = ((b :: a :: V).length : Int) + -1 by rw [List.length_cons, List.length_cons, List.length_cons]; omega] at this
      exact this
theorem wx_one {W : List Int} (e1 : vt_st N s V = some W) : W.length ≤ V.length + vt_c [s] := by
  by_cases c : 0 ≤ s ∨ s ≤ -1000
  · have e : vt_c [s] = 1 := by
      unfold vt_c
      rw [List.countP_cons, List.countP_nil, if_pos (decide_eq_true c)]
    have := vt_st_len e1
    omega
  · unfold vt_st at e1
    rw [if_neg (by omega), if_neg (by omega)] at e1
    by_cases c3 : s = -33
    · rw [if_pos c3] at e1
      cases V with
      | nil => cases e1
      | cons a R =>
        cases e1
        show R.length + 1 ≤ R.length + 1 + _
        omega
    · rw [if_neg c3] at e1
      by_cases c4 : s = -126
      · rw [if_pos c4] at e1
        cases V with
        | nil => cases e1
        | cons a R =>
          cases e1
          show R.length + 1 ≤ R.length + 1 + _
          omega
      · rw [if_neg c4] at e1
        cases V with
        | nil => cases e1
        | cons b R =>
          cases R with
          | nil => cases e1
          | cons a R =>
            cases e1
            show R.length + 1 ≤ R.length + 1 + 1 + _
            omega
/-- a part of the program is worked, step by step -/
theorem wx_run (hL : L < 2 ^ 31) : ∀ (A V U : List Int) (i : Nat) (M : Nat → Nat → Int), sx_mok cl_ly M → wu_S 19 M V → ((i + A.length : Nat) : Int) ≤ M 14 7 → (∀ k, k < A.length → M 16 (i + k) = A.getD k 0) → (∀ x ∈ A, vt_p x) → V.length + vt_c A ≤ 128 → vt_sr (M 20) A V = some U → (∀ M', sx_mok cl_ly M' → (∀ a, a < 128 → a ≠ 19 → M' a = M a) → wu_S 19 M' U → rz_fin Q L xs 61 2 4 (wx_v (U.length : Int) ((i + A.length : Nat) : Int)) [] M') → rz_fin Q L xs 61 2 4 (wx_v (V.length : Int) (i : Int)) [] M := by
  intro A
  induction A with
  | nil =>
    intro V U i M hm hS _ _ _ _ h K
    have h : some V = some U := h
    cases h
    exact K M hm (fun a _ _ => rfl) hS
  | cons s A ih =>
    intro V U i M hm hS hn hA hp hV h K
    have hn : ((i + (A.length + 1) : Nat) : Int) ≤ M 14 7 := hn
    cases e1 : vt_st (M 20) s V with
    | none =>
      have h : (match vt_st (M 20) s V with
        | some U => vt_sr (M 20) A U
        | none => none) = some U := h
      rw [e1] at h
      cases h
    | some W =>
      rw [vt_sr_cons e1] at h
      rw [vt_c_cons] at hV
      refine wx_round (s := s) hL hm hS (by omega) (hA 0 (Nat.succ_pos _)) (hp s List.mem_cons_self) (by omega) e1 (fun M' hm' f1 hS' => ?_)
      have e14 := f1 14 (by decide) (by decide)
      have e16 := f1 16 (by decide) (by decide)
      have e20 := f1 20 (by decide) (by decide)
      have hW := wx_one e1
      have := ih W U (i + 1) M' hm' hS' (by rw [e14]; omega) (fun k hk => by
        rw [e16, show i + 1 + k = i + (k + 1) by omega]
        exact hA (k + 1) (Nat.succ_lt_succ hk)) (fun x hx => hp x (List.mem_cons_of_mem _ hx)) (by omega) (by rw [e20]; exact h) (fun M2 hm2 f2 hS2 => by
        have := K M2 hm2 (fun a ha h19 => (f2 a ha h19).trans (f1 a ha h19)) hS2
        rw [show i + 1 + A.length = i + (s :: A).length by rw [List.length_cons]; omega]
        exact this)
      rw [show ((i + 1 : Nat) : Int) = (i : Int) + 1 by omega] at this
      exact this
end
