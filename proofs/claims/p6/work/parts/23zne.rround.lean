/-! The reference's evaluator: a round, and the loop. -/
section
variable {L : Nat} {xs : Nat → Int32} {M M' M1 M2 : Nat → Nat → Int} {ρ ρ' : Nat → Int} {V U : List Int} {a b z w v e n k n0 : Int} {Q : Option Value → (Nat → Nat → Int) → Prop}
def wu_v (e n k : Int) : sm_V := [(0, .ref 53), (1, .int (Int32.ofInt 0)), (3, .int (Int32.ofInt e)), (4, .int (Int32.ofInt n)), (5, .int (Int32.ofInt k))]
theorem wu_0 (hL : L < 2 ^ 31) (hm : sx_mok cl_ly M) (he : e ≤ 130) (h0 : 0 ≤ n0) (hn : n0 ≤ n ∧ n ≤ 129) (hk : 0 ≤ k) (hlt : k < e) (hw : M 67 k.toNat = w) : ∃ ρ : Nat → Int, sx_sat cl_ly (0, -100) xs L M ρ M (wu_t0 n0 w) ∧ (wu_t0 n0 w).1 = 13 ∧ ρ 9 = e ∧ ρ 10 = n ∧ ρ 11 = k ∧ ρ 12 = w := by
  obtain ⟨ρ1, s1, n1, e1, -⟩ := og_sat (xs := xs) (gs := wu_g n0) (zs := [e, n, k]) (fs := []) hL hm ⟨og_z rfl (show (0 : Int) ≤ e by omega) he (og_w32 (by omega) (by omega)), og_z rfl hn.1 hn.2 (og_w32 (by omega) (by omega)), og_z rfl hk (show k ≤ (129 : Int) by omega) (og_w32 (by omega) (by omega)), trivial⟩ (fun g hg => by cases hg)
  have n1 : (og_t (wu_g n0) []).1 = 12 := n1
  have r9 : ρ1 9 = e := e1 0 _ rfl
  have r10 : ρ1 10 = n := e1 1 _ rfl
  have r11 : ρ1 11 = k := e1 2 _ rfl
  have s2 := yz_ml (x := (11, 0)) (y := (9, 0)) s1 (by rw [n1]; decide) (by rw [n1]; decide) (by rw [og_v0 r11, og_v0 r9]; exact hlt)
  have n2 : (sx_ml (og_t (wu_g n0) []) 80 (11, 0) (9, 0)).1 = 12 := n1
  have v11 : sx_val ρ1 (11, 0) = k := og_v0 r11
  have w67 : sx_w (-128, 127) (M 67 k.toNat) := hm 67 _ k.toNat _ rfl (by show k.toNat < 260; omega) rfl
  obtain ⟨ρ2, x2, s3, r12⟩ := tg_rd (k := 67) (i := (11, 0)) (r := (w, w)) (n := 12) s2 n2 (by decide) (by decide) (by rw [v11]; exact hk) (by rw [v11, hw]; exact ⟨Int.le_refl _, Int.le_refl _⟩) (by rw [v11]; exact ⟨Int.le_trans (by decide) w67.1, Int.le_trans w67.2 (by decide)⟩)
  rw [v11, hw] at r12
  refine ⟨ρ2, s3, ?_, (x2 9 (by decide)).trans r9, (x2 10 (by decide)).trans r10, (x2 11 (by decide)).trans r11, r12⟩
  show (sx_ml (og_t (wu_g n0) []) 80 (11, 0) (9, 0)).1 + 1 = 13
  rw [n2]
theorem wu_ok {m : Nat} (hc : ∀ c, sx_ok ρ m (2, 0, c)) (h0 : ρ 0 = 0) (h : 11 < m) (r9 : ρ 9 = e) (r10 : ρ 10 = n) (r11 : ρ 11 = k) (we : sx_w sx_r32 e) (wn : sx_w sx_r32 n) (wk : sx_w sx_r32 k) : sx_okl ρ m wu_l ∧ sx_cl1 ρ wu_l = wu_v e n k := by
  refine ⟨fun q hq => ?_, ?_⟩
  · simp only [wu_l, List.mem_cons, List.not_mem_nil, or_false] at hq
    rcases hq with rfl | rfl | rfl | rfl | rfl
    · exact hc _
    · exact ⟨by show 0 < m; omega, fun _ => by show sx_w sx_r32 (ρ 0 + 0); rw [h0]; exact sx_w0, fun h => by cases h⟩
    · exact tk_ok0 (by omega) (by rw [r9]; exact we)
    · exact tk_ok0 (by omega) (by rw [r10]; exact wn)
    · exact tk_ok0 h (by rw [r11]; exact wk)
  · show [(0, Value.ref 53), (1, sx_cv1 ρ (0, 0, 0)), (3, sx_cv1 ρ (0, 9, 0)), (4, sx_cv1 ρ (0, 10, 0)), (5, sx_cv1 ρ (0, 11, 0))] = _
    rw [tk_cv h0, og_int r9, og_int r10, og_int r11]
    rfl
theorem wu_vm {c : Int} (h0 : ρ 0 = 0) (r9 : ρ 9 = e) (r10 : ρ 10 = n) (r11 : ρ 11 = k) : sx_cl1 ρ (wu_m c) = wu_v e (n + c) (k + 1) := by
  show [(0, Value.ref 53), (1, sx_cv1 ρ (0, 0, 0)), (3, sx_cv1 ρ (0, 9, 0)), (4, sx_cv1 ρ (0, 10, c)), (5, sx_cv1 ρ (0, 11, 1))] = _
  rw [tk_cv h0, og_int r9, sx_cvk0 (v := (0, 10, c)) rfl, og_vv (c := c) r10, sx_cvk0 (v := (0, 11, 1)) rfl, og_vv (c := 1) r11]
  rfl
theorem wu_73 (hm : sx_mok cl_ly M) {i : Nat} (hi : i < 130) : sx_w sx_r32 (M 73 i) := hm 73 _ i _ rfl hi rfl
/-- one round, by what it writes -/
theorem wu_go {t : sx_S} {Ts : List og_T} (hc : wu_c t Ts = true) (hnd : (Ts.all fun T => mt_nd (T.2.2.2.1.map fun q => q.1)) = true) (s : sx_sat cl_ly (0, -100) xs L M ρ M t) (hn : 13 ≤ t.1) (r9 : ρ 9 = e) (r10 : ρ 10 = n) (r11 : ρ 11 = k) (we : sx_w sx_r32 e) (wn : sx_w sx_r32 n) (wk : sx_w sx_r32 k) (K : ∀ T ∈ Ts, ∀ (ρ' : Nat → Int) (M' : Nat → Nat → Int), sx_ext t.1 ρ ρ' → ρ' 0 = 0 → ρ' 9 = e → ρ' 10 = n → ρ' 11 = k → sx_mok cl_ly M' → og_cs ρ' M' T.2.2.2.2.2 → (∀ a, a < 128 → M' a = og_up ρ' T.2.2.2.2.1 M a) → og_K Q L xs 197 6 T ρ' M') : rz_fin Q L xs 197 6 12 (wu_v e n k) [] M := by
  obtain ⟨okl, el⟩ := wu_ok (fun c => sx_ck2 s c) s.2.1 (by omega) r9 r10 r11 we wn wk
  exact og_use (Ts := Ts) (lv := wu_l) (s := []) hc hnd s okl (fun v hv => by cases hv) (Nat.le_refl _) el rfl (fun T hT ρ' M' x h0 hm' hcs hM => K T hT ρ' M' x h0 (og_v x (by omega) r9) (og_v x (by omega) r10) (og_v x (by omega) r11) hm' hcs hM)
/-- a cell of the pile was written -/
theorem wu_up {i : Nat} {x : Int} (hM : ∀ a, a < 128 → M' a = sx_up M 73 i x a) : (∀ a, a < 128 → a ≠ 73 → M' a = M a) ∧ M' 73 i = x ∧ ∀ j, j ≠ i → M' 73 j = M 73 j := by
  refine ⟨fun a ha g => by rw [hM a ha, sh_une g], by rw [hM 73 (by decide), sh_uat], fun j hj => by rw [hM 73 (by decide), sh_unj hj]⟩
theorem wu_zin {w : Int} (h : yk_rank w ≠ 0) : ∃ q ∈ wu_z, q.1 = w := by
  have := ya_in w h
  have : w = 124 ∨ w = 38 ∨ w = 60 ∨ w = 61 ∨ w = 62 ∨ w = 43 ∨ w = 45 ∨ w = 42 ∨ w = 47 ∨ w = 37 := by omega
  rcases this with rfl | rfl | rfl | rfl | rfl | rfl | rfl | rfl | rfl | rfl
  · exact ⟨_, List.Mem.head _, rfl⟩
  · exact ⟨_, List.Mem.tail _ (List.Mem.head _), rfl⟩
  · exact ⟨_, List.Mem.tail _ (List.Mem.tail _ (List.Mem.head _)), rfl⟩
  · exact ⟨_, List.Mem.tail _ (List.Mem.tail _ (List.Mem.tail _ (List.Mem.head _))), rfl⟩
  · exact ⟨_, List.Mem.tail _ (List.Mem.tail _ (List.Mem.tail _ (List.Mem.tail _ (List.Mem.head _)))), rfl⟩
  · exact ⟨_, List.Mem.tail _ (List.Mem.tail _ (List.Mem.tail _ (List.Mem.tail _ (List.Mem.tail _ (List.Mem.head _))))), rfl⟩
  · exact ⟨_, List.Mem.tail _ (List.Mem.tail _ (List.Mem.tail _ (List.Mem.tail _ (List.Mem.tail _ (List.Mem.tail _ (List.Mem.head _)))))), rfl⟩
  · exact ⟨_, List.Mem.tail _ (List.Mem.tail _ (List.Mem.tail _ (List.Mem.tail _ (List.Mem.tail _ (List.Mem.tail _ (List.Mem.tail _ (List.Mem.head _))))))), rfl⟩
  · exact ⟨_, List.Mem.tail _ (List.Mem.tail _ (List.Mem.tail _ (List.Mem.tail _ (List.Mem.tail _ (List.Mem.tail _ (List.Mem.tail _ (List.Mem.tail _ (List.Mem.head _)))))))), rfl⟩
  · exact ⟨_, List.Mem.tail _ (List.Mem.tail _ (List.Mem.tail _ (List.Mem.tail _ (List.Mem.tail _ (List.Mem.tail _ (List.Mem.tail _ (List.Mem.tail _ (List.Mem.tail _ (List.Mem.head _))))))))), rfl⟩
theorem wu_round (hL : L < 2 ^ 31) (hm : sx_mok cl_ly M) (hS : wu_S 73 M V) (hk : 0 ≤ k) (hlt : k < e) (he : e ≤ 130) (hV : V.length ≤ 129) (ok : vt_ok (yr_en (M 67 k.toNat) (M 68 k.toNat))) (h2 : M 67 k.toNat = 2 → 0 ≤ M 68 k.toNat ∧ M 68 k.toNat ≤ 5) (hst : vt_st (M 72) (yr_en (M 67 k.toNat) (M 68 k.toNat)) V = some U) (K : ∀ M', sx_mok cl_ly M' → (∀ a, a < 128 → a ≠ 73 → M' a = M a) → wu_S 73 M' U → rz_fin Q L xs 197 6 12 (wu_v e (U.length : Int) (k + 1)) [] M') : rz_fin Q L xs 197 6 12 (wu_v e (V.length : Int) k) [] M := by
  have we : sx_w sx_r32 e := og_w32 (by omega) (by omega)
  have wn : sx_w sx_r32 (V.length : Int) := og_w32 (by omega) (by omega)
  have wk : sx_w sx_r32 k := og_w32 (by omega) (by omega)
  have w68 : sx_w sx_r32 (M 68 k.toNat) := hm 68 _ k.toNat _ rfl (by show k.toNat < 260; omega) rfl
  rcases vt_en ok with ⟨w, v0⟩ | w | w | w | w
  · -- a number
    obtain ⟨ρ1, s1, n1, r9, r10, r11, r12⟩ := wu_0 (xs := xs) (n := (V.length : Int)) (n0 := 0) hL hm he (Int.le_refl 0) ⟨by omega, by omega⟩ hk hlt w
    obtain ⟨ρ, x, s, r13⟩ := tg_rd (k := 68) (i := (11, 0)) (r := sx_r32) (n := 13) s1 n1 (by decide) (by decide) (by rw [og_v0 r11]; exact hk) (by rw [og_v0 r11]; exact w68) (by rw [og_v0 r11]; exact sx_32_64 w68)
    rw [og_v0 r11] at r13
    have n2 : wu_t1.1 = 14 := by show (wu_t0 0 1).1 + 1 = 14; rw [n1]
    refine wu_go wu_c1 (by rfl) s (by show 13 ≤ wu_t1.1; rw [n2]; decide) ((x 9 (by decide)).trans r9) ((x 10 (by decide)).trans r10) ((x 11 (by decide)).trans r11) we wn wk (fun T hT ρ' M' y h0 q9 q10 q11 hm' hc hM => ?_)
    have y : sx_ext wu_t1.1 ρ ρ' := y
    rw [n2] at y
    have q13 := og_v y (show 13 < 14 by decide) r13
    rw [List.mem_singleton.mp hT] at hM ⊢
    have hM : ∀ a, a < 128 → M' a = sx_up M 73 (sx_val ρ' (10, 0)).toNat (sx_val ρ' (13, 0)) a := hM
    rw [og_v0 q10, og_v0 q13, Int.toNat_natCast] at hM
    obtain ⟨f1, f2, f3⟩ := wu_up hM
    have eU : M 68 k.toNat :: V = U := by
      unfold vt_st yr_en at hst
      rw [w, if_pos rfl, if_pos v0, if_pos v0] at hst
      exact Option.some.inj hst
    show rz_fin Q L xs 197 6 12 (sx_cl1 ρ' (wu_m 1)) [] M'
    rw [wu_vm h0 q9 q10 q11, show (V.length : Int) + 1 = (U.length : Int) by rw [← eU, List.length_cons]; omega]
    refine K M' hm' f1 ?_
    rw [← eU]
    exact wu_push hS f2 (fun i hi => f3 i (by omega))
  · -- a name
    obtain ⟨u1, u2⟩ := h2 w
    have w72 : sx_w sx_r32 (M 72 (M 68 k.toNat).toNat) := hm 72 _ (M 68 k.toNat).toNat _ rfl (by show (M 68 k.toNat).toNat < 6; omega) rfl
    obtain ⟨ρ1, s1, n1, r9, r10, r11, r12⟩ := wu_0 (xs := xs) (n := (V.length : Int)) (n0 := 0) hL hm he (Int.le_refl 0) ⟨by omega, by omega⟩ hk hlt w
    obtain ⟨ρ2, x2, s2, r13⟩ := tg_rd (k := 68) (i := (11, 0)) (r := (0, 5)) (n := 13) s1 n1 (by decide) (by decide) (by rw [og_v0 r11]; exact hk) (by rw [og_v0 r11]; exact ⟨u1, u2⟩) (by rw [og_v0 r11]; exact sx_32_64 w68)
    rw [og_v0 r11] at r13
    have n2 : (sx_frl (wu_t0 0 2) 68 (11, 0) (0, 5)).2.1 = 14 := by show (wu_t0 0 2).1 + 1 = 14; rw [n1]
    obtain ⟨ρ, x, s, r14⟩ := tg_rd (k := 72) (i := (13, 0)) (r := sx_r32) (n := 14) s2 n2 (by decide) (by decide) (by rw [og_v0 r13]; exact u1) (by rw [og_v0 r13]; exact w72) (by rw [og_v0 r13]; exact sx_32_64 w72)
    rw [og_v0 r13] at r14
    have n3 : wu_t2.1 = 15 := by show (sx_frl (wu_t0 0 2) 68 (11, 0) (0, 5)).2.1 + 1 = 15; rw [n2]
    refine wu_go wu_c2 (by rfl) s (by show 13 ≤ wu_t2.1; rw [n3]; decide) ((x 9 (by decide)).trans ((x2 9 (by decide)).trans r9)) ((x 10 (by decide)).trans ((x2 10 (by decide)).trans r10)) ((x 11 (by decide)).trans ((x2 11 (by decide)).trans r11)) we wn wk (fun T hT ρ' M' y h0 q9 q10 q11 hm' hc hM => ?_)
    have y : sx_ext wu_t2.1 ρ ρ' := y
    rw [n3] at y
    have q14 := og_v y (show 14 < 15 by decide) r14
    rw [List.mem_singleton.mp hT] at hM ⊢
    have hM : ∀ a, a < 128 → M' a = sx_up M 73 (sx_val ρ' (10, 0)).toNat (sx_val ρ' (14, 0)) a := hM
    rw [og_v0 q10, og_v0 q14, Int.toNat_natCast] at hM
    obtain ⟨f1, f2, f3⟩ := wu_up hM
    have eU : M 72 (M 68 k.toNat).toNat :: V = U := by
      rw [w] at hst
      have hst : vt_st (M 72) (-1000 - M 68 k.toNat) V = some U := hst
      unfold vt_st at hst
      rw [if_neg (by omega), if_pos (by omega), show -1000 - (-1000 - M 68 k.toNat) = M 68 k.toNat by omega] at hst
      exact Option.some.inj hst
    show rz_fin Q L xs 197 6 12 (sx_cl1 ρ' (wu_m 1)) [] M'
    rw [wu_vm h0 q9 q10 q11, show (V.length : Int) + 1 = (U.length : Int) by rw [← eU, List.length_cons]; omega]
    refine K M' hm' f1 ?_
    rw [← eU]
    exact wu_push hS f2 (fun i hi => f3 i (by omega))
  · -- !
    cases V with
    | nil =>
      unfold yr_en at hst
      rw [w] at hst
      cases hst
    | cons a V =>
      obtain ⟨p1, p2⟩ := wu_top hS
      have lV : ((a :: V).length : Int) = (V.length : Int) + 1 := by rw [List.length_cons]; omega
      have hV : V.length + 1 ≤ 129 := hV
      have wa := wu_73 hm (i := V.length) (by omega)
      obtain ⟨ρ1, s1, n1, r9, r10, r11, r12⟩ := wu_0 (xs := xs) (n := ((a :: V).length : Int)) (n0 := 1) hL hm he (by decide) ⟨by omega, by omega⟩ hk hlt w
      have vi : sx_val ρ1 (10, -1) = (V.length : Int) := by rw [og_vv (c := -1) r10]; omega
      obtain ⟨ρ, x, s, r13⟩ := tg_rd (k := 73) (i := (10, -1)) (r := sx_r32) (n := 13) s1 n1 (by decide) (by decide) (by rw [vi]; omega) (by rw [vi, Int.toNat_natCast]; exact wa) (by rw [vi, Int.toNat_natCast]; exact sx_32_64 wa)
      rw [vi, Int.toNat_natCast, p1] at r13
      have n2 : (wu_t3 3).1 = 14 := by show (wu_t0 1 3).1 + 1 = 14; rw [n1]
      refine wu_go wu_c3 (by rfl) s (by show 13 ≤ (wu_t3 3).1; rw [n2]; decide) ((x 9 (by decide)).trans r9) ((x 10 (by decide)).trans r10) ((x 11 (by decide)).trans r11) we wn wk (fun T hT ρ' M' y h0 q9 q10 q11 hm' hc hM => ?_)
      have y : sx_ext (wu_t3 3).1 ρ ρ' := y
      rw [n2] at y
      have q13 := og_v y (show 13 < 14 by decide) r13
      have fin : ∀ r : Int, r = (if a = 0 then 1 else 0) → (∀ c, c < 128 → M' c = sx_up M 73 (sx_val ρ' (10, -1)).toNat (sx_val ρ' (0, r)) c) → rz_fin Q L xs 197 6 12 (sx_cl1 ρ' (wu_m 0)) [] M' := fun r hr hM => by
        rw [og_vv (c := -1) q10, og_c h0, show ((((a :: V).length : Int) + -1)).toNat = V.length by omega] at hM
        obtain ⟨f1, f2, f3⟩ := wu_up hM
        have eU : r :: V = U := by
          unfold yr_en at hst
          rw [w] at hst
          have hst : some ((if a = 0 then 1 else 0) :: V) = some U := hst
          rw [hr]
          exact Option.some.inj hst
        rw [wu_vm h0 q9 q10 q11, show ((a :: V).length : Int) + 0 = (U.length : Int) by rw [← eU, List.length_cons, List.length_cons]; omega]
        refine K M' hm' f1 ?_
        rw [← eU]
        exact wu_push p2 f2 (fun i hi => f3 i (by omega))
      simp only [wu_T3, List.mem_cons, List.not_mem_nil, or_false] at hT
      rcases hT with rfl | rfl
      · obtain ⟨⟨c1, c2⟩, -⟩ := hc
        have c1 : 0 ≤ sx_val ρ' (13, 0) := c1
        have c2 : sx_val ρ' (13, 0) ≤ 0 := c2
        rw [og_v0 q13] at c1 c2
        exact fin 1 (by rw [if_pos (by omega)]) hM
      · obtain ⟨c1, -⟩ := hc
        have c1 : ρ' 13 ≠ 0 := c1
        rw [q13] at c1
        exact fin 0 (by rw [if_neg c1]) hM
  · -- the sign ahead
    cases V with
    | nil =>
      unfold yr_en at hst
      rw [w] at hst
      cases hst
    | cons a V =>
      obtain ⟨p1, p2⟩ := wu_top hS
      have lV : ((a :: V).length : Int) = (V.length : Int) + 1 := by rw [List.length_cons]; omega
      have hV : V.length + 1 ≤ 129 := hV
      have wa := wu_73 hm (i := V.length) (by omega)
      obtain ⟨ρ1, s1, n1, r9, r10, r11, r12⟩ := wu_0 (xs := xs) (n := ((a :: V).length : Int)) (n0 := 1) hL hm he (by decide) ⟨by omega, by omega⟩ hk hlt w
      have vi : sx_val ρ1 (10, -1) = (V.length : Int) := by rw [og_vv (c := -1) r10]; omega
      obtain ⟨ρ, x, s, r13⟩ := tg_rd (k := 73) (i := (10, -1)) (r := sx_r32) (n := 13) s1 n1 (by decide) (by decide) (by rw [vi]; omega) (by rw [vi, Int.toNat_natCast]; exact wa) (by rw [vi, Int.toNat_natCast]; exact sx_32_64 wa)
      rw [vi, Int.toNat_natCast, p1] at r13
      have n2 : (wu_t3 4).1 = 14 := by show (wu_t0 1 4).1 + 1 = 14; rw [n1]
      refine wu_go wu_c4 (by rfl) s (by show 13 ≤ (wu_t3 4).1; rw [n2]; decide) ((x 9 (by decide)).trans r9) ((x 10 (by decide)).trans r10) ((x 11 (by decide)).trans r11) we wn wk (fun T hT ρ' M' y h0 q9 q10 q11 hm' hc hM => ?_)
      have y : sx_ext (wu_t3 4).1 ρ ρ' := y
      rw [n2] at y
      have q13 := og_v y (show 13 < 14 by decide) r13
      rw [List.mem_singleton.mp hT] at hc hM ⊢
      obtain ⟨c1, -⟩ := hc
      have c1 : ρ' 14 = sx_mf 1 (sx_val ρ' (0, 0)) (sx_val ρ' (13, 0)) := c1
      rw [og_c h0, og_v0 q13] at c1
      have hM : ∀ c, c < 128 → M' c = sx_up M 73 (sx_val ρ' (10, -1)).toNat (sx_val ρ' (14, 0)) c := hM
      rw [og_vv (c := -1) q10, og_v0 c1, show ((((a :: V).length : Int) + -1)).toNat = V.length by omega] at hM
      obtain ⟨f1, f2, f3⟩ := wu_up hM
      have eU : sx_mf 1 0 a :: V = U := by
        unfold yr_en at hst
        rw [w] at hst
        have hst : some (sx_mf 1 0 a :: V) = some U := hst
        exact Option.some.inj hst
      show rz_fin Q L xs 197 6 12 (sx_cl1 ρ' (wu_m 0)) [] M'
      rw [wu_vm h0 q9 q10 q11, show ((a :: V).length : Int) + 0 = (U.length : Int) by rw [← eU, List.length_cons, List.length_cons]; omega]
      refine K M' hm' f1 ?_
      rw [← eU]
      exact wu_push p2 f2 (fun i hi => f3 i (by omega))
  · -- between two
    obtain ⟨q, hq, hqw⟩ := wu_zin w
    obtain ⟨z0, hz0⟩ : ∃ z0, M 67 k.toNat = z0 := ⟨_, rfl⟩
    rw [hz0] at w hst hqw
    rw [yr_en_op w] at hst
    have hs := (yk_ops w).1
    simp only [yk_sg, List.mem_cons, List.not_mem_nil, or_false] at hs
    obtain ⟨-, -, -, -, n33, n126, -⟩ := yk_rank_ne w
    unfold vt_st at hst
    rw [if_neg (by omega), if_neg (by omega), if_neg (by omega), if_neg (by omega)] at hst
    match V, hst, hS, hV, wn with
    | [], hst, _, _, _ => cases hst
    | [_], hst, _, _, _ => cases hst
    | b :: a :: V, hst, hS, hV, wn =>
      have eU : vt_j (-(-z0)) a b :: V = U := Option.some.inj hst
      rw [Int.neg_neg] at eU
      obtain ⟨p1, p2⟩ := wu_top hS
      obtain ⟨p3, p4⟩ := wu_top p2
      have p1 : M 73 (V.length + 1) = b := p1
      have lV : ((b :: a :: V).length : Int) = (V.length : Int) + 2 := by rw [List.length_cons, List.length_cons]; omega
      have hV : V.length + 1 + 1 ≤ 129 := hV
      have wa := wu_73 hm (i := V.length) (by omega)
      have wb := wu_73 hm (i := V.length + 1) (by omega)
      obtain ⟨ρ1, s1, n1, r9, r10, r11, r12⟩ := wu_0 (xs := xs) (n := ((b :: a :: V).length : Int)) (n0 := 2) hL hm he (by decide) ⟨by omega, by omega⟩ hk hlt hz0
      have vi : sx_val ρ1 (10, -2) = (V.length : Int) := by rw [og_vv (c := -2) r10]; omega
      obtain ⟨ρ2, x2, s2, r13⟩ := tg_rd (k := 73) (i := (10, -2)) (r := sx_r32) (n := 13) s1 n1 (by decide) (by decide) (by rw [vi]; omega) (by rw [vi, Int.toNat_natCast]; exact wa) (by rw [vi, Int.toNat_natCast]; exact sx_32_64 wa)
      rw [vi, Int.toNat_natCast, p3] at r13
      have r10' := (x2 10 (by decide)).trans r10
      have vj : sx_val ρ2 (10, -1) = ((V.length + 1 : Nat) : Int) := by rw [og_vv (c := -1) r10']; omega
      have n2 : (sx_frl (wu_t0 2 z0) 73 (10, -2) sx_r32).2.1 = 14 := by show (wu_t0 2 z0).1 + 1 = 14; rw [n1]
      obtain ⟨ρ, x, s, r14⟩ := tg_rd (k := 73) (i := (10, -1)) (r := sx_r32) (n := 14) s2 n2 (by decide) (by decide) (by rw [vj]; omega) (by rw [vj, Int.toNat_natCast]; exact wb) (by rw [vj, Int.toNat_natCast]; exact sx_32_64 wb)
      rw [vj, Int.toNat_natCast, p1] at r14
      have n3 : (wu_t4 z0).1 = 15 := by show (sx_frl (wu_t0 2 z0) 73 (10, -2) sx_r32).2.1 + 1 = 15; rw [n2]
      have hcc := List.all_eq_true.mp wu_c5 q hq
      rw [hqw] at hcc
      refine wu_go hcc (by
        rw [List.all_eq_true]
        intro T hT
        obtain ⟨r, -, rfl⟩ := List.mem_map.mp hT
        rfl) s (by show 13 ≤ (wu_t4 z0).1; rw [n3]; decide) ((x 9 (by decide)).trans ((x2 9 (by decide)).trans r9)) ((x 10 (by decide)).trans r10') ((x 11 (by decide)).trans ((x2 11 (by decide)).trans r11)) we wn wk (fun T hT ρ' M' y h0 q9 q10 q11 hm' hc hM => ?_)
      have y : sx_ext (wu_t4 z0).1 ρ ρ' := y
      rw [n3] at y
      have q13 := og_v y (show 13 < 15 by decide) ((x 13 (by decide)).trans r13)
      have q14 := og_v y (show 14 < 15 by decide) r14
      obtain ⟨r, hr, rfl⟩ := List.mem_map.mp hT
      have hv := wu_two hq hr h0 q13 q14 hc
      rw [hqw] at hv
      have hM : ∀ c, c < 128 → M' c = sx_up M 73 (sx_val ρ' (10, -2)).toNat (sx_val ρ' r.1) c := hM
      rw [og_vv (c := -2) q10, hv, show ((((b :: a :: V).length : Int) + -2)).toNat = V.length by omega] at hM
      obtain ⟨f1, f2, f3⟩ := wu_up hM
      show rz_fin Q L xs 197 6 12 (sx_cl1 ρ' (wu_m (-1))) [] M'
      rw [wu_vm h0 q9 q10 q11, show ((b :: a :: V).length : Int) + -1 = (U.length : Int) by rw [← eU, List.length_cons, List.length_cons, List.length_cons]; omega]
      refine K M' hm' f1 ?_
      rw [← eU]
      exact wu_push p4 f2 (fun i hi => f3 i (by omega))
end
