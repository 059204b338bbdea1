/-! cards: both sides, the end. -/
section
variable {WF : (Nat → Nat → Int) → Prop} {L : Nat} {xs : Nat → Int32} {M M' M0 M1 M2 N : Nat → Nat → Int} {ρ ρ' : Nat → Int} {Q : Option Value → (Nat → Nat → Int) → Prop} {s b i n z : Int} {c k q : Nat} {cps : List la_P}
noncomputable def xe_t : sx_S := og_t [(0, (0, og_mx)), (0, (1, 12))] []
def xe_l (c : Nat) : sx_L := [(0, 2, 0, 8), (1, 2, 0, 41 + 2 * (c : Int)), (2, 0, 9, 0), (3, 0, 10, 0)]
def xe_T (c : Nat) : og_T := (some 3, none, [], [(0, 2, 0, 8), (1, 2, 0, 41 + 2 * (c : Int)), (2, 0, 9, 0), (3, 0, 10, 0), (4, 0, 0, 0)], [], [])
theorem xe_c : ((List.range 6).all fun c => gs_chk (fun pc => Nat.beq pc 3) (fun o => [xe_T c].any (og_chk xe_t o)) 300 300 4 22 0 (xe_l c) [] xe_t) = true := by decide +kernel
def xe_v (c : Nat) (i n : Int) : sm_V := [(0, .ref 8), (1, .ref (41 + 2 * c)), (2, .int (Int32.ofInt i)), (3, .int (Int32.ofInt n))]
theorem xe_all (hL : L < 2 ^ 31) (hm : sx_mok cl_ly M) (hc6 : c < 6) (hi : 0 ≤ i ∧ i ≤ 2147483647) (hn : 1 ≤ n ∧ n ≤ 12) (hC : 0 ≤ M 9 5) (h60 : M (41 + 2 * c) 1 ≤ 60) : rz_fin (sh_Q (xd_R c i n M)) L xs 22 4 0 (xe_v c i n) [] M := by
  have i32 : sx_w sx_r32 i := og_w32 (by omega) (by omega)
  have n32 : sx_w sx_r32 n := og_w32 (by omega) (by omega)
  obtain ⟨ρ, st, e1, e2, -⟩ := og_sat (xs := xs) (gs := [(0, (0, og_mx)), (0, (1, 12))]) (zs := [i, n]) (fs := []) hL hm ⟨og_z rfl hi.1 hi.2 i32, og_z rfl hn.1 hn.2 n32, trivial⟩ (fun g hg => by cases hg)
  have n11 : xe_t.1 = 11 := e1
  have r9 : ρ 9 = i := e2 0 _ rfl
  have r10 : ρ 10 = n := e2 1 _ rfl
  refine og_use (Ts := [xe_T c]) (lv := xe_l c) (s := []) (List.all_eq_true.mp xe_c c (List.mem_range.mpr hc6)) rfl st (fun q hq => ?_) (fun v hv => by cases hv) (Nat.le_refl _) ?_ rfl (fun T hT ρ' M' x h0 hm' hc hM => ?_)
  · simp only [xe_l, List.mem_cons, List.not_mem_nil, or_false] at hq
    rcases hq with rfl | rfl | rfl | rfl
    · exact sx_ck2 st _
    · exact sx_ck2 st _
    · exact tk_ok0 (by rw [n11]; decide) (by rw [r9]; exact i32)
    · exact tk_ok0 (by rw [n11]; decide) (by rw [r10]; exact n32)
  · show [(0, Value.ref 8), (1, sx_cv1 ρ (2, 0, 41 + 2 * (c : Int))), (2, sx_cv1 ρ (0, 9, 0)), (3, sx_cv1 ρ (0, 10, 0))] = _
    rw [hr_ref, og_int r9, og_int r10]
    rfl
  · rw [n11] at x
    rw [List.mem_singleton.mp hT] at hM ⊢
    show rz_fin _ L xs 22 4 3 [(0, Value.ref 8), (1, sx_cv1 ρ' (2, 0, 41 + 2 * (c : Int))), (2, sx_cv1 ρ' (0, 9, 0)), (3, sx_cv1 ρ' (0, 10, 0)), (4, sx_cv1 ρ' (0, 0, 0))] [] M'
    rw [hr_ref, og_int (og_v x (by decide) r9), og_int (og_v x (by decide) r10), tk_cv h0 0]
    have := xd_loop (xs := xs) hL hc6 hi hn hC h60 n.toNat 0 M' (by omega) (by omega) (by omega) hm' (xd_I0 hM)
    rw [show i + 2 * ((0 : Nat) : Int) = i by omega] at this
    exact this
-- the answer goes through
noncomputable def ze_t : sx_S := og_t [(0, sx_r32)] []
theorem ze_c : gs_chk (fun _ => false) (fun o => [((none, some (0, 9, 0), [], [], [], []) : og_T)].any (og_chk ze_t o)) 300 300 1 18 65 [] [(0, 9, 0)] ze_t = true := by decide +kernel
theorem ze_all (hL : L < 2 ^ 31) (hm : sx_mok cl_ly M) (hz : sx_w sx_r32 z) (k : ∀ M', sx_mok cl_ly M' → (∀ a, a < 128 → M' a = M a) → Q (some (.int (Int32.ofInt z))) M') : rz_fin Q L xs 18 1 65 [] [.int (Int32.ofInt z)] M := by
  obtain ⟨ρ, st, e1, e2, -⟩ := og_sat (xs := xs) (gs := [(0, sx_r32)]) (zs := [z]) (fs := []) hL hm ⟨og_z rfl hz.1 hz.2 hz, trivial⟩ (fun g hg => by cases hg)
  have n10 : ze_t.1 = 10 := e1
  have r9 : ρ 9 = z := e2 0 _ rfl
  refine og_use (Ts := [((none, some (0, 9, 0), [], [], [], []) : og_T)]) (lv := []) (s := [(0, 9, 0)]) ze_c rfl st (fun q hq => by cases hq) (fun v hv => ?_) (Nat.le_refl _) rfl (by
    show [sx_cv1 ρ (0, 9, 0)] = _
    rw [og_int r9]) (fun T hT ρ' M' x h0 hm' hc hM => ?_)
  · rw [List.mem_singleton.mp hv]
    exact tk_ok0 (by rw [n10]; decide) (by rw [r9]; exact hz)
  · rw [n10] at x
    rw [List.mem_singleton.mp hT] at hM ⊢
    show Q (some (sx_cv1 ρ' (0, 9, 0))) M'
    rw [og_int (og_v x (by decide) r9)]
    exact k M' hm' hM
theorem zd_bad_ok {T : og_T} {R : Int → (Nat → Nat → Int) → Prop} {j d : Nat} (hT : T ∈ zd_bad) (q10 : ρ' 10 = n) (h0 : ρ' 0 = 0) (hm' : sx_mok cl_ly M') (hc : og_cs ρ' M' T.2.2.2.2.2) (hM : ∀ a, a < 128 → M' a = og_up ρ' T.2.2.2.2.1 M a) (hR : n < 1 ∨ 12 < n → zd_same M M' → R (-1) M') : og_K (sh_Q R) L xs j d T ρ' M' := by
  simp only [zd_bad, List.mem_cons, List.not_mem_nil, or_false] at hT
  rcases hT with e | e
  · rw [e] at hc hM ⊢
    obtain ⟨⟨c1, c2⟩, -⟩ := hc
    have c2 : sx_val ρ' (10, 0) ≤ 0 := c2
    rw [og_v0 q10] at c2
    exact ⟨-1, congrArg some (tk_cv h0 (-1)), hm', hR (Or.inl (by omega)) hM⟩
  · rw [e] at hc hM ⊢
    obtain ⟨⟨c1, c2⟩, -⟩ := hc
    have c1 : 13 ≤ sx_val ρ' (10, 0) := c1
    rw [og_v0 q10] at c1
    exact ⟨-1, congrArg some (tk_cv h0 (-1)), hm', hR (Or.inr (by omega)) hM⟩
theorem zd_n {T : og_T} (q10 : ρ' 10 = n) {l : List og_D} (h : og_cs ρ' M' (og_b 10 1 12 :: l)) : 1 ≤ n ∧ n ≤ 12 := by
  obtain ⟨⟨c1, c2⟩, -⟩ := h
  have c1 : 1 ≤ sx_val ρ' (10, 0) := c1
  have c2 : sx_val ρ' (10, 0) ≤ 12 := c2
  rw [og_v0 q10] at c1 c2
  exact ⟨c1, c2⟩
theorem xd_R32 (h : xd_R c i n M z M') : sx_w sx_r32 z := by
  obtain ⟨k, e, h1, -⟩ := h
  exact og_w32 (by omega) (by omega)
theorem xd_R_same (h : xd_R c i n M z N) (e : ∀ a, a < 128 → M' a = N a) : xd_R c i n M z M' := by
  obtain ⟨k, a, b, d, h⟩ := h
  exact ⟨k, a, b, d, xd_I_same e h⟩
/-- the same, out of a heap that is told by cells -/
theorem xd_R_on (h : xd_R c i n N z M') (e : ∀ a, a < 128 → N a = M a) (h6 : c < 6) : xd_R c i n M z M' := by
  obtain ⟨k, a, b, d, f0, f, g, w, u⟩ := h
  have e41 := e (41 + 2 * c) (by omega)
  have e42 := e (42 + 2 * c) (by omega)
  have e9 := e 9 (by decide)
  have ec : ∀ j, xd_cond c i n N j = xd_cond c i n M j := fun j => by
    unfold xd_cond
    rw [e41, e42, e9]
  refine ⟨k, a, b, by rw [← ec]; exact d, fun j hj => by rw [← ec]; exact f0 j hj, fun a ha h9 h10 h11 => by rw [f a ha h9 h10 h11, e a ha], fun j => by rw [g j, e9], fun j => by rw [w j, e9, e42, e 10 (by decide)], fun j => by rw [u j, e9, e42, e 11 (by decide)]⟩
theorem yd_R_on (h : yd_R c i n N z M') (e : ∀ a, a < 128 → N a = M a) : yd_R c i n M z M' := by
  obtain ⟨k, a, b, d, f0, f, g, w, u⟩ := h
  have e88 := e 88 (by decide)
  have e89 := e 89 (by decide)
  have e53 := e 53 (by decide)
  have ec : ∀ j, yd_cond c i n N j = yd_cond c i n M j := fun j => by
    unfold yd_cond
    rw [e88, e89, e53]
  refine ⟨k, a, b, by rw [← ec]; exact d, fun j hj => by rw [← ec]; exact f0 j hj, fun a ha h9 h10 h11 => by rw [f a ha h9 h10 h11, e a ha], fun j => by rw [g j, e53], fun j => by rw [w j, e53, e89, e 60 (by decide)], fun j => by rw [u j, e53, e89, e 59 (by decide)]⟩
theorem zd_x (hL : L < 2 ^ 31) (hm : sx_mok cl_ly M) (h6 : c < 6) (hq4 : q < 4) (hx2 : sx_w (zd_x2 q) (M (41 + 2 * c) 2)) (hx3 : sx_w (zd_x3 q) (M (41 + 2 * c) 3)) (hi : sx_w sx_r32 i) (hn : sx_w sx_r32 n) : rz_fin (sh_Q (zd_X c q i n M)) L xs 18 5 0 (zd_a 8 c i n) [] M := by
  have hi' := sx_r32_iff.mp hi
  have fk := sh_fok hm h6
  obtain ⟨ρ, st, e1, e2, -⟩ := og_sat (xs := xs) (gs := zd_g) (zs := [i, n]) (fs := zd_fx c q) hL hm ⟨og_z rfl hi.1 hi.2 hi, og_z rfl hn.1 hn.2 hn, trivial⟩ (fun g hg => by
    simp only [zd_fx, List.mem_cons, List.not_mem_nil, or_false] at hg
    rcases hg with rfl | rfl
    · have := fk (41 + 2 * c, 2, (-1, 4)) (by simp [op_f])
      exact ⟨this.1, hx2, this.2.2⟩
    · have := fk (41 + 2 * c, 3, (-1, 49)) (by simp [op_f])
      exact ⟨this.1, hx3, this.2.2⟩)
  have n13 : (zd_tx c q).1 = 13 := e1
  have h0 : ρ 0 = 0 := st.2.1
  have r9 : ρ 9 = i := e2 0 _ rfl
  have r10 : ρ 10 = n := e2 1 _ rfl
  refine og_use (Ts := zd_Tx c q) (lv := zd_l 8 c) (s := []) (zd_all_ok zd_cx h6 hq4) (by
    have := List.all_eq_true.mp (zd_all_ok zd_nd h6 hq4)
    exact List.all_eq_true.mpr fun T hT => this T (List.mem_append_left _ hT)) st (zd_okl (fun c => sx_ck2 st c) (by rw [n13]; decide) h0 h6 r9 r10 hi hn) (fun v hv => by cases hv) (show 5 ≤ 5 by decide) (zd_cl rfl h0 r9 r10) rfl (fun T hT ρ' M' x h0 hm' hc hM => ?_)
  rw [n13] at x
  have q9 := og_v x (show 9 < 13 by decide) r9
  have q10 := og_v x (show 10 < 13 by decide) r10
  unfold zd_Tx at hT
  rcases List.mem_append.mp hT with hT | hT
  · refine zd_bad_ok hT q10 h0 hm' hc hM (fun hb hs => ?_)
    unfold zd_X
    rw [if_pos hb]
    exact ⟨rfl, hs⟩
  · by_cases e0 : q = 0
    · rw [if_pos e0] at hT
      rw [List.mem_singleton.mp hT] at hc hM ⊢
      have hn := zd_n (T := og_r 0 []) q10 hc
      refine ⟨0, congrArg some (tk_cv h0 0), hm', ?_⟩
      unfold zd_X
      rw [if_neg (by omega), if_pos e0]
      exact ⟨rfl, hM⟩
    · rw [if_neg e0] at hT
      by_cases e3 : q = 3
      · rw [if_pos e3] at hT
        simp only [List.mem_cons, List.not_mem_nil, or_false] at hT
        rcases hT with e | e
        · rw [e] at hc hM ⊢
          have hn := zd_n (T := og_r 0 []) q10 hc
          obtain ⟨-, ⟨c1, c2⟩, -⟩ := hc
          have c2 : sx_val ρ' (9, 0) ≤ -1 := c2
          rw [og_v0 q9] at c2
          refine ⟨0, congrArg some (tk_cv h0 0), hm', ?_⟩
          unfold zd_X
          rw [if_neg (by omega), if_neg e0, if_pos e3]
          exact ⟨0, rfl, by decide, fun h => by have := h.2.1; omega, xd_I0 hM⟩
        · rw [e] at hc hM ⊢
          have hn' := zd_n (T := og_r 0 []) q10 hc
          obtain ⟨-, ⟨c1, c2⟩, -⟩ := hc
          have c1 : 0 ≤ sx_val ρ' (9, 0) := c1
          rw [og_v0 q9] at c1
          have hM : ∀ a, a < 128 → M' a = M a := hM
          have hC : 0 ≤ M' 9 5 := (cx_fld (c := 9) (k := 5) (lo := 0) (hi := 12) hm' (by decide +kernel)).1
          have h60 : M' (41 + 2 * c) 1 ≤ 60 := (sh_fok hm' h6 (41 + 2 * c, 1, (0, 60)) (by simp [op_f])).2.1.2
          show rz_fin _ L xs 18 5 62 [] (sx_cs1 ρ' [(0, 10, 0), (0, 9, 0), (2, 0, 41 + 2 * (c : Int)), (2, 0, 8)]) M'
          refine og_call (d := 4) (d' := 4) (k := 22) (ρ := ρ') (m := 13) (s := [(0, 10, 0), (0, 9, 0), (2, 0, 41 + 2 * (c : Int)), (2, 0, 8)]) (as := [(2, 0, 8), (2, 0, 41 + 2 * (c : Int)), (0, 9, 0), (0, 10, 0)]) zd_f62 (zd_call h6) (fun w hw => ?_) rfl rfl rfl (by decide) ?_ (xe_all hL hm' h6 ⟨c1, hi'.2⟩ hn' hC h60) (fun r M2 hR => ?_)
          · simp only [List.mem_cons, List.not_mem_nil, or_false] at hw
            rcases hw with rfl | rfl | rfl | rfl
            · exact tk_ok0 (by decide) (by rw [q10]; exact hn)
            · exact tk_ok0 (by decide) (by rw [q9]; exact hi)
            · exact ⟨by show 0 < 13; decide, (fun h => by cases h), fun h => by cases h⟩
            · exact ⟨by show 0 < 13; decide, (fun h => by cases h), fun h => by cases h⟩
          · show [(0, Value.ref 8), (1, sx_cv1 ρ' (2, 0, 41 + 2 * (c : Int))), (2, sx_cv1 ρ' (0, 9, 0)), (3, sx_cv1 ρ' (0, 10, 0))] = _
            rw [hr_ref, og_int q9, og_int q10]
            rfl
          · obtain ⟨y, rfl, hm2, hR⟩ := hR
            refine rz_d (show 1 ≤ 5 by decide) (ze_all hL hm2 (xd_R32 hR) (fun M3 hm3 e9 => ⟨y, rfl, hm3, ?_⟩))
            unfold zd_X
            rw [if_neg (by omega), if_neg e0, if_pos e3]
            exact xd_R_on (xd_R_same hR e9) hM h6
      · rw [if_neg e3] at hT
        rw [List.mem_singleton.mp hT] at hc hM ⊢
        have hn := zd_n (T := og_r 0 []) q10 hc
        refine ⟨-12, congrArg some (tk_cv h0 (-12)), hm', ?_⟩
        unfold zd_X
        rw [if_neg (by omega), if_neg e0, if_neg e3]
        exact ⟨rfl, hM⟩
theorem zd_mm (hL : L < 2 ^ 31) (hm : sx_mok cl_ly M) (h6 : c < 6) (hq4 : q < 4) (hx : sx_w (zd_m q) (M 87 c)) (hi : sx_w sx_r32 i) (hn : sx_w sx_r32 n) : rz_fin (sh_Q (zd_M c q i n M)) L xs 158 4 0 (zd_a 53 c i n) [] M := by
  have h87 := sh_87 hm h6
  obtain ⟨ρ, st, e1, e2, -⟩ := og_sat (xs := xs) (gs := zd_g) (zs := [i, n]) (fs := zd_fm c q) hL hm ⟨og_z rfl hi.1 hi.2 hi, og_z rfl hn.1 hn.2 hn, trivial⟩ (fun g hg => by
    rw [List.mem_singleton.mp hg]
    exact ⟨by show 87 < 128; decide, hx, sx_32_64 (og_w32 (by show _ ≤ M 87 c; omega) (by show M 87 c ≤ _; omega))⟩)
  have n12 : (zd_tm c q).1 = 12 := e1
  have h0 : ρ 0 = 0 := st.2.1
  have r9 : ρ 9 = i := e2 0 _ rfl
  have r10 : ρ 10 = n := e2 1 _ rfl
  refine og_use (Ts := zd_Tm c q) (lv := zd_l 53 c) (s := []) (zd_all_ok zd_cm h6 hq4) (by
    have := List.all_eq_true.mp (zd_all_ok zd_nd h6 hq4)
    exact List.all_eq_true.mpr fun T hT => this T (List.mem_append_right _ hT)) st (zd_okl (fun c => sx_ck2 st c) (by rw [n12]; decide) h0 h6 r9 r10 hi hn) (fun v hv => by cases hv) (Nat.le_refl _) (zd_cl rfl h0 r9 r10) rfl (fun T hT ρ' M' x h0 hm' hc hM => ?_)
  rw [n12] at x
  have q9 := og_v x (show 9 < 12 by decide) r9
  have q10 := og_v x (show 10 < 12 by decide) r10
  unfold zd_Tm at hT
  rcases List.mem_append.mp hT with hT | hT
  · refine zd_bad_ok hT q10 h0 hm' hc hM (fun hb hs => ?_)
    unfold zd_M
    rw [if_pos hb]
    exact ⟨rfl, hs⟩
  · by_cases e0 : q = 0
    · rw [if_pos e0] at hT
      rw [List.mem_singleton.mp hT] at hc hM ⊢
      have hn := zd_n (T := og_r 0 []) q10 hc
      refine ⟨0, congrArg some (tk_cv h0 0), hm', ?_⟩
      unfold zd_M
      rw [if_neg (by omega), if_pos e0]
      exact ⟨rfl, hM⟩
    · rw [if_neg e0] at hT
      by_cases e3 : q = 3
      · rw [if_pos e3] at hT
        rw [List.mem_singleton.mp hT] at hc hM ⊢
        have hn' := zd_n (T := og_r 0 []) q10 hc
        have hM : ∀ a, a < 128 → M' a = M a := hM
        have hC : 0 ≤ M' 53 8 := (cx_fld (c := 53) (k := 8) (lo := 0) (hi := 12) hm' (by decide +kernel)).1
        show rz_fin _ L xs 158 4 58 [(0, Value.ref 53), (1, sx_cv1 ρ' (0, 0, (c : Int))), (2, sx_cv1 ρ' (0, 9, 0)), (3, sx_cv1 ρ' (0, 10, 0)), (4, sx_cv1 ρ' (0, 0, 0))] [] M'
        rw [tk_cv h0 (c : Int), og_int q9, og_int q10, tk_cv h0 0]
        have eM : zd_M c q i n M = yd_R c i n M := by
          funext z M'
          unfold zd_M
          rw [if_neg (by omega), if_neg e0, if_pos e3]
        rw [eM]
        obtain ⟨F, r, M3, f1, z, f2, f3, f4⟩ := yd_loop (xs := xs) (M := M') hL h6 hi hn' hC n.toNat 0 M' (by omega) (by omega) hm' (yd_I0 (fun _ _ => rfl))
        exact ⟨F, r, M3, f1, z, f2, f3, yd_R_on f4 hM⟩
      · rw [if_neg e3] at hT
        rw [List.mem_singleton.mp hT] at hc hM ⊢
        have hn := zd_n (T := og_r 0 []) q10 hc
        refine ⟨-12, congrArg some (tk_cv h0 (-12)), hm', ?_⟩
        unfold zd_M
        rw [if_neg (by omega), if_neg e0, if_neg e3]
        exact ⟨rfl, hM⟩
end
