/-! Shelves: row. -/
section
variable {WF : (Nat → Nat → Int) → Prop} {L : Nat} {xs : Nat → Int32} {M M' M0 M1 M2 N : Nat → Nat → Int} {ρ ρ' : Nat → Int} {t : sx_S} {Q : Option Value → (Nat → Nat → Int) → Prop} {s q n : Int} {c : Nat} {cps : List la_P}
theorem rz_iln {j d pc : Nat} {lv : sm_V} {y : Int32} (hf : (sm_MT j).2.2.2.2.2 pc = some (.iload_n 3, 1)) (hl : sm_ld lv 3 = some (.int y)) (k : rz_fin Q L xs j d (pc + 1) lv [.int y] M) : rz_fin Q L xs j d pc lv [] M :=
  rz_st hf rfl rfl rfl (pc' := pc + 1) (lv' := lv) (s' := [.int y]) (by
    show (match sm_ld lv 3 with
      | some (Value.int y) => some (pc + 1, lv, [Value.int y], sx_HH cl_lay cl_rf M)
      | y => none) = _
    rw [hl]) k
theorem rz_ilw {j d pc x : Nat} {lv : sm_V} {y : Int32} (hf : (sm_MT j).2.2.2.2.2 pc = some (.iload x, 2)) (hl : sm_ld lv x = some (.int y)) (k : rz_fin Q L xs j d (pc + 2) lv [.int y] M) : rz_fin Q L xs j d pc lv [] M :=
  rz_st hf rfl rfl rfl (pc' := pc + 2) (lv' := lv) (s' := [.int y]) (by
    show (match sm_ld lv x with
      | some (Value.int y) => some (pc + 2, lv, [Value.int y], sx_HH cl_lay cl_rf M)
      | y => none) = _
    rw [hl]) k
def hr_v (c : Nat) (q n k : Int) : sm_V := [(0, .ref (41 + 2 * c)), (1, .int (Int32.ofInt q)), (2, .int (Int32.ofInt n)), (3, .int (Int32.ofInt k))]
theorem hr_er : (41 + 2 * (c : Int)).toNat = 41 + 2 * c := by omega
theorem hr_ref : sx_cv1 ρ (2, 0, 41 + 2 * (c : Int)) = .ref (41 + 2 * c) := by
  rw [sx_cvk2 (v := (2, 0, 41 + 2 * (c : Int))) rfl]
  show Value.ref (41 + 2 * (c : Int)).toNat = _
  rw [hr_er]
theorem hr_loop (hL : L < 2 ^ 31) (hc6 : c < 6) (hq : 0 ≤ q ∧ q ≤ 4) (hn : 0 ≤ n ∧ n ≤ 60) : ∀ (m k : Nat) (N : Nat → Nat → Int), n.toNat - k = m → (k : Int) ≤ n → sx_mok cl_ly N → rz_fin (fun r M' => r = none ∧ sx_mok cl_ly M' ∧ (∀ a, a < 128 → a ≠ 42 + 2 * c → M' a = N a) ∧ ∀ j : Nat, M' (42 + 2 * c) j = if k ≤ j ∧ (j : Int) < n then 0 else N (42 + 2 * c) j) L xs 141 1 17 (hr_v c q n k) [] N := by
  have q32 : sx_w sx_r32 q := og_w32 (by omega) (by omega)
  have n32 : sx_w sx_r32 n := og_w32 (by omega) (by omega)
  have step : ∀ (k : Nat) (N : Nat → Nat → Int), (k : Int) ≤ n → sx_mok cl_ly N → (∀ N', (k : Int) < n → sx_mok cl_ly N' → rz_fin (fun r M' => r = none ∧ sx_mok cl_ly M' ∧ (∀ a, a < 128 → a ≠ 42 + 2 * c → M' a = N' a) ∧ ∀ j : Nat, M' (42 + 2 * c) j = if k + 1 ≤ j ∧ (j : Int) < n then 0 else N' (42 + 2 * c) j) L xs 141 1 17 (hr_v c q n ((k + 1 : Nat) : Int)) [] N') → rz_fin (fun r M' => r = none ∧ sx_mok cl_ly M' ∧ (∀ a, a < 128 → a ≠ 42 + 2 * c → M' a = N a) ∧ ∀ j : Nat, M' (42 + 2 * c) j = if k ≤ j ∧ (j : Int) < n then 0 else N (42 + 2 * c) j) L xs 141 1 17 (hr_v c q n k) [] N := by
    intro k N hk hm next
    have k32 : sx_w sx_r32 (k : Int) := og_w32 (by omega) (by omega)
    refine rz_iln rfl rfl ?_
    obtain ⟨ρ, st, e1, e2, -⟩ := og_sat (xs := xs) (gs := [(0, (0, 4)), (0, (0, 60)), (0, (0, 60))]) (zs := [q, n, k]) (fs := []) hL hm ⟨og_z rfl hq.1 hq.2 q32, og_z rfl hn.1 hn.2 n32, og_z rfl (by show (0 : Int) ≤ k; omega) (by show (k : Int) ≤ 60; omega) k32, trivial⟩ (fun g hg => by cases hg)
    have r9 : ρ 9 = q := e2 0 _ rfl
    have r10 : ρ 10 = n := e2 1 _ rfl
    have r11 : ρ 11 = (k : Int) := e2 2 _ rfl
    have n12 : or_t2.1 = 12 := e1
    refine og_use (Ts := or_T2 c) (lv := ol_3 (41 + 2 * (c : Int))) (s := [(0, 11, 0)]) (List.all_eq_true.mp or_c2 c (List.mem_range.mpr hc6)) rfl st (fun q hq => ?_) (fun v hv => ?_) (Nat.le_refl _) ?_ (by
      show [sx_cv1 ρ (0, 11, 0)] = _
      rw [og_int r11]) (fun T hT ρ' M' x h0 hm' hc hM => ?_)
    · simp only [ol_3, List.mem_cons, List.not_mem_nil, or_false] at hq
      rcases hq with rfl | rfl | rfl | rfl
      · exact sx_ck2 st _
      · exact tk_ok0 (by show 9 < or_t2.1; rw [n12]; decide) (by rw [r9]; exact q32)
      · exact tk_ok0 (by show 10 < or_t2.1; rw [n12]; decide) (by rw [r10]; exact n32)
      · exact tk_ok0 (by show 11 < or_t2.1; rw [n12]; decide) (by rw [r11]; exact k32)
    · rw [List.mem_singleton.mp hv]
      exact tk_ok0 (by show 11 < or_t2.1; rw [n12]; decide) (by rw [r11]; exact k32)
    · show [(0, sx_cv1 ρ (2, 0, 41 + 2 * (c : Int))), (1, sx_cv1 ρ (0, 9, 0)), (2, sx_cv1 ρ (0, 10, 0)), (3, sx_cv1 ρ (0, 11, 0))] = _
      rw [hr_ref, og_int r9, og_int r10, og_int r11]
      rfl
    · have x : sx_ext 12 ρ ρ' := by rw [← n12]; exact x
      have q9 := og_v x (show 9 < 12 by decide) r9
      have q10 := og_v x (show 10 < 12 by decide) r10
      have q11 := og_v x (show 11 < 12 by decide) r11
      simp only [or_T2, List.mem_cons, List.not_mem_nil, or_false] at hT
      rcases hT with rfl | rfl
      · obtain ⟨c1, -⟩ := hc
        have c1 : ρ' 11 < ρ' 10 + 0 := c1
        rw [q10, q11] at c1
        have hM : ∀ a, a < 128 → M' a = sx_up N (42 + 2 * c) (sx_val ρ' (11, 0)).toNat (sx_val ρ' (0, 0)) a := hM
        rw [og_v0 q11, og_c h0 0, Int.toNat_natCast] at hM
        show rz_fin _ L xs 141 1 17 [(0, sx_cv1 ρ' (2, 0, 41 + 2 * (c : Int))), (1, sx_cv1 ρ' (0, 9, 0)), (2, sx_cv1 ρ' (0, 10, 0)), (3, sx_cv1 ρ' (0, 11, 1))] [] M'
        rw [hr_ref, og_int q9, og_int q10, sx_cvk0 (v := (0, 11, 1)) rfl, og_vv q11]
        obtain ⟨F, r, M2, f1, f2, f3, f4, f5⟩ := next M' (by omega) hm'
        refine ⟨F, r, M2, f1, f2, f3, fun a ha ne => by rw [f4 a ha ne, hM a ha, sh_une ne], fun j => ?_⟩
        rw [f5 j, hM _ (by omega)]
        by_cases e : j = k
        · subst e
          rw [sh_uat, if_neg (by omega), if_pos ⟨Nat.le_refl _, by omega⟩]
        · rw [sh_unj e]
          by_cases h : k + 1 ≤ j ∧ (j : Int) < n
          · rw [if_pos h, if_pos ⟨by omega, h.2⟩]
          · rw [if_neg h, if_neg (by omega)]
      · obtain ⟨c1, -⟩ := hc
        have c1 : ¬ ρ' 11 < ρ' 10 + 0 := c1
        rw [q10, q11] at c1
        have hM : ∀ a, a < 128 → M' a = N a := hM
        refine ⟨rfl, hm', fun a ha _ => hM a ha, fun j => ?_⟩
        rw [hM _ (by omega), if_neg (by omega)]
  intro m
  induction m with
  | zero =>
    intro k N h1 hk hm
    exact step k N hk hm (fun N' h => by omega)
  | succ m ih =>
    intro k N h1 hk hm
    exact step k N hk hm (fun N' h hm' => ih (k + 1) N' (by omega) (by omega) hm')
/-- holdRow -/
def hr_R (c : Nat) (q n : Int) (M M' : Nat → Nat → Int) : Prop := sx_mok cl_ly M' ∧ (∀ a, a < 128 → a ≠ 42 + 2 * c → M' a = sh_w M (41 + 2 * c) n q (-1) a) ∧ ∀ j : Nat, (j : Int) < n → M' (42 + 2 * c) j = 0
def hr_a (c : Nat) (q n : Int) : sm_V := [(0, .ref (41 + 2 * c)), (1, .int (Int32.ofInt q)), (2, .int (Int32.ofInt n))]
theorem hr_all (hL : L < 2 ^ 31) (hm : sx_mok cl_ly M) (hc6 : c < 6) (hq : 0 ≤ q ∧ q ≤ 4) (hn : 0 ≤ n ∧ n ≤ 60) : rz_fin (fun r M' => r = none ∧ hr_R c q n M M') L xs 141 1 0 (hr_a c q n) [] M := by
  have q32 : sx_w sx_r32 q := og_w32 (by omega) (by omega)
  have n32 : sx_w sx_r32 n := og_w32 (by omega) (by omega)
  obtain ⟨ρ, st, e1, e2, -⟩ := og_sat (xs := xs) (gs := [(0, (0, 4)), (0, (0, 60))]) (zs := [q, n]) (fs := []) hL hm ⟨og_z rfl hq.1 hq.2 q32, og_z rfl hn.1 hn.2 n32, trivial⟩ (fun g hg => by cases hg)
  have r9 : ρ 9 = q := e2 0 _ rfl
  have r10 : ρ 10 = n := e2 1 _ rfl
  have n11 : or_t1.1 = 11 := e1
  refine og_use (Ts := [or_T1 c]) (lv := ol_2 (41 + 2 * (c : Int))) (s := []) (List.all_eq_true.mp or_c1 c (List.mem_range.mpr hc6)) rfl st (fun q hq => ?_) (fun v hv => by cases hv) (Nat.le_refl _) ?_ rfl (fun T hT ρ' M' x h0 hm' hc hM => ?_)
  · simp only [ol_2, List.mem_cons, List.not_mem_nil, or_false] at hq
    rcases hq with rfl | rfl | rfl
    · exact sx_ck2 st _
    · exact tk_ok0 (by show 9 < or_t1.1; rw [n11]; decide) (by rw [r9]; exact q32)
    · exact tk_ok0 (by show 10 < or_t1.1; rw [n11]; decide) (by rw [r10]; exact n32)
  · show [(0, sx_cv1 ρ (2, 0, 41 + 2 * (c : Int))), (1, sx_cv1 ρ (0, 9, 0)), (2, sx_cv1 ρ (0, 10, 0))] = _
    rw [hr_ref, og_int r9, og_int r10]
    rfl
  · have x : sx_ext 11 ρ ρ' := by rw [← n11]; exact x
    have q9 := og_v x (show 9 < 11 by decide) r9
    have q10 := og_v x (show 10 < 11 by decide) r10
    rw [List.mem_singleton.mp hT] at hM ⊢
    have hM : ∀ a, a < 128 → M' a = sx_up (sx_up (sx_up M (41 + 2 * c) (sx_val ρ' (0, 3)).toNat (sx_val ρ' (0, -1))) (41 + 2 * c) (sx_val ρ' (0, 2)).toNat (sx_val ρ' (9, 0))) (41 + 2 * c) (sx_val ρ' (0, 1)).toNat (sx_val ρ' (10, 0)) a := hM
    rw [og_c h0 3, og_c h0 (-1), og_c h0 2, og_c h0 1, og_v0 q9, og_v0 q10] at hM
    show rz_fin _ L xs 141 1 17 [(0, sx_cv1 ρ' (2, 0, 41 + 2 * (c : Int))), (1, sx_cv1 ρ' (0, 9, 0)), (2, sx_cv1 ρ' (0, 10, 0)), (3, sx_cv1 ρ' (0, 0, 0))] [] M'
    rw [hr_ref, og_int q9, og_int q10, tk_cv h0 0]
    obtain ⟨F, r, M2, f1, f2, f3, f4, f5⟩ := hr_loop (xs := xs) hL hc6 hq hn n.toNat 0 M' (by omega) (by omega) hm'
    refine ⟨F, r, M2, f1, f2, f3, fun a ha ne => by rw [f4 a ha ne, hM a ha]; rfl, fun j hj => ?_⟩
    rw [f5 j, if_pos ⟨Nat.zero_le _, hj⟩]
-- row of the class
def rw_b (s q n : Int) : Prop := s < 0 ∨ 5 < s ∨ q < 0 ∨ 4 < q ∨ 60 < n
def rw_X (s q n : Int) (M : Nat → Nat → Int) (z : Int) (M' : Nat → Nat → Int) : Prop := (z = -1 ∧ rw_b s q n ∧ ∀ a, a < 128 → M' a = M a) ∨ (z = -14 ∧ ¬ rw_b s q n ∧ n < 0 ∧ ∀ a, a < 128 → M' a = M a) ∨ (z = 1 ∧ ¬ rw_b s q n ∧ 0 ≤ n ∧ hr_R s.toNat q n M M')
def sh_a4 (a : Nat) (s q n : Int) : sm_V := [(0, .ref a), (1, .int (Int32.ofInt s)), (2, .int (Int32.ofInt q)), (3, .int (Int32.ofInt n))]
theorem sh_l4 {m a : Nat} {c : Int} (hc : ∀ c, sx_ok ρ m (2, 0, c)) (h : 11 < m) (ea : c.toNat = a) (r9 : ρ 9 = s) (r10 : ρ 10 = q) (r11 : ρ 11 = n) (hs : sx_w sx_r32 s) (hq : sx_w sx_r32 q) (hn : sx_w sx_r32 n) : sx_okl ρ m (ol_3 c) ∧ sx_cl1 ρ (ol_3 c) = sh_a4 a s q n := by
  refine ⟨fun q hq => ?_, ?_⟩
  · simp only [ol_3, List.mem_cons, List.not_mem_nil, or_false] at hq
    rcases hq with rfl | rfl | rfl | rfl
    · exact hc _
    · exact tk_ok0 (by omega) (by rw [r9]; exact hs)
    · exact tk_ok0 (by omega) (by rw [r10]; assumption)
    · exact tk_ok0 h (by rw [r11]; exact hn)
  · show [(0, sx_cv1 ρ (2, 0, c)), (1, sx_cv1 ρ (0, 9, 0)), (2, sx_cv1 ρ (0, 10, 0)), (3, sx_cv1 ρ (0, 11, 0))] = _
    rw [og_int r9, og_int r10, og_int r11]
    show [(0, Value.ref c.toNat), _, _, _] = _
    rw [ea]
    rfl
theorem rx_call : ∀ {c : Nat}, c < 6 → sx_call cl_ly (sm_LK (sm_MT 140).1) (fun k => (sm_MT k).2.2.2.1) (.invokevirtual 367) [(0, 11, 0), (0, 10, 0), (2, 0, 41 + 2 * (c : Int))] = some (141, [(2, 0, 41 + 2 * (c : Int)), (0, 10, 0), (0, 11, 0)], [])
  | 0, _ => rfl
  | 1, _ => rfl
  | 2, _ => rfl
  | 3, _ => rfl
  | 4, _ => rfl
  | 5, _ => rfl
  | _ + 6, h => absurd h (by omega)
theorem rx_f39 : (sm_MT 140).2.2.2.2.2 39 = some (.invokevirtual 367, 3) := rfl
theorem rx_one (hL : L < 2 ^ 31) (hm : sx_mok cl_ly M) {lv : sm_V} (hlv : lo_nd lv) (k : ∀ M', sx_mok cl_ly M' → (∀ a, a < 128 → M' a = M a) → Q (some (.int (Int32.ofInt 1))) M') : rz_fin Q L xs 140 1 42 [] [] M := by
  obtain ⟨ρ, st, -, -, -⟩ := og_sat (xs := xs) (gs := []) (zs := []) (fs := []) hL hm trivial (fun g hg => by cases hg)
  refine og_use (Ts := [og_r 1 []]) (lv := []) (s := []) or_c4 rfl st (fun q hq => by cases hq) (fun v hv => by cases hv) (Nat.le_refl _) rfl rfl (fun T hT ρ' M' x h0 hm' hc hM => ?_)
  rw [List.mem_singleton.mp hT] at hM ⊢
  show Q (some (sx_cv1 ρ' (0, 0, 1))) M'
  rw [tk_cv h0 1]
  exact k M' hm' hM
theorem or_bad {T : og_T} (hT : T ∈ or_n) (v9 : sx_val ρ' (9, 0) = s) (v10 : sx_val ρ' (10, 0) = q) (v11 : sx_val ρ' (11, 0) = n) (h0 : ρ' 0 = 0) (hc : og_cs ρ' M' T.2.2.2.2.2) (hM : ∀ a, a < 128 → M' a = og_up ρ' T.2.2.2.2.1 M a) : ∃ z, T.1 = none ∧ T.2.1.map (sx_cv1 ρ') = some (.int (Int32.ofInt z)) ∧ ((z = -1 ∧ rw_b s q n) ∨ (z = -14 ∧ ¬ rw_b s q n ∧ n < 0)) ∧ ∀ a, a < 128 → M' a = M a := by
  unfold rw_b
  simp only [or_n, List.mem_cons, List.not_mem_nil, or_false] at hT
  rcases hT with rfl | rfl | rfl | rfl | rfl | rfl
  · obtain ⟨⟨c1, c2⟩, -⟩ := hc
    have c2 : sx_val ρ' (9, 0) ≤ -1 := c2
    exact ⟨-1, rfl, congrArg some (tk_cv h0 (-1)), Or.inl ⟨rfl, by omega⟩, hM⟩
  · obtain ⟨⟨c1, c2⟩, -⟩ := hc
    have c1 : 6 ≤ sx_val ρ' (9, 0) := c1
    exact ⟨-1, rfl, congrArg some (tk_cv h0 (-1)), Or.inl ⟨rfl, by omega⟩, hM⟩
  · obtain ⟨-, ⟨c1, c2⟩, -⟩ := hc
    have c2 : sx_val ρ' (10, 0) ≤ -1 := c2
    exact ⟨-1, rfl, congrArg some (tk_cv h0 (-1)), Or.inl ⟨rfl, by omega⟩, hM⟩
  · obtain ⟨-, ⟨c1, c2⟩, -⟩ := hc
    have c1 : 5 ≤ sx_val ρ' (10, 0) := c1
    exact ⟨-1, rfl, congrArg some (tk_cv h0 (-1)), Or.inl ⟨rfl, by omega⟩, hM⟩
  · obtain ⟨-, -, ⟨c1, c2⟩, -⟩ := hc
    have c1 : 61 ≤ sx_val ρ' (11, 0) := c1
    exact ⟨-1, rfl, congrArg some (tk_cv h0 (-1)), Or.inl ⟨rfl, by omega⟩, hM⟩
  · obtain ⟨⟨a1, a2⟩, ⟨b1, b2⟩, ⟨c1, c2⟩, -⟩ := hc
    have a1 : 0 ≤ sx_val ρ' (9, 0) := a1
    have a2 : sx_val ρ' (9, 0) ≤ 5 := a2
    have b1 : 0 ≤ sx_val ρ' (10, 0) := b1
    have b2 : sx_val ρ' (10, 0) ≤ 4 := b2
    have c2 : sx_val ρ' (11, 0) ≤ -1 := c2
    exact ⟨-14, rfl, congrArg some (tk_cv h0 (-14)), Or.inr ⟨rfl, by omega, by omega⟩, hM⟩
theorem rw_xx (hL : L < 2 ^ 31) (hm : sx_mok cl_ly M) (hs : sx_w sx_r32 s) (hq : sx_w sx_r32 q) (hn : sx_w sx_r32 n) : rz_fin (sh_Q (rw_X s q n M)) L xs 140 4 0 (sh_a4 8 s q n) [] M := by
  obtain ⟨ρ, st, e1, e2, -⟩ := og_sat (xs := xs) (gs := og_g3) (zs := [s, q, n]) (fs := []) hL hm ⟨og_z rfl hs.1 hs.2 hs, og_z rfl hq.1 hq.2 hq, og_z rfl hn.1 hn.2 hn, trivial⟩ (fun g hg => by cases hg)
  have n12 : or_tx.1 = 12 := e1
  have r9 : ρ 9 = s := e2 0 _ rfl
  have r10 : ρ 10 = q := e2 1 _ rfl
  have r11 : ρ 11 = n := e2 2 _ rfl
  obtain ⟨okl, el⟩ := sh_l4 (m := or_tx.1) (a := 8) (c := 8) (fun c => sx_ck2 st c) (by rw [n12]; decide) rfl r9 r10 r11 hs hq hn
  refine og_use (Ts := or_Tx) (lv := ol_3 8) (s := []) or_cx (by decide +kernel) st okl (fun v hv => by cases hv) (Nat.le_refl _) el rfl (fun T hT ρ' M' x h0 hm' hc hM => ?_)
  rw [n12] at x
  have q10 := og_v x (show 10 < 12 by decide) r10
  have q11 := og_v x (show 11 < 12 by decide) r11
  have v9 : sx_val ρ' (9, 0) = s := og_v0 (og_v x (show 9 < 12 by decide) r9)
  have v10 : sx_val ρ' (10, 0) = q := og_v0 q10
  have v11 : sx_val ρ' (11, 0) = n := og_v0 q11
  rcases List.mem_append.mp hT with hT | hT
  · obtain ⟨z, t1, t2, t3, t4⟩ := or_bad hT v9 v10 v11 h0 hc hM
    unfold og_K
    rw [t1]
    show sh_Q (rw_X s q n M) (T.2.1.map (sx_cv1 ρ')) M'
    rw [t2]
    rcases t3 with ⟨e, h⟩ | ⟨e, h, h'⟩
    · exact ⟨z, rfl, hm', Or.inl ⟨e, h, t4⟩⟩
    · exact ⟨z, rfl, hm', Or.inr (Or.inl ⟨e, h, h', t4⟩)⟩
  · obtain ⟨c, hc6, rfl⟩ := List.mem_map.mp hT
    have hc6 := List.mem_range.mp hc6
    obtain ⟨⟨a1, a2⟩, ⟨b1, b2⟩, ⟨c1, c2⟩, -⟩ := hc
    have a1 : (c : Int) ≤ sx_val ρ' (9, 0) := a1
    have a2 : sx_val ρ' (9, 0) ≤ (c : Int) := a2
    have b1 : 0 ≤ sx_val ρ' (10, 0) := b1
    have b2 : sx_val ρ' (10, 0) ≤ 4 := b2
    have c1 : 0 ≤ sx_val ρ' (11, 0) := c1
    have c2 : sx_val ρ' (11, 0) ≤ 60 := c2
    rw [v9] at a1 a2
    rw [v10] at b1 b2
    rw [v11] at c1 c2
    have hM : ∀ a, a < 128 → M' a = M a := hM
    show rz_fin _ L xs 140 4 39 [] (sx_cs1 ρ' [(0, 11, 0), (0, 10, 0), (2, 0, 41 + 2 * (c : Int))]) M'
    refine og_call (d := 1) (d' := 3) (k := 141) (ρ := ρ') (m := 12) (s := [(0, 11, 0), (0, 10, 0), (2, 0, 41 + 2 * (c : Int))]) (as := [(2, 0, 41 + 2 * (c : Int)), (0, 10, 0), (0, 11, 0)]) rx_f39 (rx_call hc6) (fun w hw => ?_) rfl rfl rfl (by decide) ?_ (hr_all hL hm' hc6 ⟨b1, b2⟩ ⟨c1, c2⟩) (fun r M2 hR => ?_)
    · simp only [List.mem_cons, List.not_mem_nil, or_false] at hw
      rcases hw with rfl | rfl | rfl
      · exact tk_ok0 (by decide) (by rw [q11]; exact hn)
      · exact tk_ok0 (by decide) (by rw [q10]; exact hq)
      · exact ⟨by show 0 < 12; decide, (fun h => by cases h), fun h => by cases h⟩
    · show [(0, sx_cv1 ρ' (2, 0, 41 + 2 * (c : Int))), (1, sx_cv1 ρ' (0, 10, 0)), (2, sx_cv1 ρ' (0, 11, 0))] = _
      rw [hr_ref, og_int q10, og_int q11]
      rfl
    · obtain ⟨rfl, hm2, p1, p2⟩ := hR
      refine rz_d (show 1 ≤ 4 by decide) (rx_one (lv := []) hL hm2 (by simp [lo_nd]) (fun M3 hm3 e => ⟨1, rfl, hm3, Or.inr (Or.inr ⟨rfl, by unfold rw_b; omega, c1, hm3, fun a ha ne => ?_, fun j hj => ?_⟩)⟩))
      · rw [show s.toNat = c by omega] at ne ⊢
        rw [e a ha, p1 a ha ne]
        by_cases h : a = 41 + 2 * c
        · subst h
          funext i
          unfold sh_w sx_up
          rw [if_pos rfl, if_pos rfl, if_pos rfl, if_pos rfl, if_pos rfl, if_pos rfl, hM _ (by omega)]
        · rw [sh_wne h, sh_wne h, hM a ha]
      · rw [show s.toNat = c by omega, e _ (by omega), p2 j hj]
end
