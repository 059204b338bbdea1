/-! Shelves: row of the reference; both sides. -/
section
variable {WF : (Nat → Nat → Int) → Prop} {L : Nat} {xs : Nat → Int32} {M M' M0 M1 M2 N : Nat → Nat → Int} {ρ ρ' : Nat → Int} {t : sx_S} {s q n : Int} {c : Nat} {cps : List la_P}
def mr_v (c : Nat) (k : Nat) : sm_V := [(0, .ref 53), (1, .int (Int32.ofInt (c : Int))), (4, .int (Int32.ofInt (k : Int)))]
def mr_R (c k : Nat) (N : Nat → Nat → Int) (z : Int) (M' : Nat → Nat → Int) : Prop := z = 1 ∧ (∀ a, a < 128 → a ≠ 89 → M' a = N a) ∧ ∀ j, M' 89 j = if k ≤ j ∧ j < 60 * c + 60 then 0 else N 89 j
theorem mr_loop (hL : L < 2 ^ 31) (hc6 : c < 6) : ∀ (m k : Nat) (N : Nat → Nat → Int), 60 * c + 60 - k = m → k ≤ 60 * c + 60 → sx_mok cl_ly N → rz_fin (sh_Q (mr_R c k N)) L xs 264 4 54 (mr_v c k) [] N := by
  have c32 : sx_w sx_r32 (c : Int) := og_w32 (by omega) (by omega)
  have step : ∀ (k : Nat) (N : Nat → Nat → Int), k ≤ 60 * c + 60 → sx_mok cl_ly N → (∀ N', k < 60 * c + 60 → sx_mok cl_ly N' → rz_fin (sh_Q (mr_R c (k + 1) N')) L xs 264 4 54 (mr_v c (k + 1)) [] N') → rz_fin (sh_Q (mr_R c k N)) L xs 264 4 54 (mr_v c k) [] N := by
    intro k N hk hm next
    have k32 : sx_w sx_r32 (k : Int) := og_w32 (by omega) (by omega)
    refine rz_ilw (x := 4) rfl rfl ?_
    obtain ⟨ρ, st, e1, e2, -⟩ := og_sat (xs := xs) (gs := [(0, ((c : Int), (c : Int))), (0, (0, 360))]) (zs := [(c : Int), k]) (fs := []) hL hm ⟨sh_sym rfl c32, og_z rfl (by show (0 : Int) ≤ k; omega) (by show (k : Int) ≤ 360; omega) k32, trivial⟩ (fun g hg => by cases hg)
    have r9 : ρ 9 = (c : Int) := e2 0 _ rfl
    have r10 : ρ 10 = (k : Int) := e2 1 _ rfl
    have n11 : (or_t3 c).1 = 11 := e1
    refine og_use (Ts := or_T3 c) (lv := or_l3) (s := [(0, 10, 0)]) (List.all_eq_true.mp or_c3 c (List.mem_range.mpr hc6)) rfl st (fun q hq => ?_) (fun v hv => ?_) (Nat.le_refl _) ?_ (by
      show [sx_cv1 ρ (0, 10, 0)] = _
      rw [og_int r10]) (fun T hT ρ' M' x h0 hm' hc hM => ?_)
    · simp only [or_l3, List.mem_cons, List.not_mem_nil, or_false] at hq
      rcases hq with rfl | rfl | rfl
      · exact sx_ck2 st _
      · exact tk_ok0 (by show 9 < (or_t3 c).1; rw [n11]; decide) (by rw [r9]; exact c32)
      · exact tk_ok0 (by show 10 < (or_t3 c).1; rw [n11]; decide) (by rw [r10]; exact k32)
    · rw [List.mem_singleton.mp hv]
      exact tk_ok0 (by show 10 < (or_t3 c).1; rw [n11]; decide) (by rw [r10]; exact k32)
    · show [(0, Value.ref 53), (1, sx_cv1 ρ (0, 9, 0)), (4, sx_cv1 ρ (0, 10, 0))] = _
      rw [og_int r9, og_int r10]
      rfl
    · have x : sx_ext 11 ρ ρ' := by rw [← n11]; exact x
      have q9 := og_v x (show 9 < 11 by decide) r9
      have q10 := og_v x (show 10 < 11 by decide) r10
      have v10 : sx_val ρ' (10, 0) = (k : Int) := og_v0 q10
      simp only [or_T3, List.mem_cons, List.not_mem_nil, or_false] at hT
      rcases hT with rfl | rfl
      · obtain ⟨⟨c1, c2⟩, -⟩ := hc
        have c2 : sx_val ρ' (10, 0) ≤ 60 * (c : Int) + 59 := c2
        rw [v10] at c2
        have hM : ∀ a, a < 128 → M' a = sx_up N 89 (sx_val ρ' (10, 0)).toNat (sx_val ρ' (0, 0)) a := hM
        rw [v10, og_c h0 0, Int.toNat_natCast] at hM
        show rz_fin _ L xs 264 4 54 [(0, Value.ref 53), (1, sx_cv1 ρ' (0, 9, 0)), (4, sx_cv1 ρ' (0, 10, 1))] [] M'
        rw [og_int q9, sx_cvk0 (v := (0, 10, 1)) rfl, og_vv q10]
        obtain ⟨F, r, M2, f1, z, f2, f3, f4, f5, f6⟩ := next M' (by omega) hm'
        refine ⟨F, r, M2, f1, z, f2, f3, f4, fun a ha ne => by rw [f5 a ha ne, hM a ha, sh_une ne], fun j => ?_⟩
        rw [f6 j, hM 89 (by decide)]
        by_cases e : j = k
        · subst e
          rw [sh_uat, if_neg (by omega), if_pos ⟨Nat.le_refl _, by omega⟩]
        · rw [sh_unj e]
          by_cases h : k + 1 ≤ j ∧ j < 60 * c + 60
          · rw [if_pos h, if_pos ⟨by omega, h.2⟩]
          · rw [if_neg h, if_neg (by omega)]
      · obtain ⟨⟨c1, c2⟩, -⟩ := hc
        have c1 : 60 * (c : Int) + 60 ≤ sx_val ρ' (10, 0) := c1
        rw [v10] at c1
        have hM : ∀ a, a < 128 → M' a = N a := hM
        refine ⟨1, congrArg some (tk_cv h0 1), hm', rfl, fun a ha _ => hM a ha, fun j => ?_⟩
        rw [hM 89 (by decide), if_neg (by omega)]
  intro m
  induction m with
  | zero =>
    intro k N h1 hk hm
    exact step k N hk hm (fun N' h => by omega)
  | succ m ih =>
    intro k N h1 hk hm
    exact step k N hk hm (fun N' h hm' => ih (k + 1) N' (by omega) (by omega) hm')
def rw_M (s q n : Int) (M : Nat → Nat → Int) (z : Int) (M' : Nat → Nat → Int) : Prop := (z = -1 ∧ rw_b s q n ∧ ∀ a, a < 128 → M' a = M a) ∨ (z = -14 ∧ ¬ rw_b s q n ∧ n < 0 ∧ ∀ a, a < 128 → M' a = M a) ∨ (z = 1 ∧ ¬ rw_b s q n ∧ 0 ≤ n ∧ (∀ a, a < 128 → a ≠ 89 → M' a = sx_up (sx_up M 87 s.toNat (-2 - q)) 88 s.toNat n a) ∧ ∀ j, M' 89 j = if 60 * s.toNat ≤ j ∧ j < 60 * s.toNat + 60 then 0 else M 89 j)
theorem rw_mm (hL : L < 2 ^ 31) (hm : sx_mok cl_ly M) (hs : sx_w sx_r32 s) (hq : sx_w sx_r32 q) (hn : sx_w sx_r32 n) : rz_fin (sh_Q (rw_M s q n M)) L xs 264 4 0 (sh_a4 53 s q n) [] M := by
  obtain ⟨ρ, st, e1, e2, -⟩ := og_sat (xs := xs) (gs := og_g3) (zs := [s, q, n]) (fs := []) hL hm ⟨og_z rfl hs.1 hs.2 hs, og_z rfl hq.1 hq.2 hq, og_z rfl hn.1 hn.2 hn, trivial⟩ (fun g hg => by cases hg)
  have n12 : or_tx.1 = 12 := e1
  have r9 : ρ 9 = s := e2 0 _ rfl
  have r10 : ρ 10 = q := e2 1 _ rfl
  have r11 : ρ 11 = n := e2 2 _ rfl
  obtain ⟨okl, el⟩ := sh_l4 (m := or_tx.1) (a := 53) (c := 53) (fun c => sx_ck2 st c) (by rw [n12]; decide) rfl r9 r10 r11 hs hq hn
  refine og_use (Ts := or_Tm) (lv := ol_3 53) (s := []) or_cm (by decide +kernel) st okl (fun v hv => by cases hv) (Nat.le_refl _) el rfl (fun T hT ρ' M' x h0 hm' hc hM => ?_)
  rw [n12] at x
  have q9 := og_v x (show 9 < 12 by decide) r9
  have v9 : sx_val ρ' (9, 0) = s := og_v0 q9
  have v10 : sx_val ρ' (10, 0) = q := og_v0 (og_v x (show 10 < 12 by decide) r10)
  have v11 : sx_val ρ' (11, 0) = n := og_v0 (og_v x (show 11 < 12 by decide) r11)
  rcases List.mem_cons.mp hT with rfl | hT
  · obtain ⟨⟨a1, a2⟩, ⟨b1, b2⟩, ⟨c1, c2⟩, m1, m2, -⟩ := hc
    have a1 : 0 ≤ sx_val ρ' (9, 0) := a1
    have a2 : sx_val ρ' (9, 0) ≤ 5 := a2
    have b1 : 0 ≤ sx_val ρ' (10, 0) := b1
    have b2 : sx_val ρ' (10, 0) ≤ 4 := b2
    have c1 : 0 ≤ sx_val ρ' (11, 0) := c1
    have c2 : sx_val ρ' (11, 0) ≤ 60 := c2
    have m1 : ρ' 12 = sx_mf 1 (sx_val ρ' (0, -2)) (sx_val ρ' (10, 0)) := m1
    have m2 : ρ' 13 = sx_mf 2 (sx_val ρ' (0, 60)) (sx_val ρ' (9, 0)) := m2
    rw [v9] at a1 a2 m2
    rw [v10] at b1 b2 m1
    rw [v11] at c1 c2
    rw [og_c h0 (-2), og_sub (og_w32 (by omega) (by omega))] at m1
    rw [og_c h0 60, og_mul (og_w32 (by omega) (by omega))] at m2
    obtain ⟨c, rfl⟩ := Int.eq_ofNat_of_zero_le a1
    have hM : ∀ a, a < 128 → M' a = sx_up (sx_up M 87 (sx_val ρ' (9, 0)).toNat (sx_val ρ' (12, 0))) 88 (sx_val ρ' (9, 0)).toNat (sx_val ρ' (11, 0)) a := hM
    rw [v9, v11, og_v0 m1] at hM
    show rz_fin _ L xs 264 4 54 [(0, Value.ref 53), (1, sx_cv1 ρ' (0, 9, 0)), (4, sx_cv1 ρ' (0, 13, 0))] [] M'
    rw [og_int q9, og_int m2, show (60 : Int) * (c : Int) = ((60 * c : Nat) : Int) by omega]
    obtain ⟨F, r, M2, f1, z, f2, f3, rfl, f5, f6⟩ := mr_loop (xs := xs) (c := c) hL (by omega) 60 (60 * c) M' (by omega) (by omega) hm'
    refine ⟨F, r, M2, f1, 1, f2, f3, Or.inr (Or.inr ⟨rfl, by unfold rw_b; omega, c1, fun a ha ne => by rw [f5 a ha ne, hM a ha], fun j => ?_⟩)⟩
    rw [f6 j, hM 89 (by decide), sh_une (by decide), sh_une (by decide)]
    rfl
  · obtain ⟨z, t1, t2, t3, t4⟩ := or_bad hT v9 v10 v11 h0 hc hM
    unfold og_K
    rw [t1]
    show sh_Q (rw_M s q n M) (T.2.1.map (sx_cv1 ρ')) M'
    rw [t2]
    rcases t3 with ⟨e, h⟩ | ⟨e, h, h'⟩
    · exact ⟨z, rfl, hm', Or.inl ⟨e, h, t4⟩⟩
    · exact ⟨z, rfl, hm', Or.inr (Or.inl ⟨e, h, h', t4⟩)⟩
theorem ro_hp (hz : sh_G WF) (hc : sh_cp cps = true) (hL : L < 2 ^ 31) (hI : la_I WF cps M) (hS : sh_SS M) (hs : sx_w sx_r32 s) (hq : sx_w sx_r32 q) (hn : sx_w sx_r32 n) : sh_P WF L xs cps 140 264 [.ref 8, .int (Int32.ofInt s), .int (Int32.ofInt q), .int (Int32.ofInt n)] [.ref 53, .int (Int32.ofInt s), .int (Int32.ofInt q), .int (Int32.ofInt n)] (-14, 1) M := by
  obtain ⟨z, M1, a1, a2, a3⟩ := lb_of (k := 140) (vs := [.ref 8, .int (Int32.ofInt s), .int (Int32.ofInt q), .int (Int32.ofInt n)]) (show 4 ≤ 99 by decide) (rw_xx (xs := xs) hL hI.1 hs hq hn)
  obtain ⟨y, M2, b1, b2, b3⟩ := lb_of (k := 264) (vs := [.ref 53, .int (Int32.ofInt s), .int (Int32.ofInt q), .int (Int32.ofInt n)]) (show 4 ≤ 99 by decide) (rw_mm (xs := xs) hL a2 hs hq hn)
  have w : ∀ k : Int, -14 ≤ k → k ≤ 1 → sx_w (-14, 1) k ∧ sx_w sx_r32 k := fun k h1 h2 => ⟨⟨h1, h2⟩, og_w32 (by omega) (by omega)⟩
  rcases a3 with ⟨rfl, x1, x2⟩ | ⟨rfl, x1, x2, x3⟩ | ⟨rfl, x1, x2, x3, x4, x5⟩
  · rcases b3 with ⟨rfl, y1, y2⟩ | ⟨rfl, y1, y2, y3⟩ | ⟨rfl, y1, y2, y3, y4⟩
    · exact sh_P0 hz hc hI hS (w _ (by decide) (by decide)).1 (w _ (by decide) (by decide)).2 a1 a2 x2 b1 b2 y2
    all_goals exact absurd x1 y1
  · rcases b3 with ⟨rfl, y1, y2⟩ | ⟨rfl, y1, y2, y3⟩ | ⟨rfl, y1, y2, y3, y4⟩
    · exact absurd y1 x1
    · exact sh_P0 hz hc hI hS (w _ (by decide) (by decide)).1 (w _ (by decide) (by decide)).2 a1 a2 x3 b1 b2 y3
    · omega
  · rcases b3 with ⟨rfl, y1, y2⟩ | ⟨rfl, y1, y2, y3⟩ | ⟨rfl, y1, y2, y3, y4⟩
    · exact absurd y1 x1
    · omega
    · have hb : 0 ≤ s ∧ s ≤ 5 ∧ 0 ≤ q ∧ q ≤ 4 ∧ n ≤ 60 := by unfold rw_b at x1; omega
      obtain ⟨c, rfl⟩ := Int.eq_ofNat_of_zero_le hb.1
      rw [Int.toNat_natCast] at x4 x5 y3 y4
      have f1 : ∀ a, a < 128 → a ≠ 41 + 2 * c → a ≠ 42 + 2 * c → M1 a = M a := fun a ha ne ne2 => by rw [x4 a ha ne2, sh_wne ne]
      have f2 : ∀ a, a < 128 → a ≠ 87 → a ≠ 88 → a ≠ 89 → M2 a = M1 a := fun a ha h7 h8 h9 => by rw [y3 a ha h9, sh_une h8, sh_une h7]
      refine ⟨1, M1, M2, ⟨by decide, by decide⟩, Or.inl ⟨rfl, og_w32 (by decide) (by decide)⟩, a1, a2, b1, b2, sh_I hz hc hI ⟨b2, fun a ha x y => by rw [f2 a ha (by omega) (by omega) (by omega), f1 a ha (by omega) (by omega)]⟩, fun k hk => ?_⟩
      by_cases e : k = c
      · subst e
        have g87 : M2 87 k = -2 - q := by rw [y3 87 (by decide) (by decide), sh_une (by decide), sh_uat]
        have g88 : M2 88 k = n := by rw [y3 88 (by decide) (by decide), sh_uat]
        have go : ∀ j, M2 (41 + 2 * k) j = sh_w M (41 + 2 * k) n q (-1) (41 + 2 * k) j := fun j => by rw [f2 _ (by omega) (by omega) (by omega) (by omega), x4 _ (by omega) (by omega)]
        refine Or.inr (Or.inr ?_)
        rw [g87, g88, go 1, go 2, go 3, sh_w1, sh_w2, sh_w3]
        refine ⟨by omega, by omega, by omega, rfl, rfl, fun j hj => ?_⟩
        rw [f2 _ (by omega) (by omega) (by omega) (by omega), x5 j hj, y4, if_pos (by omega)]
      · have g : ∀ d, d = 87 ∨ d = 88 → M2 d k = M d k := fun d hd => by
          rw [y3 d (by omega) (by omega)]
          rcases hd with rfl | rfl
          · rw [sh_une (by decide), sh_unj e, f1 87 (by decide) (by omega) (by omega)]
          · rw [sh_unj e, sh_une (by decide), f1 88 (by decide) (by omega) (by omega)]
        refine sh_S_on (hS k hk) (g 87 (Or.inl rfl)) (g 88 (Or.inr rfl)) (fun j hj => ?_) ?_ ?_ (sh_88 hI.1 hk).2
        · rw [y4, if_neg (by omega), f1 89 (by decide) (by omega) (by omega)]
        · rw [f2 _ (by omega) (by omega) (by omega) (by omega), f1 _ (by omega) (by omega) (by omega)]
        · rw [f2 _ (by omega) (by omega) (by omega) (by omega), f1 _ (by omega) (by omega) (by omega)]
end
