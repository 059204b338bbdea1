/-! house: what it does on both sides; the pair. -/
section
variable {WF : (Nat → Nat → Int) → Prop} {L : Nat} {xs : Nat → Int32} {M M' M0 M1 M2 : Nat → Nat → Int} {ρ ρ' : Nat → Int} {t : sx_S} {s b z H : Int} {o a j k : Nat} {v : Int}
theorem sh_up : sx_up M o j v o k = if k = j then v else M o k := by
  unfold sx_up
  rw [if_pos rfl]
/-- house() refuses -/
def hs_no (s H z : Int) : Prop := (z = -1 ∧ (s < 0 ∨ 143 < s)) ∨ (z = -3 ∧ 0 ≤ s ∧ s ≤ 143 ∧ H = 6)
/-- the houses that stand, and one more -/
def hs_s (S H : Int) : Int := sx_mf 4 S (sx_mf 8 1 H)
def hs_V (s : Int) (w : Nat) : Int := if w = 0 then s else if w = 1 then 3 else if w = 2 then 5 else if w = 3 then 0 else 3
def hs_X (s : Int) (M : Nat → Nat → Int) (z : Int) (M' : Nat → Nat → Int) : Prop := (hs_no s (M 9 4) z ∧ ∀ a, a < 128 → M' a = M a) ∨ (0 ≤ s ∧ s ≤ 143 ∧ M 9 4 ≤ 5 ∧ z = M 9 4 ∧ (∀ a, a < 128 → a ≠ 9 → a ≠ 10 → M' a = M a) ∧ (M' 9 4 = M 9 4 + 1 ∧ (∀ j, j ≠ 4 → j ≠ 6 → M' 9 j = M 9 j) ∧ M' 9 6 = hs_s (M 9 6) (M 9 4)) ∧ ∀ j, M' 10 j = if j = (M 9 4).toNat + 120 then 3 else if j = (M 9 4).toNat + 90 then 0 else if j = (M 9 4).toNat + 60 then 5 else if j = (M 9 4).toNat + 30 then 3 else if j = (M 9 4).toNat then s else M 10 j)
def hs_M (s : Int) (M : Nat → Nat → Int) (z : Int) (M' : Nat → Nat → Int) : Prop := (hs_no s (M 53 1) z ∧ ∀ a, a < 128 → M' a = M a) ∨ (0 ≤ s ∧ s ≤ 143 ∧ M 53 1 ≤ 5 ∧ z = M 53 1 ∧ (∀ a, a < 128 → ¬ (53 ≤ a ∧ a ≤ 58) → M' a = M a) ∧ (M' 53 1 = M 53 1 + 1 ∧ (∀ j, j ≠ 1 → j ≠ 7 → M' 53 j = M 53 j) ∧ M' 53 7 = hs_s (M 53 7) (M 53 1)) ∧ ∀ w n : Nat, w ≤ 4 → M' (54 + w) n = if n = (M 53 1).toNat then hs_V s w else M (54 + w) n)
def hs_a (a : Nat) (s : Int) : sm_V := [(0, .ref a), (1, .int (Int32.ofInt s))]
theorem hs_l {m a : Nat} {c : Int} (hc : ∀ c, sx_ok ρ m (2, 0, c)) (h : 9 < m) (ea : c.toNat = a) (r9 : ρ 9 = s) (hs : sx_w sx_r32 s) : sx_okl ρ m (ol_1 c) ∧ sx_cl1 ρ (ol_1 c) = hs_a a s := by
  refine ⟨fun q hq => ?_, ?_⟩
  · simp only [ol_1, List.mem_cons, List.not_mem_nil, or_false] at hq
    rcases hq with rfl | rfl
    · exact hc _
    · exact tk_ok0 h (by rw [r9]; exact hs)
  · show [(0, sx_cv1 ρ (2, 0, c)), (1, sx_cv1 ρ (0, 9, 0))] = _
    rw [og_int r9]
    show [(0, Value.ref c.toNat), _] = _
    rw [ea]
    rfl
theorem hs_x (hL : L < 2 ^ 31) (hm : sx_mok cl_ly M) (hs : sx_w sx_r32 s) : rz_fin (sh_Q (hs_X s M)) L xs 11 4 0 (hs_a 8 s) [] M := by
  have h4 := cx_fld (c := 9) (k := 4) (lo := 0) (hi := 6) hm (by decide +kernel)
  have h6 := cx_fld (c := 9) (k := 6) (lo := -2147483648) (hi := 2147483647) hm (by decide +kernel)
  obtain ⟨ρ, st, e1, e2, e3⟩ := og_sat (xs := xs) (gs := og_g1) (zs := [s]) (fs := [(9, 4, (0, 6)), (9, 6, sx_r32)]) hL hm ⟨og_z rfl hs.1 hs.2 hs, trivial⟩ (fun g hg => by
    simp only [List.mem_cons, List.not_mem_nil, or_false] at hg
    rcases hg with rfl | rfl
    · exact og_f hm rfl (show cv_ly cl_ly (9, 4, sx_r32) = true by decide +kernel) h4
    · exact og_f hm rfl (show cv_ly cl_ly (9, 6, sx_r32) = true by decide +kernel) h6)
  have r9 : ρ 9 = s := e2 0 _ rfl
  have r10 : ρ 10 = M 9 4 := e3 0 _ rfl
  have r11 : ρ 11 = M 9 6 := e3 1 _ rfl
  obtain ⟨okl, el⟩ := hs_l (m := 12) (a := 8) (c := 8) (fun c => sx_ck2 st c) (by decide) rfl r9 hs
  refine og_use (Ts := oh_Tx) (lv := ol_1 8) (s := []) oh_cx (by decide +kernel) st okl (fun v hv => by cases hv) (Nat.le_refl _) el rfl (fun T hT ρ' M' x h0 hm' hc hM => ?_)
  have q9 := og_v x (show 9 < 12 by decide) r9
  have q10 := og_v x (show 10 < 12 by decide) r10
  have q11 := og_v x (show 11 < 12 by decide) r11
  have v9 : sx_val ρ' (9, 0) = s := og_v0 q9
  have v10 : sx_val ρ' (10, 0) = M 9 4 := og_v0 q10
  simp only [oh_Tx, oh_n, List.mem_cons, List.not_mem_nil, or_false] at hT
  rcases hT with rfl | rfl | rfl | rfl
  · obtain ⟨⟨c1, c2⟩, ⟨c3, c4⟩, d1, d2, -⟩ := hc
    have d1 : ρ' 12 = sx_mf 8 (sx_val ρ' (0, 1)) (sx_val ρ' (10, 0)) := d1
    have d2 : ρ' 13 = sx_mf 4 (sx_val ρ' (11, 0)) (sx_val ρ' (12, 0)) := d2
    rw [og_c h0 1, og_v0 q10] at d1
    rw [og_v0 q11, og_v0 d1] at d2
    have c1 : 0 ≤ sx_val ρ' (9, 0) := c1
    have c2 : sx_val ρ' (9, 0) ≤ 143 := c2
    have c4 : sx_val ρ' (10, 0) ≤ 5 := c4
    rw [v9] at c1 c2
    rw [v10] at c4
    have hM : ∀ a, a < 128 → M' a = sx_up (sx_up (sx_up (sx_up (sx_up (sx_up (sx_up M 10 (sx_val ρ' (10, 0)).toNat (sx_val ρ' (9, 0))) 10 (sx_val ρ' (10, 30)).toNat (sx_val ρ' (0, 3))) 10 (sx_val ρ' (10, 60)).toNat (sx_val ρ' (0, 5))) 10 (sx_val ρ' (10, 90)).toNat (sx_val ρ' (0, 0))) 10 (sx_val ρ' (10, 120)).toNat (sx_val ρ' (0, 3))) 9 (sx_val ρ' (0, 6)).toNat (sx_val ρ' (13, 0))) 9 (sx_val ρ' (0, 4)).toNat (sx_val ρ' (10, 1)) a := hM
    rw [v9, v10, og_vv (c := 30) q10, og_vv (c := 60) q10, og_vv (c := 90) q10, og_vv (c := 120) q10, og_vv (c := 1) q10, og_c h0 3, og_c h0 5, og_c h0 0, og_c h0 6, og_c h0 4, show (6 : Int).toNat = 6 from rfl, show (4 : Int).toNat = 4 from rfl, show (M 9 4 + 30).toNat = (M 9 4).toNat + 30 by omega, show (M 9 4 + 60).toNat = (M 9 4).toNat + 60 by omega, show (M 9 4 + 90).toNat = (M 9 4).toNat + 90 by omega, show (M 9 4 + 120).toNat = (M 9 4).toNat + 120 by omega] at hM
    refine ⟨M 9 4, congrArg some (og_int q10), hm', Or.inr ⟨c1, c2, c4, rfl, fun a ha g1 g2 => ?_, ⟨?_, fun j j4 j6 => ?_, ?_⟩, fun j => ?_⟩⟩
    · rw [hM a ha, sh_une g1, sh_une g1, sh_une g2, sh_une g2, sh_une g2, sh_une g2, sh_une g2]
    · rw [hM 9 (by decide), sh_uat]
    · have n0 : (9 : Nat) ≠ 10 := by decide
      rw [hM 9 (by decide), sh_unj j4, sh_unj j6, sh_une n0, sh_une n0, sh_une n0, sh_une n0, sh_une n0]
    · rw [hM 9 (by decide), sh_unj (k := 6) (j := 4) (by decide), sh_uat, og_v0 d2]
      rfl
    · have n0 : (10 : Nat) ≠ 9 := by decide
      rw [hM 10 (by decide), sh_une n0, sh_une n0, sh_up, sh_up, sh_up, sh_up, sh_up]
  · obtain ⟨⟨c1, c2⟩, -⟩ := hc
    have c2 : sx_val ρ' (9, 0) ≤ -1 := c2
    rw [v9] at c2
    exact ⟨-1, congrArg some (tk_cv h0 (-1)), hm', Or.inl ⟨Or.inl ⟨rfl, by omega⟩, hM⟩⟩
  · obtain ⟨⟨c1, c2⟩, -⟩ := hc
    have c1 : 144 ≤ sx_val ρ' (9, 0) := c1
    rw [v9] at c1
    exact ⟨-1, congrArg some (tk_cv h0 (-1)), hm', Or.inl ⟨Or.inl ⟨rfl, by omega⟩, hM⟩⟩
  · obtain ⟨⟨c1, c2⟩, ⟨c3, c4⟩, -⟩ := hc
    have c1 : 0 ≤ sx_val ρ' (9, 0) := c1
    have c2 : sx_val ρ' (9, 0) ≤ 143 := c2
    have c3 : 6 ≤ sx_val ρ' (10, 0) := c3
    rw [v9] at c1 c2
    rw [v10] at c3
    exact ⟨-3, congrArg some (tk_cv h0 (-3)), hm', Or.inl ⟨Or.inr ⟨rfl, c1, c2, by omega⟩, hM⟩⟩
theorem hs_m (hL : L < 2 ^ 31) (hm : sx_mok cl_ly M) (hs : sx_w sx_r32 s) : rz_fin (sh_Q (hs_M s M)) L xs 153 3 0 (hs_a 53 s) [] M := by
  have h4 := cx_fld (c := 53) (k := 1) (lo := 0) (hi := 6) hm (by decide +kernel)
  have h6 := cx_fld (c := 53) (k := 7) (lo := -2147483648) (hi := 2147483647) hm (by decide +kernel)
  obtain ⟨ρ, st, e1, e2, e3⟩ := og_sat (xs := xs) (gs := og_g1) (zs := [s]) (fs := [(53, 1, (0, 6)), (53, 7, sx_r32)]) hL hm ⟨og_z rfl hs.1 hs.2 hs, trivial⟩ (fun g hg => by
    simp only [List.mem_cons, List.not_mem_nil, or_false] at hg
    rcases hg with rfl | rfl
    · exact og_f hm rfl (show cv_ly cl_ly (53, 1, sx_r32) = true by decide +kernel) h4
    · exact og_f hm rfl (show cv_ly cl_ly (53, 7, sx_r32) = true by decide +kernel) h6)
  have r9 : ρ 9 = s := e2 0 _ rfl
  have r10 : ρ 10 = M 53 1 := e3 0 _ rfl
  have r11 : ρ 11 = M 53 7 := e3 1 _ rfl
  obtain ⟨okl, el⟩ := hs_l (m := 12) (a := 53) (c := 53) (fun c => sx_ck2 st c) (by decide) rfl r9 hs
  refine og_use (Ts := oh_Tm) (lv := ol_1 53) (s := []) oh_cm (by decide +kernel) st okl (fun v hv => by cases hv) (Nat.le_refl _) el rfl (fun T hT ρ' M' x h0 hm' hc hM => ?_)
  have q9 := og_v x (show 9 < 12 by decide) r9
  have q10 := og_v x (show 10 < 12 by decide) r10
  have q11 := og_v x (show 11 < 12 by decide) r11
  have v9 : sx_val ρ' (9, 0) = s := og_v0 q9
  have v10 : sx_val ρ' (10, 0) = M 53 1 := og_v0 q10
  simp only [oh_Tm, oh_n, List.mem_cons, List.not_mem_nil, or_false] at hT
  rcases hT with rfl | rfl | rfl | rfl
  · obtain ⟨⟨c1, c2⟩, ⟨c3, c4⟩, d1, d2, -⟩ := hc
    have d1 : ρ' 12 = sx_mf 8 (sx_val ρ' (0, 1)) (sx_val ρ' (10, 0)) := d1
    have d2 : ρ' 13 = sx_mf 4 (sx_val ρ' (11, 0)) (sx_val ρ' (12, 0)) := d2
    rw [og_c h0 1, og_v0 q10] at d1
    rw [og_v0 q11, og_v0 d1] at d2
    have c1 : 0 ≤ sx_val ρ' (9, 0) := c1
    have c2 : sx_val ρ' (9, 0) ≤ 143 := c2
    have c4 : sx_val ρ' (10, 0) ≤ 5 := c4
    rw [v9] at c1 c2
    rw [v10] at c4
    have hM : ∀ a, a < 128 → M' a = sx_up (sx_up (sx_up (sx_up (sx_up (sx_up (sx_up M 54 (sx_val ρ' (10, 0)).toNat (sx_val ρ' (9, 0))) 55 (sx_val ρ' (10, 0)).toNat (sx_val ρ' (0, 3))) 56 (sx_val ρ' (10, 0)).toNat (sx_val ρ' (0, 5))) 57 (sx_val ρ' (10, 0)).toNat (sx_val ρ' (0, 0))) 58 (sx_val ρ' (10, 0)).toNat (sx_val ρ' (0, 3))) 53 (sx_val ρ' (0, 7)).toNat (sx_val ρ' (13, 0))) 53 (sx_val ρ' (0, 1)).toNat (sx_val ρ' (10, 1)) a := hM
    rw [v9, v10, og_vv (c := 1) q10, og_c h0 3, og_c h0 5, og_c h0 0, og_c h0 7, og_c h0 1, show (7 : Int).toNat = 7 from rfl, show (1 : Int).toNat = 1 from rfl] at hM
    refine ⟨M 53 1, congrArg some (og_int q10), hm', Or.inr ⟨c1, c2, c4, rfl, fun a ha g => ?_, ⟨?_, fun j j1 j7 => ?_, ?_⟩, fun w n hw => ?_⟩⟩
    · have g0 : a ≠ 53 := by omega
      have g1 : a ≠ 54 := by omega
      have g2 : a ≠ 55 := by omega
      have g3 : a ≠ 56 := by omega
      have g4 : a ≠ 57 := by omega
      have g5 : a ≠ 58 := by omega
      rw [hM a ha, sh_une g0, sh_une g0, sh_une g5, sh_une g4, sh_une g3, sh_une g2, sh_une g1]
    · rw [hM 53 (by decide), sh_uat]
    · have g1 : (53 : Nat) ≠ 54 := by decide
      have g2 : (53 : Nat) ≠ 55 := by decide
      have g3 : (53 : Nat) ≠ 56 := by decide
      have g4 : (53 : Nat) ≠ 57 := by decide
      have g5 : (53 : Nat) ≠ 58 := by decide
      rw [hM 53 (by decide), sh_unj j1, sh_unj j7, sh_une g5, sh_une g4, sh_une g3, sh_une g2, sh_une g1]
    · rw [hM 53 (by decide), sh_unj (k := 7) (j := 1) (by decide), sh_uat, og_v0 d2]
      rfl
    · have e : w = 0 ∨ w = 1 ∨ w = 2 ∨ w = 3 ∨ w = 4 := by omega
      have U : ∀ {N : Nat → Nat → Int} {j : Nat} {u : Int} (c d : Nat), d ≠ c → sx_up N c j u d = N d := fun _ _ h => sh_une h
      have f := hM (54 + w) (by omega)
      rw [U 53 (54 + w) (by omega), U 53 (54 + w) (by omega)] at f
      rcases e with rfl | rfl | rfl | rfl | rfl
      · rw [U 58 (54 + 0) (by decide), U 57 (54 + 0) (by decide), U 56 (54 + 0) (by decide), U 55 (54 + 0) (by decide)] at f
        rw [f]
        exact sh_up
      · rw [U 58 (54 + 1) (by decide), U 57 (54 + 1) (by decide), U 56 (54 + 1) (by decide)] at f
        rw [f]
        refine Eq.trans (sh_up (o := 55)) ?_
        rw [U 54 55 (by decide)]
        rfl
      · rw [U 58 (54 + 2) (by decide), U 57 (54 + 2) (by decide)] at f
        rw [f]
        refine Eq.trans (sh_up (o := 56)) ?_
        rw [U 55 56 (by decide), U 54 56 (by decide)]
        rfl
      · rw [U 58 (54 + 3) (by decide)] at f
        rw [f]
        refine Eq.trans (sh_up (o := 57)) ?_
        rw [U 56 57 (by decide), U 55 57 (by decide), U 54 57 (by decide)]
        rfl
      · rw [f]
        refine Eq.trans (sh_up (o := 58)) ?_
        rw [U 57 58 (by decide), U 56 58 (by decide), U 55 58 (by decide), U 54 58 (by decide)]
        rfl
  · obtain ⟨⟨c1, c2⟩, -⟩ := hc
    have c2 : sx_val ρ' (9, 0) ≤ -1 := c2
    rw [v9] at c2
    exact ⟨-1, congrArg some (tk_cv h0 (-1)), hm', Or.inl ⟨Or.inl ⟨rfl, by omega⟩, hM⟩⟩
  · obtain ⟨⟨c1, c2⟩, -⟩ := hc
    have c1 : 144 ≤ sx_val ρ' (9, 0) := c1
    rw [v9] at c1
    exact ⟨-1, congrArg some (tk_cv h0 (-1)), hm', Or.inl ⟨Or.inl ⟨rfl, by omega⟩, hM⟩⟩
  · obtain ⟨⟨c1, c2⟩, ⟨c3, c4⟩, -⟩ := hc
    have c1 : 0 ≤ sx_val ρ' (9, 0) := c1
    have c2 : sx_val ρ' (9, 0) ≤ 143 := c2
    have c3 : 6 ≤ sx_val ρ' (10, 0) := c3
    rw [v9] at c1 c2
    rw [v10] at c3
    exact ⟨-3, congrArg some (tk_cv h0 (-3)), hm', Or.inl ⟨Or.inr ⟨rfl, c1, c2, by omega⟩, hM⟩⟩
theorem hs_no_w (h : hs_no s H z) : sx_w (-3, 5) z ∧ sx_w sx_r32 z := by
  rcases h with ⟨rfl, -⟩ | ⟨rfl, -⟩
  · exact ⟨⟨by decide, by decide⟩, og_w32 (by decide) (by decide)⟩
  · exact ⟨⟨by decide, by decide⟩, og_w32 (by decide) (by decide)⟩
theorem hs_no_u {y : Int} (h : hs_no s H z) (h2 : hs_no s H y) : y = z := by
  unfold hs_no at h h2
  omega
theorem hs_hp (hz : ∀ M M' : Nat → Nat → Int, (∀ z ∈ cz_zs, M' z = M z) → WF M → WF M') (hL : L < 2 ^ 31) (hI : la_I WF bs_cps M) (hS : bs_SS M) (hs : sx_w sx_r32 s) : bs_P WF L xs 11 153 [.ref 8, .int (Int32.ofInt s)] [.ref 53, .int (Int32.ofInt s)] (-3, 5) M := by
  obtain ⟨e1, e2, e3, e4, e5, -, -⟩ := bs_eq hI
  have h4 := cx_fld (c := 9) (k := 4) (lo := 0) (hi := 6) hI.1 (by decide +kernel)
  obtain ⟨z, M1, a1, a2, a3⟩ := lb_of (k := 11) (vs := [.ref 8, .int (Int32.ofInt s)]) (show 4 ≤ 99 by decide) (hs_x (xs := xs) hL hI.1 hs)
  obtain ⟨y, M2, b1, b2, b3⟩ := lb_of (k := 153) (vs := [.ref 53, .int (Int32.ofInt s)]) (show 3 ≤ 99 by decide) (hs_m (xs := xs) hL a2 hs)
  have e53 : M1 53 = M 53 := by
    rcases a3 with ⟨-, h⟩ | ⟨-, -, -, -, h, -⟩
    · exact h 53 (by decide)
    · exact h 53 (by decide) (by decide) (by decide)
  unfold hs_M at b3
  rw [e53, ← e1] at b3
  rcases a3 with ⟨x1, x2⟩ | ⟨x1, x2, x3, ez, x4, ⟨x5, x6, -⟩, x7⟩
  · rcases b3 with ⟨y1, y2⟩ | ⟨y1, y2, y3, y4, -⟩
    · have ey := hs_no_u x1 y1
      rw [ey] at b1
      exact bs_P0 hz hI hS (hs_no_w x1).1 (hs_no_w x1).2 a1 a2 x2 b1 b2 y2
    · unfold hs_no at x1
      omega
  · rcases b3 with ⟨y1, y2⟩ | ⟨y1, y2, y3, ey, y4, ⟨y5, y6, -⟩, y7⟩
    · unfold hs_no at y1
      omega
    · rw [show y = z by omega] at b1
      have g : ∀ a, a < 128 → a ≠ 9 → a ≠ 10 → ¬ (53 ≤ a ∧ a ≤ 58) → M2 a = M a := fun a ha p q r => by rw [y4 a ha r, x4 a ha p q]
      have g9 : M2 9 = M1 9 := y4 9 (by decide) (by decide)
      have g10 : M2 10 = M1 10 := y4 10 (by decide) (by decide)
      have g33 := g 33 (by decide) (by decide) (by decide) (by decide)
      obtain ⟨⟨n1, n2, n3⟩, c1, c2⟩ := hS.2
      have G : la_I WF bs_cps M2 ∧ bs_SS M2 ∧ bs_fr M M2 := by
        refine bs_mk hz hI hS b2 (fun a ha q => ?_) ?_ ?_ (fun j hj => ?_) ?_ ?_ ⟨⟨fun w n hw hn => ?_, fun n hn => ?_, fun n hn h => ?_⟩, fun q hq => ?_, ?_⟩ ?_
        · unfold bs_o at q
          exact g a ha (by omega) (by omega) (by omega)
        · rw [g9, x5, y5]
        · rw [g9, x6 5 (by decide) (by decide), y6 8 (by decide) (by decide)]
          exact e2
        · unfold bs_v at hj
          exact y6 j (by omega) (by omega)
        · rw [g10, x7, if_neg (by omega), if_neg (by omega), if_neg (by omega), if_neg (by omega), if_neg (by omega), y6 13 (by decide) (by decide)]
          exact e4
        · rw [g 32 (by decide) (by decide) (by decide) (by decide), y6 14 (by decide) (by decide)]
          exact e5
        · rw [g10, x7, y7 w n hw, x4 (54 + w) (by omega) (by omega) (by omega)]
          by_cases en : n = (M 9 4).toNat
          · rw [if_pos en]
            have e : w = 0 ∨ w = 1 ∨ w = 2 ∨ w = 3 ∨ w = 4 := by omega
            unfold hs_V
            rcases e with rfl | rfl | rfl | rfl | rfl
            · rw [if_neg (by omega), if_neg (by omega), if_neg (by omega), if_neg (by omega), if_pos (by omega), if_pos rfl]
            · rw [if_neg (by omega), if_neg (by omega), if_neg (by omega), if_pos (by omega), if_neg (by decide), if_pos rfl]
            · rw [if_neg (by omega), if_neg (by omega), if_pos (by omega), if_neg (by decide), if_neg (by decide), if_pos rfl]
            · rw [if_neg (by omega), if_pos (by omega), if_neg (by decide), if_neg (by decide), if_neg (by decide), if_pos rfl]
            · rw [if_pos (by omega), if_neg (by decide), if_neg (by decide), if_neg (by decide), if_neg (by decide)]
          · rw [if_neg en, if_neg (by omega), if_neg (by omega), if_neg (by omega), if_neg (by omega), if_neg (by omega)]
            exact n1 w n hw hn
        · rw [g10, x7, if_neg (by omega), if_neg (by omega), if_neg (by omega), if_neg (by omega), if_neg (by omega), g 61 (by decide) (by decide) (by decide) (by decide)]
          exact n2 n hn
        · rw [y6 8 (by decide) (by decide)] at h
          rw [g10, x7, if_neg (by omega), if_neg (by omega), if_neg (by omega), if_neg (by omega), if_neg (by omega), g 60 (by decide) (by decide) (by decide) (by decide)]
          exact n3 n hn h
        · rw [g33, g 62 (by decide) (by decide) (by decide) (by decide), g 63 (by decide) (by decide) (by decide) (by decide), g 64 (by decide) (by decide) (by decide) (by decide), g 65 (by decide) (by decide) (by decide) (by decide)]
          exact c1 q hq
        · rw [g 32 (by decide) (by decide) (by decide) (by decide), y6 14 (by decide) (by decide), y6 15 (by decide) (by decide)]
          exact c2
        · rw [g33]
          exact (JJ_iff.mp hI.2.1).1
      exact ⟨z, M1, M2, ⟨by show -3 ≤ z; omega, by show z ≤ 5; omega⟩, Or.inl ⟨rfl, og_w32 (by omega) (by omega)⟩, a1, a2, b1, b2, G.1, G.2⟩
end
