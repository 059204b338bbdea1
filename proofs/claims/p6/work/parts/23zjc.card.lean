/-! card: what it does on both sides; the pair. -/
section
variable {WF : (Nat → Nat → Int) → Prop} {L : Nat} {xs : Nat → Int32} {M M' M0 M1 M2 : Nat → Nat → Int} {ρ ρ' : Nat → Int} {t : sx_S} {s b z H C : Int} {v : Int}
/-- card() refuses -/
def ka_no (s b H C z : Int) : Prop := (z = -1 ∧ (s < 0 ∨ H ≤ s ∨ b < -1 ∨ 29 < b)) ∨ (z = -3 ∧ 0 ≤ s ∧ s < H ∧ -1 ≤ b ∧ b ≤ 29 ∧ C = 12)
def ka_X (s b : Int) (M : Nat → Nat → Int) (z : Int) (M' : Nat → Nat → Int) : Prop := (ka_no s b (M 9 4) (M 9 5) z ∧ ∀ a, a < 128 → M' a = M a) ∨ (0 ≤ s ∧ s < M 9 4 ∧ -1 ≤ b ∧ b ≤ 29 ∧ M 9 5 ≤ 11 ∧ z = M 9 5 ∧ (∀ a, a < 128 → a ≠ 9 → a ≠ 10 → a ≠ 11 → M' a = M a) ∧ (∀ j, M' 9 j = if j = 5 then M 9 5 + 1 else M 9 j) ∧ ∀ j, M' 10 j = if j = (M 9 5).toNat + 180 then b else M 10 j)
def ka_M (s b : Int) (M : Nat → Nat → Int) (z : Int) (M' : Nat → Nat → Int) : Prop := (ka_no s b (M 53 1) (M 53 8) z ∧ ∀ a, a < 128 → M' a = M a) ∨ (0 ≤ s ∧ s < M 53 1 ∧ -1 ≤ b ∧ b ≤ 29 ∧ M 53 8 ≤ 11 ∧ z = M 53 8 ∧ (∀ a, a < 128 → a ≠ 53 → a ≠ 59 → a ≠ 60 → M' a = M a) ∧ (∀ j, M' 53 j = if j = 8 then M 53 8 + 1 else M 53 j) ∧ ∀ j, M' 60 j = if j = (M 53 8).toNat then b else M 60 j)
theorem ka_x (hL : L < 2 ^ 31) (hm : sx_mok cl_ly M) (hs : sx_w sx_r32 s) (hb : sx_w sx_r32 b) : rz_fin (sh_Q (ka_X s b M)) L xs 15 4 0 (sh_a2 8 s b) [] M := by
  have h4 := cx_fld (c := 9) (k := 4) (lo := 0) (hi := 6) hm (by decide +kernel)
  have h5 := cx_fld (c := 9) (k := 5) (lo := 0) (hi := 12) hm (by decide +kernel)
  obtain ⟨ρ, st, e1, e2, e3⟩ := og_sat (xs := xs) (gs := og_g2) (zs := [s, b]) (fs := [(9, 4, (0, 6)), (9, 5, (0, 12))]) hL hm ⟨og_z rfl hs.1 hs.2 hs, og_z rfl hb.1 hb.2 hb, trivial⟩ (fun g hg => by
    simp only [List.mem_cons, List.not_mem_nil, or_false] at hg
    rcases hg with rfl | rfl
    · exact og_f hm rfl (show cv_ly cl_ly (9, 4, sx_r32) = true by decide +kernel) h4
    · exact og_f hm rfl (show cv_ly cl_ly (9, 5, sx_r32) = true by decide +kernel) h5)
  have r9 : ρ 9 = s := e2 0 _ rfl
  have r10 : ρ 10 = b := e2 1 _ rfl
  have r11 : ρ 11 = M 9 4 := e3 0 _ rfl
  have r12 : ρ 12 = M 9 5 := e3 1 _ rfl
  obtain ⟨okl, el⟩ := sh_l2 (m := 13) (a := 8) (c := 8) (fun c => sx_ck2 st c) (by decide) rfl st.2.1 r9 r10 hs hb
  refine og_use (Ts := oc_Tx) (lv := ol_2 8) (s := []) oc_cx (by decide +kernel) st okl (fun v hv => by cases hv) (Nat.le_refl _) el rfl (fun T hT ρ' M' x h0 hm' hc hM => ?_)
  have q9 := og_v x (show 9 < 13 by decide) r9
  have q10 := og_v x (show 10 < 13 by decide) r10
  have q11 := og_v x (show 11 < 13 by decide) r11
  have q12 := og_v x (show 12 < 13 by decide) r12
  have v9 : sx_val ρ' (9, 0) = s := og_v0 q9
  have v10 : sx_val ρ' (10, 0) = b := og_v0 q10
  have v12 : sx_val ρ' (12, 0) = M 9 5 := og_v0 q12
  simp only [oc_Tx, List.mem_cons, List.not_mem_nil, or_false] at hT
  rcases hT with rfl | rfl | rfl | rfl | rfl | rfl
  · obtain ⟨⟨c1, c2⟩, -⟩ := hc
    have c2 : sx_val ρ' (9, 0) ≤ -1 := c2
    rw [v9] at c2
    exact ⟨-1, congrArg some (tk_cv h0 (-1)), hm', Or.inl ⟨Or.inl ⟨rfl, by omega⟩, hM⟩⟩
  · obtain ⟨c2, -⟩ := hc
    have c2 : ¬ ρ' 9 < ρ' 11 + 0 := c2
    rw [q9, q11] at c2
    exact ⟨-1, congrArg some (tk_cv h0 (-1)), hm', Or.inl ⟨Or.inl ⟨rfl, by omega⟩, hM⟩⟩
  · obtain ⟨⟨c1, c2⟩, -⟩ := hc
    have c2 : sx_val ρ' (10, 0) ≤ -2 := c2
    rw [v10] at c2
    exact ⟨-1, congrArg some (tk_cv h0 (-1)), hm', Or.inl ⟨Or.inl ⟨rfl, by omega⟩, hM⟩⟩
  · obtain ⟨⟨c1, c2⟩, -⟩ := hc
    have c1 : 30 ≤ sx_val ρ' (10, 0) := c1
    rw [v10] at c1
    exact ⟨-1, congrArg some (tk_cv h0 (-1)), hm', Or.inl ⟨Or.inl ⟨rfl, by omega⟩, hM⟩⟩
  · obtain ⟨⟨c1, -⟩, c2, ⟨c3, c4⟩, ⟨c5, c6⟩, -⟩ := hc
    have c1 : 0 ≤ sx_val ρ' (9, 0) := c1
    have c2 : ρ' 9 < ρ' 11 + 0 := c2
    have c3 : -1 ≤ sx_val ρ' (10, 0) := c3
    have c4 : sx_val ρ' (10, 0) ≤ 29 := c4
    have c5 : 12 ≤ sx_val ρ' (12, 0) := c5
    rw [v9] at c1
    rw [q9, q11] at c2
    rw [v10] at c3 c4
    rw [v12] at c5
    exact ⟨-3, congrArg some (tk_cv h0 (-3)), hm', Or.inl ⟨Or.inr ⟨rfl, c1, by omega, c3, c4, by omega⟩, hM⟩⟩
  · obtain ⟨⟨c1, -⟩, c2, ⟨c3, c4⟩, ⟨c5, c6⟩, -⟩ := hc
    have c1 : 0 ≤ sx_val ρ' (9, 0) := c1
    have c2 : ρ' 9 < ρ' 11 + 0 := c2
    have c3 : -1 ≤ sx_val ρ' (10, 0) := c3
    have c4 : sx_val ρ' (10, 0) ≤ 29 := c4
    have c6 : sx_val ρ' (12, 0) ≤ 11 := c6
    rw [v9] at c1
    rw [q9, q11] at c2
    rw [v10] at c3 c4
    rw [v12] at c6
    have hM : ∀ a, a < 128 → M' a = sx_up (sx_up (sx_up M 11 (sx_val ρ' (12, 0)).toNat (sx_val ρ' (9, 0))) 10 (sx_val ρ' (12, 180)).toNat (sx_val ρ' (10, 0))) 9 (sx_val ρ' (0, 5)).toNat (sx_val ρ' (12, 1)) a := hM
    rw [v9, v10, v12, og_vv (c := 180) q12, og_vv (c := 1) q12, og_c h0 5, show (5 : Int).toNat = 5 from rfl, show (M 9 5 + 180).toNat = (M 9 5).toNat + 180 by omega] at hM
    refine ⟨M 9 5, congrArg some (og_int q12), hm', Or.inr ⟨c1, by omega, c3, c4, c6, rfl, fun a ha g1 g2 g3 => ?_, fun j => ?_, fun j => ?_⟩⟩
    · rw [hM a ha, sh_une g1, sh_une g2, sh_une g3]
    · have n1 : (9 : Nat) ≠ 10 := by decide
      have n2 : (9 : Nat) ≠ 11 := by decide
      rw [hM 9 (by decide), sh_up, sh_une n1, sh_une n2]
    · have n1 : (10 : Nat) ≠ 9 := by decide
      have n2 : (10 : Nat) ≠ 11 := by decide
      rw [hM 10 (by decide), sh_une n1, sh_up, sh_une n2]
theorem ka_m (hL : L < 2 ^ 31) (hm : sx_mok cl_ly M) (hs : sx_w sx_r32 s) (hb : sx_w sx_r32 b) : rz_fin (sh_Q (ka_M s b M)) L xs 155 4 0 (sh_a2 53 s b) [] M := by
  have h4 := cx_fld (c := 53) (k := 1) (lo := 0) (hi := 6) hm (by decide +kernel)
  have h5 := cx_fld (c := 53) (k := 8) (lo := 0) (hi := 12) hm (by decide +kernel)
  obtain ⟨ρ, st, e1, e2, e3⟩ := og_sat (xs := xs) (gs := og_g2) (zs := [s, b]) (fs := [(53, 1, (0, 6)), (53, 8, (0, 12))]) hL hm ⟨og_z rfl hs.1 hs.2 hs, og_z rfl hb.1 hb.2 hb, trivial⟩ (fun g hg => by
    simp only [List.mem_cons, List.not_mem_nil, or_false] at hg
    rcases hg with rfl | rfl
    · exact og_f hm rfl (show cv_ly cl_ly (53, 1, sx_r32) = true by decide +kernel) h4
    · exact og_f hm rfl (show cv_ly cl_ly (53, 8, sx_r32) = true by decide +kernel) h5)
  have r9 : ρ 9 = s := e2 0 _ rfl
  have r10 : ρ 10 = b := e2 1 _ rfl
  have r11 : ρ 11 = M 53 1 := e3 0 _ rfl
  have r12 : ρ 12 = M 53 8 := e3 1 _ rfl
  obtain ⟨okl, el⟩ := sh_l2 (m := 13) (a := 53) (c := 53) (fun c => sx_ck2 st c) (by decide) rfl st.2.1 r9 r10 hs hb
  refine og_use (Ts := oc_Tm) (lv := ol_2 53) (s := []) oc_cm (by decide +kernel) st okl (fun v hv => by cases hv) (Nat.le_refl _) el rfl (fun T hT ρ' M' x h0 hm' hc hM => ?_)
  have q9 := og_v x (show 9 < 13 by decide) r9
  have q10 := og_v x (show 10 < 13 by decide) r10
  have q11 := og_v x (show 11 < 13 by decide) r11
  have q12 := og_v x (show 12 < 13 by decide) r12
  have v9 : sx_val ρ' (9, 0) = s := og_v0 q9
  have v10 : sx_val ρ' (10, 0) = b := og_v0 q10
  have v12 : sx_val ρ' (12, 0) = M 53 8 := og_v0 q12
  simp only [oc_Tm, List.mem_cons, List.not_mem_nil, or_false] at hT
  rcases hT with rfl | rfl | rfl | rfl | rfl | rfl
  · obtain ⟨⟨c1, c2⟩, -⟩ := hc
    have c2 : sx_val ρ' (9, 0) ≤ -1 := c2
    rw [v9] at c2
    exact ⟨-1, congrArg some (tk_cv h0 (-1)), hm', Or.inl ⟨Or.inl ⟨rfl, by omega⟩, hM⟩⟩
  · obtain ⟨c2, -⟩ := hc
    have c2 : ρ' 11 < ρ' 9 + 1 := c2
    rw [q9, q11] at c2
    exact ⟨-1, congrArg some (tk_cv h0 (-1)), hm', Or.inl ⟨Or.inl ⟨rfl, by omega⟩, hM⟩⟩
  · obtain ⟨⟨c1, c2⟩, -⟩ := hc
    have c2 : sx_val ρ' (10, 0) ≤ -2 := c2
    rw [v10] at c2
    exact ⟨-1, congrArg some (tk_cv h0 (-1)), hm', Or.inl ⟨Or.inl ⟨rfl, by omega⟩, hM⟩⟩
  · obtain ⟨⟨c1, c2⟩, -⟩ := hc
    have c1 : 30 ≤ sx_val ρ' (10, 0) := c1
    rw [v10] at c1
    exact ⟨-1, congrArg some (tk_cv h0 (-1)), hm', Or.inl ⟨Or.inl ⟨rfl, by omega⟩, hM⟩⟩
  · obtain ⟨⟨c1, -⟩, c2, ⟨c3, c4⟩, ⟨c5, c6⟩, -⟩ := hc
    have c1 : 0 ≤ sx_val ρ' (9, 0) := c1
    have c2 : ¬ ρ' 11 < ρ' 9 + 1 := c2
    have c3 : -1 ≤ sx_val ρ' (10, 0) := c3
    have c4 : sx_val ρ' (10, 0) ≤ 29 := c4
    have c5 : 12 ≤ sx_val ρ' (12, 0) := c5
    rw [v9] at c1
    rw [q9, q11] at c2
    rw [v10] at c3 c4
    rw [v12] at c5
    exact ⟨-3, congrArg some (tk_cv h0 (-3)), hm', Or.inl ⟨Or.inr ⟨rfl, c1, by omega, c3, c4, by omega⟩, hM⟩⟩
  · obtain ⟨⟨c1, -⟩, c2, ⟨c3, c4⟩, ⟨c5, c6⟩, -⟩ := hc
    have c1 : 0 ≤ sx_val ρ' (9, 0) := c1
    have c2 : ¬ ρ' 11 < ρ' 9 + 1 := c2
    have c3 : -1 ≤ sx_val ρ' (10, 0) := c3
    have c4 : sx_val ρ' (10, 0) ≤ 29 := c4
    have c6 : sx_val ρ' (12, 0) ≤ 11 := c6
    rw [v9] at c1
    rw [q9, q11] at c2
    rw [v10] at c3 c4
    rw [v12] at c6
    have hM : ∀ a, a < 128 → M' a = sx_up (sx_up (sx_up M 59 (sx_val ρ' (12, 0)).toNat (sx_val ρ' (9, 0))) 60 (sx_val ρ' (12, 0)).toNat (sx_val ρ' (10, 0))) 53 (sx_val ρ' (0, 8)).toNat (sx_val ρ' (12, 1)) a := hM
    rw [v9, v10, v12, og_vv (c := 1) q12, og_c h0 8, show (8 : Int).toNat = 8 from rfl] at hM
    refine ⟨M 53 8, congrArg some (og_int q12), hm', Or.inr ⟨c1, by omega, c3, c4, c6, rfl, fun a ha g1 g2 g3 => ?_, fun j => ?_, fun j => ?_⟩⟩
    · rw [hM a ha, sh_une g1, sh_une g3, sh_une g2]
    · have n1 : (53 : Nat) ≠ 60 := by decide
      have n2 : (53 : Nat) ≠ 59 := by decide
      rw [hM 53 (by decide), sh_up, sh_une n1, sh_une n2]
    · have n1 : (60 : Nat) ≠ 53 := by decide
      have n2 : (60 : Nat) ≠ 59 := by decide
      rw [hM 60 (by decide), sh_une n1, sh_up, sh_une n2]
theorem ka_no_w (h : ka_no s b H C z) : sx_w (-3, 11) z ∧ sx_w sx_r32 z := by
  rcases h with ⟨rfl, -⟩ | ⟨rfl, -⟩
  · exact ⟨⟨by decide, by decide⟩, og_w32 (by decide) (by decide)⟩
  · exact ⟨⟨by decide, by decide⟩, og_w32 (by decide) (by decide)⟩
theorem ka_no_u {y : Int} (h : ka_no s b H C z) (h2 : ka_no s b H C y) : y = z := by
  unfold ka_no at h h2
  omega
theorem ka_hp (hz : ∀ M M' : Nat → Nat → Int, (∀ z ∈ cz_zs, M' z = M z) → WF M → WF M') (hL : L < 2 ^ 31) (hI : la_I WF bs_cps M) (hS : bs_SS M) (hs : sx_w sx_r32 s) (hb : sx_w sx_r32 b) : bs_P WF L xs 15 155 [.ref 8, .int (Int32.ofInt s), .int (Int32.ofInt b)] [.ref 53, .int (Int32.ofInt s), .int (Int32.ofInt b)] (-3, 11) M := by
  obtain ⟨e1, e2, e3, e4, e5, -, -⟩ := bs_eq hI
  have h5 := cx_fld (c := 9) (k := 5) (lo := 0) (hi := 12) hI.1 (by decide +kernel)
  obtain ⟨z, M1, a1, a2, a3⟩ := lb_of (k := 15) (vs := [.ref 8, .int (Int32.ofInt s), .int (Int32.ofInt b)]) (show 4 ≤ 99 by decide) (ka_x (xs := xs) hL hI.1 hs hb)
  obtain ⟨y, M2, b1, b2, b3⟩ := lb_of (k := 155) (vs := [.ref 53, .int (Int32.ofInt s), .int (Int32.ofInt b)]) (show 4 ≤ 99 by decide) (ka_m (xs := xs) hL a2 hs hb)
  have e53 : M1 53 = M 53 := by
    rcases a3 with ⟨-, h⟩ | ⟨-, -, -, -, -, -, h, -⟩
    · exact h 53 (by decide)
    · exact h 53 (by decide) (by decide) (by decide) (by decide)
  unfold ka_M at b3
  rw [e53, ← e1, ← e2] at b3
  rcases a3 with ⟨x1, x2⟩ | ⟨x1, x2, x3, x4, x5, ez, x6, x7, x8⟩
  · rcases b3 with ⟨y1, y2⟩ | ⟨y1, y2, y3, y4, y5, -⟩
    · have ey := ka_no_u x1 y1
      rw [ey] at b1
      exact bs_P0 hz hI hS (ka_no_w x1).1 (ka_no_w x1).2 a1 a2 x2 b1 b2 y2
    · unfold ka_no at x1
      omega
  · rcases b3 with ⟨y1, y2⟩ | ⟨y1, y2, y3, y4, y5, ey, y6, y7, y8⟩
    · unfold ka_no at y1
      omega
    · rw [show y = z by omega] at b1
      have g : ∀ a, a < 128 → a ≠ 9 → a ≠ 10 → a ≠ 11 → a ≠ 53 → a ≠ 59 → a ≠ 60 → M2 a = M a := fun a ha p q r u v w => by rw [y6 a ha u v w, x6 a ha p q r]
      have g9 : M2 9 = M1 9 := y6 9 (by decide) (by decide) (by decide) (by decide)
      have g10 : M2 10 = M1 10 := y6 10 (by decide) (by decide) (by decide) (by decide)
      have g60 : M1 60 = M 60 := x6 60 (by decide) (by decide) (by decide) (by decide)
      have g32 := g 32 (by decide) (by decide) (by decide) (by decide) (by decide) (by decide) (by decide)
      have g33 := g 33 (by decide) (by decide) (by decide) (by decide) (by decide) (by decide) (by decide)
      obtain ⟨⟨n1, n2, n3⟩, c1, c2⟩ := hS.2
      have G : la_I WF bs_cps M2 ∧ bs_SS M2 ∧ bs_fr M M2 := by
        refine bs_mk hz hI hS b2 (fun a ha q => ?_) ?_ ?_ (fun j hj => ?_) ?_ ?_ ⟨⟨fun w n hw hn => ?_, fun n hn => ?_, fun n hn h => ?_⟩, fun q hq => ?_, ?_⟩ ?_
        · unfold bs_o at q
          exact g a ha (by omega) (by omega) (by omega) (by omega) (by omega) (by omega)
        · rw [g9, x7 4, if_neg (by decide), y7 1, if_neg (by decide)]
          exact e1
        · rw [g9, x7 5, if_pos rfl, y7 8, if_pos rfl]
        · unfold bs_v at hj
          rw [y7 j, if_neg (by omega)]
        · rw [g10, x8 210, if_neg (by omega), y7 13, if_neg (by decide)]
          exact e4
        · rw [g32, y7 14, if_neg (by decide)]
          exact e5
        · rw [g10, x8, if_neg (by omega), g (54 + w) (by omega) (by omega) (by omega) (by omega) (by omega) (by omega) (by omega)]
          exact n1 w n hw hn
        · rw [g10, x8, if_neg (by omega), g 61 (by decide) (by decide) (by decide) (by decide) (by decide) (by decide) (by decide)]
          exact n2 n hn
        · rw [y7 8, if_pos rfl] at h
          rw [g10, x8, y8, g60]
          by_cases en : n = (M 9 5).toNat
          · rw [if_pos en, if_pos (by omega)]
          · rw [if_neg en, if_neg (by omega)]
            exact n3 n hn (by omega)
        · rw [g33, g 62 (by decide) (by decide) (by decide) (by decide) (by decide) (by decide) (by decide), g 63 (by decide) (by decide) (by decide) (by decide) (by decide) (by decide) (by decide), g 64 (by decide) (by decide) (by decide) (by decide) (by decide) (by decide) (by decide), g 65 (by decide) (by decide) (by decide) (by decide) (by decide) (by decide) (by decide)]
          exact c1 q hq
        · rw [g32, y7 14, if_neg (by decide), y7 15, if_neg (by decide)]
          exact c2
        · rw [g33]
          exact (JJ_iff.mp hI.2.1).1
      exact ⟨z, M1, M2, ⟨by show -3 ≤ z; omega, by show z ≤ 11; omega⟩, Or.inl ⟨rfl, og_w32 (by omega) (by omega)⟩, a1, a2, b1, b2, G.1, G.2⟩
end
