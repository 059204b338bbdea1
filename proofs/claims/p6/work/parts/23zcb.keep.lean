/-! Shelves: what the two sides hold alike; keep. -/
section
variable {WF : (Nat → Nat → Int) → Prop} {L : Nat} {xs : Nat → Int32} {M M' MM M0 M1 M2 : Nat → Nat → Int} {ρ ρ' : Nat → Int} {t : sx_S} {s b c n i o : Int} {cps : List la_P}
/-- a shelf as both sides hold it -/
def sh_S (M : Nat → Nat → Int) (k : Nat) : Prop := (M 87 k = -1 ∧ M (41 + 2 * k) 2 = -1 ∧ M (41 + 2 * k) 3 = -1) ∨ (0 ≤ M 87 k ∧ M 87 k ≤ 49 ∧ M (41 + 2 * k) 2 = -1 ∧ M (41 + 2 * k) 3 = M 87 k) ∨ (-6 ≤ M 87 k ∧ M 87 k ≤ -2 ∧ M (41 + 2 * k) 2 = -2 - M 87 k ∧ M (41 + 2 * k) 3 = -1 ∧ M (41 + 2 * k) 1 = M 88 k ∧ ∀ i : Nat, (i : Int) < M 88 k → M (42 + 2 * k) i = M 89 (60 * k + i))
def sh_SS (M : Nat → Nat → Int) : Prop := ∀ k, k < 6 → sh_S M k
theorem sh_S_on {k : Nat} (h : sh_S M k) (h87 : M' 87 k = M 87 k) (h88 : M' 88 k = M 88 k) (h89 : ∀ i : Nat, i < 60 → M' 89 (60 * k + i) = M 89 (60 * k + i)) (hf : M' (41 + 2 * k) = M (41 + 2 * k)) (he : M' (42 + 2 * k) = M (42 + 2 * k)) (h60 : M 88 k ≤ 60) : sh_S M' k := by
  unfold sh_S at h ⊢
  rw [h87, h88, hf, he]
  rcases h with h | h | ⟨a, b, c, d, e, f⟩
  · exact Or.inl h
  · exact Or.inr (Or.inl h)
  · exact Or.inr (Or.inr ⟨a, b, c, d, e, fun i hi => by rw [h89 i (by omega)]; exact f i hi⟩)
theorem sh_fp : lb_fp [41, 42, 43, 44, 45, 46, 47, 48, 49, 50, 51, 52, 87, 88, 89] [] sh_SS := by
  intro M M' h1 _ hS k hk
  have e : ∀ z, 41 ≤ z ∧ z ≤ 52 ∨ 87 ≤ z ∧ z ≤ 89 → M' z = M z := fun z hz => h1 z (by
    simp only [List.mem_cons, List.not_mem_nil, or_false]
    omega)
  have h := hS k hk
  unfold sh_S at h ⊢
  rw [e 87 (by omega), e 88 (by omega), e 89 (by omega), e (41 + 2 * k) (by omega), e (42 + 2 * k) (by omega)]
  exact h
/-- but the shelves nothing is changed -/
def sh_m (M M' : Nat → Nat → Int) : Prop := sx_mok cl_ly M' ∧ ∀ a, a < 128 → ¬ (41 ≤ a ∧ a ≤ 52) → ¬ (87 ≤ a ∧ a ≤ 90) → M' a = M a
theorem sh_m_tr (h1 : sh_m M M1) (h2 : sh_m M1 M2) : sh_m M M2 := ⟨h2.1, fun a ha x y => (h2.2 a ha x y).trans (h1.2 a ha x y)⟩
def sh_o (q : Nat) : Bool := sx_an (Nat.blt q 128) (bif sx_an (Nat.ble 41 q) (Nat.ble q 52) then false else bif sx_an (Nat.ble 87 q) (Nat.ble q 90) then false else true)
theorem sh_o_ok {q : Nat} (h : sh_o q = true) : q < 128 ∧ ¬ (41 ≤ q ∧ q ≤ 52) ∧ ¬ (87 ≤ q ∧ q ≤ 90) := by
  obtain ⟨h1, h2⟩ := sx_an_iff.mp h
  cases e1 : sx_an (Nat.ble 41 q) (Nat.ble q 52) with
  | true => rw [e1] at h2; cases h2
  | false =>
    rw [e1] at h2
    cases e2 : sx_an (Nat.ble 87 q) (Nat.ble q 90) with
    | true => rw [e2] at h2; cases h2
    | false =>
      refine ⟨sx_blt h1, fun h => ?_, fun h => ?_⟩
      · rw [sx_an_iff.mpr ⟨Nat.ble_eq_true_of_le h.1, Nat.ble_eq_true_of_le h.2⟩] at e1; cases e1
      · rw [sx_an_iff.mpr ⟨Nat.ble_eq_true_of_le h.1, Nat.ble_eq_true_of_le h.2⟩] at e2; cases e2
/-- what it is told of lies beyond the shelves -/
def sh_G (WF : (Nat → Nat → Int) → Prop) : Prop := ∀ M M' : Nat → Nat → Int, sh_m M M' → WF M → WF M'
theorem sh_G_of (hz : ∀ M M' : Nat → Nat → Int, (∀ z ∈ cz_zs, M' z = M z) → WF M → WF M') : sh_G WF := fun M M' h h3 => hz M M' (fun z hz => by
  have : (cz_zs.all sh_o) = true := by decide +kernel
  obtain ⟨a, b, c⟩ := sh_o_ok (List.all_eq_true.mp this z hz)
  exact h.2 z a b c) h3
theorem sh_I (hz : sh_G WF) (hc : cps.all (fun q => sx_an (sh_o q.1.1) (sh_o q.2.1.1)) = true) (hI : la_I WF cps M) (h : sh_m M M') : la_I WF cps M' := by
  have e : ∀ z, sh_o z = true → M' z = M z := fun z hz => by
    obtain ⟨a, b, c⟩ := sh_o_ok hz
    exact h.2 z a b c
  obtain ⟨h1, h2, h3, h4, h5⟩ := hI
  refine ⟨h.1, fp_JJ M M' (fun z hz => e z ?_) (fun p hp => ?_) h2, hz M M' h h3, by rw [e 10 rfl]; exact h4, fun q hq => ?_⟩
  · have : ([33, 62, 63, 64, 65].all sh_o) = true := by decide +kernel
    exact List.all_eq_true.mp this z hz
  · have : ([(32, 1), (32, 2), (53, 14), (53, 15)].all (fun p : Nat × Nat => sh_o p.1)) = true := by decide +kernel
    rw [e p.1 (List.all_eq_true.mp this p hp)]
  · obtain ⟨a, b⟩ := sx_an_iff.mp (List.all_eq_true.mp hc q hq)
    rw [e _ a, e _ b]
    exact h5 q hq
/-- a shelf's three numbers are laid -/
def sh_w (M : Nat → Nat → Int) (o : Nat) (l k h : Int) : Nat → Nat → Int := sx_up (sx_up (sx_up M o 3 h) o 2 k) o 1 l
theorem sh_w1 {o : Nat} {l k h : Int} : sh_w M o l k h o 1 = l := by
  unfold sh_w sx_up
  rw [if_pos rfl, if_pos rfl]
theorem sh_w2 {o : Nat} {l k h : Int} : sh_w M o l k h o 2 = k := by
  unfold sh_w sx_up
  rw [if_pos rfl, if_neg (by decide), if_pos rfl, if_pos rfl]
theorem sh_w3 {o : Nat} {l k h : Int} : sh_w M o l k h o 3 = h := by
  unfold sh_w sx_up
  rw [if_pos rfl, if_neg (by decide), if_pos rfl, if_neg (by decide), if_pos rfl, if_pos rfl]
theorem sh_wne {o a : Nat} {l k h : Int} (e : a ≠ o) : sh_w M o l k h a = M a := by
  funext j
  unfold sh_w sx_up
  rw [if_neg e, if_neg e, if_neg e]
theorem sh_une {o a j : Nat} {v : Int} (e : a ≠ o) : sx_up M o j v a = M a := by
  funext j
  unfold sx_up
  rw [if_neg e]
theorem sh_uat {o j : Nat} {v : Int} : sx_up M o j v o j = v := by
  unfold sx_up
  rw [if_pos rfl, if_pos rfl]
theorem sh_unj {o j k : Nat} {v : Int} (e : k ≠ j) : sx_up M o j v o k = M o k := by
  unfold sx_up
  rw [if_pos rfl, if_neg e]
def sh_a2 (a : Nat) (s b : Int) : sm_V := [(0, .ref a), (1, .int (Int32.ofInt s)), (2, .int (Int32.ofInt b))]
theorem sh_l2 {m a : Nat} {c : Int} (hc : ∀ c, sx_ok ρ m (2, 0, c)) (h : 10 < m) (ea : c.toNat = a) (h0 : ρ 0 = 0) (r9 : ρ 9 = s) (r10 : ρ 10 = b) (hs : sx_w sx_r32 s) (hb : sx_w sx_r32 b) : sx_okl ρ m (ol_2 c) ∧ sx_cl1 ρ (ol_2 c) = sh_a2 a s b := by
  refine ⟨fun q hq => ?_, ?_⟩
  · simp only [ol_2, List.mem_cons, List.not_mem_nil, or_false] at hq
    rcases hq with rfl | rfl | rfl
    · exact hc _
    · exact tk_ok0 (by omega) (by rw [r9]; exact hs)
    · exact tk_ok0 h (by rw [r10]; exact hb)
  · show [(0, sx_cv1 ρ (2, 0, c)), (1, sx_cv1 ρ (0, 9, 0)), (2, sx_cv1 ρ (0, 10, 0))] = _
    rw [og_int r9, og_int r10]
    show [(0, Value.ref c.toNat), _, _] = _
    rw [ea]
    rfl
-- keep
def kp_no (s b B : Int) : Prop := s < 0 ∨ 5 < s ∨ b < -1 ∨ B ≤ b
def kp_X (s b : Int) (M : Nat → Nat → Int) (z : Int) (M' : Nat → Nat → Int) : Prop := (z = -1 ∧ kp_no s b (M 37 2) ∧ ∀ a, a < 128 → M' a = M a) ∨ (z = 1 ∧ ¬ kp_no s b (M 37 2) ∧ ∀ a, a < 128 → M' a = sh_w M (41 + 2 * s.toNat) 0 (-1) b a)
def kp_M (s b : Int) (M : Nat → Nat → Int) (z : Int) (M' : Nat → Nat → Int) : Prop := (z = -1 ∧ kp_no s b (M 53 57) ∧ ∀ a, a < 128 → M' a = M a) ∨ (z = 1 ∧ ¬ kp_no s b (M 53 57) ∧ ∀ a, a < 128 → M' a = sx_up M 87 s.toNat b a)
/-- an answer, and what it does -/
def sh_Q (R : Int → (Nat → Nat → Int) → Prop) (r : Option Value) (M' : Nat → Nat → Int) : Prop := ∃ z, r = some (.int (Int32.ofInt z)) ∧ sx_mok cl_ly M' ∧ R z M'
theorem kp_x (hL : L < 2 ^ 31) (hm : sx_mok cl_ly M) (hs : sx_w sx_r32 s) (hb : sx_w sx_r32 b) : rz_fin (sh_Q (kp_X s b M)) L xs 138 3 0 (sh_a2 8 s b) [] M := by
  have hB := cx_fld (c := 37) (k := 2) (lo := 0) (hi := 50) hm (by decide +kernel)
  obtain ⟨ρ, st, e1, e2, e3⟩ := og_sat (xs := xs) (gs := og_g2) (zs := [s, b]) (fs := [(37, 2, (0, 50))]) hL hm ⟨og_z rfl hs.1 hs.2 hs, og_z rfl hb.1 hb.2 hb, trivial⟩ (fun g hg => by
    rw [List.mem_singleton.mp hg]
    exact og_f hm rfl (show cv_ly cl_ly (37, 2, sx_r32) = true by decide +kernel) hB)
  have r9 : ρ 9 = s := e2 0 _ rfl
  have r10 : ρ 10 = b := e2 1 _ rfl
  have r11 : ρ 11 = M 37 2 := e3 0 _ rfl
  obtain ⟨okl, el⟩ := sh_l2 (m := 12) (a := 8) (c := 8) (fun c => sx_ck2 st c) (by decide) rfl st.2.1 r9 r10 hs hb
  refine og_use (Ts := ok_Tx) (lv := ol_2 8) (s := []) ok_cx (by decide +kernel) st okl (fun v hv => by cases hv) (Nat.le_refl _) el rfl (fun T hT ρ' M' x h0 hm' hc hM => ?_)
  have q9 := og_v x (show 9 < 12 by decide) r9
  have q10 := og_v x (show 10 < 12 by decide) r10
  have q11 := og_v x (show 11 < 12 by decide) r11
  have v9 : sx_val ρ' (9, 0) = s := og_v0 q9
  have v10 : sx_val ρ' (10, 0) = b := og_v0 q10
  simp only [ok_Tx, List.mem_append, List.mem_cons, List.not_mem_nil, or_false, List.mem_flatMap, List.mem_range] at hT
  rcases hT with (rfl | rfl | rfl | rfl) | ⟨c, hc6, hT⟩
  · obtain ⟨⟨c1, c2⟩, -⟩ := hc
    have c2 : sx_val ρ' (9, 0) ≤ -1 := c2
    rw [v9] at c2
    exact ⟨-1, congrArg some (tk_cv h0 (-1)), hm', Or.inl ⟨rfl, Or.inl (by omega), hM⟩⟩
  · obtain ⟨⟨c1, c2⟩, -⟩ := hc
    have c1 : 6 ≤ sx_val ρ' (9, 0) := c1
    rw [v9] at c1
    exact ⟨-1, congrArg some (tk_cv h0 (-1)), hm', Or.inl ⟨rfl, Or.inr (Or.inl (by omega)), hM⟩⟩
  · obtain ⟨-, ⟨c1, c2⟩, -⟩ := hc
    have c2 : sx_val ρ' (10, 0) ≤ -2 := c2
    rw [v10] at c2
    exact ⟨-1, congrArg some (tk_cv h0 (-1)), hm', Or.inl ⟨rfl, Or.inr (Or.inr (Or.inl (by omega))), hM⟩⟩
  · obtain ⟨-, c1, -⟩ := hc
    have c1 : ¬ ρ' 10 < ρ' 11 + 0 := c1
    rw [q10, q11] at c1
    exact ⟨-1, congrArg some (tk_cv h0 (-1)), hm', Or.inl ⟨rfl, Or.inr (Or.inr (Or.inr (by omega))), hM⟩⟩
  · simp only [ok_x, List.mem_cons, List.not_mem_nil, or_false] at hT
    rcases hT with rfl | rfl
    · obtain ⟨⟨c1, c2⟩, ⟨c3, c4⟩, -⟩ := hc
      have c1 : (c : Int) ≤ sx_val ρ' (9, 0) := c1
      have c2 : sx_val ρ' (9, 0) ≤ (c : Int) := c2
      have c3 : -1 ≤ sx_val ρ' (10, 0) := c3
      have c4 : sx_val ρ' (10, 0) ≤ -1 := c4
      rw [v9] at c1 c2
      rw [v10] at c3 c4
      have hM : ∀ a, a < 128 → M' a = sx_up (sx_up (sx_up M (41 + 2 * c) (sx_val ρ' (0, 3)).toNat (sx_val ρ' (0, -1))) (41 + 2 * c) (sx_val ρ' (0, 2)).toNat (sx_val ρ' (0, -1))) (41 + 2 * c) (sx_val ρ' (0, 1)).toNat (sx_val ρ' (0, 0)) a := hM
      rw [og_c h0 3, og_c h0 (-1), og_c h0 2, og_c h0 1, og_c h0 0] at hM
      refine ⟨1, congrArg some (tk_cv h0 1), hm', Or.inr ⟨rfl, by unfold kp_no; omega, fun a ha => ?_⟩⟩
      rw [hM a ha, show s.toNat = c by omega, show b = -1 by omega]
      rfl
    · obtain ⟨⟨c1, c2⟩, ⟨c3, c4⟩, c5, -⟩ := hc
      have c1 : (c : Int) ≤ sx_val ρ' (9, 0) := c1
      have c2 : sx_val ρ' (9, 0) ≤ (c : Int) := c2
      have c3 : 0 ≤ sx_val ρ' (10, 0) := c3
      have c5 : ρ' 10 < ρ' 11 + 0 := c5
      rw [v9] at c1 c2
      rw [v10] at c3
      rw [q10, q11] at c5
      have hM : ∀ a, a < 128 → M' a = sx_up (sx_up (sx_up M (41 + 2 * c) (sx_val ρ' (0, 3)).toNat (sx_val ρ' (10, 0))) (41 + 2 * c) (sx_val ρ' (0, 2)).toNat (sx_val ρ' (0, -1))) (41 + 2 * c) (sx_val ρ' (0, 1)).toNat (sx_val ρ' (0, 0)) a := hM
      rw [og_c h0 3, og_c h0 (-1), og_c h0 2, og_c h0 1, og_c h0 0, v10] at hM
      refine ⟨1, congrArg some (tk_cv h0 1), hm', Or.inr ⟨rfl, by unfold kp_no; omega, fun a ha => ?_⟩⟩
      rw [hM a ha, show s.toNat = c by omega]
      rfl
theorem kp_m (hL : L < 2 ^ 31) (hm : sx_mok cl_ly M) (hs : sx_w sx_r32 s) (hb : sx_w sx_r32 b) : rz_fin (sh_Q (kp_M s b M)) L xs 263 4 0 (sh_a2 53 s b) [] M := by
  have hB := cx_fld (c := 53) (k := 57) (lo := 0) (hi := 50) hm (by decide +kernel)
  obtain ⟨ρ, st, e1, e2, e3⟩ := og_sat (xs := xs) (gs := og_g2) (zs := [s, b]) (fs := [(53, 57, (0, 50))]) hL hm ⟨og_z rfl hs.1 hs.2 hs, og_z rfl hb.1 hb.2 hb, trivial⟩ (fun g hg => by
    rw [List.mem_singleton.mp hg]
    exact og_f hm rfl (show cv_ly cl_ly (53, 57, sx_r32) = true by decide +kernel) hB)
  have r9 : ρ 9 = s := e2 0 _ rfl
  have r10 : ρ 10 = b := e2 1 _ rfl
  have r11 : ρ 11 = M 53 57 := e3 0 _ rfl
  obtain ⟨okl, el⟩ := sh_l2 (m := 12) (a := 53) (c := 53) (fun c => sx_ck2 st c) (by decide) rfl st.2.1 r9 r10 hs hb
  refine og_use (Ts := ok_Tm) (lv := ol_2 53) (s := []) ok_cm (by decide +kernel) st okl (fun v hv => by cases hv) (Nat.le_refl _) el rfl (fun T hT ρ' M' x h0 hm' hc hM => ?_)
  have q9 := og_v x (show 9 < 12 by decide) r9
  have q10 := og_v x (show 10 < 12 by decide) r10
  have q11 := og_v x (show 11 < 12 by decide) r11
  have v9 : sx_val ρ' (9, 0) = s := og_v0 q9
  have v10 : sx_val ρ' (10, 0) = b := og_v0 q10
  simp only [ok_Tm, List.mem_cons, List.not_mem_nil, or_false] at hT
  rcases hT with rfl | rfl | rfl | rfl | rfl | rfl
  · obtain ⟨⟨c1, c2⟩, -⟩ := hc
    have c2 : sx_val ρ' (9, 0) ≤ -1 := c2
    rw [v9] at c2
    exact ⟨-1, congrArg some (tk_cv h0 (-1)), hm', Or.inl ⟨rfl, Or.inl (by omega), hM⟩⟩
  · obtain ⟨⟨c1, c2⟩, -⟩ := hc
    have c1 : 6 ≤ sx_val ρ' (9, 0) := c1
    rw [v9] at c1
    exact ⟨-1, congrArg some (tk_cv h0 (-1)), hm', Or.inl ⟨rfl, Or.inr (Or.inl (by omega)), hM⟩⟩
  · obtain ⟨-, ⟨c1, c2⟩, -⟩ := hc
    have c2 : sx_val ρ' (10, 0) ≤ -2 := c2
    rw [v10] at c2
    exact ⟨-1, congrArg some (tk_cv h0 (-1)), hm', Or.inl ⟨rfl, Or.inr (Or.inr (Or.inl (by omega))), hM⟩⟩
  · obtain ⟨-, c1, -⟩ := hc
    have c1 : ρ' 11 < ρ' 10 + 1 := c1
    rw [q10, q11] at c1
    exact ⟨-1, congrArg some (tk_cv h0 (-1)), hm', Or.inl ⟨rfl, Or.inr (Or.inr (Or.inr (by omega))), hM⟩⟩
  · obtain ⟨⟨c1, c2⟩, ⟨c3, c4⟩, -⟩ := hc
    have c1 : 0 ≤ sx_val ρ' (9, 0) := c1
    have c2 : sx_val ρ' (9, 0) ≤ 5 := c2
    have c3 : -1 ≤ sx_val ρ' (10, 0) := c3
    have c4 : sx_val ρ' (10, 0) ≤ -1 := c4
    rw [v9] at c1 c2
    rw [v10] at c3 c4
    have hM : ∀ a, a < 128 → M' a = sx_up M 87 (sx_val ρ' (9, 0)).toNat (sx_val ρ' (0, -1)) a := hM
    rw [og_c h0 (-1), v9] at hM
    refine ⟨1, congrArg some (tk_cv h0 1), hm', Or.inr ⟨rfl, by unfold kp_no; have := hB.1; omega, fun a ha => ?_⟩⟩
    rw [hM a ha, show b = -1 by omega]
  · obtain ⟨⟨c1, c2⟩, ⟨c3, c4⟩, c5, -⟩ := hc
    have c1 : 0 ≤ sx_val ρ' (9, 0) := c1
    have c2 : sx_val ρ' (9, 0) ≤ 5 := c2
    have c3 : 0 ≤ sx_val ρ' (10, 0) := c3
    have c5 : ¬ ρ' 11 < ρ' 10 + 1 := c5
    rw [v9] at c1 c2
    rw [v10] at c3
    rw [q10, q11] at c5
    have hM : ∀ a, a < 128 → M' a = sx_up M 87 (sx_val ρ' (9, 0)).toNat (sx_val ρ' (10, 0)) a := hM
    rw [v9, v10] at hM
    exact ⟨1, congrArg some (tk_cv h0 1), hm', Or.inr ⟨rfl, by unfold kp_no; omega, hM⟩⟩
end
