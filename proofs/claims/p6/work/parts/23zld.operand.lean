/-! The reference's parser: an operand, put together; all parts. -/
section
variable {L : Nat} {xs : Nat → Int32} {M M' M0 M1 M2 M3 M4 : Nat → Nat → Int} {ρ ρ' : Nat → Int} {t : sx_S} {k ov z v w : Int} {Q R : Option Value → (Nat → Nat → Int) → Prop}
theorem yb_N {l : Nat} {a vv : sx_A} {n : Int} (h0 : ρ 0 = 0) (ql : ρ l = M 53 25) (ha : sx_val ρ a = M 53 22 + n) (hp : 0 ≤ M 53 25) (hm : sx_mok cl_ly M') (hM : ∀ b, b < 128 → M' b = og_up ρ [(53, (0, 25), (l, 1)), (68, (l, 130), vv), (67, (l, 130), (0, w)), (53, (0, 22), a)] M b) : yb_leaf n w (sx_val ρ vv) false M M' := by
  have hM : ∀ b, b < 128 → M' b = sx_up (sx_up (sx_up (sx_up M 53 (sx_val ρ (0, ((22 : Nat) : Int))).toNat (sx_val ρ a)) 67 (sx_val ρ (l, 130)).toNat (sx_val ρ (0, w))) 68 (sx_val ρ (l, 130)).toNat (sx_val ρ vv)) 53 (sx_val ρ (0, ((25 : Nat) : Int))).toNat (sx_val ρ (l, 1)) b := hM
  rw [yw_n h0, yw_n h0, og_vv (c := 1) ql, og_vv (c := 130) ql, og_c h0, ha] at hM
  refine yb_leaf_mk (l := M 53 25 + 130) (fun k => ?_) rfl (fun k => ?_) (fun k => ?_) (fun b hb g1 g2 g3 => by rw [hM b hb, sh_une g1, sh_une g3, sh_une g2, sh_une g1]) hm hp
  · rw [hM 53 (by decide)]
    by_cases a1 : k = 25
    · simp [sx_up, a1]
    · by_cases a2 : k = 22
      · simp [sx_up, a2]
      · by_cases a3 : k = 23
        · simp [sx_up, a3]
        · simp [sx_up, a1, a2, a3]
  · rw [hM 67 (by decide)]; simp [sx_up]
  · rw [hM 68 (by decide)]; simp [sx_up]
theorem yb_N1 {l : Nat} {a vv : sx_A} {n : Int} (h0 : ρ 0 = 0) (ql : ρ l = M 53 25) (ha : sx_val ρ a = M 53 22 + n) (hp : 0 ≤ M 53 25) (hm : sx_mok cl_ly M') (hM : ∀ b, b < 128 → M' b = og_up ρ [(53, (0, 22), a), (53, (0, 25), (l, 1)), (68, (l, 130), vv), (67, (l, 130), (0, w))] M b) : yb_leaf n w (sx_val ρ vv) false M M' := by
  have hM : ∀ b, b < 128 → M' b = sx_up (sx_up (sx_up (sx_up M 67 (sx_val ρ (l, 130)).toNat (sx_val ρ (0, w))) 68 (sx_val ρ (l, 130)).toNat (sx_val ρ vv)) 53 (sx_val ρ (0, ((25 : Nat) : Int))).toNat (sx_val ρ (l, 1))) 53 (sx_val ρ (0, ((22 : Nat) : Int))).toNat (sx_val ρ a) b := hM
  rw [yw_n h0, yw_n h0, og_vv (c := 1) ql, og_vv (c := 130) ql, og_c h0, ha] at hM
  refine yb_leaf_mk (l := M 53 25 + 130) (fun k => ?_) rfl (fun k => ?_) (fun k => ?_) (fun b hb g1 g2 g3 => by rw [hM b hb, sh_une g1, sh_une g1, sh_une g3, sh_une g2]) hm hp
  · rw [hM 53 (by decide)]
    by_cases a1 : k = 25
    · simp [sx_up, a1]
    · by_cases a2 : k = 22
      · simp [sx_up, a2]
      · by_cases a3 : k = 23
        · simp [sx_up, a3]
        · simp [sx_up, a1, a2, a3]
  · rw [hM 67 (by decide)]; simp [sx_up]
  · rw [hM 68 (by decide)]; simp [sx_up]
theorem yb_Nf {l : Nat} {a b' vv : sx_A} {n : Int} (h0 : ρ 0 = 0) (ql : ρ l = M 53 25) (ha : sx_val ρ a = M 53 22 + n) (hb : sx_val ρ b' = M 53 22 + n) (hp : 0 ≤ M 53 25) (hm : sx_mok cl_ly M') (hM : ∀ b, b < 128 → M' b = og_up ρ [(53, (0, 25), (l, 1)), (68, (l, 130), vv), (67, (l, 130), (0, w)), (53, (0, 23), b'), (53, (0, 22), a)] M b) : yb_leaf n w (sx_val ρ vv) true M M' := by
  have hM : ∀ b, b < 128 → M' b = sx_up (sx_up (sx_up (sx_up (sx_up M 53 (sx_val ρ (0, ((22 : Nat) : Int))).toNat (sx_val ρ a)) 53 (sx_val ρ (0, ((23 : Nat) : Int))).toNat (sx_val ρ b')) 67 (sx_val ρ (l, 130)).toNat (sx_val ρ (0, w))) 68 (sx_val ρ (l, 130)).toNat (sx_val ρ vv)) 53 (sx_val ρ (0, ((25 : Nat) : Int))).toNat (sx_val ρ (l, 1)) b := hM
  rw [yw_n h0, yw_n h0, yw_n h0, og_vv (c := 1) ql, og_vv (c := 130) ql, og_c h0, ha, hb] at hM
  refine yb_leaf_mk (l := M 53 25 + 130) (fun k => ?_) rfl (fun k => ?_) (fun k => ?_) (fun b hb g1 g2 g3 => by rw [hM b hb, sh_une g1, sh_une g3, sh_une g2, sh_une g1, sh_une g1]) hm hp
  · rw [hM 53 (by decide)]
    by_cases a1 : k = 25
    · simp [sx_up, a1]
    · by_cases a2 : k = 22
      · simp [sx_up, a2]
      · by_cases a3 : k = 23
        · simp [sx_up, a3]
        · simp [sx_up, a1, a2, a3]
  · rw [hM 67 (by decide)]; simp [sx_up]
  · rw [hM 68 (by decide)]; simp [sx_up]
theorem yb_N0 {l : Nat} {b' vv : sx_A} (h0 : ρ 0 = 0) (ql : ρ l = M 53 25) (hb : sx_val ρ b' = M 53 22) (hp : 0 ≤ M 53 25) (hm : sx_mok cl_ly M') (hM : ∀ b, b < 128 → M' b = og_up ρ [(53, (0, 25), (l, 1)), (68, (l, 130), vv), (67, (l, 130), (0, w)), (53, (0, 23), b')] M b) : yb_leaf 0 w (sx_val ρ vv) true M M' := by
  have hM : ∀ b, b < 128 → M' b = sx_up (sx_up (sx_up (sx_up M 53 (sx_val ρ (0, ((23 : Nat) : Int))).toNat (sx_val ρ b')) 67 (sx_val ρ (l, 130)).toNat (sx_val ρ (0, w))) 68 (sx_val ρ (l, 130)).toNat (sx_val ρ vv)) 53 (sx_val ρ (0, ((25 : Nat) : Int))).toNat (sx_val ρ (l, 1)) b := hM
  rw [yw_n h0, yw_n h0, og_vv (c := 1) ql, og_vv (c := 130) ql, og_c h0, hb] at hM
  refine yb_leaf_mk (l := M 53 25 + 130) (fun k => ?_) rfl (fun k => ?_) (fun k => ?_) (fun b hb g1 g2 g3 => by rw [hM b hb, sh_une g1, sh_une g3, sh_une g2, sh_une g1]) hm hp
  · rw [hM 53 (by decide)]
    by_cases a1 : k = 25
    · simp [sx_up, a1]
    · by_cases a2 : k = 22
      · simp [sx_up, a2]
      · by_cases a3 : k = 23
        · simp [sx_up, a3]
        · simp [sx_up, a1, a2, a3]
  · rw [hM 67 (by decide)]; simp [sx_up]
  · rw [hM 68 (by decide)]; simp [sx_up]
/-- digits -/
theorem yb_at (hP : ps_P M) (hm : M' 66 = M 66) {c : Nat} {x : Int} (h : M' 66 (M 53 22 + (c : Int)).toNat = x) (hlt : M 53 22 + (c : Int) < M 53 21) : yr_T M ((M 53 22).toNat + c) = x := by
  have h22 := hP.2.2.1
  unfold yr_T
  rw [if_pos (by omega), ← h, hm, show (M 53 22 + (c : Int)).toNat = (M 53 22).toNat + c by omega]
theorem yb_end (hP : ps_P M) {c : Nat} (hlt : ¬ M 53 22 + (c : Int) < M 53 21) : yr_T M ((M 53 22).toNat + c) = -1 := by
  have h22 := hP.2.2.1
  unfold yr_T
  rw [if_neg (by omega)]
theorem yk_num1 (T : Nat → Int) (a : Nat) : yk_num T a 1 = T (a + 0) - 48 := by
  show 0 * 10 + (T (a + 0) - 48) = _
  omega
theorem yk_numS (T : Nat → Int) (a c : Nat) : yk_num T a (c + 1) = yk_num T a c * 10 + (T (a + c) - 48) := rfl
theorem yk_num0 {T : Nat → Int} {a : Nat} : ∀ c, (∀ i, i < c → 48 ≤ T (a + i) ∧ T (a + i) ≤ 57) → 0 ≤ yk_num T a c := by
  intro c
  induction c with
  | zero => intro _; exact Int.le_refl 0
  | succ c ih =>
    intro h
    have h1 := ih (fun i hi => h i (by omega))
    have h2 := h c (by omega)
    rw [yk_numS]
    omega
/-- c digits were read -/
theorem yb_num (hP : ps_P M) (c : Nat) (hc : c < 4) (h : ∀ i, i < c + 1 → 48 ≤ yr_T M ((M 53 22).toNat + i) ∧ yr_T M ((M 53 22).toNat + i) ≤ 57) (hb : ¬ (48 ≤ yr_T M ((M 53 22).toNat + (c + 1)) ∧ yr_T M ((M 53 22).toNat + (c + 1)) ≤ 57)) (hv : v = yk_num (yr_T M) (M 53 22).toNat (c + 1)) (hl : yb_leaf ((c + 1 : Nat) : Int) 1 v false M M') : yr_B M M' := by
  have hlt : M 53 22 + (c : Int) < M 53 21 := by
    by_cases hh : M 53 22 + (c : Int) < M 53 21
    · exact hh
    · have := h c (by omega)
      rw [yb_end hP hh] at this
      omega
  have v0 : 0 ≤ v := by rw [hv]; exact yk_num0 (c + 1) h
  refine yb_O hP hl (by omega) (by omega) (Or.inl rfl) ?_
  rw [show ((M 53 22).toNat + ((c + 1 : Nat) : Int).toNat) = (M 53 22).toNat + (c + 1) by omega, show yr_en 1 v = v by unfold yr_en; rw [if_pos rfl, if_pos v0], hv]
  exact yk_O_num hc h hb
theorem yb_nd (l : List og_T) (h : (l.all fun T => Nat.beq T.2.2.2.1.length 0) = true) : (l.all fun T => mt_nd (T.2.2.2.1.map fun q => q.1)) = true := List.all_eq_true.mpr fun T hT => by
  rw [List.eq_nil_of_length_eq_zero (sx_nbeq.mp (List.all_eq_true.mp h T hT))]
  rfl
theorem yb_digits (hL : L < 2 ^ 31) {e : Nat} (he : e < 7) (hP : ps_P M) (hlt : M 53 22 < M 53 21) (hz : 48 ≤ M 66 (M 53 22).toNat ∧ M 66 (M 53 22).toNat ≤ 57) : rz_fin (fun r M' => r = none ∧ yr_B M M') L xs 181 (6 * e + 4) 0 [(0, .ref 53)] [] M := by
  obtain ⟨p1, p2, p3, p4, p5, p6, p7, p8⟩ := id hP
  have hT := pz_T p1
  have hok : pz_ok M := ⟨p1, p3, p4, by omega, by omega, p7, p8, p5, by omega⟩
  obtain ⟨ρ, s, n1, r9, r10, r11, r12, r13, r14, r15⟩ := yz_lsat (xs := xs) (z := 0) (g := (0, 0)) (f := (-1, -1)) (p := (48, 57)) hL hok hlt ⟨by decide, by decide⟩ sx_w0 (by rw [p2]; exact ⟨by decide, by decide⟩) hz
  refine og_use (Ts := yb_T3) (lv := [(0, 2, 0, 53)]) (s := []) (List.all_eq_true.mp yb_c3 e (List.mem_range.mpr he)) (yb_nd _ (by decide +kernel)) s (fun q hq => by rw [List.mem_singleton.mp hq]; exact sx_ck2 s _) (fun v hv => by cases hv) (Nat.le_refl _) rfl rfl (fun T hT' ρ' M' x h0 hm' hc hM => ?_)
  rw [n1] at x
  have q10 := og_v x (show 10 < 16 by decide) r10
  have q11 := og_v x (show 11 < 16 by decide) r11
  have q14 := og_v x (show 14 < 16 by decide) r14
  have q15 := og_v x (show 15 < 16 by decide) r15
  have t0 : yr_T M ((M 53 22).toNat + 0) = ρ' 15 := by rw [Nat.add_zero, yr_T_lt p3 hlt, q15]
  have z15 : 48 ≤ ρ' 15 ∧ ρ' 15 ≤ 57 := by rw [q15]; exact hz
  -- what holds for each count of digits
  have d1 : ∀ l : List og_D, og_cs ρ' M' (l ++ []) → True := fun _ _ => trivial
  have val : ∀ (s : Nat), sx_val ρ' (s, -48) = ρ' s - 48 := fun s => rfl
  have cells : ∀ {ws : List og_W}, (∀ a, a < 128 → M' a = og_up ρ' ws M a) → (ws.all fun q => sx_an (Nat.ble 53 q.1) (bif Nat.beq q.1 66 then false else true)) = true → M' 66 = M 66 := fun {ws} h h2 => by
    rw [h 66 (by decide)]
    exact og_up_ne (fun q hq e => by
      have := (sx_an_iff.mp (List.all_eq_true.mp h2 q hq)).2
      rw [e] at this
      cases this)
  have two : M' 66 = M 66 → og_cs ρ' M' yb_n2 → ρ' 17 = 10 * (ρ' 15 - 48) ∧ (48 ≤ ρ' 16 ∧ ρ' 16 ≤ 57) ∧ ρ' 18 = ρ' 17 + ρ' 16 ∧ M 66 (M 53 22 + 1).toNat = ρ' 16 ∧ M 53 22 + 1 < M 53 21 := fun h66 h => by
    obtain ⟨c0, c1, ⟨c2, c3⟩, c4, c5, -⟩ := h
    have c0 : ρ' 11 < ρ' 10 + -1 := c0
    rw [q11, q10] at c0
    have c1 : M' 66 (sx_val ρ' (11, 1)).toNat = sx_val ρ' (16, 0) := c1
    have c2 : 48 ≤ sx_val ρ' (16, 0) := c2
    have c3 : sx_val ρ' (16, 0) ≤ 57 := c3
    have c4 : ρ' 17 = sx_mf 2 (sx_val ρ' (0, 10)) (sx_val ρ' (15, -48)) := c4
    have c5 : ρ' 18 = sx_mf 0 (sx_val ρ' (17, 0)) (sx_val ρ' (16, 0)) := c5
    have v16 : sx_val ρ' (16, 0) = ρ' 16 := og_v0 rfl
    rw [v16] at c2 c3
    rw [og_c h0, og_vv (c := -48) rfl, og_mul (og_w32 (by omega) (by omega))] at c4
    rw [og_v0 c4, v16, og_add (og_w32 (by omega) (by omega))] at c5
    rw [h66, og_vv (c := 1) q11, v16] at c1
    exact ⟨by omega, ⟨c2, c3⟩, by omega, c1, by omega⟩
  have three : M' 66 = M 66 → og_cs ρ' M' yb_n3 → og_cs ρ' M' yb_n2 ∧ ρ' 20 = 10 * (ρ' 18 - 48) ∧ (48 ≤ ρ' 19 ∧ ρ' 19 ≤ 57) ∧ ρ' 21 = ρ' 20 + ρ' 19 ∧ M 66 (M 53 22 + 2).toNat = ρ' 19 ∧ M 53 22 + 2 < M 53 21 := fun h66 h => by
    obtain ⟨a0, a1, a2, a3, a4, c0, c1, ⟨c2, c3⟩, c4, c5, -⟩ := h
    have h2 : og_cs ρ' M' yb_n2 := ⟨a0, a1, a2, a3, a4, trivial⟩
    obtain ⟨u1, u2, u3, u4, -⟩ := two h66 h2
    have c0 : ρ' 11 < ρ' 10 + -2 := c0
    rw [q11, q10] at c0
    have c1 : M' 66 (sx_val ρ' (11, 2)).toNat = sx_val ρ' (19, 0) := c1
    have c2 : 48 ≤ sx_val ρ' (19, 0) := c2
    have c3 : sx_val ρ' (19, 0) ≤ 57 := c3
    have c4 : ρ' 20 = sx_mf 2 (sx_val ρ' (0, 10)) (sx_val ρ' (18, -48)) := c4
    have c5 : ρ' 21 = sx_mf 0 (sx_val ρ' (20, 0)) (sx_val ρ' (19, 0)) := c5
    have v16 : sx_val ρ' (19, 0) = ρ' 19 := og_v0 rfl
    rw [v16] at c2 c3
    rw [og_c h0, og_vv (c := -48) rfl, og_mul (og_w32 (by omega) (by omega))] at c4
    rw [og_v0 c4, v16, og_add (og_w32 (by omega) (by omega))] at c5
    rw [h66, og_vv (c := 2) q11, v16] at c1
    exact ⟨h2, by omega, ⟨c2, c3⟩, by omega, c1, by omega⟩
  have four : M' 66 = M 66 → og_cs ρ' M' yb_n4 → og_cs ρ' M' yb_n3 ∧ ρ' 23 = 10 * (ρ' 21 - 48) ∧ (48 ≤ ρ' 22 ∧ ρ' 22 ≤ 57) ∧ ρ' 24 = ρ' 23 + ρ' 22 ∧ M 66 (M 53 22 + 3).toNat = ρ' 22 ∧ M 53 22 + 3 < M 53 21 := fun h66 h => by
    obtain ⟨a0, a1, a2, a3, a4, b0, a5, a6, a7, a8, c0, c1, ⟨c2, c3⟩, c4, c5, -⟩ := h
    have h3 : og_cs ρ' M' yb_n3 := ⟨a0, a1, a2, a3, a4, b0, a5, a6, a7, a8, trivial⟩
    obtain ⟨h2, w1, w2, w3, w4, -⟩ := three h66 h3
    obtain ⟨u1, u2, u3, u4, -⟩ := two h66 h2
    have c0 : ρ' 11 < ρ' 10 + -3 := c0
    rw [q11, q10] at c0
    have c1 : M' 66 (sx_val ρ' (11, 3)).toNat = sx_val ρ' (22, 0) := c1
    have c2 : 48 ≤ sx_val ρ' (22, 0) := c2
    have c3 : sx_val ρ' (22, 0) ≤ 57 := c3
    have c4 : ρ' 23 = sx_mf 2 (sx_val ρ' (0, 10)) (sx_val ρ' (21, -48)) := c4
    have c5 : ρ' 24 = sx_mf 0 (sx_val ρ' (23, 0)) (sx_val ρ' (22, 0)) := c5
    have v16 : sx_val ρ' (22, 0) = ρ' 22 := og_v0 rfl
    rw [v16] at c2 c3
    rw [og_c h0, og_vv (c := -48) rfl, og_mul (og_w32 (by omega) (by omega))] at c4
    rw [og_v0 c4, v16, og_add (og_w32 (by omega) (by omega))] at c5
    rw [h66, og_vv (c := 3) q11, v16] at c1
    exact ⟨h3, by omega, ⟨c2, c3⟩, by omega, c1, by omega⟩
  have w66 : sx_w (-128, 127) (M 66 (M 53 22).toNat) := p1 66 _ _ _ rfl (by show (M 53 22).toNat < 120; omega) rfl
  have rd : ∀ {c : Nat} {x : Int}, M 66 (M 53 22 + (c : Int)).toNat = x → M 53 22 + (c : Int) < M 53 21 → yr_T M ((M 53 22).toNat + c) = x := fun h h2 => yb_at hP rfl h h2
  -- by how many digits: the digits, their number
  have all : ∀ (c : Nat) (q : Int × Nat × Nat × List og_D), (c = 0 ∧ q = (1, 15, 16, yb_n1)) ∨ (c = 1 ∧ q = (2, 18, 19, yb_n2)) ∨ (c = 2 ∧ q = (3, 21, 22, yb_n3)) ∨ (c = 3 ∧ q = (4, 24, 25, yb_n4)) → M' 66 = M 66 → og_cs ρ' M' q.2.2.2 → (∀ i, i < c + 1 → 48 ≤ yr_T M ((M 53 22).toNat + i) ∧ yr_T M ((M 53 22).toNat + i) ≤ 57) ∧ ρ' q.2.1 - 48 = yk_num (yr_T M) (M 53 22).toNat (c + 1) := by
    intro c q hq h66 hcs
    have b0 : 48 ≤ yr_T M ((M 53 22).toNat + 0) ∧ yr_T M ((M 53 22).toNat + 0) ≤ 57 := by rw [t0]; exact z15
    rcases hq with ⟨rfl, rfl⟩ | ⟨rfl, rfl⟩ | ⟨rfl, rfl⟩ | ⟨rfl, rfl⟩
    · refine ⟨fun i hi => ?_, ?_⟩
      · rw [show i = 0 by omega]; exact b0
      · rw [yk_num1, t0]
    · obtain ⟨u1, u2, u3, u4, u5⟩ := two h66 hcs
      have t1 := rd (c := 1) u4 u5
      refine ⟨fun i hi => ?_, ?_⟩
      · have : i = 0 ∨ i = 1 := by omega
        rcases this with rfl | rfl
        · exact b0
        · rw [t1]; exact u2
      · rw [yk_numS, yk_num1, t0, t1]
        show ρ' 18 - 48 = _
        omega
    · obtain ⟨h2, w1, w2, w3, w4, w5⟩ := three h66 hcs
      obtain ⟨u1, u2, u3, u4, u5⟩ := two h66 h2
      have t1 := rd (c := 1) u4 u5
      have t2 := rd (c := 2) w4 w5
      refine ⟨fun i hi => ?_, ?_⟩
      · have : i = 0 ∨ i = 1 ∨ i = 2 := by omega
        rcases this with rfl | rfl | rfl
        · exact b0
        · rw [t1]; exact u2
        · rw [t2]; exact w2
      · rw [yk_numS, yk_numS, yk_num1, t0, t1, t2]
        show ρ' 21 - 48 = _
        omega
    · obtain ⟨h3, y1, y2, y3, y4, y5⟩ := four h66 hcs
      obtain ⟨h2, w1, w2, w3, w4, w5⟩ := three h66 h3
      obtain ⟨u1, u2, u3, u4, u5⟩ := two h66 h2
      have t1 := rd (c := 1) u4 u5
      have t2 := rd (c := 2) w4 w5
      have t3 := rd (c := 3) y4 y5
      refine ⟨fun i hi => ?_, ?_⟩
      · have : i = 0 ∨ i = 1 ∨ i = 2 ∨ i = 3 := by omega
        rcases this with rfl | rfl | rfl | rfl
        · exact b0
        · rw [t1]; exact u2
        · rw [t2]; exact w2
        · rw [t3]; exact y2
      · rw [yk_numS, yk_numS, yk_numS, yk_num1, t0, t1, t2, t3]
        show ρ' 24 - 48 = _
        omega
  unfold yb_T3 at hT'
  rcases List.mem_cons.mp hT' with rfl | hT'
  · obtain ⟨k1, k2, ⟨k3, k4⟩, hcs⟩ := hc
    have h66 := cells hM (by rfl)
    have k1 : M' 66 (sx_val ρ' (11, 4)).toNat = sx_val ρ' (25, 0) := k1
    have k2 : ρ' 11 < ρ' 10 + -4 := k2
    have k3 : 48 ≤ sx_val ρ' (25, 0) := k3
    have k4 : sx_val ρ' (25, 0) ≤ 57 := k4
    rw [h66, og_vv (c := 4) q11] at k1
    rw [q11, q10] at k2
    obtain ⟨g1, -⟩ := all 3 (4, 24, 25, yb_n4) (Or.inr (Or.inr (Or.inr ⟨rfl, rfl⟩))) h66 hcs
    have t4 := rd (c := 4) k1 (by omega)
    refine ⟨rfl, yb_G (n := 4) hP (yb_Nf (n := 4) h0 q14 (og_vv q11) (og_vv q11) p5 hm' hM) (by decide) (by omega) ?_⟩
    refine yk_G_num (fun i hi => ?_) (by omega)
    have : i < 3 + 1 ∨ i = 4 := by omega
    rcases this with h | rfl
    · exact g1 i h
    · rw [t4]; exact ⟨k3, k4⟩
  · obtain ⟨q, hq, hT'⟩ := List.mem_flatMap.mp hT'
    obtain ⟨c, hqc, hq1⟩ : ∃ c : Nat, ((c = 0 ∧ q = (1, 15, 16, yb_n1)) ∨ (c = 1 ∧ q = (2, 18, 19, yb_n2)) ∨ (c = 2 ∧ q = (3, 21, 22, yb_n3)) ∨ (c = 3 ∧ q = (4, 24, 25, yb_n4))) ∧ q.1 = ((c + 1 : Nat) : Int) := by
      simp only [yb_nn, List.mem_cons, List.not_mem_nil, or_false] at hq
      rcases hq with rfl | rfl | rfl | rfl
      · exact ⟨0, Or.inl ⟨rfl, rfl⟩, rfl⟩
      · exact ⟨1, Or.inr (Or.inl ⟨rfl, rfl⟩), rfl⟩
      · exact ⟨2, Or.inr (Or.inr (Or.inl ⟨rfl, rfl⟩)), rfl⟩
      · exact ⟨3, Or.inr (Or.inr (Or.inr ⟨rfl, rfl⟩)), rfl⟩
    have hc4 : c < 4 := by omega
    have fin : M' 66 = M 66 → og_cs ρ' M' q.2.2.2 → ¬ (48 ≤ yr_T M ((M 53 22).toNat + (c + 1)) ∧ yr_T M ((M 53 22).toNat + (c + 1)) ≤ 57) → (∀ b, b < 128 → M' b = og_up ρ' [(53, (0, 25), (14, 1)), (68, (14, 130), (q.2.1, -48)), (67, (14, 130), (0, 1)), (53, (0, 22), (11, q.1))] M b) → yr_B M M' := fun h66 hcs hb hM => by
      obtain ⟨g1, g2⟩ := all c q hqc h66 hcs
      exact yb_num hP c hc4 g1 hb g2 (yb_N (n := ((c + 1 : Nat) : Int)) h0 q14 (by rw [og_vv q11, hq1]) p5 hm' hM)
    simp only [List.mem_cons, List.not_mem_nil, or_false] at hT'
    rcases hT' with rfl | rfl | rfl
    · obtain ⟨k2, hcs⟩ := hc
      have h66 := cells hM (by rfl)
      have k2 : ¬ ρ' 11 < ρ' 10 + -q.1 := k2
      rw [q11, q10, hq1] at k2
      refine ⟨rfl, fin h66 hcs ?_ hM⟩
      rw [yb_end hP (c := c + 1) (by omega)]
      omega
    · obtain ⟨k2, k1, ⟨k3, k4⟩, hcs⟩ := hc
      have h66 := cells hM (by rfl)
      have k2 : ρ' 11 < ρ' 10 + -q.1 := k2
      have k1 : M' 66 (sx_val ρ' (11, q.1)).toNat = sx_val ρ' (q.2.2.1, 0) := k1
      have k4 : sx_val ρ' (q.2.2.1, 0) ≤ 47 := k4
      rw [h66, og_vv q11, hq1] at k1
      rw [q11, q10, hq1] at k2
      refine ⟨rfl, fin h66 hcs ?_ hM⟩
      rw [rd (c := c + 1) k1 (by omega)]
      omega
    · obtain ⟨k2, k1, ⟨k3, k4⟩, hcs⟩ := hc
      have h66 := cells hM (by rfl)
      have k2 : ρ' 11 < ρ' 10 + -q.1 := k2
      have k1 : M' 66 (sx_val ρ' (11, q.1)).toNat = sx_val ρ' (q.2.2.1, 0) := k1
      have k3 : 58 ≤ sx_val ρ' (q.2.2.1, 0) := k3
      rw [h66, og_vv q11, hq1] at k1
      rw [q11, q10, hq1] at k2
      refine ⟨rfl, fin h66 hcs ?_ hM⟩
      rw [rd (c := c + 1) k1 (by omega)]
      omega
end
