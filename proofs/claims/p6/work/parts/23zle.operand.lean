/-! The reference's parser: any operand; all parts. -/
section
variable {L : Nat} {xs : Nat → Int32} {M M' M0 M1 M2 M3 M4 : Nat → Nat → Int} {ρ ρ' : Nat → Int} {t : sx_S} {k ov z v w : Int} {Q R : Option Value → (Nat → Nat → Int) → Prop}
theorem yi_ok (hP : ps_P M) : pz_ok M := by
  obtain ⟨p1, p2, p3, p4, p5, p6, p7, p8⟩ := hP
  have hT := pz_T p1
  exact ⟨p1, p3, p4, by omega, by omega, p7, p8, p5, by omega⟩
/-- a sign that opens was read -/
theorem yi_D (hP : ps_P M) (hlt : M 53 22 < M 53 21) (ho : M 53 24 ≤ 5) (h0 : ρ 0 = 0) (q11 : ρ 11 = M 53 22) (q13 : ρ 13 = M 53 24) (hm : sx_mok cl_ly M') (hM : ∀ b, b < 128 → M' b = og_up ρ [(53, (0, 22), (11, 1)), (53, (0, 24), (13, 1))] M b) : po_D M M' := by
  have hM : ∀ b, b < 128 → M' b = sx_up (sx_up M 53 (sx_val ρ (0, ((24 : Nat) : Int))).toNat (sx_val ρ (13, 1))) 53 (sx_val ρ (0, ((22 : Nat) : Int))).toNat (sx_val ρ (11, 1)) b := hM
  rw [yw_n h0, yw_n h0, og_vv (c := 1) q11, og_vv (c := 1) q13] at hM
  have h53 : ∀ k, M' 53 k = if k = 22 then M 53 22 + 1 else if k = 24 then M 53 24 + 1 else M 53 k := fun k => by
    rw [hM 53 (by decide)]
    by_cases a1 : k = 22
    · simp [sx_up, a1]
    · by_cases a2 : k = 24
      · simp [sx_up, a2]
      · simp [sx_up, a1, a2]
  have hoth : ∀ a, a < 128 → a ≠ 53 → M' a = M a := fun a ha g => by rw [hM a ha, sh_une g, sh_une g]
  have e22 : M' 53 22 = M 53 22 + 1 := h53 22
  have e24 : M' 53 24 = M 53 24 + 1 := h53 24
  refine ⟨hm, fun a i ha hmm hp => ?_, e22, by omega, h53 23, e24, by omega, h53 25, hoth 67 (by decide) (by decide), hoth 68 (by decide) (by decide)⟩
  by_cases e : a = 53
  · subst e
    rw [h53, if_neg (fun e => hp (53, 22, sx_r32) (by simp [ps_c]) rfl e.symm), if_neg (fun e => hp (53, 24, sx_r32) (by simp [ps_c]) rfl e.symm)]
  · rw [hoth a ha e]
/-- behind the operand of ! or - -/
theorem yi_px (hL : L < 2 ^ 31) {e : Nat} (he : e < 7) (hw : (z = 33 ∧ w = 3) ∨ (z = 45 ∧ w = 4)) (hP : ps_P M) (hD : po_D M M1) (hT : yr_T M (M 53 22).toNat = z) (h2 : yr_B M1 M2) : rz_fin (fun r M' => r = none ∧ yr_B M M') L xs 181 (6 * e + 4) 58 [(0, .ref 53), (1, .int (Int32.ofInt z))] [] M2 := by
  have hok := ps_okM (po_P hP hD) h2.1
  obtain ⟨p1, p2, p3, p4, p5, p6, p7, p8, p9⟩ := id hok
  have hTT := pz_T p1
  have z32 : sx_w sx_r32 z := og_w32 (by omega) (by omega)
  have hmem : (z, w) ∈ [((33 : Int), (3 : Int)), (45, 4)] := by
    rcases hw with ⟨rfl, rfl⟩ | ⟨rfl, rfl⟩ <;> decide
  obtain ⟨ρ, s, n1, r9, r10, r11, r12, r13, r14⟩ := yz_sat (xs := xs) (z := z) (g := (z, z)) (a := (0, 120)) (b := (0, 120)) (f := (-1, 120)) hL hok ⟨Int.le_refl _, Int.le_refl _⟩ z32 hTT ⟨p2, by show M2 53 22 ≤ (120 : Int); omega⟩ ⟨p4, p5⟩
  refine og_use (Ts := yb_T4 w) (lv := [(0, 2, 0, 53), (1, 0, 9, 0)]) (s := []) (List.all_eq_true.mp (List.all_eq_true.mp yb_c4 e (List.mem_range.mpr he)) (z, w) hmem) (by rfl) s (ya_okl (fun c => sx_ck2 s c) (by rw [n1]; decide) r9 z32 (Or.inr rfl)) (fun v hv => by cases hv) (Nat.le_refl _) (ya_V9 z ρ r9) rfl (fun T hT' ρ' M' x h0 hm' hc hM => ?_)
  rw [n1] at x
  have q13 := og_v x (show 13 < 15 by decide) r13
  have q14 := og_v x (show 14 < 15 by decide) r14
  rw [List.mem_singleton.mp hT'] at hM ⊢
  have hM : ∀ b, b < 128 → M' b = sx_up (sx_up (sx_up (sx_up M2 53 (sx_val ρ' (0, ((24 : Nat) : Int))).toNat (sx_val ρ' (13, -1))) 67 (sx_val ρ' (14, 130)).toNat (sx_val ρ' (0, w))) 68 (sx_val ρ' (14, 130)).toNat (sx_val ρ' (0, 0))) 53 (sx_val ρ' (0, ((25 : Nat) : Int))).toNat (sx_val ρ' (14, 1)) b := hM
  rw [yw_n h0, yw_n h0, og_vv (c := -1) q13, og_vv (c := 130) q14, og_vv (c := 1) q14, og_c h0, og_c h0, show (M2 53 25 + 130).toNat = (130 + M2 53 25).toNat by omega] at hM
  have h53 : ∀ k, M' 53 k = if k = 25 then M2 53 25 + 1 else if k = 24 then M2 53 24 + -1 else M2 53 k := fun k => by
    rw [hM 53 (by decide)]
    by_cases a1 : k = 25
    · simp [sx_up, a1]
    · by_cases a2 : k = 24
      · simp [sx_up, a2]
      · simp [sx_up, a1, a2]
  have h67 : ∀ k, M' 67 k = if k = (130 + M2 53 25).toNat then w else M2 67 k := fun k => by rw [hM 67 (by decide)]; simp [sx_up]
  have h68 : ∀ k, M' 68 k = if k = (130 + M2 53 25).toNat then 0 else M2 68 k := fun k => by rw [hM 68 (by decide)]; simp [sx_up]
  have hoth : ∀ a, a < 128 → a ≠ 53 → a ≠ 67 → a ≠ 68 → M' a = M2 a := fun a ha g1 g2 g3 => by rw [hM a ha, sh_une g1, sh_une g3, sh_une g2, sh_une g1]
  have e24 : M' 53 24 = M2 53 24 + -1 := h53 24
  refine ⟨rfl, yb_px hw hP hD hT h2 hm' (fun a i ha hmm hp => ?_) (h53 22) (h53 23) (by omega) (h53 25) (by rw [h67, if_pos rfl]) (fun i hi => ⟨by rw [h67, if_neg (by omega)], by rw [h68, if_neg (by omega)]⟩)⟩
  by_cases e : a = 53
  · subst e
    rw [h53, if_neg (fun e => hp (53, 25, sx_r32) (by simp [ps_c]) rfl e.symm), if_neg (fun e => hp (53, 24, sx_r32) (by simp [ps_c]) rfl e.symm)]
  · rw [hoth a ha e (fun h => hmm (by rw [h]; simp [ps_c])) (fun h => hmm (by rw [h]; simp [ps_c]))]
/-- behind what stands in brackets -/
theorem yi_br (hL : L < 2 ^ 31) {e : Nat} (he : e < 7) (hP : ps_P M) (hD : po_D M M1) (hT : yr_T M (M 53 22).toNat = 40) (h2 : yr_C 1 1 M1 M2) : rz_fin (fun r M' => r = none ∧ yr_B M M') L xs 181 (6 * e + 4) 105 [(0, .ref 53)] [] M2 := by
  have hok := ps_okM (po_P hP hD) h2.1
  obtain ⟨p1, p2, p3, p4, p5, p6, p7, p8, p9⟩ := id hok
  have hTT := pz_T p1
  obtain ⟨c1, c2⟩ := sx_an_iff.mp (List.all_eq_true.mp yb_c5 e (List.mem_range.mpr he))
  obtain ⟨c2, c3⟩ := sx_an_iff.mp c2
  by_cases hf : M2 53 23 = -1
  · by_cases hlt : M2 53 22 < M2 53 21
    · have w66 : sx_w (-128, 127) (M2 66 (M2 53 22).toNat) := p1 66 _ _ _ rfl (by show (M2 53 22).toNat < 120; omega) rfl
      obtain ⟨ρ, s, n1, r9, r10, r11, r12, r13, r14, r15⟩ := yz_lsat (xs := xs) (z := 0) (g := (0, 0)) (f := (-1, -1)) (p := (-128, 127)) hL hok hlt ⟨by decide, by decide⟩ sx_w0 (by rw [hf]; exact ⟨by decide, by decide⟩) w66
      have eT := yr_T_lt p2 hlt
      refine og_use (Ts := yb_T5) (lv := [(0, 2, 0, 53)]) (s := []) c1 (by rfl) s (fun q hq => by rw [List.mem_singleton.mp hq]; exact sx_ck2 s _) (fun v hv => by cases hv) (Nat.le_refl _) rfl rfl (fun T hT' ρ' M' x h0 hm' hc hM => ?_)
      rw [n1] at x
      have q11 := og_v x (show 11 < 16 by decide) r11
      have q13 := og_v x (show 13 < 16 by decide) r13
      have q15 := og_v x (show 15 < 16 by decide) r15
      simp only [yb_T5, List.mem_cons, List.not_mem_nil, or_false] at hT'
      rcases hT' with rfl | rfl
      · obtain ⟨⟨k1, k2⟩, -⟩ := hc
        have k1 : 41 ≤ sx_val ρ' (15, 0) := k1
        have k2 : sx_val ρ' (15, 0) ≤ 41 := k2
        rw [og_v0 q15] at k1 k2
        have hM : ∀ b, b < 128 → M' b = sx_up (sx_up M2 53 (sx_val ρ' (0, ((22 : Nat) : Int))).toNat (sx_val ρ' (11, 1))) 53 (sx_val ρ' (0, ((24 : Nat) : Int))).toNat (sx_val ρ' (13, -1)) b := hM
        rw [yw_n h0, yw_n h0, og_vv (c := 1) q11, og_vv (c := -1) q13] at hM
        refine ⟨rfl, yb_br2 hP hD hT h2 hf hlt (by rw [eT]; omega) hm' (fun k => ?_) (fun a ha g => by rw [hM a ha, sh_une g, sh_une g])⟩
        rw [hM 53 (by decide)]
        by_cases a1 : k = 22
        · simp [sx_up, a1]
        · by_cases a2 : k = 24
          · simp only [sx_up, a2, if_pos]
            simp
            omega
          · simp [sx_up, a1, a2]
      · obtain ⟨k1, -⟩ := hc
        have k1 : ρ' 15 ≠ 41 := k1
        rw [q15] at k1
        have hM : ∀ b, b < 128 → M' b = sx_up M2 53 (sx_val ρ' (0, ((23 : Nat) : Int))).toNat (sx_val ρ' (11, 0)) b := hM
        rw [yw_n h0, og_v0 q11] at hM
        exact ⟨rfl, yb_br1 hP hD hT h2 hf (by rw [eT]; exact k1) hm' (fun k => by rw [hM 53 (by decide)]; simp [sx_up]) (fun a ha g => by rw [hM a ha, sh_une g])⟩
    · have hee : M2 53 22 = M2 53 21 := by omega
      obtain ⟨ρ, s, n1, r9, r10, -⟩ := yz_esat (xs := xs) (z := 0) (g := (0, 0)) (f := (-1, -1)) hL hok hee ⟨by decide, by decide⟩ sx_w0 (by rw [hf]; exact ⟨by decide, by decide⟩)
      refine og_use (Ts := yb_T6) (lv := [(0, 2, 0, 53)]) (s := []) c2 (by rfl) s (fun q hq => by rw [List.mem_singleton.mp hq]; exact sx_ck2 s _) (fun v hv => by cases hv) (Nat.le_refl _) rfl rfl (fun T hT' ρ' M' x h0 hm' hc hM => ?_)
      rw [n1] at x
      have q10 := og_v x (show 10 < 14 by decide) r10
      rw [List.mem_singleton.mp hT'] at hM ⊢
      have hM : ∀ b, b < 128 → M' b = sx_up M2 53 (sx_val ρ' (0, ((23 : Nat) : Int))).toNat (sx_val ρ' (10, 0)) b := hM
      rw [yw_n h0, og_v0 q10] at hM
      exact ⟨rfl, yb_br1 hP hD hT h2 hf (by rw [yr_T_ge hee p2]; decide) hm' (fun k => by rw [hM 53 (by decide)]; simp [sx_up]) (fun a ha g => by rw [hM a ha, sh_une g])⟩
  · obtain ⟨ρ, s, n1, -⟩ := yz_sat (xs := xs) (z := 0) (g := (0, 0)) (a := (0, 120)) (b := (0, 120)) (f := (0, 120)) hL hok ⟨by decide, by decide⟩ sx_w0 hTT ⟨p2, by show M2 53 22 ≤ (120 : Int); omega⟩ ⟨by show (0 : Int) ≤ M2 53 23; omega, p5⟩
    refine og_use (Ts := ya_N) (lv := [(0, 2, 0, 53)]) (s := []) c3 ya_nd0 s (fun q hq => by rw [List.mem_singleton.mp hq]; exact sx_ck2 s _) (fun v hv => by cases hv) (Nat.le_refl _) rfl rfl (fun T hT' ρ' M' x h0 hm' hc hM => ?_)
    rw [List.mem_singleton.mp hT'] at hM ⊢
    exact ⟨rfl, yb_br0 hP hD hT h2 (by omega) hm' hM⟩
theorem yi_f102 : (sm_MT 181).2.2.2.2.2 102 = some (.invokevirtual 231, 3) := rfl
/-- ( ! - -/
theorem yi_op (hL : L < 2 ^ 31) {e : Nat} (he : e < 7) (hov : ov = 6 - (e : Int)) (hO : e ≠ 0 → yr_S L xs 181 (6 * e + 3) yr_B (ov + 1)) (hE : e ≠ 0 → yr_S L xs 176 (6 * e + 3) (yr_C 1 1) (ov + 1)) (hP : ps_P M) (ho : M 53 24 = ov) (hlt : M 53 22 < M 53 21) (hz : M 66 (M 53 22).toNat = z) (hzs : z = 40 ∨ z = 33 ∨ z = 45) : rz_fin (fun r M' => r = none ∧ yr_B M M') L xs 181 (6 * e + 4) 0 [(0, .ref 53)] [] M := by
  obtain ⟨p1, p2, p3, p4, p5, p6, p7, p8⟩ := id hP
  have eT := (yr_T_lt p3 hlt).trans hz
  have hmem : z ∈ [(40 : Int), 33, 45] := by
    simp only [List.mem_cons, List.not_mem_nil, or_false]
    exact hzs
  obtain ⟨ρ, s, n1, r9, r10, r11, r12, r13, r14, r15⟩ := yz_lsat (xs := xs) (z := 0) (g := (0, 0)) (f := (-1, -1)) (p := (z, z)) hL (yi_ok hP) hlt ⟨by decide, by decide⟩ sx_w0 (by rw [p2]; exact ⟨by decide, by decide⟩) (by rw [hz]; exact ⟨Int.le_refl _, Int.le_refl _⟩)
  refine og_use (Ts := yb_T2 z) (lv := [(0, 2, 0, 53)]) (s := []) (List.all_eq_true.mp (List.all_eq_true.mp yb_c2 e (List.mem_range.mpr he)) z hmem) (by rfl) s (fun q hq => by rw [List.mem_singleton.mp hq]; exact sx_ck2 s _) (fun v hv => by cases hv) (Nat.le_refl _) rfl rfl (fun T hT' ρ' M' x h0 hm' hc hM => ?_)
  rw [n1] at x
  have q11 := og_v x (show 11 < 16 by decide) r11
  have q13 := og_v x (show 13 < 16 by decide) r13
  simp only [yb_T2, List.mem_cons, List.not_mem_nil, or_false] at hT'
  rcases hT' with rfl | rfl
  · obtain ⟨⟨k1, k2⟩, -⟩ := hc
    have k1 : 6 ≤ sx_val ρ' (13, 0) := k1
    rw [og_v0 q13] at k1
    have hM : ∀ b, b < 128 → M' b = sx_up M 53 (sx_val ρ' (0, ((23 : Nat) : Int))).toNat (sx_val ρ' (11, 0)) b := hM
    rw [yw_n h0, og_v0 q11] at hM
    refine ⟨rfl, yb_G6 hP hm' (fun k => by rw [hM 53 (by decide)]; simp [sx_up]) (fun a ha g => by rw [hM a ha, sh_une g]) (yk_G_0 (by omega) (fun _ => k1) ?_ ?_)⟩
    · rw [eT]; omega
    · rw [eT]
      rcases hzs with rfl | rfl | rfl <;> rfl
  · obtain ⟨⟨k1, k2⟩, -⟩ := hc
    have k2 : sx_val ρ' (13, 0) ≤ 5 := k2
    rw [og_v0 q13] at k2
    have hD := yi_D hP hlt k2 h0 q11 q13 hm' hM
    have hP1 := po_P hP hD
    have ho1 : M' 53 24 = ov + 1 := by rw [hD.2.2.2.2.2.1, ho]
    have e0 : e ≠ 0 := by omega
    rcases hzs with rfl | rfl | rfl
    · show rz_fin _ L xs 181 (6 * e + 4) 102 (sx_cl1 ρ' (ya_k 40)) [.ref 53] M'
      refine rz_le (a := [(0, .ref 53)]) ?_ (yr_call (d := 6 * e + 3) (d' := 6 * e + 3) yi_f102 rfl (Nat.le_of_ble_eq_true rfl) (Nat.le_refl _) (hE e0) hP1 ho1 (fun M2 hR2 => yi_br hL he hP hD eT hR2))
      rw [ya_Vk 40 ρ' h0 (og_v x (show 15 < 16 by decide) (r15.trans hz))]
      refine ⟨by show ([0] : List Nat).Nodup; decide, by show ([0, 1] : List Nat).Nodup; decide, fun k v hv => ?_⟩
      show (if (0 : Nat) = k then some (Value.ref 53) else _) = some v
      have hv : (if (0 : Nat) = k then some (Value.ref 53) else none) = some v := hv
      by_cases hk : 0 = k
      · rw [if_pos hk] at hv ⊢
        exact hv
      · rw [if_neg hk] at hv
        cases hv
    · show rz_fin _ L xs 181 (6 * e + 4) 55 (sx_cl1 ρ' (ya_k 33)) [.ref 53] M'
      rw [ya_Vk 33 ρ' h0 (og_v x (show 15 < 16 by decide) (r15.trans hz))]
      exact yr_call (d := 6 * e + 3) (d' := 6 * e + 3) po_f55 rfl (Nat.le_of_ble_eq_true rfl) (Nat.le_refl _) (hO e0) hP1 ho1 (fun M2 hR2 => yi_px hL he (Or.inl ⟨rfl, rfl⟩) hP hD eT hR2)
    · show rz_fin _ L xs 181 (6 * e + 4) 55 (sx_cl1 ρ' (ya_k 45)) [.ref 53] M'
      rw [ya_Vk 45 ρ' h0 (og_v x (show 15 < 16 by decide) (r15.trans hz))]
      exact yr_call (d := 6 * e + 3) (d' := 6 * e + 3) po_f55 rfl (Nat.le_of_ble_eq_true rfl) (Nat.le_refl _) (hO e0) hP1 ho1 (fun M2 hR2 => yi_px hL he (Or.inr ⟨rfl, rfl⟩) hP hD eT hR2)
theorem yi_all (hL : L < 2 ^ 31) {e : Nat} (he : e < 7) (hov : ov = 6 - (e : Int)) (hO : e ≠ 0 → yr_S L xs 181 (6 * e + 3) yr_B (ov + 1)) (hE : e ≠ 0 → yr_S L xs 176 (6 * e + 3) (yr_C 1 1) (ov + 1)) : yr_S L xs 181 (6 * e + 4) yr_B ov := by
  intro M hP ho
  obtain ⟨p1, p2, p3, p4, p5, p6, p7, p8⟩ := id hP
  have hTT := pz_T p1
  obtain ⟨c1, c2⟩ := sx_an_iff.mp (List.all_eq_true.mp yb_c0 e (List.mem_range.mpr he))
  have f23 : sx_w (-1, -1) (M 53 23) := by rw [p2]; exact ⟨by decide, by decide⟩
  by_cases hlt : M 53 22 < M 53 21
  · have eT := yr_T_lt p3 hlt
    have w66 : sx_w (-128, 127) (M 66 (M 53 22).toNat) := p1 66 _ _ _ rfl (by show (M 53 22).toNat < 120; omega) rfl
    obtain ⟨w1, w2⟩ := w66
    have w1 : -128 ≤ M 66 (M 53 22).toNat := w1
    have w2 : M 66 (M 53 22).toNat ≤ 127 := w2
    obtain ⟨z, hz⟩ : ∃ z, M 66 (M 53 22).toNat = z := ⟨_, rfl⟩
    rw [hz] at w1 w2 eT
    by_cases cp : z = 40 ∨ z = 33 ∨ z = 45
    · exact yi_op hL he hov hO hE hP ho hlt hz cp
    · by_cases cd : 48 ≤ z ∧ z ≤ 57
      · exact yb_digits hL he hP hlt (by rw [hz]; exact cd)
      · rcases yk_name_ok z with ⟨nm, d1, d2, d3, d4, d5, d6⟩ | ⟨nm, hmem⟩
        · obtain ⟨q, hq, hq1⟩ : ∃ q ∈ yb_gl, q.1 ≤ z ∧ z ≤ q.2 := by
            have : (-128 ≤ z ∧ z ≤ 32) ∨ (34 ≤ z ∧ z ≤ 39) ∨ (41 ≤ z ∧ z ≤ 44) ∨ (46 ≤ z ∧ z ≤ 47) ∨ (58 ≤ z ∧ z ≤ 98) ∨ (101 ≤ z ∧ z ≤ 101) ∨ (103 ≤ z ∧ z ≤ 103) ∨ (105 ≤ z ∧ z ≤ 109) ∨ (111 ≤ z ∧ z ≤ 113) ∨ (115 ≤ z ∧ z ≤ 127) := by omega
            rcases this with h | h | h | h | h | h | h | h | h | h
            · exact ⟨(-128, 32), by decide, h⟩
            · exact ⟨(34, 39), by decide, h⟩
            · exact ⟨(41, 44), by decide, h⟩
            · exact ⟨(46, 47), by decide, h⟩
            · exact ⟨(58, 98), by decide, h⟩
            · exact ⟨(101, 101), by decide, h⟩
            · exact ⟨(103, 103), by decide, h⟩
            · exact ⟨(105, 109), by decide, h⟩
            · exact ⟨(111, 113), by decide, h⟩
            · exact ⟨(115, 127), by decide, h⟩
          obtain ⟨ρ, s, n1, r9, r10, r11, r12, r13, r14, r15⟩ := yz_lsat (xs := xs) (z := 0) (g := (0, 0)) (f := (-1, -1)) (p := q) hL (yi_ok hP) hlt ⟨by decide, by decide⟩ sx_w0 f23 (by rw [hz]; exact hq1)
          refine og_use (Ts := yb_T0 14 (11, 0)) (lv := [(0, 2, 0, 53)]) (s := []) (List.all_eq_true.mp c2 q hq) (by rfl) s (fun q hq => by rw [List.mem_singleton.mp hq]; exact sx_ck2 s _) (fun v hv => by cases hv) (Nat.le_refl _) rfl rfl (fun T hT' ρ' M' x h0 hm' hc hM => ?_)
          rw [n1] at x
          have q11 := og_v x (show 11 < 16 by decide) r11
          have q14 := og_v x (show 14 < 16 by decide) r14
          rw [List.mem_singleton.mp hT'] at hM ⊢
          refine ⟨rfl, yb_G (n := 0) hP (yb_N0 h0 q14 (og_v0 q11) p5 hm' hM) (Int.le_refl 0) (by omega) ?_⟩
          refine yk_G_0 (by omega) (fun h => ?_) ?_ ?_
          · rw [eT] at h; omega
          · rw [eT]; exact cd
          · rw [eT]; exact nm
        · obtain ⟨ρ, s, n1, r9, r10, r11, r12, r13, r14, r15⟩ := yz_lsat (xs := xs) (z := 0) (g := (0, 0)) (f := (-1, -1)) (p := (z, z)) hL (yi_ok hP) hlt ⟨by decide, by decide⟩ sx_w0 f23 (by rw [hz]; exact ⟨Int.le_refl _, Int.le_refl _⟩)
          refine og_use (Ts := yb_T1 (yk_name z)) (lv := [(0, 2, 0, 53)]) (s := []) (List.all_eq_true.mp (List.all_eq_true.mp yb_c1 e (List.mem_range.mpr he)) (z, yk_name z) hmem) (by rfl) s (fun q hq => by rw [List.mem_singleton.mp hq]; exact sx_ck2 s _) (fun v hv => by cases hv) (Nat.le_refl _) rfl rfl (fun T hT' ρ' M' x h0 hm' hc hM => ?_)
          rw [n1] at x
          have q11 := og_v x (show 11 < 16 by decide) r11
          have q14 := og_v x (show 14 < 16 by decide) r14
          rw [List.mem_singleton.mp hT'] at hM ⊢
          have hl := yb_N1 (n := 1) h0 q14 (og_vv q11) p5 hm' hM
          rw [og_c h0] at hl
          have kb : 0 ≤ yk_name z ∧ yk_name z ≤ 5 := by
            simp only [yo_nl, List.mem_cons, Prod.mk.injEq, List.not_mem_nil, or_false] at hmem
            omega
          refine ⟨rfl, yb_O hP hl (Int.le_refl 1) (by omega) (Or.inr ⟨rfl, kb.1, kb.2⟩) ?_⟩
          have := yk_O_name (T := yr_T M) (ov := M 53 24) (a := (M 53 22).toNat) (by rw [eT]; exact nm)
          rw [eT] at this
          exact this
  · have hee : M 53 22 = M 53 21 := by omega
    have eT := yr_T_ge hee p3
    obtain ⟨ρ, s, n1, r9, r10, r11, r12, r13⟩ := yz_esat (xs := xs) (z := 0) (g := (0, 0)) (f := (-1, -1)) hL (yi_ok hP) hee ⟨by decide, by decide⟩ sx_w0 f23
    refine og_use (Ts := yb_T0 13 (10, 0)) (lv := [(0, 2, 0, 53)]) (s := []) c1 (by rfl) s (fun q hq => by rw [List.mem_singleton.mp hq]; exact sx_ck2 s _) (fun v hv => by cases hv) (Nat.le_refl _) rfl rfl (fun T hT' ρ' M' x h0 hm' hc hM => ?_)
    rw [n1] at x
    have q10 := og_v x (show 10 < 14 by decide) r10
    have q13 := og_v x (show 13 < 14 by decide) r13
    rw [List.mem_singleton.mp hT'] at hM ⊢
    refine ⟨rfl, yb_G (n := 0) hP (yb_N0 h0 q13 (og_v0 q10) p5 hm' hM) (Int.le_refl 0) (by omega) ?_⟩
    refine yk_G_0 (by omega) (fun h => ?_) ?_ ?_
    · rw [eT] at h; omega
    · rw [eT]; decide
    · rw [eT]; rfl
theorem yr_up_d {j d d' : Nat} {Rel : (Nat → Nat → Int) → (Nat → Nat → Int) → Prop} (h : yr_S L xs j d Rel ov) (hd : d ≤ d') : yr_S L xs j d' Rel ov := fun M hP ho => rz_d hd (h M hP ho)
/-- all the parts, by how many may still be opened -/
theorem yi_parts (hL : L < 2 ^ 31) : ∀ e : Nat, e < 7 → yr_S L xs 181 (6 * e + 4) yr_B (6 - (e : Int)) ∧ yr_S L xs 176 (6 * e + 9) (yr_C 1 1) (6 - (e : Int)) := by
  intro e
  have up : ∀ e : Nat, e < 7 → yr_S L xs 181 (6 * e + 4) yr_B (6 - (e : Int)) → yr_S L xs 181 (6 * e + 4) yr_B (6 - (e : Int)) ∧ yr_S L xs 176 (6 * e + 9) (yr_C 1 1) (6 - (e : Int)) := fun e he h => ⟨h, ya_either hL he (ya_both hL he (ya_compared hL he (ya_sum hL he (ya_product hL he h))))⟩
  induction e with
  | zero => exact fun he => up 0 he (yi_all hL he rfl (fun h => absurd rfl h) (fun h => absurd rfl h))
  | succ e ih =>
    intro he
    obtain ⟨i1, i2⟩ := ih (by omega)
    have eq : (6 - ((e + 1 : Nat) : Int)) + 1 = 6 - (e : Int) := by omega
    refine up (e + 1) he (yi_all hL he rfl (fun _ => ?_) (fun _ => ?_))
    · rw [eq]; exact yr_up_d i1 (by omega)
    · rw [eq]; exact i2
theorem yi_top (hL : L < 2 ^ 31) : yr_S L xs 176 45 (yr_C 1 1) 0 := (yi_parts hL 6 (by decide)).2
end
