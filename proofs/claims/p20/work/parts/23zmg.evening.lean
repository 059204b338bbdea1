/-! An evening: both sides. -/
section
variable {WF : (Nat → Nat → Int) → Prop} {L : Nat} {xs : Nat → Int32} {M M' M0 M1 M2 M3 : Nat → Nat → Int} {ρ ρ' : Nat → Int} {C D C' D' : Nat → Int} {S c : Nat} {s k z : Int} {st : vn_S} {Q R : Option Value → (Nat → Nat → Int) → Prop}
theorem vn_from_cong {f g : Nat → vn_S → vn_S} : ∀ (m h : Nat) (st : vn_S), (∀ i st, i < h + m → f i st = g i st) → vn_from f m h st = vn_from g m h st := by
  intro m
  induction m with
  | zero => intro h st _; rfl
  | succ m ih =>
    intro h st e
    show vn_from f m (h + 1) (f h st) = vn_from g m (h + 1) (g h st)
    rw [e h st (by omega)]
    exact ih (h + 1) (g h st) (fun i st hi => e i st (by omega))
theorem vn_go_cong (hC : ∀ h, h < 6 → C h = C' h ∧ D h = D' h) : ∀ (n left : Nat) (cell hour lost hours : Int) (w : List Int) (st : vn_S), vn_go C D n left cell hour lost hours w st = vn_go C' D' n left cell hour lost hours w st := by
  intro n
  induction n with
  | zero => intro left cell hour lost hours w st; rfl
  | succ n ih =>
    intro left cell hour lost hours w st
    rw [vn_go_s, vn_go_s]
    refine vn_from_cong 6 0 st (fun i st hi => ?_)
    obtain ⟨e1, e2⟩ := hC i (by omega)
    unfold vn_f
    rw [e1, e2, ih]
def ve_st : vn_S := (7, 0, [])
def ve_r (C D : Nat → Int) (c : Nat) : vn_S := vn_go C D (vn_pc c) c 0 0 0 0 [] ve_st
theorem ve_r6 (hc : c < 64) : (ve_r C D c).1 ≤ 6 := by
  have h1 := vn_bd (C := C) (D := D) (vn_pc c) c 0 0 0 0 [] ve_st hc rfl
  have h2 := vn_pc6 hc
  unfold ve_r
  omega
theorem ve_r0 : 0 ≤ (ve_r C D c).1 := vn_ge _ _ _ _ _ _ _ _ (Int.le_refl 0) (by decide)
def ve_ans (r : vn_S) (S : Nat) (k : Int) : Int := if k = -1 then r.1 else if k = -2 then r.2.1 else if k < (S : Int) then r.2.2.getD k.toNat 0 else -2
def ve_bad (s k H : Int) : Prop := s < 0 ∨ ((2 ^ H.toNat : Nat) : Int) ≤ s ∨ k ≤ -3
theorem ve_two : ((List.range 7).all fun H => sx_an (Nat.ble (2 ^ H) 64) ((List.range (2 ^ H)).all fun c => (List.range 6).all fun h => bif c.testBit h then Nat.blt h H else true)) = true := by decide +kernel
theorem ve_64 {H : Nat} (hH : H < 7) : 2 ^ H ≤ 64 := by
  obtain ⟨h1, -⟩ := sx_an_iff.mp (List.all_eq_true.mp ve_two H (List.mem_range.mpr hH))
  exact Nat.le_of_ble_eq_true h1
theorem ve_bit {H h : Nat} (hH : H < 7) (hc : c < 2 ^ H) (hh : h < 6) (hb : c.testBit h = true) : h < H := by
  obtain ⟨-, h2⟩ := sx_an_iff.mp (List.all_eq_true.mp ve_two H (List.mem_range.mpr hH))
  have t := List.all_eq_true.mp (List.all_eq_true.mp h2 c (List.mem_range.mpr hc)) h (List.mem_range.mpr hh)
  rw [hb] at t
  exact sx_blt t
-- the walks
def ve_T1 (H : Nat) (o : Option Nat) (s : List sx_V) (l : sx_L) : List og_T := [og_r (-1) [og_b 9 og_mn (-1)], og_r (-1) [og_b 9 ((2 ^ H : Nat) : Int) og_mx], og_r (-1) [og_b 9 0 (((2 ^ H : Nat) : Int) - 1), og_b 10 og_mn (-3)], (o, none, s, l, [], [og_b 9 0 (((2 ^ H : Nat) : Int) - 1), og_b 10 (-2) og_mx])]
noncomputable def ve_t1 (a p H : Nat) : sx_S := og_t og_g2 [(a, p, ((H : Int), (H : Int)))]
theorem ve_c1 : ((List.range 7).all fun H => gs_chk (fun pc => Nat.beq pc 24) (fun u => (ve_T1 H (some 24) [(0, 9, 0), (2, 0, 29)] (ol_2 8)).any (og_chk (ve_t1 9 4 H) u)) 300 300 11 90 0 (ol_2 8) [] (ve_t1 9 4 H)) = true := by decide +kernel
theorem ve_m1 : ((List.range 7).all fun H => gs_chk (fun pc => Nat.beq pc 24) (fun u => (ve_T1 H (some 24) [] (ol_2 53)).any (og_chk (ve_t1 53 1 H) u)) 300 300 11 221 0 (ol_2 53) [] (ve_t1 53 1 H)) = true := by decide +kernel
def ve_l (c : Nat) : sx_L := [(0, 2, 0, 29), (1, 0, 0, (c : Int))]
def ve_T2 (c : Nat) : List og_T := [(some 26, none, [(0, 0, 0), (0, 0, 0), (0, 0, 0), (0, 0, 0), (0, 0, (c : Int)), (0, 0, 0), (2, 0, 29)], [], [(29, (0, 5), (0, 0)), (29, (0, 4), (0, 7)), (29, (0, 3), (0, (vn_pc c : Int)))], [])]
theorem ve_c2 : ((List.range 64).all fun c => gs_chk (fun pc => Nat.beq pc 26) (fun u => (ve_T2 c).any (og_chk (og_t [] []) u)) 300 300 10 92 0 (ve_l c) [] (og_t [] [])) = true := by decide +kernel
theorem ve_c29 : gs_chk (fun _ => false) (fun u => vx_T0.any (og_chk (og_t [] []) u)) 300 300 10 92 29 [] [] (og_t [] []) = true := by decide +kernel
def ve_m (c : Nat) : sx_L := [(0, 2, 0, 53), (1, 0, 0, (c : Int)), (2, 0, 9, 0)]
def ve_T4 (c : Nat) : List og_T := [(some 44, none, [(0, 0, 0), (0, 0, 0), (0, 0, 0), (0, 0, 0), (0, 0, 0), (0, 0, (c : Int)), (2, 0, 53)], [(0, 2, 0, 53), (2, 0, 9, 0)], [(53, (0, 46), (0, -1)), (53, (0, 45), (0, (vn_pc c : Int)))], [])]
noncomputable def ve_t4 : sx_S := og_t [(0, (-2, 2147483647))] []
theorem ve_m2 : ((List.range 64).all fun c => gs_chk (fun pc => Nat.beq pc 44) (fun u => (ve_T4 c).any (og_chk ve_t4 u)) 300 300 11 221 24 (ve_m c) [] ve_t4) = true := by decide +kernel
def ve_T3 (b : Nat) : List og_T := [(none, some (0, 11, 0), [], [], [], [og_b 9 (-1) (-1)]), (none, some (0, 12, 0), [], [], [], [og_b 9 (-2) (-2)]), (none, some (0, 13, 0), [], [], [], [og_b 9 0 5, og_l 9 10 0, (6, (9, 0), (13, 0), (b : Int), 0)]), (none, some (0, 0, -2), [], [], [], [og_b 9 0 og_mx, og_nl 9 10 0])]
def ve_l2 (a : Int) : sx_L := [(0, 2, 0, a), (2, 0, 9, 0)]
noncomputable def ve_t3 : sx_S := og_t [(0, (-2, 2147483647))] [(29, 3, (0, 6)), (29, 4, (0, 7)), (29, 5, sx_r32)]
noncomputable def ve_t5 : sx_S := og_t [(0, (-2, 2147483647))] [(53, 45, (0, 6)), (53, 46, (-1, 6)), (53, 47, sx_r32)]
theorem ve_c3 : gs_chk (fun _ => false) (fun u => (ve_T3 31).any (og_chk ve_t3 u)) 300 300 11 90 27 (ve_l2 8) [] ve_t3 = true := by decide +kernel
theorem ve_m3 : gs_chk (fun _ => false) (fun u => (ve_T3 81).any (og_chk ve_t5 u)) 300 300 11 221 47 (ve_l2 53) [] ve_t5 = true := by decide +kernel
theorem ve_hr (hc : c < 64) : vx_r ((([] : List Int).length : Nat) : Int) c 0 0 0 0 := ⟨⟨by decide, by decide⟩, hc, ⟨by decide, by decide⟩, ⟨by decide, by decide⟩, ⟨by decide, by decide⟩, ⟨by decide, by decide⟩⟩
theorem ve_ok {n : Nat} (h0 : ρ 0 = 0) (hn : 0 < n) (hc : c < 64) : sx_ok ρ n (0, 0, (c : Int)) := ⟨hn, fun _ => by
  show sx_w sx_r32 (ρ 0 + (c : Int))
  rw [h0, Int.zero_add]
  exact og_w32 (by omega) (by omega), fun e => by cases e⟩
theorem ve_work (hL : L < 2 ^ 31) (hc : c < 64) (hm : sx_mok cl_ly M) : rz_fin (fun r M' => r = none ∧ sx_mok cl_ly M' ∧ (∀ a, a < 128 → a ≠ 29 → a ≠ 30 → a ≠ 31 → M' a = M a) ∧ M' 29 3 = (vn_pc c : Int) ∧ vx_E (vn_pc c) M' (ve_r (vx_C M) (vx_D M) c)) L xs 92 10 0 [(0, .ref 29), (1, .int (Int32.ofInt (c : Int)))] [] M := by
  obtain ⟨ρ, s, n1, -, -⟩ := og_sat (xs := xs) (gs := []) (zs := []) (fs := []) hL hm trivial (fun q hq => by cases hq)
  have n1 : (og_t [] []).1 = 9 := n1
  have h00 : ρ 0 = 0 := s.2.1
  refine og_use (Ts := ve_T2 c) (lv := ve_l c) (s := []) (List.all_eq_true.mp ve_c2 c (List.mem_range.mpr hc)) (by rfl) s (fun q hq => by
    simp only [ve_l, List.mem_cons, List.not_mem_nil, or_false] at hq
    rcases hq with rfl | rfl
    · exact sx_ck2 s _
    · exact ve_ok h00 (by rw [n1]; decide) hc) (fun v hv => by cases hv) (Nat.le_refl _) (by
    show [(0, Value.ref 29), (1, sx_cv1 ρ (0, 0, (c : Int)))] = _
    rw [tk_cv h00]) rfl (fun T hT ρ' M1 x h0 hm1 hcs hM => ?_)
  rw [List.mem_singleton.mp hT] at hM ⊢
  have hM : ∀ a, a < 128 → M1 a = sx_up (sx_up (sx_up M 29 (sx_val ρ' (0, ((3 : Nat) : Int))).toNat (sx_val ρ' (0, (vn_pc c : Int)))) 29 (sx_val ρ' (0, ((4 : Nat) : Int))).toNat (sx_val ρ' (0, 7))) 29 (sx_val ρ' (0, ((5 : Nat) : Int))).toNat (sx_val ρ' (0, 0)) a := hM
  rw [vn_n h0, vn_n h0, vn_n h0, og_c h0, og_c h0, og_c h0] at hM
  have g29 : ∀ j, M1 29 j = if j = 5 then 0 else if j = 4 then 7 else if j = 3 then (vn_pc c : Int) else M 29 j := fun j => by
    rw [hM 29 (by decide)]
    simp [sx_up]
  have goth : ∀ a, a < 128 → a ≠ 29 → M1 a = M a := fun a ha g => by rw [hM a ha, sh_une g, sh_une g, sh_une g]
  have eC : vx_C M1 = vx_C M := by
    funext h
    unfold vx_C
    rw [goth 10 (by decide) (by decide)]
  have eD : vx_D M1 = vx_D M := by
    funext h
    unfold vx_D
    rw [goth 10 (by decide) (by decide)]
  show rz_fin _ L xs 92 10 26 (sx_cl1 ρ' []) [sx_cv1 ρ' (0, 0, 0), sx_cv1 ρ' (0, 0, 0), sx_cv1 ρ' (0, 0, 0), sx_cv1 ρ' (0, 0, 0), sx_cv1 ρ' (0, 0, (c : Int)), sx_cv1 ρ' (0, 0, 0), .ref 29] M1
  rw [tk_cv h0, tk_cv h0]
  have hS := vn_pc6 hc
  refine vx_call (j := 92) (pc := 26) (d := 9) (k := ((([] : List Int).length : Nat) : Int)) (R := vx_P (vn_pc c) (vn_pc c) M1 M1 c 0 0 0 0 [] ve_st) rfl rfl (ve_hr hc) (rz_d (show vn_pc c + 3 ≤ 9 by omega) (vx_all hL hS (vn_pc c) hS c 0 0 0 0 [] ve_st M1 (ve_hr hc) rfl (Nat.zero_add _) (by decide) (by decide) hm1 ⟨fun _ _ _ _ _ => rfl, fun _ _ _ => rfl⟩ ⟨g29 4, fun h => absurd h (by decide)⟩ (fun i hi => absurd hi (Nat.not_lt_zero _)))) (fun M2 hR => ?_) (fun r M' h => h.1)
  obtain ⟨-, hm2, hf2, hE2, -⟩ := hR
  rw [eC, eD] at hE2
  obtain ⟨ρ2, s2, -, -, -⟩ := og_sat (xs := xs) (gs := []) (zs := []) (fs := []) hL hm2 trivial (fun q hq => by cases hq)
  refine og_use (Ts := vx_T0) (lv := []) (s := []) ve_c29 (by rfl) s2 (fun q hq => by cases hq) (fun v hv => by cases hv) (Nat.le_refl _) rfl rfl (fun T hT ρ3 M3 x3 h03 hm3 hc3 hM3 => ?_)
  rw [List.mem_singleton.mp hT] at hM3 ⊢
  have hM3 : ∀ a, a < 128 → M3 a = M2 a := hM3
  refine ⟨rfl, hm3, fun a ha g1 g2 g3 => ?_, ?_, vx_Esame hE2 hM3⟩
  · rw [hM3 a ha, hf2.1 a ha g1 g2 g3, goth a ha g1]
  · rw [hM3 29 (by decide), hf2.2 3 (by decide) (by decide), g29]
    rfl
def ve_RX (s k : Int) (M : Nat → Nat → Int) (z : Int) (M' : Nat → Nat → Int) : Prop := (z = -1 ∧ ve_bad s k (M 9 4) ∧ ∀ a, a < 128 → M' a = M a) ∨ (¬ ve_bad s k (M 9 4) ∧ z = ve_ans (ve_r (vx_C M) (vx_D M) s.toNat) (vn_pc s.toNat) k ∧ sx_w sx_r32 z ∧ ∀ a, a < 128 → a ≠ 29 → a ≠ 30 → a ≠ 31 → M' a = M a)
theorem ve_nb {H : Nat} (h1 : 0 ≤ s) (h2 : s ≤ ((2 ^ H : Nat) : Int) - 1) (h3 : -2 ≤ k) : ¬ ve_bad s k (H : Int) := fun h => by
  unfold ve_bad at h
  rw [Int.toNat_natCast] at h
  omega
theorem ve_ans_w {r : vn_S} (w1 : sx_w sx_r32 r.1) (w2 : sx_w sx_r32 r.2.1) (w3 : ∀ i, i < S → sx_w sx_r32 (r.2.2.getD i 0)) (hk : -2 ≤ k) : sx_w sx_r32 (ve_ans r S k) := by
  unfold ve_ans
  by_cases c1 : k = -1
  · rw [if_pos c1]
    exact w1
  · rw [if_neg c1]
    by_cases c2 : k = -2
    · rw [if_pos c2]
      exact w2
    · rw [if_neg c2]
      by_cases c3 : k < (S : Int)
      · rw [if_pos c3]
        exact w3 _ (by omega)
      · rw [if_neg c3]
        exact og_w32 (by decide) (by decide)
/-- the answer, read -/
theorem ve_read {b S : Nat} {r : vn_S} (hc : c < 64) (hS : S = vn_pc c) (hk : -2 ≤ k) (h9 : ρ 9 = k) (h10 : ρ 10 = (S : Int)) (h11 : ρ 11 = r.1) (h12 : ρ 12 = r.2.1) (hb : ∀ i, i < S → M b i = r.2.2.getD i 0) (hM : M' b = M b) (h0 : ρ 0 = 0) {T : og_T} (hT : T ∈ ve_T3 b) (hcs : og_cs ρ M' T.2.2.2.2.2) : ∃ v, T.2.1 = some v ∧ sx_cv1 ρ v = .int (Int32.ofInt (ve_ans r S k)) ∧ T.1 = none ∧ T.2.2.2.2.1 = [] := by
  simp only [ve_T3, List.mem_cons, List.not_mem_nil, or_false] at hT
  rcases hT with rfl | rfl | rfl | rfl
  · obtain ⟨⟨c1, c2⟩, -⟩ := hcs
    have c1 : -1 ≤ sx_val ρ (9, 0) := c1
    have c2 : sx_val ρ (9, 0) ≤ -1 := c2
    rw [og_v0 h9] at c1 c2
    refine ⟨_, rfl, ?_, rfl, rfl⟩
    rw [og_int h11]
    unfold ve_ans
    rw [if_pos (by omega)]
  · obtain ⟨⟨c1, c2⟩, -⟩ := hcs
    have c1 : -2 ≤ sx_val ρ (9, 0) := c1
    have c2 : sx_val ρ (9, 0) ≤ -2 := c2
    rw [og_v0 h9] at c1 c2
    refine ⟨_, rfl, ?_, rfl, rfl⟩
    rw [og_int h12]
    unfold ve_ans
    rw [if_neg (by omega), if_pos (by omega)]
  · obtain ⟨⟨c1, c2⟩, c3, c4, -⟩ := hcs
    have c1 : 0 ≤ sx_val ρ (9, 0) := c1
    rw [og_v0 h9] at c1
    have c3 : ρ 9 < ρ 10 + 0 := c3
    rw [h9, h10] at c3
    have c4 : M' ((b : Int)).toNat (sx_val ρ (9, 0)).toNat = sx_val ρ (13, 0) := c4
    rw [Int.toNat_natCast, og_v0 h9, hM, hb k.toNat (by omega)] at c4
    have r13 : ρ 13 = r.2.2.getD k.toNat 0 := by
      unfold sx_val at c4
      have c4 : r.2.2.getD k.toNat 0 = ρ 13 + 0 := c4
      omega
    refine ⟨_, rfl, ?_, rfl, rfl⟩
    rw [og_int r13]
    unfold ve_ans
    rw [if_neg (by omega), if_neg (by omega), if_pos (by omega)]
  · obtain ⟨⟨c1, c2⟩, c3, -⟩ := hcs
    have c1 : 0 ≤ sx_val ρ (9, 0) := c1
    rw [og_v0 h9] at c1
    have c3 : ¬ ρ 9 < ρ 10 + 0 := c3
    rw [h9, h10] at c3
    refine ⟨_, rfl, ?_, rfl, rfl⟩
    rw [tk_cv h0]
    unfold ve_ans
    rw [if_neg (by omega), if_neg (by omega), if_neg (by omega)]
end
