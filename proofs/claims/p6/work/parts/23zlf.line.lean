/-! The reference's parser: a line, and what the class takes. -/
section
variable {L : Nat} {xs : Nat → Int32} {M M' M0 M1 M2 M3 M4 M5 : Nat → Nat → Int} {ρ ρ' : Nat → Int} {t : sx_S} {z : Int} {Q : Option Value → (Nat → Nat → Int) → Prop}
theorem yf_T_on (h : ct_fr lz_c M M') : yr_T M' = yr_T M := by
  funext i
  unfold yr_T
  rw [lz_T h, h 66 i (by decide) (by decide) (fun g hg => by
    simp only [lz_c, List.mem_cons, List.not_mem_nil, or_false] at hg
    rcases hg with rfl | rfl | rfl | rfl <;> exact fun e => absurd e (by decide))]
/-- what a line laid -/
def yf_W (M M' : Nat → Nat → Int) : Nat → List Int := if M' 70 (61 + M 69 1).toNat = M 53 25 then yk_w1 (yr_L M' (130 + M 53 25).toNat (M' 53 25 - M 53 25).toNat) else yk_w2 (yr_L M' (130 + M 53 25).toNat (M' 70 (61 + M 69 1).toNat - M 53 25).toNat) (yr_L M' (130 + M' 70 (61 + M 69 1).toNat).toNat (M' 53 25 - M' 70 (61 + M 69 1).toNat).toNat)
def yf_R (M M' : Nat → Nat → Int) : Prop := lz_R M M' ∧ (M' 53 23 = -1 → yk_L (yr_T M) (M 53 22).toNat (M' 53 22).toNat (yf_W M M') ∧ M' 70 (61 + M 69 1).toNat < M' 53 25) ∧ (0 ≤ M' 53 23 → yk_M (yr_T M) (M 53 21).toNat (M 53 22).toNat (M' 53 23).toNat)
theorem yf_one (hP : ps_P M0) (ho : M0 53 24 = 0) (hn : 0 ≤ M0 69 1) (h1 : lz_s 0 M0 M1) (h2 : yr_C 1 1 M1 M2) (hz : M2 53 23 = -1 → yr_T M2 (M2 53 22).toNat ≠ 63) (h3 : lz_e M2 M3) : yf_R M0 M3 := by
  have R := lz_one hP hn h1 h2.1 h3
  obtain ⟨b1, b2, b3⟩ := h2
  obtain ⟨a1, a2, a3, a4, a5, a6, a7, a8, a9, a10, a11, a12, a13⟩ := h1
  obtain ⟨c1, c2, c3, c4, c5, c6, c7, c8, c9, c10, c11, c12, c13⟩ := h3
  have o70 : M2 70 = M1 70 := ps_oth (by decide) (by decide) (by decide) (by decide) b1.2.1
  have eT1 : yr_T M1 = yr_T M0 := yf_T_on a2
  have eT2 : yr_T M2 = yr_T M1 := yr_T_on b1.2.1
  have e21 := lz_T a2
  have e70 : M3 70 (61 + M0 69 1).toNat = M0 53 25 := by rw [c9, o70]; exact a12
  have a3' : M1 53 22 = M0 53 22 := by omega
  rw [eT1, a6, ho, a3', a7] at b2
  rw [eT1, a6, ho, a3', e21] at b3
  refine ⟨R, fun e => ?_, fun e => ?_⟩
  · have hf : M2 53 23 = -1 := by omega
    have E := b2 hf
    have hz := hz hf
    rw [eT2, eT1] at hz
    have L1 : yr_L M3 (130 + M0 53 25).toNat (M2 53 25 - M0 53 25).toNat = yr_L M2 (130 + M0 53 25).toNat (M2 53 25 - M0 53 25).toNat := yr_L_on (fun i _ _ => by rw [c7, c8]; exact ⟨rfl, rfl⟩)
    have hpos : M0 53 25 < M2 53 25 := by
      rcases b1.2.2.2.2.2.2 with ⟨k1, k2, k3, k4⟩ | ⟨k1, -⟩
      · have := ps_seg_pos k4
        omega
      · omega
    refine ⟨?_, by rw [e70, c6]; exact hpos⟩
    unfold yf_W
    rw [if_pos e70, c3, c6, L1]
    exact yk_E_L E hz
  · rw [c4]
    exact yk_F_M (b3 (by omega))
theorem yf_two (hP : ps_P M0) (ho : M0 53 24 = 0) (hn : 0 ≤ M0 69 1) (h1 : lz_s 0 M0 M1) (h2 : yr_C 1 1 M1 M2) (hf : M2 53 23 = -1) (hz : yr_T M2 (M2 53 22).toNat = 63) (h3 : lz_s 1 M2 M3) (h4 : yr_C 1 1 M3 M4) (h5 : lz_e M4 M5) : yf_R M0 M5 := by
  have R := lz_two hP hn h1 h2.1 hf h3 h4.1 h5
  have hP1 := lz_P (by decide) hP h1
  obtain ⟨b1, b2, -⟩ := h2
  obtain ⟨f1, f2, f3⟩ := h4
  obtain ⟨-, q2⟩ := ps_PR hP1 b1 hf
  obtain ⟨p1, p2, p3, p4, p5, p6, p7, p8⟩ := hP
  obtain ⟨a1, a2, a3, a4, a5, a6, a7, a8, a9, a10, a11, a12, a13⟩ := h1
  obtain ⟨d1, d2, d3, d4, d5, d6, d7, d8, d9, d10, d11, d12, d13⟩ := h3
  obtain ⟨c1, c2, c3, c4, c5, c6, c7, c8, c9, c10, c11, c12, c13⟩ := h5
  have o69 : M2 69 = M1 69 := ps_oth (by decide) (by decide) (by decide) (by decide) b1.2.1
  have q70 : M4 70 = M3 70 := ps_oth (by decide) (by decide) (by decide) (by decide) f1.2.1
  have eT1 : yr_T M1 = yr_T M0 := yf_T_on a2
  have eT2 : yr_T M2 = yr_T M1 := yr_T_on b1.2.1
  have eT3 : yr_T M3 = yr_T M2 := yf_T_on d2
  have e21 := lz_T a2
  have e212 := ps_T b1.2.1
  have e213 := lz_T d2
  rw [o69, a10] at d12
  have e70 : M5 70 (61 + M0 69 1).toNat = M2 53 25 := by rw [c9, q70]; exact d12
  have a3' : M1 53 22 = M0 53 22 := by omega
  have b22 := b1.2.2.1
  have hlt : M0 53 25 < M2 53 25 := by
    rcases b1.2.2.2.2.2.2 with ⟨k1, k2, k3, k4⟩ | ⟨k1, -⟩
    · have := ps_seg_pos k4
      omega
    · omega
  have hne : ¬ M5 70 (61 + M0 69 1).toNat = M0 53 25 := by rw [e70]; omega
  have o24 : M3 53 24 = 0 := by rw [d6, q2, a6, ho]
  have E := b2 hf
  rw [eT1, a6, ho, a3', a7] at E
  rw [eT2, eT1] at hz
  have d3' : (M3 53 22).toNat = (M2 53 22).toNat + 1 := by omega
  rw [eT3, eT2, eT1, o24, d3', d7] at f2
  rw [eT3, eT2, eT1, o24, d3', e213, e212, e21] at f3
  refine ⟨R, fun e => ?_, fun e => ?_⟩
  · have E2 := f2 (by omega)
    have L1 : yr_L M5 (130 + M0 53 25).toNat (M2 53 25 - M0 53 25).toNat = yr_L M2 (130 + M0 53 25).toNat (M2 53 25 - M0 53 25).toNat := yr_L_on (fun i h1 h2 => by
      obtain ⟨u3, u4⟩ := f1.2.2.2.2.2.1 i (by omega)
      rw [c7, c8, u3, u4, d8, d9]
      exact ⟨rfl, rfl⟩)
    have L2 : yr_L M5 (130 + M2 53 25).toNat (M4 53 25 - M2 53 25).toNat = yr_L M4 (130 + M2 53 25).toNat (M4 53 25 - M2 53 25).toNat := yr_L_on (fun i _ _ => by rw [c7, c8]; exact ⟨rfl, rfl⟩)
    have hpos : M2 53 25 < M4 53 25 := by
      rcases f1.2.2.2.2.2.2 with ⟨k1, k2, k3, k4⟩ | ⟨k1, -⟩
      · have := ps_seg_pos k4
        omega
      · omega
    refine ⟨?_, by rw [e70, c6]; exact hpos⟩
    unfold yf_W
    rw [if_neg hne, e70, c3, c6, L1, L2]
    exact yk_E_L2 E hz E2
  · rw [c4]
    exact yk_F_M2 E hz (f3 (by omega))
-- the starts: as yz_*, and the number of lines
def yf_f (a b f : Int × Int) : List ct_G := yz_f a b f ++ [(69, 1, (0, 60))]
noncomputable def yf_t (g a b f : Int × Int) : sx_S := og_t [(0, g)] (yf_f a b f)
noncomputable def yf_l (g p : Int × Int) : sx_S := (sx_frl (sx_ml (yf_t g (1, 120) (0, 119) (-1, -1)) 80 (11, 0) (10, 0)) 66 (11, 0) p).2
def yf_fe : List ct_G := yz_fe (-1, -1) ++ [(69, 1, (0, 60))]
noncomputable def yf_e (g : Int × Int) : sx_S := la_ad (og_t [(0, g)] yf_fe) 53 21 (10, 0)
theorem yf_sat {g a b f : Int × Int} (hL : L < 2 ^ 31) (hok : pz_ok M) (hn : 0 ≤ M 69 1 ∧ M 69 1 ≤ 60) (hg : sx_w g z) (z32 : sx_w sx_r32 z) (ha : sx_w a (M 53 21)) (hb : sx_w b (M 53 22)) (hf : sx_w f (M 53 23)) : ∃ ρ : Nat → Int, sx_sat cl_ly (0, -100) xs L M ρ M (yf_t g a b f) ∧ (yf_t g a b f).1 = 16 ∧ ρ 9 = z ∧ ρ 10 = M 53 21 ∧ ρ 11 = M 53 22 ∧ ρ 12 = M 53 23 ∧ ρ 13 = M 53 24 ∧ ρ 14 = M 53 25 ∧ ρ 15 = M 69 1 := by
  obtain ⟨p1, p2, p3, p4, p5, p6, p7, p8, p9⟩ := hok
  have hT := pz_T p1
  obtain ⟨ρ1, s1, n1, e1, e2⟩ := og_sat (xs := xs) (gs := [(0, g)]) (zs := [z]) (fs := yf_f a b f) hL p1 ⟨⟨Nat.zero_le _, hg, fun _ => z32, sx_32_64 z32⟩, trivial⟩ (fun q hq => by
    simp only [yf_f, yz_f, List.cons_append, List.nil_append, List.mem_cons, List.not_mem_nil, or_false] at hq
    rcases hq with rfl | rfl | rfl | rfl | rfl | rfl
    · exact ⟨Nat.le_of_ble_eq_true rfl, ha, yz_w64 (x := M 53 21) (by omega) (by omega)⟩
    · exact ⟨Nat.le_of_ble_eq_true rfl, hb, yz_w64 (x := M 53 22) (by omega) (by omega)⟩
    · exact ⟨Nat.le_of_ble_eq_true rfl, hf, yz_w64 (x := M 53 23) (by omega) (by omega)⟩
    · exact ⟨Nat.le_of_ble_eq_true rfl, ⟨p6, p7⟩, yz_w64 (x := M 53 24) (by omega) (by omega)⟩
    · exact ⟨Nat.le_of_ble_eq_true rfl, ⟨p8, p9⟩, yz_w64 (x := M 53 25) (by omega) (by omega)⟩
    · exact ⟨Nat.le_of_ble_eq_true rfl, hn, yz_w64 (x := M 69 1) (by omega) (by omega)⟩)
  exact ⟨ρ1, s1, n1, e1 0 _ rfl, e2 0 _ rfl, e2 1 _ rfl, e2 2 _ rfl, e2 3 _ rfl, e2 4 _ rfl, e2 5 _ rfl⟩
theorem yf_lsat {g p : Int × Int} (hL : L < 2 ^ 31) (hok : pz_ok M) (hn : 0 ≤ M 69 1 ∧ M 69 1 ≤ 60) (hlt : M 53 22 < M 53 21) (hg : sx_w g z) (z32 : sx_w sx_r32 z) (hf : M 53 23 = -1) (hp : sx_w p (M 66 (M 53 22).toNat)) : ∃ ρ : Nat → Int, sx_sat cl_ly (0, -100) xs L M ρ M (yf_l g p) ∧ (yf_l g p).1 = 17 ∧ ρ 9 = z ∧ ρ 10 = M 53 21 ∧ ρ 11 = M 53 22 ∧ ρ 14 = M 53 25 ∧ ρ 15 = M 69 1 := by
  obtain ⟨p1, p2, p3, p4, p5, p6, p7, p8, p9⟩ := id hok
  have hT := pz_T p1
  obtain ⟨ρ1, s1, n1, r9, r10, r11, r12, r13, r14, r15⟩ := yf_sat (xs := xs) (a := (1, 120)) (b := (0, 119)) (f := (-1, -1)) hL hok hn hg z32 ⟨by show (1 : Int) ≤ M 53 21; omega, hT.2⟩ ⟨p2, by show M 53 22 ≤ (119 : Int); omega⟩ (by rw [hf]; exact ⟨by decide, by decide⟩)
  have s2 := yz_ml (x := (11, 0)) (y := (10, 0)) s1 (by show 11 < (yf_t g (1, 120) (0, 119) (-1, -1)).1; rw [n1]; decide) (by show 10 < (yf_t g (1, 120) (0, 119) (-1, -1)).1; rw [n1]; decide) (by rw [og_v0 r11, og_v0 r10]; exact hlt)
  have n2 : (sx_ml (yf_t g (1, 120) (0, 119) (-1, -1)) 80 (11, 0) (10, 0)).1 = 16 := n1
  have v11 : sx_val ρ1 (11, 0) = M 53 22 := og_v0 r11
  have w66 : sx_w (-128, 127) (M 66 (M 53 22).toNat) := p1 66 _ _ _ rfl (by show (M 53 22).toNat < 120; omega) rfl
  obtain ⟨ρ2, x2, s3, -⟩ := tg_rd (k := 66) (i := (11, 0)) (r := p) (n := 16) s2 n2 (by decide) (by decide) (by rw [v11]; exact p2) (by rw [v11]; exact hp) (by rw [v11]; exact ⟨Int.le_trans (by decide) w66.1, Int.le_trans w66.2 (by decide)⟩)
  have y : ∀ {k : Nat} {q : Int}, ρ1 k = q → k < 16 → ρ2 k = q := fun h hk => by rw [x2 _ hk]; exact h
  refine ⟨ρ2, s3, ?_, y r9 (by decide), y r10 (by decide), y r11 (by decide), y r14 (by decide), y r15 (by decide)⟩
  show (sx_ml (yf_t g (1, 120) (0, 119) (-1, -1)) 80 (11, 0) (10, 0)).1 + 1 = 17
  rw [n2]
theorem yf_esat {g : Int × Int} (hL : L < 2 ^ 31) (hok : pz_ok M) (hn : 0 ≤ M 69 1 ∧ M 69 1 ≤ 60) (he : M 53 22 = M 53 21) (hg : sx_w g z) (z32 : sx_w sx_r32 z) (hf : M 53 23 = -1) : ∃ ρ : Nat → Int, sx_sat cl_ly (0, -100) xs L M ρ M (yf_e g) ∧ (yf_e g).1 = 15 ∧ ρ 9 = z ∧ ρ 13 = M 53 25 ∧ ρ 14 = M 69 1 := by
  obtain ⟨p1, p2, p3, p4, p5, p6, p7, p8, p9⟩ := hok
  have hT := pz_T p1
  obtain ⟨ρ1, s1, n1, e1, e2⟩ := og_sat (xs := xs) (gs := [(0, g)]) (zs := [z]) (fs := yf_fe) hL p1 ⟨⟨Nat.zero_le _, hg, fun _ => z32, sx_32_64 z32⟩, trivial⟩ (fun q hq => by
    simp only [yf_fe, yz_fe, List.cons_append, List.nil_append, List.mem_cons, List.not_mem_nil, or_false] at hq
    rcases hq with rfl | rfl | rfl | rfl | rfl
    · exact ⟨Nat.le_of_ble_eq_true rfl, ⟨p2, by show M 53 22 ≤ (120 : Int); omega⟩, yz_w64 (x := M 53 22) (by omega) (by omega)⟩
    · exact ⟨Nat.le_of_ble_eq_true rfl, (by show sx_w (-1, -1) (M 53 23); rw [hf]; exact ⟨by decide, by decide⟩), yz_w64 (x := M 53 23) (by omega) (by omega)⟩
    · exact ⟨Nat.le_of_ble_eq_true rfl, ⟨p6, p7⟩, yz_w64 (x := M 53 24) (by omega) (by omega)⟩
    · exact ⟨Nat.le_of_ble_eq_true rfl, ⟨p8, p9⟩, yz_w64 (x := M 53 25) (by omega) (by omega)⟩
    · exact ⟨Nat.le_of_ble_eq_true rfl, hn, yz_w64 (x := M 69 1) (by omega) (by omega)⟩)
  have n1 : (og_t [(0, g)] yf_fe).1 = 15 := n1
  have r10 : ρ1 10 = M 53 22 := e2 0 _ rfl
  exact ⟨ρ1, la_ad_ok s1 (by decide) (by show 10 < (og_t [(0, g)] yf_fe).1; rw [n1]; decide) (by rw [og_v0 r10]; exact he.symm), n1, e1 0 _ rfl, e2 3 _ rfl, e2 4 _ rfl⟩
-- the walks
def yf_T1 : List og_T := [(some 22, none, [(2, 0, 53)], [(0, 2, 0, 53), (1, 0, 15, 61)], [(70, (15, 61), (14, 0))], [])]
theorem yf_c1 : gs_chk (fun pc => Nat.beq pc 22) (fun u => yf_T1.any (og_chk (yf_t (0, 0) (0, 120) (0, 120) (-1, -1)) u)) 400 400 46 175 0 [(0, 2, 0, 53)] [] (yf_t (0, 0) (0, 120) (0, 120) (-1, -1)) = true := by decide +kernel
def yf_Te (k l : Nat) : List og_T := [(none, none, [], [], [(69, (0, 1), (k, 1)), (71, (9, 0), (l, 0))], [])]
def yf_Ts : List og_T := [(some 63, none, [(2, 0, 53)], ya_l2, [(70, (9, 0), (14, 0)), (53, (0, 22), (11, 1))], [])]
noncomputable def yf_c (p : Nat) (t : sx_S) (Ts : List og_T) : Bool := gs_chk (fun pc => Nat.beq pc 63) (fun u => Ts.any (og_chk t u)) 400 400 46 175 p ya_l2 [] t
theorem yf_c2 : yf_c 25 (yf_t (61, 121) (0, 120) (0, 120) (0, 120)) (yf_Te 15 14) = true := by decide +kernel
theorem yf_c3 : yf_c 25 (yf_l (61, 121) (63, 63)) yf_Ts = true := by decide +kernel
theorem yf_c4 : yf_c 25 (yf_l (61, 121) (-128, 62)) (yf_Te 15 14) = true := by decide +kernel
theorem yf_c5 : yf_c 25 (yf_l (61, 121) (64, 127)) (yf_Te 15 14) = true := by decide +kernel
theorem yf_c6 : yf_c 25 (yf_e (61, 121)) (yf_Te 14 13) = true := by decide +kernel
theorem yf_c7 : yf_c 66 (yf_t (61, 121) (0, 120) (0, 120) (-1, 120)) (yf_Te 15 14) = true := by decide +kernel
theorem yf_end {k l : Nat} (h0 : ρ 0 = 0) (hk : ρ k = M 69 1) (hl : ρ l = M 53 25) (h9 : ρ 9 = M 69 1 + 61) (hn : 0 ≤ M 69 1) (hm : sx_mok cl_ly M') (hM : ∀ a, a < 128 → M' a = og_up ρ [(69, (0, 1), (k, 1)), (71, (9, 0), (l, 0))] M a) : lz_e M M' := by
  have hM : ∀ a, a < 128 → M' a = sx_up (sx_up M 71 (sx_val ρ (9, 0)).toNat (sx_val ρ (l, 0))) 69 (sx_val ρ (0, ((1 : Nat) : Int))).toNat (sx_val ρ (k, 1)) a := hM
  rw [yw_n h0, og_vv (c := 1) hk, og_v0 h9, og_v0 hl] at hM
  have ee : (M 69 1 + 61).toNat = (61 + M 69 1).toNat := by omega
  rw [ee] at hM
  have h69 : ∀ i, M' 69 i = if i = 1 then M 69 1 + 1 else M 69 i := fun i => by rw [hM 69 (by decide)]; simp [sx_up]
  have h71 : ∀ i, M' 71 i = if i = (61 + M 69 1).toNat then M 53 25 else M 71 i := fun i => by rw [hM 71 (by decide)]; simp [sx_up]
  have hoth : ∀ a, a < 128 → a ≠ 69 → a ≠ 71 → M' a = M a := fun a ha g1 g2 => by rw [hM a ha, sh_une g1, sh_une g2]
  have o53 := hoth 53 (by decide) (by decide) (by decide)
  refine ⟨hm, fun a i ha hmm _ => ?_, by rw [o53], by rw [o53], by rw [o53], by rw [o53], hoth 67 (by decide) (by decide) (by decide), hoth 68 (by decide) (by decide) (by decide), hoth 70 (by decide) (by decide) (by decide), h69 1, fun i hi => by rw [h69, if_neg hi], by rw [h71, if_pos rfl], fun i hi => by rw [h71, if_neg (by omega)]⟩
  rw [hoth a ha (fun h => hmm (by rw [h]; simp [lz_c])) (fun h => hmm (by rw [h]; simp [lz_c]))]
theorem yf_s {dh : Int} (h53 : ∀ k, M' 53 k = if k = 22 then M 53 22 + dh else M 53 k) (h70 : ∀ k, M' 70 k = if k = (61 + M 69 1).toNat then M 53 25 else M 70 k) (hoth : ∀ a, a < 128 → a ≠ 53 → a ≠ 70 → M' a = M a) (hm : sx_mok cl_ly M') (hle : M 53 22 + dh ≤ M 53 21) (hn : 0 ≤ M 69 1) : lz_s dh M M' := by
  have e22 : M' 53 22 = M 53 22 + dh := h53 22
  refine ⟨hm, fun a i ha hmm hp => ?_, e22, by omega, h53 23, h53 24, h53 25, hoth 67 (by decide) (by decide) (by decide), hoth 68 (by decide) (by decide) (by decide), hoth 69 (by decide) (by decide) (by decide), hoth 71 (by decide) (by decide) (by decide), by rw [h70, if_pos rfl], fun i hi => by rw [h70, if_neg (by omega)]⟩
  by_cases e : a = 53
  · subst e
    rw [h53, if_neg (fun e => hp (53, 22, sx_r32) (by simp [lz_c]) rfl e.symm)]
  · rw [hoth a ha e (fun h => hmm (by rw [h]; simp [lz_c]))]
theorem yf_s0 (q15 : ρ 15 = M 69 1) (q14 : ρ 14 = M 53 25) (hle : M 53 22 ≤ M 53 21) (hn : 0 ≤ M 69 1) (hm : sx_mok cl_ly M') (hM : ∀ a, a < 128 → M' a = og_up ρ [(70, (15, 61), (14, 0))] M a) : lz_s 0 M M' := by
  have hM : ∀ a, a < 128 → M' a = sx_up M 70 (sx_val ρ (15, 61)).toNat (sx_val ρ (14, 0)) a := hM
  rw [og_vv (c := 61) q15, og_v0 q14, show (M 69 1 + 61).toNat = (61 + M 69 1).toNat by omega] at hM
  refine yf_s (fun k => ?_) (fun k => ?_) (fun a ha _ g2 => by rw [hM a ha, sh_une g2]) hm (by omega) hn
  · rw [hM 53 (by decide), sh_une (by decide)]
    by_cases e : k = 22
    · rw [if_pos e, e, Int.add_zero]
    · rw [if_neg e]
  · rw [hM 70 (by decide)]
    simp [sx_up]
theorem yf_s1 (h0 : ρ 0 = 0) (q9 : ρ 9 = M 69 1 + 61) (q14 : ρ 14 = M 53 25) (q11 : ρ 11 = M 53 22) (hlt : M 53 22 < M 53 21) (hn : 0 ≤ M 69 1) (hm : sx_mok cl_ly M') (hM : ∀ a, a < 128 → M' a = og_up ρ [(70, (9, 0), (14, 0)), (53, (0, 22), (11, 1))] M a) : lz_s 1 M M' := by
  have hM : ∀ a, a < 128 → M' a = sx_up (sx_up M 53 (sx_val ρ (0, ((22 : Nat) : Int))).toNat (sx_val ρ (11, 1))) 70 (sx_val ρ (9, 0)).toNat (sx_val ρ (14, 0)) a := hM
  rw [yw_n h0, og_vv (c := 1) q11, og_v0 q9, og_v0 q14, show (M 69 1 + 61).toNat = (61 + M 69 1).toNat by omega] at hM
  refine yf_s (fun k => ?_) (fun k => ?_) (fun a ha g1 g2 => by rw [hM a ha, sh_une g2, sh_une g1]) hm (by omega) hn
  · rw [hM 53 (by decide)]
    simp [sx_up]
  · rw [hM 70 (by decide)]
    simp [sx_up]
theorem yf_fin {p k l : Nat} (c : yf_c p t (yf_Te k l) = true) (s : sx_sat cl_ly (0, -100) xs L M ρ M t) (h9 : 9 < t.1) (hk : k < t.1) (hl : l < t.1) (r9 : ρ 9 = z) (z32 : sx_w sx_r32 z) (rk : ρ k = M 69 1) (rl : ρ l = M 53 25) (ez : z = M 69 1 + 61) (hn : 0 ≤ M 69 1) (K : ∀ M', lz_e M M' → Q none M') : rz_fin Q L xs 175 46 p (ya_V z) [] M := by
  refine og_use (Ts := yf_Te k l) (lv := ya_l2) (s := []) c (by rfl) s (ya_okl (fun c => sx_ck2 s c) h9 r9 z32 (Or.inr rfl)) (fun v hv => by cases hv) (Nat.le_refl _) (ya_V9 z ρ r9) rfl (fun T hT' ρ' M' x h0 hm' hc hM => ?_)
  rw [List.mem_singleton.mp hT'] at hM ⊢
  exact K M' (yf_end h0 (og_v x hk rk) (og_v x hl rl) ((og_v x h9 r9).trans ez) hn hm' hM)
/-- behind the second call -/
theorem yf_last (hL : L < 2 ^ 31) (hok : pz_ok M) (hn : 0 ≤ M 69 1 ∧ M 69 1 ≤ 60) (ez : z = M 69 1 + 61) (K : ∀ M', lz_e M M' → Q none M') : rz_fin Q L xs 175 46 66 (ya_V z) [] M := by
  obtain ⟨p1, p2, p3, p4, p5, p6, p7, p8, p9⟩ := id hok
  have hT := pz_T p1
  have z32 : sx_w sx_r32 z := og_w32 (by omega) (by omega)
  obtain ⟨ρ, s, n1, r9, r10, r11, r12, r13, r14, r15⟩ := yf_sat (xs := xs) (z := z) (g := (61, 121)) (a := (0, 120)) (b := (0, 120)) (f := (-1, 120)) hL hok hn ⟨by show (61 : Int) ≤ z; omega, by show z ≤ (121 : Int); omega⟩ z32 hT ⟨p2, by show M 53 22 ≤ (120 : Int); omega⟩ ⟨p4, p5⟩
  exact yf_fin yf_c7 s (by rw [n1]; decide) (by rw [n1]; decide) (by rw [n1]; decide) r9 z32 r15 r14 ez hn.1 K
/-- behind the first call -/
theorem yf_mid (hL : L < 2 ^ 31) (hok : pz_ok M) (hn : 0 ≤ M 69 1 ∧ M 69 1 ≤ 60) (ez : z = M 69 1 + 61) (K : ∀ M', (M 53 23 = -1 → yr_T M (M 53 22).toNat ≠ 63) → lz_e M M' → Q none M') (K1 : ∀ M', M 53 23 = -1 → yr_T M (M 53 22).toNat = 63 → lz_s 1 M M' → rz_fin Q L xs 175 46 63 (ya_V z) [.ref 53] M') : rz_fin Q L xs 175 46 25 (ya_V z) [] M := by
  obtain ⟨p1, p2, p3, p4, p5, p6, p7, p8, p9⟩ := id hok
  have hT := pz_T p1
  have z32 : sx_w sx_r32 z := og_w32 (by omega) (by omega)
  have wz : sx_w (61, 121) z := ⟨by show (61 : Int) ≤ z; omega, by show z ≤ (121 : Int); omega⟩
  by_cases hf : M 53 23 = -1
  · by_cases hlt : M 53 22 < M 53 21
    · have eT := yr_T_lt p2 hlt
      have w66 : sx_w (-128, 127) (M 66 (M 53 22).toNat) := p1 66 _ _ _ rfl (by show (M 53 22).toNat < 120; omega) rfl
      obtain ⟨w1, w2⟩ := w66
      have w1 : -128 ≤ M 66 (M 53 22).toNat := w1
      have w2 : M 66 (M 53 22).toNat ≤ 127 := w2
      by_cases h63 : M 66 (M 53 22).toNat = 63
      · obtain ⟨ρ, s, n1, r9, r10, r11, r14, r15⟩ := yf_lsat (xs := xs) (g := (61, 121)) (p := (63, 63)) hL hok hn hlt wz z32 hf (by rw [h63]; exact ⟨by decide, by decide⟩)
        refine og_use (Ts := yf_Ts) (lv := ya_l2) (s := []) yf_c3 (by rfl) s (ya_okl (fun c => sx_ck2 s c) (by rw [n1]; decide) r9 z32 (Or.inr rfl)) (fun v hv => by cases hv) (Nat.le_refl _) (ya_V9 z ρ r9) rfl (fun T hT' ρ' M' x h0 hm' hc hM => ?_)
        rw [n1] at x
        have q9 := og_v x (show 9 < 17 by decide) r9
        rw [List.mem_singleton.mp hT'] at hM ⊢
        show rz_fin _ L xs 175 46 63 (sx_cl1 ρ' ya_l2) [.ref 53] M'
        rw [ya_V9 z ρ' q9]
        exact K1 M' hf (eT.trans h63) (yf_s1 h0 (q9.trans ez) (og_v x (show 14 < 17 by decide) r14) (og_v x (show 11 < 17 by decide) r11) hlt hn.1 hm' hM)
      · have K := fun M' => K M' (fun _ => by rw [eT]; exact h63)
        by_cases h62 : M 66 (M 53 22).toNat ≤ 62
        · obtain ⟨ρ, s, n1, r9, r10, r11, r14, r15⟩ := yf_lsat (xs := xs) (g := (61, 121)) (p := (-128, 62)) hL hok hn hlt wz z32 hf ⟨w1, h62⟩
          exact yf_fin yf_c4 s (by rw [n1]; decide) (by rw [n1]; decide) (by rw [n1]; decide) r9 z32 r15 r14 ez hn.1 K
        · obtain ⟨ρ, s, n1, r9, r10, r11, r14, r15⟩ := yf_lsat (xs := xs) (g := (61, 121)) (p := (64, 127)) hL hok hn hlt wz z32 hf ⟨by show (64 : Int) ≤ M 66 (M 53 22).toNat; omega, w2⟩
          exact yf_fin yf_c5 s (by rw [n1]; decide) (by rw [n1]; decide) (by rw [n1]; decide) r9 z32 r15 r14 ez hn.1 K
    · have hee : M 53 22 = M 53 21 := by omega
      obtain ⟨ρ, s, n1, r9, r13, r14⟩ := yf_esat (xs := xs) (g := (61, 121)) hL hok hn hee wz z32 hf
      exact yf_fin yf_c6 s (by rw [n1]; decide) (by rw [n1]; decide) (by rw [n1]; decide) r9 z32 r14 r13 ez hn.1 (fun M' => K M' (fun _ => by rw [yr_T_ge hee p2]; decide))
  · obtain ⟨ρ, s, n1, r9, r10, r11, r12, r13, r14, r15⟩ := yf_sat (xs := xs) (z := z) (g := (61, 121)) (a := (0, 120)) (b := (0, 120)) (f := (0, 120)) hL hok hn wz z32 hT ⟨p2, by show M 53 22 ≤ (120 : Int); omega⟩ ⟨by show (0 : Int) ≤ M 53 23; omega, p5⟩
    exact yf_fin yf_c2 s (by rw [n1]; decide) (by rw [n1]; decide) (by rw [n1]; decide) r9 z32 r15 r14 ez hn.1 (fun M' => K M' (fun h => absurd h hf))
theorem yf_line (hL : L < 2 ^ 31) (hP : ps_P M) (ho : M 53 24 = 0) (hn : 0 ≤ M 69 1 ∧ M 69 1 ≤ 60) : rz_fin (fun r M' => r = none ∧ yf_R M M') L xs 175 46 0 [(0, .ref 53)] [] M := by
  have hok := yi_ok hP
  obtain ⟨p1, p2, p3, p4, p5, p6, p7, p8⟩ := id hP
  have hT := pz_T p1
  obtain ⟨ρ, s, n1, r9, r10, r11, r12, r13, r14, r15⟩ := yf_sat (xs := xs) (z := 0) (g := (0, 0)) (a := (0, 120)) (b := (0, 120)) (f := (-1, -1)) hL hok hn ⟨by decide, by decide⟩ sx_w0 hT ⟨p3, by show M 53 22 ≤ (120 : Int); omega⟩ (by rw [p2]; exact ⟨by decide, by decide⟩)
  refine og_use (Ts := yf_T1) (lv := [(0, 2, 0, 53)]) (s := []) yf_c1 (by rfl) s (fun q hq => by rw [List.mem_singleton.mp hq]; exact sx_ck2 s _) (fun v hv => by cases hv) (Nat.le_refl _) rfl rfl (fun T hT' ρ' M1 x h0 hm1 hc hM => ?_)
  rw [n1] at x
  have q14 := og_v x (show 14 < 16 by decide) r14
  have q15 := og_v x (show 15 < 16 by decide) r15
  rw [List.mem_singleton.mp hT'] at hM ⊢
  have hS1 : lz_s 0 M M1 := yf_s0 q15 q14 p4 hn.1 hm1 hM
  have hP1 := lz_P (by decide) hP hS1
  obtain ⟨-, -, -, -, -, a6, -, -, -, a10, -⟩ := id hS1
  have ho1 : M1 53 24 = 0 := by rw [a6, ho]
  show rz_fin _ L xs 175 46 22 (sx_cl1 ρ' [(0, 2, 0, 53), (1, 0, 15, 61)]) [.ref 53] M1
  have eV : sx_cl1 ρ' [(0, 2, 0, 53), (1, 0, 15, 61)] = ya_V (M 69 1 + 61) := by
    show [(0, Value.ref 53), (1, sx_cv1 ρ' (0, 15, 61))] = _
    rw [sx_cvk0 (v := (0, 15, 61)) rfl, og_vv (c := 61) q15]
    rfl
  rw [eV]
  refine yr_call (d := 45) (d' := 45) lz_f22 rfl (Nat.le_of_ble_eq_true rfl) (Nat.le_refl _) (yi_top hL) hP1 ho1 (fun M2 hR2 => ?_)
  have q69 : M2 69 1 = M 69 1 := by rw [ps_oth (by decide) (by decide) (by decide) (by decide) hR2.1.2.1, a10]
  refine yf_mid hL (ps_okM hP1 hR2.1) (by rw [q69]; exact hn) (by rw [q69]) (fun M3 hz h3 => ⟨rfl, yf_one hP ho hn.1 hS1 hR2 hz h3⟩) (fun M3 hf hz h3 => ?_)
  obtain ⟨hP2, ho2⟩ := ps_PR hP1 hR2.1 hf
  have hP3 := lz_P (by decide) hP2 h3
  obtain ⟨-, -, -, -, -, d6, -, -, -, d10, -⟩ := id h3
  have ho3 : M3 53 24 = 0 := by rw [d6, ho2, ho1]
  refine yr_call (d := 45) (d' := 45) lz_f63 rfl (Nat.le_of_ble_eq_true rfl) (Nat.le_refl _) (yi_top hL) hP3 ho3 (fun M4 hR4 => ?_)
  have t69 : M4 69 1 = M 69 1 := by rw [ps_oth (by decide) (by decide) (by decide) (by decide) hR4.1.2.1, d10, q69]
  exact yf_last hL (ps_okM hP3 hR4.1) (by rw [t69]; exact hn) (by rw [t69]) (fun M5 h5 => ⟨rfl, yf_two hP ho hn.1 hS1 hR2 hf hz h3 hR4 h5⟩)
end
