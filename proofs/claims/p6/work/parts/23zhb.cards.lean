/-! cards: the reference; how far it comes along the row. -/
section
variable {WF : (Nat → Nat → Int) → Prop} {L : Nat} {xs : Nat → Int32} {M M' M0 M1 M2 N : Nat → Nat → Int} {ρ ρ' : Nat → Int} {t : sx_S} {Q : Option Value → (Nat → Nat → Int) → Prop} {i n : Int} {c k : Nat}
theorem og_w64 {z : Int} (h1 : -9223372036854775808 ≤ z) (h2 : z ≤ 9223372036854775807) : sx_w sx_r64 z := ⟨h1, h2⟩
theorem og_add64 {a b : Int} (h : sx_w sx_r64 (a + b)) : sx_mf 32 a b = a + b := by
  show (Int64.ofInt a + Int64.ofInt b).toInt = a + b
  rw [← Int64.ofInt_add]
  exact sx_i64 h
def yd_g : List ct_Q := [(0, sx_r32), (0, (1, 12)), (0, (0, 12))]
def yd_f (c : Nat) : List ct_G := [(88, c, (0, 60)), (53, 1, (0, 6)), (53, 8, (0, 12))]
noncomputable def yd_t (c : Nat) : sx_S := og_t yd_g (yd_f c)
def yd_l (c : Nat) (b : Int) : sx_L := [(0, 2, 0, 53), (1, 0, 0, (c : Int)), (2, 0, 9, 0), (3, 0, 10, 0), (4, 0, 11, b)]
def yd_b : List og_D := [og_l 11 10 0, (5, (0, 2), (11, 0), 2, 15), (5, (9, 0), (15, 0), 32, 16)]
def yd_ro (a : sx_A) : List og_D := [(6, a, (17, 0), 89, 0), (5, (17, 0), (0, 0), 64, 18)]
def yd_rd (a : sx_A) : List og_D := [(6, (a.1, a.2 + 1), (19, 0), 89, 0), (5, (19, 0), (0, 0), 64, 20)]
def yd_TT (c : Nat) (a : sx_A) (lc : List og_D) : List og_T := [xd_k (og_b 14 12 12 :: (lc ++ yd_b)), xd_k (og_b 18 og_mn (-1) :: (yd_ro a ++ (lc ++ yd_b))), xd_k (og_l 13 18 1 :: (yd_ro a ++ (lc ++ yd_b))), xd_k (og_b 20 og_mn (-2) :: (yd_rd a ++ (yd_ro a ++ (lc ++ yd_b)))), xd_k (og_b 20 30 og_mx :: (yd_rd a ++ (yd_ro a ++ (lc ++ yd_b)))), (some 58, none, [], yd_l c 1, [(53, (0, 8), (14, 1)), (59, (14, 0), (18, 0)), (60, (14, 0), (20, 0))], og_b 18 0 og_mx :: og_nl 13 18 1 :: og_b 20 (-1) 29 :: og_b 14 0 11 :: (yd_rd a ++ (yd_ro a ++ (lc ++ yd_b))))]
def yd_T0 (c : Nat) : List og_T := [xd_k (og_b 16 og_mn (-1) :: yd_b), xd_k (og_b 16 0 0 :: og_b 12 0 1 :: yd_b), xd_k (og_nl 16 12 (-1) :: og_b 16 1 2147483669 :: yd_b), (none, some (0, 10, 0), [], [], [], [og_nl 11 10 0])]
def yd_T (c : Nat) : List og_T := yd_T0 c ++ (yd_TT c (0, 60 * (c : Int)) [og_b 16 0 0, og_b 12 2 60] ++ yd_TT c (16, 60 * (c : Int)) [og_b 16 1 58, og_l 16 12 (-1)])
theorem yd_c : ((List.range 6).all fun c => gs_chk (fun pc => Nat.beq pc 58) (fun o => (yd_T c).any (og_chk (yd_t c) o)) 300 300 4 158 60 (yd_l c 0) [(0, 11, 0)] (yd_t c)) = true := by decide +kernel
theorem yd_nd : ((List.range 6).all fun c => (yd_T c).all fun T => mt_nd (T.2.2.2.1.map fun q => q.1)) = true := by decide +kernel
def yd_v (c : Nat) (i n k : Int) : sm_V := [(0, .ref 53), (1, .int (Int32.ofInt (c : Int))), (2, .int (Int32.ofInt i)), (3, .int (Int32.ofInt n)), (4, .int (Int32.ofInt k))]
theorem yd_cl {b y : Int} (h0 : ρ 0 = 0) (r9 : ρ 9 = i) (r10 : ρ 10 = n) (hb : sx_val ρ (11, b) = y) : sx_cl1 ρ (yd_l c b) = yd_v c i n y := by
  show [(0, Value.ref 53), (1, sx_cv1 ρ (0, 0, (c : Int))), (2, sx_cv1 ρ (0, 9, 0)), (3, sx_cv1 ρ (0, 10, 0)), (4, sx_cv1 ρ (0, 11, b))] = _
  rw [tk_cv h0 (c : Int), og_int r9, og_int r10, sx_cvk0 (v := (0, 11, b)) rfl]
  show [(0, Value.ref 53), (1, Value.int (Int32.ofInt (c : Int))), (2, Value.int (Int32.ofInt i)), (3, Value.int (Int32.ofInt n)), (4, Value.int (Int32.ofInt (sx_val ρ (11, b))))] = _
  rw [hb]
  rfl
/-- a card comes: p the place in the elements -/
def yd_ok (c : Nat) (N : Nat → Nat → Int) (i n : Int) (k : Nat) : Prop := (k : Int) < n ∧ 0 ≤ i + 2 * (k : Int) ∧ i + 2 * (k : Int) + 1 < N 88 c ∧ 0 ≤ xd_o (N 89) (60 * c + (i + 2 * (k : Int)).toNat) ∧ xd_o (N 89) (60 * c + (i + 2 * (k : Int)).toNat) < N 53 1 ∧ -1 ≤ xd_o (N 89) (60 * c + (i + 2 * (k : Int)).toNat + 1) ∧ xd_o (N 89) (60 * c + (i + 2 * (k : Int)).toNat + 1) ≤ 29 ∧ N 53 8 < 12
def yd_up (c : Nat) (N : Nat → Nat → Int) (i : Int) (k : Nat) : Nat → Nat → Int := sx_up (sx_up (sx_up N 60 (N 53 8).toNat (xd_o (N 89) (60 * c + (i + 2 * (k : Int)).toNat + 1))) 59 (N 53 8).toNat (xd_o (N 89) (60 * c + (i + 2 * (k : Int)).toNat))) 53 8 (N 53 8 + 1)
theorem yd_fall : ((List.range 6).all fun c => (yd_f c).all fun g => sx_an (Nat.blt g.1 128) (sx_an (cv_ly cl_ly g) (cv_ly cl_ly (g.1, g.2.1, sx_r32)))) = true := by decide +kernel
theorem yd_fok (hm : sx_mok cl_ly M) (hc : c < 6) : ∀ g ∈ yd_f c, g.1 < 128 ∧ sx_w g.2.2 (M g.1 g.2.1) ∧ sx_w sx_r64 (M g.1 g.2.1) := fun g hg => by
  obtain ⟨h1, h2⟩ := sx_an_iff.mp (List.all_eq_true.mp (List.all_eq_true.mp yd_fall c (List.mem_range.mpr hc)) g hg)
  obtain ⟨h2, h3⟩ := sx_an_iff.mp h2
  exact og_f hm h1 h3 (cv_ly_ok hm h2)
theorem yd_TTok {a : sx_A} {lc : List og_D} {T : og_T} (hT : T ∈ yd_TT c a lc) (h0 : ρ' 0 = 0) (hm' : sx_mok cl_ly M') (q9 : ρ' 9 = i) (q10 : ρ' 10 = n) (q11 : ρ' 11 = (k : Int)) (q13 : ρ' 13 = N 53 1) (q14 : ρ' 14 = N 53 8) (hi : sx_w sx_r32 i) (hk : k ≤ 12) (hlc : og_cs ρ' M' lc → 0 ≤ ρ' 16 ∧ ρ' 16 + 1 < N 88 c) (ha : og_cs ρ' M' lc → sx_val ρ' a = ρ' 16 + 60 * (c : Int)) (hc : og_cs ρ' M' T.2.2.2.2.2) (hM : ∀ a, a < 128 → M' a = og_up ρ' T.2.2.2.2.1 N a) (ex : ∀ N', sx_mok cl_ly N' → (∀ a, a < 128 → N' a = N a) → ¬ yd_ok c N i n k → Q (some (.int (Int32.ofInt (k : Int)))) N') (next : ∀ N', sx_mok cl_ly N' → yd_ok c N i n k → (∀ a, a < 128 → N' a = yd_up c N i k a) → rz_fin Q L xs 158 4 58 (yd_v c i n ((k + 1 : Nat) : Int)) [] N') : og_K Q L xs 158 4 T ρ' M' := by
  have hi' := sx_r32_iff.mp hi
  have bs : og_cs ρ' M' (lc ++ yd_b) → (k : Int) < n ∧ ρ' 16 = i + 2 * (k : Int) ∧ 0 ≤ ρ' 16 ∧ ρ' 16 + 1 < N 88 c ∧ sx_val ρ' a = ρ' 16 + 60 * (c : Int) := fun h => by
    obtain ⟨h1, d1, d2, d3, -⟩ := og_cs_app.mp h
    have d1 : ρ' 11 < ρ' 10 + 0 := d1
    have d2 : ρ' 15 = sx_mf 2 (sx_val ρ' (0, 2)) (sx_val ρ' (11, 0)) := d2
    have d3 : ρ' 16 = sx_mf 32 (sx_val ρ' (9, 0)) (sx_val ρ' (15, 0)) := d3
    rw [q11, q10] at d1
    rw [og_c h0, og_v0 q11, og_mul (og_w32 (by omega) (by omega))] at d2
    rw [og_v0 q9, og_v0 d2, og_add64 (og_w64 (by omega) (by omega))] at d3
    obtain ⟨l1, l2⟩ := hlc h1
    exact ⟨by omega, d3, l1, l2, ha h1⟩
  have ro : (∀ a, a < 128 → a ≠ 53 → a ≠ 59 → a ≠ 60 → M' a = N a) → og_cs ρ' M' (yd_ro a ++ (lc ++ yd_b)) → og_cs ρ' M' (lc ++ yd_b) ∧ ρ' 18 = xd_o (N 89) (60 * c + (i + 2 * (k : Int)).toNat) := fun f h => by
    obtain ⟨h1, h2⟩ := og_cs_app.mp h
    obtain ⟨b1, b2, b3, b4, b5⟩ := bs h2
    obtain ⟨d1, d2, -⟩ := h1
    have d1 : M' 89 (sx_val ρ' a).toNat = sx_val ρ' (17, 0) := d1
    have d2 : ρ' 18 = sx_mf 64 (sx_val ρ' (17, 0)) (sx_val ρ' (0, 0)) := d2
    rw [b5, b2, f 89 (by decide) (by decide) (by decide) (by decide), show (i + 2 * (k : Int) + 60 * (c : Int)).toNat = 60 * c + (i + 2 * (k : Int)).toNat by omega] at d1
    rw [og_c h0, ← d1] at d2
    exact ⟨h2, d2⟩
  have rd : (∀ a, a < 128 → a ≠ 53 → a ≠ 59 → a ≠ 60 → M' a = N a) → og_cs ρ' M' (yd_rd a ++ (yd_ro a ++ (lc ++ yd_b))) → og_cs ρ' M' (lc ++ yd_b) ∧ ρ' 18 = xd_o (N 89) (60 * c + (i + 2 * (k : Int)).toNat) ∧ ρ' 20 = xd_o (N 89) (60 * c + (i + 2 * (k : Int)).toNat + 1) := fun f h => by
    obtain ⟨h1, h2⟩ := og_cs_app.mp h
    obtain ⟨h3, h4⟩ := ro f h2
    obtain ⟨b1, b2, b3, b4, b5⟩ := bs h3
    obtain ⟨d1, d2, -⟩ := h1
    have d1 : M' 89 (sx_val ρ' (a.1, a.2 + 1)).toNat = sx_val ρ' (19, 0) := d1
    have d2 : ρ' 20 = sx_mf 64 (sx_val ρ' (19, 0)) (sx_val ρ' (0, 0)) := d2
    have ea : sx_val ρ' (a.1, a.2 + 1) = sx_val ρ' a + 1 := by
      show ρ' a.1 + (a.2 + 1) = ρ' a.1 + a.2 + 1
      omega
    rw [ea, b5, b2, f 89 (by decide) (by decide) (by decide) (by decide), show (i + 2 * (k : Int) + 60 * (c : Int) + 1).toNat = 60 * c + (i + 2 * (k : Int)).toNat + 1 by omega] at d1
    rw [og_c h0, ← d1] at d2
    exact ⟨h3, h4, d2⟩
  have fin : ∀ l : List og_D, T = xd_k l → ¬ yd_ok c N i n k → og_K Q L xs 158 4 T ρ' M' := fun l e hno => by
    subst e
    show Q (some (sx_cv1 ρ' (0, 11, 0))) M'
    rw [og_int q11]
    exact ex M' hm' hM hno
  simp only [yd_TT, List.mem_cons, List.not_mem_nil, or_false] at hT
  rcases hT with e | e | e | e | e | e
  · rw [e] at hc
    obtain ⟨⟨c1, c2⟩, hr⟩ := hc
    have c1 : 12 ≤ sx_val ρ' (14, 0) := c1
    rw [og_v0 q14] at c1
    exact fin _ e (fun h => by have := h.2.2.2.2.2.2.2; omega)
  · have hM9 : ∀ a, a < 128 → M' a = N a := by rw [e] at hM; exact hM
    rw [e] at hc
    obtain ⟨⟨c1, c2⟩, hr⟩ := hc
    obtain ⟨g1, g2⟩ := ro (fun a ha _ _ _ => hM9 a ha) hr
    have c2 : sx_val ρ' (18, 0) ≤ -1 := c2
    rw [og_v0 g2] at c2
    exact fin _ e (fun h => by have := h.2.2.2.1; omega)
  · have hM9 : ∀ a, a < 128 → M' a = N a := by rw [e] at hM; exact hM
    rw [e] at hc
    obtain ⟨c1, hr⟩ := hc
    obtain ⟨g1, g2⟩ := ro (fun a ha _ _ _ => hM9 a ha) hr
    have c1 : ρ' 13 < ρ' 18 + 1 := c1
    rw [g2, q13] at c1
    exact fin _ e (fun h => by have := h.2.2.2.2.1; omega)
  · have hM9 : ∀ a, a < 128 → M' a = N a := by rw [e] at hM; exact hM
    rw [e] at hc
    obtain ⟨⟨c1, c2⟩, hr⟩ := hc
    obtain ⟨g1, g2, g3⟩ := rd (fun a ha _ _ _ => hM9 a ha) hr
    have c2 : sx_val ρ' (20, 0) ≤ -2 := c2
    rw [og_v0 g3] at c2
    exact fin _ e (fun h => by have := h.2.2.2.2.2.1; omega)
  · have hM9 : ∀ a, a < 128 → M' a = N a := by rw [e] at hM; exact hM
    rw [e] at hc
    obtain ⟨⟨c1, c2⟩, hr⟩ := hc
    obtain ⟨g1, g2, g3⟩ := rd (fun a ha _ _ _ => hM9 a ha) hr
    have c1 : 30 ≤ sx_val ρ' (20, 0) := c1
    rw [og_v0 g3] at c1
    exact fin _ e (fun h => by have := h.2.2.2.2.2.2.1; omega)
  · rw [e] at hc hM
    rw [e]
    obtain ⟨⟨c1, -⟩, c3, ⟨c4, c5⟩, ⟨c6, c7⟩, hr⟩ := hc
    have hM : ∀ a, a < 128 → M' a = sx_up (sx_up (sx_up N 60 (sx_val ρ' (14, 0)).toNat (sx_val ρ' (20, 0))) 59 (sx_val ρ' (14, 0)).toNat (sx_val ρ' (18, 0))) 53 (sx_val ρ' (0, 8)).toNat (sx_val ρ' (14, 1)) a := hM
    obtain ⟨g1, g2, g3⟩ := rd (fun a ha h9 h10 h11 => by rw [hM a ha, sh_une h9, sh_une h10, sh_une h11]) hr
    obtain ⟨b1, b2, b3, b4, b5⟩ := bs g1
    have c1 : 0 ≤ sx_val ρ' (18, 0) := c1
    have c3 : ¬ ρ' 13 < ρ' 18 + 1 := c3
    have c4 : -1 ≤ sx_val ρ' (20, 0) := c4
    have c5 : sx_val ρ' (20, 0) ≤ 29 := c5
    have c7 : sx_val ρ' (14, 0) ≤ 11 := c7
    rw [og_v0 g2] at c1
    rw [g2, q13] at c3
    rw [og_v0 g3] at c4 c5
    rw [og_v0 q14] at c7
    rw [og_v0 q14, og_v0 g2, og_v0 g3, og_vv q14, og_c h0 8] at hM
    show rz_fin Q L xs 158 4 58 (sx_cl1 ρ' (yd_l c 1)) [] M'
    rw [yd_cl h0 q9 q10 (og_vv q11)]
    have := next M' hm' ⟨b1, by omega, by omega, c1, by omega, c4, c5, by omega⟩ hM
    rw [show ((k + 1 : Nat) : Int) = (k : Int) + 1 by omega] at this
    exact this
theorem yd_step (hL : L < 2 ^ 31) (hm : sx_mok cl_ly N) (hc6 : c < 6) (hi : sx_w sx_r32 i) (hn : 1 ≤ n ∧ n ≤ 12) (hk : (k : Int) ≤ n) (ex : ∀ N', sx_mok cl_ly N' → (∀ a, a < 128 → N' a = N a) → ¬ yd_ok c N i n k → Q (some (.int (Int32.ofInt (k : Int)))) N') (next : ∀ N', sx_mok cl_ly N' → yd_ok c N i n k → (∀ a, a < 128 → N' a = yd_up c N i k a) → rz_fin Q L xs 158 4 58 (yd_v c i n ((k + 1 : Nat) : Int)) [] N') : rz_fin Q L xs 158 4 58 (yd_v c i n k) [] N := by
  have hi' := sx_r32_iff.mp hi
  have n32 : sx_w sx_r32 n := og_w32 (by omega) (by omega)
  have k32 : sx_w sx_r32 (k : Int) := og_w32 (by omega) (by omega)
  refine rz_ilw (x := 4) rfl rfl ?_
  obtain ⟨ρ, st, e1, e2, e3⟩ := og_sat (xs := xs) (gs := yd_g) (zs := [i, n, (k : Int)]) (fs := yd_f c) hL hm ⟨og_z rfl hi.1 hi.2 hi, og_z rfl hn.1 hn.2 n32, og_z rfl (by show (0 : Int) ≤ k; omega) (by show (k : Int) ≤ 12; omega) k32, trivial⟩ (yd_fok hm hc6)
  have n15 : (yd_t c).1 = 15 := e1
  have h0 : ρ 0 = 0 := st.2.1
  have r9 : ρ 9 = i := e2 0 _ rfl
  have r10 : ρ 10 = n := e2 1 _ rfl
  have r11 : ρ 11 = (k : Int) := e2 2 _ rfl
  have r12 : ρ 12 = N 88 c := e3 0 _ rfl
  have r13 : ρ 13 = N 53 1 := e3 1 _ rfl
  have r14 : ρ 14 = N 53 8 := e3 2 _ rfl
  refine og_use (Ts := yd_T c) (lv := yd_l c 0) (s := [(0, 11, 0)]) (List.all_eq_true.mp yd_c c (List.mem_range.mpr hc6)) (List.all_eq_true.mp yd_nd c (List.mem_range.mpr hc6)) st (fun q hq => ?_) (fun v hv => ?_) (Nat.le_refl _) (yd_cl h0 r9 r10 (og_v0 r11)) (by
    show [sx_cv1 ρ (0, 11, 0)] = _
    rw [og_int r11]) (fun T hT ρ' M' x h0' hm' hc hM => ?_)
  · rw [n15]
    simp only [yd_l, List.mem_cons, List.not_mem_nil, or_false] at hq
    rcases hq with rfl | rfl | rfl | rfl | rfl
    · rw [← n15]; exact sx_ck2 st _
    · exact sn_k0 (by decide) h0 hc6
    · exact tk_ok0 (by decide) (by rw [r9]; exact hi)
    · exact tk_ok0 (by decide) (by rw [r10]; exact n32)
    · exact tk_ok0 (by decide) (by rw [r11]; exact k32)
  · rw [List.mem_singleton.mp hv]
    exact tk_ok0 (by show 11 < (yd_t c).1; rw [n15]; decide) (by rw [r11]; exact k32)
  · have x : sx_ext 15 ρ ρ' := by rw [← n15]; exact x
    have q9 := og_v x (show 9 < 15 by decide) r9
    have q10 := og_v x (show 10 < 15 by decide) r10
    have q11 := og_v x (show 11 < 15 by decide) r11
    have q12 := og_v x (show 12 < 15 by decide) r12
    have q13 := og_v x (show 13 < 15 by decide) r13
    have q14 := og_v x (show 14 < 15 by decide) r14
    have w12 := sh_88 hm hc6
    have bs : og_cs ρ' M' yd_b → (k : Int) < n ∧ ρ' 16 = i + 2 * (k : Int) := fun h => by
      obtain ⟨d1, d2, d3, -⟩ := h
      have d1 : ρ' 11 < ρ' 10 + 0 := d1
      have d2 : ρ' 15 = sx_mf 2 (sx_val ρ' (0, 2)) (sx_val ρ' (11, 0)) := d2
      have d3 : ρ' 16 = sx_mf 32 (sx_val ρ' (9, 0)) (sx_val ρ' (15, 0)) := d3
      rw [q11, q10] at d1
      rw [og_c h0', og_v0 q11, og_mul (og_w32 (by omega) (by omega))] at d2
      rw [og_v0 q9, og_v0 d2, og_add64 (og_w64 (by omega) (by omega))] at d3
      exact ⟨by omega, d3⟩
    have fin : ∀ l : List og_D, T = xd_k l → ¬ yd_ok c N i n k → og_K Q L xs 158 4 T ρ' M' := fun l e hno => by
      subst e
      show Q (some (sx_cv1 ρ' (0, 11, 0))) M'
      rw [og_int q11]
      exact ex M' hm' hM hno
    rcases List.mem_append.mp hT with hT | hT
    · simp only [yd_T0, List.mem_cons, List.not_mem_nil, or_false] at hT
      rcases hT with e | e | e | e
      · rw [e] at hc
        obtain ⟨⟨c1, c2⟩, hr⟩ := hc
        obtain ⟨b1, b2⟩ := bs hr
        have c2 : sx_val ρ' (16, 0) ≤ -1 := c2
        rw [og_v0 b2] at c2
        exact fin _ e (fun h => by have := h.2.1; omega)
      · rw [e] at hc
        obtain ⟨⟨c1, c2⟩, ⟨c3, c4⟩, hr⟩ := hc
        obtain ⟨b1, b2⟩ := bs hr
        have c1 : 0 ≤ sx_val ρ' (16, 0) := c1
        have c4 : sx_val ρ' (12, 0) ≤ 1 := c4
        rw [og_v0 b2] at c1
        rw [og_v0 q12] at c4
        exact fin _ e (fun h => by have := h.2.2.1; omega)
      · rw [e] at hc
        obtain ⟨c1, c2, hr⟩ := hc
        obtain ⟨b1, b2⟩ := bs hr
        have c1 : ¬ ρ' 16 < ρ' 12 + -1 := c1
        rw [b2, q12] at c1
        exact fin _ e (fun h => by have := h.2.2.1; omega)
      · rw [e] at hc hM ⊢
        obtain ⟨c1, -⟩ := hc
        have c1 : ¬ ρ' 11 < ρ' 10 + 0 := c1
        rw [q11, q10] at c1
        show Q (some (sx_cv1 ρ' (0, 10, 0))) M'
        rw [og_int q10, show n = (k : Int) by omega]
        exact ex M' hm' hM (fun h => by have := h.1; omega)
    · rcases List.mem_append.mp hT with hT | hT
      · refine yd_TTok (i := i) (n := n) (k := k) hT h0' hm' q9 q10 q11 q13 q14 hi (by omega) (fun h => ?_) (fun h => ?_) hc hM ex next
        · obtain ⟨⟨c1, c2⟩, ⟨c3, c4⟩, -⟩ := h
          have c1 : 0 ≤ sx_val ρ' (16, 0) := c1
          have c2 : sx_val ρ' (16, 0) ≤ 0 := c2
          have c3 : 2 ≤ sx_val ρ' (12, 0) := c3
          rw [og_v0 rfl] at c1 c2
          rw [og_v0 q12] at c3
          omega
        · obtain ⟨⟨c1, c2⟩, -⟩ := h
          have c1 : 0 ≤ sx_val ρ' (16, 0) := c1
          have c2 : sx_val ρ' (16, 0) ≤ 0 := c2
          rw [og_v0 rfl] at c1 c2
          rw [og_c h0']
          omega
      · refine yd_TTok (i := i) (n := n) (k := k) hT h0' hm' q9 q10 q11 q13 q14 hi (by omega) (fun h => ?_) (fun h => ?_) hc hM ex next
        · obtain ⟨⟨c1, c2⟩, c3, -⟩ := h
          have c1 : 1 ≤ sx_val ρ' (16, 0) := c1
          have c3 : ρ' 16 < ρ' 12 + -1 := c3
          rw [og_v0 rfl] at c1
          rw [q12] at c3
          omega
        · rfl
/-- behind k rounds -/
def yd_cond (c : Nat) (i n : Int) (M : Nat → Nat → Int) (k : Nat) : Prop := (k : Int) < n ∧ 0 ≤ i + 2 * (k : Int) ∧ i + 2 * (k : Int) + 1 < M 88 c ∧ 0 ≤ xd_o (M 89) (60 * c + (i + 2 * (k : Int)).toNat) ∧ xd_o (M 89) (60 * c + (i + 2 * (k : Int)).toNat) < M 53 1 ∧ -1 ≤ xd_o (M 89) (60 * c + (i + 2 * (k : Int)).toNat + 1) ∧ xd_o (M 89) (60 * c + (i + 2 * (k : Int)).toNat + 1) ≤ 29 ∧ M 53 8 + (k : Int) < 12
def yd_I (c : Nat) (i n : Int) (M : Nat → Nat → Int) (k : Nat) (N : Nat → Nat → Int) : Prop := (∀ j, j < k → yd_cond c i n M j) ∧ (∀ a, a < 128 → a ≠ 53 → a ≠ 59 → a ≠ 60 → N a = M a) ∧ (∀ j, N 53 j = if j = 8 then M 53 8 + (k : Int) else M 53 j) ∧ (∀ j, N 60 j = if (M 53 8).toNat ≤ j ∧ j < (M 53 8).toNat + k then xd_o (M 89) (60 * c + (i + 2 * ((j - (M 53 8).toNat : Nat) : Int)).toNat + 1) else M 60 j) ∧ ∀ j, N 59 j = if (M 53 8).toNat ≤ j ∧ j < (M 53 8).toNat + k then xd_o (M 89) (60 * c + (i + 2 * ((j - (M 53 8).toNat : Nat) : Int)).toNat) else M 59 j
def yd_R (c : Nat) (i n : Int) (M : Nat → Nat → Int) (z : Int) (M' : Nat → Nat → Int) : Prop := ∃ k : Nat, z = (k : Int) ∧ k ≤ 12 ∧ ¬ yd_cond c i n M k ∧ yd_I c i n M k M'
theorem yd_okc (hI : yd_I c i n M k N) : yd_ok c N i n k ↔ yd_cond c i n M k := by
  obtain ⟨-, f, g, -, -⟩ := hI
  have e1 : N 88 = M 88 := f _ (by decide) (by decide) (by decide) (by decide)
  have e2 : N 89 = M 89 := f _ (by decide) (by decide) (by decide) (by decide)
  have e3 : N 53 1 = M 53 1 := by rw [g 1, if_neg (by decide)]
  have e4 : N 53 8 = M 53 8 + (k : Int) := by rw [g 8, if_pos rfl]
  unfold yd_ok yd_cond
  rw [e1, e2, e3, e4]
theorem yd_I_next (hC : 0 ≤ M 53 8) (hI : yd_I c i n M k N) (hok : yd_ok c N i n k) (hM : ∀ a, a < 128 → M' a = yd_up c N i k a) : yd_I c i n M (k + 1) M' := by
  have hcond := (yd_okc hI).mp hok
  obtain ⟨f0, f, g, h, w⟩ := hI
  have e2 : N 89 = M 89 := f _ (by decide) (by decide) (by decide) (by decide)
  have e4 : N 53 8 = M 53 8 + (k : Int) := by rw [g 8, if_pos rfl]
  have hM : ∀ a, a < 128 → M' a = sx_up (sx_up (sx_up N 60 ((M 53 8).toNat + k) (xd_o (M 89) (60 * c + (i + 2 * (k : Int)).toNat + 1))) 59 ((M 53 8).toNat + k) (xd_o (M 89) (60 * c + (i + 2 * (k : Int)).toNat))) 53 8 (M 53 8 + (k : Int) + 1) a := fun a ha => by
    rw [hM a ha]
    unfold yd_up
    rw [e2, e4, show (M 53 8 + (k : Int)).toNat = (M 53 8).toNat + k by omega]
  refine ⟨fun j hj => ?_, fun a ha h9 h10 h11 => by rw [hM a ha, sh_une h9, sh_une h10, sh_une h11, f a ha h9 h10 h11], fun j => ?_, fun j => ?_, fun j => ?_⟩
  · by_cases e : j = k
    · rw [e]; exact hcond
    · exact f0 j (by omega)
  · rw [hM 53 (by decide)]
    by_cases e : j = 8
    · rw [e, sh_uat, if_pos rfl]
      omega
    · rw [sh_unj e, sh_une (by decide), sh_une (by decide), g j, if_neg e, if_neg e]
  · rw [hM 60 (by decide), sh_une (by decide), sh_une (by decide)]
    by_cases e : j = (M 53 8).toNat + k
    · rw [e, sh_uat, if_pos (by omega), show (M 53 8).toNat + k - (M 53 8).toNat = k by omega]
    · rw [sh_unj e, h j]
      by_cases h2 : (M 53 8).toNat ≤ j ∧ j < (M 53 8).toNat + k
      · rw [if_pos h2, if_pos (by omega)]
      · rw [if_neg h2, if_neg (by omega)]
  · rw [hM 59 (by decide), sh_une (by decide)]
    by_cases e : j = (M 53 8).toNat + k
    · rw [e, sh_uat, if_pos (by omega), show (M 53 8).toNat + k - (M 53 8).toNat = k by omega]
    · rw [sh_unj e, sh_une (by decide), w j]
      by_cases h2 : (M 53 8).toNat ≤ j ∧ j < (M 53 8).toNat + k
      · rw [if_pos h2, if_pos (by omega)]
      · rw [if_neg h2, if_neg (by omega)]
theorem yd_I_same (h : ∀ a, a < 128 → M' a = N a) (hI : yd_I c i n M k N) : yd_I c i n M k M' := by
  obtain ⟨f0, f, g, w, u⟩ := hI
  exact ⟨f0, fun a ha h9 h10 h11 => by rw [h a ha, f a ha h9 h10 h11], fun j => by rw [h 53 (by decide), g j], fun j => by rw [h 60 (by decide), w j], fun j => by rw [h 59 (by decide), u j]⟩
theorem yd_I0 (h : ∀ a, a < 128 → N a = M a) : yd_I c i n M 0 N := by
  refine ⟨fun j hj => by omega, fun a ha _ _ _ => h a ha, fun j => ?_, fun j => by rw [h 60 (by decide), if_neg (by omega)], fun j => by rw [h 59 (by decide), if_neg (by omega)]⟩
  rw [h 53 (by decide)]
  by_cases e : j = 8
  · rw [if_pos e, e]; exact (Int.add_zero _).symm
  · rw [if_neg e]
theorem yd_loop (hL : L < 2 ^ 31) (hc6 : c < 6) (hi : sx_w sx_r32 i) (hn : 1 ≤ n ∧ n ≤ 12) (hC : 0 ≤ M 53 8) : ∀ (m k : Nat) (N : Nat → Nat → Int), n.toNat - k = m → (k : Int) ≤ n → sx_mok cl_ly N → yd_I c i n M k N → rz_fin (sh_Q (yd_R c i n M)) L xs 158 4 58 (yd_v c i n k) [] N := by
  intro m
  induction m with
  | zero =>
    intro k N h1 hk hm hI
    refine yd_step hL hm hc6 hi hn hk (fun N' hm' e hno => ⟨(k : Int), rfl, hm', k, rfl, by omega, fun h => hno ((yd_okc hI).mpr h), yd_I_same e hI⟩) (fun N' hm' hok e => ?_)
    have := hok.1
    omega
  | succ m ih =>
    intro k N h1 hk hm hI
    refine yd_step hL hm hc6 hi hn hk (fun N' hm' e hno => ⟨(k : Int), rfl, hm', k, rfl, by omega, fun h => hno ((yd_okc hI).mpr h), yd_I_same e hI⟩) (fun N' hm' hok e => ?_)
    have hcond := (yd_okc hI).mp hok
    exact ih (k + 1) N' (by omega) (by omega) hm' (yd_I_next hC hI hok e)
end
