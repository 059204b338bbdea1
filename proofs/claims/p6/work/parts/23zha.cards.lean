/-! cards: the class; how far it comes along the row. -/
section
variable {WF : (Nat → Nat → Int) → Prop} {L : Nat} {xs : Nat → Int32} {M M' M0 M1 M2 N : Nat → Nat → Int} {ρ ρ' : Nat → Int} {t : sx_S} {Q : Option Value → (Nat → Nat → Int) → Prop} {i n : Int} {c k : Nat}
theorem og_cs_app {l1 l2 : List og_D} : og_cs ρ M (l1 ++ l2) ↔ og_cs ρ M l1 ∧ og_cs ρ M l2 := by
  induction l1 with
  | nil => exact ⟨fun h => ⟨trivial, h⟩, fun h => h.2⟩
  | cons q l ih =>
    show og_ds ρ M q ∧ og_cs ρ M (l ++ l2) ↔ (og_ds ρ M q ∧ og_cs ρ M l) ∧ og_cs ρ M l2
    rw [ih]
    exact ⟨fun ⟨a, b, d⟩ => ⟨⟨a, b⟩, d⟩, fun ⟨⟨a, b⟩, d⟩ => ⟨a, b, d⟩⟩
/-- the house and the day that stand at a place of a row -/
def xd_o (E : Nat → Int) (p : Nat) : Int := sx_mf 64 (E p) 0
def xd_g : List ct_Q := [(0, (0, og_mx)), (0, (1, 12)), (0, (0, 12))]
def xd_f (c : Nat) : List ct_G := [(41 + 2 * c, 1, (0, 60)), (9, 4, (0, 6)), (9, 5, (0, 12))]
noncomputable def xd_t (c : Nat) : sx_S := og_t xd_g (xd_f c)
def xd_l (c : Nat) (a b : Int) : sx_L := [(0, 2, 0, 8), (1, 2, 0, 41 + 2 * (c : Int)), (2, 0, 9, a), (3, 0, 10, 0), (4, 0, 11, b)]
def xd_k (l : List og_D) : og_T := (none, some (0, 11, 0), [], [], [], l)
def xd_rd (c : Nat) : List og_D := [(6, (9, 0), (15, 0), ((42 + 2 * c : Nat) : Int), 0), (6, (9, 1), (17, 0), ((42 + 2 * c : Nat) : Int), 0), (5, (15, 0), (0, 0), 64, 16), (5, (17, 0), (0, 0), 64, 18), og_l 11 10 0, og_l 9 12 (-1)]
def xd_T (c : Nat) : List og_T := [xd_k (og_b 16 og_mn (-1) :: xd_rd c), xd_k (og_nl 16 13 0 :: xd_rd c), xd_k (og_b 18 og_mn (-2) :: xd_rd c), xd_k (og_b 18 30 og_mx :: xd_rd c), xd_k (og_b 14 12 12 :: xd_rd c), xd_k [og_nl 9 12 (-1)], xd_k [og_nl 11 10 0], (some 3, none, [], xd_l c 2 1, [(9, (0, 5), (14, 1)), (10, (14, 180), (18, 0)), (11, (14, 0), (16, 0))], og_b 16 0 og_mx :: og_l 16 13 0 :: og_b 18 (-1) 29 :: og_b 14 0 11 :: xd_rd c)]
theorem xd_c : ((List.range 6).all fun c => gs_chk (fun pc => Nat.beq pc 3) (fun o => (xd_T c).any (og_chk (xd_t c) o)) 300 300 4 22 5 (xd_l c 0 0) [(0, 11, 0)] (xd_t c)) = true := by decide +kernel
theorem xd_nd : ((List.range 6).all fun c => (xd_T c).all fun T => mt_nd (T.2.2.2.1.map fun q => q.1)) = true := by decide +kernel
def xd_v (c : Nat) (i n k : Int) : sm_V := [(0, .ref 8), (1, .ref (41 + 2 * c)), (2, .int (Int32.ofInt i)), (3, .int (Int32.ofInt n)), (4, .int (Int32.ofInt k))]
theorem xd_cl {a b z y : Int} (r10 : ρ 10 = n) (ha : sx_val ρ (9, a) = z) (hb : sx_val ρ (11, b) = y) : sx_cl1 ρ (xd_l c a b) = xd_v c z n y := by
  show [(0, Value.ref 8), (1, sx_cv1 ρ (2, 0, 41 + 2 * (c : Int))), (2, sx_cv1 ρ (0, 9, a)), (3, sx_cv1 ρ (0, 10, 0)), (4, sx_cv1 ρ (0, 11, b))] = _
  rw [hr_ref, og_int r10, sx_cvk0 (v := (0, 9, a)) rfl, sx_cvk0 (v := (0, 11, b)) rfl]
  show [(0, Value.ref 8), (1, Value.ref (41 + 2 * c)), (2, Value.int (Int32.ofInt (sx_val ρ (9, a)))), (3, Value.int (Int32.ofInt n)), (4, Value.int (Int32.ofInt (sx_val ρ (11, b))))] = _
  rw [ha, hb]
  rfl
/-- a card comes -/
def xd_ok (c : Nat) (N : Nat → Nat → Int) (i n k : Int) : Prop := k < n ∧ i + 1 < N (41 + 2 * c) 1 ∧ 0 ≤ xd_o (N (42 + 2 * c)) i.toNat ∧ xd_o (N (42 + 2 * c)) i.toNat < N 9 4 ∧ -1 ≤ xd_o (N (42 + 2 * c)) (i + 1).toNat ∧ xd_o (N (42 + 2 * c)) (i + 1).toNat ≤ 29 ∧ N 9 5 < 12
def xd_up (c : Nat) (N : Nat → Nat → Int) (i : Int) : Nat → Nat → Int := sx_up (sx_up (sx_up N 11 (N 9 5).toNat (xd_o (N (42 + 2 * c)) i.toNat)) 10 (N 9 5 + 180).toNat (xd_o (N (42 + 2 * c)) (i + 1).toNat)) 9 5 (N 9 5 + 1)
theorem xd_fall : ((List.range 6).all fun c => (xd_f c).all fun g => sx_an (Nat.blt g.1 128) (sx_an (cv_ly cl_ly g) (cv_ly cl_ly (g.1, g.2.1, sx_r32)))) = true := by decide +kernel
theorem xd_fok (hm : sx_mok cl_ly M) (hc : c < 6) : ∀ g ∈ xd_f c, g.1 < 128 ∧ sx_w g.2.2 (M g.1 g.2.1) ∧ sx_w sx_r64 (M g.1 g.2.1) := fun g hg => by
  obtain ⟨h1, h2⟩ := sx_an_iff.mp (List.all_eq_true.mp (List.all_eq_true.mp xd_fall c (List.mem_range.mpr hc)) g hg)
  obtain ⟨h2, h3⟩ := sx_an_iff.mp h2
  exact og_f hm h1 h3 (cv_ly_ok hm h2)
theorem xd_step (hL : L < 2 ^ 31) (hm : sx_mok cl_ly N) (hc6 : c < 6) (hi : 0 ≤ i ∧ i ≤ 2147483647) (hn : 1 ≤ n ∧ n ≤ 12) (hk : k ≤ 12) (ex : ∀ N', sx_mok cl_ly N' → (∀ a, a < 128 → N' a = N a) → ¬ xd_ok c N i n k → Q (some (.int (Int32.ofInt (k : Int)))) N') (next : ∀ N', sx_mok cl_ly N' → xd_ok c N i n k → (∀ a, a < 128 → N' a = xd_up c N i a) → rz_fin Q L xs 22 4 3 (xd_v c (i + 2) n ((k + 1 : Nat) : Int)) [] N') : rz_fin Q L xs 22 4 3 (xd_v c i n k) [] N := by
  have i32 : sx_w sx_r32 i := og_w32 (by omega) (by omega)
  have n32 : sx_w sx_r32 n := og_w32 (by omega) (by omega)
  have k32 : sx_w sx_r32 (k : Int) := og_w32 (by omega) (by omega)
  refine rz_ilw (x := 4) rfl rfl ?_
  obtain ⟨ρ, st, e1, e2, e3⟩ := og_sat (xs := xs) (gs := xd_g) (zs := [i, n, (k : Int)]) (fs := xd_f c) hL hm ⟨og_z rfl hi.1 hi.2 i32, og_z rfl hn.1 hn.2 n32, og_z rfl (by show (0 : Int) ≤ k; omega) (by show (k : Int) ≤ 12; omega) k32, trivial⟩ (xd_fok hm hc6)
  have n15 : (xd_t c).1 = 15 := e1
  have r9 : ρ 9 = i := e2 0 _ rfl
  have r10 : ρ 10 = n := e2 1 _ rfl
  have r11 : ρ 11 = (k : Int) := e2 2 _ rfl
  have r12 : ρ 12 = N (41 + 2 * c) 1 := e3 0 _ rfl
  have r13 : ρ 13 = N 9 4 := e3 1 _ rfl
  have r14 : ρ 14 = N 9 5 := e3 2 _ rfl
  refine og_use (Ts := xd_T c) (lv := xd_l c 0 0) (s := [(0, 11, 0)]) (List.all_eq_true.mp xd_c c (List.mem_range.mpr hc6)) (List.all_eq_true.mp xd_nd c (List.mem_range.mpr hc6)) st (fun q hq => ?_) (fun v hv => ?_) (Nat.le_refl _) (xd_cl r10 (og_v0 r9) (og_v0 r11)) (by
    show [sx_cv1 ρ (0, 11, 0)] = _
    rw [og_int r11]) (fun T hT ρ' M' x h0 hm' hc hM => ?_)
  · simp only [xd_l, List.mem_cons, List.not_mem_nil, or_false] at hq
    rcases hq with rfl | rfl | rfl | rfl | rfl
    · exact sx_ck2 st _
    · exact sx_ck2 st _
    · exact tk_ok0 (by show 9 < (xd_t c).1; rw [n15]; decide) (by rw [r9]; exact i32)
    · exact tk_ok0 (by show 10 < (xd_t c).1; rw [n15]; decide) (by rw [r10]; exact n32)
    · exact tk_ok0 (by show 11 < (xd_t c).1; rw [n15]; decide) (by rw [r11]; exact k32)
  · rw [List.mem_singleton.mp hv]
    exact tk_ok0 (by show 11 < (xd_t c).1; rw [n15]; decide) (by rw [r11]; exact k32)
  · have x : sx_ext 15 ρ ρ' := by rw [← n15]; exact x
    have q9 := og_v x (show 9 < 15 by decide) r9
    have q10 := og_v x (show 10 < 15 by decide) r10
    have q11 := og_v x (show 11 < 15 by decide) r11
    have q12 := og_v x (show 12 < 15 by decide) r12
    have q13 := og_v x (show 13 < 15 by decide) r13
    have q14 := og_v x (show 14 < 15 by decide) r14
    have rd : og_cs ρ' M' (xd_rd c) → (∀ a, a < 128 → a ≠ 9 → a ≠ 10 → a ≠ 11 → M' a = N a) → (k : Int) < n ∧ i + 1 < N (41 + 2 * c) 1 ∧ ρ' 16 = xd_o (N (42 + 2 * c)) i.toNat ∧ ρ' 18 = xd_o (N (42 + 2 * c)) (i + 1).toNat := fun h f => by
      obtain ⟨d1, d2, d3, d4, d5, d6, -⟩ := h
      have d1 : M' (((42 + 2 * c : Nat) : Int)).toNat (sx_val ρ' (9, 0)).toNat = sx_val ρ' (15, 0) := d1
      have d2 : M' (((42 + 2 * c : Nat) : Int)).toNat (sx_val ρ' (9, 1)).toNat = sx_val ρ' (17, 0) := d2
      have d3 : ρ' 16 = sx_mf 64 (sx_val ρ' (15, 0)) (sx_val ρ' (0, 0)) := d3
      have d4 : ρ' 18 = sx_mf 64 (sx_val ρ' (17, 0)) (sx_val ρ' (0, 0)) := d4
      have d5 : ρ' 11 < ρ' 10 + 0 := d5
      have d6 : ρ' 9 < ρ' 12 + -1 := d6
      rw [q11, q10] at d5
      rw [q9, q12] at d6
      rw [Int.toNat_natCast, og_v0 q9, f _ (by omega) (by omega) (by omega) (by omega)] at d1
      rw [Int.toNat_natCast, og_vv q9, f _ (by omega) (by omega) (by omega) (by omega)] at d2
      rw [og_c h0, ← d1] at d3
      rw [og_c h0, ← d2] at d4
      exact ⟨by omega, by omega, d3, d4⟩
    have fin : ∀ l : List og_D, T = xd_k l → ¬ xd_ok c N i n k → og_K Q L xs 22 4 T ρ' M' := fun l e hno => by
      subst e
      show Q (some (sx_cv1 ρ' (0, 11, 0))) M'
      rw [og_int q11]
      exact ex M' hm' hM hno
    simp only [xd_T, List.mem_cons, List.not_mem_nil, or_false] at hT
    rcases hT with e | e | e | e | e | e | e | e
    · have hM9 : ∀ a, a < 128 → M' a = N a := by rw [e] at hM; exact hM
      rw [e] at hc
      obtain ⟨⟨c1, c2⟩, hr⟩ := hc
      obtain ⟨g1, g2, g3, g4⟩ := rd hr (fun a ha _ _ _ => hM9 a ha)
      have c2 : sx_val ρ' (16, 0) ≤ -1 := c2
      rw [og_v0 g3] at c2
      exact fin _ e (fun h => by have := h.2.2.1; omega)
    · have hM9 : ∀ a, a < 128 → M' a = N a := by rw [e] at hM; exact hM
      rw [e] at hc
      obtain ⟨c1, hr⟩ := hc
      obtain ⟨g1, g2, g3, g4⟩ := rd hr (fun a ha _ _ _ => hM9 a ha)
      have c1 : ¬ ρ' 16 < ρ' 13 + 0 := c1
      rw [g3, q13] at c1
      exact fin _ e (fun h => by have := h.2.2.2.1; omega)
    · have hM9 : ∀ a, a < 128 → M' a = N a := by rw [e] at hM; exact hM
      rw [e] at hc
      obtain ⟨⟨c1, c2⟩, hr⟩ := hc
      obtain ⟨g1, g2, g3, g4⟩ := rd hr (fun a ha _ _ _ => hM9 a ha)
      have c2 : sx_val ρ' (18, 0) ≤ -2 := c2
      rw [og_v0 g4] at c2
      exact fin _ e (fun h => by have := h.2.2.2.2.1; omega)
    · have hM9 : ∀ a, a < 128 → M' a = N a := by rw [e] at hM; exact hM
      rw [e] at hc
      obtain ⟨⟨c1, c2⟩, hr⟩ := hc
      obtain ⟨g1, g2, g3, g4⟩ := rd hr (fun a ha _ _ _ => hM9 a ha)
      have c1 : 30 ≤ sx_val ρ' (18, 0) := c1
      rw [og_v0 g4] at c1
      exact fin _ e (fun h => by have := h.2.2.2.2.2.1; omega)
    · rw [e] at hc
      obtain ⟨⟨c1, c2⟩, hr⟩ := hc
      have c1 : 12 ≤ sx_val ρ' (14, 0) := c1
      rw [og_v0 q14] at c1
      exact fin _ e (fun h => by have := h.2.2.2.2.2.2; omega)
    · rw [e] at hc
      obtain ⟨c1, -⟩ := hc
      have c1 : ¬ ρ' 9 < ρ' 12 + -1 := c1
      rw [q9, q12] at c1
      exact fin _ e (fun h => by have := h.2.1; omega)
    · rw [e] at hc
      obtain ⟨c1, -⟩ := hc
      have c1 : ¬ ρ' 11 < ρ' 10 + 0 := c1
      rw [q11, q10] at c1
      exact fin _ e (fun h => by have := h.1; omega)
    · rw [e] at hc hM
      rw [e]
      obtain ⟨⟨c1, -⟩, c3, ⟨c4, c5⟩, ⟨c6, c7⟩, hr⟩ := hc
      have hM : ∀ a, a < 128 → M' a = sx_up (sx_up (sx_up N 11 (sx_val ρ' (14, 0)).toNat (sx_val ρ' (16, 0))) 10 (sx_val ρ' (14, 180)).toNat (sx_val ρ' (18, 0))) 9 (sx_val ρ' (0, 5)).toNat (sx_val ρ' (14, 1)) a := hM
      obtain ⟨g1, g2, g3, g4⟩ := rd hr (fun a ha h9 h10 h11 => by rw [hM a ha, sh_une h9, sh_une h10, sh_une h11])
      have c1 : 0 ≤ sx_val ρ' (16, 0) := c1
      have c3 : ρ' 16 < ρ' 13 + 0 := c3
      have c4 : -1 ≤ sx_val ρ' (18, 0) := c4
      have c5 : sx_val ρ' (18, 0) ≤ 29 := c5
      have c7 : sx_val ρ' (14, 0) ≤ 11 := c7
      rw [og_v0 g3] at c1
      rw [g3, q13] at c3
      rw [og_v0 g4] at c4 c5
      rw [og_v0 q14] at c7
      rw [og_v0 q14, og_v0 g3, og_v0 g4, og_vv q14, og_vv q14, og_c h0 5] at hM
      show rz_fin Q L xs 22 4 3 (sx_cl1 ρ' (xd_l c 2 1)) [] M'
      rw [xd_cl q10 (og_vv q9) (og_vv q11)]
      have := next M' hm' ⟨by omega, by omega, c1, by omega, c4, c5, by omega⟩ hM
      rw [show ((k + 1 : Nat) : Int) = (k : Int) + 1 by omega] at this
      exact this
/-- behind k rounds -/
def xd_cond (c : Nat) (i n : Int) (M : Nat → Nat → Int) (k : Nat) : Prop := (k : Int) < n ∧ 0 ≤ i ∧ i + 2 * (k : Int) + 1 < M (41 + 2 * c) 1 ∧ 0 ≤ xd_o (M (42 + 2 * c)) (i.toNat + 2 * k) ∧ xd_o (M (42 + 2 * c)) (i.toNat + 2 * k) < M 9 4 ∧ -1 ≤ xd_o (M (42 + 2 * c)) (i.toNat + 2 * k + 1) ∧ xd_o (M (42 + 2 * c)) (i.toNat + 2 * k + 1) ≤ 29 ∧ M 9 5 + (k : Int) < 12
def xd_I (c : Nat) (i n : Int) (M : Nat → Nat → Int) (k : Nat) (N : Nat → Nat → Int) : Prop := (∀ j, j < k → xd_cond c i n M j) ∧ (∀ a, a < 128 → a ≠ 9 → a ≠ 10 → a ≠ 11 → N a = M a) ∧ (∀ j, N 9 j = if j = 5 then M 9 5 + (k : Int) else M 9 j) ∧ (∀ j, N 10 j = if 180 + (M 9 5).toNat ≤ j ∧ j < 180 + (M 9 5).toNat + k then xd_o (M (42 + 2 * c)) (i.toNat + 2 * (j - (180 + (M 9 5).toNat)) + 1) else M 10 j) ∧ ∀ j, N 11 j = if (M 9 5).toNat ≤ j ∧ j < (M 9 5).toNat + k then xd_o (M (42 + 2 * c)) (i.toNat + 2 * (j - (M 9 5).toNat)) else M 11 j
def xd_R (c : Nat) (i n : Int) (M : Nat → Nat → Int) (z : Int) (M' : Nat → Nat → Int) : Prop := ∃ k : Nat, z = (k : Int) ∧ k ≤ 12 ∧ ¬ xd_cond c i n M k ∧ xd_I c i n M k M'
theorem xd_okc (h6 : c < 6) (hi : 0 ≤ i) (hI : xd_I c i n M k N) : xd_ok c N (i + 2 * (k : Int)) n k ↔ xd_cond c i n M k := by
  obtain ⟨-, f, g, -, -⟩ := hI
  have e1 : N (41 + 2 * c) = M (41 + 2 * c) := f _ (by omega) (by omega) (by omega) (by omega)
  have e2 : N (42 + 2 * c) = M (42 + 2 * c) := f _ (by omega) (by omega) (by omega) (by omega)
  have e3 : N 9 4 = M 9 4 := by rw [g 4, if_neg (by decide)]
  have e4 : N 9 5 = M 9 5 + (k : Int) := by rw [g 5, if_pos rfl]
  unfold xd_ok xd_cond
  rw [e1, e2, e3, e4, show (i + 2 * (k : Int)).toNat = i.toNat + 2 * k by omega, show (i + 2 * (k : Int) + 1).toNat = i.toNat + 2 * k + 1 by omega]
  exact ⟨fun ⟨a, b, d⟩ => ⟨a, hi, b, d⟩, fun ⟨a, _, b, d⟩ => ⟨a, b, d⟩⟩
theorem xd_I_next (h6 : c < 6) (hi : 0 ≤ i) (hC : 0 ≤ M 9 5) (hI : xd_I c i n M k N) (hok : xd_ok c N (i + 2 * (k : Int)) n k) (hM : ∀ a, a < 128 → M' a = xd_up c N (i + 2 * (k : Int)) a) : xd_I c i n M (k + 1) M' := by
  have hcond := (xd_okc h6 hi hI).mp hok
  obtain ⟨f0, f, g, h, w⟩ := hI
  have e2 : N (42 + 2 * c) = M (42 + 2 * c) := f _ (by omega) (by omega) (by omega) (by omega)
  have e4 : N 9 5 = M 9 5 + (k : Int) := by rw [g 5, if_pos rfl]
  have hM : ∀ a, a < 128 → M' a = sx_up (sx_up (sx_up N 11 ((M 9 5).toNat + k) (xd_o (M (42 + 2 * c)) (i.toNat + 2 * k))) 10 (180 + (M 9 5).toNat + k) (xd_o (M (42 + 2 * c)) (i.toNat + 2 * k + 1))) 9 5 (M 9 5 + (k : Int) + 1) a := fun a ha => by
    rw [hM a ha]
    unfold xd_up
    rw [e2, e4, show (M 9 5 + (k : Int)).toNat = (M 9 5).toNat + k by omega, show (M 9 5 + (k : Int) + 180).toNat = 180 + (M 9 5).toNat + k by omega, show (i + 2 * (k : Int)).toNat = i.toNat + 2 * k by omega, show (i + 2 * (k : Int) + 1).toNat = i.toNat + 2 * k + 1 by omega]
  refine ⟨fun j hj => ?_, fun a ha h9 h10 h11 => by rw [hM a ha, sh_une h9, sh_une h10, sh_une h11, f a ha h9 h10 h11], fun j => ?_, fun j => ?_, fun j => ?_⟩
  · by_cases e : j = k
    · rw [e]; exact hcond
    · exact f0 j (by omega)
  · rw [hM 9 (by decide)]
    by_cases e : j = 5
    · rw [e, sh_uat, if_pos rfl]
      omega
    · rw [sh_unj e, sh_une (by decide), sh_une (by decide), g j, if_neg e, if_neg e]
  · rw [hM 10 (by decide), sh_une (by decide)]
    by_cases e : j = 180 + (M 9 5).toNat + k
    · rw [e, sh_uat, if_pos (by omega)]
      congr 1
      omega
    · rw [sh_unj e, sh_une (by decide), h j]
      by_cases h2 : 180 + (M 9 5).toNat ≤ j ∧ j < 180 + (M 9 5).toNat + k
      · rw [if_pos h2, if_pos (by omega)]
      · rw [if_neg h2, if_neg (by omega)]
  · rw [hM 11 (by decide), sh_une (by decide), sh_une (by decide)]
    by_cases e : j = (M 9 5).toNat + k
    · rw [e, sh_uat, if_pos (by omega)]
      congr 1
      omega
    · rw [sh_unj e, w j]
      by_cases h2 : (M 9 5).toNat ≤ j ∧ j < (M 9 5).toNat + k
      · rw [if_pos h2, if_pos (by omega)]
      · rw [if_neg h2, if_neg (by omega)]
theorem xd_I_same (h : ∀ a, a < 128 → M' a = N a) (hI : xd_I c i n M k N) : xd_I c i n M k M' := by
  obtain ⟨f0, f, g, w, u⟩ := hI
  exact ⟨f0, fun a ha h9 h10 h11 => by rw [h a ha, f a ha h9 h10 h11], fun j => by rw [h 9 (by decide), g j], fun j => by rw [h 10 (by decide), w j], fun j => by rw [h 11 (by decide), u j]⟩
theorem xd_I0 (h : ∀ a, a < 128 → N a = M a) : xd_I c i n M 0 N := ⟨fun j hj => by omega, fun a ha _ _ _ => h a ha, fun j => by
  rw [h 9 (by decide)]
  by_cases e : j = 5
  · rw [if_pos e, e]; exact (Int.add_zero _).symm
  · rw [if_neg e], fun j => by rw [h 10 (by decide), if_neg (by omega)], fun j => by rw [h 11 (by decide), if_neg (by omega)]⟩
theorem xd_loop (hL : L < 2 ^ 31) (hc6 : c < 6) (hi : 0 ≤ i ∧ i ≤ 2147483647) (hn : 1 ≤ n ∧ n ≤ 12) (hC : 0 ≤ M 9 5) (h60 : M (41 + 2 * c) 1 ≤ 60) : ∀ (m k : Nat) (N : Nat → Nat → Int), n.toNat - k = m → (k : Int) ≤ n → (i + 2 * (k : Int) ≤ 2147483647) → sx_mok cl_ly N → xd_I c i n M k N → rz_fin (sh_Q (xd_R c i n M)) L xs 22 4 3 (xd_v c (i + 2 * (k : Int)) n k) [] N := by
  intro m
  induction m with
  | zero =>
    intro k N h1 hk h2 hm hI
    refine xd_step hL hm hc6 ⟨by omega, h2⟩ hn (by omega) (fun N' hm' e hno => ⟨(k : Int), rfl, hm', k, rfl, by omega, fun h => hno ((xd_okc hc6 hi.1 hI).mpr h), xd_I_same e hI⟩) (fun N' hm' hok e => ?_)
    have := hok.1
    omega
  | succ m ih =>
    intro k N h1 hk h2 hm hI
    refine xd_step hL hm hc6 ⟨by omega, h2⟩ hn (by omega) (fun N' hm' e hno => ⟨(k : Int), rfl, hm', k, rfl, by omega, fun h => hno ((xd_okc hc6 hi.1 hI).mpr h), xd_I_same e hI⟩) (fun N' hm' hok e => ?_)
    have hcond := (xd_okc hc6 hi.1 hI).mp hok
    have h5 := hcond.2.2.1
    have := ih (k + 1) N' (by omega) (by omega) (by omega) hm' (xd_I_next hc6 hi.1 hC hI hok e)
    rw [show i + 2 * ((k + 1 : Nat) : Int) = i + 2 * (k : Int) + 2 by omega] at this
    exact this
end
