/-! Shelves: shift of the reference: walks, loops. -/
section
variable {WF : (Nat → Nat → Int) → Prop} {L : Nat} {xs : Nat → Int32} {M M' M0 M1 M2 N : Nat → Nat → Int} {ρ ρ' : Nat → Int} {t : sx_S} {Q : Option Value → (Nat → Nat → Int) → Prop} {s i o j n : Int} {c e kc ke : Nat} {cps : List la_P}
theorem sn_add {a b : Int} (h : sx_w sx_r32 (a + b)) : sx_mf 0 a b = a + b := by
  show (Int32.ofInt a + Int32.ofInt b).toInt = a + b
  rw [← Int32.ofInt_add]
  exact sx_i32 h
def sn_r (k : Nat) : Int × Int := if k = 0 then (-1, -1) else if k = 1 then (0, 49) else (-6, -2)
def sn_f1 (c k : Nat) : List ct_G := [(87, c, sn_r k), (88, c, (0, 60))]
def sn_f (c e kc ke : Nat) : List ct_G := if c = e then sn_f1 c kc else sn_f1 c kc ++ sn_f1 e ke
noncomputable def sn_t (c e kc ke : Nat) : sx_S := og_t og_g3 (sn_f c e kc ke)
def sn_l5 (c e : Nat) : sx_L := [(0, 2, 0, 53), (1, 0, 0, (c : Int)), (2, 0, 9, 0), (3, 0, 0, (e : Int)), (4, 0, 10, 0), (5, 0, 11, 0)]
def sn_l (c e : Nat) (k : sx_A) : sx_L := [(0, 2, 0, 53), (1, 0, 0, (c : Int)), (2, 0, 9, 0), (3, 0, 0, (e : Int)), (4, 0, 10, 0), (5, 0, 11, 0), (6, 0, k)]
/-- 9 i, 10 j, 11 n, 12 and 14 what they hold, 13 and E the sizes -/
def sn_T (c e E m1 m2 : Nat) (eq ne : List og_D) : List og_T :=
  (if c = e then [] else [og_r (-12) ne]) ++ [og_r (-13) (og_b 11 og_mn (-1) :: eq), og_r (-13) (og_b 9 og_mn (-1) :: eq), og_r (-13) (og_b 10 og_mn (-1) :: eq), og_r (-13) ((5, (13, 0), (11, 0), 1, (m1 : Int)) :: og_b 11 0 og_mx :: og_l m1 9 0 :: eq), og_r (-13) ((5, (E, 0), (11, 0), 1, (m2 : Int)) :: og_b 11 0 og_mx :: og_l m2 10 0 :: eq), (some 113, none, [], sn_l c e (0, 0), [], og_b 11 0 og_mx :: og_b 9 0 60 :: og_b 10 0 60 :: (5, (13, 0), (11, 0), 1, (m1 : Int)) :: og_nl m1 9 0 :: (5, (E, 0), (11, 0), 1, (m2 : Int)) :: og_nl m2 10 0 :: eq)]
def sn_Tx (c e kc ke : Nat) : List og_T := if kc = 0 ∨ ke = 0 then [og_r (-11) []] else if kc = 1 ∨ ke = 1 then [og_r (-12) []] else if c = e then sn_T c e 13 14 14 [] [] else sn_T c e 15 16 17 [(3, (12, 0), (14, 0), 0, 0)] [(4, (12, 0), (14, 0), 0, 0)]
theorem sn_cx : sf_all (fun c e kc ke => gs_chk (fun pc => Nat.beq pc 113) (fun o => (sn_Tx c e kc ke).any (og_chk (sn_t c e kc ke) o)) 300 300 4 268 0 (sn_l5 c e) [] (sn_t c e kc ke)) = true := by decide +kernel
-- the loops
def sn_g : List ct_Q := [(0, (0, 60)), (0, (0, 60)), (0, (0, 60)), (0, (0, 60))]
noncomputable def sn_t1 : sx_S := og_t sn_g []
def sn_ce (p : Nat → Nat → Bool) : Bool := (List.range 6).all fun c => (List.range 6).all fun e => p c e
theorem sn_ce_ok {p : Nat → Nat → Bool} (h : sn_ce p = true) (hc : c < 6) (he : e < 6) : p c e = true := List.all_eq_true.mp (List.all_eq_true.mp h c (List.mem_range.mpr hc)) e (List.mem_range.mpr he)
def sn_T1 (c e : Nat) : List og_T := [(some 139, none, [(0, 13, 0), (2, 0, 89), (0, 12, 0), (2, 0, 90)], sn_l c e (12, 0), [], [og_l 12 11 0, (5, (9, 60 * (c : Int)), (12, 0), 0, 13)]), (some 147, none, [], sn_l c e (12, 0), [], [og_nl 12 11 0])]
theorem sn_c1 : sn_ce (fun c e => gs_chk (fun pc => bif Nat.beq pc 139 then true else Nat.beq pc 147) (fun o => (sn_T1 c e).any (og_chk sn_t1 o)) 300 300 4 268 115 (sn_l c e (12, 0)) [(0, 12, 0)] sn_t1) = true := by decide +kernel
def sn_T2 (p c e : Nat) (k : sx_A) : List og_T := [(some p, none, [], sn_l c e k, [], [])]
theorem sn_c2 : sn_ce (fun c e => gs_chk (fun pc => Nat.beq pc 113) (fun o => (sn_T2 113 c e (12, 1)).any (og_chk sn_t1 o)) 300 300 4 268 141 (sn_l c e (12, 0)) [] sn_t1) = true := by decide +kernel
theorem sn_c3 : sn_ce (fun c e => gs_chk (fun pc => Nat.beq pc 150) (fun o => (sn_T2 150 c e (0, 0)).any (og_chk sn_t1 o)) 300 300 4 268 147 (sn_l c e (12, 0)) [] sn_t1) = true := by decide +kernel
def sn_T4 (c e : Nat) : List og_T := [(some 177, none, [(0, 12, 0), (2, 0, 90), (0, 13, 0), (2, 0, 89)], sn_l c e (12, 0), [], [og_l 12 11 0, (5, (10, 60 * (e : Int)), (12, 0), 0, 13)]), (none, some (0, 11, 0), [], [], [], [og_nl 12 11 0])]
theorem sn_c4 : sn_ce (fun c e => gs_chk (fun pc => Nat.beq pc 177) (fun o => (sn_T4 c e).any (og_chk sn_t1 o)) 300 300 4 268 152 (sn_l c e (12, 0)) [(0, 12, 0)] sn_t1) = true := by decide +kernel
theorem sn_c5 : sn_ce (fun c e => gs_chk (fun pc => Nat.beq pc 150) (fun o => (sn_T2 150 c e (12, 1)).any (og_chk sn_t1 o)) 300 300 4 268 179 (sn_l c e (12, 0)) [] sn_t1) = true := by decide +kernel
def sn_v (c e : Nat) (i j n k : Int) : sm_V := [(0, .ref 53), (1, .int (Int32.ofInt (c : Int))), (2, .int (Int32.ofInt i)), (3, .int (Int32.ofInt (e : Int))), (4, .int (Int32.ofInt j)), (5, .int (Int32.ofInt n)), (6, .int (Int32.ofInt k))]
theorem sn_cl {k : sx_A} {z : Int} (h0 : ρ 0 = 0) (r9 : ρ 9 = i) (r10 : ρ 10 = j) (r11 : ρ 11 = n) (hk : sx_val ρ k = z) : sx_cl1 ρ (sn_l c e k) = sn_v c e i j n z := by
  show [(0, Value.ref 53), (1, sx_cv1 ρ (0, 0, (c : Int))), (2, sx_cv1 ρ (0, 9, 0)), (3, sx_cv1 ρ (0, 0, (e : Int))), (4, sx_cv1 ρ (0, 10, 0)), (5, sx_cv1 ρ (0, 11, 0)), (6, sx_cv1 ρ (0, k))] = _
  rw [tk_cv h0 (c : Int), tk_cv h0 (e : Int), og_int r9, og_int r10, og_int r11, sx_cvk0 (v := (0, k)) rfl]
  show [_, _, _, _, _, _, (6, Value.int (Int32.ofInt (sx_val ρ k)))] = _
  rw [hk]
  rfl
theorem sn_k0 {m : Nat} (hm : 0 < m) (h0 : ρ 0 = 0) (hc : c < 6) : sx_ok ρ m (0, 0, (c : Int)) := ⟨hm, fun _ => by
  show sx_w sx_r32 (sx_val ρ (0, (c : Int)))
  rw [og_c h0]
  exact og_w32 (by omega) (by omega), fun h => by cases h⟩
def sn_A (c e : Nat) (i j n : Int) : Prop := c < 6 ∧ e < 6 ∧ (0 ≤ i ∧ i ≤ 60) ∧ (0 ≤ j ∧ j ≤ 60) ∧ (0 ≤ n ∧ n ≤ 60) ∧ i + n ≤ 60 ∧ j + n ≤ 60
theorem sn_st {k : Int} (hL : L < 2 ^ 31) (hm : sx_mok cl_ly N) (A : sn_A c e i j n) (hk : 0 ≤ k ∧ k ≤ 60) : ∃ ρ : Nat → Int, sx_sat cl_ly (0, -100) xs L N ρ N sn_t1 ∧ sn_t1.1 = 13 ∧ ρ 0 = 0 ∧ ρ 9 = i ∧ ρ 10 = j ∧ ρ 11 = n ∧ ρ 12 = k ∧ sx_okl ρ sn_t1.1 (sn_l c e (12, 0)) ∧ sx_cl1 ρ (sn_l c e (12, 0)) = sn_v c e i j n k := by
  obtain ⟨a1, a2, a3, a4, a5, -, -⟩ := A
  have i32 : sx_w sx_r32 i := og_w32 (by omega) (by omega)
  have j32 : sx_w sx_r32 j := og_w32 (by omega) (by omega)
  have n32 : sx_w sx_r32 n := og_w32 (by omega) (by omega)
  have k32 : sx_w sx_r32 k := og_w32 (by omega) (by omega)
  obtain ⟨ρ, st, e1, e2, -⟩ := og_sat (xs := xs) (gs := sn_g) (zs := [i, j, n, k]) (fs := []) hL hm ⟨og_z rfl a3.1 a3.2 i32, og_z rfl a4.1 a4.2 j32, og_z rfl a5.1 a5.2 n32, og_z rfl hk.1 hk.2 k32, trivial⟩ (fun g hg => by cases hg)
  have n13 : sn_t1.1 = 13 := e1
  have h0 : ρ 0 = 0 := st.2.1
  have r9 : ρ 9 = i := e2 0 _ rfl
  have r10 : ρ 10 = j := e2 1 _ rfl
  have r11 : ρ 11 = n := e2 2 _ rfl
  have r12 : ρ 12 = k := e2 3 _ rfl
  refine ⟨ρ, st, n13, h0, r9, r10, r11, r12, fun q hq => ?_, sn_cl h0 r9 r10 r11 (og_v0 r12)⟩
  rw [n13]
  simp only [sn_l, List.mem_cons, List.not_mem_nil, or_false] at hq
  rcases hq with rfl | rfl | rfl | rfl | rfl | rfl | rfl
  · rw [← n13]; exact sx_ck2 st _
  · exact sn_k0 (by decide) h0 a1
  · exact tk_ok0 (by decide) (by rw [r9]; exact i32)
  · exact sn_k0 (by decide) h0 a2
  · exact tk_ok0 (by decide) (by rw [r10]; exact j32)
  · exact tk_ok0 (by decide) (by rw [r11]; exact n32)
  · exact tk_ok0 (by decide) (by rw [r12]; exact k32)
theorem sn_ndT : sn_ce (fun c e => (sn_T1 c e ++ sn_T4 c e ++ sn_T2 0 c e (0, 0)).all fun T => mt_nd (T.2.2.2.1.map fun q => q.1)) = true := by decide +kernel
theorem sn_nd1 (hc : c < 6) (he : e < 6) : ((sn_T1 c e).all fun T => mt_nd (T.2.2.2.1.map fun q => q.1)) = true := by
  have := List.all_eq_true.mp (sn_ce_ok sn_ndT hc he)
  exact List.all_eq_true.mpr fun T hT => this T (List.mem_append_left _ (List.mem_append_left _ hT))
theorem sn_nd4 (hc : c < 6) (he : e < 6) : ((sn_T4 c e).all fun T => mt_nd (T.2.2.2.1.map fun q => q.1)) = true := by
  have := List.all_eq_true.mp (sn_ce_ok sn_ndT hc he)
  exact List.all_eq_true.mpr fun T hT => this T (List.mem_append_left _ (List.mem_append_right _ hT))
/-- a walk that only lays the counter -/
theorem sn_w2 {p pc : Nat} {k y : Int} {ka : sx_A} (hchk : sn_ce (fun c e => gs_chk (fun pc => Nat.beq pc p) (fun o => (sn_T2 p c e ka).any (og_chk sn_t1 o)) 300 300 4 268 pc (sn_l c e (12, 0)) [] sn_t1) = true) (hL : L < 2 ^ 31) (hm : sx_mok cl_ly N) (A : sn_A c e i j n) (hk : 0 ≤ k ∧ k ≤ 60) (hy : ∀ ρ : Nat → Int, ρ 0 = 0 → ρ 12 = k → sx_val ρ ka = y) (next : ∀ N', sx_mok cl_ly N' → (∀ a, a < 128 → N' a = N a) → rz_fin Q L xs 268 4 p (sn_v c e i j n y) [] N') : rz_fin Q L xs 268 4 pc (sn_v c e i j n k) [] N := by
  obtain ⟨ρ, st, n13, h0, r9, r10, r11, r12, okl, el⟩ := sn_st (xs := xs) hL hm A hk
  refine og_use (Ts := sn_T2 p c e ka) (lv := sn_l c e (12, 0)) (s := []) (sn_ce_ok hchk A.1 A.2.1) rfl st okl (fun v hv => by cases hv) (Nat.le_refl _) el rfl (fun T hT ρ' M' x h0' hm' hc hM => ?_)
  rw [n13] at x
  rw [List.mem_singleton.mp hT] at hM ⊢
  show rz_fin Q L xs 268 4 p (sx_cl1 ρ' (sn_l c e ka)) [] M'
  rw [sn_cl h0' (og_v x (by decide) r9) (og_v x (by decide) r10) (og_v x (by decide) r11) (hy ρ' h0' (og_v x (by decide) r12))]
  exact next M' hm' hM
theorem sn_ar : (∃ g, sx_arr cl_ly 89 1 = some g ∧ g.2.2.1 = 360) ∧ ∃ g, sx_arr cl_ly 90 1 = some g ∧ g.2.2.1 = 60 := ⟨⟨_, rfl, rfl⟩, ⟨_, rfl, rfl⟩⟩
theorem sn_89 (hm : sx_mok cl_ly N) {t : Nat} (h : t < 360) : sx_w sx_r64 (N 89 t) := hm 89 _ t _ rfl h rfl
theorem sn_90 (hm : sx_mok cl_ly N) {t : Nat} (h : t < 60) : sx_w sx_r64 (N 90 t) := hm 90 _ t _ rfl h rfl
theorem sn_rg : (∀ h i r, cl_ly 89 = some h → sx_rgo h i = some r → r = sx_r64) ∧ ∀ h i r, cl_ly 90 = some h → sx_rgo h i = some r → r = sx_r64 := by
  refine ⟨fun h i r a b => ?_, fun h i r a b => ?_⟩ <;> (cases a; cases b; rfl)
theorem sn_up89 (hm : sx_mok cl_ly N) {t : Nat} {v : Int} (w : sx_w sx_r64 v) : sx_mok cl_ly (sx_up N 89 t v) := sx_mok_up hm rfl (fun r hr => by rw [sn_rg.1 _ _ r rfl hr]; exact w)
theorem sn_up90 (hm : sx_mok cl_ly N) {t : Nat} {v : Int} (w : sx_w sx_r64 v) : sx_mok cl_ly (sx_up N 90 t v) := sx_mok_up hm rfl (fun r hr => by rw [sn_rg.2 _ _ r rfl hr]; exact w)
theorem sn_step1 {k : Nat} (hL : L < 2 ^ 31) (hm : sx_mok cl_ly N) (A : sn_A c e i j n) (hk : (k : Int) ≤ n) (next : ∀ N', (k : Int) < n → sx_mok cl_ly N' → (∀ a, a < 128 → N' a = sx_up N 90 k (N 89 (60 * c + i.toNat + k)) a) → rz_fin Q L xs 268 4 113 (sn_v c e i j n ((k + 1 : Nat) : Int)) [] N') (fin : ∀ N', (k : Int) = n → sx_mok cl_ly N' → (∀ a, a < 128 → N' a = N a) → rz_fin Q L xs 268 4 147 (sn_v c e i j n n) [] N') : rz_fin Q L xs 268 4 113 (sn_v c e i j n k) [] N := by
  obtain ⟨a1, a2, a3, a4, a5, a6, a7⟩ := A
  have A : sn_A c e i j n := ⟨a1, a2, a3, a4, a5, a6, a7⟩
  refine rz_ilw (x := 6) rfl rfl ?_
  obtain ⟨ρ, st, n13, h0, r9, r10, r11, r12, okl, el⟩ := sn_st (xs := xs) (k := (k : Int)) hL hm A ⟨by omega, by omega⟩
  refine og_use (Ts := sn_T1 c e) (lv := sn_l c e (12, 0)) (s := [(0, 12, 0)]) (sn_ce_ok sn_c1 a1 a2) (sn_nd1 a1 a2) st okl (fun v hv => ?_) (Nat.le_refl _) el (by
    show [sx_cv1 ρ (0, 12, 0)] = _
    rw [og_int r12]) (fun T hT ρ' M' x h0' hm' hc hM => ?_)
  · rw [List.mem_singleton.mp hv]
    exact tk_ok0 (by rw [n13]; decide) (by rw [r12]; exact og_w32 (by omega) (by omega))
  · rw [n13] at x
    have q9 := og_v x (show 9 < 13 by decide) r9
    have q10 := og_v x (show 10 < 13 by decide) r10
    have q11 := og_v x (show 11 < 13 by decide) r11
    have q12 := og_v x (show 12 < 13 by decide) r12
    simp only [sn_T1, List.mem_cons, List.not_mem_nil, or_false] at hT
    rcases hT with rfl | rfl
    · obtain ⟨c1, c2, -⟩ := hc
      have c1 : ρ' 12 < ρ' 11 + 0 := c1
      have c2 : ρ' 13 = sx_mf 0 (sx_val ρ' (9, 60 * (c : Int))) (sx_val ρ' (12, 0)) := c2
      rw [q12, q11] at c1
      rw [og_vv q9, og_v0 q12, sn_add (og_w32 (by omega) (by omega))] at c2
      have hM : ∀ a, a < 128 → M' a = N a := hM
      show rz_fin _ L xs 268 4 139 (sx_cl1 ρ' (sn_l c e (12, 0))) [sx_cv1 ρ' (0, 13, 0), Value.ref 89, sx_cv1 ρ' (0, 12, 0), Value.ref 90] M'
      rw [sn_cl h0' q9 q10 q11 (og_v0 q12), og_int c2, og_int q12]
      obtain ⟨⟨g, g1, g2⟩, ⟨h, h1, h2⟩⟩ := sn_ar
      have et : (i + 60 * (c : Int) + (k : Int)).toNat = 60 * c + i.toNat + k := by omega
      refine rz_ll (j := 268) rfl g1 (by omega) (by rw [g2]; omega) (og_w32 (by omega) (by omega)) ?_
      refine rz_ls (j := 268) rfl h1 (by omega) (by rw [h2]; omega) (og_w32 (by omega) (by omega)) ?_
      rw [et, Int.toNat_natCast]
      refine sn_w2 (p := 113) (ka := (12, 1)) (y := ((k + 1 : Nat) : Int)) sn_c2 hL (sn_up90 hm' (sn_89 hm' (by omega))) A ⟨by omega, by omega⟩ (fun ρ _ h => by rw [og_vv h]; omega) (fun N' hn' e' => next N' (by omega) hn' (fun a ha => ?_))
      rw [e' a ha, hM 89 (by decide)]
      funext t
      unfold sx_up
      rw [hM a ha]
    · obtain ⟨c1, -⟩ := hc
      have c1 : ¬ ρ' 12 < ρ' 11 + 0 := c1
      rw [q12, q11] at c1
      have hM : ∀ a, a < 128 → M' a = N a := hM
      show rz_fin _ L xs 268 4 147 (sx_cl1 ρ' (sn_l c e (12, 0))) [] M'
      have ek : (k : Int) = n := by omega
      rw [sn_cl h0' q9 q10 q11 ((og_v0 q12).trans ek)]
      exact fin M' ek hm' hM
theorem sn_loop1 (hL : L < 2 ^ 31) (A : sn_A c e i j n) : ∀ (m k : Nat) (N : Nat → Nat → Int), n.toNat - k = m → (k : Int) ≤ n → sx_mok cl_ly N → (∀ N', sx_mok cl_ly N' → (∀ a, a < 128 → a ≠ 90 → N' a = N a) → (∀ t : Nat, N' 90 t = if k ≤ t ∧ (t : Int) < n then N 89 (60 * c + i.toNat + t) else N 90 t) → rz_fin Q L xs 268 4 147 (sn_v c e i j n n) [] N') → rz_fin Q L xs 268 4 113 (sn_v c e i j n k) [] N := by
  intro m
  induction m with
  | zero =>
    intro k N h1 hk hm K
    refine sn_step1 hL hm A hk (fun N' h => by omega) (fun N' h hm' e' => K N' hm' (fun a ha _ => e' a ha) (fun t => ?_))
    rw [e' 90 (by decide), if_neg (by omega)]
  | succ m ih =>
    intro k N h1 hk hm K
    refine sn_step1 hL hm A hk (fun N' h hm' e' => ih (k + 1) N' (by omega) (by omega) hm' (fun N2 hm2 f2 g2 => K N2 hm2 (fun a ha ne => ?_) (fun t => ?_))) (fun N' h hm' e' => K N' hm' (fun a ha _ => e' a ha) (fun t => ?_))
    · rw [f2 a ha ne, e' a ha, sh_une ne]
    · rw [g2 t, e' 89 (by decide), sh_une (by decide), e' 90 (by decide)]
      by_cases ek : t = k
      · subst ek
        rw [if_neg (by omega), if_pos (by omega), sh_uat]
      · rw [sh_unj ek]
        by_cases h9 : k + 1 ≤ t ∧ (t : Int) < n
        · rw [if_pos h9, if_pos ⟨by omega, h9.2⟩]
        · rw [if_neg h9, if_neg (by omega)]
    · rw [e' 90 (by decide), if_neg (by omega)]
theorem sn_step2 {k : Nat} (hL : L < 2 ^ 31) (hm : sx_mok cl_ly N) (A : sn_A c e i j n) (hk : (k : Int) ≤ n) (next : ∀ N', (k : Int) < n → sx_mok cl_ly N' → (∀ a, a < 128 → N' a = sx_up N 89 (60 * e + j.toNat + k) (N 90 k) a) → rz_fin Q L xs 268 4 150 (sn_v c e i j n ((k + 1 : Nat) : Int)) [] N') (fin : ∀ N', (k : Int) = n → sx_mok cl_ly N' → (∀ a, a < 128 → N' a = N a) → Q (some (.int (Int32.ofInt n))) N') : rz_fin Q L xs 268 4 150 (sn_v c e i j n k) [] N := by
  obtain ⟨a1, a2, a3, a4, a5, a6, a7⟩ := A
  have A : sn_A c e i j n := ⟨a1, a2, a3, a4, a5, a6, a7⟩
  refine rz_ilw (x := 6) rfl rfl ?_
  obtain ⟨ρ, st, n13, h0, r9, r10, r11, r12, okl, el⟩ := sn_st (xs := xs) (k := (k : Int)) hL hm A ⟨by omega, by omega⟩
  refine og_use (Ts := sn_T4 c e) (lv := sn_l c e (12, 0)) (s := [(0, 12, 0)]) (sn_ce_ok sn_c4 a1 a2) (sn_nd4 a1 a2) st okl (fun v hv => ?_) (Nat.le_refl _) el (by
    show [sx_cv1 ρ (0, 12, 0)] = _
    rw [og_int r12]) (fun T hT ρ' M' x h0' hm' hc hM => ?_)
  · rw [List.mem_singleton.mp hv]
    exact tk_ok0 (by rw [n13]; decide) (by rw [r12]; exact og_w32 (by omega) (by omega))
  · rw [n13] at x
    have q9 := og_v x (show 9 < 13 by decide) r9
    have q10 := og_v x (show 10 < 13 by decide) r10
    have q11 := og_v x (show 11 < 13 by decide) r11
    have q12 := og_v x (show 12 < 13 by decide) r12
    simp only [sn_T4, List.mem_cons, List.not_mem_nil, or_false] at hT
    rcases hT with rfl | rfl
    · obtain ⟨c1, c2, -⟩ := hc
      have c1 : ρ' 12 < ρ' 11 + 0 := c1
      have c2 : ρ' 13 = sx_mf 0 (sx_val ρ' (10, 60 * (e : Int))) (sx_val ρ' (12, 0)) := c2
      rw [q12, q11] at c1
      rw [og_vv q10, og_v0 q12, sn_add (og_w32 (by omega) (by omega))] at c2
      have hM : ∀ a, a < 128 → M' a = N a := hM
      show rz_fin _ L xs 268 4 177 (sx_cl1 ρ' (sn_l c e (12, 0))) [sx_cv1 ρ' (0, 12, 0), Value.ref 90, sx_cv1 ρ' (0, 13, 0), Value.ref 89] M'
      rw [sn_cl h0' q9 q10 q11 (og_v0 q12), og_int c2, og_int q12]
      obtain ⟨⟨g, g1, g2⟩, ⟨h, h1, h2⟩⟩ := sn_ar
      have et : (j + 60 * (e : Int) + (k : Int)).toNat = 60 * e + j.toNat + k := by omega
      refine rz_ll (j := 268) rfl h1 (by omega) (by rw [h2]; omega) (og_w32 (by omega) (by omega)) ?_
      refine rz_ls (j := 268) rfl g1 (by omega) (by rw [g2]; omega) (og_w32 (by omega) (by omega)) ?_
      rw [et, Int.toNat_natCast]
      refine sn_w2 (p := 150) (ka := (12, 1)) (y := ((k + 1 : Nat) : Int)) sn_c5 hL (sn_up89 hm' (sn_90 hm' (by omega))) A ⟨by omega, by omega⟩ (fun ρ _ h => by rw [og_vv h]; omega) (fun N' hn' e' => next N' (by omega) hn' (fun a ha => ?_))
      rw [e' a ha, hM 90 (by decide)]
      funext t
      unfold sx_up
      rw [hM a ha]
    · obtain ⟨c1, -⟩ := hc
      have c1 : ¬ ρ' 12 < ρ' 11 + 0 := c1
      rw [q12, q11] at c1
      show Q (some (sx_cv1 ρ' (0, 11, 0))) M'
      rw [og_int q11]
      exact fin M' (by omega) hm' hM
theorem sn_loop2 (hL : L < 2 ^ 31) (A : sn_A c e i j n) : ∀ (m k : Nat) (N : Nat → Nat → Int), n.toNat - k = m → (k : Int) ≤ n → sx_mok cl_ly N → (∀ N', sx_mok cl_ly N' → (∀ a, a < 128 → a ≠ 89 → N' a = N a) → (∀ t : Nat, N' 89 t = if 60 * e + j.toNat + k ≤ t ∧ t < 60 * e + j.toNat + n.toNat then N 90 (t - (60 * e + j.toNat)) else N 89 t) → Q (some (.int (Int32.ofInt n))) N') → rz_fin Q L xs 268 4 150 (sn_v c e i j n k) [] N := by
  intro m
  induction m with
  | zero =>
    intro k N h1 hk hm K
    refine sn_step2 hL hm A hk (fun N' h => by omega) (fun N' h hm' e' => K N' hm' (fun a ha _ => e' a ha) (fun t => ?_))
    rw [e' 89 (by decide), if_neg (by omega)]
  | succ m ih =>
    intro k N h1 hk hm K
    refine sn_step2 hL hm A hk (fun N' h hm' e' => ih (k + 1) N' (by omega) (by omega) hm' (fun N2 hm2 f2 g2 => K N2 hm2 (fun a ha ne => ?_) (fun t => ?_))) (fun N' h hm' e' => K N' hm' (fun a ha _ => e' a ha) (fun t => ?_))
    · rw [f2 a ha ne, e' a ha, sh_une ne]
    · rw [g2 t, e' 90 (by decide), sh_une (by decide), e' 89 (by decide)]
      by_cases ek : t = 60 * e + j.toNat + k
      · subst ek
        rw [if_neg (by omega), if_pos (by omega), sh_uat]
        congr 1
        omega
      · rw [sh_unj ek]
        by_cases h9 : 60 * e + j.toNat + (k + 1) ≤ t ∧ t < 60 * e + j.toNat + n.toNat
        · rw [if_pos h9, if_pos ⟨by omega, h9.2⟩]
        · rw [if_neg h9, if_neg (by omega)]
    · rw [e' 89 (by decide), if_neg (by omega)]
end
