/-! law(): the reference's, and that both sides fall alike. -/
section
variable {L : Nat} {xs : Nat → Int32} {M M' M0 M1 M2 M3 : Nat → Nat → Int} {ρ ρ' : Nat → Int} {T T' : Nat → Int} {N : Nat} {z v n : Int}
theorem ym_none (h : z < 0 ∨ 127 < z) (s : yk_S) : yk_go s z = none := by
  obtain ⟨D, P, o, b, g, n, j, due⟩ := s
  have hr : yk_rank z = 0 := by
    unfold yk_rank
    rw [if_neg (by omega), if_neg (by omega), if_neg (by omega), if_neg (by omega), if_neg (by omega)]
  have hn : yk_name z = -1 := by
    unfold yk_name
    rw [if_neg (by omega), if_neg (by omega), if_neg (by omega), if_neg (by omega), if_neg (by omega), if_neg (by omega)]
  cases due with
  | true =>
    show yk_oper D P o b g n j z = none
    unfold yk_oper
    rw [if_neg (by omega), if_neg (by omega), if_pos hn]
  | false =>
    show (if 48 ≤ z ∧ z ≤ 57 then _ else if z = 41 then _ else if z = 63 then _ else if z = 59 then _ else yk_op D P o b n j z) = none
    rw [if_neg (by omega), if_neg (by omega), if_neg (by omega), if_neg (by omega)]
    unfold yk_op
    rw [if_pos hr]
theorem ym_run (h : ∀ i, i < N → ∀ s, yk_go s (T i) = yk_go s (T' i)) : ∀ (c a : Nat) (s : yk_S), a + c ≤ N → yk_run T a c s = yk_run T' a c s := by
  intro c
  induction c with
  | zero => intro a s _; rfl
  | succ c ih =>
    intro a s hc
    show (match yk_go s (T a) with
      | some u => yk_run T (a + 1) c u
      | none => none) = (match yk_go s (T' a) with
      | some u => yk_run T' (a + 1) c u
      | none => none)
    rw [h a (by omega) s]
    cases yk_go s (T' a) with
    | none => rfl
    | some u => exact ih (a + 1) u (by omega)
theorem ym_stop {f m : Nat} {s u : yk_S} (h : yk_run T 0 f s = some u) (hg : yk_go u (T f) = none) (hfm : f < m) : yk_run T 0 m s = none := by
  have := yk_run_add T f (m - f) 0 s u h
  rw [show f + (m - f) = m by omega, Nat.zero_add] at this
  rw [this, show m - f = (m - f - 1) + 1 by omega]
  show (match yk_go u (T f) with
    | some v => yk_run T (f + 1) (m - f - 1) v
    | none => none) = none
  rw [hg]
/-- there is but one place where it falls, or none -/
theorem ym_det (hT : ∀ i, i < N → ∀ s, yk_go s (T i) = yk_go s (T' i)) (hx : (∃ D P o b g n' j, yk_run T 0 N (yv_s0 n) = some (D, P, o, b, g, n', j, false) ∧ ¬ 0 < b ∧ v = -1) ∨ (∃ f s, f ≤ N ∧ v = ((f : Nat) : Int) ∧ yk_run T 0 f (yv_s0 n) = some s ∧ ((f < N ∧ yk_go s (T f) = none) ∨ (f = N ∧ (s.2.2.2.2.2.2.2 = true ∨ 0 < s.2.2.2.1))))) (hm : (z = -1 ∧ ∃ W, yk_L T' 0 N W) ∨ (0 ≤ z ∧ yk_M T' N 0 z.toNat)) : v = z := by
  rcases hx with ⟨D, P, o, b, g, n1, j, x1, x2, x3⟩ | ⟨f, s, x1, x0, x2, x3⟩
  · rcases hm with ⟨m0, W, m1⟩ | ⟨m0, m1⟩
    · omega
    · exfalso
      obtain ⟨m2, m3, m4⟩ := m1
      obtain ⟨D', P', o', b', g', n', j', due, r1, r2, r3⟩ := m4 [] n
      have r1 : yk_run T 0 z.toNat (yv_s0 n) = some (D', P', o', b', g', n', j', due) := by
        rw [ym_run hT _ _ _ (by omega)]
        exact r1
      by_cases e : z.toNat < N
      · have := ym_stop r1 (by rw [hT _ e]; exact r2) e
        rw [x1] at this
        cases this
      · have e : z.toNat = N := by omega
        rw [e, x1] at r1
        have r3 := r3 e
        cases r1
        rcases r3 with h | h
        · cases h
        · exact x2 h
  · rcases hm with ⟨m0, W, m1⟩ | ⟨m0, m1⟩
    · exfalso
      obtain ⟨D', Q, g', n', j', r1, -⟩ := m1.2 [] n
      have r1 : yk_run T 0 N (yv_s0 n) = some (D', Q, 0, 0, g', n', j', false) := by
        rw [ym_run hT _ _ _ (by omega)]
        exact r1
      rcases x3 with ⟨e, x3⟩ | ⟨e, x3⟩
      · have := ym_stop x2 x3 e
        rw [r1] at this
        cases this
      · rw [e, r1] at x2
        cases x2
        rcases x3 with h | h
        · cases h
        · exact absurd h (show ¬ (0 : Int) < 0 by decide)
    · obtain ⟨m2, m3, m4⟩ := m1
      obtain ⟨D', P', o', b', g', n', j', due, r1, r2, r3⟩ := m4 [] n
      have r1 : yk_run T 0 z.toNat (yv_s0 n) = some (D', P', o', b', g', n', j', due) := by
        rw [ym_run hT _ _ _ (by omega)]
        exact r1
      by_cases e1 : f < z.toNat
      · rcases x3 with ⟨-, x3⟩ | ⟨h, -⟩
        · have := ym_stop x2 x3 e1
          rw [r1] at this
          cases this
        · omega
      · by_cases e2 : z.toNat < f
        · have := ym_stop r1 (by rw [hT _ (by omega)]; exact r2) e2
          rw [x2] at this
          cases this
        · omega
-- the reference's law()
theorem ym_P (h67 : M' 67 = M 67) (h68 : M' 68 = M 68) (h70 : M' 70 = M 70) (h71 : M' 71 = M 71) (sb lb : Nat) : ∀ k, yj_P M' sb lb k = yj_P M sb lb k := fun k => by
  induction k with
  | zero => rfl
  | succ k ih =>
    show yk_w3 (yj_P M' sb lb k) (yj_W M' sb lb k) = yk_w3 (yj_P M sb lb k) (yj_W M sb lb k)
    have el : ∀ k c, yr_L M' k c = yr_L M k c := fun k c => yr_L_on (fun i _ _ => by rw [h67, h68]; exact ⟨rfl, rfl⟩)
    rw [ih]
    unfold yj_W yj_f
    simp only [h70, h71, el]
/-- what the reference's law() does; z: where it falls, or -1 -/
def ym_R (M : Nat → Nat → Int) (z : Int) (M' : Nat → Nat → Int) : Prop := sx_mok cl_ly M' ∧ (∀ a i : Nat, a < 128 → ¬ (67 ≤ a ∧ a ≤ 71) → (a = 53 → i ≠ 33 ∧ ¬ (21 ≤ i ∧ i ≤ 25)) → M' a i = M a i) ∧ M' 53 21 = 0 ∧ WF M' ∧ (z = -1 → M' 53 33 = 1 ∧ 1 ≤ M' 69 0 ∧ yk_L (yr_T M) 0 (M 53 21).toNat (yj_P M' 0 0 (M' 69 0).toNat) ∧ yj_N M' 0 (M' 69 0).toNat) ∧ (0 ≤ z → yk_M (yr_T M) (M 53 21).toNat 0 z.toNat ∧ M' 53 33 = M 53 33 ∧ (∀ i : Nat, i < 130 → M' 67 i = M 67 i ∧ M' 68 i = M 68 i) ∧ M' 69 0 = M 69 0 ∧ ∀ i : Nat, i < 61 → M' 70 i = M 70 i ∧ M' 71 i = M 71 i)
noncomputable def ym_t : sx_S := og_t [(0, (-1, 120))] []
def ym_Ts : List og_T := [(none, some (0, 0, 1), [], [], [(53, (0, 33), (0, 1))], [og_b 9 (-1) (-1)]), (none, some (0, 10, 0), [], [], [], [og_b 9 0 120, (5, (0, -100), (9, 0), 1, 10)])]
theorem ym_c : gs_chk (fun _ => false) (fun u => ym_Ts.any (og_chk ym_t u)) 400 400 48 173 5 ml_lv [(0, 9, 0)] ym_t = true := by decide +kernel
theorem ym_fin (hL : L < 2 ^ 31) (hm : sx_mok cl_ly M0) (hw : WF M0) : rz_fin (fun r M' => ∃ z : Int, r = some (.int (Int32.ofInt (yw_v z))) ∧ -1 ≤ z ∧ z ≤ 120 ∧ ym_R M0 z M') L xs 173 48 0 [(0, .ref 53)] [] M0 := by
  refine rz_st ml_f0 rfl rfl rfl (pc' := 1) (lv' := [(0, .ref 53)]) (s' := [.ref 53]) rfl ?_
  refine rz_st ml_f1 rfl rfl rfl (pc' := 2) (lv' := [(0, .ref 53)]) (s' := [.int (Int32.ofInt 0), .ref 53]) rfl ?_
  refine rz_callv (d := 47) (k := 174) ml_f2 (ml_call []) ⟨Nat.zero_le _, Nat.le_of_ble_eq_true rfl⟩ (yj_text hL hm hw) (fun r M1 hR => ?_)
  obtain ⟨z, rfl, z1, z2, ⟨q1, q2, q3, q4⟩, y1, y2⟩ := hR
  obtain ⟨ρ, s, n1, r1, -⟩ := og_sat (xs := xs) (gs := [(0, (-1, 120))]) (zs := [z]) (fs := []) hL q1 ⟨og_z rfl z1 z2 (og_w32 (by omega) (by omega)), trivial⟩ (fun q hq => by cases hq)
  have n1 : ym_t.1 = 10 := n1
  have r9 : ρ 9 = z := r1 0 _ rfl
  have f33 : M1 53 33 = M0 53 33 := rq_at q2 (by decide) (by decide) (fun _ => by decide)
  refine og_use (Ts := ym_Ts) (lv := ml_lv) (s := [(0, 9, 0)]) ym_c (by rfl) s (fun q hq => by rw [List.mem_singleton.mp hq]; exact sx_ck2 s _) (fun w hw => by
    rw [List.mem_singleton.mp hw]
    exact tk_ok0 (by rw [n1]; decide) (by rw [r9]; exact og_w32 (by omega) (by omega))) (Nat.le_refl _) rfl (by show [sx_cv1 ρ (0, 9, 0)] = _; rw [og_int r9]; rfl) (fun T hT ρ' M2 x h0 hm' hc hM => ?_)
  rw [n1] at x
  have q9 := og_v x (show 9 < 10 by decide) r9
  simp only [ym_Ts, List.mem_cons, List.not_mem_nil, or_false] at hT
  rcases hT with rfl | rfl
  · obtain ⟨⟨c1, c2⟩, -⟩ := hc
    have c2 : sx_val ρ' (9, 0) ≤ -1 := c2
    rw [og_v0 q9] at c2
    have ez : z = -1 := by omega
    have hM : ∀ b, b < 128 → M2 b = sx_up M1 53 (sx_val ρ' (0, ((33 : Nat) : Int))).toNat (sx_val ρ' (0, 1)) b := hM
    rw [yw_n h0, og_c h0] at hM
    have e : ∀ a, a < 128 → a ≠ 53 → M2 a = M1 a := fun a ha g => by rw [hM a ha, sh_une g]
    have e53 : ∀ k, M2 53 k = if k = 33 then 1 else M1 53 k := fun k => by rw [hM 53 (by decide)]; simp [sx_up]
    refine ⟨z, ?_, z1, z2, hm', fun a i ha h67 h53 => ?_, ?_, WF_zs M1 M2 (fun k hk => e k (cz_lt hk).1 (cz_lt hk).2) q4, fun h => ⟨e53 33, ?_⟩, fun h => by omega⟩
    · show some (sx_cv1 ρ' (0, 0, 1)) = _
      rw [tk_cv h0]
      unfold yw_v
      rw [if_pos (by omega)]
    · by_cases ea : a = 53
      · obtain ⟨g1, g2⟩ := h53 ea
        subst ea
        rw [e53, if_neg g1]
        exact rq_at q2 ha h67 (fun _ => g2)
      · rw [e a ha ea]
        exact rq_at q2 ha h67 (fun h => absurd h ea)
    · rw [e53, if_neg (by decide)]
      exact q3
    · unfold yj_N
      rw [e 70 (by decide) (by decide), e 71 (by decide) (by decide), e 69 (by decide) (by decide), ym_P (e 67 (by decide) (by decide)) (e 68 (by decide) (by decide)) (e 70 (by decide) (by decide)) (e 71 (by decide) (by decide))]
      exact y1 ez
  · obtain ⟨⟨c1, c2⟩, c3, -⟩ := hc
    have c1 : 0 ≤ sx_val ρ' (9, 0) := c1
    rw [og_v0 q9] at c1
    have c3 : ρ' 10 = sx_mf 1 (sx_val ρ' (0, -100)) (sx_val ρ' (9, 0)) := c3
    rw [og_c h0, og_v0 q9, og_sub (og_w32 (by omega) (by omega))] at c3
    have e : ∀ a, a < 128 → M2 a = M1 a := hM
    refine ⟨z, ?_, z1, z2, hm', fun a i ha h67 h53 => ?_, ?_, WF_zs M1 M2 (fun k hk => e k (cz_lt hk).1) q4, fun h => by omega, fun _ => ?_⟩
    · show some (sx_cv1 ρ' (0, 10, 0)) = _
      rw [og_int c3]
      unfold yw_v
      rw [if_neg (by omega)]
    · rw [e a ha]
      exact rq_at q2 ha h67 (fun h => (h53 h).2)
    · rw [e 53 (by decide)]
      exact q3
    · rw [e 53 (by decide), e 67 (by decide), e 68 (by decide), e 69 (by decide), e 70 (by decide), e 71 (by decide)]
      exact ⟨(y2 c1).1, f33, (y2 c1).2⟩
-- both sides
def ym_sg (z : Int) : Int := (Int32.ofInt z).toInt8.toInt
theorem ym_neg : ((List.range 128).all fun k => decide ((Int32.ofInt (128 + (k : Int))).toInt8.toInt < 0)) = true := by decide +kernel
theorem ym_sg_lo (h1 : 0 ≤ z) (h2 : z ≤ 127) : ym_sg z = z := sx_f8 ⟨by show (-128 : Int) ≤ z; omega, h2⟩
theorem ym_sg_hi (h1 : 128 ≤ z) (h2 : z ≤ 255) : ym_sg z < 0 := by
  have := of_decide_eq_true (List.all_eq_true.mp ym_neg (z - 128).toNat (List.mem_range.mpr (by omega)))
  rw [show (128 : Int) + (((z - 128).toNat : Nat) : Int) = z by omega] at this
  exact this
theorem ym_eq (h1 : 0 ≤ z) (h2 : z ≤ 255) (s : yk_S) : yk_go s z = yk_go s (ym_sg z) := by
  by_cases h : z ≤ 127
  · rw [ym_sg_lo h1 h]
  · rw [ym_none (Or.inr (by omega)), ym_none (Or.inl (ym_sg_hi (by omega) h2))]
/-- the letters that were fed -/
def ym_SS (M : Nat → Nat → Int) : Prop := ∀ i : Nat, (i : Int) < M 14 6 → M 66 i = ym_sg (M 15 i)
theorem ym_S0 : ym_SS cl_M0 := by
  have h : sx_eq (cl_M0 14 6) 0 = true := by decide +kernel
  intro i hi
  rw [sx_eq_iff.mp h] at hi
  omega
end
/-! feed: both sides. -/
section
variable {WF : (Nat → Nat → Int) → Prop} {L : Nat} {xs : Nat → Int32} {M M' M1 M2 : Nat → Nat → Int} {ρ ρ' : Nat → Int} {b z N : Int}
def ym_a (a : Nat) (b : Int) : sm_V := [(0, .ref a), (1, .int (Int32.ofInt b))]
theorem ym_l1 {m a : Nat} {c : Int} (hc : ∀ c, sx_ok ρ m (2, 0, c)) (h : 9 < m) (ea : c.toNat = a) (r9 : ρ 9 = b) (hb : sx_w sx_r32 b) : sx_okl ρ m (ol_1 c) ∧ sx_cl1 ρ (ol_1 c) = ym_a a b := by
  refine ⟨fun q hq => ?_, ?_⟩
  · simp only [ol_1, List.mem_cons, List.not_mem_nil, or_false] at hq
    rcases hq with rfl | rfl
    · exact hc _
    · exact tk_ok0 h (by rw [r9]; exact hb)
  · show [(0, sx_cv1 ρ (2, 0, c)), (1, sx_cv1 ρ (0, 9, 0))] = _
    rw [og_int r9]
    show [(0, Value.ref c.toNat), _] = _
    rw [ea]
    rfl
/-- N: how many lie already; w: where how many lies; k: the cell; s: what is laid -/
def ym_F (b : Int) (M : Nat → Nat → Int) (a p k : Nat) (s : Int) (z : Int) (M' : Nat → Nat → Int) : Prop := (z = -1 ∧ ¬ (0 ≤ b ∧ b ≤ 255) ∧ ∀ c, c < 128 → M' c = M c) ∨ (z = -3 ∧ (0 ≤ b ∧ b ≤ 255) ∧ M a p = 120 ∧ ∀ c, c < 128 → M' c = M c) ∨ (z = M a p + 1 ∧ (0 ≤ b ∧ b ≤ 255) ∧ M a p ≤ 119 ∧ ∀ c, c < 128 → M' c = sx_up (sx_up M k (M a p).toNat s) a p (M a p + 1) c)
theorem ym_fx (hL : L < 2 ^ 31) (hm : sx_mok cl_ly M) (hN : sx_w (0, 120) (M 14 6)) (hb : sx_w sx_r32 b) : rz_fin (sh_Q (ym_F b M 14 6 15 b)) L xs 30 3 0 (ym_a 8 b) [] M := by
  obtain ⟨ρ, st, e1, e2, e3⟩ := og_sat (xs := xs) (gs := og_g1) (zs := [b]) (fs := [(14, 6, (0, 120))]) hL hm ⟨og_z rfl hb.1 hb.2 hb, trivial⟩ (fun g hg => by
    rw [List.mem_singleton.mp hg]
    exact og_f hm rfl (show cv_ly cl_ly (14, 6, sx_r32) = true by decide +kernel) hN)
  have r9 : ρ 9 = b := e2 0 _ rfl
  have r10 : ρ 10 = M 14 6 := e3 0 _ rfl
  obtain ⟨okl, el⟩ := ym_l1 (m := 11) (a := 8) (c := 8) (fun c => sx_ck2 st c) (by decide) rfl r9 hb
  refine og_use (Ts := of_Tx) (lv := ol_1 8) (s := []) of_cx (by decide +kernel) st okl (fun v hv => by cases hv) (Nat.le_refl _) el rfl (fun T hT ρ' M' x h0 hm' hc hM => ?_)
  have q9 := og_v x (show 9 < 11 by decide) r9
  have q10 := og_v x (show 10 < 11 by decide) r10
  have v9 : sx_val ρ' (9, 0) = b := og_v0 q9
  have v10 : sx_val ρ' (10, 0) = M 14 6 := og_v0 q10
  simp only [of_Tx, List.mem_cons, List.not_mem_nil, or_false] at hT
  rcases hT with rfl | rfl | rfl | rfl
  · obtain ⟨⟨c1, c2⟩, -⟩ := hc
    have c2 : sx_val ρ' (9, 0) ≤ -1 := c2
    rw [v9] at c2
    exact ⟨-1, congrArg some (tk_cv h0 (-1)), hm', Or.inl ⟨rfl, by omega, hM⟩⟩
  · obtain ⟨⟨c1, c2⟩, -⟩ := hc
    have c1 : 256 ≤ sx_val ρ' (9, 0) := c1
    rw [v9] at c1
    exact ⟨-1, congrArg some (tk_cv h0 (-1)), hm', Or.inl ⟨rfl, by omega, hM⟩⟩
  · obtain ⟨⟨c1, c2⟩, ⟨c3, c4⟩, -⟩ := hc
    have c1 : 0 ≤ sx_val ρ' (9, 0) := c1
    have c2 : sx_val ρ' (9, 0) ≤ 255 := c2
    have c3 : 120 ≤ sx_val ρ' (10, 0) := c3
    have c4 : sx_val ρ' (10, 0) ≤ 120 := c4
    rw [v9] at c1 c2
    rw [v10] at c3 c4
    exact ⟨-3, congrArg some (tk_cv h0 (-3)), hm', Or.inr (Or.inl ⟨rfl, ⟨c1, c2⟩, by omega, hM⟩)⟩
  · obtain ⟨⟨c1, c2⟩, ⟨c3, c4⟩, -⟩ := hc
    have c1 : 0 ≤ sx_val ρ' (9, 0) := c1
    have c2 : sx_val ρ' (9, 0) ≤ 255 := c2
    have c4 : sx_val ρ' (10, 0) ≤ 119 := c4
    rw [v9] at c1 c2
    rw [v10] at c4
    have hM : ∀ c, c < 128 → M' c = sx_up (sx_up M 15 (sx_val ρ' (10, 0)).toNat (sx_val ρ' (9, 0))) 14 (sx_val ρ' (0, ((6 : Nat) : Int))).toNat (sx_val ρ' (10, 1)) c := hM
    rw [yw_n h0, og_vv (c := 1) q10, v9, v10] at hM
    refine ⟨M 14 6 + 1, ?_, hm', Or.inr (Or.inr ⟨rfl, ⟨c1, c2⟩, c4, hM⟩)⟩
    show some (sx_cv1 ρ' (0, 10, 1)) = _
    rw [sx_cvk0 (v := (0, 10, 1)) rfl, og_vv (c := 1) q10]
theorem ym_fm (hL : L < 2 ^ 31) (hm : sx_mok cl_ly M) (hN : sx_w (0, 120) (M 53 21)) (hb : sx_w sx_r32 b) : rz_fin (sh_Q (ym_F b M 53 21 66 (ym_sg b))) L xs 172 3 0 (ym_a 53 b) [] M := by
  obtain ⟨ρ, st, e1, e2, e3⟩ := og_sat (xs := xs) (gs := og_g1) (zs := [b]) (fs := [(53, 21, (0, 120))]) hL hm ⟨og_z rfl hb.1 hb.2 hb, trivial⟩ (fun g hg => by
    rw [List.mem_singleton.mp hg]
    exact og_f hm rfl (show cv_ly cl_ly (53, 21, sx_r32) = true by decide +kernel) hN)
  have r9 : ρ 9 = b := e2 0 _ rfl
  have r10 : ρ 10 = M 53 21 := e3 0 _ rfl
  obtain ⟨okl, el⟩ := ym_l1 (m := 11) (a := 53) (c := 53) (fun c => sx_ck2 st c) (by decide) rfl r9 hb
  refine og_use (Ts := of_Tm) (lv := ol_1 53) (s := []) of_cm (by decide +kernel) st okl (fun v hv => by cases hv) (Nat.le_refl _) el rfl (fun T hT ρ' M' x h0 hm' hc hM => ?_)
  have q9 := og_v x (show 9 < 11 by decide) r9
  have q10 := og_v x (show 10 < 11 by decide) r10
  have v9 : sx_val ρ' (9, 0) = b := og_v0 q9
  have v10 : sx_val ρ' (10, 0) = M 53 21 := og_v0 q10
  simp only [of_Tm, List.mem_cons, List.not_mem_nil, or_false] at hT
  rcases hT with rfl | rfl | rfl | rfl
  · obtain ⟨⟨c1, c2⟩, -⟩ := hc
    have c2 : sx_val ρ' (9, 0) ≤ -1 := c2
    rw [v9] at c2
    exact ⟨-1, congrArg some (tk_cv h0 (-1)), hm', Or.inl ⟨rfl, by omega, hM⟩⟩
  · obtain ⟨⟨c1, c2⟩, -⟩ := hc
    have c1 : 256 ≤ sx_val ρ' (9, 0) := c1
    rw [v9] at c1
    exact ⟨-1, congrArg some (tk_cv h0 (-1)), hm', Or.inl ⟨rfl, by omega, hM⟩⟩
  · obtain ⟨⟨c1, c2⟩, ⟨c3, c4⟩, -⟩ := hc
    have c1 : 0 ≤ sx_val ρ' (9, 0) := c1
    have c2 : sx_val ρ' (9, 0) ≤ 255 := c2
    have c3 : 120 ≤ sx_val ρ' (10, 0) := c3
    have c4 : sx_val ρ' (10, 0) ≤ 120 := c4
    rw [v9] at c1 c2
    rw [v10] at c3 c4
    exact ⟨-3, congrArg some (tk_cv h0 (-3)), hm', Or.inr (Or.inl ⟨rfl, ⟨c1, c2⟩, by omega, hM⟩)⟩
  · obtain ⟨⟨c1, c2⟩, ⟨c3, c4⟩, c5, -⟩ := hc
    have c1 : 0 ≤ sx_val ρ' (9, 0) := c1
    have c2 : sx_val ρ' (9, 0) ≤ 255 := c2
    have c4 : sx_val ρ' (10, 0) ≤ 119 := c4
    have c5 : ρ' 11 = sx_mf 65 (sx_val ρ' (9, 0)) (sx_val ρ' (0, 0)) := c5
    rw [v9] at c1 c2 c5
    rw [v10] at c4
    have c5 : ρ' 11 = ym_sg b := by
      rw [c5]
      unfold sx_mf
      rw [if_neg (by decide), if_neg (by decide), if_neg (by decide), if_pos rfl]
      rfl
    have hM : ∀ c, c < 128 → M' c = sx_up (sx_up M 66 (sx_val ρ' (10, 0)).toNat (sx_val ρ' (11, 0))) 53 (sx_val ρ' (0, ((21 : Nat) : Int))).toNat (sx_val ρ' (10, 1)) c := hM
    rw [yw_n h0, og_vv (c := 1) q10, og_v0 c5, v10] at hM
    refine ⟨M 53 21 + 1, ?_, hm', Or.inr (Or.inr ⟨rfl, ⟨c1, c2⟩, c4, hM⟩)⟩
    show some (sx_cv1 ρ' (0, 10, 1)) = _
    rw [sx_cvk0 (v := (0, 10, 1)) rfl, og_vv (c := 1) q10]
end
