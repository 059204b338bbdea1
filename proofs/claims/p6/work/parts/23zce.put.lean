/-! Shelves: put of the reference; element. -/
section
variable {WF : (Nat → Nat → Int) → Prop} {L : Nat} {xs : Nat → Int32} {M M' M0 M1 M2 : Nat → Nat → Int} {ρ ρ' : Nat → Int} {t : sx_S} {s i v : Int} {c : Nat} {cps : List la_P}
def pt_M (c : Nat) (i v : Int) (M : Nat → Nat → Int) (z : Int) (M' : Nat → Nat → Int) : Prop := (z = -11 ∧ M 87 c = -1 ∧ ∀ a, a < 128 → M' a = M a) ∨ (z = -12 ∧ 0 ≤ M 87 c ∧ ∀ a, a < 128 → M' a = M a) ∨ (z = -13 ∧ M 87 c ≤ -2 ∧ (i < 0 ∨ M 88 c ≤ i) ∧ ∀ a, a < 128 → M' a = M a) ∨ (z = 1 ∧ M 87 c ≤ -2 ∧ 0 ≤ i ∧ i < M 88 c ∧ ∀ a, a < 128 → M' a = sx_up M 89 (i + 60 * (c : Int)).toNat (pt_v (-2 - M 87 c) v) a)
theorem pt_m (hL : L < 2 ^ 31) (hm : sx_mok cl_ly M) (hc6 : c < 6) (es : s = (c : Int)) (hi : sx_w sx_r32 i) (hv : sx_w sx_r64 v) : rz_fin (sh_Q (pt_M c i v M)) L xs 265 4 0 (sh_a3 53 s i v) [] M := by
  have hs : sx_w sx_r32 s := og_w32 (by omega) (by omega)
  have h87 := sh_87 hm hc6
  have h88 := sh_88 hm hc6
  obtain ⟨ρ0, st0, e1, e2, -⟩ := og_sat (xs := xs) (gs := op_g c) (zs := [s, i, v]) (fs := []) hL hm ⟨sh_sym es hs, og_z rfl hi.1 hi.2 hi, ⟨Nat.le_refl _, hv, (fun h => by cases h), hv⟩, trivial⟩ (fun g hg => by cases hg)
  have e1 : (og_t (op_g c) []).1 = 12 := e1
  have p9 : sx_val ρ0 (9, 0) = s := og_v0 (e2 0 _ rfl)
  have tn : s.toNat = c := by omega
  obtain ⟨ρ1, x1, st1, y1⟩ := tg_rd (k := 87) (i := (9, 0)) (r := (-6, 49)) (n := 12) st0 e1 (by decide) (by decide) (by rw [p9]; omega) (by rw [p9, tn]; exact h87) (by rw [p9, tn]; exact sx_32_64 (og_w32 (by omega) (by omega)))
  have p9' : sx_val ρ1 (9, 0) = s := og_v0 (og_v x1 (show 9 < 12 by decide) (e2 0 _ rfl))
  obtain ⟨ρ, x2, st, y2⟩ := tg_rd (k := 88) (i := (9, 0)) (r := (0, 60)) (n := 13) st1 (show (og_t (op_g c) []).1 + 1 = 13 by rw [e1]) (by decide) (by decide) (by rw [p9']; omega) (by rw [p9', tn]; exact h88) (by rw [p9', tn]; exact sx_32_64 (og_w32 (by omega) (by omega)))
  have n14 : (op_tm c).1 = 14 := show (og_t (op_g c) []).1 + 1 + 1 = 14 by rw [e1]
  have x02 : sx_ext 12 ρ0 ρ := fun k hk => (x2 k (by omega)).trans (x1 k hk)
  have r9 : ρ 9 = s := og_v x02 (show 9 < 12 by decide) (e2 0 _ rfl)
  have r10 : ρ 10 = i := og_v x02 (show 10 < 12 by decide) (e2 1 _ rfl)
  have r11 : ρ 11 = v := og_v x02 (show 11 < 12 by decide) (e2 2 _ rfl)
  have r12 : ρ 12 = M 87 c := by rw [x2 12 (by decide), y1, p9, tn]
  have r13 : ρ 13 = M 88 c := by rw [y2, p9', tn]
  obtain ⟨okl, el⟩ := sh_l3 (m := (op_tm c).1) (a := 53) (c := 53) (fun c => sx_ck2 st c) (by rw [n14]; decide) rfl r9 r10 r11 hs hi hv
  refine og_use (Ts := op_Tm c) (lv := op_l 53) (s := []) (List.all_eq_true.mp op_cm c (List.mem_range.mpr hc6)) (by
    have : ((List.range 6).all fun c => (op_Tm c).all fun T => mt_nd (T.2.2.2.1.map fun q => q.1)) = true := by decide +kernel
    exact List.all_eq_true.mp this c (List.mem_range.mpr hc6)) st okl (fun v hv => by cases hv) (Nat.le_refl _) el rfl (fun T hT ρ' M' x h0 hm' hc hM => ?_)
  rw [n14] at x
  have q10 := og_v x (show 10 < 14 by decide) r10
  have q11 := og_v x (show 11 < 14 by decide) r11
  have q13 := og_v x (show 13 < 14 by decide) r13
  have v10 : sx_val ρ' (10, 0) = i := og_v0 q10
  have v12 : sx_val ρ' (12, 0) = M 87 c := og_v0 (og_v x (show 12 < 14 by decide) r12)
  simp only [op_Tm, List.mem_append, List.mem_cons, List.not_mem_nil, or_false, List.mem_map] at hT
  rcases hT with (rfl | rfl | rfl | rfl) | ⟨q, hq, rfl⟩
  · obtain ⟨⟨c1, c2⟩, -⟩ := hc
    have c1 : -1 ≤ sx_val ρ' (12, 0) := c1
    have c2 : sx_val ρ' (12, 0) ≤ -1 := c2
    rw [v12] at c1 c2
    exact ⟨-11, congrArg some (tk_cv h0 (-11)), hm', Or.inl ⟨rfl, by omega, hM⟩⟩
  · obtain ⟨⟨c1, c2⟩, -⟩ := hc
    have c1 : 0 ≤ sx_val ρ' (12, 0) := c1
    rw [v12] at c1
    exact ⟨-12, congrArg some (tk_cv h0 (-12)), hm', Or.inr (Or.inl ⟨rfl, by omega, hM⟩)⟩
  · obtain ⟨⟨c1, c2⟩, ⟨c3, c4⟩, -⟩ := hc
    have c2 : sx_val ρ' (12, 0) ≤ -2 := c2
    have c4 : sx_val ρ' (10, 0) ≤ -1 := c4
    rw [v12] at c2
    rw [v10] at c4
    exact ⟨-13, congrArg some (tk_cv h0 (-13)), hm', Or.inr (Or.inr (Or.inl ⟨rfl, c2, by omega, hM⟩))⟩
  · obtain ⟨⟨c1, c2⟩, c3, -⟩ := hc
    have c2 : sx_val ρ' (12, 0) ≤ -2 := c2
    have c3 : ρ' 13 < ρ' 10 + 1 := c3
    rw [v12] at c2
    rw [q10, q13] at c3
    exact ⟨-13, congrArg some (tk_cv h0 (-13)), hm', Or.inr (Or.inr (Or.inl ⟨rfl, c2, by omega, hM⟩))⟩
  · obtain ⟨m1, ⟨c1, c2⟩, ⟨c6, c7⟩, ⟨c3, c4⟩, c5, hr⟩ := hc
    have m1 : ρ' 14 = sx_mf 1 (sx_val ρ' (0, -2)) (sx_val ρ' (12, 0)) := m1
    have c2 : sx_val ρ' (12, 0) ≤ -2 := c2
    have c6 : (q.1 : Int) ≤ sx_val ρ' (14, 0) := c6
    have c7 : sx_val ρ' (14, 0) ≤ (q.1 : Int) := c7
    have c3 : 0 ≤ sx_val ρ' (10, 0) := c3
    have c5 : ¬ ρ' 13 < ρ' 10 + 1 := c5
    rw [v12] at c2 m1
    rw [og_c h0 (-2), og_sub (og_w32 (by omega) (by omega))] at m1
    rw [og_v0 m1] at c6 c7
    rw [v10] at c3
    rw [q10, q13] at c5
    have hM : ∀ a, a < 128 → M' a = sx_up M 89 (sx_val ρ' (10, 60 * (c : Int))).toNat (sx_val ρ' q.2.1) a := hM
    rw [og_vv q10, pt_ok hq h0 q11 hr, show (q.1 : Int) = -2 - M 87 c by omega] at hM
    exact ⟨1, congrArg some (tk_cv h0 1), hm', Or.inr (Or.inr (Or.inr ⟨rfl, c2, c3, by omega, hM⟩))⟩
/-- no shelf -/
theorem pt_o {k a : Nat} {p : Int} {r : Int × Int} (ea : p.toNat = a) (hchk : gs_chk (fun _ => false) (fun o => [og_r (-1) []].any (og_chk (op_t9 r) o)) 300 300 4 k 0 (op_l p) [] (op_t9 r) = true) (hL : L < 2 ^ 31) (hm : sx_mok cl_ly M) (hr : sx_w r s) (hs : sx_w sx_r32 s) (hi : sx_w sx_r32 i) (hv : sx_w sx_r64 v) : rz_fin (sh_Q (fun z M' => z = -1 ∧ ∀ a, a < 128 → M' a = M a)) L xs k 4 0 (sh_a3 a s i v) [] M := by
  obtain ⟨ρ, st, e1, e2, -⟩ := og_sat (xs := xs) (gs := [(0, r), (0, sx_r32), (1, sx_r64)]) (zs := [s, i, v]) (fs := []) hL hm ⟨og_z rfl hr.1 hr.2 hs, og_z rfl hi.1 hi.2 hi, ⟨Nat.le_refl _, hv, (fun h => by cases h), hv⟩, trivial⟩ (fun g hg => by cases hg)
  have n12 : (op_t9 r).1 = 12 := e1
  obtain ⟨okl, el⟩ := sh_l3 (m := (op_t9 r).1) (a := a) (c := p) (fun c => sx_ck2 st c) (by rw [n12]; decide) ea (e2 0 _ rfl) (e2 1 _ rfl) (e2 2 _ rfl) hs hi hv
  refine og_use (Ts := [og_r (-1) []]) (lv := op_l p) (s := []) hchk rfl st okl (fun v hv => by cases hv) (Nat.le_refl _) el rfl (fun T hT ρ' M' x h0 hm' hc hM => ?_)
  rw [List.mem_singleton.mp hT] at hM ⊢
  exact ⟨-1, congrArg some (tk_cv h0 (-1)), hm', rfl, hM⟩
-- element
theorem sh_el (hm : sx_mok cl_ly M) : ∀ {c : Nat}, c < 6 → ∀ {j : Nat}, j < 60 → sx_w sx_r64 (M (42 + 2 * c) j)
  | 0, _, _, hj => hm 42 _ _ _ rfl hj rfl
  | 1, _, _, hj => hm 44 _ _ _ rfl hj rfl
  | 2, _, _, hj => hm 46 _ _ _ rfl hj rfl
  | 3, _, _, hj => hm 48 _ _ _ rfl hj rfl
  | 4, _, _, hj => hm 50 _ _ _ rfl hj rfl
  | 5, _, _, hj => hm 52 _ _ _ rfl hj rfl
  | _ + 6, h, _, _ => absurd h (by omega)
end
