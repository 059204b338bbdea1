/-! Shelves: put. -/
section
variable {WF : (Nat → Nat → Int) → Prop} {L : Nat} {xs : Nat → Int32} {M M' M0 M1 M2 : Nat → Nat → Int} {ρ ρ' : Nat → Int} {t : sx_S} {s i v : Int} {c : Nat} {cps : List la_P}
/-- what is put in, by the row's sort -/
def pt_v (k v : Int) : Int := if k = 0 then sx_mf 65 (sx_mf 64 v 0) 0 else if k = 1 then sx_mf 66 (sx_mf 64 v 0) 0 else if k = 2 then sx_mf 64 v 0 else if k = 3 then v else if v = 0 then 0 else 1
theorem pt_v0 : pt_v ((0 : Nat) : Int) v = sx_mf 65 (sx_mf 64 v 0) 0 := if_pos (by decide)
theorem pt_v1 : pt_v ((1 : Nat) : Int) v = sx_mf 66 (sx_mf 64 v 0) 0 := (if_neg (by decide)).trans (if_pos (by decide))
theorem pt_v2 : pt_v ((2 : Nat) : Int) v = sx_mf 64 v 0 := (if_neg (by decide)).trans ((if_neg (by decide)).trans (if_pos (by decide)))
theorem pt_v3 : pt_v ((3 : Nat) : Int) v = v := (if_neg (by decide)).trans ((if_neg (by decide)).trans ((if_neg (by decide)).trans (if_pos (by decide))))
theorem pt_v4 : pt_v ((4 : Nat) : Int) v = if v = 0 then 0 else 1 := (if_neg (by decide)).trans ((if_neg (by decide)).trans ((if_neg (by decide)).trans (if_neg (by decide))))
theorem pt_ok {m : Nat} {q : Nat × sx_A × List og_D} (hq : q ∈ op_v m) (h0 : ρ' 0 = 0) (r11 : ρ' 11 = v) (hc : og_cs ρ' M' q.2.2) : sx_val ρ' q.2.1 = pt_v (q.1 : Int) v := by
  have v11 : sx_val ρ' (11, 0) = v := og_v0 r11
  have em : (m : Int).toNat = m := Int.toNat_natCast m
  have em1 : ((m : Int) + 1).toNat = m + 1 := by omega
  simp only [op_v, List.mem_cons, List.not_mem_nil, or_false] at hq
  rcases hq with rfl | rfl | rfl | rfl | rfl | rfl | rfl
  · obtain ⟨a, b, -⟩ := hc
    have a : ρ' (m : Int).toNat = sx_mf 64 (sx_val ρ' (11, 0)) (sx_val ρ' (0, 0)) := a
    have b : ρ' ((m : Int) + 1).toNat = sx_mf 65 (sx_val ρ' (m, 0)) (sx_val ρ' (0, 0)) := b
    rw [em, v11, og_c h0 0] at a
    rw [em1, og_v0 a, og_c h0 0] at b
    show sx_val ρ' (m + 1, 0) = pt_v ((0 : Nat) : Int) v
    rw [og_v0 b, pt_v0]
  · obtain ⟨a, b, -⟩ := hc
    have a : ρ' (m : Int).toNat = sx_mf 64 (sx_val ρ' (11, 0)) (sx_val ρ' (0, 0)) := a
    have b : ρ' ((m : Int) + 1).toNat = sx_mf 66 (sx_val ρ' (m, 0)) (sx_val ρ' (0, 0)) := b
    rw [em, v11, og_c h0 0] at a
    rw [em1, og_v0 a, og_c h0 0] at b
    show sx_val ρ' (m + 1, 0) = pt_v ((1 : Nat) : Int) v
    rw [og_v0 b, pt_v1]
  · obtain ⟨a, -⟩ := hc
    have a : ρ' (m : Int).toNat = sx_mf 64 (sx_val ρ' (11, 0)) (sx_val ρ' (0, 0)) := a
    rw [em, v11, og_c h0 0] at a
    show sx_val ρ' (m, 0) = pt_v ((2 : Nat) : Int) v
    rw [og_v0 a, pt_v2]
  · show sx_val ρ' (11, 0) = pt_v ((3 : Nat) : Int) v
    rw [v11, pt_v3]
  · obtain ⟨⟨a, b⟩, -⟩ := hc
    have a : 0 ≤ sx_val ρ' (11, 0) := a
    have b : sx_val ρ' (11, 0) ≤ 0 := b
    rw [v11] at a b
    show sx_val ρ' (0, 0) = pt_v ((4 : Nat) : Int) v
    rw [pt_v4, og_c h0 0, if_pos (Int.le_antisymm b a)]
  · obtain ⟨⟨a, b⟩, -⟩ := hc
    have b : sx_val ρ' (11, 0) ≤ -1 := b
    rw [v11] at b
    show sx_val ρ' (0, 1) = pt_v ((4 : Nat) : Int) v
    rw [pt_v4, og_c h0 1, if_neg (by omega)]
  · obtain ⟨⟨a, b⟩, -⟩ := hc
    have a : 1 ≤ sx_val ρ' (11, 0) := a
    rw [v11] at a
    show sx_val ρ' (0, 1) = pt_v ((4 : Nat) : Int) v
    rw [pt_v4, og_c h0 1, if_neg (by omega)]
theorem sh_fall : ((List.range 6).all fun c => (op_f c).all fun g => sx_an (Nat.blt g.1 128) (sx_an (cv_ly cl_ly g) (cv_ly cl_ly (g.1, g.2.1, sx_r32)))) = true := by decide +kernel
theorem sh_fok (hm : sx_mok cl_ly M) (hc : c < 6) : ∀ g ∈ op_f c, g.1 < 128 ∧ sx_w g.2.2 (M g.1 g.2.1) ∧ sx_w sx_r64 (M g.1 g.2.1) := fun g hg => by
  obtain ⟨h1, h2⟩ := sx_an_iff.mp (List.all_eq_true.mp (List.all_eq_true.mp sh_fall c (List.mem_range.mpr hc)) g hg)
  obtain ⟨h2, h3⟩ := sx_an_iff.mp h2
  exact og_f hm h1 h3 (cv_ly_ok hm h2)
def sh_a3 (a : Nat) (s i v : Int) : sm_V := [(0, .ref a), (1, .int (Int32.ofInt s)), (2, .int (Int32.ofInt i)), (3, .long (Int64.ofInt v))]
theorem sh_l3 {m a : Nat} {c : Int} (hc : ∀ c, sx_ok ρ m (2, 0, c)) (h : 11 < m) (ea : c.toNat = a) (r9 : ρ 9 = s) (r10 : ρ 10 = i) (r11 : ρ 11 = v) (hs : sx_w sx_r32 s) (hi : sx_w sx_r32 i) (hv : sx_w sx_r64 v) : sx_okl ρ m (op_l c) ∧ sx_cl1 ρ (op_l c) = sh_a3 a s i v := by
  have v11 : sx_val ρ (11, 0) = v := og_v0 r11
  refine ⟨fun q hq => ?_, ?_⟩
  · simp only [op_l, List.mem_cons, List.not_mem_nil, or_false] at hq
    rcases hq with rfl | rfl | rfl | rfl
    · exact hc _
    · exact tk_ok0 (by omega) (by rw [r9]; exact hs)
    · exact tk_ok0 (by omega) (by rw [r10]; exact hi)
    · exact ⟨h, (fun h => by cases h), fun _ => by
        show sx_w sx_r64 (sx_val ρ (11, 0))
        rw [v11]; exact hv⟩
  · show [(0, sx_cv1 ρ (2, 0, c)), (1, sx_cv1 ρ (0, 9, 0)), (2, sx_cv1 ρ (0, 10, 0)), (3, sx_cv1 ρ (1, 11, 0))] = _
    rw [og_int r9, og_int r10, sx_cvk1 (v := (1, 11, 0)) rfl]
    show [(0, Value.ref c.toNat), _, _, (3, Value.long (Int64.ofInt (sx_val ρ (11, 0))))] = _
    rw [ea, v11]
    rfl
theorem sh_sym {z : Int} (h : z = (c : Int)) (w : sx_w sx_r32 z) : ((0 : Nat) ≤ 1 ∧ sx_w ((c : Int), (c : Int)) z ∧ ((0 : Nat) = 0 → sx_w sx_r32 z) ∧ sx_w sx_r64 z) := ⟨by omega, ⟨by show (c : Int) ≤ z; omega, by show z ≤ (c : Int); omega⟩, fun _ => w, sx_32_64 w⟩
def pt_X (c : Nat) (i v : Int) (M : Nat → Nat → Int) (z : Int) (M' : Nat → Nat → Int) : Prop := (z = -11 ∧ M (41 + 2 * c) 2 = -1 ∧ M (41 + 2 * c) 3 = -1 ∧ ∀ a, a < 128 → M' a = M a) ∨ (z = -12 ∧ M (41 + 2 * c) 2 = -1 ∧ 0 ≤ M (41 + 2 * c) 3 ∧ ∀ a, a < 128 → M' a = M a) ∨ (z = -13 ∧ 0 ≤ M (41 + 2 * c) 2 ∧ (i < 0 ∨ M (41 + 2 * c) 1 ≤ i) ∧ ∀ a, a < 128 → M' a = M a) ∨ (z = 1 ∧ 0 ≤ M (41 + 2 * c) 2 ∧ 0 ≤ i ∧ i < M (41 + 2 * c) 1 ∧ ∀ a, a < 128 → M' a = sx_up M (42 + 2 * c) i.toNat (pt_v (M (41 + 2 * c) 2) v) a)
theorem pt_x (hL : L < 2 ^ 31) (hm : sx_mok cl_ly M) (hc6 : c < 6) (es : s = (c : Int)) (hi : sx_w sx_r32 i) (hv : sx_w sx_r64 v) : rz_fin (sh_Q (pt_X c i v M)) L xs 142 4 0 (sh_a3 8 s i v) [] M := by
  have hs : sx_w sx_r32 s := og_w32 (by omega) (by omega)
  obtain ⟨ρ, st, e1, e2, e3⟩ := og_sat (xs := xs) (gs := op_g c) (zs := [s, i, v]) (fs := op_f c) hL hm ⟨sh_sym es hs, og_z rfl hi.1 hi.2 hi, ⟨Nat.le_refl _, hv, (fun h => by cases h), hv⟩, trivial⟩ (sh_fok hm hc6)
  have r9 : ρ 9 = s := e2 0 _ rfl
  have r10 : ρ 10 = i := e2 1 _ rfl
  have r11 : ρ 11 = v := e2 2 _ rfl
  have r12 : ρ 12 = M (41 + 2 * c) 1 := e3 0 _ rfl
  have r13 : ρ 13 = M (41 + 2 * c) 2 := e3 1 _ rfl
  have r14 : ρ 14 = M (41 + 2 * c) 3 := e3 2 _ rfl
  obtain ⟨okl, el⟩ := sh_l3 (m := 15) (a := 8) (c := 8) (fun c => by rw [show (15 : Nat) = (op_tx _).1 from e1.symm]; exact sx_ck2 st c) (by decide) rfl r9 r10 r11 hs hi hv
  rw [show (15 : Nat) = (op_tx c).1 from e1.symm] at okl
  refine og_use (Ts := op_Tx c) (lv := op_l 8) (s := []) (List.all_eq_true.mp op_cx c (List.mem_range.mpr hc6)) (by
    have : ((List.range 6).all fun c => (op_Tx c).all fun T => mt_nd (T.2.2.2.1.map fun q => q.1)) = true := by decide +kernel
    exact List.all_eq_true.mp this c (List.mem_range.mpr hc6)) st okl (fun v hv => by cases hv) (Nat.le_refl _) el rfl (fun T hT ρ' M' x h0 hm' hc hM => ?_)
  have x : sx_ext 15 ρ ρ' := by rw [show (15 : Nat) = (op_tx c).1 from e1.symm]; exact x
  have q10 := og_v x (show 10 < 15 by decide) r10
  have q11 := og_v x (show 11 < 15 by decide) r11
  have q12 := og_v x (show 12 < 15 by decide) r12
  have v10 : sx_val ρ' (10, 0) = i := og_v0 q10
  have v13 : sx_val ρ' (13, 0) = M (41 + 2 * c) 2 := og_v0 (og_v x (show 13 < 15 by decide) r13)
  have v14 : sx_val ρ' (14, 0) = M (41 + 2 * c) 3 := og_v0 (og_v x (show 14 < 15 by decide) r14)
  simp only [op_Tx, List.mem_append, List.mem_cons, List.not_mem_nil, or_false, List.mem_map] at hT
  rcases hT with (rfl | rfl | rfl | rfl) | ⟨q, hq, rfl⟩
  · obtain ⟨⟨c1, c2⟩, ⟨c3, c4⟩, -⟩ := hc
    have c1 : -1 ≤ sx_val ρ' (13, 0) := c1
    have c2 : sx_val ρ' (13, 0) ≤ -1 := c2
    have c3 : -1 ≤ sx_val ρ' (14, 0) := c3
    have c4 : sx_val ρ' (14, 0) ≤ -1 := c4
    rw [v13] at c1 c2
    rw [v14] at c3 c4
    exact ⟨-11, congrArg some (tk_cv h0 (-11)), hm', Or.inl ⟨rfl, by omega, by omega, hM⟩⟩
  · obtain ⟨⟨c1, c2⟩, ⟨c3, c4⟩, -⟩ := hc
    have c1 : -1 ≤ sx_val ρ' (13, 0) := c1
    have c2 : sx_val ρ' (13, 0) ≤ -1 := c2
    have c3 : 0 ≤ sx_val ρ' (14, 0) := c3
    rw [v13] at c1 c2
    rw [v14] at c3
    exact ⟨-12, congrArg some (tk_cv h0 (-12)), hm', Or.inr (Or.inl ⟨rfl, by omega, by omega, hM⟩)⟩
  · obtain ⟨⟨c1, c2⟩, ⟨c3, c4⟩, -⟩ := hc
    have c1 : 0 ≤ sx_val ρ' (13, 0) := c1
    have c4 : sx_val ρ' (10, 0) ≤ -1 := c4
    rw [v13] at c1
    rw [v10] at c4
    exact ⟨-13, congrArg some (tk_cv h0 (-13)), hm', Or.inr (Or.inr (Or.inl ⟨rfl, c1, by omega, hM⟩))⟩
  · obtain ⟨⟨c1, c2⟩, c3, -⟩ := hc
    have c1 : 0 ≤ sx_val ρ' (13, 0) := c1
    have c3 : ¬ ρ' 10 < ρ' 12 + 0 := c3
    rw [v13] at c1
    rw [q10, q12] at c3
    exact ⟨-13, congrArg some (tk_cv h0 (-13)), hm', Or.inr (Or.inr (Or.inl ⟨rfl, c1, by omega, hM⟩))⟩
  · obtain ⟨⟨c1, c2⟩, ⟨c3, c4⟩, c5, hr⟩ := hc
    have c1 : (q.1 : Int) ≤ sx_val ρ' (13, 0) := c1
    have c2 : sx_val ρ' (13, 0) ≤ (q.1 : Int) := c2
    have c3 : 0 ≤ sx_val ρ' (10, 0) := c3
    have c5 : ρ' 10 < ρ' 12 + 0 := c5
    rw [v13] at c1 c2
    rw [v10] at c3
    rw [q10, q12] at c5
    have hM : ∀ a, a < 128 → M' a = sx_up M (42 + 2 * c) (sx_val ρ' (10, 0)).toNat (sx_val ρ' q.2.1) a := hM
    rw [v10, pt_ok hq h0 q11 hr, show (q.1 : Int) = M (41 + 2 * c) 2 by omega] at hM
    exact ⟨1, congrArg some (tk_cv h0 1), hm', Or.inr (Or.inr (Or.inr ⟨rfl, by omega, c3, by omega, hM⟩))⟩
end
