/-! An evening: how far from cell to cell, both sides. -/
section
variable {L : Nat} {xs : Nat → Int32} {M M' M1 M2 : Nat → Nat → Int} {ρ ρ' : Nat → Int} {a b x : Int} {Q : Option Value → (Nat → Nat → Int) → Prop}
theorem vn_n (h0 : ρ 0 = 0) (c : Nat) : (sx_val ρ (0, (c : Int))).toNat = c := by
  rw [og_c h0]
  exact Int.toNat_natCast c
theorem vn_add (h : sx_w sx_r32 (a + b)) : sx_mf 0 a b = a + b := by
  show (Int32.ofInt a + Int32.ofInt b).toInt = a + b
  rw [← Int32.ofInt_add]
  exact sx_i32 h
theorem vn_tab : ((List.range 145).all fun k => sx_an (sx_an (sx_eq (sx_mf 7 ((k : Int) - 1) 12) (Int.tmod ((k : Int) - 1) 12)) (sx_eq (sx_mf 6 ((k : Int) - 1) 12) (Int.tdiv ((k : Int) - 1) 12))) (sx_an (sx_in (Int.tmod ((k : Int) - 1) 12, Int.tmod ((k : Int) - 1) 12) (-1, 11)) (sx_in (Int.tdiv ((k : Int) - 1) 12, Int.tdiv ((k : Int) - 1) 12) (0, 11)))) = true := by decide +kernel
theorem vn_tb4 : ((List.range 41).all fun k => sx_eq (sx_mf 6 (k : Int) 4) ((k : Int) / 4)) = true := by decide +kernel
theorem vn_rm (h : sx_w (-1, 143) a) : sx_mf 7 a 12 = Int.tmod a 12 ∧ sx_mf 6 a 12 = Int.tdiv a 12 ∧ (-1 ≤ Int.tmod a 12 ∧ Int.tmod a 12 ≤ 11) ∧ 0 ≤ Int.tdiv a 12 ∧ Int.tdiv a 12 ≤ 11 := by
  obtain ⟨h1, h2⟩ := h
  have h1 : -1 ≤ a := h1
  have h2 : a ≤ 143 := h2
  have t := List.all_eq_true.mp vn_tab (a + 1).toNat (List.mem_range.mpr (by omega))
  have e : (((a + 1).toNat : Nat) : Int) - 1 = a := by omega
  rw [e] at t
  obtain ⟨t1, t2⟩ := sx_an_iff.mp t
  obtain ⟨t1, t3⟩ := sx_an_iff.mp t1
  obtain ⟨t2, t4⟩ := sx_an_iff.mp t2
  exact ⟨sx_eq_iff.mp t1, sx_eq_iff.mp t3, sx_in_iff.mp t2, sx_in_iff.mp t4⟩
theorem vn_q4 (h0 : 0 ≤ x) (h1 : x ≤ 40) : sx_mf 6 x 4 = x / 4 := by
  have t := List.all_eq_true.mp vn_tb4 x.toNat (List.mem_range.mpr (by omega))
  have e : ((x.toNat : Nat) : Int) = x := by omega
  rw [e] at t
  exact sx_eq_iff.mp t
theorem vn_ab_r (x : Int) : 0 ≤ vn_ab x ∧ (x ≤ vn_ab x) ∧ -x ≤ vn_ab x ∧ (vn_ab x = x ∨ vn_ab x = -x) := by
  unfold vn_ab
  split <;> omega
theorem vn_dr_r (ha : sx_w (-1, 143) a) (hb : sx_w (-1, 143) b) : 0 ≤ vn_dr a b ∧ vn_dr a b ≤ 6 := by
  obtain ⟨-, -, a1, a2⟩ := vn_rm ha
  obtain ⟨-, -, b1, b2⟩ := vn_rm hb
  have c1 := vn_ab_r (Int.tmod a 12 - Int.tmod b 12)
  have c2 := vn_ab_r (Int.tdiv a 12 - Int.tdiv b 12)
  unfold vn_dr
  omega
def vn_v2 (a b : Int) : sm_V := [(0, .int (Int32.ofInt a)), (1, .int (Int32.ofInt b))]
def vn_l2 : sx_L := [(0, 0, 9, 0), (1, 0, 10, 0)]
def vn_d1 : List og_T := [(some 9, none, [(0, 13, 0)], vn_l2, [], [(5, (9, 0), (0, 12), 7, 11), (5, (10, 0), (0, 12), 7, 12), (5, (11, 0), (12, 0), 1, 13)])]
noncomputable def vn_t1 : sx_S := og_t [(0, (-1, 143)), (0, (-1, 143))] []
theorem vn_c1 : gs_chk (fun pc => Nat.beq pc 9) (fun u => vn_d1.any (og_chk vn_t1 u)) 300 300 2 95 0 vn_l2 [] vn_t1 = true := by decide +kernel
/-- what stands for |s| -/
def vn_sv (s : Int) : sx_V := bif sx_lt s 0 then (0, 0, vn_ab s) else (0, 11, 0)
def vn_d2 (s : Int) : List og_T := [(some 21, none, [(0, 14, 0), vn_sv s], [], [], [(5, (9, 0), (0, 12), 6, 12), (5, (10, 0), (0, 12), 6, 13), (5, (12, 0), (13, 0), 1, 14)])]
noncomputable def vn_t2 (s : Int) : sx_S := og_t [(0, (-1, 143)), (0, (-1, 143)), (0, (s, s))] []
def vn_d3 (s : Int) : List og_T := [(none, some (0, 11, 0), [], [], [], [(5, (10, vn_ab s + 3), (0, 4), 6, 11)])]
noncomputable def vn_t3 (s : Int) : sx_S := og_t [(0, (s, s)), (0, (0, 12))] []
theorem vn_c2 : ((List.range 25).all fun k => sx_an (gs_chk (fun pc => Nat.beq pc 21) (fun u => (vn_d2 ((k : Int) - 12)).any (og_chk (vn_t2 ((k : Int) - 12)) u)) 300 300 2 95 9 vn_l2 [(0, 11, 0)] (vn_t2 ((k : Int) - 12))) (gs_chk (fun _ => false) (fun u => (vn_d3 ((k : Int) - 12)).any (og_chk (vn_t3 ((k : Int) - 12)) u)) 300 300 2 95 21 [] [(0, 9, 0), (0, 10, 0)] (vn_t3 ((k : Int) - 12)))) = true := by decide +kernel
theorem vn_cs {s : Int} (h : sx_w (-12, 12) s) : gs_chk (fun pc => Nat.beq pc 21) (fun u => (vn_d2 s).any (og_chk (vn_t2 s) u)) 300 300 2 95 9 vn_l2 [(0, 11, 0)] (vn_t2 s) = true ∧ gs_chk (fun _ => false) (fun u => (vn_d3 s).any (og_chk (vn_t3 s) u)) 300 300 2 95 21 [] [(0, 9, 0), (0, 10, 0)] (vn_t3 s) = true := by
  obtain ⟨h1, h2⟩ := h
  have h1 : -12 ≤ s := h1
  have h2 : s ≤ 12 := h2
  have t := List.all_eq_true.mp vn_c2 (s + 12).toNat (List.mem_range.mpr (by omega))
  have e : (((s + 12).toNat : Nat) : Int) - 12 = s := by omega
  rw [e] at t
  exact sx_an_iff.mp t
theorem vn_w (h : sx_w (-1, 143) a) : sx_w sx_r32 a := og_w32 (Int.le_trans (by decide) h.1) (Int.le_trans h.2 (by decide))
theorem vn_ok2 {n : Nat} (h : 10 < n) (r9 : ρ 9 = a) (r10 : ρ 10 = b) (ha : sx_w sx_r32 a) (hb : sx_w sx_r32 b) : sx_okl ρ n vn_l2 ∧ sx_cl1 ρ vn_l2 = vn_v2 a b := by
  refine ⟨fun q hq => ?_, ?_⟩
  · simp only [vn_l2, List.mem_cons, List.not_mem_nil, or_false] at hq
    rcases hq with rfl | rfl
    · exact tk_ok0 (by omega) (by rw [r9]; exact ha)
    · exact tk_ok0 h (by rw [r10]; exact hb)
  · show [(0, sx_cv1 ρ (0, 9, 0)), (1, sx_cv1 ρ (0, 10, 0))] = _
    rw [og_int r9, og_int r10]
    rfl
/-- an answer; nothing is changed -/
def vn_Q (M : Nat → Nat → Int) (z : Int) (r : Option Value) (M' : Nat → Nat → Int) : Prop := r = some (.int (Int32.ofInt z)) ∧ sx_mok cl_ly M' ∧ ∀ c, c < 128 → M' c = M c
theorem vn_dx (hL : L < 2 ^ 31) (hm : sx_mok cl_ly M) (ha : sx_w (-1, 143) a) (hb : sx_w (-1, 143) b) : rz_fin (vn_Q M (vn_dr a b)) L xs 95 2 0 (vn_v2 a b) [] M := by
  obtain ⟨a1, a2, a3, a4⟩ := vn_rm ha
  obtain ⟨b1, b2, b3, b4⟩ := vn_rm hb
  obtain ⟨ρ, s, n1, e1, -⟩ := og_sat (xs := xs) (gs := [(0, (-1, 143)), (0, (-1, 143))]) (zs := [a, b]) (fs := []) hL hm ⟨og_z rfl ha.1 ha.2 (vn_w ha), og_z rfl hb.1 hb.2 (vn_w hb), trivial⟩ (fun g hg => by cases hg)
  have n1 : vn_t1.1 = 11 := n1
  have r9 : ρ 9 = a := e1 0 _ rfl
  have r10 : ρ 10 = b := e1 1 _ rfl
  obtain ⟨okl, el⟩ := vn_ok2 (n := vn_t1.1) (by rw [n1]; decide) r9 r10 (vn_w ha) (vn_w hb)
  refine og_use (Ts := vn_d1) (lv := vn_l2) (s := []) vn_c1 (by rfl) s okl (fun v hv => by cases hv) (Nat.le_refl _) el rfl (fun T hT ρ' M1 x h0 hm1 hc hM => ?_)
  rw [n1] at x
  have q9 := og_v x (show 9 < 11 by decide) r9
  have q10 := og_v x (show 10 < 11 by decide) r10
  rw [List.mem_singleton.mp hT] at hc hM ⊢
  have hM : ∀ c, c < 128 → M1 c = M c := hM
  obtain ⟨c1, c2, c3, -⟩ := hc
  have c1 : ρ' 11 = sx_mf 7 (sx_val ρ' (9, 0)) (sx_val ρ' (0, 12)) := c1
  have c2 : ρ' 12 = sx_mf 7 (sx_val ρ' (10, 0)) (sx_val ρ' (0, 12)) := c2
  have c3 : ρ' 13 = sx_mf 1 (sx_val ρ' (11, 0)) (sx_val ρ' (12, 0)) := c3
  rw [og_v0 q9, og_c h0, a1] at c1
  rw [og_v0 q10, og_c h0, b1] at c2
  rw [og_v0 c1, og_v0 c2, og_sub (og_w32 (by omega) (by omega))] at c3
  obtain ⟨S, hS⟩ : ∃ S, Int.tmod a 12 - Int.tmod b 12 = S := ⟨_, rfl⟩
  rw [hS] at c3
  have wS : sx_w (-12, 12) S := ⟨by show (-12 : Int) ≤ S; omega, by show S ≤ (12 : Int); omega⟩
  obtain ⟨k2, k3⟩ := vn_cs wS
  show rz_fin _ L xs 95 2 9 (sx_cl1 ρ' vn_l2) [sx_cv1 ρ' (0, 13, 0)] M1
  rw [(vn_ok2 (n := 11) (by decide) q9 q10 (vn_w ha) (vn_w hb)).2, og_int c3]
  have w32 : sx_w sx_r32 S := og_w32 (by omega) (by omega)
  obtain ⟨ρ2, s2, n2, e2, -⟩ := og_sat (xs := xs) (gs := [(0, (-1, 143)), (0, (-1, 143)), (0, (S, S))]) (zs := [a, b, S]) (fs := []) hL hm1 ⟨og_z rfl ha.1 ha.2 (vn_w ha), og_z rfl hb.1 hb.2 (vn_w hb), og_z rfl (Int.le_refl _) (Int.le_refl _) w32, trivial⟩ (fun g hg => by cases hg)
  have n2 : (vn_t2 S).1 = 12 := n2
  have t9 : ρ2 9 = a := e2 0 _ rfl
  have t10 : ρ2 10 = b := e2 1 _ rfl
  have t11 : ρ2 11 = S := e2 2 _ rfl
  obtain ⟨okl2, el2⟩ := vn_ok2 (n := (vn_t2 S).1) (by rw [n2]; decide) t9 t10 (vn_w ha) (vn_w hb)
  refine og_use (Ts := vn_d2 S) (lv := vn_l2) (s := [(0, 11, 0)]) k2 (by rfl) s2 okl2 (fun w hw => by
    rw [List.mem_singleton.mp hw]
    exact tk_ok0 (by rw [n2]; decide) (by rw [t11]; exact w32)) (Nat.le_refl _) el2 (by show [sx_cv1 ρ2 (0, 11, 0)] = _; rw [og_int t11]) (fun T hT2 ρ3 M2 y h03 hm2 hd hM2 => ?_)
  rw [n2] at y
  have u9 := og_v y (show 9 < 12 by decide) t9
  have u10 := og_v y (show 10 < 12 by decide) t10
  rw [List.mem_singleton.mp hT2] at hd hM2 ⊢
  have hM2 : ∀ c, c < 128 → M2 c = M1 c := hM2
  obtain ⟨d1, d2, d3, -⟩ := hd
  have d1 : ρ3 12 = sx_mf 6 (sx_val ρ3 (9, 0)) (sx_val ρ3 (0, 12)) := d1
  have d2 : ρ3 13 = sx_mf 6 (sx_val ρ3 (10, 0)) (sx_val ρ3 (0, 12)) := d2
  have d3 : ρ3 14 = sx_mf 1 (sx_val ρ3 (12, 0)) (sx_val ρ3 (13, 0)) := d3
  rw [og_v0 u9, og_c h03, a2] at d1
  rw [og_v0 u10, og_c h03, b2] at d2
  rw [og_v0 d1, og_v0 d2, og_sub (og_w32 (by omega) (by omega))] at d3
  obtain ⟨P, hP⟩ : ∃ P, Int.tdiv a 12 - Int.tdiv b 12 = P := ⟨_, rfl⟩
  rw [hP] at d3
  have rS := vn_ab_r S
  have rP := vn_ab_r P
  have u11 := og_v y (show 11 < 12 by decide) t11
  have esv : sx_cv1 ρ3 (vn_sv S) = Value.int (Int32.ofInt (vn_ab S)) := by
    unfold vn_sv
    cases e : sx_lt S 0
    · have hn : ¬ S < 0 := fun h => by
        rw [sx_lt_iff.mpr h] at e
        cases e
      show sx_cv1 ρ3 (0, 11, 0) = _
      rw [og_int u11]
      unfold vn_ab
      rw [if_neg hn]
    · exact tk_cv h03 _
  show rz_fin _ L xs 95 2 21 (sx_cl1 ρ3 []) [sx_cv1 ρ3 (0, 14, 0), sx_cv1 ρ3 (vn_sv S)] M2
  rw [og_int d3, esv]
  have wP : sx_w (-12, 12) P := ⟨by show (-12 : Int) ≤ P; omega, by show P ≤ (12 : Int); omega⟩
  have wP32 : sx_w sx_r32 P := og_w32 (by omega) (by omega)
  have wA : sx_w (0, 12) (vn_ab S) := ⟨by show (0 : Int) ≤ _; omega, by show _ ≤ (12 : Int); omega⟩
  have wA32 : sx_w sx_r32 (vn_ab S) := og_w32 (by omega) (by omega)
  obtain ⟨-, k4⟩ := vn_cs wP
  obtain ⟨ρ4, s4, n4, e4, -⟩ := og_sat (xs := xs) (gs := [(0, (P, P)), (0, (0, 12))]) (zs := [P, vn_ab S]) (fs := []) hL hm2 ⟨og_z rfl (Int.le_refl _) (Int.le_refl _) wP32, og_z rfl wA.1 wA.2 wA32, trivial⟩ (fun g hg => by cases hg)
  have n4 : (vn_t3 P).1 = 11 := n4
  have v9 : ρ4 9 = P := e4 0 _ rfl
  have v10 : ρ4 10 = vn_ab S := e4 1 _ rfl
  refine og_use (Ts := vn_d3 P) (lv := []) (s := [(0, 9, 0), (0, 10, 0)]) k4 (by rfl) s4 (fun q hq => by cases hq) (fun w hw => by
    simp only [List.mem_cons, List.not_mem_nil, or_false] at hw
    rcases hw with rfl | rfl
    · exact tk_ok0 (by rw [n4]; decide) (by rw [v9]; exact wP32)
    · exact tk_ok0 (by rw [n4]; decide) (by rw [v10]; exact wA32)) (Nat.le_refl _) rfl (by show [sx_cv1 ρ4 (0, 9, 0), sx_cv1 ρ4 (0, 10, 0)] = _; rw [og_int v9, og_int v10]) (fun T hT4 ρ5 M5 y5 h05 hm5 hd5 hM5 => ?_)
  rw [n4] at y5
  have w10 := og_v y5 (show 10 < 11 by decide) v10
  rw [List.mem_singleton.mp hT4] at hd5 hM5 ⊢
  have hM5 : ∀ c, c < 128 → M5 c = M2 c := hM5
  obtain ⟨g1, -⟩ := hd5
  have g1 : ρ5 11 = sx_mf 6 (sx_val ρ5 (10, vn_ab P + 3)) (sx_val ρ5 (0, 4)) := g1
  rw [og_vv (c := vn_ab P + 3) w10, og_c h05, vn_q4 (by omega) (by omega)] at g1
  refine ⟨?_, hm5, fun c hc => (hM5 c hc).trans ((hM2 c hc).trans (hM c hc))⟩
  show some (sx_cv1 ρ5 (0, 11, 0)) = _
  rw [og_int g1]
  unfold vn_dr
  rw [hS, hP, show vn_ab S + (vn_ab P + 3) = vn_ab S + vn_ab P + 3 by omega]
-- the reference
theorem vn_csm {l : List og_D} (h : og_cs ρ M l) {q : og_D} (hq : q ∈ l) : og_cs ρ M [q] := by
  induction l with
  | nil => cases hq
  | cons p r ih =>
    obtain ⟨h1, h2⟩ := h
    rcases List.mem_cons.mp hq with rfl | hq
    · exact ⟨h1, trivial⟩
    · exact ih h2 hq
def vn_rf (i j : Bool) : List og_D := [(5, (9, 0), (0, 12), 7, 11), (5, (10, 0), (0, 12), 7, 12), (5, (9, 0), (0, 12), 6, 14), (5, (10, 0), (0, 12), 6, 15), (5, (13, 0), (16, 0), 0, 17), (5, (17, 0), (0, 3), 0, 18), (5, (18, 0), (0, 4), 6, 19)] ++ (bif i then [og_l 11 12 0, (5, (12, 0), (11, 0), 1, 13)] else [og_nl 11 12 0, (5, (11, 0), (12, 0), 1, 13)]) ++ (bif j then [og_l 14 15 0, (5, (15, 0), (14, 0), 1, 16)] else [og_nl 14 15 0, (5, (14, 0), (15, 0), 1, 16)])
def vn_rT (i j : Bool) : og_T := (none, some (0, 19, 0), [], [], [], vn_rf i j)
def vn_r4 : List og_T := [vn_rT true true, vn_rT true false, vn_rT false true, vn_rT false false]
theorem vn_c4 : gs_chk (fun _ => false) (fun u => vn_r4.any (og_chk vn_t1 u)) 300 300 2 224 0 vn_l2 [] vn_t1 = true := by decide +kernel
theorem vn_dm (hL : L < 2 ^ 31) (hm : sx_mok cl_ly M) (ha : sx_w (-1, 143) a) (hb : sx_w (-1, 143) b) : rz_fin (vn_Q M (vn_dr a b)) L xs 224 2 0 (vn_v2 a b) [] M := by
  obtain ⟨a1, a2, a3, a4⟩ := vn_rm ha
  obtain ⟨b1, b2, b3, b4⟩ := vn_rm hb
  obtain ⟨ρ, s, n1, e1, -⟩ := og_sat (xs := xs) (gs := [(0, (-1, 143)), (0, (-1, 143))]) (zs := [a, b]) (fs := []) hL hm ⟨og_z rfl ha.1 ha.2 (vn_w ha), og_z rfl hb.1 hb.2 (vn_w hb), trivial⟩ (fun g hg => by cases hg)
  have n1 : vn_t1.1 = 11 := n1
  have r9 : ρ 9 = a := e1 0 _ rfl
  have r10 : ρ 10 = b := e1 1 _ rfl
  obtain ⟨okl, el⟩ := vn_ok2 (n := vn_t1.1) (by rw [n1]; decide) r9 r10 (vn_w ha) (vn_w hb)
  refine og_use (Ts := vn_r4) (lv := vn_l2) (s := []) vn_c4 (by rfl) s okl (fun v hv => by cases hv) (Nat.le_refl _) el rfl (fun T hT ρ' M1 x h0 hm1 hc hM => ?_)
  rw [n1] at x
  have q9 := og_v x (show 9 < 11 by decide) r9
  have q10 := og_v x (show 10 < 11 by decide) r10
  have key : ∀ i j : Bool, og_cs ρ' M1 (vn_rf i j) → ρ' 19 = vn_dr a b := fun i j hc => by
    have hs : ∀ q ∈ vn_rf i j, og_cs ρ' M1 [q] := fun q hq => vn_csm hc hq
    have c1 : ρ' 11 = sx_mf 7 (sx_val ρ' (9, 0)) (sx_val ρ' (0, 12)) := (hs (5, (9, 0), (0, 12), 7, 11) (by simp [vn_rf])).1
    have c2 : ρ' 12 = sx_mf 7 (sx_val ρ' (10, 0)) (sx_val ρ' (0, 12)) := (hs (5, (10, 0), (0, 12), 7, 12) (by simp [vn_rf])).1
    have c3 : ρ' 14 = sx_mf 6 (sx_val ρ' (9, 0)) (sx_val ρ' (0, 12)) := (hs (5, (9, 0), (0, 12), 6, 14) (by simp [vn_rf])).1
    have c4 : ρ' 15 = sx_mf 6 (sx_val ρ' (10, 0)) (sx_val ρ' (0, 12)) := (hs (5, (10, 0), (0, 12), 6, 15) (by simp [vn_rf])).1
    have c5 : ρ' 17 = sx_mf 0 (sx_val ρ' (13, 0)) (sx_val ρ' (16, 0)) := (hs (5, (13, 0), (16, 0), 0, 17) (by simp [vn_rf])).1
    have c6 : ρ' 18 = sx_mf 0 (sx_val ρ' (17, 0)) (sx_val ρ' (0, 3)) := (hs (5, (17, 0), (0, 3), 0, 18) (by simp [vn_rf])).1
    have c7 : ρ' 19 = sx_mf 6 (sx_val ρ' (18, 0)) (sx_val ρ' (0, 4)) := (hs (5, (18, 0), (0, 4), 6, 19) (by simp [vn_rf])).1
    rw [og_v0 q9, og_c h0, a1] at c1
    rw [og_v0 q10, og_c h0, b1] at c2
    rw [og_v0 q9, og_c h0, a2] at c3
    rw [og_v0 q10, og_c h0, b2] at c4
    have e13 : ρ' 13 = vn_ab (Int.tmod a 12 - Int.tmod b 12) := by
      cases i with
      | true =>
        have d1 : ρ' 11 < ρ' 12 + 0 := (hs (og_l 11 12 0) (by simp [vn_rf])).1
        have d2 : ρ' 13 = sx_mf 1 (sx_val ρ' (12, 0)) (sx_val ρ' (11, 0)) := (hs (5, (12, 0), (11, 0), 1, 13) (by simp [vn_rf])).1
        rw [c1, c2] at d1
        rw [og_v0 c1, og_v0 c2, og_sub (og_w32 (by omega) (by omega))] at d2
        unfold vn_ab
        rw [if_pos (by omega), d2]
        omega
      | false =>
        have d1 : ¬ ρ' 11 < ρ' 12 + 0 := (hs (og_nl 11 12 0) (by simp [vn_rf])).1
        have d2 : ρ' 13 = sx_mf 1 (sx_val ρ' (11, 0)) (sx_val ρ' (12, 0)) := (hs (5, (11, 0), (12, 0), 1, 13) (by simp [vn_rf])).1
        rw [c1, c2] at d1
        rw [og_v0 c1, og_v0 c2, og_sub (og_w32 (by omega) (by omega))] at d2
        unfold vn_ab
        rw [if_neg (by omega), d2]
    have e16 : ρ' 16 = vn_ab (Int.tdiv a 12 - Int.tdiv b 12) := by
      cases j with
      | true =>
        have d1 : ρ' 14 < ρ' 15 + 0 := (hs (og_l 14 15 0) (by simp [vn_rf])).1
        have d2 : ρ' 16 = sx_mf 1 (sx_val ρ' (15, 0)) (sx_val ρ' (14, 0)) := (hs (5, (15, 0), (14, 0), 1, 16) (by simp [vn_rf])).1
        rw [c3, c4] at d1
        rw [og_v0 c3, og_v0 c4, og_sub (og_w32 (by omega) (by omega))] at d2
        unfold vn_ab
        rw [if_pos (by omega), d2]
        omega
      | false =>
        have d1 : ¬ ρ' 14 < ρ' 15 + 0 := (hs (og_nl 14 15 0) (by simp [vn_rf])).1
        have d2 : ρ' 16 = sx_mf 1 (sx_val ρ' (14, 0)) (sx_val ρ' (15, 0)) := (hs (5, (14, 0), (15, 0), 1, 16) (by simp [vn_rf])).1
        rw [c3, c4] at d1
        rw [og_v0 c3, og_v0 c4, og_sub (og_w32 (by omega) (by omega))] at d2
        unfold vn_ab
        rw [if_neg (by omega), d2]
    have rS := vn_ab_r (Int.tmod a 12 - Int.tmod b 12)
    have rP := vn_ab_r (Int.tdiv a 12 - Int.tdiv b 12)
    rw [og_v0 e13, og_v0 e16, vn_add (og_w32 (by omega) (by omega))] at c5
    rw [og_v0 c5, og_c h0, vn_add (og_w32 (by omega) (by omega))] at c6
    rw [og_v0 c6, og_c h0, vn_q4 (by omega) (by omega)] at c7
    exact c7
  have fin : ∀ i j : Bool, og_cs ρ' M1 (vn_rf i j) → (∀ c, c < 128 → M1 c = M c) → vn_Q M (vn_dr a b) (some (sx_cv1 ρ' (0, 19, 0))) M1 := fun i j hc hM => ⟨congrArg some (og_int (key i j hc)), hm1, hM⟩
  simp only [vn_r4, List.mem_cons, List.not_mem_nil, or_false] at hT
  rcases hT with rfl | rfl | rfl | rfl
  · exact fin true true hc hM
  · exact fin true false hc hM
  · exact fin false true hc hM
  · exact fin false false hc hM
end
