/-! An evening: the reference's search. -/
section
variable {L : Nat} {xs : Nat → Int32} {M M' M0 M1 M2 M3 : Nat → Nat → Int} {ρ ρ' : Nat → Int} {S n left : Nat} {k cell hour lost hours a b c : Int} {w : List Int} {st : vn_S} {Q R : Option Value → (Nat → Nat → Int) → Prop}
def vy_fr (M0 M : Nat → Nat → Int) : Prop := (∀ a, a < 128 → a ≠ 53 → a ≠ 80 → a ≠ 81 → M a = M0 a) ∧ ∀ j, j ≠ 46 → j ≠ 47 → M 53 j = M0 53 j
def vy_E (S : Nat) (M : Nat → Nat → Int) (st : vn_S) : Prop := M 53 46 = (if st.1 = 7 then -1 else st.1) ∧ (st.1 ≤ 6 → M 53 47 = st.2.1 ∧ ∀ i, i < S → M 81 i = st.2.2.getD i 0)
def vy_Y (M : Nat → Nat → Int) (w : List Int) : Prop := ∀ i, i < w.length → M 80 i = w.getD i 0
def vy_v (k : Int) (left : Nat) (cell hour lost hours : Int) : sm_V := [(0, .ref 53), (1, .int (Int32.ofInt (left : Int))), (2, .int (Int32.ofInt k)), (3, .int (Int32.ofInt cell)), (4, .int (Int32.ofInt hour)), (5, .int (Int32.ofInt lost)), (6, .int (Int32.ofInt hours))]
def vy_v7 (k : Int) (left : Nat) (cell hour lost hours : Int) (h : Nat) : sm_V := vy_v k left cell hour lost hours ++ [(7, .int (Int32.ofInt (h : Int)))]
def vy_l : sx_L := [(0, 2, 0, 53), (1, 0, 9, 0), (2, 0, 10, 0), (3, 0, 11, 0), (4, 0, 12, 0), (5, 0, 13, 0), (6, 0, 14, 0)]
def vy_l7 (h : Nat) : sx_L := vy_l ++ [(7, 0, 0, (h : Int))]
def vy_C (M0 : Nat → Nat → Int) (h : Nat) : Int := M0 54 h
def vy_D (M0 : Nat → Nat → Int) (h : Nat) : Int := M0 58 h
def vy_g : List ct_Q := [(0, (1, 63)), (0, (0, 5)), (0, (-1, 143)), (0, (0, 42)), (0, (0, 6)), (0, (0, 300))]
def vy_g0 (c : Nat) : List ct_Q := [(0, (0, 0)), (0, ((c : Int), (c : Int))), (0, (-1, 143)), (0, (0, 42)), (0, (0, 6)), (0, (0, 300))]
def vy_f0 (c : Nat) : List ct_G := (53, 46, (-1, 6)) :: (List.range c).map fun i => (80, i, sx_r32)
noncomputable def vy_tl (c : Nat) : sx_S := og_t (vy_g0 c) (vy_f0 c)
noncomputable def vy_tp (h : Nat) : sx_S := og_t vy_g [(54, h, (-1, 143)), (53, 1, (0, 6))]
noncomputable def vy_t6 : sx_S := og_t vy_g [(53, 1, (0, 6))]
noncomputable def vy_tn : sx_S := og_t vy_g []
noncomputable def vy_ta (h : Nat) : sx_S := og_t (vy_g ++ [(0, (0, 6))]) [(54, h, (-1, 143)), (58, h, (-1, 143))]
-- the walks
def vy_Th : List og_T := [(some 66, none, [], vy_l7 0, [], [])]
def vy_W (c : Nat) : List og_W := (List.range c).reverse.map fun (i : Nat) => (81, (0, (i : Int)), (16 + i, 0))
def vy_Tl (c : Nat) : List og_T := [(none, none, [], [], vy_W c ++ [(53, (0, 47), (14, 0)), (53, (0, 46), (13, 0))], [og_b 15 (-1) (-1)]), (none, none, [], [], vy_W c ++ [(53, (0, 47), (14, 0)), (53, (0, 46), (13, 0))], [og_b 15 0 6, og_l 13 15 0]), (none, none, [], [], [], [og_b 15 0 6, og_nl 13 15 0])]
def vy_bf (h : Nat) : List og_D := [og_b 16 ((h : Int) + 1) 6, (5, (9, 0), (0, (h : Int)), 9, 17), (5, (17, 0), (0, 1), 3, 18)]
def vy_Tp (h : Nat) : List og_T := [(some 97, none, [(0, 15, 0), (0, 11, 0), (0, 12, 0)], vy_l7 h, [], vy_bf h ++ [og_b 18 1 1]), (some 66, none, [], vy_l7 (h + 1), [], vy_bf h ++ [(7, (18, 0), (0, 0), 1, 0)]), (none, none, [], [], [], [og_b 16 0 (h : Int)])]
def vy_af (h : Nat) : List og_D := [(5, (12, 0), (15, 0), 0, 18), (5, (9, 0), (0, -1 - ((2 ^ h : Nat) : Int)), 3, 19), (5, (14, 0), (18, 0), 0, 20)]
def vy_as (q : Int) : List sx_V := [(0, 20, 0), (0, 13, q), (0, 18, 1), (0, 16, 0), (0, 10, 1), (0, 19, 0), (2, 0, 53)]
def vy_Ta (h : Nat) : List og_T := [(some 160, none, vy_as 1, vy_l7 h, [(80, (10, 0), (0, (h : Int)))], vy_af h ++ [og_l 17 18 0]), (some 160, none, vy_as 0, vy_l7 h, [(80, (10, 0), (0, (h : Int)))], vy_af h ++ [og_nl 17 18 0])]
def vy_Tn (h : Nat) : List og_T := [(some 66, none, [], vy_l7 (h + 1), [], [])]
theorem vy_ch : ((List.range 6).all fun e => gs_chk (fun pc => Nat.beq pc 66) (fun u => vy_Th.any (og_chk vy_tn u)) 300 300 (e + 4) 223 0 vy_l [] vy_tn) = true := by decide +kernel
theorem vy_cl : ((List.range 7).all fun c => gs_chk (fun _ => false) (fun u => (vy_Tl c).any (og_chk (vy_tl c) u)) 300 300 3 223 0 vy_l [] (vy_tl c)) = true := by decide +kernel
theorem vy_c6 : ((List.range 6).all fun e => gs_chk (fun _ => false) (fun u => vx_T0.any (og_chk vy_t6 u)) 300 300 (e + 4) 223 66 (vy_l7 6) [] vy_t6) = true := by decide +kernel
def vy_sp (pc : Nat) : Bool := bif Nat.beq pc 66 then true else Nat.beq pc 97
theorem vy_cp : ((List.range 6).all fun e => (List.range 6).all fun h => gs_chk vy_sp (fun u => (vy_Tp h).any (og_chk (vy_tp h) u)) 300 300 (e + 4) 223 66 (vy_l7 h) [] (vy_tp h)) = true := by decide +kernel
theorem vy_ca : ((List.range 6).all fun e => (List.range 6).all fun h => gs_chk (fun pc => Nat.beq pc 160) (fun u => (vy_Ta h).any (og_chk (vy_ta h) u)) 300 300 (e + 4) 223 100 (vy_l7 h) [(0, 15, 0), (0, 12, 0)] (vy_ta h)) = true := by decide +kernel
theorem vy_cn : ((List.range 6).all fun e => (List.range 6).all fun h => gs_chk (fun pc => Nat.beq pc 66) (fun u => (vy_Tn h).any (og_chk vy_tn u)) 300 300 (e + 4) 223 163 (vy_l7 h) [] vy_tn) = true := by decide +kernel
theorem vy_bits : ((List.range 64).all fun l => (List.range 6).all fun h => sx_eq (sx_mf 3 (sx_mf 9 (l : Int) (h : Int)) 1) (bif l.testBit h then 1 else 0)) = true := by decide +kernel
theorem vy_sub : ((List.range 64).all fun l => (List.range 6).all fun h => bif l.testBit h then (List.range 6).all fun i => bif (l - 2 ^ h).testBit i then l.testBit i else true else true) = true := by decide +kernel
theorem vy_bit (hl : left < 64) {h : Nat} (hh : h < 6) : (left.testBit h = true → sx_mf 3 (sx_mf 9 (left : Int) (h : Int)) 1 = 1) ∧ (¬ left.testBit h = true → sx_mf 3 (sx_mf 9 (left : Int) (h : Int)) 1 = 0) := by
  have t := sx_eq_iff.mp (List.all_eq_true.mp (List.all_eq_true.mp vy_bits left (List.mem_range.mpr hl)) h (List.mem_range.mpr hh))
  cases e : left.testBit h with
  | true =>
    rw [e] at t
    exact ⟨fun _ => t, fun h => absurd rfl h⟩
  | false =>
    rw [e] at t
    exact ⟨fun h => Bool.noConfusion h, fun _ => t⟩
theorem vy_subb (hl : left < 64) {h i : Nat} (hh : h < 6) (hi : i < 6) (hb : left.testBit h = true) (h2 : (left - 2 ^ h).testBit i = true) : left.testBit i = true := by
  have t := List.all_eq_true.mp (List.all_eq_true.mp vy_sub left (List.mem_range.mpr hl)) h (List.mem_range.mpr hh)
  rw [hb] at t
  have t := List.all_eq_true.mp (show ((List.range 6).all fun i => bif (left - 2 ^ h).testBit i then left.testBit i else true) = true from t) i (List.mem_range.mpr hi)
  rw [h2] at t
  exact t
-- what the symbols stand for
def vy_R (ρ : Nat → Int) (k : Int) (left : Nat) (cell hour lost hours : Int) : Prop := ρ 9 = (left : Int) ∧ ρ 10 = k ∧ ρ 11 = cell ∧ ρ 12 = hour ∧ ρ 13 = lost ∧ ρ 14 = hours
theorem vy_R_on {m : Nat} (x : sx_ext m ρ ρ') (h : 14 < m) (r : vy_R ρ k left cell hour lost hours) : vy_R ρ' k left cell hour lost hours := by
  obtain ⟨r1, r2, r3, r4, r5, r6⟩ := r
  exact ⟨og_v x (by omega) r1, og_v x (by omega) r2, og_v x (by omega) r3, og_v x (by omega) r4, og_v x (by omega) r5, og_v x (by omega) r6⟩
theorem vy_el (r : vy_R ρ k left cell hour lost hours) : sx_cl1 ρ vy_l = vy_v k left cell hour lost hours := by
  obtain ⟨r1, r2, r3, r4, r5, r6⟩ := r
  show [(0, Value.ref 53), (1, sx_cv1 ρ (0, 9, 0)), (2, sx_cv1 ρ (0, 10, 0)), (3, sx_cv1 ρ (0, 11, 0)), (4, sx_cv1 ρ (0, 12, 0)), (5, sx_cv1 ρ (0, 13, 0)), (6, sx_cv1 ρ (0, 14, 0))] = _
  rw [og_int r1, og_int r2, og_int r3, og_int r4, og_int r5, og_int r6]
  rfl
theorem vy_el7 {h : Nat} (h0 : ρ 0 = 0) (r : vy_R ρ k left cell hour lost hours) : sx_cl1 ρ (vy_l7 h) = vy_v7 k left cell hour lost hours h := by
  have e : sx_cl1 ρ (vy_l7 h) = sx_cl1 ρ vy_l ++ [(7, sx_cv1 ρ (0, 0, (h : Int)))] := rfl
  rw [e, vy_el r, tk_cv h0]
  rfl
theorem vy_ok {m : Nat} (hc : ∀ c, sx_ok ρ m (2, 0, c)) (h : 14 < m) (r : vy_R ρ k left cell hour lost hours) (hr : vx_r k left cell hour lost hours) : sx_okl ρ m vy_l := by
  obtain ⟨r1, r2, r3, r4, r5, r6⟩ := r
  obtain ⟨w1, w2, w3, w4, w5, w6⟩ := vx_w hr
  intro q hq
  simp only [vy_l, List.mem_cons, List.not_mem_nil, or_false] at hq
  rcases hq with rfl | rfl | rfl | rfl | rfl | rfl | rfl
  · exact hc _
  · exact tk_ok0 (by omega) (by rw [r1]; exact w2)
  · exact tk_ok0 (by omega) (by rw [r2]; exact w1)
  · exact tk_ok0 (by omega) (by rw [r3]; exact w3)
  · exact tk_ok0 (by omega) (by rw [r4]; exact w4)
  · exact tk_ok0 (by omega) (by rw [r5]; exact w5)
  · exact tk_ok0 h (by rw [r6]; exact w6)
theorem vy_ok7 {m h : Nat} (h0 : ρ 0 = 0) (hh : h ≤ 6) (hm : 14 < m) (hl : sx_okl ρ m vy_l) : sx_okl ρ m (vy_l7 h) := by
  intro q hq
  rcases List.mem_append.mp hq with hq | hq
  · exact hl q hq
  · rw [List.mem_singleton.mp hq]
    exact ⟨by show 0 < m; omega, fun _ => by
      show sx_w sx_r32 (ρ 0 + (h : Int))
      rw [h0, Int.zero_add]
      exact og_w32 (by omega) (by omega), fun e => by cases e⟩
theorem vy_54 (hm : sx_mok cl_ly M) {i : Nat} (hi : i < 6) : sx_w (-1, 143) (M 54 i) := hm 54 _ i _ rfl hi rfl
theorem vy_58 (hm : sx_mok cl_ly M) {i : Nat} (hi : i < 6) : sx_w (-1, 143) (M 58 i) := hm 58 _ i _ rfl hi rfl
theorem vy_80 (hm : sx_mok cl_ly M) {i : Nat} (hi : i < 6) : sx_w sx_r32 (M 80 i) := hm 80 _ i _ rfl hi rfl
theorem vy_h (hm : sx_mok cl_ly M) : sx_w (0, 6) (M 53 1) := cv_ly_ok (g := (53, 1, 0, 6)) hm (by decide +kernel)
theorem vy_h64 (hm : sx_mok cl_ly M) : sx_w sx_r64 (M 53 1) := by
  obtain ⟨h1, h2⟩ := vy_h hm
  have h1 : 0 ≤ M 53 1 := h1
  have h2 : M 53 1 ≤ 6 := h2
  rw [sx_r64_iff]
  omega
theorem vy_zs (hr : vx_r k left cell hour lost hours) (hk : k ≤ 5) (hl : left ≠ 0) : og_zs vy_g [(left : Int), k, cell, hour, lost, hours] := by
  obtain ⟨z1, z2, z3⟩ := vx_zs hr hk hl
  exact ⟨z2, z1, z3⟩
theorem vy_zs0 {c : Nat} (hr : vx_r (c : Int) 0 cell hour lost hours) : og_zs (vy_g0 c) [((0 : Nat) : Int), (c : Int), cell, hour, lost, hours] := by
  obtain ⟨-, z2, z3⟩ := vx_zs0 hr
  exact ⟨z2, og_z rfl (Int.le_refl _) (Int.le_refl _) (vx_w hr).1, z3⟩
/-- what a way that is found writes -/
theorem vy_up {rest : List og_W} (h0 : ρ 0 = 0) : ∀ (c a : Nat), og_up ρ (vy_W c ++ rest) M a = if a = 81 then (fun i => if i < c then ρ (16 + i) else og_up ρ rest M 81 i) else og_up ρ rest M a := by
  intro c
  induction c with
  | zero =>
    intro a
    show og_up ρ rest M a = _
    by_cases e : a = 81
    · rw [if_pos e, e]
      funext i
      rw [if_neg (Nat.not_lt_zero _)]
    · rw [if_neg e]
  | succ c ih =>
    intro a
    have e : vy_W (c + 1) = (81, (0, (c : Int)), (16 + c, 0)) :: vy_W c := by
      unfold vy_W
      rw [List.range_succ, List.reverse_append]
      rfl
    rw [e]
    show sx_up (og_up ρ (vy_W c ++ rest) M) 81 (sx_val ρ (0, (c : Int))).toNat (sx_val ρ (16 + c, 0)) a = _
    rw [vn_n h0, og_v0 (k := 16 + c) rfl]
    by_cases ea : a = 81
    · subst ea
      funext i
      rw [if_pos rfl]
      unfold sx_up
      rw [if_pos rfl, ih 81, if_pos rfl]
      by_cases ei : i = c
      · subst ei
        rw [if_pos rfl, if_pos (Nat.lt_succ_self _)]
      · rw [if_neg ei]
        by_cases e2 : i < c
        · rw [if_pos e2, if_pos (by omega)]
        · rw [if_neg e2, if_neg (by omega)]
    · rw [if_neg ea, sh_une ea, ih a, if_neg ea]
def vn_π6 (k : Int) (left : Nat) (cell hour lost hours : Int) (s : Nat) : Int := if s = 1 then (left : Int) else if s = 2 then k else if s = 3 then cell else if s = 4 then hour else if s = 5 then lost else if s = 6 then hours else 0
def vn_t6 (o k : Int) (left : Nat) (cell hour lost hours : Int) : List Value := [.int (Int32.ofInt hours), .int (Int32.ofInt lost), .int (Int32.ofInt hour), .int (Int32.ofInt cell), .int (Int32.ofInt k), .int (Int32.ofInt (left : Int)), .ref o.toNat]
theorem vy_call {j pc d : Nat} {lv : sm_V} (hf : (sm_MT j).2.2.2.2.2 pc = some (.invokevirtual 357, 3)) (hc : sx_call cl_ly (sm_LK (sm_MT j).1) (fun k => (sm_MT k).2.2.2.1) (.invokevirtual 357) [(0, 6, 0), (0, 5, 0), (0, 4, 0), (0, 3, 0), (0, 2, 0), (0, 1, 0), (2, 0, 53)] = some (223, [(2, 0, 53), (0, 1, 0), (0, 2, 0), (0, 3, 0), (0, 4, 0), (0, 5, 0), (0, 6, 0)], [])) (hr : vx_r k left cell hour lost hours) (hS : rz_fin R L xs 223 d 0 (vy_v k left cell hour lost hours) [] M) (next : ∀ M', R none M' → rz_fin Q L xs j (d + 1) (pc + 3) lv [] M') (hn : ∀ r M', R r M' → r = none)   : rz_fin Q L xs j (d + 1) pc lv (vn_t6 53 k left cell hour lost hours) M := by
  obtain ⟨w1, w2, w3, w4, w5, w6⟩ := vx_w hr
  have hok : sx_oks (vn_π6 k left cell hour lost hours) 7 [(0, 6, 0), (0, 5, 0), (0, 4, 0), (0, 3, 0), (0, 2, 0), (0, 1, 0), (2, 0, 53)] := fun v hv => by
    simp only [List.mem_cons, List.not_mem_nil, or_false] at hv
    rcases hv with rfl | rfl | rfl | rfl | rfl | rfl | rfl
    · exact tk_ok0 (by decide) w6
    · exact tk_ok0 (by decide) w5
    · exact tk_ok0 (by decide) w4
    · exact tk_ok0 (by decide) w3
    · exact tk_ok0 (by decide) w1
    · exact tk_ok0 (by decide) w2
    · exact ⟨by show 0 < 7; decide, (fun h => by cases h), fun h => by cases h⟩
  have c1 := (sx_call_ok (ρ := vn_π6 k left cell hour lost hours) (M := M) (lay := cl_lay) (rf := cl_rf) cl_lok hok hc).1
  have e1 : sx_cv1 (vn_π6 k left cell hour lost hours) (0, 1, 0) = Value.int (Int32.ofInt (left : Int)) := og_int rfl
  have e2 : sx_cv1 (vn_π6 k left cell hour lost hours) (0, 2, 0) = Value.int (Int32.ofInt k) := og_int rfl
  have e3 : sx_cv1 (vn_π6 k left cell hour lost hours) (0, 3, 0) = Value.int (Int32.ofInt cell) := og_int rfl
  have e4 : sx_cv1 (vn_π6 k left cell hour lost hours) (0, 4, 0) = Value.int (Int32.ofInt hour) := og_int rfl
  have e5 : sx_cv1 (vn_π6 k left cell hour lost hours) (0, 5, 0) = Value.int (Int32.ofInt lost) := og_int rfl
  have e6 : sx_cv1 (vn_π6 k left cell hour lost hours) (0, 6, 0) = Value.int (Int32.ofInt hours) := og_int rfl
  have q1 : sx_cs1 (vn_π6 k left cell hour lost hours) [(0, 6, 0), (0, 5, 0), (0, 4, 0), (0, 3, 0), (0, 2, 0), (0, 1, 0), (2, 0, 53)] = vn_t6 53 k left cell hour lost hours := by
    show [sx_cv1 _ (0, 6, 0), sx_cv1 _ (0, 5, 0), sx_cv1 _ (0, 4, 0), sx_cv1 _ (0, 3, 0), sx_cv1 _ (0, 2, 0), sx_cv1 _ (0, 1, 0), Value.ref 53] = _
    rw [e1, e2, e3, e4, e5, e6]
    rfl
  have q2 : sx_cs1 (vn_π6 k left cell hour lost hours) [(2, 0, 53), (0, 1, 0), (0, 2, 0), (0, 3, 0), (0, 4, 0), (0, 5, 0), (0, 6, 0)] = [.ref 53, .int (Int32.ofInt (left : Int)), .int (Int32.ofInt k), .int (Int32.ofInt cell), .int (Int32.ofInt hour), .int (Int32.ofInt lost), .int (Int32.ofInt hours)] := by
    show [Value.ref 53, sx_cv1 _ (0, 1, 0), sx_cv1 _ (0, 2, 0), sx_cv1 _ (0, 3, 0), sx_cv1 _ (0, 4, 0), sx_cv1 _ (0, 5, 0), sx_cv1 _ (0, 6, 0)] = _
    rw [e1, e2, e3, e4, e5, e6]
  rw [q1, q2] at c1
  exact rz_callv (k := 223) (rest := []) hf c1 ⟨Nat.zero_le _, Nat.le_of_ble_eq_true rfl⟩ hS (fun r M' hR => by
    have e := hn r M' hR
    subst e
    exact next M' hR)
end
