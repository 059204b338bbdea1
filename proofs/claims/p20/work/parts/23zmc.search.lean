/-! An evening: the class's search. -/
section
variable {L : Nat} {xs : Nat → Int32} {M M' M0 M1 M2 M3 : Nat → Nat → Int} {ρ ρ' : Nat → Int} {S n left : Nat} {k cell hour lost hours a b c : Int} {w : List Int} {st : vn_S} {Q R : Option Value → (Nat → Nat → Int) → Prop}
def vx_fr (M0 M : Nat → Nat → Int) : Prop := (∀ a, a < 128 → a ≠ 29 → a ≠ 30 → a ≠ 31 → M a = M0 a) ∧ ∀ j, j ≠ 4 → j ≠ 5 → M 29 j = M0 29 j
def vx_E (S : Nat) (M : Nat → Nat → Int) (st : vn_S) : Prop := M 29 4 = st.1 ∧ (st.1 ≤ 6 → M 29 5 = st.2.1 ∧ ∀ i, i < S → M 31 i = st.2.2.getD i 0)
def vx_Y (M : Nat → Nat → Int) (w : List Int) : Prop := ∀ i, i < w.length → M 30 i = w.getD i 0
def vx_v (k : Int) (left : Nat) (cell hour lost hours : Int) : sm_V := [(0, .ref 29), (1, .int (Int32.ofInt k)), (2, .int (Int32.ofInt (left : Int))), (3, .int (Int32.ofInt cell)), (4, .int (Int32.ofInt hour)), (5, .int (Int32.ofInt lost)), (6, .int (Int32.ofInt hours))]
def vx_v7 (k : Int) (left : Nat) (cell hour lost hours : Int) (h : Nat) : sm_V := vx_v k left cell hour lost hours ++ [(7, .int (Int32.ofInt (h : Int)))]
def vx_l : sx_L := [(0, 2, 0, 29), (1, 0, 9, 0), (2, 0, 10, 0), (3, 0, 11, 0), (4, 0, 12, 0), (5, 0, 13, 0), (6, 0, 14, 0)]
def vx_l7 (h : Nat) : sx_L := vx_l ++ [(7, 0, 0, (h : Int))]
def vx_C (M0 : Nat → Nat → Int) (h : Nat) : Int := M0 10 h
def vx_D (M0 : Nat → Nat → Int) (h : Nat) : Int := M0 10 (120 + h)
def vx_r (k : Int) (left : Nat) (cell hour lost hours : Int) : Prop := (0 ≤ k ∧ k ≤ 6) ∧ left < 64 ∧ sx_w (-1, 143) cell ∧ (0 ≤ hour ∧ hour ≤ 7 * k) ∧ (0 ≤ lost ∧ lost ≤ k) ∧ (0 ≤ hours ∧ hours ≤ 50 * k)
def vx_g : List ct_Q := [(0, (0, 5)), (0, (1, 63)), (0, (-1, 143)), (0, (0, 42)), (0, (0, 6)), (0, (0, 300))]
def vx_g0 : List ct_Q := [(0, (0, 6)), (0, (0, 0)), (0, (-1, 143)), (0, (0, 42)), (0, (0, 6)), (0, (0, 300))]
noncomputable def vx_th : sx_S := og_t vx_g [(29, 4, (0, 7))]
noncomputable def vx_tl : sx_S := og_t vx_g0 [(29, 4, (0, 7))]
noncomputable def vx_tp (h : Nat) : sx_S := og_t vx_g [(10, h, (-1, 143))]
noncomputable def vx_t6 : sx_S := og_t vx_g []
noncomputable def vx_ta (h : Nat) : sx_S := og_t (vx_g ++ [(0, (0, 6)), (0, (-1, 143))]) [(10, 120 + h, (-1, 143))]
-- the walks
def vx_Th : List og_T := [(some 51, none, [], vx_l7 0, [], [og_l 13 15 0]), (none, none, [], [], [], [og_nl 13 15 0])]
def vx_Tl : List og_T := [(some 44, none, [(0, 0, 6), (0, 0, 0), (2, 0, 31), (0, 0, 0), (2, 0, 30)], [], [(29, (0, 5), (14, 0)), (29, (0, 4), (13, 0))], [og_l 13 15 0]), (none, none, [], [], [], [og_nl 13 15 0])]
def vx_bf (h : Nat) : List og_D := [(5, (10, 0), (0, (h : Int)), 10, 16), (5, (16, 0), (0, 1), 3, 17)]
def vx_Tp (h : Nat) : List og_T := [(some 85, none, [(0, 15, 0), (0, 11, 0), (0, 12, 0)], vx_l7 h ++ [(8, 0, 15, 0)], [], vx_bf h ++ [og_b 17 1 1]), (some 51, none, [], vx_l7 (h + 1), [], vx_bf h ++ [(7, (17, 0), (0, 0), 1, 0)])]
def vx_af (h : Nat) : List og_D := [(5, (12, 0), (15, 0), 0, 18), (5, (10, 0), (0, -1 - ((2 ^ h : Nat) : Int)), 3, 19), (5, (14, 0), (18, 0), 0, 20)]
def vx_as (q : Int) : List sx_V := [(0, 20, 0), (0, 13, q), (0, 18, 1), (0, 16, 0), (0, 19, 0), (0, 9, 1), (2, 0, 29)]
def vx_Ta (h : Nat) : List og_T := [(some 149, none, vx_as 1, vx_l7 h, [(30, (9, 0), (0, (h : Int)))], vx_af h ++ [og_l 17 18 0]), (some 149, none, vx_as 0, vx_l7 h, [(30, (9, 0), (0, (h : Int)))], vx_af h ++ [og_nl 17 18 0])]
def vx_T0 : List og_T := [(none, none, [], [], [], [])]
def vx_Tn (h : Nat) : List og_T := [(some 51, none, [], vx_l7 (h + 1), [], [])]
theorem vx_ch : ((List.range 6).all fun e => gs_chk (fun pc => Nat.beq pc 51) (fun u => vx_Th.any (og_chk vx_th u)) 300 300 (e + 4) 94 0 vx_l [] vx_th) = true := by decide +kernel
theorem vx_cl : gs_chk (fun pc => Nat.beq pc 44) (fun u => vx_Tl.any (og_chk vx_tl u)) 300 300 3 94 0 vx_l [] vx_tl = true := by decide +kernel
theorem vx_c47 : gs_chk (fun _ => false) (fun u => vx_T0.any (og_chk (og_t [] []) u)) 300 300 3 94 47 [] [] (og_t [] []) = true := by decide +kernel
theorem vx_c6 : ((List.range 6).all fun e => gs_chk (fun _ => false) (fun u => vx_T0.any (og_chk vx_t6 u)) 300 300 (e + 4) 94 51 (vx_l7 6) [] vx_t6) = true := by decide +kernel
def vx_sp (pc : Nat) : Bool := bif Nat.beq pc 51 then true else Nat.beq pc 85
theorem vx_cp : ((List.range 6).all fun e => (List.range 6).all fun h => gs_chk vx_sp (fun u => (vx_Tp h).any (og_chk (vx_tp h) u)) 300 300 (e + 4) 94 51 (vx_l7 h) [] (vx_tp h)) = true := by decide +kernel
theorem vx_ca : ((List.range 6).all fun e => (List.range 6).all fun h => gs_chk (fun pc => Nat.beq pc 149) (fun u => (vx_Ta h).any (og_chk (vx_ta h) u)) 300 300 (e + 4) 94 88 (vx_l7 h ++ [(8, 0, 16, 0)]) [(0, 15, 0), (0, 12, 0)] (vx_ta h)) = true := by decide +kernel
theorem vx_cn : ((List.range 6).all fun e => (List.range 6).all fun h => gs_chk (fun pc => Nat.beq pc 51) (fun u => (vx_Tn h).any (og_chk vx_t6 u)) 300 300 (e + 4) 94 152 (vx_l7 h) [] vx_t6) = true := by decide +kernel
theorem vx_bits : ((List.range 64).all fun l => (List.range 6).all fun h => sx_an (sx_eq (sx_mf 3 (sx_mf 10 (l : Int) (h : Int)) 1) (bif l.testBit h then 1 else 0)) (bif l.testBit h then sx_eq (sx_mf 3 (l : Int) (-1 - ((2 ^ h : Nat) : Int))) ((l - 2 ^ h : Nat) : Int) else true)) = true := by decide +kernel
theorem vx_bit (hl : left < 64) {h : Nat} (hh : h < 6) : (left.testBit h = true → sx_mf 3 (sx_mf 10 (left : Int) (h : Int)) 1 = 1 ∧ sx_mf 3 (left : Int) (-1 - ((2 ^ h : Nat) : Int)) = ((left - 2 ^ h : Nat) : Int)) ∧ (¬ left.testBit h = true → sx_mf 3 (sx_mf 10 (left : Int) (h : Int)) 1 = 0) := by
  have t := List.all_eq_true.mp (List.all_eq_true.mp vx_bits left (List.mem_range.mpr hl)) h (List.mem_range.mpr hh)
  obtain ⟨t1, t2⟩ := sx_an_iff.mp t
  cases e : left.testBit h with
  | true =>
    rw [e] at t1 t2
    exact ⟨fun _ => ⟨sx_eq_iff.mp t1, sx_eq_iff.mp t2⟩, fun h => absurd rfl h⟩
  | false =>
    rw [e] at t1
    exact ⟨fun h => Bool.noConfusion h, fun _ => sx_eq_iff.mp t1⟩
-- what the symbols stand for
def vx_R (ρ : Nat → Int) (k : Int) (left : Nat) (cell hour lost hours : Int) : Prop := ρ 9 = k ∧ ρ 10 = (left : Int) ∧ ρ 11 = cell ∧ ρ 12 = hour ∧ ρ 13 = lost ∧ ρ 14 = hours
theorem vx_R_on {m : Nat} (x : sx_ext m ρ ρ') (h : 14 < m) (r : vx_R ρ k left cell hour lost hours) : vx_R ρ' k left cell hour lost hours := by
  obtain ⟨r1, r2, r3, r4, r5, r6⟩ := r
  exact ⟨og_v x (by omega) r1, og_v x (by omega) r2, og_v x (by omega) r3, og_v x (by omega) r4, og_v x (by omega) r5, og_v x (by omega) r6⟩
theorem vx_el (r : vx_R ρ k left cell hour lost hours) : sx_cl1 ρ vx_l = vx_v k left cell hour lost hours := by
  obtain ⟨r1, r2, r3, r4, r5, r6⟩ := r
  show [(0, Value.ref 29), (1, sx_cv1 ρ (0, 9, 0)), (2, sx_cv1 ρ (0, 10, 0)), (3, sx_cv1 ρ (0, 11, 0)), (4, sx_cv1 ρ (0, 12, 0)), (5, sx_cv1 ρ (0, 13, 0)), (6, sx_cv1 ρ (0, 14, 0))] = _
  rw [og_int r1, og_int r2, og_int r3, og_int r4, og_int r5, og_int r6]
  rfl
theorem vx_el7 {h : Nat} (h0 : ρ 0 = 0) (r : vx_R ρ k left cell hour lost hours) : sx_cl1 ρ (vx_l7 h) = vx_v7 k left cell hour lost hours h := by
  have e : sx_cl1 ρ (vx_l7 h) = sx_cl1 ρ vx_l ++ [(7, sx_cv1 ρ (0, 0, (h : Int)))] := rfl
  rw [e, vx_el r, tk_cv h0]
  rfl
theorem vx_w (r : vx_r k left cell hour lost hours) : sx_w sx_r32 k ∧ sx_w sx_r32 (left : Int) ∧ sx_w sx_r32 cell ∧ sx_w sx_r32 hour ∧ sx_w sx_r32 lost ∧ sx_w sx_r32 hours := by
  obtain ⟨r1, r2, r3, r4, r5, r6⟩ := r
  exact ⟨og_w32 (by omega) (by omega), og_w32 (by omega) (by omega), vn_w r3, og_w32 (by omega) (by omega), og_w32 (by omega) (by omega), og_w32 (by omega) (by omega)⟩
theorem vx_ok {m : Nat} (hc : ∀ c, sx_ok ρ m (2, 0, c)) (h : 14 < m) (r : vx_R ρ k left cell hour lost hours) (hr : vx_r k left cell hour lost hours) : sx_okl ρ m vx_l := by
  obtain ⟨r1, r2, r3, r4, r5, r6⟩ := r
  obtain ⟨w1, w2, w3, w4, w5, w6⟩ := vx_w hr
  intro q hq
  simp only [vx_l, List.mem_cons, List.not_mem_nil, or_false] at hq
  rcases hq with rfl | rfl | rfl | rfl | rfl | rfl | rfl
  · exact hc _
  · exact tk_ok0 (by omega) (by rw [r1]; exact w1)
  · exact tk_ok0 (by omega) (by rw [r2]; exact w2)
  · exact tk_ok0 (by omega) (by rw [r3]; exact w3)
  · exact tk_ok0 (by omega) (by rw [r4]; exact w4)
  · exact tk_ok0 (by omega) (by rw [r5]; exact w5)
  · exact tk_ok0 h (by rw [r6]; exact w6)
theorem vx_ok7 {m h : Nat} (h0 : ρ 0 = 0) (hh : h ≤ 6) (hm : 14 < m) (hl : sx_okl ρ m vx_l) : sx_okl ρ m (vx_l7 h) := by
  intro q hq
  rcases List.mem_append.mp hq with hq | hq
  · exact hl q hq
  · rw [List.mem_singleton.mp hq]
    exact ⟨by show 0 < m; omega, fun _ => by
      show sx_w sx_r32 (ρ 0 + (h : Int))
      rw [h0, Int.zero_add]
      exact og_w32 (by omega) (by omega), fun e => by cases e⟩
theorem vx_10 (hm : sx_mok cl_ly M) {i : Nat} (hi : i < 240) : sx_w (-1, 143) (M 10 i) := hm 10 _ i _ rfl hi rfl
theorem vx_10w (hm : sx_mok cl_ly M) {i : Nat} (hi : i < 240) : sx_w sx_r64 (M 10 i) := sx_32_64 (vn_w (vx_10 hm hi))
theorem vx_zs (hr : vx_r k left cell hour lost hours) (hk : k ≤ 5) (hl : left ≠ 0) : og_zs vx_g [k, (left : Int), cell, hour, lost, hours] := by
  obtain ⟨w1, w2, w3, w4, w5, w6⟩ := vx_w hr
  obtain ⟨r1, r2, r3, r4, r5, r6⟩ := hr
  exact ⟨og_z rfl r1.1 hk w1, og_z rfl (show (1 : Int) ≤ _ by omega) (show _ ≤ (63 : Int) by omega) w2, og_z rfl r3.1 r3.2 w3, og_z rfl r4.1 (show _ ≤ (42 : Int) by omega) w4, og_z rfl r5.1 (show _ ≤ (6 : Int) by omega) w5, og_z rfl r6.1 (show _ ≤ (300 : Int) by omega) w6, trivial⟩
theorem vx_zs0 (hr : vx_r k 0 cell hour lost hours) : og_zs vx_g0 [k, ((0 : Nat) : Int), cell, hour, lost, hours] := by
  obtain ⟨w1, w2, w3, w4, w5, w6⟩ := vx_w hr
  obtain ⟨r1, r2, r3, r4, r5, r6⟩ := hr
  exact ⟨og_z rfl r1.1 r1.2 w1, og_z rfl (show (0 : Int) ≤ _ by omega) (show _ ≤ (0 : Int) by omega) w2, og_z rfl r3.1 r3.2 w3, og_z rfl r4.1 (show _ ≤ (42 : Int) by omega) w4, og_z rfl r5.1 (show _ ≤ (6 : Int) by omega) w5, og_z rfl r6.1 (show _ ≤ (300 : Int) by omega) w6, trivial⟩
theorem vx_29 (h0 : 0 ≤ M 29 4) (h7 : M 29 4 ≤ 7) : ∀ g ∈ ([(29, 4, (0, 7))] : List ct_G), g.1 < 128 ∧ sx_w g.2.2 (M g.1 g.2.1) ∧ sx_w sx_r64 (M g.1 g.2.1) := fun g hg => by
  rw [List.mem_singleton.mp hg]
  exact ⟨by decide, ⟨h0, h7⟩, by show sx_w sx_r64 (M 29 4); rw [sx_r64_iff]; omega⟩
-- calls
/-- a part with two numbers, and one more below them on the stack -/
theorem vn_call2 {j i d d' pc ix : Nat} {lv : sm_V} (hf : (sm_MT j).2.2.2.2.2 pc = some (.invokestatic ix, 3)) (hc : sx_call cl_ly (sm_LK (sm_MT j).1) (fun k => (sm_MT k).2.2.2.1) (.invokestatic ix) [(0, 2, 0), (0, 1, 0), (0, 3, 0)] = some (i, [(0, 1, 0), (0, 2, 0)], [(0, 3, 0)])) (hi : 2 ≤ (sm_MT i).2.1) (ha : sx_w sx_r32 a) (hb : sx_w sx_r32 b) (hw : sx_w sx_r32 c) (hd : d ≤ d') (hS : rz_fin R L xs i d 0 (vn_v2 a b) [] M) (next : ∀ r M', R r M' → rz_fin Q L xs j (d' + 1) (pc + 3) lv (r.toList ++ [.int (Int32.ofInt c)]) M') : rz_fin Q L xs j (d' + 1) pc lv [.int (Int32.ofInt b), .int (Int32.ofInt a), .int (Int32.ofInt c)] M := by
  obtain ⟨F1, r1, M1, f1, f2⟩ := rz_d hd hS
  obtain ⟨F2, r, M2, g1, g2⟩ := next r1 M1 f2
  have e1 : sx_cv1 (fun s => if s = 1 then a else if s = 2 then b else if s = 3 then c else 0) (0, 1, 0) = Value.int (Int32.ofInt a) := og_int rfl
  have e2 : sx_cv1 (fun s => if s = 1 then a else if s = 2 then b else if s = 3 then c else 0) (0, 2, 0) = Value.int (Int32.ofInt b) := og_int rfl
  have e3 : sx_cv1 (fun s => if s = 1 then a else if s = 2 then b else if s = 3 then c else 0) (0, 3, 0) = Value.int (Int32.ofInt c) := og_int rfl
  have hok : sx_oks (fun s => if s = 1 then a else if s = 2 then b else if s = 3 then c else 0) 4 [(0, 2, 0), (0, 1, 0), (0, 3, 0)] := fun v hv => by
    simp only [List.mem_cons, List.not_mem_nil, or_false] at hv
    rcases hv with rfl | rfl | rfl
    · exact tk_ok0 (by decide) hb
    · exact tk_ok0 (by decide) ha
    · exact tk_ok0 (by decide) hw
  have c1 := (sx_call_ok (ρ := fun s => if s = 1 then a else if s = 2 then b else if s = 3 then c else 0) (M := M) (lay := cl_lay) (rf := cl_rf) cl_lok hok hc).1
  have q1 : sx_cs1 (fun s => if s = 1 then a else if s = 2 then b else if s = 3 then c else 0) [(0, 2, 0), (0, 1, 0), (0, 3, 0)] = [.int (Int32.ofInt b), .int (Int32.ofInt a), .int (Int32.ofInt c)] := by
    show [sx_cv1 _ (0, 2, 0), sx_cv1 _ (0, 1, 0), sx_cv1 _ (0, 3, 0)] = _
    rw [e1, e2, e3]
  have q2 : sx_cs1 (fun s => if s = 1 then a else if s = 2 then b else if s = 3 then c else 0) [(0, 1, 0), (0, 2, 0)] = [.int (Int32.ofInt a), .int (Int32.ofInt b)] := by
    show [sx_cv1 _ (0, 1, 0), sx_cv1 _ (0, 2, 0)] = _
    rw [e1, e2]
  have q3 : sx_cs1 (fun s => if s = 1 then a else if s = 2 then b else if s = 3 then c else 0) [(0, 3, 0)] = [.int (Int32.ofInt c)] := by
    show [sx_cv1 _ (0, 3, 0)] = _
    rw [e3]
  rw [q1, q2, q3] at c1
  obtain ⟨F, hF⟩ := gs_call (xs := xs) (L := L) (j := j) (d := d') (pc := pc) (len := 3) (k := i) (ins := .invokestatic ix) (lv := lv) (s := [.int (Int32.ofInt b), .int (Int32.ofInt a), .int (Int32.ofInt c)]) (as := [.int (Int32.ofInt a), .int (Int32.ofInt b)]) (rest := [.int (Int32.ofInt c)]) (ro := r1) hf rfl rfl c1 ⟨Nat.le_of_ble_eq_true rfl, hi⟩ f1 g1
  exact ⟨F, r, M2, hF, g2⟩
def vn_ρ6 (k : Int) (left : Nat) (cell hour lost hours : Int) (s : Nat) : Int := if s = 1 then k else if s = 2 then (left : Int) else if s = 3 then cell else if s = 4 then hour else if s = 5 then lost else if s = 6 then hours else 0
def vn_s6 (o k : Int) (left : Nat) (cell hour lost hours : Int) : List Value := [.int (Int32.ofInt hours), .int (Int32.ofInt lost), .int (Int32.ofInt hour), .int (Int32.ofInt cell), .int (Int32.ofInt (left : Int)), .int (Int32.ofInt k), .ref o.toNat]
theorem vx_call {j pc d : Nat} {lv : sm_V} (hf : (sm_MT j).2.2.2.2.2 pc = some (.invokevirtual 38, 3)) (hc : sx_call cl_ly (sm_LK (sm_MT j).1) (fun k => (sm_MT k).2.2.2.1) (.invokevirtual 38) [(0, 6, 0), (0, 5, 0), (0, 4, 0), (0, 3, 0), (0, 2, 0), (0, 1, 0), (2, 0, 29)] = some (94, [(2, 0, 29), (0, 1, 0), (0, 2, 0), (0, 3, 0), (0, 4, 0), (0, 5, 0), (0, 6, 0)], [])) (hr : vx_r k left cell hour lost hours) (hS : rz_fin R L xs 94 d 0 (vx_v k left cell hour lost hours) [] M) (next : ∀ M', R none M' → rz_fin Q L xs j (d + 1) (pc + 3) lv [] M') (hn : ∀ r M', R r M' → r = none)   : rz_fin Q L xs j (d + 1) pc lv (vn_s6 29 k left cell hour lost hours) M := by
  obtain ⟨w1, w2, w3, w4, w5, w6⟩ := vx_w hr
  have hok : sx_oks (vn_ρ6 k left cell hour lost hours) 7 [(0, 6, 0), (0, 5, 0), (0, 4, 0), (0, 3, 0), (0, 2, 0), (0, 1, 0), (2, 0, 29)] := fun v hv => by
    simp only [List.mem_cons, List.not_mem_nil, or_false] at hv
    rcases hv with rfl | rfl | rfl | rfl | rfl | rfl | rfl
    · exact tk_ok0 (by decide) w6
    · exact tk_ok0 (by decide) w5
    · exact tk_ok0 (by decide) w4
    · exact tk_ok0 (by decide) w3
    · exact tk_ok0 (by decide) w2
    · exact tk_ok0 (by decide) w1
    · exact ⟨by show 0 < 7; decide, (fun h => by cases h), fun h => by cases h⟩
  have c1 := (sx_call_ok (ρ := vn_ρ6 k left cell hour lost hours) (M := M) (lay := cl_lay) (rf := cl_rf) cl_lok hok hc).1
  have e1 : sx_cv1 (vn_ρ6 k left cell hour lost hours) (0, 1, 0) = Value.int (Int32.ofInt k) := og_int rfl
  have e2 : sx_cv1 (vn_ρ6 k left cell hour lost hours) (0, 2, 0) = Value.int (Int32.ofInt (left : Int)) := og_int rfl
  have e3 : sx_cv1 (vn_ρ6 k left cell hour lost hours) (0, 3, 0) = Value.int (Int32.ofInt cell) := og_int rfl
  have e4 : sx_cv1 (vn_ρ6 k left cell hour lost hours) (0, 4, 0) = Value.int (Int32.ofInt hour) := og_int rfl
  have e5 : sx_cv1 (vn_ρ6 k left cell hour lost hours) (0, 5, 0) = Value.int (Int32.ofInt lost) := og_int rfl
  have e6 : sx_cv1 (vn_ρ6 k left cell hour lost hours) (0, 6, 0) = Value.int (Int32.ofInt hours) := og_int rfl
  have q1 : sx_cs1 (vn_ρ6 k left cell hour lost hours) [(0, 6, 0), (0, 5, 0), (0, 4, 0), (0, 3, 0), (0, 2, 0), (0, 1, 0), (2, 0, 29)] = vn_s6 29 k left cell hour lost hours := by
    show [sx_cv1 _ (0, 6, 0), sx_cv1 _ (0, 5, 0), sx_cv1 _ (0, 4, 0), sx_cv1 _ (0, 3, 0), sx_cv1 _ (0, 2, 0), sx_cv1 _ (0, 1, 0), Value.ref 29] = _
    rw [e1, e2, e3, e4, e5, e6]
    rfl
  have q2 : sx_cs1 (vn_ρ6 k left cell hour lost hours) [(2, 0, 29), (0, 1, 0), (0, 2, 0), (0, 3, 0), (0, 4, 0), (0, 5, 0), (0, 6, 0)] = [.ref 29, .int (Int32.ofInt k), .int (Int32.ofInt (left : Int)), .int (Int32.ofInt cell), .int (Int32.ofInt hour), .int (Int32.ofInt lost), .int (Int32.ofInt hours)] := by
    show [Value.ref 29, sx_cv1 _ (0, 1, 0), sx_cv1 _ (0, 2, 0), sx_cv1 _ (0, 3, 0), sx_cv1 _ (0, 4, 0), sx_cv1 _ (0, 5, 0), sx_cv1 _ (0, 6, 0)] = _
    rw [e1, e2, e3, e4, e5, e6]
  rw [q1, q2] at c1
  exact rz_callv (k := 94) (rest := []) hf c1 ⟨Nat.zero_le _, Nat.le_of_ble_eq_true rfl⟩ hS (fun r M' hR => by
    have e := hn r M' hR
    subst e
    exact next M' hR)
end
