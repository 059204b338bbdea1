/-! Rows of bytes are read: both sides. -/
section
variable {L : Nat} {xs : Nat → Int32} {M M' N N' X Y : Nat → Nat → Int} {c t nc H : Nat}
def fu1_i (c : Nat) : List qs_I := []
def fu1_T (c : Nat) : List og_T := [(some 1, none, [(2, 0, 21)], [(0, 2, 0, 21), (1, 2, 0, 41 + 2 * (c : Int))], [], [])]
theorem fu1_c : ((List.range 6).all fun c => qs_chk (fun pc => Nat.beq pc 1) (fu1_i c) 0 (fu1_T c) 400 400 21 106 0 [(0, 2, 0, 21), (1, 2, 0, 41 + 2 * (c : Int))] []) = true := by decide +kernel
def fu2_i (c : Nat) : List qs_I := []
def fu2_T (c : Nat) : List og_T := [(some 6, none, [], [(0, 2, 0, 21), (1, 2, 0, 41 + 2 * (c : Int)), (2, 0, 0, 0)], [], [])]
theorem fu2_c : ((List.range 6).all fun c => qs_chk (fun pc => Nat.beq pc 6) (fu2_i c) 0 (fu2_T c) 400 400 21 106 4 [(0, 2, 0, 21), (1, 2, 0, 41 + 2 * (c : Int))] []) = true := by decide +kernel
def fu3_i (c : Nat) : List qs_I := [(0, 0, (0, 0), (0, 59)), (1, 41 + 2 * c, (0, 1), (0, 60)), (2, 10, (9, 0), (0, 0)), (1, 10, (0, 210), (0, 29))]
def fu3_T (c : Nat) : List og_T := [(none, some (0, 9, 0), [], [], [], [(0, (12, 0), (0, 0), 30, 88), (5, (11, 0), (9, 0), 0, 12)]), (some 34, none, [(0, 12, 0), (2, 0, 21)], [(0, 2, 0, 21), (1, 2, 0, 41 + 2 * (c : Int)), (2, 0, 9, 0), (3, 0, 12, 0)], [], [(0, (12, 0), (0, 0), 0, 29), (5, (11, 0), (9, 0), 0, 12)])]
theorem fu3_c : ((List.range 6).all fun c => qs_chk (fun pc => Nat.beq pc 34) (fu3_i c) 1 (fu3_T c) 400 400 21 106 6 [(0, 2, 0, 21), (1, 2, 0, 41 + 2 * (c : Int)), (2, 0, 9, 0)] []) = true := by decide +kernel
def fu4_i (c : Nat) : List qs_I := [(0, 0, (0, 0), (0, 59)), (0, 0, (0, 0), (0, 29)), (0, 0, (0, 0), (-2, 5)), (1, 42 + 2 * c, (9, 0), sx_r64)]
def fu4_T (c : Nat) : List og_T := [(none, some (0, 9, 0), [], [], [], [(0, (11, 0), (0, 0), -2, -1), (0, (12, 0), (0, 0), -9223372036854775808, 5)]), (some 6, none, [], [(0, 2, 0, 21), (1, 2, 0, 41 + 2 * (c : Int)), (2, 0, 9, 1)], [], [(0, (11, 0), (0, 0), -2, -1), (0, (12, 0), (0, 0), 6, 6)]), (none, some (0, 9, 0), [], [], [], [(0, (11, 0), (0, 0), -2, -1), (0, (12, 0), (0, 0), 7, 9223372036854775807)]), (none, some (0, 9, 0), [], [], [], [(0, (11, 0), (0, 0), 0, 5), (0, (12, 0), (0, 0), -9223372036854775808, 4), (1, (12, 0), (11, 0), 0, 0)]), (some 6, none, [], [(0, 2, 0, 21), (1, 2, 0, 41 + 2 * (c : Int)), (2, 0, 9, 1)], [], [(0, (11, 0), (0, 0), 0, 5), (0, (12, 0), (0, 0), 0, 5), (2, (12, 0), (11, 0), 0, 0), (2, (11, 0), (12, 0), 0, 0)]), (none, some (0, 9, 0), [], [], [], [(0, (11, 0), (0, 0), 0, 5), (0, (12, 0), (0, 0), 1, 9223372036854775807), (2, (12, 0), (11, 0), 0, 0), (1, (11, 0), (12, 0), 0, 0)])]
theorem fu4_c : ((List.range 6).all fun c => qs_chk (fun pc => Nat.beq pc 6) (fu4_i c) 0 (fu4_T c) 400 400 21 106 37 [(0, 2, 0, 21), (1, 2, 0, 41 + 2 * (c : Int)), (2, 0, 9, 0), (3, 0, 10, 0)] [(0, 11, 0)]) = true := by decide +kernel
def fu5_i (c : Nat) : List qs_I := [(0, 0, (0, 0), (0, 60)), (1, 41 + 2 * c, (0, 1), (0, 60)), (3, 10, (9, 0), (0, 0))]
def fu5_T (c : Nat) : List og_T := [(none, some (0, 0, -2), [], [], [], [])]
theorem fu5_c : ((List.range 6).all fun c => qs_chk (fun pc => Nat.beq pc 34) (fu5_i c) 0 (fu5_T c) 400 400 21 106 6 [(0, 2, 0, 21), (1, 2, 0, 41 + 2 * (c : Int)), (2, 0, 9, 0)] []) = true := by decide +kernel
def jw1_i (c : Nat) : List qs_I := []
def jw1_T (c : Nat) : List og_T := [(some 3, none, [(0, 0, 29), (2, 0, 53)], [(0, 2, 0, 53), (1, 0, 0, (c : Int))], [], [])]
theorem jw1_c : ((List.range 6).all fun c => qs_chk (fun pc => Nat.beq pc 3) (jw1_i c) 0 (jw1_T c) 400 400 21 235 0 [(0, 2, 0, 53), (1, 0, 0, (c : Int))] []) = true := by decide +kernel
def jw2_i (c : Nat) : List qs_I := []
def jw2_T (c : Nat) : List og_T := [(some 8, none, [], [(0, 2, 0, 53), (1, 0, 0, (c : Int)), (2, 0, 0, 0)], [], [])]
theorem jw2_c : ((List.range 6).all fun c => qs_chk (fun pc => Nat.beq pc 8) (jw2_i c) 0 (jw2_T c) 400 400 21 235 6 [(0, 2, 0, 53), (1, 0, 0, (c : Int))] []) = true := by decide +kernel
def jw3_i (c : Nat) : List qs_I := [(0, 0, (0, 0), (0, 59)), (1, 88, (0, (c : Int)), (0, 60)), (2, 10, (9, 0), (0, 0)), (1, 53, (0, 13), (0, 29))]
def jw3_T (c : Nat) : List og_T := [(none, some (0, 9, 0), [], [], [], [(0, (12, 0), (0, 0), 30, 88), (5, (11, 0), (9, 0), 0, 12)]), (some 41, none, [(0, 12, 0), (2, 0, 77)], [(0, 2, 0, 53), (1, 0, 0, (c : Int)), (2, 0, 9, 0)], [], [(0, (12, 0), (0, 0), 0, 29), (5, (11, 0), (9, 0), 0, 12)])]
theorem jw3_c : ((List.range 6).all fun c => qs_chk (fun pc => Nat.beq pc 41) (jw3_i c) 1 (jw3_T c) 400 400 21 235 8 [(0, 2, 0, 53), (1, 0, 0, (c : Int)), (2, 0, 9, 0)] []) = true := by decide +kernel
def jw4_i (c : Nat) : List qs_I := [(0, 0, (0, 0), (0, 59)), (0, 0, (0, 0), (0, 29)), (1, 77, (10, 0), sx_r32), (1, 53, (0, 13), (0, 29)), (1, 89, (9, 60 * (c : Int)), sx_r64)]
def jw4_T (c : Nat) : List og_T := [(some 69, none, [(0, 0, 6), (0, 14, 0)], [(0, 2, 0, 53), (1, 0, 0, (c : Int)), (2, 0, 9, 0), (3, 0, 0, 6)], [], [(0, (11, 0), (0, 0), -2147483648, -1), (5, (13, 0), (0, 0), 64, 14)]), (some 60, none, [(0, 14, 0), (2, 0, 77)], [(0, 2, 0, 53), (1, 0, 0, (c : Int)), (2, 0, 9, 0)], [], [(0, (11, 0), (0, 0), 0, 2147483647), (0, (14, 0), (0, 0), 0, 88), (5, (12, 0), (9, 0), 0, 14)])]
theorem jw4_c : ((List.range 6).all fun c => qs_chk (fun pc => bif Nat.beq pc 60 then true else Nat.beq pc 69) (jw4_i c) 1 (jw4_T c) 400 400 21 235 41 [(0, 2, 0, 53), (1, 0, 0, (c : Int)), (2, 0, 9, 0)] [(0, 10, 0), (2, 0, 77)]) = true := by decide +kernel
def jw5_i (c : Nat) : List qs_I := [(0, 0, (0, 0), (0, 59)), (0, 0, (0, 0), (0, 29)), (1, 77, (10, 0), sx_r32), (1, 89, (9, 60 * (c : Int)), sx_r64)]
def jw5_T (c : Nat) : List og_T := [(some 69, none, [(0, 11, 0), (0, 13, 0)], [(0, 2, 0, 53), (1, 0, 0, (c : Int)), (2, 0, 9, 0), (3, 0, 11, 0)], [], [(5, (12, 0), (0, 0), 64, 13)])]
theorem jw5_c : ((List.range 6).all fun c => qs_chk (fun pc => Nat.beq pc 69) (jw5_i c) 1 (jw5_T c) 400 400 21 235 60 [(0, 2, 0, 53), (1, 0, 0, (c : Int)), (2, 0, 9, 0)] [(0, 10, 0), (2, 0, 77)]) = true := by decide +kernel
def jw6_i (c : Nat) : List qs_I := [(0, 0, (0, 0), (0, 59)), (0, 0, (0, 0), sx_r32), (0, 0, (0, 0), sx_r32)]
def jw6_T (c : Nat) : List og_T := [(some 8, none, [], [(0, 2, 0, 53), (1, 0, 0, (c : Int)), (2, 0, 9, 1)], [], [(3, (10, 0), (11, 0), 0, 0)]), (none, some (0, 9, 0), [], [], [], [(4, (10, 0), (11, 0), 0, 0)])]
theorem jw6_c : ((List.range 6).all fun c => qs_chk (fun pc => Nat.beq pc 8) (jw6_i c) 0 (jw6_T c) 400 400 21 235 69 [(0, 2, 0, 53), (1, 0, 0, (c : Int)), (2, 0, 9, 0), (3, 0, 11, 0)] [(0, 11, 0), (0, 10, 0)]) = true := by decide +kernel
def jw7_i (c : Nat) : List qs_I := [(0, 0, (0, 0), (0, 60)), (1, 88, (0, (c : Int)), (0, 60)), (3, 10, (9, 0), (0, 0))]
def jw7_T (c : Nat) : List og_T := [(none, some (0, 0, -2), [], [], [], [])]
theorem jw7_c : ((List.range 6).all fun c => qs_chk (fun pc => Nat.beq pc 41) (jw7_i c) 0 (jw7_T c) 400 400 21 235 8 [(0, 2, 0, 53), (1, 0, 0, (c : Int)), (2, 0, 9, 0)] []) = true := by decide +kernel
/-- the first place that isn't so -/
def fu_d (z : Int) : Int := if z < 0 then 6 else z
def fu (g E : Nat → Int) (t : Nat) : Nat → Nat → Int
  | 0, _ => -2
  | m + 1, i => if 29 < t + i then (i : Int) else if E i = fu_d (g (t + i)) then fu g E t m (i + 1) else (i : Int)
theorem fu_eq {g g' E E' : Nat → Int} : ∀ (m i : Nat), (∀ d, t + i ≤ d → d < 30 → g' d = g d) → (∀ j, i ≤ j → j < i + m → E' j = E j) → fu g' E' t m i = fu g E t m i := by
  intro m
  induction m with
  | zero => intro i _ _; rfl
  | succ m ih =>
    intro i h1 h2
    show (if 29 < t + i then (i : Int) else if E' i = fu_d (g' (t + i)) then fu g' E' t m (i + 1) else (i : Int)) = if 29 < t + i then (i : Int) else if E i = fu_d (g (t + i)) then fu g E t m (i + 1) else (i : Int)
    by_cases q : 29 < t + i
    · rw [if_pos q, if_pos q]
    · rw [if_neg q, if_neg q, h2 i (Nat.le_refl i) (by omega), h1 (t + i) (Nat.le_refl _) (by omega), ih (i + 1) (fun d a b => h1 d (by omega) b) (fun j a b => h2 j (by omega) (by omega))]
theorem fu_r {g E : Nat → Int} : ∀ (m i : Nat), -2 ≤ fu g E t m i ∧ fu g E t m i < ((i + m : Nat) : Int) := by
  intro m
  induction m with
  | zero => intro i; exact ⟨by show (-2 : Int) ≤ -2; decide, by show (-2 : Int) < _; omega⟩
  | succ m ih =>
    intro i
    have h := ih (i + 1)
    show -2 ≤ (if 29 < t + i then (i : Int) else if E i = fu_d (g (t + i)) then fu g E t m (i + 1) else (i : Int)) ∧ (if 29 < t + i then (i : Int) else if E i = fu_d (g (t + i)) then fu g E t m (i + 1) else (i : Int)) < _
    split
    · omega
    · split
      · omega
      · omega
theorem fu_len (hm : sx_mok cl_ly M) : ∀ {c : Nat}, c < 6 → 0 ≤ M (41 + 2 * c) 1 ∧ M (41 + 2 * c) 1 ≤ 60
  | 0, _ => cx_fld (c := 41) (k := 1) (lo := 0) (hi := 60) hm (by decide +kernel)
  | 1, _ => cx_fld (c := 43) (k := 1) (lo := 0) (hi := 60) hm (by decide +kernel)
  | 2, _ => cx_fld (c := 45) (k := 1) (lo := 0) (hi := 60) hm (by decide +kernel)
  | 3, _ => cx_fld (c := 47) (k := 1) (lo := 0) (hi := 60) hm (by decide +kernel)
  | 4, _ => cx_fld (c := 49) (k := 1) (lo := 0) (hi := 60) hm (by decide +kernel)
  | 5, _ => cx_fld (c := 51) (k := 1) (lo := 0) (hi := 60) hm (by decide +kernel)
theorem fu_23 (hm : sx_mok cl_ly M) : ∀ {c : Nat}, c < 6 → (-1 ≤ M (41 + 2 * c) 2 ∧ M (41 + 2 * c) 2 ≤ 4) ∧ (-1 ≤ M (41 + 2 * c) 3 ∧ M (41 + 2 * c) 3 ≤ 49)
  | 0, _ => ⟨cx_fld (c := 41) (k := 2) (lo := -1) (hi := 4) hm (by decide +kernel), cx_fld (c := 41) (k := 3) (lo := -1) (hi := 49) hm (by decide +kernel)⟩
  | 1, _ => ⟨cx_fld (c := 43) (k := 2) (lo := -1) (hi := 4) hm (by decide +kernel), cx_fld (c := 43) (k := 3) (lo := -1) (hi := 49) hm (by decide +kernel)⟩
  | 2, _ => ⟨cx_fld (c := 45) (k := 2) (lo := -1) (hi := 4) hm (by decide +kernel), cx_fld (c := 45) (k := 3) (lo := -1) (hi := 49) hm (by decide +kernel)⟩
  | 3, _ => ⟨cx_fld (c := 47) (k := 2) (lo := -1) (hi := 4) hm (by decide +kernel), cx_fld (c := 47) (k := 3) (lo := -1) (hi := 49) hm (by decide +kernel)⟩
  | 4, _ => ⟨cx_fld (c := 49) (k := 2) (lo := -1) (hi := 4) hm (by decide +kernel), cx_fld (c := 49) (k := 3) (lo := -1) (hi := 49) hm (by decide +kernel)⟩
  | 5, _ => ⟨cx_fld (c := 51) (k := 2) (lo := -1) (hi := 4) hm (by decide +kernel), cx_fld (c := 51) (k := 3) (lo := -1) (hi := 49) hm (by decide +kernel)⟩
/-- the class reads a row -/
theorem fu_loop {len : Nat} (hL : L < 2 ^ 31) (hw : WF X) (hR : vu_R X) (hn : X 9 5 = (nc : Int)) (h12 : nc ≤ 12) (hc6 : c < 6) (ht : X 10 210 = (t : Int)) (h29 : t ≤ 29) (el : X (41 + 2 * c) 1 = (len : Int)) (h60 : len ≤ 60) : ∀ (m i : Nat) (M' : Nat → Nat → Int), i + m = len → t + i ≤ 30 → sx_mok cl_ly M' → vs_F X M' → vs_P (vs_T X nc i t (X 21 6, X 23)) M' → rz_fin (fun r N => r = some (.int (Int32.ofInt (fu (fa_h X nc t) (X (42 + 2 * c)) t m i))) ∧ sx_mok cl_ly N ∧ vs_F X N) L xs 106 21 6 [(0, .ref 21), (1, .ref (41 + 2 * c)), (2, .int (Int32.ofInt (i : Int)))] [] M' := by
  intro m
  induction m with
  | zero =>
    intro i M' hi hi30 hm F P
    have ei : i = len := by omega
    have e1 : M' (41 + 2 * c) 1 = (i : Int) := by rw [F.1 (41 + 2 * c) (by omega) (by omega), el, ei]
    refine qs_use (zs := [(i : Int), (i : Int)]) (List.all_eq_true.mp fu5_c c (List.mem_range.mpr hc6)) hL hm (qs_in (show 0 ≤ (i : Int) ∧ (i : Int) ≤ 60 by omega) (qs_rd (show (0 : Int) ≤ 1 by decide) e1 (show 0 ≤ (i : Int) ∧ (i : Int) ≤ 60 by omega) (qs_ge (show ¬ (i : Int) < (i : Int) by omega) (qs_fin rfl)))) (Nat.le_refl _) rfl rfl (qs_c (fun N1 hN1 hc hM => ?_) qs_z)
    exact ⟨rfl, hN1, vs_Fr F hM⟩
  | succ m ih =>
    intro i M' hi hi30 hm F P
    have e1 : M' (41 + 2 * c) 1 = (len : Int) := by rw [F.1 (41 + 2 * c) (by omega) (by omega), el]
    have e10 : M' 10 210 = (t : Int) := by rw [F.1 10 (by decide) (by decide)]; exact ht
    refine qs_use (zs := [(i : Int), (len : Int), (t : Int)]) (List.all_eq_true.mp fu3_c c (List.mem_range.mpr hc6)) hL hm (qs_in (show 0 ≤ (i : Int) ∧ (i : Int) ≤ 59 by omega) (qs_rd (show (0 : Int) ≤ 1 by decide) e1 (show 0 ≤ (len : Int) ∧ (len : Int) ≤ 60 by omega) (qs_lt (show (i : Int) < (len : Int) by omega) (qs_rd (show (0 : Int) ≤ 210 by decide) e10 (show 0 ≤ (t : Int) ∧ (t : Int) ≤ 29 by omega) (qs_fin rfl))))) (Nat.le_refl _) rfl rfl (qs_c (fun u1 N1 hN1 hc hM => ?_) (qs_c (fun u1 N1 hN1 hc hM => ?_) qs_z))
    · obtain ⟨c1, c2, -⟩ := hc
      have c1 : 30 ≤ u1 ∧ u1 ≤ 88 := c1
      have c2 : u1 = sx_mf 0 (t : Int) (i : Int) := c2
      have fN1 : ∀ a, a < 128 → N1 a = M' a := hM
      rw [mf_add (by omega) (by omega)] at c2
      have e0 : fu (fa_h X nc t) (X (42 + 2 * c)) t (m + 1) i = (i : Int) := if_pos (by omega)
      rw [e0]
      exact ⟨rfl, hN1, vs_Fr F fN1⟩
    · obtain ⟨c1, c2, -⟩ := hc
      have c1 : 0 ≤ u1 ∧ u1 ≤ 29 := c1
      have c2 : u1 = sx_mf 0 (t : Int) (i : Int) := c2
      have fN1 : ∀ a, a < 128 → N1 a = M' a := hM
      rw [mf_add (by omega) (by omega)] at c2
      have c2 : u1 = ((t + i : Nat) : Int) := by omega
      subst c2
      have F2 := vs_Fr F fN1
      have P2 : vs_P (vs_T X nc i t (X 21 6, X 23)) N1 := ⟨by rw [fN1 21 (by decide)]; exact P.1, fun h => by rw [fN1 23 (by decide)]; exact P.2 h⟩
      show rz_fin _ L xs 106 21 34 [(0, .ref 21), (1, .ref (41 + 2 * c)), (2, .int (Int32.ofInt (i : Int))), (3, .int (Int32.ofInt ((t + i : Nat) : Int)))] [.int (Int32.ofInt ((t + i : Nat) : Int)), .ref 21] N1
      refine qs_vc (k := 56) (b := 21) (d := 20) (d' := 20) (rest := []) rfl rfl rfl rfl rfl rfl rfl rfl (Nat.le_refl _) rfl (rz_d (by decide) (vs_spend (xs := xs) (nc := nc) (d := t + i) hL hN1 (by omega) hw hR hn F2 P2)) (fun r9 N2 hr => ?_)
      obtain ⟨rfl, hN2, F3, P3⟩ := hr
      have eV : vq_hs (X 11) (vs_cd X nc (t + i) (vs_T X nc i t (X 21 6, X 23))) = fa_h X nc t (t + i) := by
        unfold fa_h
        rw [Nat.add_sub_cancel_left]
      rw [eV]
      have wv := fa_w (t := t) (d := t + i) hN2 F3 h12
      have eE : N2 (42 + 2 * c) i = X (42 + 2 * c) i := by rw [F3.1 (42 + 2 * c) (by omega) (by omega)]
      have wE : sx_w sx_r64 (X (42 + 2 * c) i) := by rw [← eE]; exact sh_el hN2 hc6 (by omega)
      have eT : vs_T X nc (i + 1) t (X 21 6, X 23) = vq_nx (vs_D X) (X 11) (vs_T X nc i t (X 21 6, X 23)) (vs_cd X nc (t + i) (vs_T X nc i t (X 21 6, X 23))) := vq_T_succ (D := vs_D X) (W := X 11) (lk := vs_lk X) (S := X 21 8) (nc := nc) i t (X 21 6, X 23)
      have hno : ∀ N : Nat → Nat → Int, sx_mok cl_ly N → (∀ a, a < 128 → N a = N2 a) → ¬ X (42 + 2 * c) i = fu_d (fa_h X nc t (t + i)) → (some (Value.int (Int32.ofInt (i : Int))) = some (.int (Int32.ofInt (fu (fa_h X nc t) (X (42 + 2 * c)) t (m + 1) i))) ∧ sx_mok cl_ly N ∧ vs_F X N) := fun N hN f q => by
        have e0 : fu (fa_h X nc t) (X (42 + 2 * c)) t (m + 1) i = (i : Int) := by
          show (if 29 < t + i then (i : Int) else if X (42 + 2 * c) i = fu_d (fa_h X nc t (t + i)) then fu (fa_h X nc t) (X (42 + 2 * c)) t m (i + 1) else (i : Int)) = (i : Int)
          rw [if_neg (by omega), if_neg q]
        rw [e0]
        exact ⟨rfl, hN, vs_Fr F3 f⟩
      have hgo : ∀ N : Nat → Nat → Int, sx_mok cl_ly N → (∀ a, a < 128 → N a = N2 a) → X (42 + 2 * c) i = fu_d (fa_h X nc t (t + i)) → rz_fin (fun r N => r = some (.int (Int32.ofInt (fu (fa_h X nc t) (X (42 + 2 * c)) t (m + 1) i))) ∧ sx_mok cl_ly N ∧ vs_F X N) L xs 106 21 6 [(0, .ref 21), (1, .ref (41 + 2 * c)), (2, .int (Int32.ofInt ((i : Int) + 1)))] [] N := fun N hN f q => by
        have e0 : fu (fa_h X nc t) (X (42 + 2 * c)) t (m + 1) i = fu (fa_h X nc t) (X (42 + 2 * c)) t m (i + 1) := by
          show (if 29 < t + i then (i : Int) else if X (42 + 2 * c) i = fu_d (fa_h X nc t (t + i)) then fu (fa_h X nc t) (X (42 + 2 * c)) t m (i + 1) else (i : Int)) = _
          rw [if_neg (by omega), if_pos q]
        rw [e0]
        exact ih (i + 1) N (by omega) (by omega) hN (vs_Fr F3 f) (by
          rw [eT]
          exact ⟨by rw [f 21 (by decide)]; exact P3.1, fun h => by rw [f 23 (by decide)]; exact P3.2 h⟩)
      have ev : vq_or (fa_h X nc t (t + i)) < 0 → fu_d (fa_h X nc t (t + i)) = 6 := fun q => by
        unfold vq_or at q
        unfold fu_d
        split at q
        · rename_i z
          exact if_pos z
        · rename_i z
          exact absurd q z
      have ev2 : 0 ≤ vq_or (fa_h X nc t (t + i)) → fu_d (fa_h X nc t (t + i)) = vq_or (fa_h X nc t (t + i)) := fun q => by
        unfold vq_or at q ⊢
        unfold fu_d
        split at q
        · omega
        · rename_i z
          rw [if_neg z, if_neg z]
      refine qs_use (zs := [(i : Int), ((t + i : Nat) : Int), vq_or (fa_h X nc t (t + i)), X (42 + 2 * c) i]) (List.all_eq_true.mp fu4_c c (List.mem_range.mpr hc6)) hL hN2 (qs_in (show 0 ≤ (i : Int) ∧ (i : Int) ≤ 59 by omega) (qs_in (show 0 ≤ ((t + i : Nat) : Int) ∧ ((t + i : Nat) : Int) ≤ 29 by omega) (qs_in wv (qs_rd (show 0 ≤ (i : Int) by omega) eE wE (qs_fin rfl))))) (Nat.le_refl _) rfl rfl (qs_c (fun N3 hN3 hc hM => ?_) (qs_c (fun N3 hN3 hc hM => ?_) (qs_c (fun N3 hN3 hc hM => ?_) (qs_c (fun N3 hN3 hc hM => ?_) (qs_c (fun N3 hN3 hc hM => ?_) (qs_c (fun N3 hN3 hc hM => ?_) qs_z))))))
      · obtain ⟨c1, c2, -⟩ := hc
        have c1 : -2 ≤ vq_or (fa_h X nc t (t + i)) ∧ vq_or (fa_h X nc t (t + i)) ≤ -1 := c1
        have c2 : -9223372036854775808 ≤ X (42 + 2 * c) i ∧ X (42 + 2 * c) i ≤ 5 := c2
        have fN3 : ∀ a, a < 128 → N3 a = N2 a := hM
        exact hno N3 hN3 fN3 (fun q => by rw [ev (by omega)] at q; omega)
      · obtain ⟨c1, c2, -⟩ := hc
        have c1 : -2 ≤ vq_or (fa_h X nc t (t + i)) ∧ vq_or (fa_h X nc t (t + i)) ≤ -1 := c1
        have c2 : 6 ≤ X (42 + 2 * c) i ∧ X (42 + 2 * c) i ≤ 6 := c2
        have fN3 : ∀ a, a < 128 → N3 a = N2 a := hM
        exact hgo N3 hN3 fN3 (by rw [ev (by omega)]; omega)
      · obtain ⟨c1, c2, -⟩ := hc
        have c1 : -2 ≤ vq_or (fa_h X nc t (t + i)) ∧ vq_or (fa_h X nc t (t + i)) ≤ -1 := c1
        have c2 : 7 ≤ X (42 + 2 * c) i ∧ X (42 + 2 * c) i ≤ 9223372036854775807 := c2
        have fN3 : ∀ a, a < 128 → N3 a = N2 a := hM
        exact hno N3 hN3 fN3 (fun q => by rw [ev (by omega)] at q; omega)
      · obtain ⟨c1, c2, c3, -⟩ := hc
        have c1 : 0 ≤ vq_or (fa_h X nc t (t + i)) ∧ vq_or (fa_h X nc t (t + i)) ≤ 5 := c1
        have c2 : -9223372036854775808 ≤ X (42 + 2 * c) i ∧ X (42 + 2 * c) i ≤ 4 := c2
        have c3 : X (42 + 2 * c) i < vq_or (fa_h X nc t (t + i)) := c3
        have fN3 : ∀ a, a < 128 → N3 a = N2 a := hM
        exact hno N3 hN3 fN3 (fun q => by rw [ev2 (by omega)] at q; omega)
      · obtain ⟨c1, c2, c3, c4, -⟩ := hc
        have c1 : 0 ≤ vq_or (fa_h X nc t (t + i)) ∧ vq_or (fa_h X nc t (t + i)) ≤ 5 := c1
        have c2 : 0 ≤ X (42 + 2 * c) i ∧ X (42 + 2 * c) i ≤ 5 := c2
        have c3 : ¬ X (42 + 2 * c) i < vq_or (fa_h X nc t (t + i)) := c3
        have c4 : ¬ vq_or (fa_h X nc t (t + i)) < X (42 + 2 * c) i := c4
        have fN3 : ∀ a, a < 128 → N3 a = N2 a := hM
        exact hgo N3 hN3 fN3 (by rw [ev2 (by omega)]; omega)
      · obtain ⟨c1, c2, c3, c4, -⟩ := hc
        have c1 : 0 ≤ vq_or (fa_h X nc t (t + i)) ∧ vq_or (fa_h X nc t (t + i)) ≤ 5 := c1
        have c2 : 1 ≤ X (42 + 2 * c) i ∧ X (42 + 2 * c) i ≤ 9223372036854775807 := c2
        have c3 : ¬ X (42 + 2 * c) i < vq_or (fa_h X nc t (t + i)) := c3
        have c4 : vq_or (fa_h X nc t (t + i)) < X (42 + 2 * c) i := c4
        have fN3 : ∀ a, a < 128 → N3 a = N2 a := hM
        exact hno N3 hN3 fN3 (fun q => by rw [ev2 (by omega)] at q; omega)
theorem fu_x {len : Nat} (hL : L < 2 ^ 31) (hm : sx_mok cl_ly M) (hw : WF M) (hR : vu_R M) (hn : M 9 5 = (nc : Int)) (h12 : nc ≤ 12) (hc6 : c < 6) (ht : M 10 210 = (t : Int)) (h29 : t ≤ 29) (el : M (41 + 2 * c) 1 = (len : Int)) : rz_fin (fun r N => ∃ X, pb_Q M none X ∧ vs_F X N ∧ sx_mok cl_ly N ∧ r = some (.int (Int32.ofInt (fu (fa_h X nc t) (M (42 + 2 * c)) t len 0)))) L xs 106 21 0 [(0, .ref 21), (1, .ref (41 + 2 * c))] [] M := by
  have h60 := fu_len hm hc6
  rw [el] at h60
  refine qs_use (zs := []) (List.all_eq_true.mp fu1_c c (List.mem_range.mpr hc6)) hL hm (qs_fin rfl) (Nat.le_refl _) rfl rfl (qs_c (fun N1 hN1 hc hM => ?_) qs_z)
  have f1 : ∀ a, a < 128 → N1 a = M a := hM
  show rz_fin _ L xs 106 21 1 [(0, .ref 21), (1, .ref (41 + 2 * c))] [.ref 21] N1
  refine qs_vc (k := 54) (b := 21) (d := 20) (d' := 20) (rest := []) rfl rfl rfl rfl rfl rfl rfl rfl (Nat.le_refl _) rfl (rz_d (by decide) (pb_begin (xs := xs) hL hN1)) (fun r9 X hX => ?_)
  have hr : r9 = none := hX.1
  subst hr
  have hX := pb_tr f1 hX
  refine qs_use (zs := []) (List.all_eq_true.mp fu2_c c (List.mem_range.mpr hc6)) hL hX.2.1 (qs_fin rfl) (Nat.le_refl _) rfl rfl (qs_c (fun N2 hN2 hc hM => ?_) qs_z)
  have hX := pb_tl hX hN2 (show ∀ a, a < 128 → N2 a = X a from hM)
  obtain ⟨wX, rX⟩ := pb_keep hw hR hX
  have xe : ∀ a, a < 128 → a ≠ 21 → a ≠ 23 → N2 a = M a := hX.2.2.1
  refine qs_w (fu_loop (xs := xs) (t := t) (nc := nc) (c := c) (len := len) (X := N2) hL wX rX (by rw [xe 9 (by decide) (by decide) (by decide)]; exact hn) h12 hc6 (by rw [xe 10 (by decide) (by decide) (by decide)]; exact ht) h29 (by rw [xe (41 + 2 * c) (by omega) (by omega) (by omega)]; exact el) (by omega) len 0 N2 (by omega) (by omega) hN2 vs_F_rfl ⟨rfl, fun h => rfl⟩) (fun r N g => ?_)
  obtain ⟨rfl, g2, g3⟩ := g
  exact ⟨N2, hX, g3, g2, by rw [xe (42 + 2 * c) (by omega) (by omega) (by omega)]⟩
/-- the reference reads a row -/
theorem mf_64 {z : Int} (h : -2147483648 ≤ z ∧ z ≤ 2147483647) : sx_mf 64 z 0 = z := by
  show (Int64.ofInt z).toInt32.toInt = z
  rw [Int64.toInt32_ofInt]
  exact sx_i32 (og_w32 h.1 h.2)
theorem jw_loop {len : Nat} (hL : L < 2 ^ 31) (hm0 : sx_mok cl_ly M) (hc6 : c < 6) (ht : M 53 13 = (t : Int)) (h29 : t ≤ 29) (el : M 88 c = (len : Int)) (h60 : len ≤ 60) (hE : ∀ i : Nat, i < len → -128 ≤ M 89 (60 * c + i) ∧ M 89 (60 * c + i) ≤ 127) : ∀ (m i : Nat) (M' : Nat → Nat → Int), i + m = len → sx_mok cl_ly M' → (∀ a, a < 128 → M' a = M a) → rz_fin (fun r N => r = some (.int (Int32.ofInt (fu (M 77) (fun i => M 89 (60 * c + i)) t m i))) ∧ sx_mok cl_ly N ∧ ∀ a, a < 128 → N a = M a) L xs 235 21 8 [(0, .ref 53), (1, .int (Int32.ofInt (c : Int))), (2, .int (Int32.ofInt (i : Int)))] [] M' := by
  intro m
  induction m with
  | zero =>
    intro i M' hi hm hf
    have ei : i = len := by omega
    have e1 : M' 88 (c : Int).toNat = (i : Int) := by rw [hf 88 (by decide), Int.toNat_natCast, el, ei]
    refine qs_use (zs := [(i : Int), (i : Int)]) (List.all_eq_true.mp jw7_c c (List.mem_range.mpr hc6)) hL hm (qs_in (show 0 ≤ (i : Int) ∧ (i : Int) ≤ 60 by omega) (qs_rd (show 0 ≤ (c : Int) by omega) e1 (show 0 ≤ (i : Int) ∧ (i : Int) ≤ 60 by omega) (qs_ge (show ¬ (i : Int) < (i : Int) by omega) (qs_fin rfl)))) (Nat.le_refl _) rfl rfl (qs_c (fun N1 hN1 hc hM => ?_) qs_z)
    exact ⟨rfl, hN1, fun a ha => ((show ∀ a, a < 128 → N1 a = M' a from hM) a ha).trans (hf a ha)⟩
  | succ m ih =>
    intro i M' hi hm hf
    have e1 : M' 88 (c : Int).toNat = (len : Int) := by rw [hf 88 (by decide), Int.toNat_natCast, el]
    have e13 : M' 53 13 = (t : Int) := by rw [hf 53 (by decide)]; exact ht
    refine qs_use (zs := [(i : Int), (len : Int), (t : Int)]) (List.all_eq_true.mp jw3_c c (List.mem_range.mpr hc6)) hL hm (qs_in (show 0 ≤ (i : Int) ∧ (i : Int) ≤ 59 by omega) (qs_rd (show 0 ≤ (c : Int) by omega) e1 (show 0 ≤ (len : Int) ∧ (len : Int) ≤ 60 by omega) (qs_lt (show (i : Int) < (len : Int) by omega) (qs_rd (show (0 : Int) ≤ 13 by decide) e13 (show 0 ≤ (t : Int) ∧ (t : Int) ≤ 29 by omega) (qs_fin rfl))))) (Nat.le_refl _) rfl rfl (qs_c (fun u1 N1 hN1 hc hM => ?_) (qs_c (fun u1 N1 hN1 hc hM => ?_) qs_z))
    · obtain ⟨c1, c2, -⟩ := hc
      have c1 : 30 ≤ u1 ∧ u1 ≤ 88 := c1
      have c2 : u1 = sx_mf 0 (t : Int) (i : Int) := c2
      have fN1 : ∀ a, a < 128 → N1 a = M' a := hM
      rw [mf_add (by omega) (by omega)] at c2
      have e0 : fu (M 77) (fun i => M 89 (60 * c + i)) t (m + 1) i = (i : Int) := if_pos (by omega)
      rw [e0]
      exact ⟨rfl, hN1, fun a ha => (fN1 a ha).trans (hf a ha)⟩
    · obtain ⟨c1, c2, -⟩ := hc
      have c1 : 0 ≤ u1 ∧ u1 ≤ 29 := c1
      have c2 : u1 = sx_mf 0 (t : Int) (i : Int) := c2
      have fN1 : ∀ a, a < 128 → N1 a = M' a := hM
      rw [mf_add (by omega) (by omega)] at c2
      have c2 : u1 = ((t + i : Nat) : Int) := by omega
      subst c2
      have g1 : ∀ a, a < 128 → N1 a = M a := fun a ha => (fN1 a ha).trans (hf a ha)
      have hb := hE i (by omega)
      have w77 : sx_w sx_r32 (M 77 (t + i)) := hm0 77 _ _ _ rfl (by show t + i < 30; omega) rfl
      have w89 : sx_w sx_r64 (M 89 (60 * c + i)) := og_w64 (by omega) (by omega)
      have eI : ((i : Int) + 60 * (c : Int)).toNat = 60 * c + i := by omega
      have e64 := mf_64 (z := M 89 (60 * c + i)) (by omega)
      -- the comparison
      have last : ∀ N : Nat → Nat → Int, sx_mok cl_ly N → (∀ a, a < 128 → N a = M a) → ∀ v : Int, sx_w sx_r32 v → v = fu_d (M 77 (t + i)) → rz_fin (fun r N => r = some (.int (Int32.ofInt (fu (M 77) (fun i => M 89 (60 * c + i)) t (m + 1) i))) ∧ sx_mok cl_ly N ∧ ∀ a, a < 128 → N a = M a) L xs 235 21 69 [(0, .ref 53), (1, .int (Int32.ofInt (c : Int))), (2, .int (Int32.ofInt (i : Int))), (3, .int (Int32.ofInt v))] [.int (Int32.ofInt v), .int (Int32.ofInt (M 89 (60 * c + i)))] N := fun N hN f v wv ev => by
        have wz : sx_w sx_r32 (M 89 (60 * c + i)) := og_w32 (by omega) (by omega)
        refine qs_use (zs := [(i : Int), M 89 (60 * c + i), v]) (List.all_eq_true.mp jw6_c c (List.mem_range.mpr hc6)) hL hN (qs_in (show 0 ≤ (i : Int) ∧ (i : Int) ≤ 59 by omega) (qs_iw wz (qs_iw wv (qs_fin rfl)))) (Nat.le_refl _) rfl rfl (qs_c (fun N3 hN3 hc hM => ?_) (qs_c (fun N3 hN3 hc hM => ?_) qs_z))
        · obtain ⟨c1, -⟩ := hc
          have c1 : M 89 (60 * c + i) = v := c1
          have fN3 : ∀ a, a < 128 → N3 a = N a := hM
          have e0 : fu (M 77) (fun i => M 89 (60 * c + i)) t (m + 1) i = fu (M 77) (fun i => M 89 (60 * c + i)) t m (i + 1) := by
            show (if 29 < t + i then (i : Int) else if M 89 (60 * c + i) = fu_d (M 77 (t + i)) then fu (M 77) (fun i => M 89 (60 * c + i)) t m (i + 1) else (i : Int)) = _
            rw [if_neg (by omega), if_pos (by omega)]
          rw [e0]
          exact ih (i + 1) N3 (by omega) hN3 (fun a ha => (fN3 a ha).trans (f a ha))
        · obtain ⟨c1, -⟩ := hc
          have c1 : ¬ M 89 (60 * c + i) = v := c1
          have fN3 : ∀ a, a < 128 → N3 a = N a := hM
          have e0 : fu (M 77) (fun i => M 89 (60 * c + i)) t (m + 1) i = (i : Int) := by
            show (if 29 < t + i then (i : Int) else if M 89 (60 * c + i) = fu_d (M 77 (t + i)) then fu (M 77) (fun i => M 89 (60 * c + i)) t m (i + 1) else (i : Int)) = _
            rw [if_neg (by omega), if_neg (by omega)]
          rw [e0]
          exact ⟨rfl, hN3, fun a ha => (fN3 a ha).trans (f a ha)⟩
      have r77 : ∀ N : Nat → Nat → Int, (∀ a, a < 128 → N a = M a) → N 77 (t + i) = M 77 (t + i) := fun N f => by rw [f 77 (by decide)]
      have r89 : ∀ N : Nat → Nat → Int, (∀ a, a < 128 → N a = M a) → N 89 (qs_add (i : Int) (60 * (c : Int))).toNat = M 89 (60 * c + i) := fun N f => by rw [f 89 (by decide), qs_add_eq, eI]
      show rz_fin _ L xs 235 21 41 [(0, .ref 53), (1, .int (Int32.ofInt (c : Int))), (2, .int (Int32.ofInt (i : Int)))] [.int (Int32.ofInt ((t + i : Nat) : Int)), .ref 77] N1
      refine qs_use (zs := [(i : Int), ((t + i : Nat) : Int), M 77 (t + i), (t : Int), M 89 (60 * c + i)]) (List.all_eq_true.mp jw4_c c (List.mem_range.mpr hc6)) hL hN1 (qs_in (show 0 ≤ (i : Int) ∧ (i : Int) ≤ 59 by omega) (qs_in (show 0 ≤ ((t + i : Nat) : Int) ∧ ((t + i : Nat) : Int) ≤ 29 by omega) (qs_rd (show 0 ≤ ((t + i : Nat) : Int) by omega) (r77 N1 g1) w77 (qs_rd (show (0 : Int) ≤ 13 by decide) (by rw [g1 53 (by decide)]; exact ht) (show 0 ≤ (t : Int) ∧ (t : Int) ≤ 29 by omega) (qs_rd (by show 0 ≤ qs_add (i : Int) (60 * (c : Int)); rw [qs_add_eq]; omega) (r89 N1 g1) w89 (qs_fin rfl)))))) (Nat.le_refl _) rfl rfl (qs_c (fun u1 N2 hN2 hc hM => ?_) (qs_c (fun u1 N2 hN2 hc hM => ?_) qs_z))
      · obtain ⟨c1, c2, -⟩ := hc
        have c1 : -2147483648 ≤ M 77 (t + i) ∧ M 77 (t + i) ≤ -1 := c1
        have c2 : u1 = sx_mf 64 (M 89 (60 * c + i)) 0 := c2
        have fN2 : ∀ a, a < 128 → N2 a = N1 a := hM
        rw [e64] at c2
        subst c2
        exact last N2 hN2 (fun a ha => (fN2 a ha).trans (g1 a ha)) 6 (og_w32 (by decide) (by decide)) (if_pos (by omega)).symm
      · obtain ⟨c1, c2, c3, -⟩ := hc
        have c1 : 0 ≤ M 77 (t + i) ∧ M 77 (t + i) ≤ 2147483647 := c1
        have c2 : 0 ≤ u1 ∧ u1 ≤ 88 := c2
        have c3 : u1 = sx_mf 0 (t : Int) (i : Int) := c3
        have fN2 : ∀ a, a < 128 → N2 a = N1 a := hM
        rw [mf_add (by omega) (by omega)] at c3
        have c3 : u1 = ((t + i : Nat) : Int) := by omega
        subst c3
        have g2 : ∀ a, a < 128 → N2 a = M a := fun a ha => (fN2 a ha).trans (g1 a ha)
        refine qs_use (zs := [(i : Int), ((t + i : Nat) : Int), M 77 (t + i), M 89 (60 * c + i)]) (List.all_eq_true.mp jw5_c c (List.mem_range.mpr hc6)) hL hN2 (qs_in (show 0 ≤ (i : Int) ∧ (i : Int) ≤ 59 by omega) (qs_in (show 0 ≤ ((t + i : Nat) : Int) ∧ ((t + i : Nat) : Int) ≤ 29 by omega) (qs_rd (show 0 ≤ ((t + i : Nat) : Int) by omega) (r77 N2 g2) w77 (qs_rd (by show 0 ≤ qs_add (i : Int) (60 * (c : Int)); rw [qs_add_eq]; omega) (r89 N2 g2) w89 (qs_fin rfl))))) (Nat.le_refl _) rfl rfl (qs_c (fun u1 N3 hN3 hc hM => ?_) qs_z)
        have d1 : u1 = sx_mf 64 (M 89 (60 * c + i)) 0 := hc.1
        have f3 : ∀ a, a < 128 → N3 a = N2 a := hM
        rw [e64] at d1
        subst d1
        exact last N3 hN3 (fun a ha => (f3 a ha).trans (g2 a ha)) (M 77 (t + i)) w77 (if_neg (by omega)).symm
theorem jw_y {len : Nat} (hL : L < 2 ^ 31) (hm : sx_mok cl_ly M) (hw : WF M) (hR : vu_R M) (hH : M 53 1 = (H : Int)) (hn : M 53 8 = (nc : Int)) (hc6 : c < 6) (ht : M 53 13 = (t : Int)) (h29 : t ≤ 29) (el : M 88 c = (len : Int)) (hE : ∀ i : Nat, i < len → -128 ≤ M 89 (60 * c + i) ∧ M 89 (60 * c + i) ≤ 127) : rz_fin (fun r N => ∃ Y, my_Q M H none Y ∧ ms_F Y N ∧ sx_mok cl_ly N ∧ r = some (.int (Int32.ofInt (fu (vj Y nc t) (fun i => M 89 (60 * c + i)) t len 0)))) L xs 235 21 0 [(0, .ref 53), (1, .int (Int32.ofInt (c : Int)))] [] M := by
  have h60 : 0 ≤ M 88 c ∧ M 88 c ≤ 60 := hm 88 _ c _ rfl hc6 rfl
  refine qs_use (zs := []) (List.all_eq_true.mp jw1_c c (List.mem_range.mpr hc6)) hL hm (qs_fin rfl) (Nat.le_refl _) rfl rfl (qs_c (fun N1 hN1 hc hM => ?_) qs_z)
  have f1 : ∀ a, a < 128 → N1 a = M a := hM
  obtain ⟨w1, r1⟩ := wr_same hw hR f1
  have o53 : N1 53 = M 53 := f1 53 (by decide)
  show rz_fin _ L xs 235 21 3 [(0, .ref 53), (1, .int (Int32.ofInt (c : Int)))] [.int (Int32.ofInt 29), .ref 53] N1
  refine qs_vc (k := 190) (b := 53) (d := 20) (d' := 20) (rest := []) rfl rfl rfl rfl rfl rfl rfl rfl (Nat.le_refl _) rfl (rz_d (by decide) (mt_goto (xs := xs) (H := H) (nc := nc) (t := t) (k := 30 - t) (e := 29) hL hN1 (by decide) w1 r1 (by rw [o53]; exact hH) (by rw [o53]; exact hn) (by rw [o53]; exact ht) (by omega))) (fun r9 N2 hr => ?_)
  obtain ⟨rfl, hN2, Y, hY, wY, rY, F2, P2, O2⟩ := hr
  have hY := my_tr f1 hY
  have z : ∀ a, a = 88 ∨ a = 89 → N2 a = M a := fun a q => by rw [F2.1 a (by omega) (by omega) (by omega) (by omega) (by omega), hY.2.2.1 a (by omega) (by omega) (by omega)]
  refine qs_use (zs := []) (List.all_eq_true.mp jw2_c c (List.mem_range.mpr hc6)) hL hN2 (qs_fin rfl) (Nat.le_refl _) rfl rfl (qs_c (fun N3 hN3 hc hM => ?_) qs_z)
  have f3 : ∀ a, a < 128 → N3 a = N2 a := hM
  refine qs_w (jw_loop (xs := xs) (M := N2) (c := c) (t := t) (len := len) hL hN2 hc6 (by rw [F2.2 13 (by decide), hY.2.2.2.1 13 (by decide) (by decide)]; exact ht) h29 (by rw [z 88 (by decide)]; exact el) (by omega) (by rw [z 89 (by decide)]; exact hE) len 0 N3 (by omega) hN3 f3) (fun r N g => ?_)
  obtain ⟨rfl, hN, fN⟩ := g
  refine ⟨Y, hY, ms_Fr F2 fN, hN, ?_⟩
  rw [z 89 (by decide), fu_eq (g' := N2 77) (g := vj Y nc t) (E' := fun i => M 89 (60 * c + i)) (E := fun i => M 89 (60 * c + i)) len 0 (fun d h1 h2 => ?_) (fun _ _ _ => rfl)]
  have o := (O2 (d - t) (by omega)).2
  rw [show t + (d - t) = d by omega] at o
  exact o
end
