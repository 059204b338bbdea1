/-! How many days of twelve: the reference. -/
section
variable {L : Nat} {xs : Nat → Int32} {M M' N N' : Nat → Nat → Int} {k n t h : Nat} {f f' : Nat → Int}
def bd1_i : List qs_I := [(0, 0, (0, 0), (0, 8)), (1, 53, (0, 13), (0, 29))]
def bd1_T : List og_T := [(none, some (0, 12, 0), [], [], [], [(0, (11, 0), (0, 0), 31, 37), (0, (12, 0), (0, 0), 1, 30), (5, (10, 0), (9, 0), 0, 11), (5, (0, 30), (10, 0), 1, 12)]), (none, some (0, 9, 0), [], [], [], [(0, (11, 0), (0, 0), 0, 30), (5, (10, 0), (9, 0), 0, 11)])]
theorem bd1_c : qs_chk (fun _ => false) bd1_i 2 bd1_T 400 400 3 206 0 [(0, 2, 0, 53), (1, 0, 9, 0)] [] = true := by decide +kernel
def xii1_i : List qs_I := [(0, 0, (0, 0), (0, 8))]
def xii1_T : List og_T := [(some 4, none, [], [(0, 0, 9, 0), (1, 1, 0, 1), (3, 0, 0, 0)], [], [])]
theorem xii1_c : qs_chk (fun pc => Nat.beq pc 4) xii1_i 0 xii1_T 400 400 3 208 0 [(0, 0, 9, 0)] [] = true := by decide +kernel
def xii2_i : List qs_I := [(0, 0, (0, 0), (0, 8)), (0, 0, (0, 0), sx_r64), (0, 0, (0, 0), (0, 8))]
def xii2_T : List og_T := [(some 4, none, [], [(0, 0, 9, 0), (1, 1, 12, 0), (3, 0, 11, 1)], [], [(0, (9, 0), (0, 0), 1, 8), (0, (11, 0), (0, 0), 0, 7), (1, (11, 0), (9, 0), 0, 0), (5, (10, 0), (0, 12), 34, 12)]), (none, some (1, 10, 0), [], [], [], [(2, (11, 0), (9, 0), 0, 0)])]
theorem xii2_c : qs_chk (fun pc => Nat.beq pc 4) xii2_i 1 xii2_T 400 400 3 208 4 [(0, 0, 9, 0), (1, 1, 10, 0), (3, 0, 11, 0)] [] = true := by decide +kernel
def bn1_i : List qs_I := [(0, 0, (0, 0), (0, 5)), (0, 0, (0, 0), (0, 8)), (1, 53, (0, 13), (0, 29))]
def bn1_T : List og_T := [(some 8, none, [], [(0, 2, 0, 53), (1, 0, 9, 0), (2, 0, 10, 0), (3, 1, 0, 1), (5, 0, 11, 0)], [], [])]
theorem bn1_c : qs_chk (fun pc => Nat.beq pc 8) bn1_i 0 bn1_T 400 400 18 207 0 [(0, 2, 0, 53), (1, 0, 9, 0), (2, 0, 10, 0)] [] = true := by decide +kernel
def bn2_i : List qs_I := [(0, 0, (0, 0), (0, 5)), (0, 0, (0, 0), (0, 8)), (0, 0, (0, 0), sx_r64), (0, 0, (0, 0), (0, 30)), (1, 53, (0, 13), (0, 29))]
def bn2_T : List og_T := [(some 16, none, [(0, 14, 0), (0, 12, 0)], [(0, 2, 0, 53), (1, 0, 9, 0), (2, 0, 10, 0), (3, 1, 11, 0), (5, 0, 12, 0)], [], [(0, (14, 0), (0, 0), 0, 37), (5, (13, 0), (10, 0), 0, 14)])]
theorem bn2_c : qs_chk (fun pc => Nat.beq pc 16) bn2_i 1 bn2_T 400 400 18 207 8 [(0, 2, 0, 53), (1, 0, 9, 0), (2, 0, 10, 0), (3, 1, 11, 0), (5, 0, 12, 0)] [] = true := by decide +kernel
def bn5_i : List qs_I := [(0, 0, (0, 0), (0, 5)), (0, 0, (0, 0), (0, 8)), (0, 0, (0, 0), sx_r64), (0, 0, (0, 0), (0, 29)), (0, 0, (0, 0), (0, 37)), (2, 13, (12, 0), (0, 0)), (1, 77, (12, 0), sx_r32), (1, 55, (9, 0), (-1, 143)), (1, 61, (12, 0), (-1, 143))]
def bn5_T : List og_T := [(some 8, none, [], [(0, 2, 0, 53), (1, 0, 9, 0), (2, 0, 10, 0), (3, 1, 17, 0), (5, 0, 12, 1)], [], [(0, (14, 0), (0, 0), 0, 5), (3, (14, 0), (9, 0), 0, 0), (5, (11, 0), (0, 12), 34, 17)]), (some 8, none, [], [(0, 2, 0, 53), (1, 0, 9, 0), (2, 0, 10, 0), (3, 1, 20, 0), (5, 0, 12, 1)], [], [(4, (14, 0), (9, 0), 0, 0), (5, (15, 0), (16, 0), 2, 17), (5, (17, 0), (0, 9), 6, 18), (5, (0, 12), (18, 0), 1, 19), (5, (11, 0), (19, 0), 34, 20)])]
theorem bn5_c : qs_chk (fun pc => Nat.beq pc 8) bn5_i 4 bn5_T 400 400 18 207 16 [(0, 2, 0, 53), (1, 0, 9, 0), (2, 0, 10, 0), (3, 1, 11, 0), (5, 0, 12, 0)] [(0, 13, 0), (0, 12, 0)] = true := by decide +kernel
def bn6_i : List qs_I := [(0, 0, (0, 0), (0, 5)), (0, 0, (0, 0), (0, 8)), (0, 0, (0, 0), sx_r64), (0, 0, (0, 0), (0, 30)), (0, 0, (0, 0), (0, 37)), (3, 13, (12, 0), (0, 0))]
def bn6_T : List og_T := [(some 56, none, [], [(0, 2, 0, 53), (1, 0, 9, 0), (2, 0, 10, 0), (3, 1, 11, 0)], [], [])]
theorem bn6_c : qs_chk (fun pc => Nat.beq pc 56) bn6_i 0 bn6_T 400 400 18 207 16 [(0, 2, 0, 53), (1, 0, 9, 0), (2, 0, 10, 0), (3, 1, 11, 0), (5, 0, 12, 0)] [(0, 13, 0), (0, 12, 0)] = true := by decide +kernel
def bn3_i : List qs_I := [(0, 0, (0, 0), (0, 5)), (0, 0, (0, 0), (0, 8)), (0, 0, (0, 0), sx_r64)]
def bn3_T : List og_T := [(some 57, none, [(0, 10, 0)], [(3, 1, 11, 0)], [], [])]
theorem bn3_c : qs_chk (fun pc => Nat.beq pc 57) bn3_i 0 bn3_T 400 400 18 207 56 [(0, 2, 0, 53), (1, 0, 9, 0), (2, 0, 10, 0), (3, 1, 11, 0)] [] = true := by decide +kernel
def bn4_i : List qs_I := [(0, 0, (0, 0), sx_r64), (0, 0, (0, 0), sx_r64)]
def bn4_T : List og_T := [(none, some (1, 11, 0), [], [], [], [(5, (10, 0), (9, 0), 33, 11)])]
theorem bn4_c : qs_chk (fun _ => false) bn4_i 1 bn4_T 400 400 18 207 60 [(3, 1, 9, 0)] [(1, 10, 0)] = true := by decide +kernel
/-- twelve so many times -/
def xii : Nat → Int
  | 0 => 1
  | k + 1 => sx_mf 34 (xii k) 12
theorem xii_c : ((List.range 9).all fun k => sx_eq (xii k) ((12 ^ k : Nat) : Int)) = true := by decide +kernel
theorem xii_v (hk : k ≤ 8) : xii k = ((12 ^ k : Nat) : Int) := sx_eq_iff.mp (List.all_eq_true.mp xii_c k (List.mem_range.mpr (by omega)))
theorem xii_r (hk : k ≤ 8) : 0 < xii k ∧ xii k < 2 ^ 29 := by
  rw [xii_v hk]
  have h1 : 0 < 12 ^ k := Nat.pow_pos (by decide)
  have h2 : 12 ^ k ≤ 12 ^ 8 := Nat.pow_le_pow_right (by decide) hk
  have h3 : (12 ^ 8 : Nat) < 2 ^ 29 := by decide
  exact ⟨by omega, by omega⟩
theorem xii_w (hk : k ≤ 8) : sx_w sx_r64 (xii k) := by
  have := xii_r hk
  exact og_w64 (by omega) (by omega)
theorem mf_w64 (g : Nat) (hg : 32 ≤ g ∧ g < 64) (x y : Int) : sx_w sx_r64 (sx_mf g x y) := by
  have e : sx_mf g x y = (sx_sem64 (g - 32) (Int64.ofInt x) (Int64.ofInt y)).toInt := by
    unfold sx_mf
    rw [if_neg (by omega), if_pos hg.2]
  rw [e, sx_r64_iff]
  have h1 := Int64.le_toInt (sx_sem64 (g - 32) (Int64.ofInt x) (Int64.ofInt y))
  have h2 := Int64.toInt_lt (sx_sem64 (g - 32) (Int64.ofInt x) (Int64.ofInt y))
  omega
/-- a product, factor by factor -/
def pr (f : Nat → Int) : Nat → Int
  | 0 => 1
  | k + 1 => sx_mf 34 (pr f k) (f k)
theorem pr_w : ∀ k, sx_w sx_r64 (pr f k)
  | 0 => og_w64 (by show (-9223372036854775808 : Int) ≤ 1; decide) (by show (1 : Int) ≤ _; decide)
  | k + 1 => mf_w64 34 ⟨by decide, by decide⟩ _ _
theorem pr_eq : ∀ k, (∀ i, i < k → f' i = f i) → pr f' k = pr f k := by
  intro k
  induction k with
  | zero => intro _; rfl
  | succ k ih =>
    intro h
    show sx_mf 34 (pr f' k) (f' k) = sx_mf 34 (pr f k) (f k)
    rw [ih (fun i hi => h i (by omega)), h k (by omega)]
/-- so many days, to the end -/
def dn (t n : Nat) : Nat := if t + n ≤ 30 then n else 30 - t
theorem dn_r (h : t ≤ 29) (hn : n ≤ 8) : dn t n ≤ 8 ∧ t + dn t n ≤ 30 := by
  unfold dn
  split <;> omega
theorem mf_add {x y : Int} (h1 : -2147483648 ≤ x + y) (h2 : x + y ≤ 2147483647) : sx_mf 0 x y = x + y := by
  show (Int32.ofInt x + Int32.ofInt y).toInt = x + y
  rw [← Int32.ofInt_add, sx_i32 (og_w32 h1 h2)]
theorem mf_sub {x y : Int} (h1 : -2147483648 ≤ x - y) (h2 : x - y ≤ 2147483647) : sx_mf 1 x y = x - y := by
  show (Int32.ofInt x - Int32.ofInt y).toInt = x - y
  rw [← Int32.ofInt_sub, sx_i32 (og_w32 h1 h2)]
theorem bd_y (hL : L < 2 ^ 31) (hm : sx_mok cl_ly M) (ht : M 53 13 = (t : Int)) (h29 : t ≤ 29) (hn : n ≤ 8) : rz_fin (ed_Q M (dn t n : Nat)) L xs 206 3 0 [(0, .ref 53), (1, .int (Int32.ofInt (n : Int)))] [] M := by
  refine qs_use (zs := [(n : Int), (t : Int)]) bd1_c hL hm (qs_in (show 0 ≤ (n : Int) ∧ (n : Int) ≤ 8 by omega) (qs_rd (show (0 : Int) ≤ 13 by decide) ht (show 0 ≤ (t : Int) ∧ (t : Int) ≤ 29 by omega) (qs_fin rfl))) (Nat.le_refl _) rfl rfl (qs_c (fun u1 u2 N hN hc hM => ?_) (qs_c (fun u1 u2 N hN hc hM => ?_) qs_z))
  · obtain ⟨c1, c2, c3, c4, -⟩ := hc
    have c1 : 31 ≤ u1 ∧ u1 ≤ 37 := c1
    have c3 : u1 = sx_mf 0 (t : Int) (n : Int) := c3
    have c4 : u2 = sx_mf 1 30 (t : Int) := c4
    rw [mf_add (by omega) (by omega)] at c3
    rw [mf_sub (by omega) (by omega)] at c4
    have e : ((dn t n : Nat) : Int) = u2 := by
      unfold dn
      rw [if_neg (by omega)]
      omega
    rw [e]
    exact ⟨rfl, hN, hM⟩
  · obtain ⟨c1, c3, -⟩ := hc
    have c1 : 0 ≤ u1 ∧ u1 ≤ 30 := c1
    have c3 : u1 = sx_mf 0 (t : Int) (n : Int) := c3
    rw [mf_add (by omega) (by omega)] at c3
    have e : dn t n = n := if_pos (by omega)
    rw [e]
    exact ⟨rfl, hN, hM⟩
theorem xii_loop (hL : L < 2 ^ 31) (hk : k ≤ 8) : ∀ (m j : Nat) (M' : Nat → Nat → Int), j + m = k → sx_mok cl_ly M' → (∀ c, c < 128 → M' c = M c) → rz_fin (eu_Q M (xii k)) L xs 208 3 4 [(0, .int (Int32.ofInt (k : Int))), (1, .long (Int64.ofInt (xii j))), (3, .int (Int32.ofInt (j : Int)))] [] M' := by
  intro m
  induction m with
  | zero =>
    intro j M' hj hm hf
    have e : j = k := by omega
    subst e
    refine qs_use (zs := [(j : Int), xii j, (j : Int)]) xii2_c hL hm (qs_in (show 0 ≤ (j : Int) ∧ (j : Int) ≤ 8 by omega) (qs_iw (xii_w hk) (qs_in (show 0 ≤ (j : Int) ∧ (j : Int) ≤ 8 by omega) (qs_fin rfl)))) (Nat.le_refl _) rfl rfl (qs_c (fun u1 N hN hc hM => ?_) (qs_c (fun u1 N hN hc hM => ?_) qs_z))
    · exfalso
      have c3 : (j : Int) < (j : Int) := hc.2.2.1
      omega
    · exact ⟨rfl, hN, fun c h => ((show ∀ c, c < 128 → N c = M' c from hM) c h).trans (hf c h)⟩
  | succ m ih =>
    intro j M' hj hm hf
    refine qs_use (zs := [(k : Int), xii j, (j : Int)]) xii2_c hL hm (qs_in (show 0 ≤ (k : Int) ∧ (k : Int) ≤ 8 by omega) (qs_iw (xii_w (by omega)) (qs_in (show 0 ≤ (j : Int) ∧ (j : Int) ≤ 8 by omega) (qs_fin rfl)))) (Nat.le_refl _) rfl rfl (qs_c (fun u1 N hN hc hM => ?_) (qs_c (fun u1 N hN hc hM => ?_) qs_z))
    · have c4 : u1 = sx_mf 34 (xii j) 12 := hc.2.2.2.1
      have c4 : u1 = xii (j + 1) := c4
      subst c4
      exact ih (j + 1) N (by omega) hN (fun c h => ((show ∀ c, c < 128 → N c = M' c from hM) c h).trans (hf c h))
    · exfalso
      have c3 : ¬ (j : Int) < (k : Int) := hc.1
      omega
theorem xii_y (hL : L < 2 ^ 31) (hm : sx_mok cl_ly M) (hk : k ≤ 8) : rz_fin (eu_Q M (xii k)) L xs 208 3 0 [(0, .int (Int32.ofInt (k : Int)))] [] M := by
  refine qs_use (zs := [(k : Int)]) xii1_c hL hm (qs_in (show 0 ≤ (k : Int) ∧ (k : Int) ≤ 8 by omega) (qs_fin rfl)) (Nat.le_refl _) rfl rfl (qs_c (fun N hN hc hM => ?_) qs_z)
  exact xii_loop (xs := xs) hL hk k 0 N (by omega) hN hM
/-- a factor: the house is visited, or burns as the odds are -/
def bk (R D V : Nat → Int) (h d : Nat) : Int := if V d = (h : Int) then 12 else sx_mf 1 12 (sx_mf 6 (sx_mf 2 (R h) (D d)) 9)
theorem bn_loop (hL : L < 2 ^ 31) (hm0 : sx_mok cl_ly M) (ht : M 53 13 = (t : Int)) (h29 : t ≤ 29) (hk : k ≤ 8) (hk2 : t + k ≤ 30) (hh : h < 6) : ∀ (m j : Nat) (M' : Nat → Nat → Int), j + m = k → sx_mok cl_ly M' → (∀ c, c < 128 → M' c = M c) → rz_fin (eu_Q M (sx_mf 33 (xii k) (pr (fun i => bk (M 55) (M 61) (M 77) h (t + i)) k))) L xs 207 18 8 [(0, .ref 53), (1, .int (Int32.ofInt (h : Int))), (2, .int (Int32.ofInt (k : Int))), (3, .long (Int64.ofInt (pr (fun i => bk (M 55) (M 61) (M 77) h (t + i)) j))), (5, .int (Int32.ofInt ((t + j : Nat) : Int)))] [] M' := by
  -- the end
  have fin : ∀ N : Nat → Nat → Int, sx_mok cl_ly N → (∀ c, c < 128 → N c = M c) → rz_fin (eu_Q M (sx_mf 33 (xii k) (pr (fun i => bk (M 55) (M 61) (M 77) h (t + i)) k))) L xs 207 18 56 [(0, .ref 53), (1, .int (Int32.ofInt (h : Int))), (2, .int (Int32.ofInt (k : Int))), (3, .long (Int64.ofInt (pr (fun i => bk (M 55) (M 61) (M 77) h (t + i)) k)))] [] N := fun N hN f => by
    refine qs_use (zs := [(h : Int), (k : Int), pr (fun i => bk (M 55) (M 61) (M 77) h (t + i)) k]) bn3_c hL hN (qs_in (show 0 ≤ (h : Int) ∧ (h : Int) ≤ 5 by omega) (qs_in (show 0 ≤ (k : Int) ∧ (k : Int) ≤ 8 by omega) (qs_iw (pr_w k) (qs_fin rfl)))) (Nat.le_refl _) rfl rfl (qs_c (fun K hK hc hM => ?_) qs_z)
    show rz_fin _ L xs 207 18 57 [(3, .long (Int64.ofInt (pr (fun i => bk (M 55) (M 61) (M 77) h (t + i)) k)))] [.int (Int32.ofInt (k : Int))] K
    refine qs_sc (k := 208) (d := 17) (d' := 17) (as := [.int (Int32.ofInt (k : Int))]) (rest := []) rfl rfl rfl rfl rfl rfl rfl (Nat.le_refl _) rfl (rz_d (by decide) (xii_y (xs := xs) hL hK hk)) (fun r9 K1 hr9 => ?_)
    obtain ⟨rfl, hm1, f1⟩ := hr9
    refine qs_use (zs := [pr (fun i => bk (M 55) (M 61) (M 77) h (t + i)) k, xii k]) bn4_c hL hm1 (qs_iw (pr_w k) (qs_iw (xii_w hk) (qs_fin rfl))) (Nat.le_refl _) rfl rfl (qs_c (fun u1 K2 hK2 hc hM2 => ?_) qs_z)
    have c1 : u1 = sx_mf 33 (xii k) (pr (fun i => bk (M 55) (M 61) (M 77) h (t + i)) k) := hc.1
    rw [← c1]
    exact ⟨rfl, hK2, fun c q => (((show ∀ c, c < 128 → K2 c = K1 c from hM2) c q).trans (f1 c q)).trans (((show ∀ c, c < 128 → K c = N c from hM) c q).trans (f c q))⟩
  -- the head of the loop
  have head : ∀ (j : Nat) (M' : Nat → Nat → Int), j ≤ k → sx_mok cl_ly M' → (∀ c, c < 128 → M' c = M c) → (∀ N : Nat → Nat → Int, sx_mok cl_ly N → (∀ c, c < 128 → N c = M c) → rz_fin (eu_Q M (sx_mf 33 (xii k) (pr (fun i => bk (M 55) (M 61) (M 77) h (t + i)) k))) L xs 207 18 16 [(0, .ref 53), (1, .int (Int32.ofInt (h : Int))), (2, .int (Int32.ofInt (k : Int))), (3, .long (Int64.ofInt (pr (fun i => bk (M 55) (M 61) (M 77) h (t + i)) j))), (5, .int (Int32.ofInt ((t + j : Nat) : Int)))] [.int (Int32.ofInt ((t + k : Nat) : Int)), .int (Int32.ofInt ((t + j : Nat) : Int))] N) → rz_fin (eu_Q M (sx_mf 33 (xii k) (pr (fun i => bk (M 55) (M 61) (M 77) h (t + i)) k))) L xs 207 18 8 [(0, .ref 53), (1, .int (Int32.ofInt (h : Int))), (2, .int (Int32.ofInt (k : Int))), (3, .long (Int64.ofInt (pr (fun i => bk (M 55) (M 61) (M 77) h (t + i)) j))), (5, .int (Int32.ofInt ((t + j : Nat) : Int)))] [] M' := fun j M' hj hm hf next => by
    refine qs_use (zs := [(h : Int), (k : Int), pr (fun i => bk (M 55) (M 61) (M 77) h (t + i)) j, ((t + j : Nat) : Int), (t : Int)]) bn2_c hL hm (qs_in (show 0 ≤ (h : Int) ∧ (h : Int) ≤ 5 by omega) (qs_in (show 0 ≤ (k : Int) ∧ (k : Int) ≤ 8 by omega) (qs_iw (pr_w j) (qs_in (show 0 ≤ ((t + j : Nat) : Int) ∧ ((t + j : Nat) : Int) ≤ 30 by omega) (qs_rd (show (0 : Int) ≤ 13 by decide) (by rw [hf 53 (by decide)]; exact ht) (show 0 ≤ (t : Int) ∧ (t : Int) ≤ 29 by omega) (qs_fin rfl)))))) (Nat.le_refl _) rfl rfl (qs_c (fun u1 N hN hc hM => ?_) qs_z)
    have c2 : u1 = sx_mf 0 (t : Int) (k : Int) := hc.2.1
    rw [mf_add (by omega) (by omega)] at c2
    have c2 : u1 = ((t + k : Nat) : Int) := by omega
    subst c2
    exact next N hN (fun c q => ((show ∀ c, c < 128 → N c = M' c from hM) c q).trans (hf c q))
  intro m
  induction m with
  | zero =>
    intro j M' hj hm hf
    have e : j = k := by omega
    subst e
    refine head j M' (Nat.le_refl _) hm hf (fun N hN f => ?_)
    refine qs_use (zs := [(h : Int), (j : Int), pr (fun i => bk (M 55) (M 61) (M 77) h (t + i)) j, ((t + j : Nat) : Int), ((t + j : Nat) : Int)]) bn6_c hL hN (qs_in (show 0 ≤ (h : Int) ∧ (h : Int) ≤ 5 by omega) (qs_in (show 0 ≤ (j : Int) ∧ (j : Int) ≤ 8 by omega) (qs_iw (pr_w j) (qs_in (show 0 ≤ ((t + j : Nat) : Int) ∧ ((t + j : Nat) : Int) ≤ 30 by omega) (qs_in (show 0 ≤ ((t + j : Nat) : Int) ∧ ((t + j : Nat) : Int) ≤ 37 by omega) (qs_ge (show ¬ ((t + j : Nat) : Int) < ((t + j : Nat) : Int) by omega) (qs_fin rfl))))))) (Nat.le_refl _) rfl rfl (qs_c (fun K hK hc hM => ?_) qs_z)
    exact fin K hK (fun c q => ((show ∀ c, c < 128 → K c = N c from hM) c q).trans (f c q))
  | succ m ih =>
    intro j M' hj hm hf
    refine head j M' (by omega) hm hf (fun N hN f => ?_)
    have w77 : sx_w sx_r32 (M 77 (t + j)) := hm0 77 _ (t + j) _ rfl (by show t + j < 30; omega) rfl
    have w55 : sx_w (-1, 143) (M 55 h) := hm0 55 _ h _ rfl hh rfl
    have w61 : sx_w (-1, 143) (M 61 (t + j)) := hm0 61 _ (t + j) _ rfl (by show t + j < 30; omega) rfl
    refine qs_use (zs := [(h : Int), (k : Int), pr (fun i => bk (M 55) (M 61) (M 77) h (t + i)) j, ((t + j : Nat) : Int), ((t + k : Nat) : Int), M 77 (t + j), M 55 h, M 61 (t + j)]) bn5_c hL hN (qs_in (show 0 ≤ (h : Int) ∧ (h : Int) ≤ 5 by omega) (qs_in (show 0 ≤ (k : Int) ∧ (k : Int) ≤ 8 by omega) (qs_iw (pr_w j) (qs_in (show 0 ≤ ((t + j : Nat) : Int) ∧ ((t + j : Nat) : Int) ≤ 29 by omega) (qs_in (show 0 ≤ ((t + k : Nat) : Int) ∧ ((t + k : Nat) : Int) ≤ 37 by omega) (qs_lt (show ((t + j : Nat) : Int) < ((t + k : Nat) : Int) by omega) (qs_rd (show 0 ≤ ((t + j : Nat) : Int) by omega) (by rw [f 77 (by decide)]; rfl) w77 (qs_rd (show 0 ≤ (h : Int) by omega) (by rw [f 55 (by decide)]; rfl) w55 (qs_rd (show 0 ≤ ((t + j : Nat) : Int) by omega) (by rw [f 61 (by decide)]; rfl) w61 (qs_fin rfl)))))))))) (Nat.le_refl _) rfl rfl (qs_c (fun u1 u2 u3 u4 K hK hc hM => ?_) (qs_c (fun u1 u2 u3 u4 K hK hc hM => ?_) qs_z))
    · have c2 : M 77 (t + j) = (h : Int) := hc.2.1
      have c3 : u1 = sx_mf 34 (pr (fun i => bk (M 55) (M 61) (M 77) h (t + i)) j) 12 := hc.2.2.1
      have e : pr (fun i => bk (M 55) (M 61) (M 77) h (t + i)) (j + 1) = u1 := by
        rw [c3]
        show sx_mf 34 _ (if M 77 (t + j) = (h : Int) then 12 else _) = _
        rw [if_pos c2]
      have g := ih (j + 1) K (by omega) hK (fun c q => ((show ∀ c, c < 128 → K c = N c from hM) c q).trans (f c q))
      rw [e] at g
      exact g
    · obtain ⟨c2, c3, c4, c5, c6, -⟩ := hc
      have c2 : ¬ M 77 (t + j) = (h : Int) := c2
      have c3 : u1 = sx_mf 2 (M 55 h) (M 61 (t + j)) := c3
      have c4 : u2 = sx_mf 6 u1 9 := c4
      have c5 : u3 = sx_mf 1 12 u2 := c5
      have c6 : u4 = sx_mf 34 (pr (fun i => bk (M 55) (M 61) (M 77) h (t + i)) j) u3 := c6
      have e : pr (fun i => bk (M 55) (M 61) (M 77) h (t + i)) (j + 1) = u4 := by
        rw [c6, c5, c4, c3]
        show sx_mf 34 _ (if M 77 (t + j) = (h : Int) then 12 else _) = _
        rw [if_neg c2]
      have g := ih (j + 1) K (by omega) hK (fun c q => ((show ∀ c, c < 128 → K c = N c from hM) c q).trans (f c q))
      rw [e] at g
      exact g
theorem bn_y (hL : L < 2 ^ 31) (hm : sx_mok cl_ly M) (ht : M 53 13 = (t : Int)) (h29 : t ≤ 29) (hk : k ≤ 8) (hk2 : t + k ≤ 30) (hh : h < 6) : rz_fin (eu_Q M (sx_mf 33 (xii k) (pr (fun i => bk (M 55) (M 61) (M 77) h (t + i)) k))) L xs 207 18 0 [(0, .ref 53), (1, .int (Int32.ofInt (h : Int))), (2, .int (Int32.ofInt (k : Int)))] [] M := by
  refine qs_use (zs := [(h : Int), (k : Int), (t : Int)]) bn1_c hL hm (qs_in (show 0 ≤ (h : Int) ∧ (h : Int) ≤ 5 by omega) (qs_in (show 0 ≤ (k : Int) ∧ (k : Int) ≤ 8 by omega) (qs_rd (show (0 : Int) ≤ 13 by decide) ht (show 0 ≤ (t : Int) ∧ (t : Int) ≤ 29 by omega) (qs_fin rfl)))) (Nat.le_refl _) rfl rfl (qs_c (fun N hN hc hM => ?_) qs_z)
  exact bn_loop (xs := xs) hL hm ht h29 hk hk2 hh k 0 N (by omega) hN hM
end
