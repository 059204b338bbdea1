/-! drawn: the class. -/
section
variable {L : Nat} {xs : Nat → Int32} {M M' N N' X : Nat → Nat → Int} {t nc H : Nat} {z : Int}
def da1_i : List qs_I := [(0, 0, (0, 0), sx_r32), (0, 0, (0, 0), sx_r32), (0, 0, (0, 0), sx_r32), (1, 9, (0, 4), (0, 6))]
def da1_T : List og_T := [(none, some (0, 0, -1), [], [], [], [(0, (10, 0), (0, 0), -2147483648, 0)]), (none, some (0, 0, -1), [], [], [], [(0, (10, 0), (0, 0), 31, 2147483647)]), (none, some (0, 0, -1), [], [], [], [(0, (10, 0), (0, 0), 1, 30), (0, (11, 0), (0, 0), -2147483648, -2)]), (some 43, none, [], [(0, 2, 0, 8), (1, 0, 9, 0), (2, 0, 10, 0), (3, 0, 11, 0), (4, 0, 0, 0), (5, 0, 0, 0)], [(21, (0, 7), (9, 0))], [(0, (10, 0), (0, 0), 1, 30), (0, (11, 0), (0, 0), -1, 5), (1, (11, 0), (12, 0), 0, 0)]), (none, some (0, 0, -1), [], [], [], [(0, (10, 0), (0, 0), 1, 30), (0, (11, 0), (0, 0), 0, 2147483647), (2, (11, 0), (12, 0), 0, 0)])]
theorem da1_c : qs_chk (fun pc => Nat.beq pc 43) da1_i 0 da1_T 400 400 22 110 0 [(0, 2, 0, 8), (1, 0, 9, 0), (2, 0, 10, 0), (3, 0, 11, 0)] [] = true := by decide +kernel
def da2_i : List qs_I := [(0, 0, (0, 0), sx_r32), (0, 0, (0, 0), (1, 30)), (0, 0, (0, 0), (-1, 5)), (0, 0, (0, 0), (0, 5400)), (0, 0, (0, 0), (0, 30)), (2, 10, (13, 0), (0, 0))]
def da2_T : List og_T := [(some 53, none, [(2, 0, 21)], [(0, 2, 0, 8), (1, 0, 9, 0), (2, 0, 10, 0), (3, 0, 11, 0), (4, 0, 12, 0), (5, 0, 13, 0)], [], [])]
theorem da2_c : qs_chk (fun pc => Nat.beq pc 53) da2_i 0 da2_T 400 400 22 110 43 [(0, 2, 0, 8), (1, 0, 9, 0), (2, 0, 10, 0), (3, 0, 11, 0), (4, 0, 12, 0), (5, 0, 13, 0)] [] = true := by decide +kernel
def da3_i : List qs_I := [(0, 0, (0, 0), sx_r32), (0, 0, (0, 0), (1, 30)), (0, 0, (0, 0), (-1, 5)), (0, 0, (0, 0), (0, 5400)), (0, 0, (0, 0), (0, 30)), (3, 10, (13, 0), (0, 0))]
def da3_T : List og_T := [(none, some (0, 12, 0), [], [], [], [])]
theorem da3_c : qs_chk (fun pc => Nat.beq pc 53) da3_i 0 da3_T 400 400 22 110 43 [(0, 2, 0, 8), (1, 0, 9, 0), (2, 0, 10, 0), (3, 0, 11, 0), (4, 0, 12, 0), (5, 0, 13, 0)] [] = true := by decide +kernel
def da4_i : List qs_I := [(0, 0, (0, 0), sx_r32), (0, 0, (0, 0), (1, 30)), (0, 0, (0, 0), (-1, 5)), (0, 0, (0, 0), (0, 5400)), (0, 0, (0, 0), (0, 30)), (0, 0, (0, 0), (0, 63))]
def da4_T : List og_T := [(some 66, none, [(0, 14, 0), (0, 12, 0)], [(0, 2, 0, 8), (1, 0, 9, 0), (2, 0, 10, 0), (3, 0, 11, 0), (4, 0, 12, 0), (5, 0, 13, 0)], [], [(0, (11, 0), (0, 0), -1, -1)]), (some 43, none, [], [(0, 2, 0, 8), (1, 0, 9, 0), (2, 0, 10, 0), (3, 0, 11, 0), (4, 0, 17, 0), (5, 0, 13, 1)], [], [(0, (11, 0), (0, 0), 0, 5), (5, (14, 0), (11, 0), 10, 15), (5, (15, 0), (0, 1), 3, 16), (5, (12, 0), (16, 0), 0, 17)])]
theorem da4_c : qs_chk (fun pc => bif Nat.beq pc 43 then true else Nat.beq pc 66) da4_i 3 da4_T 400 400 22 110 56 [(0, 2, 0, 8), (1, 0, 9, 0), (2, 0, 10, 0), (3, 0, 11, 0), (4, 0, 12, 0), (5, 0, 13, 0)] [(0, 14, 0)] = true := by decide +kernel
def da5_i : List qs_I := [(0, 0, (0, 0), sx_r32), (0, 0, (0, 0), (1, 30)), (0, 0, (0, 0), (-1, 5)), (0, 0, (0, 0), (0, 5400)), (0, 0, (0, 0), (0, 30)), (0, 0, (0, 0), (0, 10))]
def da5_T : List og_T := [(some 43, none, [], [(0, 2, 0, 8), (1, 0, 9, 0), (2, 0, 10, 0), (3, 0, 11, 0), (4, 0, 15, 0), (5, 0, 13, 1)], [], [(0, (15, 0), (0, 0), 0, 5410), (5, (12, 0), (14, 0), 0, 15)])]
theorem da5_c : qs_chk (fun pc => Nat.beq pc 43) da5_i 1 da5_T 400 400 22 110 69 [(0, 2, 0, 8), (1, 0, 9, 0), (2, 0, 10, 0), (3, 0, 11, 0), (4, 0, 12, 0), (5, 0, 13, 0)] [(0, 14, 0), (0, 12, 0)] = true := by decide +kernel
/-- seasons: what is lost, all together -/
def dtot (f : Int → Nat × Int) (g : Nat → Nat) : Nat → Int → Nat → Nat
  | 0, _, a => a
  | k + 1, z, a => dtot f g k (f z).2 (a + g (f z).1)
theorem dtot_eq {f f' : Int → Nat × Int} {g : Nat → Nat} (h : ∀ z, f' z = f z) : ∀ (k : Nat) (z : Int) (a : Nat), dtot f' g k z a = dtot f g k z a := by
  have e : f' = f := funext h
  rw [e]
  exact fun _ _ _ => rfl
theorem dtot_le {f : Int → Nat × Int} {g : Nat → Nat} (h : ∀ x, g x ≤ 10) : ∀ (k : Nat) (z : Int) (a : Nat), dtot f g k z a ≤ a + 10 * k := by
  intro k
  induction k with
  | zero => intro z a; exact Nat.le_refl _
  | succ k ih =>
    intro z a
    have h1 := ih (f z).2 (a + g (f z).1)
    have h2 := h (f z).1
    show dtot f g k (f z).2 (a + g (f z).1) ≤ _
    omega
/-- whose: all, or one house's -/
def dhb (y : Int) (x : Nat) : Nat := if y < 0 then pcn x 10 else x / 2 ^ y.toNat % 2
theorem dhb_le {y : Int} {x : Nat} : dhb y x ≤ 10 := by
  unfold dhb
  split
  · exact pcn_le 10
  · have := Nat.mod_lt (x / 2 ^ y.toNat) (show 0 < 2 by decide)
    omega
theorem da_loop {n0 : Nat} {s w y : Int} (hL : L < 2 ^ 31) (hw : WF M) (hR : vu_R M) (hA : fs_A M nc H) (h4 : M 9 4 = (H : Int)) (hn0 : M 9 6 = (n0 : Int)) (hn64 : n0 < 64) (ht : M 10 210 = (t : Int)) (h29 : t ≤ 29) (ws : sx_w sx_r32 s) (hw1 : 1 ≤ w ∧ w ≤ 30) (hy : -1 ≤ y ∧ y ≤ 5) : ∀ (k i a : Nat) (z : Int) (M' : Nat → Nat → Int), (i : Int) + (k : Int) = w → a ≤ 10 * i → sx_w sx_r32 z → sx_mok cl_ly M' → fs_x M M' → M' 21 7 = z → rz_fin (fun r N => r = some (.int (Int32.ofInt ((dtot (fun z => (n0 - (dws (vs_D M) (M 11) (vs_lk M) nc H (fun h d => sx_mf 6 (sx_mf 2 (M 10 (30 + h)) (M 10 (150 + d))) 9) (30 - t) t n0 (M 9 7, M 12) z).1, (dws (vs_D M) (M 11) (vs_lk M) nc H (fun h d => sx_mf 6 (sx_mf 2 (M 10 (30 + h)) (M 10 (150 + d))) 9) (30 - t) t n0 (M 9 7, M 12) z).2)) (dhb y) k z a : Nat) : Int))) ∧ sx_mok cl_ly N ∧ fs_x M N) L xs 110 22 43 [(0, .ref 8), (1, .int (Int32.ofInt s)), (2, .int (Int32.ofInt w)), (3, .int (Int32.ofInt y)), (4, .int (Int32.ofInt (a : Int))), (5, .int (Int32.ofInt (i : Int)))] [] M' := by
  obtain ⟨⟨a1, a2, a3, a4, a5⟩, b1, -⟩ := id hA
  intro k
  induction k with
  | zero =>
    intro i a z M' hi ha wz hm x h7
    refine qs_use (zs := [s, w, y, (a : Int), (i : Int)]) da3_c hL hm (qs_iw ws (qs_in hw1 (qs_in hy (qs_in (show 0 ≤ (a : Int) ∧ (a : Int) ≤ 5400 by omega) (qs_in (show 0 ≤ (i : Int) ∧ (i : Int) ≤ 30 by omega) (qs_ge (show ¬ (i : Int) < w by omega) (qs_fin rfl))))))) (Nat.le_refl _) rfl rfl (qs_c (fun K hK hc hM => ?_) qs_z)
    have fK : ∀ a, a < 128 → K a = M' a := hM
    exact ⟨rfl, hK, fun a ha q => (fK a ha).trans (x a ha q)⟩
  | succ k ih =>
    intro i a z M' hi ha wz hm x h7
    refine qs_use (zs := [s, w, y, (a : Int), (i : Int)]) da2_c hL hm (qs_iw ws (qs_in hw1 (qs_in hy (qs_in (show 0 ≤ (a : Int) ∧ (a : Int) ≤ 5400 by omega) (qs_in (show 0 ≤ (i : Int) ∧ (i : Int) ≤ 30 by omega) (qs_lt (show (i : Int) < w by omega) (qs_fin rfl))))))) (Nat.le_refl _) rfl rfl (qs_c (fun K hK hc hM => ?_) qs_z)
    have fK : ∀ a, a < 128 → K a = M' a := hM
    have xK : fs_x M K := fun a ha q => (fK a ha).trans (x a ha q)
    show rz_fin _ L xs 110 22 53 [(0, .ref 8), (1, .int (Int32.ofInt s)), (2, .int (Int32.ofInt w)), (3, .int (Int32.ofInt y)), (4, .int (Int32.ofInt (a : Int))), (5, .int (Int32.ofInt (i : Int)))] [.ref 21] K
    refine qs_vc (k := 111) (b := 21) (d := 21) (d' := 21) (rest := []) rfl rfl rfl rfl rfl rfl rfl rfl (Nat.le_refl _) rfl (sn_s (xs := xs) (M := M) (nc := nc) (H := H) (n0 := n0) (t := t) (z := z) hL hK hw hR a1 a3 h4 a5 hn0 hn64 ht h29 xK (by rw [fK 21 (by decide)]; exact h7) wz) (fun r9 N2 hr => ?_)
    obtain ⟨T, hE, rfl, hN2, x2, z2⟩ := hr
    have eT := dws_eq (D := vs_D M) (D' := vs_D M) (W := M 11) (W' := M 11) (lk := vs_lk M) (lk' := vs_lk M) (nc := nc) (H := H) (od := (fun h d => sx_mf 6 (sx_mf 2 (M 10 (30 + h)) (M 10 (150 + d))) 9)) (od' := (fun h d => sx_mf 6 (sx_mf 2 (M 10 (30 + h)) (M 10 (150 + d))) 9)) (fun c hc => ⟨rfl, rfl, (b1 c hc).2.2.1, (b1 c hc).2.2.2⟩) (fun _ _ _ _ _ => rfl) (fun d h b => (vq_held_r _).2) (fun _ _ _ _ => rfl) (30 - t) t n0 (M 9 7, M 12) T z (by omega) ⟨hE.1, fun h hh => hE.2 h (by omega)⟩
    rw [eT] at z2 ⊢
    have wz2 : sx_w sx_r32 (dws (vs_D M) (M 11) (vs_lk M) nc H (fun h d => sx_mf 6 (sx_mf 2 (M 10 (30 + h)) (M 10 (150 + d))) 9) (30 - t) t n0 (M 9 7, M 12) z).2 := by
      rw [← z2]
      exact cv_ly_ok (g := (21, 7, sx_r32)) hN2 (by decide +kernel)
    have e0 : dtot (fun z => (n0 - (dws (vs_D M) (M 11) (vs_lk M) nc H (fun h d => sx_mf 6 (sx_mf 2 (M 10 (30 + h)) (M 10 (150 + d))) 9) (30 - t) t n0 (M 9 7, M 12) z).1, (dws (vs_D M) (M 11) (vs_lk M) nc H (fun h d => sx_mf 6 (sx_mf 2 (M 10 (30 + h)) (M 10 (150 + d))) 9) (30 - t) t n0 (M 9 7, M 12) z).2)) (dhb y) (k + 1) z a = dtot (fun z => (n0 - (dws (vs_D M) (M 11) (vs_lk M) nc H (fun h d => sx_mf 6 (sx_mf 2 (M 10 (30 + h)) (M 10 (150 + d))) 9) (30 - t) t n0 (M 9 7, M 12) z).1, (dws (vs_D M) (M 11) (vs_lk M) nc H (fun h d => sx_mf 6 (sx_mf 2 (M 10 (30 + h)) (M 10 (150 + d))) 9) (30 - t) t n0 (M 9 7, M 12) z).2)) (dhb y) k (dws (vs_D M) (M 11) (vs_lk M) nc H (fun h d => sx_mf 6 (sx_mf 2 (M 10 (30 + h)) (M 10 (150 + d))) 9) (30 - t) t n0 (M 9 7, M 12) z).2 (a + dhb y (n0 - (dws (vs_D M) (M 11) (vs_lk M) nc H (fun h d => sx_mf 6 (sx_mf 2 (M 10 (30 + h)) (M 10 (150 + d))) 9) (30 - t) t n0 (M 9 7, M 12) z).1)) := rfl
    rw [e0]
    have lost63 : n0 - (dws (vs_D M) (M 11) (vs_lk M) nc H (fun h d => sx_mf 6 (sx_mf 2 (M 10 (30 + h)) (M 10 (150 + d))) 9) (30 - t) t n0 (M 9 7, M 12) z).1 ≤ 63 := by omega
    have gl := dhb_le (y := y) (x := n0 - (dws (vs_D M) (M 11) (vs_lk M) nc H (fun h d => sx_mf 6 (sx_mf 2 (M 10 (30 + h)) (M 10 (150 + d))) 9) (30 - t) t n0 (M 9 7, M 12) z).1)
    have go : ∀ N : Nat → Nat → Int, sx_mok cl_ly N → (∀ a, a < 128 → N a = N2 a) → rz_fin (fun r N => r = some (.int (Int32.ofInt ((dtot (fun z => (n0 - (dws (vs_D M) (M 11) (vs_lk M) nc H (fun h d => sx_mf 6 (sx_mf 2 (M 10 (30 + h)) (M 10 (150 + d))) 9) (30 - t) t n0 (M 9 7, M 12) z).1, (dws (vs_D M) (M 11) (vs_lk M) nc H (fun h d => sx_mf 6 (sx_mf 2 (M 10 (30 + h)) (M 10 (150 + d))) 9) (30 - t) t n0 (M 9 7, M 12) z).2)) (dhb y) k (dws (vs_D M) (M 11) (vs_lk M) nc H (fun h d => sx_mf 6 (sx_mf 2 (M 10 (30 + h)) (M 10 (150 + d))) 9) (30 - t) t n0 (M 9 7, M 12) z).2 (a + dhb y (n0 - (dws (vs_D M) (M 11) (vs_lk M) nc H (fun h d => sx_mf 6 (sx_mf 2 (M 10 (30 + h)) (M 10 (150 + d))) 9) (30 - t) t n0 (M 9 7, M 12) z).1)) : Nat) : Int))) ∧ sx_mok cl_ly N ∧ fs_x M N) L xs 110 22 43 [(0, .ref 8), (1, .int (Int32.ofInt s)), (2, .int (Int32.ofInt w)), (3, .int (Int32.ofInt y)), (4, .int (Int32.ofInt ((a + dhb y (n0 - (dws (vs_D M) (M 11) (vs_lk M) nc H (fun h d => sx_mf 6 (sx_mf 2 (M 10 (30 + h)) (M 10 (150 + d))) 9) (30 - t) t n0 (M 9 7, M 12) z).1) : Nat) : Int))), (5, .int (Int32.ofInt ((i : Int) + 1)))] [] N := fun N hN f =>
      ih (i + 1) (a + dhb y (n0 - (dws (vs_D M) (M 11) (vs_lk M) nc H (fun h d => sx_mf 6 (sx_mf 2 (M 10 (30 + h)) (M 10 (150 + d))) 9) (30 - t) t n0 (M 9 7, M 12) z).1)) _ N (by omega) (by omega) wz2 hN (fun b hb q => (f b hb).trans (x2 b hb q)) (by rw [f 21 (by decide)]; exact z2)
    generalize n0 - (dws (vs_D M) (M 11) (vs_lk M) nc H (fun h d => sx_mf 6 (sx_mf 2 (M 10 (30 + h)) (M 10 (150 + d))) 9) (30 - t) t n0 (M 9 7, M 12) z).1 = b at lost63 gl go ⊢
    have rb : 0 ≤ (b : Int) ∧ (b : Int) ≤ 63 := by omega
    show rz_fin _ L xs 110 22 56 [(0, .ref 8), (1, .int (Int32.ofInt s)), (2, .int (Int32.ofInt w)), (3, .int (Int32.ofInt y)), (4, .int (Int32.ofInt (a : Int))), (5, .int (Int32.ofInt (i : Int)))] [.int (Int32.ofInt (b : Int))] N2
    refine qs_use (zs := [s, w, y, (a : Int), (i : Int), (b : Int)]) da4_c hL hN2 (qs_iw ws (qs_in hw1 (qs_in hy (qs_in (show 0 ≤ (a : Int) ∧ (a : Int) ≤ 5400 by omega) (qs_in (show 0 ≤ (i : Int) ∧ (i : Int) ≤ 30 by omega) (qs_in rb (qs_fin rfl))))))) (Nat.le_refl _) rfl rfl (qs_c (fun u1 u2 u3 N3 hN3 hc hM => ?_) (qs_c (fun u1 u2 u3 N3 hN3 hc hM => ?_) qs_z))
    · obtain ⟨c1, -⟩ := hc
      have c1 : -1 ≤ y ∧ y ≤ -1 := c1
      have fN3 : ∀ a, a < 128 → N3 a = N2 a := hM
      have eg : dhb y b = pcn b 10 := if_pos (by omega)
      have pl := pcn_le (x := b) 10
      show rz_fin _ L xs 110 22 66 [(0, .ref 8), (1, .int (Int32.ofInt s)), (2, .int (Int32.ofInt w)), (3, .int (Int32.ofInt y)), (4, .int (Int32.ofInt (a : Int))), (5, .int (Int32.ofInt (i : Int)))] [.int (Int32.ofInt (b : Int)), .int (Int32.ofInt (a : Int))] N3
      refine qs_sc (k := 93) (d := 21) (d' := 21) (as := [.int (Int32.ofInt (b : Int))]) (rest := [.int (Int32.ofInt (a : Int))]) rfl rfl rfl rfl rfl rfl rfl (Nat.le_refl _) rfl (rz_d (by decide) (bc_x (xs := xs) (n := b) hL hN3 (by omega))) (fun r9 N4 hr => ?_)
      obtain ⟨rfl, hN4, f4⟩ := hr
      refine qs_use (zs := [s, w, y, (a : Int), (i : Int), ((pcn b 10 : Nat) : Int)]) da5_c hL hN4 (qs_iw ws (qs_in hw1 (qs_in hy (qs_in (show 0 ≤ (a : Int) ∧ (a : Int) ≤ 5400 by omega) (qs_in (show 0 ≤ (i : Int) ∧ (i : Int) ≤ 30 by omega) (qs_in (show 0 ≤ ((pcn b 10 : Nat) : Int) ∧ ((pcn b 10 : Nat) : Int) ≤ 10 by omega) (qs_fin rfl))))))) (Nat.le_refl _) rfl rfl (qs_c (fun u1 N5 hN5 hc hM => ?_) qs_z)
      obtain ⟨e1, e2, -⟩ := hc
      have e1 : 0 ≤ u1 ∧ u1 ≤ 5410 := e1
      have e2 : u1 = sx_mf 0 (a : Int) (((pcn b 10 : Nat) : Int)) := e2
      have fN5 : ∀ a, a < 128 → N5 a = N4 a := hM
      rw [mf_add (by omega) (by omega)] at e2
      have e3 : u1 = ((a + dhb y b : Nat) : Int) := by rw [eg]; omega
      subst e3
      exact go N5 hN5 (fun q hq => (fN5 q hq).trans ((f4 q hq).trans (fN3 q hq)))
    · obtain ⟨c1, c2, c3, c4, -⟩ := hc
      have c1 : 0 ≤ y ∧ y ≤ 5 := c1
      have c2 : u1 = sx_mf 10 (b : Int) y := c2
      have c3 : u2 = sx_mf 3 u1 1 := c3
      have c4 : u3 = sx_mf 0 (a : Int) u2 := c4
      have fN3 : ∀ a, a < 128 → N3 a = N2 a := hM
      have e6 : u2 = sx_mf 3 (sx_mf 10 (b : Int) y) 1 := by rw [c3, c2]
      have e7 : u3 = sx_mf 0 (a : Int) u2 := c4
      obtain ⟨h, rfl⟩ := Int.eq_ofNat_of_zero_le (show 0 ≤ y by omega)
      have eg : dhb (h : Int) b = b / 2 ^ h % 2 := by
        unfold dhb
        rw [if_neg (by omega), Int.toNat_natCast]
      have eb := ft_B_ok (n := b) (g := h) (by omega) (by omega)
      have mod2 := Nat.mod_lt (b / 2 ^ h) (show 0 < 2 by decide)
      have e2 : u2 = ((b / 2 ^ h % 2 : Nat) : Int) := by rw [← eb, e6]; rfl
      rw [e2, mf_add (by omega) (by omega)] at e7
      have e3 : u3 = ((a + dhb (h : Int) b : Nat) : Int) := by rw [eg]; omega
      subst e3
      exact go N3 hN3 fN3
def da_ok (w y H : Int) : Prop := 1 ≤ w ∧ w ≤ 30 ∧ -1 ≤ y ∧ y < H
theorem da_x {n0 : Nat} {s w y : Int} (hL : L < 2 ^ 31) (hm : sx_mok cl_ly M) (hw : WF M) (hR : vu_R M) (hA : fs_A M nc H) (h4 : M 9 4 = (H : Int)) (hn0 : M 9 6 = (n0 : Int)) (hn64 : n0 < 64) (ht : M 10 210 = (t : Int)) (h29 : t ≤ 29) (ws : sx_w sx_r32 s) (ww : sx_w sx_r32 w) (wy : sx_w sx_r32 y) : rz_fin (fun r N => sx_mok cl_ly N ∧ fs_x M N ∧ ((¬ da_ok w y (M 9 4) ∧ r = some (.int (Int32.ofInt (-1)))) ∨ (da_ok w y (M 9 4) ∧ r = some (.int (Int32.ofInt ((dtot (fun z => (n0 - (dws (vs_D M) (M 11) (vs_lk M) nc H (fun h d => sx_mf 6 (sx_mf 2 (M 10 (30 + h)) (M 10 (150 + d))) 9) (30 - t) t n0 (M 9 7, M 12) z).1, (dws (vs_D M) (M 11) (vs_lk M) nc H (fun h d => sx_mf 6 (sx_mf 2 (M 10 (30 + h)) (M 10 (150 + d))) 9) (30 - t) t n0 (M 9 7, M 12) z).2)) (dhb y) w.toNat s 0 : Nat) : Int)))))) L xs 110 22 0 [(0, .ref 8), (1, .int (Int32.ofInt s)), (2, .int (Int32.ofInt w)), (3, .int (Int32.ofInt y))] [] M := by
  have hH := cx_fld (c := 9) (k := 4) (lo := 0) (hi := 6) hm (by decide +kernel)
  refine qs_use (zs := [s, w, y, M 9 4]) da1_c hL hm (qs_iw ws (qs_iw ww (qs_iw wy (qs_rd (show (0 : Int) ≤ 4 by decide) rfl hH (qs_fin rfl))))) (Nat.le_refl _) rfl rfl (qs_c (fun K hK hc hM => ?_) (qs_c (fun K hK hc hM => ?_) (qs_c (fun K hK hc hM => ?_) (qs_c (fun K hK hc hM => ?_) (qs_c (fun K hK hc hM => ?_) qs_z)))))
  · obtain ⟨c1, -⟩ := hc
    have c1 : -2147483648 ≤ w ∧ w ≤ 0 := c1
    have fK : ∀ a, a < 128 → K a = M a := hM
    exact ⟨hK, fun a ha _ => fK a ha, Or.inl ⟨fun q => by have := q.1; omega, rfl⟩⟩
  · obtain ⟨c1, -⟩ := hc
    have c1 : 31 ≤ w ∧ w ≤ 2147483647 := c1
    have fK : ∀ a, a < 128 → K a = M a := hM
    exact ⟨hK, fun a ha _ => fK a ha, Or.inl ⟨fun q => by have := q.2.1; omega, rfl⟩⟩
  · obtain ⟨c1, c2, -⟩ := hc
    have c1 : 1 ≤ w ∧ w ≤ 30 := c1
    have c2 : -2147483648 ≤ y ∧ y ≤ -2 := c2
    have fK : ∀ a, a < 128 → K a = M a := hM
    exact ⟨hK, fun a ha _ => fK a ha, Or.inl ⟨fun q => by have := q.2.2.1; omega, rfl⟩⟩
  · obtain ⟨c1, c2, c3, -⟩ := hc
    have c1 : 1 ≤ w ∧ w ≤ 30 := c1
    have c2 : -1 ≤ y ∧ y ≤ 5 := c2
    have c3 : y < M 9 4 := c3
    have fK : ∀ a, a < 128 → K a = sx_up M 21 7 s a := hM
    have ok : da_ok w y (M 9 4) := ⟨c1.1, c1.2, c2.1, c3⟩
    refine qs_w (da_loop (xs := xs) (M := M) (nc := nc) (H := H) (n0 := n0) (t := t) (s := s) (w := w) (y := y) hL hw hR hA h4 hn0 hn64 ht h29 ws c1 c2 w.toNat 0 0 s K (by omega) (Nat.le_refl _) ws hK (fun a ha q => by rw [fK a ha, sh_une (by omega)]) (by rw [fK 21 (by decide), sh_uat])) (fun r N g => ?_)
    obtain ⟨rfl, g2, g3⟩ := g
    exact ⟨g2, g3, Or.inr ⟨ok, rfl⟩⟩
  · obtain ⟨c1, c2, c3, -⟩ := hc
    have c1 : 1 ≤ w ∧ w ≤ 30 := c1
    have c2 : 0 ≤ y ∧ y ≤ 2147483647 := c2
    have c3 : ¬ y < M 9 4 := c3
    have fK : ∀ a, a < 128 → K a = M a := hM
    exact ⟨hK, fun a ha _ => fK a ha, Or.inl ⟨fun q => c3 q.2.2.2, rfl⟩⟩
end
