/-! drawn: both sides. -/
section
variable {L : Nat} {xs : Nat → Int32} {M M' N N' B V X : Nat → Nat → Int} {t nc H n0 : Nat} {s w y z : Int} {f : Int → Nat × Int}
def dz1_i : List qs_I := [(0, 0, (0, 0), sx_r32), (0, 0, (0, 0), sx_r32), (0, 0, (0, 0), sx_r32), (1, 53, (0, 1), (0, 6))]
def dz1_T : List og_T := [(none, some (0, 0, -1), [], [], [], [(0, (10, 0), (0, 0), -2147483648, 0)]), (none, some (0, 0, -1), [], [], [], [(0, (10, 0), (0, 0), 1, 30), (0, (11, 0), (0, 0), -2147483648, -2)]), (some 38, none, [], [(0, 2, 0, 53), (1, 0, 9, 0), (2, 0, 10, 0), (3, 0, 11, 0), (4, 0, 9, 0), (5, 0, 0, 0), (6, 0, 0, 0), (7, 0, 0, 0)], [], [(0, (10, 0), (0, 0), 1, 30), (0, (11, 0), (0, 0), -1, 5), (2, (12, 0), (11, 0), 1, 0)]), (none, some (0, 0, -1), [], [], [], [(0, (10, 0), (0, 0), 1, 30), (0, (11, 0), (0, 0), 0, 2147483647), (1, (12, 0), (11, 0), 1, 0)]), (none, some (0, 0, -1), [], [], [], [(0, (10, 0), (0, 0), 31, 2147483647)])]
theorem dz1_c : qs_chk (fun pc => Nat.beq pc 38) dz1_i 0 dz1_T 400 400 22 239 0 [(0, 2, 0, 53), (1, 0, 9, 0), (2, 0, 10, 0), (3, 0, 11, 0)] [] = true := by decide +kernel
def dz2_i : List qs_I := [(0, 0, (0, 0), sx_r32), (0, 0, (0, 0), (1, 30)), (0, 0, (0, 0), (-1, 5)), (0, 0, (0, 0), sx_r32), (0, 0, (0, 0), (0, 5400)), (0, 0, (0, 0), (0, 5400)), (0, 0, (0, 0), (0, 30)), (2, 10, (15, 0), (0, 0))]
def dz2_T : List og_T := [(some 45, none, [(2, 0, 53)], [(0, 2, 0, 53), (1, 0, 9, 0), (2, 0, 10, 0), (3, 0, 11, 0), (4, 0, 12, 0), (5, 0, 13, 0), (6, 0, 14, 0), (7, 0, 15, 0)], [], [])]
theorem dz2_c : qs_chk (fun pc => Nat.beq pc 45) dz2_i 0 dz2_T 400 400 22 239 38 [(0, 2, 0, 53), (1, 0, 9, 0), (2, 0, 10, 0), (3, 0, 11, 0), (4, 0, 12, 0), (5, 0, 13, 0), (6, 0, 14, 0), (7, 0, 15, 0)] [] = true := by decide +kernel
def dz3_i : List qs_I := [(0, 0, (0, 0), sx_r32), (0, 0, (0, 0), (1, 30)), (0, 0, (0, 0), (-1, 5)), (0, 0, (0, 0), sx_r32), (0, 0, (0, 0), (0, 5400)), (0, 0, (0, 0), (0, 5400)), (0, 0, (0, 0), (0, 30)), (3, 10, (15, 0), (0, 0))]
def dz3_T : List og_T := [(none, some (0, 13, 0), [], [], [], [(0, (11, 0), (0, 0), -1, -1)]), (none, some (0, 14, 0), [], [], [], [(0, (11, 0), (0, 0), 0, 5)])]
theorem dz3_c : qs_chk (fun pc => Nat.beq pc 45) dz3_i 0 dz3_T 400 400 22 239 38 [(0, 2, 0, 53), (1, 0, 9, 0), (2, 0, 10, 0), (3, 0, 11, 0), (4, 0, 12, 0), (5, 0, 13, 0), (6, 0, 14, 0), (7, 0, 15, 0)] [] = true := by decide +kernel
def dz4_i : List qs_I := [(0, 0, (0, 0), sx_r32), (0, 0, (0, 0), (1, 30)), (0, 0, (0, 0), (-1, 5)), (0, 0, (0, 0), sx_r32), (0, 0, (0, 0), (0, 5400)), (0, 0, (0, 0), (0, 5400)), (0, 0, (0, 0), (0, 30)), (1, 53, (0, 13), (0, 29))]
def dz4_T : List og_T := [(some 54, none, [], [(0, 2, 0, 53), (1, 0, 9, 0), (2, 0, 10, 0), (3, 0, 11, 0), (4, 0, 12, 0), (5, 0, 13, 0), (6, 0, 14, 0), (7, 0, 15, 0), (8, 0, 16, 0)], [], [])]
theorem dz4_c : qs_chk (fun pc => Nat.beq pc 54) dz4_i 0 dz4_T 400 400 22 239 48 [(0, 2, 0, 53), (1, 0, 9, 0), (2, 0, 10, 0), (3, 0, 11, 0), (4, 0, 12, 0), (5, 0, 13, 0), (6, 0, 14, 0), (7, 0, 15, 0)] [] = true := by decide +kernel
theorem sy_t (h : sy_F B N) (f : ∀ q, q < 128 → N' q = N q) : sy_F B N' := ⟨fun q hq x1 x2 x3 x4 => (f q hq).trans (h.1 q hq x1 x2 x3 x4), fun j x1 x2 => by rw [f 53 (by decide)]; exact h.2 j x1 x2⟩
theorem sy_tr (h1 : sy_F V B) (h2 : sy_F B N) : sy_F V N := ⟨fun q hq x1 x2 x3 x4 => (h2.1 q hq x1 x2 x3 x4).trans (h1.1 q hq x1 x2 x3 x4), fun j x1 x2 => (h2.2 j x1 x2).trans (h1.2 j x1 x2)⟩
theorem sy_sm (h1 : sy_F V B) (h2 : sy_F V N) : sy_F B N := ⟨fun q hq x1 x2 x3 x4 => (h2.1 q hq x1 x2 x3 x4).trans (h1.1 q hq x1 x2 x3 x4).symm, fun j x1 x2 => (h2.2 j x1 x2).trans (h1.2 j x1 x2).symm⟩
/-- likes, as the reference's days begin -/
theorem dz_lk (hA : fs_A V nc H) (hY : mv V H B) {d h : Nat} (hd : d < 30) (hh : h < 6) (b : Int) : ms_lk B d h b = vs_lk V d h b := by
  obtain ⟨-, b1, b2, b3, -⟩ := hA
  obtain ⟨⟨y55, y56, y57, y59, y60, y61, y33, y67, y68, y69, y70, y71⟩, -⟩ := hY
  obtain ⟨c1, c2, c3, -⟩ := b2 h hh
  have c4 := b3 d hd
  unfold ms_lk vs_lk vq_X vq_Y
  rw [y56, y57, y61, y55, c1, c2, c3, c4]
  exact vq_like_M y33 y69 y67 y68 y70 y71
/-- a season of the class is one of the reference -/
theorem dz_f (hA : fs_A M nc H) (hY : mv M H B) (h29 : t ≤ 29) : (dws (B 60) (B 59) (ms_lk B) nc H (fun h d => sx_mf 6 (sx_mf 2 (B 55 h) (B 61 d)) 9) (30 - t) t n0 (B 53 36, B 75) z) = (dws (vs_D M) (M 11) (vs_lk M) nc H (fun h d => sx_mf 6 (sx_mf 2 (M 10 (30 + h)) (M 10 (150 + d))) 9) (30 - t) t n0 (M 9 7, M 12) z) := by
  have hA0 := hA
  have hY0 := hY
  obtain ⟨⟨a1, a2, a3, a4, a5⟩, b1, b2, b3, b4, b5⟩ := hA
  obtain ⟨⟨y55, -, -, y59, y60, y61, -⟩, y3, y4, y5⟩ := hY
  refine dws_eq (fun c hc => ?_) (fun d h b hd hh => dz_lk hA0 hY0 hd (by omega) b) (fun d h b => (vq_held_r _).2) (fun h d hh hd => ?_) (30 - t) t n0 _ _ z (by omega) ⟨?_, fun h hh => ?_⟩
  · obtain ⟨c1, c2, c3, c4⟩ := b1 c hc
    unfold vs_D
    rw [y60, y59]
    exact ⟨c1, c2, c3, c4⟩
  · show sx_mf 6 (sx_mf 2 (B 55 h) (B 61 d)) 9 = sx_mf 6 (sx_mf 2 (M 10 (30 + h)) (M 10 (150 + d))) 9
    rw [y55, y61, (b2 h (by omega)).2.2.1, b3 d hd, Nat.add_comm h 30, Nat.add_comm d 150]
  · show M 9 7 = B 53 36
    rw [y4, b5]
  · show M 12 h = B 75 h
    rw [y5 h hh]
    exact (b2 h (by omega)).2.2.2
/-- all houses', or one's -/
def dres (y : Int) (A O : Nat) : Nat := if y < 0 then A else O
theorem dres_eq {k : Nat} : dtot f (dhb y) k z 0 = dres y (dtot f (fun x => pcn x 10) k z 0) (dtot f (dho y) k z 0) := by
  unfold dres
  by_cases q : y < 0
  · rw [if_pos q, show dhb y = (fun x => pcn x 10) from funext fun x => if_pos q]
  · rw [if_neg q, show dhb y = dho y from funext fun x => by
      unfold dhb dho
      rw [if_neg q, if_neg q]]
/-- right after the memory is laid -/
theorem dz_mv (hF : sy_F V N) (hB : my_Q N H none B) : sy_F V B ∧ mv V H B := by
  obtain ⟨-, -, b1, b2, b35, b36, b75⟩ := hB
  have FB : sy_F V B := ⟨fun q hq x1 x2 x3 x4 => (b1 q hq x1 (by omega)).trans (hF.1 q hq x1 x2 x3 x4), fun j x1 x2 => (b2 j x1 x2).trans (hF.2 j x1 x2)⟩
  have z : ∀ q, q < 128 → q ≠ 53 → q ≠ 72 → q ≠ 73 → ¬ (75 ≤ q ∧ q ≤ 77) → B q = V q := FB.1
  refine ⟨FB, ⟨z 55 (by decide) (by decide) (by decide) (by decide) (by decide), z 56 (by decide) (by decide) (by decide) (by decide) (by decide), z 57 (by decide) (by decide) (by decide) (by decide) (by decide), z 59 (by decide) (by decide) (by decide) (by decide) (by decide), z 60 (by decide) (by decide) (by decide) (by decide) (by decide), z 61 (by decide) (by decide) (by decide) (by decide) (by decide), FB.2 33 (by decide) (by decide), z 67 (by decide) (by decide) (by decide) (by decide) (by decide), z 68 (by decide) (by decide) (by decide) (by decide) (by decide), by rw [z 69 (by decide) (by decide) (by decide) (by decide) (by decide)], z 70 (by decide) (by decide) (by decide) (by decide) (by decide), z 71 (by decide) (by decide) (by decide) (by decide) (by decide)⟩, ?_, ?_, fun h hh => ?_⟩
  · rw [b35]
    exact hF.2 7 (by decide) (by decide)
  · rw [b36]
    exact hF.2 11 (by decide) (by decide)
  · rw [b75 h, if_pos hh, hF.1 74 (by decide) (by decide) (by decide) (by decide) (by decide)]
/-- a season: from where the memory is laid -/
theorem dz_sea {i a o k : Nat} (hL : L < 2 ^ 31) (hw : WF V) (hR : vu_R V) (h4 : V 53 1 = (H : Int)) (h6 : H ≤ 6) (h8 : V 53 8 = (nc : Int)) (h12 : nc ≤ 12) (hn0 : V 53 7 = (n0 : Int)) (hn64 : n0 < 64) (ht : V 53 13 = (t : Int)) (h29 : t ≤ 29) (ws : sx_w sx_r32 s) (hw1 : 1 ≤ w ∧ w ≤ 30) (hy : -1 ≤ y ∧ y ≤ 5) (hf : ∀ B, mv V H B → ∀ z, (n0 - (dws (B 60) (B 59) (ms_lk B) nc H (fun h d => sx_mf 6 (sx_mf 2 (B 55 h) (B 61 d)) 9) (30 - t) t n0 (B 53 36, B 75) z).1, (dws (B 60) (B 59) (ms_lk B) nc H (fun h d => sx_mf 6 (sx_mf 2 (B 55 h) (B 61 d)) 9) (30 - t) t n0 (B 53 36, B 75) z).2) = f z) (hi : i < 30) (ha : a ≤ 10 * i) (ho : o ≤ 10 * i) (wz : sx_w sx_r32 z) (hmB : sx_mok cl_ly B) (FB : sy_F V B) (mB : mv V H B) (K : ∀ (N : Nat → Nat → Int) (x : Nat) (z' : Int), sx_mok cl_ly N → sy_F B N → sx_w sx_r32 z' → rz_fin (fun r N' => r = some (.int (Int32.ofInt ((dres y (dtot f (fun x => pcn x 10) k z' (a + pcn x 10)) (dtot f (dho y) k z' (o + dho y x)) : Nat) : Int))) ∧ sx_mok cl_ly N' ∧ sy_F B N') L xs 239 22 38 [(0, .ref 53), (1, .int (Int32.ofInt s)), (2, .int (Int32.ofInt w)), (3, .int (Int32.ofInt y)), (4, .int (Int32.ofInt z')), (5, .int (Int32.ofInt ((a + pcn x 10 : Nat) : Int))), (6, .int (Int32.ofInt ((o + dho y x : Nat) : Int))), (7, .int (Int32.ofInt ((i : Int) + 1)))] [] N) : rz_fin (fun r N' => r = some (.int (Int32.ofInt ((dres y (dtot f (fun x => pcn x 10) (k + 1) z a) (dtot f (dho y) (k + 1) z o) : Nat) : Int))) ∧ sx_mok cl_ly N' ∧ sy_F B N') L xs 239 22 48 [(0, .ref 53), (1, .int (Int32.ofInt s)), (2, .int (Int32.ofInt w)), (3, .int (Int32.ofInt y)), (4, .int (Int32.ofInt z)), (5, .int (Int32.ofInt (a : Int))), (6, .int (Int32.ofInt (o : Int))), (7, .int (Int32.ofInt (i : Int)))] [] B := by
  obtain ⟨wB, rB⟩ := wr_ref hw hR (fun q hq => FB.1 q (by omega) (by omega) (by omega) (by omega) (by omega)) (FB.2 33 (by decide) (by decide))
  have b35 : B 53 35 = V 53 7 := mB.2.1
  refine qs_use (zs := [s, w, y, z, (a : Int), (o : Int), (i : Int), (t : Int)]) dz4_c hL hmB (qs_iw ws (qs_in hw1 (qs_in hy (qs_iw wz (qs_in (show 0 ≤ (a : Int) ∧ (a : Int) ≤ 5400 by omega) (qs_in (show 0 ≤ (o : Int) ∧ (o : Int) ≤ 5400 by omega) (qs_in (show 0 ≤ (i : Int) ∧ (i : Int) ≤ 30 by omega) (qs_rd (show (0 : Int) ≤ 13 by decide) (show B 53 13 = (t : Int) by rw [FB.2 13 (by decide) (by decide)]; exact ht) (show 0 ≤ (t : Int) ∧ (t : Int) ≤ 29 by omega) (qs_fin rfl))))))))) (Nat.le_refl _) rfl rfl (qs_c (fun N1 hN1 hc hM => ?_) qs_z)
  have f1 : ∀ q, q < 128 → N1 q = B q := hM
  have hfz := hf B mB z
  have e1 : n0 - (dws (B 60) (B 59) (ms_lk B) nc H (fun h d => sx_mf 6 (sx_mf 2 (B 55 h) (B 61 d)) 9) (30 - t) t n0 (B 53 36, B 75) z).1 = (f z).1 := by rw [← hfz]
  have e2 : (dws (B 60) (B 59) (ms_lk B) nc H (fun h d => sx_mf 6 (sx_mf 2 (B 55 h) (B 61 d)) 9) (30 - t) t n0 (B 53 36, B 75) z).2 = (f z).2 := by rw [← hfz]
  have e0 : dtot f (fun x => pcn x 10) (k + 1) z a = dtot f (fun x => pcn x 10) k (f z).2 (a + pcn (f z).1 10) := rfl
  have e9 : dtot f (dho y) (k + 1) z o = dtot f (dho y) k (f z).2 (o + dho y (f z).1) := rfl
  rw [e0, e9, ← e1, ← e2]
  have zp : pcn (n0 - n0) 10 = 0 := by rw [Nat.sub_self]; decide
  have zo : dho y (n0 - n0) = 0 := by
    rw [Nat.sub_self]
    unfold dho
    split
    · rfl
    · rw [Nat.zero_div]
  show rz_fin _ L xs 239 22 54 [(0, .ref 53), (1, .int (Int32.ofInt s)), (2, .int (Int32.ofInt w)), (3, .int (Int32.ofInt y)), (4, .int (Int32.ofInt z)), (5, .int (Int32.ofInt (a : Int))), (6, .int (Int32.ofInt (o : Int))), (7, .int (Int32.ofInt (i : Int))), (8, .int (Int32.ofInt (t : Int)))] [] N1
  rw [show (a : Int) = ((a + pcn (n0 - n0) 10 : Nat) : Int) by rw [zp, Nat.add_zero], show (o : Int) = ((o + dho y (n0 - n0) : Nat) : Int) by rw [zo, Nat.add_zero]]
  exact dz_days (xs := xs) (B := B) (nc := nc) (H := H) (n0 := n0) (i := i) (a0 := a) (o0 := o) (s := s) (w := w) (y := y) (ZZ := fun x z' => ((dres y (dtot f (fun x => pcn x 10) k z' (a + pcn x 10)) (dtot f (dho y) k z' (o + dho y x)) : Nat) : Int)) hL hmB wB rB (by rw [FB.2 1 (by decide) (by decide)]; exact h4) h6 (by rw [FB.2 8 (by decide) (by decide)]; exact h8) h12 hn64 ws hw1 hy (by omega) (by omega) (by omega) K (30 - t) t n0 (B 53 36, B 75) z N1 (by omega) hn64 (fun g => Nat.le_refl _) wz hN1 ⟨fun q hq _ _ _ _ => f1 q hq, fun j _ _ => by rw [f1 53 (by decide)]⟩ (by rw [f1 53 (by decide), b35]; exact hn0) ⟨by rw [f1 53 (by decide)], fun h => by rw [f1 75 (by decide)]⟩
/-- season by season -/
theorem dz_loop (hL : L < 2 ^ 31) (hw : WF V) (hR : vu_R V) (h4 : V 53 1 = (H : Int)) (h6 : H ≤ 6) (h8 : V 53 8 = (nc : Int)) (h12 : nc ≤ 12) (hn0 : V 53 7 = (n0 : Int)) (hn64 : n0 < 64) (ht : V 53 13 = (t : Int)) (h29 : t ≤ 29) (ws : sx_w sx_r32 s) (hw1 : 1 ≤ w ∧ w ≤ 30) (hy : -1 ≤ y ∧ y ≤ 5) (hf : ∀ B, mv V H B → ∀ z, (n0 - (dws (B 60) (B 59) (ms_lk B) nc H (fun h d => sx_mf 6 (sx_mf 2 (B 55 h) (B 61 d)) 9) (30 - t) t n0 (B 53 36, B 75) z).1, (dws (B 60) (B 59) (ms_lk B) nc H (fun h d => sx_mf 6 (sx_mf 2 (B 55 h) (B 61 d)) 9) (30 - t) t n0 (B 53 36, B 75) z).2) = f z) : ∀ (k i a o : Nat) (z : Int) (N : Nat → Nat → Int), (i : Int) + (k : Int) = w → a ≤ 10 * i → o ≤ 10 * i → sx_w sx_r32 z → sx_mok cl_ly N → sy_F V N → rz_fin (fun r N' => r = some (.int (Int32.ofInt ((dres y (dtot f (fun x => pcn x 10) k z a) (dtot f (dho y) k z o) : Nat) : Int))) ∧ sx_mok cl_ly N' ∧ sy_F V N') L xs 239 22 38 [(0, .ref 53), (1, .int (Int32.ofInt s)), (2, .int (Int32.ofInt w)), (3, .int (Int32.ofInt y)), (4, .int (Int32.ofInt z)), (5, .int (Int32.ofInt (a : Int))), (6, .int (Int32.ofInt (o : Int))), (7, .int (Int32.ofInt (i : Int)))] [] N := by
  intro k
  induction k with
  | zero =>
    intro i a o z N hi ha ho wz hm hF
    refine qs_use (zs := [s, w, y, z, (a : Int), (o : Int), (i : Int)]) dz3_c hL hm (qs_iw ws (qs_in hw1 (qs_in hy (qs_iw wz (qs_in (show 0 ≤ (a : Int) ∧ (a : Int) ≤ 5400 by omega) (qs_in (show 0 ≤ (o : Int) ∧ (o : Int) ≤ 5400 by omega) (qs_in (show 0 ≤ (i : Int) ∧ (i : Int) ≤ 30 by omega) (qs_ge (show ¬ (i : Int) < w by omega) (qs_fin rfl))))))))) (Nat.le_refl _) rfl rfl (qs_c (fun K hK hc hM => ?_) (qs_c (fun K hK hc hM => ?_) qs_z))
    · obtain ⟨c1, -⟩ := hc
      have c1 : -1 ≤ y ∧ y ≤ -1 := c1
      have fK : ∀ a, a < 128 → K a = N a := hM
      have e : dres y (dtot f (fun x => pcn x 10) 0 z a) (dtot f (dho y) 0 z o) = a := if_pos (by omega)
      rw [e]
      exact ⟨rfl, hK, sy_t hF fK⟩
    · obtain ⟨c1, -⟩ := hc
      have c1 : 0 ≤ y ∧ y ≤ 5 := c1
      have fK : ∀ a, a < 128 → K a = N a := hM
      have e : dres y (dtot f (fun x => pcn x 10) 0 z a) (dtot f (dho y) 0 z o) = o := if_neg (by omega)
      rw [e]
      exact ⟨rfl, hK, sy_t hF fK⟩
  | succ k ih =>
    intro i a o z N hi ha ho wz hm hF
    refine qs_use (zs := [s, w, y, z, (a : Int), (o : Int), (i : Int)]) dz2_c hL hm (qs_iw ws (qs_in hw1 (qs_in hy (qs_iw wz (qs_in (show 0 ≤ (a : Int) ∧ (a : Int) ≤ 5400 by omega) (qs_in (show 0 ≤ (o : Int) ∧ (o : Int) ≤ 5400 by omega) (qs_in (show 0 ≤ (i : Int) ∧ (i : Int) ≤ 30 by omega) (qs_lt (show (i : Int) < w by omega) (qs_fin rfl))))))))) (Nat.le_refl _) rfl rfl (qs_c (fun K hK hc hM => ?_) qs_z)
    have fK : ∀ q, q < 128 → K q = N q := hM
    have FK := sy_t hF fK
    show rz_fin _ L xs 239 22 45 [(0, .ref 53), (1, .int (Int32.ofInt s)), (2, .int (Int32.ofInt w)), (3, .int (Int32.ofInt y)), (4, .int (Int32.ofInt z)), (5, .int (Int32.ofInt (a : Int))), (6, .int (Int32.ofInt (o : Int))), (7, .int (Int32.ofInt (i : Int)))] [.ref 53] K
    refine qs_vc (k := 191) (b := 53) (d := 21) (d' := 21) (rest := []) rfl rfl rfl rfl rfl rfl rfl rfl (Nat.le_refl _) rfl (rz_d (by decide) (my_lay (xs := xs) (H := H) hL hK (by rw [FK.2 1 (by decide) (by decide)]; exact h4))) (fun r9 B hB => ?_)
    have hr : r9 = none := hB.1
    subst hr
    obtain ⟨FB, mB⟩ := dz_mv FK hB
    show rz_fin _ L xs 239 22 48 [(0, .ref 53), (1, .int (Int32.ofInt s)), (2, .int (Int32.ofInt w)), (3, .int (Int32.ofInt y)), (4, .int (Int32.ofInt z)), (5, .int (Int32.ofInt (a : Int))), (6, .int (Int32.ofInt (o : Int))), (7, .int (Int32.ofInt (i : Int)))] [] B
    refine qs_w (dz_sea (xs := xs) (k := k) hL hw hR h4 h6 h8 h12 hn0 hn64 ht h29 ws hw1 hy hf (by omega) ha ho wz hB.2.1 FB mB (fun N2 x z' hN2 F2 wz' => ?_)) (fun r N' g => ⟨g.1, g.2.1, sy_tr FB g.2.2⟩)
    have p1 := pcn_le (x := x) 10
    have p2 := dho_le (y := y) (x := x)
    exact qs_w (ih (i + 1) (a + pcn x 10) (o + dho y x) z' N2 (by omega) (by omega) (by omega) wz' hN2 (sy_tr FB F2)) (fun r N' g => ⟨g.1, g.2.1, sy_sm FB g.2.2⟩)
theorem dz_x (hL : L < 2 ^ 31) (hw : WF V) (hR : vu_R V) (h4 : V 53 1 = (H : Int)) (h6 : H ≤ 6) (h8 : V 53 8 = (nc : Int)) (h12 : nc ≤ 12) (hn0 : V 53 7 = (n0 : Int)) (hn64 : n0 < 64) (ht : V 53 13 = (t : Int)) (h29 : t ≤ 29) (ws : sx_w sx_r32 s) (hm : sx_mok cl_ly V) (ww : sx_w sx_r32 w) (wy : sx_w sx_r32 y) (hf : ∀ B, mv V H B → ∀ z, (n0 - (dws (B 60) (B 59) (ms_lk B) nc H (fun h d => sx_mf 6 (sx_mf 2 (B 55 h) (B 61 d)) 9) (30 - t) t n0 (B 53 36, B 75) z).1, (dws (B 60) (B 59) (ms_lk B) nc H (fun h d => sx_mf 6 (sx_mf 2 (B 55 h) (B 61 d)) 9) (30 - t) t n0 (B 53 36, B 75) z).2) = f z) : rz_fin (fun r N => sx_mok cl_ly N ∧ sy_F V N ∧ ((¬ da_ok w y (V 53 1) ∧ r = some (.int (Int32.ofInt (-1)))) ∨ (da_ok w y (V 53 1) ∧ r = some (.int (Int32.ofInt ((dres y (dtot f (fun x => pcn x 10) w.toNat s 0) (dtot f (dho y) w.toNat s 0) : Nat) : Int)))))) L xs 239 22 0 [(0, .ref 53), (1, .int (Int32.ofInt s)), (2, .int (Int32.ofInt w)), (3, .int (Int32.ofInt y))] [] V := by
  have hH := cx_fld (c := 53) (k := 1) (lo := 0) (hi := 6) hm (by decide +kernel)
  have sr : ∀ K : Nat → Nat → Int, (∀ q, q < 128 → K q = V q) → sy_F V K := fun K f => ⟨fun q hq _ _ _ _ => f q hq, fun j _ _ => by rw [f 53 (by decide)]⟩
  refine qs_use (zs := [s, w, y, V 53 1]) dz1_c hL hm (qs_iw ws (qs_iw ww (qs_iw wy (qs_rd (show (0 : Int) ≤ 1 by decide) rfl hH (qs_fin rfl))))) (Nat.le_refl _) rfl rfl (qs_c (fun K hK hc hM => ?_) (qs_c (fun K hK hc hM => ?_) (qs_c (fun K hK hc hM => ?_) (qs_c (fun K hK hc hM => ?_) (qs_c (fun K hK hc hM => ?_) qs_z)))))
  · obtain ⟨c1, -⟩ := hc
    have c1 : -2147483648 ≤ w ∧ w ≤ 0 := c1
    have fK : ∀ a, a < 128 → K a = V a := hM
    exact ⟨hK, sr K fK, Or.inl ⟨fun q => by have := q.1; omega, rfl⟩⟩
  · obtain ⟨c1, c2, -⟩ := hc
    have c1 : 1 ≤ w ∧ w ≤ 30 := c1
    have c2 : -2147483648 ≤ y ∧ y ≤ -2 := c2
    have fK : ∀ a, a < 128 → K a = V a := hM
    exact ⟨hK, sr K fK, Or.inl ⟨fun q => by have := q.2.2.1; omega, rfl⟩⟩
  · obtain ⟨c1, c2, c3, -⟩ := hc
    have c1 : 1 ≤ w ∧ w ≤ 30 := c1
    have c2 : -1 ≤ y ∧ y ≤ 5 := c2
    have c3 : ¬ V 53 1 < y + 1 := c3
    have fK : ∀ a, a < 128 → K a = V a := hM
    have ok : da_ok w y (V 53 1) := ⟨c1.1, c1.2, c2.1, by omega⟩
    exact qs_w (dz_loop (xs := xs) (V := V) (nc := nc) (H := H) (n0 := n0) (t := t) (s := s) (w := w) (y := y) hL hw hR h4 h6 h8 h12 hn0 hn64 ht h29 ws c1 c2 hf w.toNat 0 0 0 s K (by omega) (Nat.le_refl _) (Nat.le_refl _) ws hK (sr K fK)) (fun r N g => ⟨g.2.1, g.2.2, Or.inr ⟨ok, g.1⟩⟩)
  · obtain ⟨c1, c2, c3, -⟩ := hc
    have c1 : 1 ≤ w ∧ w ≤ 30 := c1
    have c2 : 0 ≤ y ∧ y ≤ 2147483647 := c2
    have c3 : V 53 1 < y + 1 := c3
    have fK : ∀ a, a < 128 → K a = V a := hM
    exact ⟨hK, sr K fK, Or.inl ⟨fun q => by have := q.2.2.2; omega, rfl⟩⟩
  · obtain ⟨c1, -⟩ := hc
    have c1 : 31 ≤ w ∧ w ≤ 2147483647 := c1
    have fK : ∀ a, a < 128 → K a = V a := hM
    exact ⟨hK, sr K fK, Or.inl ⟨fun q => by have := q.2.1; omega, rfl⟩⟩
/-- drawn of both sides -/
theorem fs_dr (hL : L < 2 ^ 31) (hI : la_I WF bs_cps M) (hS : fs_SS M) (ws : sx_w sx_r32 s) (ww : sx_w sx_r32 w) (wy : sx_w sx_r32 y) : fs_P WF L xs 0 110 239 [.ref 8, .int (Int32.ofInt s), .int (Int32.ofInt w), .int (Int32.ofInt y)] [.ref 53, .int (Int32.ofInt s), .int (Int32.ofInt w), .int (Int32.ofInt y)] (-1, 300) M := by
  obtain ⟨nc, H, hA⟩ := fs_toA hI hS
  obtain ⟨e1, -, -, e4, -, -, -⟩ := bs_eq hI
  have h29 : 0 ≤ M 10 210 ∧ M 10 210 ≤ 29 := hI.2.2.2.1
  have hm := hI.1
  have hw := hI.2.2.1
  have hR : vu_R M := hS.2.2.2.2.2.2.2.2
  obtain ⟨⟨a1, a2, a3, a4, a5⟩, b1, b2, b3, b4, -⟩ := id hA
  obtain ⟨t, et⟩ := Int.eq_ofNat_of_zero_le h29.1
  have eH : M 9 4 = (H : Int) := e1.trans a4
  obtain ⟨n0, en, hn64⟩ := pa_b64 hS.2.2.2.1 (by omega)
  obtain ⟨F1, v1, M1, f1, m1, x1, h1⟩ := rz_d (show 22 ≤ 99 by decide) (da_x (xs := xs) (nc := nc) (H := H) (n0 := n0) (t := t) hL hm hw hR hA eH en hn64 et (by omega) ws ww wy)
  obtain ⟨w1, r1⟩ := fs_same hw hR x1
  have z : ∀ a, a < 128 → 53 ≤ a → M1 a = M a := fun a ha g => x1 a ha (by omega)
  have o53 : M1 53 = M 53 := z 53 (by decide) (by decide)
  have mvt : ∀ B, mv M1 H B → mv M H B := fun B h => by
    unfold mv at h ⊢
    rw [o53, z 55 (by decide) (by decide), z 56 (by decide) (by decide), z 57 (by decide) (by decide), z 59 (by decide) (by decide), z 60 (by decide) (by decide), z 61 (by decide) (by decide), z 67 (by decide) (by decide), z 68 (by decide) (by decide), z 69 (by decide) (by decide), z 70 (by decide) (by decide), z 71 (by decide) (by decide), z 74 (by decide) (by decide)] at h
    exact h
  obtain ⟨F2, v2, M2, f2, m2, y2, h2⟩ := rz_d (show 22 ≤ 99 by decide) (dz_x (xs := xs) (V := M1) (nc := nc) (H := H) (n0 := n0) (t := t) (f := fun z => (n0 - (dws (vs_D M) (M 11) (vs_lk M) nc H (fun h d => sx_mf 6 (sx_mf 2 (M 10 (30 + h)) (M 10 (150 + d))) 9) (30 - t) t n0 (M 9 7, M 12) z).1, (dws (vs_D M) (M 11) (vs_lk M) nc H (fun h d => sx_mf 6 (sx_mf 2 (M 10 (30 + h)) (M 10 (150 + d))) 9) (30 - t) t n0 (M 9 7, M 12) z).2)) hL w1 r1 (by rw [o53]; exact a4) a5 (by rw [o53]; exact a2) a3 (by rw [o53, ← b4]; exact en) hn64 (by rw [o53, ← e4]; exact et) (by omega) ws m1 ww wy (fun B hB z => by rw [dz_f hA (mvt B hB) (by omega)]))
  rw [o53, ← e1] at h2
  obtain ⟨g1, g2⟩ := fs_q WF_zs hI hS m2 (fs_xy x1 (sy_y y2))
  rcases h1 with ⟨n1, rv⟩ | ⟨k1, rv⟩
  · rcases h2 with ⟨-, rv2⟩ | ⟨k, -⟩
    · subst rv rv2
      exact ⟨_, M1, M2, ⟨by decide, by decide⟩, Or.inl ⟨rfl, by decide, by decide⟩, ⟨F1, f1⟩, m1, ⟨F2, f2⟩, m2, g1, g2⟩
    · exact absurd k n1
  · rcases h2 with ⟨k, -⟩ | ⟨-, rv2⟩
    · exact absurd k1 k
    · rw [← dres_eq] at rv2
      have le := dtot_le (f := fun z => (n0 - (dws (vs_D M) (M 11) (vs_lk M) nc H (fun h d => sx_mf 6 (sx_mf 2 (M 10 (30 + h)) (M 10 (150 + d))) 9) (30 - t) t n0 (M 9 7, M 12) z).1, (dws (vs_D M) (M 11) (vs_lk M) nc H (fun h d => sx_mf 6 (sx_mf 2 (M 10 (30 + h)) (M 10 (150 + d))) 9) (30 - t) t n0 (M 9 7, M 12) z).2)) (fun x => dhb_le (y := y) (x := x)) w.toNat s 0
      have w30 : w ≤ 30 := k1.2.1
      generalize dtot (fun z => (n0 - (dws (vs_D M) (M 11) (vs_lk M) nc H (fun h d => sx_mf 6 (sx_mf 2 (M 10 (30 + h)) (M 10 (150 + d))) 9) (30 - t) t n0 (M 9 7, M 12) z).1, (dws (vs_D M) (M 11) (vs_lk M) nc H (fun h d => sx_mf 6 (sx_mf 2 (M 10 (30 + h)) (M 10 (150 + d))) 9) (30 - t) t n0 (M 9 7, M 12) z).2)) (dhb y) w.toNat s 0 = v at le rv rv2
      have wv : (-1 : Int) ≤ (v : Int) ∧ (v : Int) ≤ 300 := by omega
      subst rv rv2
      exact ⟨_, M1, M2, wv, Or.inl ⟨rfl, og_w32 (by omega) (by omega)⟩, ⟨F1, f1⟩, m1, ⟨F2, f2⟩, m2, g1, g2⟩
end
