/-! sweeten: the reference; the pair. -/
section
variable {L : Nat} {xs : Nat → Int32} {M M' N N' B X Y : Nat → Nat → Int} {k t h d e nc H : Nat} {b c v w : Int}
def sq1_i : List qs_I := [(0, 0, (0, 0), sx_r32), (0, 0, (0, 0), sx_r32), (0, 0, (0, 0), sx_r32), (1, 53, (0, 1), (0, 6)), (1, 53, (0, 13), (0, 29))]
def sq1_T : List og_T := [(none, some (0, 0, -1), [], [], [], [(0, (9, 0), (0, 0), -2147483648, -1)]), (none, some (0, 0, -1), [], [], [], [(0, (9, 0), (0, 0), 0, 2147483647), (1, (12, 0), (9, 0), 1, 0)]), (none, some (0, 0, -1), [], [], [], [(0, (9, 0), (0, 0), 0, 5), (0, (10, 0), (0, 0), -2147483648, 28), (0, (12, 0), (0, 0), 1, 6), (2, (12, 0), (9, 0), 1, 0), (1, (10, 0), (13, 0), 0, 0)]), (none, some (0, 0, -1), [], [], [], [(0, (9, 0), (0, 0), 0, 5), (0, (10, 0), (0, 0), 30, 2147483647), (0, (12, 0), (0, 0), 1, 6), (2, (12, 0), (9, 0), 1, 0), (2, (10, 0), (13, 0), 0, 0)]), (none, some (0, 0, -1), [], [], [], [(0, (9, 0), (0, 0), 0, 5), (0, (10, 0), (0, 0), 0, 29), (0, (11, 0), (0, 0), -2147483648, -1), (0, (12, 0), (0, 0), 1, 6), (2, (12, 0), (9, 0), 1, 0), (2, (10, 0), (13, 0), 0, 0)]), (some 34, none, [(0, 10, 0), (0, 9, 0), (2, 0, 53)], [(0, 2, 0, 53), (1, 0, 9, 0), (2, 0, 10, 0), (3, 0, 11, 0)], [], [(0, (9, 0), (0, 0), 0, 5), (0, (10, 0), (0, 0), 0, 29), (0, (11, 0), (0, 0), 0, 0), (0, (12, 0), (0, 0), 1, 6), (2, (12, 0), (9, 0), 1, 0), (2, (10, 0), (13, 0), 0, 0)]), (some 43, none, [(0, 10, 0), (0, 9, 0), (2, 0, 53)], [(0, 2, 0, 53), (1, 0, 9, 0), (2, 0, 10, 0), (3, 0, 11, 0)], [], [(0, (9, 0), (0, 0), 0, 5), (0, (10, 0), (0, 0), 0, 29), (0, (11, 0), (0, 0), 0, 1), (0, (12, 0), (0, 0), 1, 6), (7, (11, 0), (0, 0), 0, 0), (2, (12, 0), (9, 0), 1, 0), (2, (10, 0), (13, 0), 0, 0)]), (none, some (0, 0, -1), [], [], [], [(0, (9, 0), (0, 0), 0, 5), (0, (10, 0), (0, 0), 0, 29), (0, (11, 0), (0, 0), 2, 2147483647), (0, (12, 0), (0, 0), 1, 6), (2, (12, 0), (9, 0), 1, 0), (2, (10, 0), (13, 0), 0, 0)])]
theorem sq1_c : qs_chk (fun pc => bif Nat.beq pc 34 then true else Nat.beq pc 43) sq1_i 0 sq1_T 400 400 23 218 0 [(0, 2, 0, 53), (1, 0, 9, 0), (2, 0, 10, 0), (3, 0, 11, 0)] [] = true := by decide +kernel
def sq2_i : List qs_I := [(0, 0, (0, 0), sx_r32)]
def sq2_T : List og_T := [(none, some (0, 9, 0), [], [], [], [])]
theorem sq2_c : qs_chk (fun _ => false) sq2_i 0 sq2_T 400 400 23 218 37 [] [(0, 9, 0)] = true := by decide +kernel
def sq3_i : List qs_I := [(0, 0, (0, 0), sx_r32)]
def sq3_T : List og_T := [(none, some (0, 9, 0), [], [], [], [])]
theorem sq3_c : qs_chk (fun _ => false) sq3_i 0 sq3_T 400 400 23 218 46 [] [(0, 9, 0)] = true := by decide +kernel
def lc01_i : List qs_I := [(0, 0, (0, 0), (0, 5)), (0, 0, (0, 0), (0, 29)), (1, 56, (9, 0), (-1, 143))]
def lc01_T : List og_T := [(some 14, none, [], [(0, 2, 0, 53), (1, 0, 9, 0), (2, 0, 10, 0), (3, 0, 11, 0), (4, 0, 0, -2), (5, 0, 0, 0)], [], [])]
theorem lc01_c : qs_chk (fun pc => Nat.beq pc 14) lc01_i 0 lc01_T 400 400 22 219 0 [(0, 2, 0, 53), (1, 0, 9, 0), (2, 0, 10, 0)] [] = true := by decide +kernel
def lc02_i : List qs_I := [(0, 0, (0, 0), (0, 5)), (0, 0, (0, 0), (0, 29)), (0, 0, (0, 0), (-1, 143)), (0, 0, (0, 0), (0, 9))]
def lc02_T : List og_T := [(some 37, none, [(0, 10, 0), (0, 9, 0), (2, 0, 53)], [(0, 2, 0, 53), (1, 0, 9, 0), (2, 0, 10, 0), (3, 0, 11, 0), (4, 0, 0, -2), (5, 0, 12, 0)], [(56, (9, 0), (12, 0))], [])]
theorem lc02_c : qs_chk (fun pc => Nat.beq pc 37) lc02_i 0 lc02_T 400 400 22 219 14 [(0, 2, 0, 53), (1, 0, 9, 0), (2, 0, 10, 0), (3, 0, 11, 0), (4, 0, 0, -2), (5, 0, 12, 0)] [] = true := by decide +kernel
def lc03_i : List qs_I := [(0, 0, (0, 0), (0, 5)), (0, 0, (0, 0), (0, 29)), (0, 0, (0, 0), (-1, 143)), (0, 0, (0, 0), (0, 9)), (0, 0, (0, 0), (0, 1))]
def lc03_T : List og_T := [(some 14, none, [], [(0, 2, 0, 53), (1, 0, 9, 0), (2, 0, 10, 0), (3, 0, 11, 0), (4, 0, 0, -2), (5, 0, 12, 1)], [], [(0, (13, 0), (0, 0), 0, 0)]), (some 14, none, [], [(0, 2, 0, 53), (1, 0, 9, 0), (2, 0, 10, 0), (3, 0, 11, 0), (4, 0, 12, 0), (5, 0, 12, 1)], [], [(7, (13, 0), (0, 0), 0, 0)])]
theorem lc03_c : qs_chk (fun pc => Nat.beq pc 14) lc03_i 0 lc03_T 400 400 22 219 40 [(0, 2, 0, 53), (1, 0, 9, 0), (2, 0, 10, 0), (3, 0, 11, 0), (4, 0, 0, -2), (5, 0, 12, 0)] [(0, 13, 0)] = true := by decide +kernel
def lc04_i : List qs_I := [(0, 0, (0, 0), (0, 5)), (0, 0, (0, 0), (0, 29)), (0, 0, (0, 0), (-1, 143))]
def lc04_T : List og_T := [(none, some (0, 0, -2), [], [], [(56, (9, 0), (11, 0))], [])]
theorem lc04_c : qs_chk (fun pc => Nat.beq pc 37) lc04_i 0 lc04_T 400 400 22 219 14 [(0, 2, 0, 53), (1, 0, 9, 0), (2, 0, 10, 0), (3, 0, 11, 0), (4, 0, 0, -2), (5, 0, 0, 10)] [] = true := by decide +kernel
def lc05_i : List qs_I := [(0, 0, (0, 0), (0, 5)), (0, 0, (0, 0), (0, 29)), (0, 0, (0, 0), (-1, 143)), (0, 0, (0, 0), (0, 9)), (0, 0, (0, 0), (1, 10))]
def lc05_T : List og_T := [(none, some (0, 12, 0), [], [], [(56, (9, 0), (11, 0))], [(0, (13, 0), (0, 0), 10, 10)]), (none, some (0, 12, 0), [], [], [(56, (9, 0), (11, 0))], [(0, (13, 0), (0, 0), 1, 9)])]
theorem lc05_c : qs_chk (fun pc => Nat.beq pc 37) lc05_i 0 lc05_T 400 400 22 219 14 [(0, 2, 0, 53), (1, 0, 9, 0), (2, 0, 10, 0), (3, 0, 11, 0), (4, 0, 12, 0), (5, 0, 13, 0)] [] = true := by decide +kernel
def lc11_i : List qs_I := [(0, 0, (0, 0), (0, 5)), (0, 0, (0, 0), (0, 29)), (1, 57, (9, 0), (-1, 143))]
def lc11_T : List og_T := [(some 15, none, [], [(0, 2, 0, 53), (1, 0, 9, 0), (2, 0, 10, 0), (3, 0, 11, 0), (4, 0, 0, -2), (5, 0, 0, 9)], [], [])]
theorem lc11_c : qs_chk (fun pc => Nat.beq pc 15) lc11_i 0 lc11_T 400 400 22 220 0 [(0, 2, 0, 53), (1, 0, 9, 0), (2, 0, 10, 0)] [] = true := by decide +kernel
def lc12_i : List qs_I := [(0, 0, (0, 0), (0, 5)), (0, 0, (0, 0), (0, 29)), (0, 0, (0, 0), (-1, 143)), (0, 0, (0, 0), (0, 9))]
def lc12_T : List og_T := [(some 36, none, [(0, 10, 0), (0, 9, 0), (2, 0, 53)], [(0, 2, 0, 53), (1, 0, 9, 0), (2, 0, 10, 0), (3, 0, 11, 0), (4, 0, 0, -2), (5, 0, 12, 0)], [(57, (9, 0), (12, 0))], [])]
theorem lc12_c : qs_chk (fun pc => Nat.beq pc 36) lc12_i 0 lc12_T 400 400 22 220 15 [(0, 2, 0, 53), (1, 0, 9, 0), (2, 0, 10, 0), (3, 0, 11, 0), (4, 0, 0, -2), (5, 0, 12, 0)] [] = true := by decide +kernel
def lc13_i : List qs_I := [(0, 0, (0, 0), (0, 5)), (0, 0, (0, 0), (0, 29)), (0, 0, (0, 0), (-1, 143)), (0, 0, (0, 0), (0, 9)), (0, 0, (0, 0), (0, 1))]
def lc13_T : List og_T := [(some 15, none, [], [(0, 2, 0, 53), (1, 0, 9, 0), (2, 0, 10, 0), (3, 0, 11, 0), (4, 0, 0, -2), (5, 0, 12, -1)], [], [(0, (13, 0), (0, 0), 0, 0)]), (some 15, none, [], [(0, 2, 0, 53), (1, 0, 9, 0), (2, 0, 10, 0), (3, 0, 11, 0), (4, 0, 12, 0), (5, 0, 12, -1)], [], [(7, (13, 0), (0, 0), 0, 0)])]
theorem lc13_c : qs_chk (fun pc => Nat.beq pc 15) lc13_i 0 lc13_T 400 400 22 220 39 [(0, 2, 0, 53), (1, 0, 9, 0), (2, 0, 10, 0), (3, 0, 11, 0), (4, 0, 0, -2), (5, 0, 12, 0)] [(0, 13, 0)] = true := by decide +kernel
def lc14_i : List qs_I := [(0, 0, (0, 0), (0, 5)), (0, 0, (0, 0), (0, 29)), (0, 0, (0, 0), (-1, 143))]
def lc14_T : List og_T := [(none, some (0, 0, -2), [], [], [(57, (9, 0), (11, 0))], [])]
theorem lc14_c : qs_chk (fun pc => Nat.beq pc 36) lc14_i 0 lc14_T 400 400 22 220 15 [(0, 2, 0, 53), (1, 0, 9, 0), (2, 0, 10, 0), (3, 0, 11, 0), (4, 0, 0, -2), (5, 0, 0, -1)] [] = true := by decide +kernel
def lc15_i : List qs_I := [(0, 0, (0, 0), (0, 5)), (0, 0, (0, 0), (0, 29)), (0, 0, (0, 0), (-1, 143)), (0, 0, (0, 0), (0, 9)), (0, 0, (0, 0), (-1, 8))]
def lc15_T : List og_T := [(none, some (0, 12, 0), [], [], [(57, (9, 0), (11, 0))], [(0, (13, 0), (0, 0), -1, -1)]), (none, some (0, 12, 0), [], [], [(57, (9, 0), (11, 0))], [(0, (13, 0), (0, 0), 0, 8)])]
theorem lc15_c : qs_chk (fun pc => Nat.beq pc 36) lc15_i 0 lc15_T 400 400 22 220 15 [(0, 2, 0, 53), (1, 0, 9, 0), (2, 0, 10, 0), (3, 0, 11, 0), (4, 0, 12, 0), (5, 0, 13, 0)] [] = true := by decide +kernel
def sq_J (B : Nat → Nat → Int) (c h : Nat) (N : Nat → Nat → Int) : Prop := (∀ a, a < 128 → a ≠ c → a ≠ 53 → a ≠ 72 → a ≠ 73 → ¬ (75 ≤ a ∧ a ≤ 81) → N a = B a) ∧ (∀ j, fs_m j → N 53 j = B 53 j) ∧ ∀ j, j ≠ h → N c j = B c j

/-- the reference: value by value (0) -/
theorem lc_loop0 (hL : L < 2 ^ 31) (hm0 : sx_mok cl_ly B) (hw : WF B) (hR : vu_R B) (hA : fs_A M nc H) (fB : ∀ a, a < 128 → 53 ≤ a → B a = M a) (hh : h < H) (ht : M 53 13 = (t : Int)) (hte : t ≤ e) (he : e ≤ 29) : ∀ (k i : Nat) (M' : Nat → Nat → Int), i + k = 10 → sx_mok cl_ly M' → sq_J B 56 h M' → rz_fin (fun r N => r = some (.int (Int32.ofInt (sw (fun i => vi (sw_0 M h (i : Int)) nc t e) (fun i => (i : Int)) (h : Int) k i))) ∧ sx_mok cl_ly N ∧ fs_y B N) L xs 219 22 14 [(0, .ref 53), (1, .int (Int32.ofInt (h : Int))), (2, .int (Int32.ofInt (e : Int))), (3, .int (Int32.ofInt (B 56 h))), (4, .int (Int32.ofInt (-2))), (5, .int (Int32.ofInt (i : Int)))] [] M' := by
  obtain ⟨⟨a1, a2, a3, a4, a5⟩, -⟩ := id hA
  have wb : -1 ≤ B 56 h ∧ B 56 h ≤ 143 := hm0 56 _ h _ rfl (by show h < 6; omega) rfl
  have rest : ∀ (M' N : Nat → Nat → Int), sq_J B 56 h M' → (∀ a, a < 128 → N a = sx_up M' 56 h (B 56 h) a) → fs_y B N := fun M' N hI f => by
    refine ⟨fun a ha x1 x2 x3 x4 => ?_, fun j hj => ?_⟩
    · rw [f a ha]
      by_cases x : a = 56
      · rw [x]
        funext j
        by_cases y : j = h
        · rw [y, sh_uat]
        · rw [sh_unj y, hI.2.2 j y]
      · rw [sh_une x]
        exact hI.1 a ha x x1 x2 x3 x4
    · rw [f 53 (by decide), sh_une (by decide)]
      exact hI.2.1 j hj
  intro k
  induction k with
  | zero =>
    intro i M' hi hm hI
    have ei : i = 10 := by omega
    subst ei
    refine qs_use (zs := [(h : Int), (e : Int), B 56 h]) lc04_c hL hm (qs_in (show 0 ≤ (h : Int) ∧ (h : Int) ≤ 5 by omega) (qs_in (show 0 ≤ (e : Int) ∧ (e : Int) ≤ 29 by omega) (qs_in wb (qs_fin rfl)))) (Nat.le_refl _) rfl rfl (qs_c (fun N1 hN1 hc hM => ?_) qs_z)
    exact ⟨rfl, hN1, rest M' N1 hI hM⟩
  | succ k ih =>
    intro i M' hi hm hI
    have vv : 0 ≤ (i : Int) ∧ (i : Int) ≤ 9 := by omega
    refine qs_use (zs := [(h : Int), (e : Int), B 56 h, (i : Int)]) lc02_c hL hm (qs_in (show 0 ≤ (h : Int) ∧ (h : Int) ≤ 5 by omega) (qs_in (show 0 ≤ (e : Int) ∧ (e : Int) ≤ 29 by omega) (qs_in wb (qs_in vv (qs_fin rfl))))) (Nat.le_refl _) rfl rfl (qs_c (fun N1 hN1 hc hM => ?_) qs_z)
    have f1 : ∀ a, a < 128 → N1 a = sx_up M' 56 h (i : Int) a := hM
    have J1 : sq_J B 56 h N1 := ⟨fun a ha x x1 x2 x3 x4 => by rw [f1 a ha, sh_une x]; exact hI.1 a ha x x1 x2 x3 x4, fun j hj => by rw [f1 53 (by decide), sh_une (by decide)]; exact hI.2.1 j hj, fun j y => by rw [f1 56 (by decide), sh_unj y]; exact hI.2.2 j y⟩
    have z53 : ∀ j, fs_m j → N1 53 j = M 53 j := fun j hj => by rw [J1.2.1 j hj, fB 53 (by decide) (by decide)]
    obtain ⟨w1, r1⟩ := wr_ref hw hR (fun a q => J1.1 a (by omega) (by omega) (by omega) (by omega) (by omega) (by omega)) (J1.2.1 33 (by unfold fs_m; decide))
    obtain ⟨se, -, -, sc, sch⟩ := sw_e0 (M := M) (h := h) (v := (i : Int))
    show rz_fin _ L xs 219 22 37 [(0, .ref 53), (1, .int (Int32.ofInt (h : Int))), (2, .int (Int32.ofInt (e : Int))), (3, .int (Int32.ofInt (B 56 h))), (4, .int (Int32.ofInt (-2))), (5, .int (Int32.ofInt (i : Int)))] [.int (Int32.ofInt (e : Int)), .int (Int32.ofInt (h : Int)), .ref 53] N1
    refine qs_vc (k := 217) (b := 53) (d := 21) (d' := 21) (rest := []) rfl rfl rfl rfl rfl rfl rfl rfl (Nat.le_refl _) rfl (rz_d (by decide) (vi_ref (xs := xs) (nc := nc) (H := H) (t := t) (e := e) (h := h) hL hN1 w1 r1 (by rw [z53 1 (by unfold fs_m; decide)]; exact a4) (by rw [z53 8 (by unfold fs_m; decide)]; exact a2) (by rw [z53 13 (by unfold fs_m; decide)]; exact ht) hte he (by omega))) (fun r9 N2 hr => ?_)
    obtain ⟨Y, hY, F2, hN2, rfl⟩ := hr
    have mY : mv (sw_0 M h (i : Int)) H Y := mv_of (fun a q => by
      by_cases x : a = 56
      · rw [x, f1 56 (by decide)]
        funext j
        by_cases y : j = h
        · rw [y, sh_uat, sch]
        · rw [sh_unj y, hI.2.2 j y, fB 56 (by decide) (by decide), sc j y]
      · rw [J1.1 a (by omega) x (by omega) (by omega) (by omega) (by omega), fB a (by omega) (by omega)]
        exact (se a (by omega) x).symm) (fun j q => by
      rw [z53 j (by unfold fs_m; omega), se 53 (by decide) (by decide)]) hY
    have eg := vi_y (sw_A0 (v := (i : Int)) (by omega) hA) mY hte (by omega)
    rw [eg]
    have J2 : sq_J B 56 h N2 := by
      have y2 := ms_y hY F2
      refine ⟨fun a ha x x1 x2 x3 x4 => ?_, fun j hj => ?_, fun j y => ?_⟩
      · rw [y2.1 a ha x1 x2 x3 x4]
        exact J1.1 a ha x x1 x2 x3 x4
      · rw [y2.2 j hj]
        exact J1.2.1 j hj
      · rw [y2.1 56 (by decide) (by decide) (by decide) (by decide) (by decide)]
        exact J1.2.2 j y
    have vr : 0 ≤ (if vi (sw_0 M h (i : Int)) nc t e = (h : Int) then (1 : Int) else 0) ∧ (if vi (sw_0 M h (i : Int)) nc t e = (h : Int) then (1 : Int) else 0) ≤ 1 := by split <;> decide
    refine qs_use (zs := [(h : Int), (e : Int), B 56 h, (i : Int), (if vi (sw_0 M h (i : Int)) nc t e = (h : Int) then (1 : Int) else 0)]) lc03_c hL hN2 (qs_in (show 0 ≤ (h : Int) ∧ (h : Int) ≤ 5 by omega) (qs_in (show 0 ≤ (e : Int) ∧ (e : Int) ≤ 29 by omega) (qs_in wb (qs_in vv (qs_in vr (qs_fin rfl)))))) (Nat.le_refl _) rfl rfl (qs_c (fun N3 hN3 hc hM => ?_) (qs_c (fun N3 hN3 hc hM => ?_) qs_z))
    · have c1 : 0 ≤ (if vi (sw_0 M h (i : Int)) nc t e = (h : Int) then (1 : Int) else 0) ∧ (if vi (sw_0 M h (i : Int)) nc t e = (h : Int) then (1 : Int) else 0) ≤ 0 := hc.1
      have f3 : ∀ a, a < 128 → N3 a = N2 a := hM
      have ne : ¬ vi (sw_0 M h (i : Int)) nc t e = (h : Int) := fun q => by
        rw [if_pos q] at c1
        omega
      have e0 : sw (fun i => vi (sw_0 M h (i : Int)) nc t e) (fun i => (i : Int)) (h : Int) (k + 1) i = sw (fun i => vi (sw_0 M h (i : Int)) nc t e) (fun i => (i : Int)) (h : Int) k (i + 1) := if_neg ne
      rw [e0]
      have J3 : sq_J B 56 h N3 := ⟨fun a ha x x1 x2 x3 x4 => (f3 a ha).trans (J2.1 a ha x x1 x2 x3 x4), fun j hj => by rw [f3 53 (by decide)]; exact J2.2.1 j hj, fun j y => by rw [f3 56 (by decide)]; exact J2.2.2 j y⟩
      have g := ih (i + 1) N3 (by omega) hN3 J3
      exact g
    · have c1 : (if vi (sw_0 M h (i : Int)) nc t e = (h : Int) then (1 : Int) else 0) ≠ 0 := hc.1
      have f3 : ∀ a, a < 128 → N3 a = N2 a := hM
      have ye : vi (sw_0 M h (i : Int)) nc t e = (h : Int) := by
        by_cases q : vi (sw_0 M h (i : Int)) nc t e = (h : Int)
        · exact q
        · exact absurd (if_neg q) c1
      have e0 : sw (fun i => vi (sw_0 M h (i : Int)) nc t e) (fun i => (i : Int)) (h : Int) (k + 1) i = (i : Int) := if_pos ye
      rw [e0]
      have J3 : sq_J B 56 h N3 := ⟨fun a ha x x1 x2 x3 x4 => (f3 a ha).trans (J2.1 a ha x x1 x2 x3 x4), fun j hj => by rw [f3 53 (by decide)]; exact J2.2.1 j hj, fun j y => by rw [f3 56 (by decide)]; exact J2.2.2 j y⟩
      refine qs_use (zs := [(h : Int), (e : Int), B 56 h, (i : Int), (i : Int) + 1]) lc05_c hL hN3 (qs_in (show 0 ≤ (h : Int) ∧ (h : Int) ≤ 5 by omega) (qs_in (show 0 ≤ (e : Int) ∧ (e : Int) ≤ 29 by omega) (qs_in wb (qs_in vv (qs_in (show 1 ≤ (i : Int) + 1 ∧ (i : Int) + 1 ≤ 10 by omega) (qs_fin rfl)))))) (Nat.le_refl _) rfl rfl (qs_c (fun N4 hN4 hc hM => ?_) (qs_c (fun N4 hN4 hc hM => ?_) qs_z))
      · exact ⟨rfl, hN4, rest N3 N4 J3 hM⟩
      · exact ⟨rfl, hN4, rest N3 N4 J3 hM⟩
theorem lc_x0 (hL : L < 2 ^ 31) (hm : sx_mok cl_ly B) (hw : WF B) (hR : vu_R B) (hA : fs_A M nc H) (fB : ∀ a, a < 128 → 53 ≤ a → B a = M a) (hh : h < H) (ht : M 53 13 = (t : Int)) (hte : t ≤ e) (he : e ≤ 29) : rz_fin (fun r N => r = some (.int (Int32.ofInt (sw (fun i => vi (sw_0 M h (i : Int)) nc t e) (fun i => (i : Int)) (h : Int) 10 0))) ∧ sx_mok cl_ly N ∧ fs_y B N) L xs 219 22 0 [(0, .ref 53), (1, .int (Int32.ofInt (h : Int))), (2, .int (Int32.ofInt (e : Int)))] [] B := by
  obtain ⟨⟨a1, a2, a3, a4, a5⟩, -⟩ := id hA
  have wb : -1 ≤ B 56 h ∧ B 56 h ≤ 143 := hm 56 _ h _ rfl (by show h < 6; omega) rfl
  refine qs_use (zs := [(h : Int), (e : Int), B 56 h]) lc01_c hL hm (qs_in (show 0 ≤ (h : Int) ∧ (h : Int) ≤ 5 by omega) (qs_in (show 0 ≤ (e : Int) ∧ (e : Int) ≤ 29 by omega) (qs_rd (show 0 ≤ (h : Int) by omega) rfl wb (qs_fin rfl)))) (Nat.le_refl _) rfl rfl (qs_c (fun N1 hN1 hc hM => ?_) qs_z)
  have f1 : ∀ a, a < 128 → N1 a = B a := hM
  have g := lc_loop0 (xs := xs) hL hm hw hR hA fB hh ht hte he 10 0 N1 rfl hN1 ⟨fun a ha _ _ _ _ _ => f1 a ha, fun j _ => by rw [f1 53 (by decide)], fun j _ => by rw [f1 56 (by decide)]⟩
  exact g

/-- the reference: value by value (1) -/
theorem lc_loop1 (hL : L < 2 ^ 31) (hm0 : sx_mok cl_ly B) (hw : WF B) (hR : vu_R B) (hA : fs_A M nc H) (fB : ∀ a, a < 128 → 53 ≤ a → B a = M a) (hh : h < H) (ht : M 53 13 = (t : Int)) (hte : t ≤ e) (he : e ≤ 29) : ∀ (k i : Nat) (M' : Nat → Nat → Int), i + k = 10 → sx_mok cl_ly M' → sq_J B 57 h M' → rz_fin (fun r N => r = some (.int (Int32.ofInt (sw (fun i => vi (sw_1 M h (9 - (i : Int))) nc t e) (fun i => (9 - (i : Int))) (h : Int) k i))) ∧ sx_mok cl_ly N ∧ fs_y B N) L xs 220 22 15 [(0, .ref 53), (1, .int (Int32.ofInt (h : Int))), (2, .int (Int32.ofInt (e : Int))), (3, .int (Int32.ofInt (B 57 h))), (4, .int (Int32.ofInt (-2))), (5, .int (Int32.ofInt (9 - (i : Int))))] [] M' := by
  obtain ⟨⟨a1, a2, a3, a4, a5⟩, -⟩ := id hA
  have wb : -1 ≤ B 57 h ∧ B 57 h ≤ 143 := hm0 57 _ h _ rfl (by show h < 6; omega) rfl
  have rest : ∀ (M' N : Nat → Nat → Int), sq_J B 57 h M' → (∀ a, a < 128 → N a = sx_up M' 57 h (B 57 h) a) → fs_y B N := fun M' N hI f => by
    refine ⟨fun a ha x1 x2 x3 x4 => ?_, fun j hj => ?_⟩
    · rw [f a ha]
      by_cases x : a = 57
      · rw [x]
        funext j
        by_cases y : j = h
        · rw [y, sh_uat]
        · rw [sh_unj y, hI.2.2 j y]
      · rw [sh_une x]
        exact hI.1 a ha x x1 x2 x3 x4
    · rw [f 53 (by decide), sh_une (by decide)]
      exact hI.2.1 j hj
  intro k
  induction k with
  | zero =>
    intro i M' hi hm hI
    have ei : i = 10 := by omega
    subst ei
    rw [show (9 : Int) - ((10 : Nat) : Int) = -1 from rfl]
    refine qs_use (zs := [(h : Int), (e : Int), B 57 h]) lc14_c hL hm (qs_in (show 0 ≤ (h : Int) ∧ (h : Int) ≤ 5 by omega) (qs_in (show 0 ≤ (e : Int) ∧ (e : Int) ≤ 29 by omega) (qs_in wb (qs_fin rfl)))) (Nat.le_refl _) rfl rfl (qs_c (fun N1 hN1 hc hM => ?_) qs_z)
    exact ⟨rfl, hN1, rest M' N1 hI hM⟩
  | succ k ih =>
    intro i M' hi hm hI
    have vv : 0 ≤ (9 - (i : Int)) ∧ (9 - (i : Int)) ≤ 9 := by omega
    refine qs_use (zs := [(h : Int), (e : Int), B 57 h, (9 - (i : Int))]) lc12_c hL hm (qs_in (show 0 ≤ (h : Int) ∧ (h : Int) ≤ 5 by omega) (qs_in (show 0 ≤ (e : Int) ∧ (e : Int) ≤ 29 by omega) (qs_in wb (qs_in vv (qs_fin rfl))))) (Nat.le_refl _) rfl rfl (qs_c (fun N1 hN1 hc hM => ?_) qs_z)
    have f1 : ∀ a, a < 128 → N1 a = sx_up M' 57 h (9 - (i : Int)) a := hM
    have J1 : sq_J B 57 h N1 := ⟨fun a ha x x1 x2 x3 x4 => by rw [f1 a ha, sh_une x]; exact hI.1 a ha x x1 x2 x3 x4, fun j hj => by rw [f1 53 (by decide), sh_une (by decide)]; exact hI.2.1 j hj, fun j y => by rw [f1 57 (by decide), sh_unj y]; exact hI.2.2 j y⟩
    have z53 : ∀ j, fs_m j → N1 53 j = M 53 j := fun j hj => by rw [J1.2.1 j hj, fB 53 (by decide) (by decide)]
    obtain ⟨w1, r1⟩ := wr_ref hw hR (fun a q => J1.1 a (by omega) (by omega) (by omega) (by omega) (by omega) (by omega)) (J1.2.1 33 (by unfold fs_m; decide))
    obtain ⟨se, -, -, sc, sch⟩ := sw_e1 (M := M) (h := h) (v := (9 - (i : Int)))
    show rz_fin _ L xs 220 22 36 [(0, .ref 53), (1, .int (Int32.ofInt (h : Int))), (2, .int (Int32.ofInt (e : Int))), (3, .int (Int32.ofInt (B 57 h))), (4, .int (Int32.ofInt (-2))), (5, .int (Int32.ofInt (9 - (i : Int))))] [.int (Int32.ofInt (e : Int)), .int (Int32.ofInt (h : Int)), .ref 53] N1
    refine qs_vc (k := 217) (b := 53) (d := 21) (d' := 21) (rest := []) rfl rfl rfl rfl rfl rfl rfl rfl (Nat.le_refl _) rfl (rz_d (by decide) (vi_ref (xs := xs) (nc := nc) (H := H) (t := t) (e := e) (h := h) hL hN1 w1 r1 (by rw [z53 1 (by unfold fs_m; decide)]; exact a4) (by rw [z53 8 (by unfold fs_m; decide)]; exact a2) (by rw [z53 13 (by unfold fs_m; decide)]; exact ht) hte he (by omega))) (fun r9 N2 hr => ?_)
    obtain ⟨Y, hY, F2, hN2, rfl⟩ := hr
    have mY : mv (sw_1 M h (9 - (i : Int))) H Y := mv_of (fun a q => by
      by_cases x : a = 57
      · rw [x, f1 57 (by decide)]
        funext j
        by_cases y : j = h
        · rw [y, sh_uat, sch]
        · rw [sh_unj y, hI.2.2 j y, fB 57 (by decide) (by decide), sc j y]
      · rw [J1.1 a (by omega) x (by omega) (by omega) (by omega) (by omega), fB a (by omega) (by omega)]
        exact (se a (by omega) x).symm) (fun j q => by
      rw [z53 j (by unfold fs_m; omega), se 53 (by decide) (by decide)]) hY
    have eg := vi_y (sw_A1 (v := (9 - (i : Int))) (by omega) hA) mY hte (by omega)
    rw [eg]
    have J2 : sq_J B 57 h N2 := by
      have y2 := ms_y hY F2
      refine ⟨fun a ha x x1 x2 x3 x4 => ?_, fun j hj => ?_, fun j y => ?_⟩
      · rw [y2.1 a ha x1 x2 x3 x4]
        exact J1.1 a ha x x1 x2 x3 x4
      · rw [y2.2 j hj]
        exact J1.2.1 j hj
      · rw [y2.1 57 (by decide) (by decide) (by decide) (by decide) (by decide)]
        exact J1.2.2 j y
    have vr : 0 ≤ (if vi (sw_1 M h (9 - (i : Int))) nc t e = (h : Int) then (1 : Int) else 0) ∧ (if vi (sw_1 M h (9 - (i : Int))) nc t e = (h : Int) then (1 : Int) else 0) ≤ 1 := by split <;> decide
    refine qs_use (zs := [(h : Int), (e : Int), B 57 h, (9 - (i : Int)), (if vi (sw_1 M h (9 - (i : Int))) nc t e = (h : Int) then (1 : Int) else 0)]) lc13_c hL hN2 (qs_in (show 0 ≤ (h : Int) ∧ (h : Int) ≤ 5 by omega) (qs_in (show 0 ≤ (e : Int) ∧ (e : Int) ≤ 29 by omega) (qs_in wb (qs_in vv (qs_in vr (qs_fin rfl)))))) (Nat.le_refl _) rfl rfl (qs_c (fun N3 hN3 hc hM => ?_) (qs_c (fun N3 hN3 hc hM => ?_) qs_z))
    · have c1 : 0 ≤ (if vi (sw_1 M h (9 - (i : Int))) nc t e = (h : Int) then (1 : Int) else 0) ∧ (if vi (sw_1 M h (9 - (i : Int))) nc t e = (h : Int) then (1 : Int) else 0) ≤ 0 := hc.1
      have f3 : ∀ a, a < 128 → N3 a = N2 a := hM
      have ne : ¬ vi (sw_1 M h (9 - (i : Int))) nc t e = (h : Int) := fun q => by
        rw [if_pos q] at c1
        omega
      have e0 : sw (fun i => vi (sw_1 M h (9 - (i : Int))) nc t e) (fun i => (9 - (i : Int))) (h : Int) (k + 1) i = sw (fun i => vi (sw_1 M h (9 - (i : Int))) nc t e) (fun i => (9 - (i : Int))) (h : Int) k (i + 1) := if_neg ne
      rw [e0]
      have J3 : sq_J B 57 h N3 := ⟨fun a ha x x1 x2 x3 x4 => (f3 a ha).trans (J2.1 a ha x x1 x2 x3 x4), fun j hj => by rw [f3 53 (by decide)]; exact J2.2.1 j hj, fun j y => by rw [f3 57 (by decide)]; exact J2.2.2 j y⟩
      have g := ih (i + 1) N3 (by omega) hN3 J3
      rw [show (9 : Int) - ((i + 1 : Nat) : Int) = 9 - (i : Int) + -1 by omega] at g
      exact g
    · have c1 : (if vi (sw_1 M h (9 - (i : Int))) nc t e = (h : Int) then (1 : Int) else 0) ≠ 0 := hc.1
      have f3 : ∀ a, a < 128 → N3 a = N2 a := hM
      have ye : vi (sw_1 M h (9 - (i : Int))) nc t e = (h : Int) := by
        by_cases q : vi (sw_1 M h (9 - (i : Int))) nc t e = (h : Int)
        · exact q
        · exact absurd (if_neg q) c1
      have e0 : sw (fun i => vi (sw_1 M h (9 - (i : Int))) nc t e) (fun i => (9 - (i : Int))) (h : Int) (k + 1) i = (9 - (i : Int)) := if_pos ye
      rw [e0]
      have J3 : sq_J B 57 h N3 := ⟨fun a ha x x1 x2 x3 x4 => (f3 a ha).trans (J2.1 a ha x x1 x2 x3 x4), fun j hj => by rw [f3 53 (by decide)]; exact J2.2.1 j hj, fun j y => by rw [f3 57 (by decide)]; exact J2.2.2 j y⟩
      refine qs_use (zs := [(h : Int), (e : Int), B 57 h, (9 - (i : Int)), (9 - (i : Int)) + -1]) lc15_c hL hN3 (qs_in (show 0 ≤ (h : Int) ∧ (h : Int) ≤ 5 by omega) (qs_in (show 0 ≤ (e : Int) ∧ (e : Int) ≤ 29 by omega) (qs_in wb (qs_in vv (qs_in (show -1 ≤ (9 - (i : Int)) + -1 ∧ (9 - (i : Int)) + -1 ≤ 8 by omega) (qs_fin rfl)))))) (Nat.le_refl _) rfl rfl (qs_c (fun N4 hN4 hc hM => ?_) (qs_c (fun N4 hN4 hc hM => ?_) qs_z))
      · exact ⟨rfl, hN4, rest N3 N4 J3 hM⟩
      · exact ⟨rfl, hN4, rest N3 N4 J3 hM⟩
theorem lc_x1 (hL : L < 2 ^ 31) (hm : sx_mok cl_ly B) (hw : WF B) (hR : vu_R B) (hA : fs_A M nc H) (fB : ∀ a, a < 128 → 53 ≤ a → B a = M a) (hh : h < H) (ht : M 53 13 = (t : Int)) (hte : t ≤ e) (he : e ≤ 29) : rz_fin (fun r N => r = some (.int (Int32.ofInt (sw (fun i => vi (sw_1 M h (9 - (i : Int))) nc t e) (fun i => (9 - (i : Int))) (h : Int) 10 0))) ∧ sx_mok cl_ly N ∧ fs_y B N) L xs 220 22 0 [(0, .ref 53), (1, .int (Int32.ofInt (h : Int))), (2, .int (Int32.ofInt (e : Int)))] [] B := by
  obtain ⟨⟨a1, a2, a3, a4, a5⟩, -⟩ := id hA
  have wb : -1 ≤ B 57 h ∧ B 57 h ≤ 143 := hm 57 _ h _ rfl (by show h < 6; omega) rfl
  refine qs_use (zs := [(h : Int), (e : Int), B 57 h]) lc11_c hL hm (qs_in (show 0 ≤ (h : Int) ∧ (h : Int) ≤ 5 by omega) (qs_in (show 0 ≤ (e : Int) ∧ (e : Int) ≤ 29 by omega) (qs_rd (show 0 ≤ (h : Int) by omega) rfl wb (qs_fin rfl)))) (Nat.le_refl _) rfl rfl (qs_c (fun N1 hN1 hc hM => ?_) qs_z)
  have f1 : ∀ a, a < 128 → N1 a = B a := hM
  have g := lc_loop1 (xs := xs) hL hm hw hR hA fB hh ht hte he 10 0 N1 rfl hN1 ⟨fun a ha _ _ _ _ _ => f1 a ha, fun j _ => by rw [f1 53 (by decide)], fun j _ => by rw [f1 57 (by decide)]⟩
  rw [show (9 : Int) - ((0 : Nat) : Int) = 9 from rfl] at g
  exact g

theorem sq_y (hL : L < 2 ^ 31) (hm : sx_mok cl_ly B) (hw : WF B) (hR : vu_R B) (hA : fs_A M nc H) (fB : ∀ a, a < 128 → 53 ≤ a → B a = M a) (ht : M 53 13 = (t : Int)) (h29 : t ≤ 29) (wc : sx_w sx_r32 c) (wb : sx_w sx_r32 b) (ww : sx_w sx_r32 w) : rz_fin (fun r N => sx_mok cl_ly N ∧ fs_y B N ∧ ((¬ sp_ok c b w (M 53 1) (M 53 13) ∧ r = some (.int (Int32.ofInt (-1)))) ∨ (sp_ok c b w (M 53 1) (M 53 13) ∧ r = some (.int (Int32.ofInt (sp_v M nc t c.toNat b.toNat w)))))) L xs 218 23 0 [(0, .ref 53), (1, .int (Int32.ofInt c)), (2, .int (Int32.ofInt b)), (3, .int (Int32.ofInt w))] [] B := by
  obtain ⟨⟨a1, a2, a3, a4, a5⟩, -⟩ := id hA
  have b53 : B 53 = M 53 := fB 53 (by decide) (by decide)
  have hH : 0 ≤ M 53 1 ∧ M 53 1 ≤ 6 := by omega
  have t29 : 0 ≤ M 53 13 ∧ M 53 13 ≤ 29 := by omega
  have rg := sp_r (M := M) (nc := nc) (t := t) (h := c.toNat) (e := b.toNat) (w := w)
  have wr : sx_w sx_r32 (sp_v M nc t c.toNat b.toNat w) := og_w32 (by omega) (by omega)
  have yy : ∀ K : Nat → Nat → Int, (∀ a, a < 128 → K a = B a) → fs_y B K := fun K f => ⟨fun a ha _ _ _ _ => f a ha, fun j _ => by rw [f 53 (by decide)]⟩
  refine qs_use (zs := [c, b, w, M 53 1, M 53 13]) sq1_c hL hm (qs_iw wc (qs_iw wb (qs_iw ww (qs_rd (show (0 : Int) ≤ 1 by decide) (by rw [b53]; rfl) hH (qs_rd (show (0 : Int) ≤ 13 by decide) (by rw [b53]; rfl) t29 (qs_fin rfl)))))) (Nat.le_refl _) rfl rfl (qs_c (fun K hK hc hM => ?_) (qs_c (fun K hK hc hM => ?_) (qs_c (fun K hK hc hM => ?_) (qs_c (fun K hK hc hM => ?_) (qs_c (fun K hK hc hM => ?_) (qs_c (fun K hK hc hM => ?_) (qs_c (fun K hK hc hM => ?_) (qs_c (fun K hK hc hM => ?_) qs_z))))))))
  · obtain ⟨c1, -⟩ := hc
    have c1 : -2147483648 ≤ c ∧ c ≤ -1 := c1
    have fK : ∀ a, a < 128 → K a = B a := hM
    exact ⟨hK, yy K fK, Or.inl ⟨fun q => by have := q.1; omega, rfl⟩⟩
  · obtain ⟨c1, c2, -⟩ := hc
    have c1 : 0 ≤ c ∧ c ≤ 2147483647 := c1
    have c2 : M 53 1 < c + 1 := c2
    have fK : ∀ a, a < 128 → K a = B a := hM
    exact ⟨hK, yy K fK, Or.inl ⟨fun q => by have := q.2.1; omega, rfl⟩⟩
  · obtain ⟨c1, c2, c3, c4, c5, -⟩ := hc
    have c1 : 0 ≤ c ∧ c ≤ 5 := c1
    have c2 : -2147483648 ≤ b ∧ b ≤ 28 := c2
    have c3 : 1 ≤ M 53 1 ∧ M 53 1 ≤ 6 := c3
    have c4 : ¬ M 53 1 < c + 1 := c4
    have c5 : b < M 53 13 := c5
    have fK : ∀ a, a < 128 → K a = B a := hM
    exact ⟨hK, yy K fK, Or.inl ⟨fun q => by have := q.2.2.1; omega, rfl⟩⟩
  · obtain ⟨c1, c2, c3, c4, c5, -⟩ := hc
    have c1 : 0 ≤ c ∧ c ≤ 5 := c1
    have c2 : 30 ≤ b ∧ b ≤ 2147483647 := c2
    have c3 : 1 ≤ M 53 1 ∧ M 53 1 ≤ 6 := c3
    have c4 : ¬ M 53 1 < c + 1 := c4
    have c5 : ¬ b < M 53 13 := c5
    have fK : ∀ a, a < 128 → K a = B a := hM
    exact ⟨hK, yy K fK, Or.inl ⟨fun q => by have := q.2.2.2.1; omega, rfl⟩⟩
  · obtain ⟨c1, c2, c3, c4, c5, c6, -⟩ := hc
    have c1 : 0 ≤ c ∧ c ≤ 5 := c1
    have c2 : 0 ≤ b ∧ b ≤ 29 := c2
    have c3 : -2147483648 ≤ w ∧ w ≤ -1 := c3
    have c4 : 1 ≤ M 53 1 ∧ M 53 1 ≤ 6 := c4
    have c5 : ¬ M 53 1 < c + 1 := c5
    have c6 : ¬ b < M 53 13 := c6
    have fK : ∀ a, a < 128 → K a = B a := hM
    exact ⟨hK, yy K fK, Or.inl ⟨fun q => by have := q.2.2.2.2.1; omega, rfl⟩⟩
  · obtain ⟨c1, c2, c3, c4, c5, c6, -⟩ := hc
    have c1 : 0 ≤ c ∧ c ≤ 5 := c1
    have c2 : 0 ≤ b ∧ b ≤ 29 := c2
    have c3 : 0 ≤ w ∧ w ≤ 0 := c3
    have c4 : 1 ≤ M 53 1 ∧ M 53 1 ≤ 6 := c4
    have c5 : ¬ M 53 1 < c + 1 := c5
    have c6 : ¬ b < M 53 13 := c6
    have fK : ∀ a, a < 128 → K a = B a := hM
    have ok : sp_ok c b w (M 53 1) (M 53 13) := ⟨c1.1, by omega, by omega, c2.2, c3.1, by omega⟩
    obtain ⟨h, rfl⟩ := Int.eq_ofNat_of_zero_le c1.1
    obtain ⟨e, rfl⟩ := Int.eq_ofNat_of_zero_le c2.1
    obtain ⟨w1, r1⟩ := wr_same hw hR fK
    have eV : sw (fun i => vi (sw_0 M h (i : Int)) nc t e) (fun i => (i : Int)) (h : Int) 10 0 = sp_v M nc t h e w := (if_pos (by omega)).symm
    refine qs_vc (k := 219) (b := 53) (d := 22) (d' := 22) (rest := []) rfl rfl rfl rfl rfl rfl rfl rfl (Nat.le_refl _) rfl (lc_x0 (xs := xs) (M := M) (B := K) (nc := nc) (H := H) (t := t) (h := h) (e := e) hL hK w1 r1 hA (fun a ha g => (fK a ha).trans (fB a ha g)) (by omega) ht (by omega) (by omega)) (fun r9 N2 hr => ?_)
    obtain ⟨rfl, hN2, y2⟩ := hr
    rw [eV]
    refine qs_nl (by show ([0, 1, 2, 3] : List Nat).Nodup; decide) (qs_use (zs := [sp_v M nc t h e w]) sq2_c hL hN2 (qs_iw wr (qs_fin rfl)) (Nat.le_refl _) rfl rfl (qs_c (fun N3 hN3 hc hM => ?_) qs_z))
    have f3 : ∀ a, a < 128 → N3 a = N2 a := hM
    exact ⟨hN3, ⟨fun a ha x1 x2 x3 x4 => (f3 a ha).trans ((y2.1 a ha x1 x2 x3 x4).trans (fK a ha)), fun j hj => by rw [f3 53 (by decide), y2.2 j hj, fK 53 (by decide)]⟩, Or.inr ⟨ok, rfl⟩⟩
  · obtain ⟨c1, c2, c3, c4, c5, c6, c7, -⟩ := hc
    have c1 : 0 ≤ c ∧ c ≤ 5 := c1
    have c2 : 0 ≤ b ∧ b ≤ 29 := c2
    have c3 : 0 ≤ w ∧ w ≤ 1 := c3
    have c4 : 1 ≤ M 53 1 ∧ M 53 1 ≤ 6 := c4
    have c5 : w ≠ 0 := c5
    have c6 : ¬ M 53 1 < c + 1 := c6
    have c7 : ¬ b < M 53 13 := c7
    have fK : ∀ a, a < 128 → K a = B a := hM
    have ok : sp_ok c b w (M 53 1) (M 53 13) := ⟨c1.1, by omega, by omega, c2.2, c3.1, c3.2⟩
    obtain ⟨h, rfl⟩ := Int.eq_ofNat_of_zero_le c1.1
    obtain ⟨e, rfl⟩ := Int.eq_ofNat_of_zero_le c2.1
    obtain ⟨w1, r1⟩ := wr_same hw hR fK
    have eV : sw (fun i => vi (sw_1 M h (9 - (i : Int))) nc t e) (fun i => (9 - (i : Int))) (h : Int) 10 0 = sp_v M nc t h e w := (if_neg c5).symm
    refine qs_vc (k := 220) (b := 53) (d := 22) (d' := 22) (rest := []) rfl rfl rfl rfl rfl rfl rfl rfl (Nat.le_refl _) rfl (lc_x1 (xs := xs) (M := M) (B := K) (nc := nc) (H := H) (t := t) (h := h) (e := e) hL hK w1 r1 hA (fun a ha g => (fK a ha).trans (fB a ha g)) (by omega) ht (by omega) (by omega)) (fun r9 N2 hr => ?_)
    obtain ⟨rfl, hN2, y2⟩ := hr
    rw [eV]
    refine qs_nl (by show ([0, 1, 2, 3] : List Nat).Nodup; decide) (qs_use (zs := [sp_v M nc t h e w]) sq3_c hL hN2 (qs_iw wr (qs_fin rfl)) (Nat.le_refl _) rfl rfl (qs_c (fun N3 hN3 hc hM => ?_) qs_z))
    have f3 : ∀ a, a < 128 → N3 a = N2 a := hM
    exact ⟨hN3, ⟨fun a ha x1 x2 x3 x4 => (f3 a ha).trans ((y2.1 a ha x1 x2 x3 x4).trans (fK a ha)), fun j hj => by rw [f3 53 (by decide), y2.2 j hj, fK 53 (by decide)]⟩, Or.inr ⟨ok, rfl⟩⟩
  · obtain ⟨c1, c2, c3, c4, c5, c6, -⟩ := hc
    have c1 : 0 ≤ c ∧ c ≤ 5 := c1
    have c2 : 0 ≤ b ∧ b ≤ 29 := c2
    have c3 : 2 ≤ w ∧ w ≤ 2147483647 := c3
    have c4 : 1 ≤ M 53 1 ∧ M 53 1 ≤ 6 := c4
    have c5 : ¬ M 53 1 < c + 1 := c5
    have c6 : ¬ b < M 53 13 := c6
    have fK : ∀ a, a < 128 → K a = B a := hM
    exact ⟨hK, yy K fK, Or.inl ⟨fun q => by have := q.2.2.2.2.2; omega, rfl⟩⟩
/-- sweeten of both sides -/
theorem fs_sp (hL : L < 2 ^ 31) (hI : la_I WF bs_cps M) (hS : fs_SS M) (wc : sx_w sx_r32 c) (wb : sx_w sx_r32 b) (ww : sx_w sx_r32 w) : fs_P WF L xs 0 87 218 [.ref 8, .int (Int32.ofInt c), .int (Int32.ofInt b), .int (Int32.ofInt w)] [.ref 53, .int (Int32.ofInt c), .int (Int32.ofInt b), .int (Int32.ofInt w)] (-2, 9) M := by
  obtain ⟨nc, H, hA⟩ := fs_toA hI hS
  obtain ⟨e1, -, -, e4, -, -, -⟩ := bs_eq hI
  have h29 : 0 ≤ M 10 210 ∧ M 10 210 ≤ 29 := hI.2.2.2.1
  have hm := hI.1
  have hw := hI.2.2.1
  have hR : vu_R M := hS.2.2.2.2.2.2.2.2
  obtain ⟨⟨a1, a2, a3, a4, a5⟩, b1, b2, b3, b4, -⟩ := id hA
  obtain ⟨t, et⟩ := Int.eq_ofNat_of_zero_le h29.1
  have eH : M 9 4 = (H : Int) := e1.trans a4
  obtain ⟨F1, v1, M1, f1, m1, x1, h1⟩ := rz_d (show 23 ≤ 99 by decide) (sp_x (xs := xs) (nc := nc) (H := H) (t := t) hL hm hw hR hA eH et (by omega) wc wb ww)
  obtain ⟨w1, r1⟩ := fs_same hw hR x1
  have hf : ∀ a, a < 128 → 53 ≤ a → M1 a = M a := fun a ha g => x1 a ha (by omega)
  obtain ⟨F2, v2, M2, f2, m2, y2, h2⟩ := rz_d (show 23 ≤ 99 by decide) (sq_y (xs := xs) (M := M) (B := M1) (nc := nc) (H := H) (t := t) hL m1 w1 r1 hA hf (by rw [← e4]; exact et) (by omega) wc wb ww)
  rw [← e1, ← e4] at h2
  obtain ⟨g1, g2⟩ := fs_q WF_zs hI hS m2 (fs_xy x1 y2)
  have rg := sp_r (M := M) (nc := nc) (t := t) (h := c.toNat) (e := b.toNat) (w := w)
  rcases h1 with ⟨k, rv⟩ | ⟨k, rv⟩
  · rcases h2 with ⟨-, rv2⟩ | ⟨k2, -⟩
    · subst rv rv2
      exact ⟨_, M1, M2, ⟨by decide, by decide⟩, Or.inl ⟨rfl, og_w32 (by decide) (by decide)⟩, ⟨F1, f1⟩, m1, ⟨F2, f2⟩, m2, g1, g2⟩
    · exact absurd k2 k
  · rcases h2 with ⟨k2, -⟩ | ⟨-, rv2⟩
    · exact absurd k k2
    · subst rv rv2
      exact ⟨_, M1, M2, rg, Or.inl ⟨rfl, og_w32 (by omega) (by omega)⟩, ⟨F1, f1⟩, m1, ⟨F2, f2⟩, m2, g1, g2⟩
end
