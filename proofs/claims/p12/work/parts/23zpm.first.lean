/-! first: the pair. -/
section
variable {L : Nat} {xs : Nat → Int32} {M M' N N' M0 M1 M2 X Y : Nat → Nat → Int} {c d w s : Int} {nc H t e h : Nat} {f f' g g' : Nat → Int} {T0 : Int × (Nat → Int)}
def fi1_i : List qs_I := [(0, 0, (0, 0), sx_r32)]
def fi1_T : List og_T := [(some 5, none, [(2, 0, 8)], [(0, 2, 0, 8), (1, 0, 9, 0)], [], [(0, (9, 0), (0, 0), 0, 0)]), (some 15, none, [(2, 0, 8)], [(0, 2, 0, 8), (1, 0, 9, 0)], [], [(0, (9, 0), (0, 0), 1, 1), (7, (9, 0), (0, 0), 0, 0)]), (none, some (0, 0, -1), [], [], [], [(7, (9, 0), (0, 0), 0, 0), (7, (9, 0), (0, 0), 1, 0)])]
theorem fi1_c : qs_chk (fun pc => bif Nat.beq pc 5 then true else Nat.beq pc 15) fi1_i 0 fi1_T 400 400 21 67 0 [(0, 2, 0, 8), (1, 0, 9, 0)] [] = true := by decide +kernel
def fi2_i : List qs_I := [(0, 0, (0, 0), sx_r32), (0, 0, (0, 0), sx_r32)]
def fi2_T : List og_T := [(none, some (0, 10, 0), [], [], [], [])]
theorem fi2_c : qs_chk (fun _ => false) fi2_i 0 fi2_T 400 400 21 67 8 [(0, 2, 0, 8), (1, 0, 9, 0)] [(0, 10, 0)] = true := by decide +kernel
def fi3_i : List qs_I := [(0, 0, (0, 0), sx_r32), (0, 0, (0, 0), sx_r32)]
def fi3_T : List og_T := [(none, some (0, 10, 0), [], [], [], [])]
theorem fi3_c : qs_chk (fun _ => false) fi3_i 0 fi3_T 400 400 21 67 18 [(0, 2, 0, 8), (1, 0, 9, 0)] [(0, 10, 0)] = true := by decide +kernel
def fa1_i : List qs_I := []
def fa1_T : List og_T := [(some 4, none, [(2, 0, 21)], [(0, 2, 0, 8)], [], [])]
theorem fa1_c : qs_chk (fun pc => Nat.beq pc 4) fa1_i 0 fa1_T 400 400 20 68 0 [(0, 2, 0, 8)] [] = true := by decide +kernel
def fa2_i : List qs_I := [(1, 10, (0, 210), (0, 29))]
def fa2_T : List og_T := [(some 15, none, [], [(0, 2, 0, 8), (1, 0, 9, 0)], [], [])]
theorem fa2_c : qs_chk (fun pc => Nat.beq pc 15) fa2_i 0 fa2_T 400 400 20 68 7 [(0, 2, 0, 8)] [] = true := by decide +kernel
def fa3_i : List qs_I := [(0, 0, (0, 0), (0, 29))]
def fa3_T : List og_T := [(some 26, none, [(0, 9, 0), (2, 0, 21)], [(0, 2, 0, 8), (1, 0, 9, 0)], [], [])]
theorem fa3_c : qs_chk (fun pc => Nat.beq pc 26) fa3_i 0 fa3_T 400 400 20 68 15 [(0, 2, 0, 8), (1, 0, 9, 0)] [] = true := by decide +kernel
def fa4_i : List qs_I := []
def fa4_T : List og_T := [(none, some (0, 0, -2), [], [], [], [])]
theorem fa4_c : qs_chk (fun _ => false) fa4_i 0 fa4_T 400 400 20 68 15 [(0, 2, 0, 8), (1, 0, 0, 30)] [] = true := by decide +kernel
def fa5_i : List qs_I := [(0, 0, (0, 0), (0, 29)), (0, 0, (0, 0), sx_r32)]
def fa5_T : List og_T := [(none, some (0, 9, 0), [], [], [], [(0, (10, 0), (0, 0), -2147483648, -1)]), (some 15, none, [], [(0, 2, 0, 8), (1, 0, 9, 1)], [], [(0, (10, 0), (0, 0), 0, 2147483647)])]
theorem fa5_c : qs_chk (fun pc => Nat.beq pc 15) fa5_i 0 fa5_T 400 400 20 68 29 [(0, 2, 0, 8), (1, 0, 9, 0)] [(0, 10, 0)] = true := by decide +kernel
def dr1_i : List qs_I := [(1, 10, (0, 210), (0, 29))]
def dr1_T : List og_T := [(some 12, none, [], [(0, 2, 0, 8), (1, 0, 9, 0), (2, 0, 9, 1)], [], [])]
theorem dr1_c : qs_chk (fun pc => Nat.beq pc 12) dr1_i 0 dr1_T 400 400 20 69 0 [(0, 2, 0, 8)] [] = true := by decide +kernel
def dr2_i : List qs_I := [(0, 0, (0, 0), (0, 29)), (0, 0, (0, 0), (0, 29)), (1, 10, (10, 150), (-1, 143))]
def dr2_T : List og_T := [(some 27, none, [(0, 11, 0)], [(0, 2, 0, 8), (1, 0, 9, 0), (2, 0, 10, 0)], [], [])]
theorem dr2_c : qs_chk (fun pc => Nat.beq pc 27) dr2_i 0 dr2_T 400 400 20 69 12 [(0, 2, 0, 8), (1, 0, 9, 0), (2, 0, 10, 0)] [] = true := by decide +kernel
def dr4_i : List qs_I := [(0, 0, (0, 0), (0, 29)), (0, 0, (0, 0), (0, 29)), (0, 0, (0, 0), (-1, 143)), (1, 10, (9, 150), (-1, 143))]
def dr4_T : List og_T := [(some 12, none, [], [(0, 2, 0, 8), (1, 0, 10, 0), (2, 0, 10, 1)], [], [(0, (11, 0), (0, 0), 0, 143), (0, (12, 0), (0, 0), -1, 142), (1, (12, 0), (11, 0), 0, 0)]), (some 12, none, [], [(0, 2, 0, 8), (1, 0, 9, 0), (2, 0, 10, 1)], [], [(2, (12, 0), (11, 0), 0, 0)])]
theorem dr4_c : qs_chk (fun pc => Nat.beq pc 12) dr4_i 0 dr4_T 400 400 20 69 27 [(0, 2, 0, 8), (1, 0, 9, 0), (2, 0, 10, 0)] [(0, 11, 0)] = true := by decide +kernel
def dr3_i : List qs_I := [(0, 0, (0, 0), (0, 29))]
def dr3_T : List og_T := [(none, some (0, 9, 0), [], [], [], [])]
theorem dr3_c : qs_chk (fun _ => false) dr3_i 0 dr3_T 400 400 20 69 12 [(0, 2, 0, 8), (1, 0, 9, 0), (2, 0, 0, 30)] [] = true := by decide +kernel
def fr1_i : List qs_I := [(0, 0, (0, 0), sx_r32)]
def fr1_T : List og_T := [(none, some (0, 0, -1), [], [], [], [(0, (9, 0), (0, 0), -2147483648, -1)]), (some 14, none, [(0, 0, 29), (2, 0, 53)], [(0, 2, 0, 53), (1, 0, 9, 0)], [], [(0, (9, 0), (0, 0), 0, 1)]), (none, some (0, 0, -1), [], [], [], [(0, (9, 0), (0, 0), 2, 2147483647)])]
theorem fr1_c : qs_chk (fun pc => Nat.beq pc 14) fr1_i 0 fr1_T 400 400 20 202 0 [(0, 2, 0, 53), (1, 0, 9, 0)] [] = true := by decide +kernel
def fr2_i : List qs_I := [(0, 0, (0, 0), (0, 1)), (1, 53, (0, 13), (0, 29))]
def fr2_T : List og_T := [(some 27, none, [], [(0, 2, 0, 53), (1, 0, 9, 0), (2, 0, 10, 0), (3, 0, 10, 0)], [], [])]
theorem fr2_c : qs_chk (fun pc => Nat.beq pc 27) fr2_i 0 fr2_T 400 400 20 202 17 [(0, 2, 0, 53), (1, 0, 9, 0)] [] = true := by decide +kernel
def fr3_i : List qs_I := [(0, 0, (0, 0), (0, 1)), (0, 0, (0, 0), (0, 29)), (0, 0, (0, 0), (0, 29)), (1, 77, (11, 0), sx_r32), (1, 61, (11, 0), (-1, 143))]
def fr3_T : List og_T := [(none, some (0, 11, 0), [], [], [], [(0, (9, 0), (0, 0), 0, 0), (0, (12, 0), (0, 0), -2147483648, -1)]), (some 54, none, [(0, 13, 0)], [(0, 2, 0, 53), (1, 0, 9, 0), (2, 0, 10, 0), (3, 0, 11, 0)], [], [(0, (9, 0), (0, 0), 0, 0), (0, (12, 0), (0, 0), 0, 2147483647)]), (some 54, none, [(0, 13, 0)], [(0, 2, 0, 53), (1, 0, 9, 0), (2, 0, 10, 0), (3, 0, 11, 0)], [], [(7, (9, 0), (0, 0), 0, 0)])]
theorem fr3_c : qs_chk (fun pc => Nat.beq pc 54) fr3_i 0 fr3_T 400 400 20 202 27 [(0, 2, 0, 53), (1, 0, 9, 0), (2, 0, 10, 0), (3, 0, 11, 0)] [] = true := by decide +kernel
def fr5_i : List qs_I := [(0, 0, (0, 0), (0, 1)), (0, 0, (0, 0), (0, 29)), (0, 0, (0, 0), (0, 29)), (0, 0, (0, 0), (-1, 143)), (1, 61, (10, 0), (-1, 143))]
def fr5_T : List og_T := [(some 27, none, [], [(0, 2, 0, 53), (1, 0, 9, 0), (2, 0, 11, 0), (3, 0, 11, 1)], [], [(0, (12, 0), (0, 0), 0, 143), (0, (13, 0), (0, 0), -1, 142), (1, (13, 0), (12, 0), 0, 0)]), (some 27, none, [], [(0, 2, 0, 53), (1, 0, 9, 0), (2, 0, 10, 0), (3, 0, 11, 1)], [], [(2, (13, 0), (12, 0), 0, 0)])]
theorem fr5_c : qs_chk (fun pc => Nat.beq pc 27) fr5_i 0 fr5_T 400 400 20 202 54 [(0, 2, 0, 53), (1, 0, 9, 0), (2, 0, 10, 0), (3, 0, 11, 0)] [(0, 12, 0)] = true := by decide +kernel
def fr4_i : List qs_I := [(0, 0, (0, 0), (0, 1)), (0, 0, (0, 0), (0, 29))]
def fr4_T : List og_T := [(none, some (0, 0, -2), [], [], [], [(0, (9, 0), (0, 0), 0, 0)]), (none, some (0, 10, 0), [], [], [], [(7, (9, 0), (0, 0), 0, 0)])]
theorem fr4_c : qs_chk (fun _ => false) fr4_i 0 fr4_T 400 400 20 202 27 [(0, 2, 0, 53), (1, 0, 9, 0), (2, 0, 10, 0), (3, 0, 0, 30)] [] = true := by decide +kernel
/-- the first day on which none is visited -/
def fd_0 (f : Nat → Int) : Nat → Nat → Int
  | 0, _ => -2
  | k + 1, d => if f d < 0 then (d : Int) else fd_0 f k (d + 1)
/-- the driest day, the first of them -/
def fd_1 (g : Nat → Int) : Nat → Nat → Nat → Nat
  | 0, _, b => b
  | k + 1, d, b => fd_1 g k (d + 1) (if g b < g d then d else b)
theorem fd_0_eq : ∀ (k d : Nat), (∀ i, d ≤ i → i < d + k → f' i = f i) → fd_0 f' k d = fd_0 f k d := by
  intro k
  induction k with
  | zero => intro d _; rfl
  | succ k ih =>
    intro d h
    show (if f' d < 0 then (d : Int) else fd_0 f' k (d + 1)) = (if f d < 0 then (d : Int) else fd_0 f k (d + 1))
    rw [h d (Nat.le_refl _) (by omega), ih (d + 1) (fun i a b => h i (by omega) (by omega))]
theorem fd_0_r : ∀ (k d : Nat), -2 ≤ fd_0 f k d ∧ fd_0 f k d < ((d + k : Nat) : Int) := by
  intro k
  induction k with
  | zero => intro d; exact ⟨by show (-2 : Int) ≤ -2; decide, by show (-2 : Int) < _; omega⟩
  | succ k ih =>
    intro d
    have i := ih (d + 1)
    show -2 ≤ (if f d < 0 then (d : Int) else fd_0 f k (d + 1)) ∧ (if f d < 0 then (d : Int) else fd_0 f k (d + 1)) < _
    split
    · exact ⟨by omega, by omega⟩
    · exact ⟨i.1, by omega⟩
theorem fd_1_eq : ∀ (k d b : Nat), (∀ i, i < 30 → g' i = g i) → d + k ≤ 30 → b < 30 → fd_1 g' k d b = fd_1 g k d b := by
  intro k
  induction k with
  | zero => intro d b _ _ _; rfl
  | succ k ih =>
    intro d b h h1 h2
    show fd_1 g' k (d + 1) (if g' b < g' d then d else b) = fd_1 g k (d + 1) (if g b < g d then d else b)
    rw [h b h2, h d (by omega)]
    exact ih (d + 1) _ h (by omega) (by split <;> omega)
theorem fd_1_r : ∀ (k d b : Nat), d + k ≤ 30 → b < 30 → fd_1 g k d b < 30 := by
  intro k
  induction k with
  | zero => intro d b _ h; exact h
  | succ k ih =>
    intro d b h1 h2
    exact ih (d + 1) _ (by omega) (by split <;> omega)
/-- whose house, of a day, as the class thinks -/
def fa_h (X : Nat → Nat → Int) (nc t : Nat) (d : Nat) : Int := vq_hs (X 11) (vs_cd X nc d (vs_T X nc (d - t) t (X 21 6, X 23)))
theorem fa_loop (hL : L < 2 ^ 31) (hw : WF X) (hR : vu_R X) (hn : X 9 5 = (nc : Int)) (h12 : nc ≤ 12) : ∀ (k d : Nat) (M' : Nat → Nat → Int), d + k = 30 → t ≤ d → sx_mok cl_ly M' → vs_F X M' → vs_P (vs_T X nc (d - t) t (X 21 6, X 23)) M' → rz_fin (fun r N => r = some (.int (Int32.ofInt (fd_0 (fa_h X nc t) k d))) ∧ sx_mok cl_ly N ∧ vs_F X N) L xs 68 20 15 [(0, .ref 8), (1, .int (Int32.ofInt (d : Int)))] [] M' := by
  intro k
  induction k with
  | zero =>
    intro d M' hd ht hm F P
    have e : d = 30 := by omega
    subst e
    exact qs_use (zs := []) fa4_c hL hm (qs_fin rfl) (Nat.le_refl _) rfl rfl (qs_c (fun N hN hc hM => ⟨rfl, hN, vs_Fr F hM⟩) qs_z)
  | succ k ih =>
    intro d M' hd ht hm F P
    refine qs_use (zs := [(d : Int)]) fa3_c hL hm (qs_in (show 0 ≤ (d : Int) ∧ (d : Int) ≤ 29 by omega) (qs_fin rfl)) (Nat.le_refl _) rfl rfl (qs_c (fun M2 hm2 hc2 hM2 => ?_) qs_z)
    have f2 : ∀ a, a < 128 → M2 a = M' a := hM2
    have F2 := vs_Fr F f2
    have P2 : vs_P (vs_T X nc (d - t) t (X 21 6, X 23)) M2 := ⟨by rw [f2 21 (by decide)]; exact P.1, fun h => by rw [f2 23 (by decide)]; exact P.2 h⟩
    show rz_fin _ L xs 68 20 26 [(0, .ref 8), (1, .int (Int32.ofInt (d : Int)))] [.int (Int32.ofInt (d : Int)), .ref 21] M2
    refine qs_vc (k := 56) (b := 21) (d := 19) (d' := 19) (rest := []) rfl rfl rfl rfl rfl rfl rfl rfl (Nat.le_refl _) rfl (rz_d (by decide) (vs_spend (xs := xs) (nc := nc) (d := d) hL hm2 (by omega) hw hR hn F2 P2)) (fun r9 M3 hr => ?_)
    obtain ⟨rfl, hm3, F3, P3⟩ := hr
    have wv := vs_w (nc := nc) (d := d) (T := vs_T X nc (d - t) t (X 21 6, X 23)) hm3 F3 h12
    refine qs_use (zs := [(d : Int), vq_or (fa_h X nc t d)]) fa5_c hL hm3 (qs_in (show 0 ≤ (d : Int) ∧ (d : Int) ≤ 29 by omega) (qs_iw wv (qs_fin rfl))) (Nat.le_refl _) rfl rfl (qs_c (fun M4 hm4 hc4 hM4 => ?_) (qs_c (fun M4 hm4 hc4 hM4 => ?_) qs_z))
    · have c1 : -2147483648 ≤ vq_or (fa_h X nc t d) ∧ vq_or (fa_h X nc t d) ≤ -1 := hc4.1
      have h0 : fa_h X nc t d < 0 := by
        by_cases h : fa_h X nc t d < 0
        · exact h
        · have : vq_or (fa_h X nc t d) = fa_h X nc t d := if_neg h
          omega
      refine ⟨?_, hm4, vs_Fr F3 (show ∀ a, a < 128 → M4 a = M3 a from hM4)⟩
      show some (Value.int (Int32.ofInt (d : Int))) = some (.int (Int32.ofInt (if fa_h X nc t d < 0 then (d : Int) else fd_0 (fa_h X nc t) k (d + 1))))
      rw [if_pos h0]
    · have c1 : 0 ≤ vq_or (fa_h X nc t d) ∧ vq_or (fa_h X nc t d) ≤ 2147483647 := hc4.1
      have h0 : ¬ fa_h X nc t d < 0 := fun h => by
        have : vq_or (fa_h X nc t d) = -2 := if_pos h
        omega
      have f4 : ∀ a, a < 128 → M4 a = M3 a := hM4
      have e : vs_T X nc (d + 1 - t) t (X 21 6, X 23) = vq_nx (vs_D X) (X 11) (vs_T X nc (d - t) t (X 21 6, X 23)) (vs_cd X nc d (vs_T X nc (d - t) t (X 21 6, X 23))) := by
        have q := vq_T_succ (D := vs_D X) (W := X 11) (lk := vs_lk X) (S := X 21 8) (nc := nc) (d - t) t (X 21 6, X 23)
        rw [show t + (d - t) = d by omega, show d - t + 1 = d + 1 - t by omega] at q
        exact q
      have P4 : vs_P (vs_T X nc (d + 1 - t) t (X 21 6, X 23)) M4 := by
        rw [e]
        exact ⟨by rw [f4 21 (by decide)]; exact P3.1, fun h => by rw [f4 23 (by decide)]; exact P3.2 h⟩
      have g := ih (d + 1) M4 (by omega) (by omega) hm4 (vs_Fr F3 f4) P4
      have e0 : fd_0 (fa_h X nc t) (k + 1) d = fd_0 (fa_h X nc t) k (d + 1) := if_neg h0
      rw [e0]
      exact g
theorem fa_x (hL : L < 2 ^ 31) (hm : sx_mok cl_ly M) (hw : WF M) (hR : vu_R M) (hn : M 9 5 = (nc : Int)) (h12 : nc ≤ 12) (ht : M 10 210 = (t : Int)) (h29 : t ≤ 29) : rz_fin (fun r N => ∃ X, pb_Q M none X ∧ vs_F X N ∧ sx_mok cl_ly N ∧ r = some (.int (Int32.ofInt (fd_0 (fa_h X nc t) (30 - t) t)))) L xs 68 20 0 [(0, .ref 8)] [] M := by
  refine qs_use (zs := []) fa1_c hL hm (qs_fin rfl) (Nat.le_refl _) rfl rfl (qs_c (fun M2 hm2 hc2 hM2 => ?_) qs_z)
  show rz_fin _ L xs 68 20 4 [(0, .ref 8)] [.ref 21] M2
  refine qs_vc (k := 54) (b := 21) (d := 19) (d' := 19) (rest := []) rfl rfl rfl rfl rfl rfl rfl rfl (Nat.le_refl _) rfl (rz_d (by decide) (pb_begin (xs := xs) hL hm2)) (fun r9 X hX => ?_)
  have hr : r9 = none := hX.1
  subst hr
  have hX := pb_tr (show ∀ a, a < 128 → M2 a = M a from hM2) hX
  have x10 : X 10 = M 10 := hX.2.2.1 10 (by decide) (by decide) (by decide)
  refine qs_use (zs := [(t : Int)]) fa2_c hL hX.2.1 (qs_rd (show (0 : Int) ≤ 210 by decide) (by rw [x10]; exact ht) (show 0 ≤ (t : Int) ∧ (t : Int) ≤ 29 by omega) (qs_fin rfl)) (Nat.le_refl _) rfl rfl (qs_c (fun M4 hm4 hc4 hM4 => ?_) qs_z)
  have hX := pb_tl hX hm4 (show ∀ a, a < 128 → M4 a = X a from hM4)
  obtain ⟨wX, rX⟩ := pb_keep hw hR hX
  have x9 : M4 9 = M 9 := hX.2.2.1 9 (by decide) (by decide) (by decide)
  refine qs_w (fa_loop (xs := xs) (t := t) hL wX rX (by rw [x9]; exact hn) h12 (30 - t) t M4 (by omega) (Nat.le_refl _) hm4 vs_F_rfl (by rw [Nat.sub_self]; exact ⟨rfl, fun h => rfl⟩)) (fun r N g => ?_)
  obtain ⟨rfl, g2, g3⟩ := g
  exact ⟨M4, hX, g3, g2, rfl⟩
theorem dr_loop (hL : L < 2 ^ 31) (hm0 : sx_mok cl_ly M) : ∀ (k d b : Nat) (M' : Nat → Nat → Int), d + k = 30 → b ≤ 29 → sx_mok cl_ly M' → (∀ a, a < 128 → M' a = M a) → rz_fin (fun r N => r = some (.int (Int32.ofInt ((fd_1 (fun i => M 10 (150 + i)) k d b : Nat) : Int))) ∧ sx_mok cl_ly N ∧ ∀ a, a < 128 → N a = M a) L xs 69 20 12 [(0, .ref 8), (1, .int (Int32.ofInt (b : Int))), (2, .int (Int32.ofInt (d : Int)))] [] M' := by
  intro k
  induction k with
  | zero =>
    intro d b M' hd hb hm hf
    have e : d = 30 := by omega
    subst e
    exact qs_use (zs := [(b : Int)]) dr3_c hL hm (qs_in (show 0 ≤ (b : Int) ∧ (b : Int) ≤ 29 by omega) (qs_fin rfl)) (Nat.le_refl _) rfl rfl (qs_c (fun N hN hc hM => ⟨rfl, hN, fun a ha => ((show ∀ a, a < 128 → N a = M' a from hM) a ha).trans (hf a ha)⟩) qs_z)
  | succ k ih =>
    intro d b M' hd hb hm hf
    have w1 := cx_m10 hm0 (k := 150 + d) (by omega)
    have w2 := cx_m10 hm0 (k := 150 + b) (by omega)
    have t1 : ((d : Int) + 150).toNat = 150 + d := by omega
    have t2 : ((b : Int) + 150).toNat = 150 + b := by omega
    refine qs_use (zs := [(b : Int), (d : Int), M 10 (150 + d)]) dr2_c hL hm (qs_in (show 0 ≤ (b : Int) ∧ (b : Int) ≤ 29 by omega) (qs_in (show 0 ≤ (d : Int) ∧ (d : Int) ≤ 29 by omega) (qs_rd (show 0 ≤ (d : Int) + 150 by omega) (by
      show M' 10 ((d : Int) + 150).toNat = M 10 (150 + d)
      rw [hf 10 (by decide), t1]) w1 (qs_fin rfl)))) (Nat.le_refl _) rfl rfl (qs_c (fun M2 hm2 hc2 hM2 => ?_) qs_z)
    have f2 : ∀ a, a < 128 → M2 a = M a := fun a ha => ((show ∀ a, a < 128 → M2 a = M' a from hM2) a ha).trans (hf a ha)
    refine qs_use (zs := [(b : Int), (d : Int), M 10 (150 + d), M 10 (150 + b)]) dr4_c hL hm2 (qs_in (show 0 ≤ (b : Int) ∧ (b : Int) ≤ 29 by omega) (qs_in (show 0 ≤ (d : Int) ∧ (d : Int) ≤ 29 by omega) (qs_iw w1 (qs_rd (show 0 ≤ (b : Int) + 150 by omega) (by
      show M2 10 ((b : Int) + 150).toNat = M 10 (150 + b)
      rw [f2 10 (by decide), t2]) w2 (qs_fin rfl))))) (Nat.le_refl _) rfl rfl (qs_c (fun M4 hm4 hc4 hM4 => ?_) (qs_c (fun M4 hm4 hc4 hM4 => ?_) qs_z))
    · have c1 : M 10 (150 + b) < M 10 (150 + d) := hc4.2.2.1
      have f4 : ∀ a, a < 128 → M4 a = M a := fun a ha => ((show ∀ a, a < 128 → M4 a = M2 a from hM4) a ha).trans (f2 a ha)
      have e0 : fd_1 (fun i => M 10 (150 + i)) (k + 1) d b = fd_1 (fun i => M 10 (150 + i)) k (d + 1) d := by
        show fd_1 _ k (d + 1) (if M 10 (150 + b) < M 10 (150 + d) then d else b) = _
        rw [if_pos c1]
      rw [e0]
      exact ih (d + 1) d M4 (by omega) (by omega) hm4 f4
    · have c1 : ¬ M 10 (150 + b) < M 10 (150 + d) := hc4.1
      have f4 : ∀ a, a < 128 → M4 a = M a := fun a ha => ((show ∀ a, a < 128 → M4 a = M2 a from hM4) a ha).trans (f2 a ha)
      have e0 : fd_1 (fun i => M 10 (150 + i)) (k + 1) d b = fd_1 (fun i => M 10 (150 + i)) k (d + 1) b := by
        show fd_1 _ k (d + 1) (if M 10 (150 + b) < M 10 (150 + d) then d else b) = _
        rw [if_neg c1]
      rw [e0]
      exact ih (d + 1) b M4 (by omega) hb hm4 f4
theorem dr_x (hL : L < 2 ^ 31) (hm : sx_mok cl_ly M) (ht : M 10 210 = (t : Int)) (h29 : t ≤ 29) : rz_fin (fun r N => r = some (.int (Int32.ofInt ((fd_1 (fun i => M 10 (150 + i)) (29 - t) (t + 1) t : Nat) : Int))) ∧ sx_mok cl_ly N ∧ ∀ a, a < 128 → N a = M a) L xs 69 20 0 [(0, .ref 8)] [] M := by
  refine qs_use (zs := [(t : Int)]) dr1_c hL hm (qs_rd (show (0 : Int) ≤ 210 by decide) ht (show 0 ≤ (t : Int) ∧ (t : Int) ≤ 29 by omega) (qs_fin rfl)) (Nat.le_refl _) rfl rfl (qs_c (fun M2 hm2 hc2 hM2 => ?_) qs_z)
  exact dr_loop (xs := xs) hL hm (29 - t) (t + 1) t M2 (by omega) h29 hm2 hM2
theorem fi_x (hL : L < 2 ^ 31) (hm : sx_mok cl_ly M) (hw : WF M) (hR : vu_R M) (hn : M 9 5 = (nc : Int)) (h12 : nc ≤ 12) (ht : M 10 210 = (t : Int)) (h29 : t ≤ 29) (ww : sx_w sx_r32 w) : rz_fin (fun r N => sx_mok cl_ly N ∧ ((w = 0 ∧ ∃ X, pb_Q M none X ∧ vs_F X N ∧ r = some (.int (Int32.ofInt (fd_0 (fa_h X nc t) (30 - t) t)))) ∨ (w = 1 ∧ r = some (.int (Int32.ofInt ((fd_1 (fun i => M 10 (150 + i)) (29 - t) (t + 1) t : Nat) : Int))) ∧ ∀ a, a < 128 → N a = M a) ∨ (w ≠ 0 ∧ w ≠ 1 ∧ r = some (.int (Int32.ofInt (-1))) ∧ ∀ a, a < 128 → N a = M a))) L xs 67 21 0 [(0, .ref 8), (1, .int (Int32.ofInt w))] [] M := by
  refine qs_use (zs := [w]) fi1_c hL hm (qs_iw ww (qs_fin rfl)) (Nat.le_refl _) rfl rfl (qs_c (fun M2 hm2 hc hM => ?_) (qs_c (fun M2 hm2 hc hM => ?_) (qs_c (fun M2 hm2 hc hM => ?_) qs_z)))
  · have c1 : 0 ≤ w ∧ w ≤ 0 := hc.1
    have f2 : ∀ a, a < 128 → M2 a = M a := hM
    obtain ⟨w2, r2⟩ := wr_same hw hR f2
    show rz_fin _ L xs 67 21 5 [(0, .ref 8), (1, .int (Int32.ofInt w))] [.ref 8] M2
    refine qs_vc (k := 68) (b := 8) (d := 20) (d' := 20) (rest := []) rfl rfl rfl rfl rfl rfl rfl rfl (Nat.le_refl _) rfl (fa_x (xs := xs) (nc := nc) (t := t) hL hm2 w2 r2 (by rw [f2 9 (by decide)]; exact hn) h12 (by rw [f2 10 (by decide)]; exact ht) h29) (fun r9 M3 hr => ?_)
    obtain ⟨X, hX, F3, hm3, rfl⟩ := hr
    have hX := pb_tr f2 hX
    have r0 := fd_0_r (f := fa_h X nc t) (30 - t) t
    have wr : sx_w sx_r32 (fd_0 (fa_h X nc t) (30 - t) t) := og_w32 (by omega) (by omega)
    refine qs_use (zs := [w, fd_0 (fa_h X nc t) (30 - t) t]) fi2_c hL hm3 (qs_iw ww (qs_iw wr (qs_fin rfl))) (Nat.le_refl _) rfl rfl (qs_c (fun M4 hm4 hc4 hM4 => ?_) qs_z)
    exact ⟨hm4, Or.inl ⟨by omega, X, hX, vs_Fr F3 hM4, rfl⟩⟩
  · have c1 : 1 ≤ w ∧ w ≤ 1 := hc.1
    have f2 : ∀ a, a < 128 → M2 a = M a := hM
    show rz_fin _ L xs 67 21 15 [(0, .ref 8), (1, .int (Int32.ofInt w))] [.ref 8] M2
    refine qs_vc (k := 69) (b := 8) (d := 20) (d' := 20) (rest := []) rfl rfl rfl rfl rfl rfl rfl rfl (Nat.le_refl _) rfl (dr_x (xs := xs) (t := t) hL hm2 (by rw [f2 10 (by decide)]; exact ht) h29) (fun r9 M3 hr => ?_)
    obtain ⟨rfl, hm3, f3⟩ := hr
    rw [f2 10 (by decide)]
    have r0 := fd_1_r (g := fun i => M 10 (150 + i)) (29 - t) (t + 1) t (by omega) (by omega)
    have wr : sx_w sx_r32 ((fd_1 (fun i => M 10 (150 + i)) (29 - t) (t + 1) t : Nat) : Int) := og_w32 (by omega) (by omega)
    refine qs_use (zs := [w, ((fd_1 (fun i => M 10 (150 + i)) (29 - t) (t + 1) t : Nat) : Int)]) fi3_c hL hm3 (qs_iw ww (qs_iw wr (qs_fin rfl))) (Nat.le_refl _) rfl rfl (qs_c (fun M4 hm4 hc4 hM4 => ?_) qs_z)
    exact ⟨hm4, Or.inr (Or.inl ⟨by omega, rfl, fun a ha => (((show ∀ a, a < 128 → M4 a = M3 a from hM4) a ha).trans (f3 a ha)).trans (f2 a ha)⟩)⟩
  · obtain ⟨c1, c2, -⟩ := hc
    exact ⟨hm2, Or.inr (Or.inr ⟨c1, c2, rfl, hM⟩)⟩
theorem fr_loop {w : Int} (hL : L < 2 ^ 31) (hm0 : sx_mok cl_ly M) (w0 : 0 ≤ w) (w1 : w ≤ 1) : ∀ (k d b : Nat) (M' : Nat → Nat → Int), d + k = 30 → b ≤ 29 → sx_mok cl_ly M' → (∀ a, a < 128 → M' a = M a) → rz_fin (fun r N => r = some (.int (Int32.ofInt (if w = 0 then fd_0 (M 77) k d else ((fd_1 (M 61) k d b : Nat) : Int)))) ∧ sx_mok cl_ly N ∧ ∀ a, a < 128 → N a = M a) L xs 202 20 27 [(0, .ref 53), (1, .int (Int32.ofInt w)), (2, .int (Int32.ofInt (b : Int))), (3, .int (Int32.ofInt (d : Int)))] [] M' := by
  intro k
  induction k with
  | zero =>
    intro d b M' hd hb hm hf
    have e : d = 30 := by omega
    subst e
    refine qs_use (zs := [w, (b : Int)]) fr4_c hL hm (qs_in (show 0 ≤ w ∧ w ≤ 1 from ⟨w0, w1⟩) (qs_in (show 0 ≤ (b : Int) ∧ (b : Int) ≤ 29 by omega) (qs_fin rfl))) (Nat.le_refl _) rfl rfl (qs_c (fun N hN hc hM => ?_) (qs_c (fun N hN hc hM => ?_) qs_z))
    · have c1 : 0 ≤ w ∧ w ≤ 0 := hc.1
      refine ⟨?_, hN, fun a ha => ((show ∀ a, a < 128 → N a = M' a from hM) a ha).trans (hf a ha)⟩
      rw [if_pos (show w = 0 by omega)]
      rfl
    · have c1 : w ≠ 0 := hc.1
      refine ⟨?_, hN, fun a ha => ((show ∀ a, a < 128 → N a = M' a from hM) a ha).trans (hf a ha)⟩
      rw [if_neg c1]
      rfl
  | succ k ih =>
    intro d b M' hd hb hm hf
    have w77 : sx_w sx_r32 (M 77 d) := hm0 77 _ d _ rfl (by show d < 30; omega) rfl
    have w61 : ∀ i, i < 30 → sx_w (-1, 143) (M 61 i) := fun i hi => hm0 61 _ i _ rfl hi rfl
    -- the second half: which is driest
    have half : ∀ M2 : Nat → Nat → Int, sx_mok cl_ly M2 → (∀ a, a < 128 → M2 a = M a) → ¬ (w = 0 ∧ M 77 d < 0) → rz_fin (fun r N => r = some (.int (Int32.ofInt (if w = 0 then fd_0 (M 77) (k + 1) d else ((fd_1 (M 61) (k + 1) d b : Nat) : Int)))) ∧ sx_mok cl_ly N ∧ ∀ a, a < 128 → N a = M a) L xs 202 20 54 [(0, .ref 53), (1, .int (Int32.ofInt w)), (2, .int (Int32.ofInt (b : Int))), (3, .int (Int32.ofInt (d : Int)))] [.int (Int32.ofInt (M 61 d))] M2 := fun M2 hm2 f2 hn => by
      have e0 : (if w = 0 then fd_0 (M 77) (k + 1) d else ((fd_1 (M 61) (k + 1) d b : Nat) : Int)) = (if w = 0 then fd_0 (M 77) k (d + 1) else ((fd_1 (M 61) k (d + 1) (if M 61 b < M 61 d then d else b) : Nat) : Int)) := by
        by_cases h0 : w = 0
        · rw [if_pos h0, if_pos h0]
          exact if_neg (fun q => hn ⟨h0, q⟩)
        · rw [if_neg h0, if_neg h0]
          rfl
      rw [e0]
      refine qs_use (zs := [w, (b : Int), (d : Int), M 61 d, M 61 b]) fr5_c hL hm2 (qs_in (show 0 ≤ w ∧ w ≤ 1 from ⟨w0, w1⟩) (qs_in (show 0 ≤ (b : Int) ∧ (b : Int) ≤ 29 by omega) (qs_in (show 0 ≤ (d : Int) ∧ (d : Int) ≤ 29 by omega) (qs_iw (w61 d (by omega)) (qs_rd (show 0 ≤ (b : Int) by omega) (by rw [f2 61 (by decide)]; rfl) (w61 b (by omega)) (qs_fin rfl)))))) (Nat.le_refl _) rfl rfl (qs_c (fun M4 hm4 hc4 hM4 => ?_) (qs_c (fun M4 hm4 hc4 hM4 => ?_) qs_z))
      · have c1 : M 61 b < M 61 d := hc4.2.2.1
        rw [if_pos c1]
        exact ih (d + 1) d M4 (by omega) (by omega) hm4 (fun a ha => ((show ∀ a, a < 128 → M4 a = M2 a from hM4) a ha).trans (f2 a ha))
      · have c1 : ¬ M 61 b < M 61 d := hc4.1
        rw [if_neg c1]
        exact ih (d + 1) b M4 (by omega) hb hm4 (fun a ha => ((show ∀ a, a < 128 → M4 a = M2 a from hM4) a ha).trans (f2 a ha))
    refine qs_use (zs := [w, (b : Int), (d : Int), M 77 d, M 61 d]) fr3_c hL hm (qs_in (show 0 ≤ w ∧ w ≤ 1 from ⟨w0, w1⟩) (qs_in (show 0 ≤ (b : Int) ∧ (b : Int) ≤ 29 by omega) (qs_in (show 0 ≤ (d : Int) ∧ (d : Int) ≤ 29 by omega) (qs_rd (show 0 ≤ (d : Int) by omega) (by rw [hf 77 (by decide)]; rfl) w77 (qs_rd (show 0 ≤ (d : Int) by omega) (by rw [hf 61 (by decide)]; rfl) (w61 d (by omega)) (qs_fin rfl)))))) (Nat.le_refl _) rfl rfl (qs_c (fun M2 hm2 hc hM => ?_) (qs_c (fun M2 hm2 hc hM => ?_) (qs_c (fun M2 hm2 hc hM => ?_) qs_z)))
    · obtain ⟨c1, c2, -⟩ := hc
      have c1 : 0 ≤ w ∧ w ≤ 0 := c1
      have c2 : -2147483648 ≤ M 77 d ∧ M 77 d ≤ -1 := c2
      refine ⟨?_, hm2, fun a ha => ((show ∀ a, a < 128 → M2 a = M' a from hM) a ha).trans (hf a ha)⟩
      show some (Value.int (Int32.ofInt (d : Int))) = some (.int (Int32.ofInt (if w = 0 then (if M 77 d < 0 then (d : Int) else fd_0 (M 77) k (d + 1)) else ((fd_1 (M 61) (k + 1) d b : Nat) : Int))))
      rw [if_pos (show w = 0 by omega), if_pos (show M 77 d < 0 by omega)]
    · obtain ⟨c1, c2, -⟩ := hc
      have c2 : 0 ≤ M 77 d ∧ M 77 d ≤ 2147483647 := c2
      exact half M2 hm2 (fun a ha => ((show ∀ a, a < 128 → M2 a = M' a from hM) a ha).trans (hf a ha)) (fun q => by have := q.2; omega)
    · have c1 : w ≠ 0 := hc.1
      exact half M2 hm2 (fun a ha => ((show ∀ a, a < 128 → M2 a = M' a from hM) a ha).trans (hf a ha)) (fun q => c1 q.1)
theorem fr_y1 (hL : L < 2 ^ 31) (hm : sx_mok cl_ly M) (hw : WF M) (hR : vu_R M) (hH : M 53 1 = (H : Int)) (hn : M 53 8 = (nc : Int)) (ht : M 53 13 = (t : Int)) (h29 : t ≤ 29) (w0 : 0 ≤ w) (w1 : w ≤ 1) : rz_fin (fun r N => ∃ Y, my_Q M H none Y ∧ ms_F Y N ∧ sx_mok cl_ly N ∧ mt_on Y nc (30 - t) t N ∧ r = some (.int (Int32.ofInt (if w = 0 then fd_0 (N 77) (30 - t) t else ((fd_1 (M 61) (30 - t) t t : Nat) : Int))))) L xs 202 20 0 [(0, .ref 53), (1, .int (Int32.ofInt w))] [] M := by
  refine qs_use (zs := [w]) fr1_c hL hm (qs_iw (og_w32 (show -2147483648 ≤ w by omega) (show w ≤ 2147483647 by omega)) (qs_fin rfl)) (Nat.le_refl _) rfl rfl (qs_c (fun M2 hm2 hc hM => ?_) (qs_c (fun M2 hm2 hc hM => ?_) (qs_c (fun M2 hm2 hc hM => ?_) qs_z)))
  · exfalso
    have c1 : -2147483648 ≤ w ∧ w ≤ -1 := hc.1
    omega
  · have f2 : ∀ a, a < 128 → M2 a = M a := hM
    obtain ⟨w2, r2⟩ := wr_same hw hR f2
    have o53 : M2 53 = M 53 := f2 53 (by decide)
    show rz_fin _ L xs 202 20 14 [(0, .ref 53), (1, .int (Int32.ofInt w))] [.int (Int32.ofInt 29), .ref 53] M2
    refine qs_vc (k := 190) (b := 53) (d := 19) (d' := 19) (rest := []) rfl rfl rfl rfl rfl rfl rfl rfl (Nat.le_refl _) rfl (rz_d (by decide) (mt_goto (xs := xs) (H := H) (nc := nc) (t := t) (k := 30 - t) (e := 29) hL hm2 (by decide) w2 r2 (by rw [o53]; exact hH) (by rw [o53]; exact hn) (by rw [o53]; exact ht) (by omega))) (fun r9 M3 hr => ?_)
    obtain ⟨rfl, hm3, Y, hY, wY, rY, F3, P3, O3⟩ := hr
    have hY := my_tr f2 hY
    have z13 : M3 53 13 = (t : Int) := by rw [F3.2 13 (by decide), hY.2.2.2.1 13 (by decide) (by decide)]; exact ht
    have z61 : M3 61 = M 61 := by rw [F3.1 61 (by decide) (by decide) (by decide) (by decide) (by decide), hY.2.2.1 61 (by decide) (by decide) (by decide)]
    refine qs_use (zs := [w, (t : Int)]) fr2_c hL hm3 (qs_in (show 0 ≤ w ∧ w ≤ 1 from ⟨w0, w1⟩) (qs_rd (show (0 : Int) ≤ 13 by decide) z13 (show 0 ≤ (t : Int) ∧ (t : Int) ≤ 29 by omega) (qs_fin rfl))) (Nat.le_refl _) rfl rfl (qs_c (fun M4 hm4 hc4 hM4 => ?_) qs_z)
    refine qs_w (fr_loop (xs := xs) hL hm3 w0 w1 (30 - t) t t M4 (by omega) h29 hm4 hM4) (fun r N g => ?_)
    obtain ⟨rfl, hN, fN⟩ := g
    refine ⟨Y, hY, ms_Fr F3 fN, hN, fun i hi => ?_, ?_⟩
    · rw [fN 76 (by decide), fN 77 (by decide)]
      exact O3 i hi
    · rw [fN 77 (by decide), z61]
  · exfalso
    have c1 : 2 ≤ w ∧ w ≤ 2147483647 := hc.1
    omega
theorem fr_y0 (hL : L < 2 ^ 31) (hm : sx_mok cl_ly M) (ww : sx_w sx_r32 w) (hp : ¬ (0 ≤ w ∧ w ≤ 1)) : rz_fin (fun r M' => r = some (.int (Int32.ofInt (-1))) ∧ sx_mok cl_ly M' ∧ ∀ a, a < 128 → M' a = M a) L xs 202 20 0 [(0, .ref 53), (1, .int (Int32.ofInt w))] [] M := by
  refine qs_use (zs := [w]) fr1_c hL hm (qs_iw ww (qs_fin rfl)) (Nat.le_refl _) rfl rfl (qs_c (fun M2 hm2 hc hM => ?_) (qs_c (fun M2 hm2 hc hM => ?_) (qs_c (fun M2 hm2 hc hM => ?_) qs_z)))
  · exact ⟨rfl, hm2, hM⟩
  · exfalso
    have c1 : 0 ≤ w ∧ w ≤ 1 := hc.1
    exact hp c1
  · exact ⟨rfl, hm2, hM⟩
/-- first of both sides -/
theorem fs_fi (hL : L < 2 ^ 31) (hI : la_I WF bs_cps M) (hS : fs_SS M) (ww : sx_w sx_r32 w) : fs_P WF L xs 0 67 202 [.ref 8, .int (Int32.ofInt w)] [.ref 53, .int (Int32.ofInt w)] (-2, 29) M := by
  obtain ⟨nc, H, hA⟩ := fs_toA hI hS
  obtain ⟨-, -, -, e4, -, -, -⟩ := bs_eq hI
  have h29 : 0 ≤ M 10 210 ∧ M 10 210 ≤ 29 := hI.2.2.2.1
  have hm := hI.1
  have hw := hI.2.2.1
  have hR : vu_R M := hS.2.2.2.2.2.2.2.2
  obtain ⟨⟨a1, a2, a3, a4, a5⟩, b1, b2, b3, -⟩ := id hA
  obtain ⟨t, et⟩ := Int.eq_ofNat_of_zero_le h29.1
  obtain ⟨F1, v1, M1, f1, m1, h1⟩ := rz_d (show 21 ≤ 99 by decide) (fi_x (xs := xs) (nc := nc) (t := t) hL hm hw hR a1 a3 et (by omega) ww)
  rcases h1 with ⟨w0, X, hX, FX, rv⟩ | ⟨w0, rv, fN⟩ | ⟨w0, w1, rv, fN⟩
  · have x1 := vs_x hX FX
    obtain ⟨w1, r1⟩ := fs_same hw hR x1
    have o53 : M1 53 = M 53 := x1 53 (by decide) (by decide)
    obtain ⟨F2, v2, M2, f2, Y, hY, FY, m2, O2, rv2⟩ := rz_d (show 20 ≤ 99 by decide) (fr_y1 (xs := xs) (nc := nc) (H := H) (t := t) (w := w) hL m1 w1 r1 (by rw [o53]; exact a4) (by rw [o53]; exact a2) (by rw [o53, ← e4]; exact et) (by omega) (by omega) (by omega))
    have hf : ∀ a, a < 128 → 53 ≤ a → M1 a = M a := fun a ha g => x1 a ha (by omega)
    rw [if_pos w0, fd_0_eq (f' := M2 77) (f := fa_h X nc t) (30 - t) t (fun i h1 h2 => ?_)] at rv2
    · subst rv rv2
      obtain ⟨g1, g2⟩ := fs_q WF_zs hI hS m2 (fs_xy x1 (ms_y hY FY))
      have r0 := fd_0_r (f := fa_h X nc t) (30 - t) t
      exact ⟨_, M1, M2, ⟨r0.1, by show _ ≤ (29 : Int); omega⟩, Or.inl ⟨rfl, og_w32 (by omega) (by omega)⟩, ⟨F1, f1⟩, m1, ⟨F2, f2⟩, m2, g1, g2⟩
    · have o := (O2 (i - t) (by omega)).2
      have E := (fs_T hA hX hf hY (i - t) t (by omega)).2 (by omega)
      rw [show t + (i - t) = i by omega] at o E
      rw [o, E.1]
      exact E.2
  · have o53 : M1 53 = M 53 := fN 53 (by decide)
    obtain ⟨w2, r2⟩ := wr_same hw hR fN
    obtain ⟨F2, v2, M2, f2, Y, hY, FY, m2, -, rv2⟩ := rz_d (show 20 ≤ 99 by decide) (fr_y1 (xs := xs) (nc := nc) (H := H) (t := t) (w := w) hL m1 w2 r2 (by rw [o53]; exact a4) (by rw [o53]; exact a2) (by rw [o53, ← e4]; exact et) (by omega) (by omega) (by omega))
    have eg : fd_1 (M1 61) (30 - t) t t = fd_1 (fun i => M 10 (150 + i)) (29 - t) (t + 1) t := by
      rw [fd_1_eq (g := fun i => M 10 (150 + i)) (30 - t) t t (fun i hi => by
        show M1 61 i = M 10 (150 + i)
        rw [fN 61 (by decide), b3 i hi, Nat.add_comm]) (by omega) (by omega), show 30 - t = (29 - t) + 1 by omega]
      show fd_1 _ (29 - t) (t + 1) (if M 10 (150 + t) < M 10 (150 + t) then t else t) = _
      rw [if_neg (Int.lt_irrefl _)]
    rw [if_neg (by omega), eg] at rv2
    subst rv rv2
    obtain ⟨g1, g2⟩ := fs_q WF_zs hI hS m2 (fs_xy (fun a ha _ => fN a ha) (ms_y hY FY))
    have r0 := fd_1_r (g := fun i => M 10 (150 + i)) (29 - t) (t + 1) t (by omega) (by omega)
    exact ⟨_, M1, M2, ⟨by show (-2 : Int) ≤ _; omega, by show _ ≤ (29 : Int); omega⟩, Or.inl ⟨rfl, og_w32 (by omega) (by omega)⟩, ⟨F1, f1⟩, m1, ⟨F2, f2⟩, m2, g1, g2⟩
  · obtain ⟨F2, v2, M2, f2, rv2, m2, fN2⟩ := rz_d (show 20 ≤ 99 by decide) (fr_y0 (xs := xs) (w := w) hL m1 ww (by omega))
    subst rv rv2
    obtain ⟨g1, g2⟩ := fs_q WF_zs hI hS m2 ⟨fun a ha _ => (fN2 a ha).trans (fN a ha), fun j _ => by rw [fN2 53 (by decide), fN 53 (by decide)]⟩
    exact ⟨_, M1, M2, ⟨by decide, by decide⟩, Or.inl ⟨rfl, og_w32 (by decide) (by decide)⟩, ⟨F1, f1⟩, m1, ⟨F2, f2⟩, m2, g1, g2⟩
end
