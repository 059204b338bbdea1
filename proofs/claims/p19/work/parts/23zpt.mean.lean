/-! mean: both sides. -/
section
variable {L : Nat} {xs : Nat → Int32} {M M' N N' M1 X Y : Nat → Nat → Int} {k n t h d nc H i : Nat} {b c p : Int} {f : Nat → Int} {Q : Option Value → (Nat → Nat → Int) → Prop}
def me1_i : List qs_I := [(0, 0, (0, 0), sx_r32), (0, 0, (0, 0), sx_r32)]
def me1_T : List og_T := [(none, some (1, 0, -9223372036854775808), [], [], [], [(0, (9, 0), (0, 0), -2147483648, -1)]), (none, some (1, 0, -9223372036854775808), [], [], [], [(0, (9, 0), (0, 0), 5, 2147483647)]), (some 25, none, [(0, 9, 0), (2, 0, 21)], [(0, 2, 0, 8), (1, 0, 9, 0), (2, 0, 10, 0)], [], [(0, (9, 0), (0, 0), 0, 4), (0, (10, 0), (0, 0), 0, 0)]), (none, some (1, 0, -9223372036854775808), [], [], [], [(0, (9, 0), (0, 0), 0, 4), (7, (10, 0), (0, 0), 0, 0), (7, (10, 0), (0, 0), 1, 0)]), (some 25, none, [(0, 9, 0), (2, 0, 21)], [(0, 2, 0, 8), (1, 0, 9, 0), (2, 0, 10, 0)], [], [(0, (9, 0), (0, 0), 0, 4), (0, (10, 0), (0, 0), 1, 1), (7, (10, 0), (0, 0), 0, 0)])]
theorem me1_c : qs_chk (fun pc => Nat.beq pc 25) me1_i 0 me1_T 400 400 21 76 0 [(0, 2, 0, 8), (1, 0, 9, 0), (2, 0, 10, 0)] [] = true := by decide +kernel
def me2_i : List qs_I := [(0, 0, (0, 0), (0, 4)), (0, 0, (0, 0), (0, 1))]
def me2_T : List og_T := [(some 33, none, [], [(0, 2, 0, 8), (1, 0, 9, 0), (2, 0, 10, 0), (3, 1, 0, 0), (5, 0, 0, 0)], [], [])]
theorem me2_c : qs_chk (fun pc => Nat.beq pc 33) me2_i 0 me2_T 400 400 21 76 28 [(0, 2, 0, 8), (1, 0, 9, 0), (2, 0, 10, 0)] [] = true := by decide +kernel
def me3_i : List qs_I := [(0, 0, (0, 0), (0, 4)), (0, 0, (0, 0), (0, 1)), (0, 0, (0, 0), sx_r64), (0, 0, (0, 0), (0, 5)), (1, 9, (0, 4), (0, 6)), (2, 13, (12, 0), (0, 0)), (1, 9, (0, 6), sx_r32), (1, 21, (0, 5), sx_r64), (1, 24, (12, 0), sx_r64)]
def me3_T : List og_T := [(some 33, none, [], [(0, 2, 0, 8), (1, 0, 9, 0), (2, 0, 10, 0), (3, 1, 20, 0), (5, 0, 12, 1)], [], [(0, (18, 0), (0, 0), 1, 1), (5, (14, 0), (12, 0), 10, 17), (5, (17, 0), (0, 1), 3, 18), (5, (15, 0), (16, 0), 33, 19), (5, (11, 0), (19, 0), 32, 20)]), (some 33, none, [], [(0, 2, 0, 8), (1, 0, 9, 0), (2, 0, 10, 0), (3, 1, 11, 0), (5, 0, 12, 1)], [], [(7, (18, 0), (0, 0), 1, 0), (5, (14, 0), (12, 0), 10, 17), (5, (17, 0), (0, 1), 3, 18)])]
theorem me3_c : qs_chk (fun pc => Nat.beq pc 33) me3_i 4 me3_T 400 400 21 76 33 [(0, 2, 0, 8), (1, 0, 9, 0), (2, 0, 10, 0), (3, 1, 11, 0), (5, 0, 12, 0)] [] = true := by decide +kernel
def me4_i : List qs_I := [(0, 0, (0, 0), (0, 4)), (0, 0, (0, 0), (0, 1)), (0, 0, (0, 0), sx_r64), (0, 0, (0, 0), (0, 6)), (1, 9, (0, 4), (0, 6)), (3, 13, (12, 0), (0, 0)), (1, 21, (0, 5), sx_r64)]
def me4_T : List og_T := [(some 97, none, [(0, 10, 0), (1, 14, 0), (1, 11, 0)], [(0, 2, 0, 8), (1, 0, 9, 0), (2, 0, 10, 0)], [], [])]
theorem me4_c : qs_chk (fun pc => Nat.beq pc 97) me4_i 0 me4_T 400 400 21 76 33 [(0, 2, 0, 8), (1, 0, 9, 0), (2, 0, 10, 0), (3, 1, 11, 0), (5, 0, 12, 0)] [] = true := by decide +kernel
def me5_i : List qs_I := [(0, 0, (0, 0), sx_r64)]
def me5_T : List og_T := [(none, some (1, 9, 0), [], [], [], [])]
theorem me5_c : qs_chk (fun _ => false) me5_i 0 me5_T 400 400 21 76 100 [] [(1, 9, 0)] = true := by decide +kernel
def mk1_i : List qs_I := [(0, 0, (0, 0), sx_r32), (0, 0, (0, 0), sx_r32)]
def mk1_T : List og_T := [(none, some (1, 0, -9223372036854775808), [], [], [], [(0, (9, 0), (0, 0), -2147483648, -1)]), (none, some (1, 0, -9223372036854775808), [], [], [], [(0, (9, 0), (0, 0), 0, 4), (0, (10, 0), (0, 0), -2147483648, -1)]), (some 25, none, [(0, 0, 29), (2, 0, 53)], [(0, 2, 0, 53), (1, 0, 9, 0), (2, 0, 10, 0)], [], [(0, (9, 0), (0, 0), 0, 4), (0, (10, 0), (0, 0), 0, 1)]), (none, some (1, 0, -9223372036854775808), [], [], [], [(0, (9, 0), (0, 0), 0, 4), (0, (10, 0), (0, 0), 2, 2147483647)]), (none, some (1, 0, -9223372036854775808), [], [], [], [(0, (9, 0), (0, 0), 5, 2147483647)])]
theorem mk1_c : qs_chk (fun pc => Nat.beq pc 25) mk1_i 0 mk1_T 400 400 21 210 0 [(0, 2, 0, 53), (1, 0, 9, 0), (2, 0, 10, 0)] [] = true := by decide +kernel
def mk2_i : List qs_I := [(0, 0, (0, 0), (0, 4)), (0, 0, (0, 0), (0, 1))]
def mk2_T : List og_T := [(some 31, none, [(0, 9, 0), (2, 0, 53), (2, 0, 53)], [(0, 2, 0, 53), (1, 0, 9, 0), (2, 0, 10, 0)], [], [])]
theorem mk2_c : qs_chk (fun pc => Nat.beq pc 31) mk2_i 0 mk2_T 400 400 21 210 28 [(0, 2, 0, 53), (1, 0, 9, 0), (2, 0, 10, 0)] [] = true := by decide +kernel
def mk3_i : List qs_I := [(0, 0, (0, 0), (0, 4)), (0, 0, (0, 0), (0, 1)), (0, 0, (0, 0), sx_r64)]
def mk3_T : List og_T := [(some 39, none, [(0, 9, 0), (2, 0, 53), (1, 11, 0)], [(0, 2, 0, 53), (1, 0, 9, 0), (2, 0, 10, 0)], [], [])]
theorem mk3_c : qs_chk (fun pc => Nat.beq pc 39) mk3_i 0 mk3_T 400 400 21 210 37 [(0, 2, 0, 53), (1, 0, 9, 0), (2, 0, 10, 0)] [(1, 11, 0)] = true := by decide +kernel
def mk4_i : List qs_I := [(0, 0, (0, 0), (0, 4)), (0, 0, (0, 0), (0, 1)), (0, 0, (0, 0), sx_r64), (0, 0, (0, 0), sx_r64)]
def mk4_T : List og_T := [(some 46, none, [(0, 10, 0), (1, 12, 0), (1, 11, 0)], [(0, 2, 0, 53), (1, 0, 9, 0), (2, 0, 10, 0)], [], [])]
theorem mk4_c : qs_chk (fun pc => Nat.beq pc 46) mk4_i 0 mk4_T 400 400 21 210 45 [(0, 2, 0, 53), (1, 0, 9, 0), (2, 0, 10, 0)] [(1, 12, 0), (1, 11, 0)] = true := by decide +kernel
def mk5_i : List qs_I := [(0, 0, (0, 0), sx_r64)]
def mk5_T : List og_T := [(none, some (1, 9, 0), [], [], [], [])]
theorem mk5_c : qs_chk (fun _ => false) mk5_i 0 mk5_T 400 400 21 210 49 [] [(1, 9, 0)] = true := by decide +kernel
def mh1_i : List qs_I := [(0, 0, (0, 0), (0, 8))]
def mh1_T : List og_T := [(some 5, none, [], [(0, 2, 0, 53), (1, 0, 9, 0), (2, 1, 0, 0), (4, 0, 0, 0)], [], [])]
theorem mh1_c : qs_chk (fun pc => Nat.beq pc 5) mh1_i 0 mh1_T 400 400 20 211 0 [(0, 2, 0, 53), (1, 0, 9, 0)] [] = true := by decide +kernel
def mh2_i : List qs_I := [(0, 0, (0, 0), (0, 8)), (0, 0, (0, 0), sx_r64), (0, 0, (0, 0), (0, 5)), (1, 53, (0, 1), (0, 6)), (2, 12, (11, 0), (0, 0)), (1, 53, (0, 7), sx_r32)]
def mh2_T : List og_T := [(some 31, none, [(0, 9, 0), (0, 11, 0), (2, 0, 53), (1, 10, 0)], [(0, 2, 0, 53), (1, 0, 9, 0), (2, 1, 10, 0), (4, 0, 11, 0)], [], [(0, (15, 0), (0, 0), 1, 1), (5, (13, 0), (11, 0), 9, 14), (5, (14, 0), (0, 1), 3, 15)]), (some 5, none, [], [(0, 2, 0, 53), (1, 0, 9, 0), (2, 1, 10, 0), (4, 0, 11, 1)], [], [(7, (15, 0), (0, 0), 1, 0), (5, (13, 0), (11, 0), 9, 14), (5, (14, 0), (0, 1), 3, 15)])]
theorem mh2_c : qs_chk (fun pc => bif Nat.beq pc 5 then true else Nat.beq pc 31) mh2_i 2 mh2_T 400 400 20 211 5 [(0, 2, 0, 53), (1, 0, 9, 0), (2, 1, 10, 0), (4, 0, 11, 0)] [] = true := by decide +kernel
def mh3_i : List qs_I := [(0, 0, (0, 0), (0, 8)), (0, 0, (0, 0), sx_r64), (0, 0, (0, 0), (0, 5)), (0, 0, (0, 0), sx_r64)]
def mh3_T : List og_T := [(some 5, none, [], [(0, 2, 0, 53), (1, 0, 9, 0), (2, 1, 13, 0), (4, 0, 11, 1)], [], [(5, (10, 0), (12, 0), 32, 13)])]
theorem mh3_c : qs_chk (fun pc => Nat.beq pc 5) mh3_i 1 mh3_T 400 400 20 211 34 [(0, 2, 0, 53), (1, 0, 9, 0), (2, 1, 10, 0), (4, 0, 11, 0)] [(1, 12, 0), (1, 10, 0)] = true := by decide +kernel
def mh4_i : List qs_I := [(0, 0, (0, 0), (0, 8)), (0, 0, (0, 0), sx_r64), (0, 0, (0, 0), (0, 6)), (1, 53, (0, 1), (0, 6)), (3, 12, (11, 0), (0, 0))]
def mh4_T : List og_T := [(none, some (1, 10, 0), [], [], [], [])]
theorem mh4_c : qs_chk (fun _ => false) mh4_i 0 mh4_T 400 400 20 211 5 [(0, 2, 0, 53), (1, 0, 9, 0), (2, 1, 10, 0), (4, 0, 11, 0)] [] = true := by decide +kernel
/-- a sum over houses that stand -/
def mq (S : Int) (f : Nat → Int) : Nat → Int
  | 0 => 0
  | h + 1 => if vq_bt S (h : Int) = 1 then sx_mf 32 (mq S f h) (f h) else mq S f h
theorem mq_w {S : Int} {f : Nat → Int} : ∀ h, sx_w sx_r64 (mq S f h)
  | 0 => og_w64 (by show (-9223372036854775808 : Int) ≤ 0; decide) (by show (0 : Int) ≤ _; decide)
  | h + 1 => by
    show sx_w sx_r64 (if vq_bt S (h : Int) = 1 then sx_mf 32 (mq S f h) (f h) else mq S f h)
    split
    · exact mf_w64 32 ⟨by decide, by decide⟩ _ _
    · exact mq_w h
theorem mq_eq {S : Int} {f f' : Nat → Int} : ∀ h, (∀ i, i < h → f' i = f i) → mq S f' h = mq S f h := by
  intro h
  induction h with
  | zero => intro _; rfl
  | succ h ih =>
    intro q
    show (if vq_bt S (h : Int) = 1 then sx_mf 32 (mq S f' h) (f' h) else mq S f' h) = if vq_bt S (h : Int) = 1 then sx_mf 32 (mq S f h) (f h) else mq S f h
    rw [ih (fun i hi => q i (by omega)), q h (by omega)]
theorem eu_vw {g : Int} : sx_w sx_r64 (eu_v p c b g) := by
  unfold eu_v
  split
  · exact mf_w64 38 ⟨by decide, by decide⟩ _ _
  · exact mf_w64 38 ⟨by decide, by decide⟩ _ _
def me_ok (b p : Int) : Prop := 0 ≤ b ∧ b ≤ 4 ∧ 0 ≤ p ∧ p ≤ 1
def me_R (O : Prop) (M : Nat → Nat → Int) (Z : Option Value → (Nat → Nat → Int) → Prop) (r : Option Value) (N : Nat → Nat → Int) : Prop := sx_mok cl_ly N ∧ ((¬ O ∧ r = some (.long (Int64.ofInt (-9223372036854775808))) ∧ ∀ a, a < 128 → N a = M a) ∨ (O ∧ Z r N))
def me_a (S : Int) (X : Nat → Nat → Int) (nc t n H : Nat) : Int := mq S (nb_a X nc t n) H
def me_Z (M : Nat → Nat → Int) (nc t H : Nat) (n p : Int) (r : Option Value) (N : Nat → Nat → Int) : Prop := ∃ M1 X g, (∀ a, a < 128 → a ≠ 21 → a ≠ 24 → M1 a = M a) ∧ pb_Q M1 none X ∧ eu 99 (me_a (M 9 6) X nc t n.toNat H) (xii (dn t n.toNat)) = some g ∧ g ≠ 0 ∧ r = some (.long (Int64.ofInt (eu_v p (me_a (M 9 6) X nc t n.toNat H) (xii (dn t n.toNat)) g))) ∧ fs_x M N
/-- the class: house by house -/
theorem me_loop {s : Int} (hL : L < 2 ^ 31) (h4 : N 9 4 = (H : Int)) (h6 : H ≤ 6) (hs : N 9 6 = s) (ws : sx_w sx_r32 s) (hn : n ≤ 4) (hp : 0 ≤ p ∧ p ≤ 1) (hk : k ≤ 8) (q5 : N 21 5 = xii k) (q24 : ∀ g, g < H → N 24 g = f g) (wf : ∀ g, g < H → sx_w sx_r64 (f g)) (K : ∀ N', sx_mok cl_ly N' → (∀ a, a < 128 → N' a = N a) → rz_fin Q L xs 76 21 97 [(0, .ref 8), (1, .int (Int32.ofInt (n : Int))), (2, .int (Int32.ofInt p))] [.int (Int32.ofInt p), .long (Int64.ofInt (xii k)), .long (Int64.ofInt (mq s (fun h => sx_mf 33 (xii k) (f h)) H))] N') : ∀ (m h : Nat) (M' : Nat → Nat → Int), h + m = H → sx_mok cl_ly M' → (∀ a, a < 128 → M' a = N a) → rz_fin Q L xs 76 21 33 [(0, .ref 8), (1, .int (Int32.ofInt (n : Int))), (2, .int (Int32.ofInt p)), (3, .long (Int64.ofInt (mq s (fun h => sx_mf 33 (xii k) (f h)) h))), (5, .int (Int32.ofInt (h : Int)))] [] M' := by
  intro m
  induction m with
  | zero =>
    intro h M' hh hm hf
    have e : h = H := by omega
    subst e
    have wx := xii_w hk
    refine qs_use (zs := [(n : Int), p, mq s (fun h => sx_mf 33 (xii k) (f h)) h, (h : Int), (h : Int), xii k]) me4_c hL hm (qs_in (show 0 ≤ (n : Int) ∧ (n : Int) ≤ 4 by omega) (qs_in hp (qs_iw (mq_w h) (qs_in (show 0 ≤ (h : Int) ∧ (h : Int) ≤ 6 by omega) (qs_rd (show (0 : Int) ≤ 4 by decide) (by rw [hf 9 (by decide)]; exact h4) (show 0 ≤ (h : Int) ∧ (h : Int) ≤ 6 by omega) (qs_ge (show ¬ (h : Int) < (h : Int) by omega) (qs_rd (show (0 : Int) ≤ 5 by decide) (by rw [hf 21 (by decide)]; exact q5) wx (qs_fin rfl)))))))) (Nat.le_refl _) rfl rfl (qs_c (fun K1 hK1 hc hM => ?_) qs_z)
    have fK1 : ∀ a, a < 128 → K1 a = M' a := hM
    exact K K1 hK1 (fun a ha => (fK1 a ha).trans (hf a ha))
  | succ m ih =>
    intro h M' hh hm hf
    have wx := xii_w hk
    have wf1 := wf h (by omega)
    refine qs_use (zs := [(n : Int), p, mq s (fun h => sx_mf 33 (xii k) (f h)) h, (h : Int), (H : Int), s, xii k, f h]) me3_c hL hm (qs_in (show 0 ≤ (n : Int) ∧ (n : Int) ≤ 4 by omega) (qs_in hp (qs_iw (mq_w h) (qs_in (show 0 ≤ (h : Int) ∧ (h : Int) ≤ 5 by omega) (qs_rd (show (0 : Int) ≤ 4 by decide) (by rw [hf 9 (by decide)]; exact h4) (show 0 ≤ (H : Int) ∧ (H : Int) ≤ 6 by omega) (qs_lt (show (h : Int) < (H : Int) by omega) (qs_rd (show (0 : Int) ≤ 6 by decide) (by rw [hf 9 (by decide)]; exact hs) ws (qs_rd (show (0 : Int) ≤ 5 by decide) (by rw [hf 21 (by decide)]; exact q5) wx (qs_rd (show 0 ≤ (h : Int) by omega) (by rw [hf 24 (by decide)]; exact q24 h (by omega)) wf1 (qs_fin rfl)))))))))) (Nat.le_refl _) rfl rfl (qs_c (fun u1 u2 u3 u4 K1 hK1 hc hM => ?_) (qs_c (fun u1 u2 u3 u4 K1 hK1 hc hM => ?_) qs_z))
    · obtain ⟨c1, c2, c3, c4, c5, -⟩ := hc
      have c1 : 1 ≤ u2 ∧ u2 ≤ 1 := c1
      have c2 : u1 = sx_mf 10 s (h : Int) := c2
      have c3 : u2 = sx_mf 3 u1 1 := c3
      have c4 : u3 = sx_mf 33 (xii k) (f h) := c4
      have c5 : u4 = sx_mf 32 (mq s (fun h => sx_mf 33 (xii k) (f h)) h) u3 := c5
      have fK1 : ∀ a, a < 128 → K1 a = M' a := hM
      have e2 : u2 = vq_bt s (h : Int) := by rw [c3, c2]; rfl
      have e : mq s (fun h => sx_mf 33 (xii k) (f h)) (h + 1) = u4 := by
        show (if vq_bt s (h : Int) = 1 then _ else _) = _
        rw [if_pos (by omega), c5, c4]
      have g := ih (h + 1) K1 (by omega) hK1 (fun a ha => (fK1 a ha).trans (hf a ha))
      rw [e] at g
      exact g
    · obtain ⟨c1, c2, c3, -⟩ := hc
      have c1 : u2 ≠ 1 := c1
      have c2 : u1 = sx_mf 10 s (h : Int) := c2
      have c3 : u2 = sx_mf 3 u1 1 := c3
      have fK1 : ∀ a, a < 128 → K1 a = M' a := hM
      have e2 : u2 = vq_bt s (h : Int) := by rw [c3, c2]; rfl
      have e : mq s (fun h => sx_mf 33 (xii k) (f h)) (h + 1) = mq s (fun h => sx_mf 33 (xii k) (f h)) h := by
        show (if vq_bt s (h : Int) = 1 then _ else _) = _
        rw [if_neg (by omega)]
      have g := ih (h + 1) K1 (by omega) hK1 (fun a ha => (fK1 a ha).trans (hf a ha))
      rw [e] at g
      exact g
theorem me_x (hL : L < 2 ^ 31) (hm : sx_mok cl_ly M) (hw : WF M) (hR : vu_R M) (h5 : M 9 5 = (nc : Int)) (h12 : nc ≤ 12) (h4 : M 9 4 = (H : Int)) (h6 : H ≤ 6) (ht : M 10 210 = (t : Int)) (h29 : t ≤ 29) (wb : sx_w sx_r32 b) (wp : sx_w sx_r32 p) : rz_fin (me_R (me_ok b p) M (me_Z M nc t H b p)) L xs 76 21 0 [(0, .ref 8), (1, .int (Int32.ofInt b)), (2, .int (Int32.ofInt p))] [] M := by
  have w6 : sx_w sx_r32 (M 9 6) := cv_ly_ok (g := (9, 6, sx_r32)) hm (by decide +kernel)
  have go : ∀ K, sx_mok cl_ly K → (∀ a, a < 128 → K a = M a) → me_ok b p → rz_fin (me_R (me_ok b p) M (me_Z M nc t H b p)) L xs 76 21 25 [(0, .ref 8), (1, .int (Int32.ofInt b)), (2, .int (Int32.ofInt p))] [.int (Int32.ofInt b), .ref 21] K := fun K hK fK ok => by
    obtain ⟨k3, k4, k5, k6⟩ := id ok
    obtain ⟨n, rfl⟩ := Int.eq_ofNat_of_zero_le k3
    obtain ⟨w1, r1⟩ := wr_same hw hR fK
    refine qs_vc (k := 74) (b := 21) (d := 20) (d' := 20) (rest := []) rfl rfl rfl rfl rfl rfl rfl rfl (Nat.le_refl _) rfl (wd_all (xs := xs) (nc := nc) (H := H) (t := t) (n := n) hL hK w1 r1 (by rw [fK 9 (by decide)]; exact h5) h12 (by rw [fK 9 (by decide)]; exact h4) h6 (by rw [fK 10 (by decide)]; exact ht) h29 (by omega)) (fun r9 N1 hr => ?_)
    obtain ⟨rfl, hN1, M1, X, o1, hX, wS⟩ := hr
    obtain ⟨⟨F1, F2⟩, P, q5, q24⟩ := wS
    obtain ⟨d8, d30⟩ := dn_r h29 (show n ≤ 8 by omega)
    have wx := xii_w d8
    have xr := xii_r d8
    refine qs_use (zs := [(n : Int), p]) me2_c hL hN1 (qs_in (show 0 ≤ (n : Int) ∧ (n : Int) ≤ 4 by omega) (qs_in ⟨k5, k6⟩ (qs_fin rfl))) (Nat.le_refl _) rfl rfl (qs_c (fun N2 hN2 hc hM => ?_) qs_z)
    have fN2 : ∀ a, a < 128 → N2 a = N1 a := hM
    have c9 : N1 9 = M 9 := by rw [F1 9 (by decide) (by decide), hX.2.2.1 9 (by decide) (by decide) (by decide), o1 9 (by decide) (by decide) (by decide), fK 9 (by decide)]
    refine me_loop (xs := xs) (N := N1) (H := H) (n := n) (p := p) (k := dn t n) (s := M 9 6) (f := fun g => pr (fun i => bk (fun h => X 10 (30 + h)) (fun d => X 10 (150 + d)) (fa_h X nc t) g (t + i)) (dn t n)) hL (by rw [c9]; exact h4) h6 (by rw [c9]) w6 (by omega) ⟨k5, k6⟩ d8 q5 q24 (fun g _ => pr_w _) (fun N3 hN3 f3 => ?_) H 0 N2 (Nat.zero_add H) hN2 fN2
    have wa : sx_w sx_r64 (me_a (M 9 6) X nc t n H) := mq_w H
    obtain ⟨g, eg, g0, gw⟩ := eu_ok 29 99 (me_a (M 9 6) X nc t n H) (xii (dn t n)) (by decide) (by omega) (Or.inr (by omega)) wa wx
    show rz_fin _ L xs 76 21 97 [(0, .ref 8), (1, .int (Int32.ofInt (n : Int))), (2, .int (Int32.ofInt p))] [.int (Int32.ofInt p), .long (Int64.ofInt (xii (dn t n))), .long (Int64.ofInt (me_a (M 9 6) X nc t n H))] N3
    refine qs_sc (k := 75) (d := 20) (d' := 20) (as := [.long (Int64.ofInt (me_a (M 9 6) X nc t n H)), .long (Int64.ofInt (xii (dn t n))), .int (Int32.ofInt p)]) (rest := []) rfl rfl rfl rfl rfl rfl rfl (Nat.le_refl _) rfl (rz_d (by decide) (fq_x (xs := xs) (p := p) hL hN3 wa wx ⟨k5, k6⟩ g0 gw eg)) (fun r9 N4 hr => ?_)
    obtain ⟨rfl, hN4, f4⟩ := hr
    refine qs_nl (by show ([0, 1, 2] : List Nat).Nodup; decide) (qs_use (zs := [eu_v p (me_a (M 9 6) X nc t n H) (xii (dn t n)) g]) me5_c hL hN4 (qs_iw eu_vw (qs_fin rfl)) (Nat.le_refl _) rfl rfl (qs_c (fun N5 hN5 hc hM => ?_) qs_z))
    have fN5 : ∀ a, a < 128 → N5 a = N4 a := hM
    refine ⟨hN5, Or.inr ⟨ok, M1, X, g, fun a ha x1 x2 => (o1 a ha x1 x2).trans (fK a ha), hX, eg, g0, rfl, fun a ha hn => ?_⟩⟩
    rw [fN5 a ha, f4 a ha, f3 a ha, F1 a ha (by omega), hX.2.2.1 a ha (by omega) (by omega), o1 a ha (by omega) (by omega), fK a ha]
  refine qs_use (zs := [b, p]) me1_c hL hm (qs_iw wb (qs_iw wp (qs_fin rfl))) (Nat.le_refl _) rfl rfl (qs_c (fun K hK hc hM => ?_) (qs_c (fun K hK hc hM => ?_) (qs_c (fun K hK hc hM => ?_) (qs_c (fun K hK hc hM => ?_) (qs_c (fun K hK hc hM => ?_) qs_z)))))
  · obtain ⟨c1, -⟩ := hc
    have c1 : -2147483648 ≤ b ∧ b ≤ -1 := c1
    have fK : ∀ a, a < 128 → K a = M a := hM
    exact ⟨hK, Or.inl ⟨fun q => by have := q.1; omega, rfl, fK⟩⟩
  · obtain ⟨c1, -⟩ := hc
    have c1 : 5 ≤ b ∧ b ≤ 2147483647 := c1
    have fK : ∀ a, a < 128 → K a = M a := hM
    exact ⟨hK, Or.inl ⟨fun q => by have := q.2.1; omega, rfl, fK⟩⟩
  · obtain ⟨c1, c2, -⟩ := hc
    have c1 : 0 ≤ b ∧ b ≤ 4 := c1
    have c2 : 0 ≤ p ∧ p ≤ 0 := c2
    have fK : ∀ a, a < 128 → K a = M a := hM
    exact go K hK fK ⟨c1.1, c1.2, c2.1, by omega⟩
  · obtain ⟨c1, c2, c3, -⟩ := hc
    have c1 : 0 ≤ b ∧ b ≤ 4 := c1
    have c2 : p ≠ 0 := c2
    have c3 : p ≠ 1 := c3
    have fK : ∀ a, a < 128 → K a = M a := hM
    exact ⟨hK, Or.inl ⟨fun q => by have := q.2.2; omega, rfl, fK⟩⟩
  · obtain ⟨c1, c2, c3, -⟩ := hc
    have c1 : 0 ≤ b ∧ b ≤ 4 := c1
    have c2 : 1 ≤ p ∧ p ≤ 1 := c2
    have c3 : p ≠ 0 := c3
    have fK : ∀ a, a < 128 → K a = M a := hM
    exact go K hK fK ⟨c1.1, c1.2, by omega, c2.2⟩
theorem mh_s {q v : Int} (hL : L < 2 ^ 31) (hm : sx_mok cl_ly N) (hk : k ≤ 8) (hh : h ≤ 5) (wq : sx_w sx_r64 q) (wv : sx_w sx_r64 v) (K : ∀ (u : Int) (N' : Nat → Nat → Int), sx_mok cl_ly N' → u = sx_mf 32 q v → (∀ a, a < 128 → N' a = N a) → rz_fin Q L xs 211 20 5 [(0, .ref 53), (1, .int (Int32.ofInt (k : Int))), (2, .long (Int64.ofInt u)), (4, .int (Int32.ofInt ((h + 1 : Nat) : Int)))] [] N') : rz_fin Q L xs 211 20 34 [(0, .ref 53), (1, .int (Int32.ofInt (k : Int))), (2, .long (Int64.ofInt q)), (4, .int (Int32.ofInt (h : Int)))] [.long (Int64.ofInt v), .long (Int64.ofInt q)] N := by
  refine qs_use (zs := [(k : Int), q, (h : Int), v]) mh3_c hL hm (qs_in (show 0 ≤ (k : Int) ∧ (k : Int) ≤ 8 by omega) (qs_iw wq (qs_in (show 0 ≤ (h : Int) ∧ (h : Int) ≤ 5 by omega) (qs_iw wv (qs_fin rfl))))) (Nat.le_refl _) rfl rfl (qs_c (fun u1 K3 hK3 hc hM => ?_) qs_z)
  have c9 : u1 = sx_mf 32 q v := hc.1
  have f3 : ∀ a, a < 128 → K3 a = N a := hM
  exact K u1 K3 hK3 c9 f3
/-- the reference: house by house -/
theorem mh_loop {s : Int} (hL : L < 2 ^ 31) (hm0 : sx_mok cl_ly M) (h4 : M 53 1 = (H : Int)) (h6 : H ≤ 6) (hs : M 53 7 = s) (ws : sx_w sx_r32 s) (ht : M 53 13 = (t : Int)) (h29 : t ≤ 29) (hk : k ≤ 8) (hk2 : t + k ≤ 30) : ∀ (m h : Nat) (M' : Nat → Nat → Int), h + m = H → sx_mok cl_ly M' → (∀ a, a < 128 → M' a = M a) → rz_fin (eu_Q M (mq s (fun h => sx_mf 33 (xii k) (pr (fun i => bk (M 55) (M 61) (M 77) h (t + i)) k)) H)) L xs 211 20 5 [(0, .ref 53), (1, .int (Int32.ofInt (k : Int))), (2, .long (Int64.ofInt (mq s (fun h => sx_mf 33 (xii k) (pr (fun i => bk (M 55) (M 61) (M 77) h (t + i)) k)) h))), (4, .int (Int32.ofInt (h : Int)))] [] M' := by
  intro m
  induction m with
  | zero =>
    intro h M' hh hm hf
    have e : h = H := by omega
    subst e
    refine qs_use (zs := [(k : Int), mq s (fun h => sx_mf 33 (xii k) (pr (fun i => bk (M 55) (M 61) (M 77) h (t + i)) k)) h, (h : Int), (h : Int)]) mh4_c hL hm (qs_in (show 0 ≤ (k : Int) ∧ (k : Int) ≤ 8 by omega) (qs_iw (mq_w h) (qs_in (show 0 ≤ (h : Int) ∧ (h : Int) ≤ 6 by omega) (qs_rd (show (0 : Int) ≤ 1 by decide) (by rw [hf 53 (by decide)]; exact h4) (show 0 ≤ (h : Int) ∧ (h : Int) ≤ 6 by omega) (qs_ge (show ¬ (h : Int) < (h : Int) by omega) (qs_fin rfl)))))) (Nat.le_refl _) rfl rfl (qs_c (fun K1 hK1 hc hM => ?_) qs_z)
    have fK1 : ∀ a, a < 128 → K1 a = M' a := hM
    exact ⟨rfl, hK1, fun a ha => (fK1 a ha).trans (hf a ha)⟩
  | succ m ih =>
    intro h M' hh hm hf
    refine qs_use (zs := [(k : Int), mq s (fun h => sx_mf 33 (xii k) (pr (fun i => bk (M 55) (M 61) (M 77) h (t + i)) k)) h, (h : Int), (H : Int), s]) mh2_c hL hm (qs_in (show 0 ≤ (k : Int) ∧ (k : Int) ≤ 8 by omega) (qs_iw (mq_w h) (qs_in (show 0 ≤ (h : Int) ∧ (h : Int) ≤ 5 by omega) (qs_rd (show (0 : Int) ≤ 1 by decide) (by rw [hf 53 (by decide)]; exact h4) (show 0 ≤ (H : Int) ∧ (H : Int) ≤ 6 by omega) (qs_lt (show (h : Int) < (H : Int) by omega) (qs_rd (show (0 : Int) ≤ 7 by decide) (by rw [hf 53 (by decide)]; exact hs) ws (qs_fin rfl))))))) (Nat.le_refl _) rfl rfl (qs_c (fun u1 u2 K1 hK1 hc hM => ?_) (qs_c (fun u1 u2 K1 hK1 hc hM => ?_) qs_z))
    · obtain ⟨c1, c2, c3, -⟩ := hc
      have c1 : 1 ≤ u2 ∧ u2 ≤ 1 := c1
      have c2 : u1 = sx_mf 9 s (h : Int) := c2
      have c3 : u2 = sx_mf 3 u1 1 := c3
      have fK1 : ∀ a, a < 128 → K1 a = M' a := hM
      have e2 : u2 = vq_bt s (h : Int) := by rw [c3, c2]; exact vq_b9 _ (by omega)
      have g1 : ∀ a, a < 128 → K1 a = M a := fun a ha => (fK1 a ha).trans (hf a ha)
      show rz_fin _ L xs 211 20 31 [(0, .ref 53), (1, .int (Int32.ofInt (k : Int))), (2, .long (Int64.ofInt (mq s (fun h => sx_mf 33 (xii k) (pr (fun i => bk (M 55) (M 61) (M 77) h (t + i)) k)) h))), (4, .int (Int32.ofInt (h : Int)))] [.int (Int32.ofInt (k : Int)), .int (Int32.ofInt (h : Int)), .ref 53, .long (Int64.ofInt (mq s (fun h => sx_mf 33 (xii k) (pr (fun i => bk (M 55) (M 61) (M 77) h (t + i)) k)) h))] K1
      refine qs_vc (k := 207) (b := 53) (d := 19) (d' := 19) (rest := [.long (Int64.ofInt (mq s (fun h => sx_mf 33 (xii k) (pr (fun i => bk (M 55) (M 61) (M 77) h (t + i)) k)) h))]) rfl rfl rfl rfl rfl rfl rfl rfl (Nat.le_refl _) rfl (rz_d (by decide) (bn_y (xs := xs) (t := t) (k := k) (h := h) hL hK1 (by rw [g1 53 (by decide)]; exact ht) h29 hk hk2 (by omega))) (fun r9 K2 hr => ?_)
      obtain ⟨rfl, hK2, f2⟩ := hr
      rw [g1 55 (by decide), g1 61 (by decide), g1 77 (by decide)]
      have wb : sx_w sx_r64 (sx_mf 33 (xii k) (pr (fun i => bk (M 55) (M 61) (M 77) h (t + i)) k)) := mf_w64 33 ⟨by decide, by decide⟩ _ _
      show rz_fin _ L xs 211 20 34 [(0, .ref 53), (1, .int (Int32.ofInt (k : Int))), (2, .long (Int64.ofInt (mq s (fun h => sx_mf 33 (xii k) (pr (fun i => bk (M 55) (M 61) (M 77) h (t + i)) k)) h))), (4, .int (Int32.ofInt (h : Int)))] [.long (Int64.ofInt (sx_mf 33 (xii k) (pr (fun i => bk (M 55) (M 61) (M 77) h (t + i)) k))), .long (Int64.ofInt (mq s (fun h => sx_mf 33 (xii k) (pr (fun i => bk (M 55) (M 61) (M 77) h (t + i)) k)) h))] K2
      refine mh_s (xs := xs) (k := k) (h := h) hL hK2 hk (by omega) (mq_w h) wb (fun u1 K3 hK3 c9 f3 => ?_)
      have e : mq s (fun h => sx_mf 33 (xii k) (pr (fun i => bk (M 55) (M 61) (M 77) h (t + i)) k)) (h + 1) = u1 := by
        show (if vq_bt s (h : Int) = 1 then _ else _) = _
        rw [if_pos (by omega), c9]
      have g := ih (h + 1) K3 (by omega) hK3 (fun a ha => ((f3 a ha).trans (f2 a ha)).trans (g1 a ha))
      rw [e] at g
      exact g
    · obtain ⟨c1, c2, c3, -⟩ := hc
      have c1 : u2 ≠ 1 := c1
      have c2 : u1 = sx_mf 9 s (h : Int) := c2
      have c3 : u2 = sx_mf 3 u1 1 := c3
      have fK1 : ∀ a, a < 128 → K1 a = M' a := hM
      have e2 : u2 = vq_bt s (h : Int) := by rw [c3, c2]; exact vq_b9 _ (by omega)
      have e : mq s (fun h => sx_mf 33 (xii k) (pr (fun i => bk (M 55) (M 61) (M 77) h (t + i)) k)) (h + 1) = mq s (fun h => sx_mf 33 (xii k) (pr (fun i => bk (M 55) (M 61) (M 77) h (t + i)) k)) h := by
        show (if vq_bt s (h : Int) = 1 then _ else _) = _
        rw [if_neg (by omega)]
      have g := ih (h + 1) K1 (by omega) hK1 (fun a ha => (fK1 a ha).trans (hf a ha))
      rw [e] at g
      exact g
theorem mh_y {s : Int} (hL : L < 2 ^ 31) (hm : sx_mok cl_ly M) (h4 : M 53 1 = (H : Int)) (h6 : H ≤ 6) (hs : M 53 7 = s) (ws : sx_w sx_r32 s) (ht : M 53 13 = (t : Int)) (h29 : t ≤ 29) (hk : k ≤ 8) (hk2 : t + k ≤ 30) : rz_fin (eu_Q M (mq s (fun h => sx_mf 33 (xii k) (pr (fun i => bk (M 55) (M 61) (M 77) h (t + i)) k)) H)) L xs 211 20 0 [(0, .ref 53), (1, .int (Int32.ofInt (k : Int)))] [] M := by
  refine qs_use (zs := [(k : Int)]) mh1_c hL hm (qs_in (show 0 ≤ (k : Int) ∧ (k : Int) ≤ 8 by omega) (qs_fin rfl)) (Nat.le_refl _) rfl rfl (qs_c (fun K1 hK1 hc hM => ?_) qs_z)
  exact mh_loop (xs := xs) hL hm h4 h6 hs ws ht h29 hk hk2 H 0 K1 (Nat.zero_add H) hK1 hM
def me_b (s : Int) (N : Nat → Nat → Int) (t n H : Nat) : Int := mq s (nb_b N t n) H
def me_W (M : Nat → Nat → Int) (H nc t : Nat) (n p : Int) (r : Option Value) (N : Nat → Nat → Int) : Prop := ∃ Y N1, my_Q M H none Y ∧ ms_F Y N1 ∧ mt_on Y nc (30 - t) t N1 ∧ fs_y M N ∧ ∀ g, eu 99 (me_b (M 53 7) N1 t n.toNat H) (xii (dn t n.toNat)) = some g → g ≠ 0 → r = some (.long (Int64.ofInt (eu_v p (me_b (M 53 7) N1 t n.toNat H) (xii (dn t n.toNat)) g)))
theorem me_y (hL : L < 2 ^ 31) (hm : sx_mok cl_ly M) (hw : WF M) (hR : vu_R M) (h5 : M 53 8 = (nc : Int)) (h4 : M 53 1 = (H : Int)) (h6 : H ≤ 6) (ht : M 53 13 = (t : Int)) (h29 : t ≤ 29) (wb : sx_w sx_r32 b) (wp : sx_w sx_r32 p) : rz_fin (me_R (me_ok b p) M (me_W M H nc t b p)) L xs 210 21 0 [(0, .ref 53), (1, .int (Int32.ofInt b)), (2, .int (Int32.ofInt p))] [] M := by
  have w6 : sx_w sx_r32 (M 53 7) := cv_ly_ok (g := (53, 7, sx_r32)) hm (by decide +kernel)
  have go : ∀ K, sx_mok cl_ly K → (∀ a, a < 128 → K a = M a) → me_ok b p → rz_fin (me_R (me_ok b p) M (me_W M H nc t b p)) L xs 210 21 25 [(0, .ref 53), (1, .int (Int32.ofInt b)), (2, .int (Int32.ofInt p))] [.int (Int32.ofInt 29), .ref 53] K := fun K hK fK ok => by
    obtain ⟨k3, k4, k5, k6⟩ := id ok
    obtain ⟨n, rfl⟩ := Int.eq_ofNat_of_zero_le k3
    obtain ⟨w1, r1⟩ := wr_same hw hR fK
    have o53 : K 53 = M 53 := fK 53 (by decide)
    obtain ⟨d8, d30⟩ := dn_r h29 (show n ≤ 8 by omega)
    refine qs_vc (k := 190) (b := 53) (d := 20) (d' := 20) (rest := []) rfl rfl rfl rfl rfl rfl rfl rfl (Nat.le_refl _) rfl (rz_d (by decide) (mt_goto (xs := xs) (H := H) (nc := nc) (t := t) (k := 30 - t) (e := 29) hL hK (by decide) w1 r1 (by rw [o53]; exact h4) (by rw [o53]; exact h5) (by rw [o53]; exact ht) (by omega))) (fun r9 N1 hr => ?_)
    obtain ⟨rfl, hN1, Y, hY, wY, rY, F1, P1, O1⟩ := hr
    have hY := my_tr fK hY
    have z53 : ∀ j, j ≠ 35 → j ≠ 36 → N1 53 j = M 53 j := fun j x1 x2 => by rw [F1.2 j x2, hY.2.2.2.1 j x1 x2]
    have z13 : N1 53 13 = (t : Int) := (z53 13 (by decide) (by decide)).trans ht
    refine qs_use (zs := [(n : Int), p]) mk2_c hL hN1 (qs_in (show 0 ≤ (n : Int) ∧ (n : Int) ≤ 4 by omega) (qs_in ⟨k5, k6⟩ (qs_fin rfl))) (Nat.le_refl _) rfl rfl (qs_c (fun N2 hN2 hc hM => ?_) qs_z)
    have fN2 : ∀ a, a < 128 → N2 a = N1 a := hM
    show rz_fin _ L xs 210 21 31 [(0, .ref 53), (1, .int (Int32.ofInt (n : Int))), (2, .int (Int32.ofInt p))] [.int (Int32.ofInt (n : Int)), .ref 53, .ref 53] N2
    refine qs_vc (k := 206) (b := 53) (d := 20) (d' := 20) (rest := [.ref 53]) rfl rfl rfl rfl rfl rfl rfl rfl (Nat.le_refl _) rfl (rz_d (by decide) (bd_y (xs := xs) (t := t) (n := n) hL hN2 (by rw [fN2 53 (by decide)]; exact z13) h29 (by omega))) (fun r9 N3 hr => ?_)
    obtain ⟨rfl, hN3, f3⟩ := hr
    have e3 : ∀ a, a < 128 → N3 a = N1 a := fun a ha => (f3 a ha).trans (fN2 a ha)
    show rz_fin _ L xs 210 21 34 [(0, .ref 53), (1, .int (Int32.ofInt (n : Int))), (2, .int (Int32.ofInt p))] [.int (Int32.ofInt ((dn t n : Nat) : Int)), .ref 53] N3
    refine qs_vc (k := 211) (b := 53) (d := 20) (d' := 20) (rest := []) rfl rfl rfl rfl rfl rfl rfl rfl (Nat.le_refl _) rfl (mh_y (xs := xs) (H := H) (t := t) (k := dn t n) (s := M 53 7) hL hN3 (by rw [e3 53 (by decide), z53 1 (by decide) (by decide)]; exact h4) h6 (by rw [e3 53 (by decide), z53 7 (by decide) (by decide)]) w6 (by rw [e3 53 (by decide)]; exact z13) h29 d8 d30) (fun r9 N4 hr => ?_)
    obtain ⟨rfl, hN4, f4⟩ := hr
    have e4 : ∀ a, a < 128 → N4 a = N1 a := fun a ha => (f4 a ha).trans (e3 a ha)
    have eb : mq (M 53 7) (fun h => sx_mf 33 (xii (dn t n)) (pr (fun i => bk (N3 55) (N3 61) (N3 77) h (t + i)) (dn t n))) H = me_b (M 53 7) N1 t n H := by
      rw [e3 55 (by decide), e3 61 (by decide), e3 77 (by decide)]
      rfl
    rw [eb]
    have wa : sx_w sx_r64 (me_b (M 53 7) N1 t n H) := mq_w H
    have wx := xii_w d8
    have xr := xii_r d8
    refine qs_use (zs := [(n : Int), p, me_b (M 53 7) N1 t n H]) mk3_c hL hN4 (qs_in (show 0 ≤ (n : Int) ∧ (n : Int) ≤ 4 by omega) (qs_in ⟨k5, k6⟩ (qs_iw wa (qs_fin rfl)))) (Nat.le_refl _) rfl rfl (qs_c (fun N5 hN5 hc hM => ?_) qs_z)
    have fN5 : ∀ a, a < 128 → N5 a = N4 a := hM
    show rz_fin _ L xs 210 21 39 [(0, .ref 53), (1, .int (Int32.ofInt (n : Int))), (2, .int (Int32.ofInt p))] [.int (Int32.ofInt (n : Int)), .ref 53, .long (Int64.ofInt (me_b (M 53 7) N1 t n H))] N5
    refine qs_vc (k := 206) (b := 53) (d := 20) (d' := 20) (rest := [.long (Int64.ofInt (me_b (M 53 7) N1 t n H))]) rfl rfl rfl rfl rfl rfl rfl rfl (Nat.le_refl _) rfl (rz_d (by decide) (bd_y (xs := xs) (t := t) (n := n) hL hN5 (by rw [fN5 53 (by decide), e4 53 (by decide)]; exact z13) h29 (by omega))) (fun r9 N6 hr => ?_)
    obtain ⟨rfl, hN6, f6⟩ := hr
    show rz_fin _ L xs 210 21 42 [(0, .ref 53), (1, .int (Int32.ofInt (n : Int))), (2, .int (Int32.ofInt p))] [.int (Int32.ofInt ((dn t n : Nat) : Int)), .long (Int64.ofInt (me_b (M 53 7) N1 t n H))] N6
    refine qs_sc (k := 208) (d := 20) (d' := 20) (as := [.int (Int32.ofInt ((dn t n : Nat) : Int))]) (rest := [.long (Int64.ofInt (me_b (M 53 7) N1 t n H))]) rfl rfl rfl rfl rfl rfl rfl (Nat.le_refl _) rfl (rz_d (by decide) (xii_y (xs := xs) hL hN6 d8)) (fun r9 N7 hr => ?_)
    obtain ⟨rfl, hN7, f7⟩ := hr
    refine qs_use (zs := [(n : Int), p, me_b (M 53 7) N1 t n H, xii (dn t n)]) mk4_c hL hN7 (qs_in (show 0 ≤ (n : Int) ∧ (n : Int) ≤ 4 by omega) (qs_in ⟨k5, k6⟩ (qs_iw wa (qs_iw wx (qs_fin rfl))))) (Nat.le_refl _) rfl rfl (qs_c (fun N8 hN8 hc hM => ?_) qs_z)
    have fN8 : ∀ a, a < 128 → N8 a = N7 a := hM
    obtain ⟨g, eg, g0, gw⟩ := eu_ok 29 99 (me_b (M 53 7) N1 t n H) (xii (dn t n)) (by decide) (by omega) (Or.inr (by omega)) wa wx
    show rz_fin _ L xs 210 21 46 [(0, .ref 53), (1, .int (Int32.ofInt (n : Int))), (2, .int (Int32.ofInt p))] [.int (Int32.ofInt p), .long (Int64.ofInt (xii (dn t n))), .long (Int64.ofInt (me_b (M 53 7) N1 t n H))] N8
    refine qs_sc (k := 209) (d := 20) (d' := 20) (as := [.long (Int64.ofInt (me_b (M 53 7) N1 t n H)), .long (Int64.ofInt (xii (dn t n))), .int (Int32.ofInt p)]) (rest := []) rfl rfl rfl rfl rfl rfl rfl (Nat.le_refl _) rfl (rz_d (by decide) (lq_y (xs := xs) (p := p) hL hN8 wa wx (by omega) ⟨k5, k6⟩ g0 eg)) (fun r9 N9 hr => ?_)
    obtain ⟨rfl, hN9, f9⟩ := hr
    refine qs_nl (by show ([0, 1, 2] : List Nat).Nodup; decide) (qs_use (zs := [eu_v p (me_b (M 53 7) N1 t n H) (xii (dn t n)) g]) mk5_c hL hN9 (qs_iw eu_vw (qs_fin rfl)) (Nat.le_refl _) rfl rfl (qs_c (fun NA hNA hc hM => ?_) qs_z))
    have fNA : ∀ a, a < 128 → NA a = N9 a := hM
    have eA : ∀ a, a < 128 → NA a = N1 a := fun a ha => by rw [fNA a ha, f9 a ha, fN8 a ha, f7 a ha, f6 a ha, fN5 a ha, e4 a ha]
    have y1 := ms_y hY F1
    refine ⟨hNA, Or.inr ⟨ok, Y, N1, hY, F1, O1, ⟨fun a ha x1 x2 x3 x4 => (eA a ha).trans (y1.1 a ha x1 x2 x3 x4), fun j hj => by rw [eA 53 (by decide)]; exact y1.2 j hj⟩, fun g' eg' _ => ?_⟩⟩
    have e : some g = some g' := eg.symm.trans eg'
    rw [← Option.some.inj e]
    rfl
  refine qs_use (zs := [b, p]) mk1_c hL hm (qs_iw wb (qs_iw wp (qs_fin rfl))) (Nat.le_refl _) rfl rfl (qs_c (fun K hK hc hM => ?_) (qs_c (fun K hK hc hM => ?_) (qs_c (fun K hK hc hM => ?_) (qs_c (fun K hK hc hM => ?_) (qs_c (fun K hK hc hM => ?_) qs_z)))))
  · obtain ⟨c1, -⟩ := hc
    have c1 : -2147483648 ≤ b ∧ b ≤ -1 := c1
    have fK : ∀ a, a < 128 → K a = M a := hM
    exact ⟨hK, Or.inl ⟨fun q => by have := q.1; omega, rfl, fK⟩⟩
  · obtain ⟨c1, c2, -⟩ := hc
    have c1 : 0 ≤ b ∧ b ≤ 4 := c1
    have c2 : -2147483648 ≤ p ∧ p ≤ -1 := c2
    have fK : ∀ a, a < 128 → K a = M a := hM
    exact ⟨hK, Or.inl ⟨fun q => by have := q.2.2.1; omega, rfl, fK⟩⟩
  · obtain ⟨c1, c2, -⟩ := hc
    have c1 : 0 ≤ b ∧ b ≤ 4 := c1
    have c2 : 0 ≤ p ∧ p ≤ 1 := c2
    have fK : ∀ a, a < 128 → K a = M a := hM
    exact go K hK fK ⟨c1.1, c1.2, c2.1, c2.2⟩
  · obtain ⟨c1, c2, -⟩ := hc
    have c1 : 0 ≤ b ∧ b ≤ 4 := c1
    have c2 : 2 ≤ p ∧ p ≤ 2147483647 := c2
    have fK : ∀ a, a < 128 → K a = M a := hM
    exact ⟨hK, Or.inl ⟨fun q => by have := q.2.2.2; omega, rfl, fK⟩⟩
  · obtain ⟨c1, -⟩ := hc
    have c1 : 5 ≤ b ∧ b ≤ 2147483647 := c1
    have fK : ∀ a, a < 128 → K a = M a := hM
    exact ⟨hK, Or.inl ⟨fun q => by have := q.2.1; omega, rfl, fK⟩⟩
/-- mean of both sides -/
theorem fs_mn (hL : L < 2 ^ 31) (hI : la_I WF bs_cps M) (hS : fs_SS M) (wb : sx_w sx_r32 b) (wp : sx_w sx_r32 p) : fs_P WF L xs 1 76 210 [.ref 8, .int (Int32.ofInt b), .int (Int32.ofInt p)] [.ref 53, .int (Int32.ofInt b), .int (Int32.ofInt p)] (-9223372036854775808, 9223372036854775807) M := by
  obtain ⟨nc, H, hA⟩ := fs_toA hI hS
  obtain ⟨e1, -, -, e4, -, -, -⟩ := bs_eq hI
  have h29 : 0 ≤ M 10 210 ∧ M 10 210 ≤ 29 := hI.2.2.2.1
  have hm := hI.1
  have hw := hI.2.2.1
  have hR : vu_R M := hS.2.2.2.2.2.2.2.2
  obtain ⟨⟨a1, a2, a3, a4, a5⟩, b1, b2, b3, b4, -⟩ := id hA
  obtain ⟨t, et⟩ := Int.eq_ofNat_of_zero_le h29.1
  have eH : M 9 4 = (H : Int) := e1.trans a4
  obtain ⟨F1, v1, M1, f1, m1, h1⟩ := rz_d (show 21 ≤ 99 by decide) (me_x (xs := xs) (nc := nc) (H := H) (t := t) hL hm hw hR a1 a3 eH a5 et (by omega) wb wp)
  have x1 : fs_x M M1 := by
    rcases h1 with ⟨-, -, fN⟩ | ⟨-, -, -, -, -, -, -, -, -, fN⟩
    · exact fun a ha _ => fN a ha
    · exact fN
  obtain ⟨w1, r1⟩ := fs_same hw hR x1
  have o53 : M1 53 = M 53 := x1 53 (by decide) (by decide)
  have hf : ∀ a, a < 128 → 53 ≤ a → M1 a = M a := fun a ha g => x1 a ha (by omega)
  obtain ⟨F2, v2, M2, f2, m2, h2⟩ := rz_d (show 21 ≤ 99 by decide) (me_y (xs := xs) (nc := nc) (H := H) (t := t) hL m1 w1 r1 (by rw [o53]; exact a2) (by rw [o53]; exact a4) a5 (by rw [o53, ← e4]; exact et) (by omega) wb wp)
  rcases h1 with ⟨n1, rv, -⟩ | ⟨k1, X1, X, g, o1, hX, eg, g0, rv, -⟩
  · rcases h2 with ⟨-, rv2, fN2⟩ | ⟨k, -⟩
    · subst rv rv2
      obtain ⟨g1, g2⟩ := fs_q WF_zs hI hS m2 (fs_xy x1 ⟨fun a ha _ _ _ _ => fN2 a ha, fun j _ => by rw [fN2 53 (by decide)]⟩)
      exact ⟨_, M1, M2, ⟨by decide, by decide⟩, Or.inr ⟨rfl, by decide, by decide⟩, ⟨F1, f1⟩, m1, ⟨F2, f2⟩, m2, g1, g2⟩
    · exact absurd k n1
  · rcases h2 with ⟨k, -⟩ | ⟨-, Y, N1, hY, FY, OY, yN, rv2⟩
    · exact absurd k1 k
    · obtain ⟨q3, q4, q5, q6⟩ := id k1
      have dd := dn_r (show t ≤ 29 by omega) (show b.toNat ≤ 8 by omega)
      have ee : me_b (M1 53 7) N1 t b.toNat H = me_a (M 9 6) X nc t b.toNat H := by
        unfold me_b me_a
        rw [o53, ← b4]
        exact mq_eq H (fun i hi => nb_eq hA o1 hX hf hY FY OY (by omega) dd.2)
      rw [ee] at rv2
      have rv2 := rv2 g eg g0
      subst rv rv2
      obtain ⟨g1, g2⟩ := fs_q WF_zs hI hS m2 (fs_xy x1 yN)
      exact ⟨_, M1, M2, eu_vw, Or.inr ⟨rfl, eu_vw⟩, ⟨F1, f1⟩, m1, ⟨F2, f2⟩, m2, g1, g2⟩
end
