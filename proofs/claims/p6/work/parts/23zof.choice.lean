/-! A day in thought: the class. -/
section
variable {L : Nat} {xs : Nat → Int32} {M M' M1 M2 : Nat → Nat → Int} {D W N : Nat → Int} {lk lk' : Nat → Int} {A U V X : List Int} {S G s a b z c f e r d : Int} {i h q n : Nat} {Q R : Option Value → (Nat → Nat → Int) → Prop} {zs : List Int}
/-- a bit of a set -/
def vq_bt (x i : Int) : Int := sx_mf 3 (sx_mf 10 x i) 1
/-- one bit -/
theorem vq_and (Y : Int32) : (Y &&& Int32.ofInt 1).toInt = 0 ∨ (Y &&& Int32.ofInt 1).toInt = 1 := by
  have h1 : (Y.toBitVec &&& 1#32).toNat = Y.toBitVec.toNat % 2 := by
    rw [BitVec.toNat_and]
    exact Nat.and_one_is_mod _
  have h2 : (Y &&& Int32.ofInt 1).toInt = (Y.toBitVec &&& 1#32).toInt := rfl
  rw [h2, BitVec.toInt_eq_toNat_cond, h1]
  rcases Nat.mod_two_eq_zero_or_one Y.toBitVec.toNat with h | h
  · rw [h]
    left
    rfl
  · rw [h]
    right
    rfl
theorem vq_a3 (Y : Int32) : sx_mf 3 Y.toInt 1 = (Y &&& Int32.ofInt 1).toInt := by
  show (Int32.ofInt Y.toInt &&& Int32.ofInt 1).toInt = _
  rw [Int32.ofInt_toInt]
theorem vq_m10 (x i : Int) : sx_mf 10 x i = ((Int32.ofInt x).toUInt32 >>> ((Int32.ofInt i).toUInt32 &&& Int32.toUInt32 31)).toInt32.toInt := rfl
theorem vq_m9 (x i : Int) : sx_mf 9 x i = (Int32.ofInt x >>> (Int32.ofInt i &&& 31)).toInt := rfl
theorem vq_bt_r (x i : Int) : vq_bt x i = 0 ∨ vq_bt x i = 1 := by
  unfold vq_bt
  rw [vq_m10, vq_a3]
  exact vq_and _
theorem vq_bv (x : BitVec 32) {k : Nat} (hk : k < 32) : x.sshiftRight k &&& 1#32 = (x >>> k) &&& 1#32 := by
  refine BitVec.eq_of_getLsbD_eq (fun j hj => ?_)
  rw [BitVec.getLsbD_and, BitVec.getLsbD_and]
  by_cases e : j = 0
  · subst e
    have h1 : (x.sshiftRight k).getLsbD 0 = (x >>> k).getLsbD 0 := by
      rw [BitVec.getLsbD_sshiftRight, BitVec.getLsbD_ushiftRight]
      simp [hk]
    rw [h1]
  · have h1 : (1#32).getLsbD j = false := by
      rw [BitVec.getLsbD_one]
      simp [e]
    rw [h1, Bool.and_false, Bool.and_false]
theorem vq_amt : ∀ k : Nat, k < 32 → ((Int32.ofInt (k : Int) &&& 31).toBitVec.smod 32).toNat = k ∧ (((Int32.ofInt (k : Int)).toUInt32 &&& Int32.toUInt32 31).toBitVec % 32).toNat = k := by decide +kernel
/-- a bit by the other shift -/
theorem vq_b9 (x : Int) {k : Nat} (hk : k < 32) : sx_mf 3 (sx_mf 9 x (k : Int)) 1 = vq_bt x (k : Int) := by
  obtain ⟨h1, h2⟩ := vq_amt k hk
  unfold vq_bt
  rw [vq_m9, vq_m10, vq_a3, vq_a3]
  refine congrArg Int32.toInt (Int32.toBitVec_inj.mp ?_)
  show ((Int32.ofInt x).toBitVec.sshiftRight ((Int32.ofInt (k : Int) &&& 31).toBitVec.smod 32).toNat) &&& 1#32 = ((Int32.ofInt x).toBitVec >>> (((Int32.ofInt (k : Int)).toUInt32 &&& Int32.toUInt32 31).toBitVec % 32).toNat) &&& 1#32
  rw [h1, h2]
  exact vq_bv _ hk
/-- card c may be accepted: D its day, W its house, S who stands, G what is used -/
def vq_may (D W : Nat → Int) (S G d : Int) (c : Nat) : Bool := decide ((D c = d ∨ (D c = -1 ∧ vq_bt G c = 0)) ∧ vq_bt S (W c) = 1)
/-- the best of the first cards, and how much it is liked -/
def vq_ch (D W : Nat → Int) (lk : Nat → Int) (S G d : Int) : Nat → Int × Int
  | 0 => (-1, 0)
  | n + 1 => if vq_may D W S G d n = true ∧ (vq_ch D W lk S G d n).2 < lk (W n).toNat then ((n : Int), lk (W n).toNat) else vq_ch D W lk S G d n
theorem vq_ch_r (h : ∀ i, lk i ≤ 99) : ∀ n, -1 ≤ (vq_ch D W lk S G d n).1 ∧ (vq_ch D W lk S G d n).1 < n ∧ 0 ≤ (vq_ch D W lk S G d n).2 ∧ (vq_ch D W lk S G d n).2 ≤ 99 := by
  intro n
  induction n with
  | zero => exact ⟨Int.le_refl _, by show (-1 : Int) < ((0 : Nat) : Int); omega, Int.le_refl _, by show (0 : Int) ≤ 99; omega⟩
  | succ n ih =>
    have hl := h (W n).toNat
    show -1 ≤ (if vq_may D W S G d n = true ∧ (vq_ch D W lk S G d n).2 < lk (W n).toNat then ((n : Int), lk (W n).toNat) else vq_ch D W lk S G d n).1 ∧ (if vq_may D W S G d n = true ∧ (vq_ch D W lk S G d n).2 < lk (W n).toNat then ((n : Int), lk (W n).toNat) else vq_ch D W lk S G d n).1 < ((n + 1 : Nat) : Int) ∧ 0 ≤ (if vq_may D W S G d n = true ∧ (vq_ch D W lk S G d n).2 < lk (W n).toNat then ((n : Int), lk (W n).toNat) else vq_ch D W lk S G d n).2 ∧ (if vq_may D W S G d n = true ∧ (vq_ch D W lk S G d n).2 < lk (W n).toNat then ((n : Int), lk (W n).toNat) else vq_ch D W lk S G d n).2 ≤ 99
    split
    · rename_i c
      exact ⟨by show (-1 : Int) ≤ (n : Int); omega, by show (n : Int) < ((n + 1 : Nat) : Int); omega, by show 0 ≤ lk (W n).toNat; omega, hl⟩
    · exact ⟨ih.1, by omega, ih.2.2⟩
theorem vq_ch_eq {D' W' : Nat → Int} {lk' : Nat → Int} {n : Nat} : ∀ m, m ≤ n → (∀ c, c < n → D' c = D c ∧ W' c = W c ∧ lk' (W c).toNat = lk (W c).toNat) → vq_ch D' W' lk' S G d m = vq_ch D W lk S G d m := by
  intro m
  induction m with
  | zero => intro _ _; rfl
  | succ m ih =>
    intro hm h
    obtain ⟨h1, h2, h3⟩ := h m (by omega)
    show (if vq_may D' W' S G d m = true ∧ (vq_ch D' W' lk' S G d m).2 < lk' (W' m).toNat then ((m : Int), lk' (W' m).toNat) else vq_ch D' W' lk' S G d m) = (if vq_may D W S G d m = true ∧ (vq_ch D W lk S G d m).2 < lk (W m).toNat then ((m : Int), lk (W m).toNat) else vq_ch D W lk S G d m)
    rw [ih (by omega) h]
    unfold vq_may
    rw [h1, h2, h3]
/-- the sets of at most six: known ones -/
theorem vq_kn : ((List.range 64).all fun k => (List.range 6).all fun h => sx_an (sx_an (sx_le 0 (sx_mf 4 (k : Int) (sx_mf 8 1 (h : Int)))) (sx_le (sx_mf 4 (k : Int) (sx_mf 8 1 (h : Int))) 63)) ((List.range 6).all fun g => bif Nat.beq g h then true else sx_eq (vq_bt (sx_mf 4 (k : Int) (sx_mf 8 1 (h : Int))) (g : Int)) (vq_bt (k : Int) (g : Int)))) = true := by decide +kernel
theorem vq_kn_ok {k h : Nat} (hk : k < 64) (hh : h < 6) : (0 ≤ sx_mf 4 (k : Int) (sx_mf 8 1 (h : Int)) ∧ sx_mf 4 (k : Int) (sx_mf 8 1 (h : Int)) ≤ 63) ∧ ∀ g : Nat, g < 6 → g ≠ h → vq_bt (sx_mf 4 (k : Int) (sx_mf 8 1 (h : Int))) (g : Int) = vq_bt (k : Int) (g : Int) := by
  obtain ⟨h1, h2⟩ := sx_an_iff.mp (List.all_eq_true.mp (List.all_eq_true.mp vq_kn k (List.mem_range.mpr hk)) h (List.mem_range.mpr hh))
  obtain ⟨h1, h3⟩ := sx_an_iff.mp h1
  refine ⟨⟨sx_le_iff.mp h1, sx_le_iff.mp h3⟩, fun g hg hne => ?_⟩
  have h4 := List.all_eq_true.mp h2 g (List.mem_range.mpr hg)
  rw [sx_nbeq_f.mpr hne] at h4
  exact sx_eq_iff.mp h4
theorem vq_kn0 {g : Nat} (hg : g < 6) : vq_bt 0 (g : Int) = 0 := by
  have h : ((List.range 6).all fun g => sx_eq (vq_bt 0 (g : Int)) 0) = true := by decide +kernel
  exact sx_eq_iff.mp (List.all_eq_true.mp h g (List.mem_range.mpr hg))
def vl1_i : List qs_I := [(0, 0, (0, 0), (0, 11)), (0, 0, (0, 0), (0, 29)), (0, 0, (0, 0), sx_r32), (0, 0, (0, 0), sx_r32), (1, 10, (9, 180), (-1, 143)), (1, 11, (9, 0), (0, 5))]
def vl1_T : List og_T := [(none, some (0, 0, 1), [], [], [], [(0, (13, 0), (0, 0), 0, 29), (0, (16, 0), (0, 0), 1, 1), (3, (13, 0), (10, 0), 0, 0), (5, (11, 0), (14, 0), 10, 15), (5, (15, 0), (0, 1), 3, 16)]), (none, some (0, 0, 0), [], [], [], [(0, (13, 0), (0, 0), 0, 29), (7, (16, 0), (0, 0), 1, 0), (3, (13, 0), (10, 0), 0, 0), (5, (11, 0), (14, 0), 10, 15), (5, (15, 0), (0, 1), 3, 16)]), (none, some (0, 0, 1), [], [], [], [(0, (13, 0), (0, 0), -1, -1), (0, (16, 0), (0, 0), 0, 0), (0, (18, 0), (0, 0), 1, 1), (4, (13, 0), (10, 0), 0, 0), (5, (12, 0), (9, 0), 10, 15), (5, (15, 0), (0, 1), 3, 16), (5, (11, 0), (14, 0), 10, 17), (5, (17, 0), (0, 1), 3, 18)]), (none, some (0, 0, 0), [], [], [], [(0, (13, 0), (0, 0), -1, -1), (0, (16, 0), (0, 0), 0, 0), (7, (18, 0), (0, 0), 1, 0), (4, (13, 0), (10, 0), 0, 0), (5, (12, 0), (9, 0), 10, 15), (5, (15, 0), (0, 1), 3, 16), (5, (11, 0), (14, 0), 10, 17), (5, (17, 0), (0, 1), 3, 18)]), (none, some (0, 0, 0), [], [], [], [(0, (13, 0), (0, 0), -1, -1), (7, (16, 0), (0, 0), 0, 0), (4, (13, 0), (10, 0), 0, 0), (5, (12, 0), (9, 0), 10, 15), (5, (15, 0), (0, 1), 3, 16)]), (none, some (0, 0, 0), [], [], [], [(7, (13, 0), (0, 0), -1, 0), (4, (13, 0), (10, 0), 0, 0)])]
theorem vl1_c : qs_chk (fun _ => false) vl1_i 4 vl1_T 400 400 2 58 0 [(0, 2, 0, 9), (1, 0, 9, 0), (2, 0, 10, 0), (3, 0, 11, 0), (4, 0, 12, 0)] [] = true := by decide +kernel
def vr1_i : List qs_I := [(0, 0, (0, 0), (0, 29)), (0, 0, (0, 0), (-2, 11)), (0, 0, (0, 0), (0, 99)), (0, 0, (0, 0), (0, 63)), (0, 0, (0, 0), (0, 11)), (1, 9, (0, 5), (0, 12)), (2, 14, (13, 0), (0, 0)), (1, 21, (0, 8), sx_r32), (1, 21, (0, 6), sx_r32)]
def vr1_T : List og_T := [(some 38, none, [(0, 16, 0), (0, 15, 0), (0, 9, 0), (0, 13, 0), (2, 0, 9)], [(0, 2, 0, 21), (1, 0, 9, 0), (2, 0, 10, 0), (3, 0, 11, 0), (4, 0, 12, 0), (5, 0, 13, 0)], [], [])]
theorem vr1_c : qs_chk (fun pc => Nat.beq pc 38) vr1_i 0 vr1_T 400 400 6 57 11 [(0, 2, 0, 21), (1, 0, 9, 0), (2, 0, 10, 0), (3, 0, 11, 0), (4, 0, 12, 0), (5, 0, 13, 0)] [] = true := by decide +kernel
def vr5_i : List qs_I := [(0, 0, (0, 0), (0, 29)), (0, 0, (0, 0), (-2, 11)), (0, 0, (0, 0), (0, 99)), (0, 0, (0, 0), (0, 63)), (0, 0, (0, 0), (0, 11)), (0, 0, (0, 0), (0, 1)), (1, 11, (13, 0), (0, 5)), (1, 23, (15, 0), sx_r32), (1, 22, (15, 0), sx_r32)]
def vr5_T : List og_T := [(some 11, none, [], [(0, 2, 0, 21), (1, 0, 9, 0), (2, 0, 10, 0), (3, 0, 11, 0), (4, 0, 12, 0), (5, 0, 13, 1)], [], [(0, (14, 0), (0, 0), 0, 0)]), (some 93, none, [(0, 16, 0), (0, 9, 0), (0, 15, 0), (2, 0, 9), (2, 0, 14), (0, 15, 0), (2, 0, 22)], [(0, 2, 0, 21), (1, 0, 9, 0), (2, 0, 10, 0), (3, 0, 11, 0), (4, 0, 12, 0), (5, 0, 13, 0), (6, 0, 15, 0)], [], [(0, (19, 0), (0, 0), 0, 0), (7, (14, 0), (0, 0), 0, 0), (5, (12, 0), (15, 0), 10, 18), (5, (18, 0), (0, 1), 3, 19)]), (some 11, none, [], [(0, 2, 0, 21), (1, 0, 9, 0), (2, 0, 13, 0), (3, 0, 17, 0), (4, 0, 12, 0), (5, 0, 13, 1)], [], [(0, (17, 0), (0, 0), 1, 2147483647), (7, (14, 0), (0, 0), 0, 0), (7, (19, 0), (0, 0), 0, 0), (1, (11, 0), (17, 0), 0, 0), (5, (12, 0), (15, 0), 10, 18), (5, (18, 0), (0, 1), 3, 19)]), (some 11, none, [], [(0, 2, 0, 21), (1, 0, 9, 0), (2, 0, 10, 0), (3, 0, 11, 0), (4, 0, 12, 0), (5, 0, 13, 1)], [], [(0, (17, 0), (0, 0), -2147483648, 99), (7, (14, 0), (0, 0), 0, 0), (7, (19, 0), (0, 0), 0, 0), (2, (11, 0), (17, 0), 0, 0), (5, (12, 0), (15, 0), 10, 18), (5, (18, 0), (0, 1), 3, 19)])]
theorem vr5_c : qs_chk (fun pc => bif Nat.beq pc 11 then true else Nat.beq pc 93) vr5_i 2 vr5_T 400 400 6 57 41 [(0, 2, 0, 21), (1, 0, 9, 0), (2, 0, 10, 0), (3, 0, 11, 0), (4, 0, 12, 0), (5, 0, 13, 0)] [(0, 14, 0)] = true := by decide +kernel
def vr2_i : List qs_I := [(0, 0, (0, 0), (0, 29)), (0, 0, (0, 0), (-2, 11)), (0, 0, (0, 0), (0, 99)), (0, 0, (0, 0), (0, 63)), (0, 0, (0, 0), (0, 11)), (0, 0, (0, 0), (0, 5)), (0, 0, (0, 0), (-99, 99))]
def vr2_T : List og_T := [(some 11, none, [], [(0, 2, 0, 21), (1, 0, 9, 0), (2, 0, 13, 0), (3, 0, 15, 0), (4, 0, 17, 0), (5, 0, 13, 1)], [(22, (14, 0), (15, 0))], [(0, (11, 0), (0, 0), 0, 98), (0, (15, 0), (0, 0), 1, 99), (1, (11, 0), (15, 0), 0, 0), (5, (0, 1), (14, 0), 8, 16), (5, (12, 0), (16, 0), 4, 17)]), (some 11, none, [], [(0, 2, 0, 21), (1, 0, 9, 0), (2, 0, 10, 0), (3, 0, 11, 0), (4, 0, 17, 0), (5, 0, 13, 1)], [(22, (14, 0), (15, 0))], [(2, (11, 0), (15, 0), 0, 0), (5, (0, 1), (14, 0), 8, 16), (5, (12, 0), (16, 0), 4, 17)])]
theorem vr2_c : qs_chk (fun pc => Nat.beq pc 11) vr2_i 2 vr2_T 400 400 6 57 96 [(0, 2, 0, 21), (1, 0, 9, 0), (2, 0, 10, 0), (3, 0, 11, 0), (4, 0, 12, 0), (5, 0, 13, 0), (6, 0, 14, 0)] [(0, 15, 0), (0, 14, 0), (2, 0, 22)] = true := by decide +kernel
def vr3_i : List qs_I := [(0, 0, (0, 0), (0, 29)), (0, 0, (0, 0), (-2, 11)), (0, 0, (0, 0), (0, 99)), (0, 0, (0, 0), (0, 63)), (0, 0, (0, 0), (0, 12)), (1, 9, (0, 5), (0, 12)), (3, 14, (13, 0), (0, 0))]
def vr3_T : List og_T := [(none, some (0, 10, 0), [], [], [], [])]
theorem vr3_c : qs_chk (fun _ => false) vr3_i 0 vr3_T 400 400 6 57 11 [(0, 2, 0, 21), (1, 0, 9, 0), (2, 0, 10, 0), (3, 0, 11, 0), (4, 0, 12, 0), (5, 0, 13, 0)] [] = true := by decide +kernel
def vr4_i : List qs_I := [(0, 0, (0, 0), (0, 29))]
def vr4_T : List og_T := [(some 11, none, [], [(0, 2, 0, 21), (1, 0, 9, 0), (2, 0, 0, -2), (3, 0, 0, 0), (4, 0, 0, 0), (5, 0, 0, 0)], [], [])]
theorem vr4_c : qs_chk (fun pc => Nat.beq pc 11) vr4_i 0 vr4_T 400 400 6 57 0 [(0, 2, 0, 21), (1, 0, 9, 0)] [] = true := by decide +kernel
def vp1_i : List qs_I := [(0, 0, (0, 0), (0, 29))]
def vp1_T : List og_T := [(some 2, none, [(0, 9, 0), (2, 0, 21)], [(0, 2, 0, 21), (1, 0, 9, 0)], [], [])]
theorem vp1_c : qs_chk (fun pc => Nat.beq pc 2) vp1_i 0 vp1_T 400 400 8 56 0 [(0, 2, 0, 21), (1, 0, 9, 0)] [] = true := by decide +kernel
def vp2_i : List qs_I := [(0, 0, (0, 0), (0, 29)), (0, 0, (0, 0), (0, 11)), (1, 10, (10, 180), (-1, 143)), (1, 21, (0, 6), sx_r32), (1, 11, (10, 0), (0, 5)), (1, 23, (13, 0), sx_r32)]
def vp2_T : List og_T := [(none, some (0, 13, 0), [], [], [(23, (13, 0), (17, 0)), (21, (0, 6), (16, 0))], [(0, (11, 0), (0, 0), -1, -1), (5, (0, 1), (10, 0), 8, 15), (5, (12, 0), (15, 0), 4, 16), (5, (14, 0), (0, 1), 0, 17)]), (none, some (0, 13, 0), [], [], [(23, (13, 0), (15, 0))], [(7, (11, 0), (0, 0), -1, 0), (5, (14, 0), (0, 1), 0, 15)])]
theorem vp2_c : qs_chk (fun _ => false) vp2_i 3 vp2_T 400 400 8 56 5 [(0, 2, 0, 21), (1, 0, 9, 0)] [(0, 10, 0)] = true := by decide +kernel
def vp3_i : List qs_I := [(0, 0, (0, 0), (0, 29))]
def vp3_T : List og_T := [(none, some (0, 0, -2), [], [], [], [])]
theorem vp3_c : qs_chk (fun _ => false) vp3_i 0 vp3_T 400 400 8 56 5 [(0, 2, 0, 21), (1, 0, 9, 0)] [(0, 0, -2)] = true := by decide +kernel
/-- nothing is written -/
def vl_Q (M : Nat → Nat → Int) (z : Int) (r : Option Value) (M' : Nat → Nat → Int) : Prop := r = some (.int (Int32.ofInt z)) ∧ sx_mok cl_ly M' ∧ ∀ a, a < 128 → M' a = M a
theorem vl_lies {c d : Nat} (hL : L < 2 ^ 31) (hm : sx_mok cl_ly M) (hc : c ≤ 11) (hd : d ≤ 29) (hS : sx_w sx_r32 S) (hG : sx_w sx_r32 G) : rz_fin (vl_Q M (if vq_may (fun c => M 10 (c + 180)) (M 11) S G (d : Int) c = true then 1 else 0)) L xs 58 2 0 [(0, .ref 9), (1, .int (Int32.ofInt (c : Int))), (2, .int (Int32.ofInt (d : Int))), (3, .int (Int32.ofInt S)), (4, .int (Int32.ofInt G))] [] M := by
  have a1 : ((c : Int) + 180).toNat = c + 180 := by omega
  have w11 : sx_w (0, 5) (M 11 c) := hm 11 _ c _ rfl (by show c < 12; omega) rfl
  have fin : ∀ {M' : Nat → Nat → Int} {b : Bool} {z : Int}, (if b = true then (1 : Int) else 0) = z → vq_may (fun c => M 10 (c + 180)) (M 11) S G (d : Int) c = b → sx_mok cl_ly M' → (∀ a, a < 128 → M' a = M a) → vl_Q M (if vq_may (fun c => M 10 (c + 180)) (M 11) S G (d : Int) c = true then 1 else 0) (some (.int (Int32.ofInt z))) M' := fun {M' b z} hz hb hm' hM => by
    rw [hb, hz]
    exact ⟨rfl, hm', hM⟩
  refine qs_use (zs := [(c : Int), (d : Int), S, G, M 10 (c + 180), M 11 c]) vl1_c hL hm (qs_in (show 0 ≤ (c : Int) ∧ (c : Int) ≤ 11 by omega) (qs_in (show 0 ≤ (d : Int) ∧ (d : Int) ≤ 29 by omega) (qs_iw hS (qs_iw hG (qs_rd (show 0 ≤ (c : Int) + 180 by omega) (show M 10 ((c : Int) + 180).toNat = _ by rw [a1]; rfl) (cx_m10 hm (by omega)) (qs_rd (show 0 ≤ (c : Int) by omega) rfl w11 (qs_fin rfl))))))) (Nat.le_refl _) rfl rfl (qs_c (fun u1 u2 u3 u4 M' hm' hc hM => ?_) (qs_c (fun u1 u2 u3 u4 M' hm' hc hM => ?_) (qs_c (fun u1 u2 u3 u4 M' hm' hc hM => ?_) (qs_c (fun u1 u2 u3 u4 M' hm' hc hM => ?_) (qs_c (fun u1 u2 u3 u4 M' hm' hc hM => ?_) (qs_c (fun u1 u2 u3 u4 M' hm' hc hM => ?_) qs_z))))))
  · obtain ⟨-, c1, c2, c3, c4, -⟩ := hc
    have c1 : 1 ≤ u2 ∧ u2 ≤ 1 := c1
    have c2 : M 10 (c + 180) = (d : Int) := c2
    have c3 : u1 = sx_mf 10 S (M 11 c) := c3
    have c4 : u2 = sx_mf 3 u1 1 := c4
    rw [c3] at c4
    have c4 : u2 = vq_bt S (M 11 c) := c4
    exact fin (b := true) rfl (decide_eq_true ⟨Or.inl c2, by omega⟩) hm' hM
  · obtain ⟨-, c1, c2, c3, c4, -⟩ := hc
    have c1 : u2 ≠ 1 := c1
    have c2 : M 10 (c + 180) = (d : Int) := c2
    have c3 : u1 = sx_mf 10 S (M 11 c) := c3
    have c4 : u2 = sx_mf 3 u1 1 := c4
    rw [c3] at c4
    have c4 : u2 = vq_bt S (M 11 c) := c4
    exact fin (b := false) rfl (decide_eq_false fun g => c1 (c4.trans g.2)) hm' hM
  · obtain ⟨c0, c1, c5, c2, c3, c4, c6, c7, -⟩ := hc
    have c0 : -1 ≤ M 10 (c + 180) ∧ M 10 (c + 180) ≤ -1 := c0
    have c1 : 0 ≤ u2 ∧ u2 ≤ 0 := c1
    have c5 : 1 ≤ u4 ∧ u4 ≤ 1 := c5
    have c3 : u1 = sx_mf 10 G (c : Int) := c3
    have c4 : u2 = sx_mf 3 u1 1 := c4
    have c6 : u3 = sx_mf 10 S (M 11 c) := c6
    have c7 : u4 = sx_mf 3 u3 1 := c7
    rw [c3] at c4
    rw [c6] at c7
    have c4 : u2 = vq_bt G (c : Int) := c4
    have c7 : u4 = vq_bt S (M 11 c) := c7
    exact fin (b := true) rfl (decide_eq_true ⟨Or.inr ⟨by show M 10 (c + 180) = -1; omega, by omega⟩, by omega⟩) hm' hM
  · obtain ⟨c0, c1, c5, c2, c3, c4, c6, c7, -⟩ := hc
    have c5 : u4 ≠ 1 := c5
    have c6 : u3 = sx_mf 10 S (M 11 c) := c6
    have c7 : u4 = sx_mf 3 u3 1 := c7
    rw [c6] at c7
    have c7 : u4 = vq_bt S (M 11 c) := c7
    exact fin (b := false) rfl (decide_eq_false fun g => c5 (c7.trans g.2)) hm' hM
  · obtain ⟨c0, c1, c2, c3, c4, -⟩ := hc
    have c1 : u2 ≠ 0 := c1
    have c2 : ¬ M 10 (c + 180) = (d : Int) := c2
    have c3 : u1 = sx_mf 10 G (c : Int) := c3
    have c4 : u2 = sx_mf 3 u1 1 := c4
    rw [c3] at c4
    have c4 : u2 = vq_bt G (c : Int) := c4
    exact fin (b := false) rfl (decide_eq_false fun g => g.1.elim c2 (fun g => c1 (c4.trans g.2))) hm' hM
  · obtain ⟨c0, c2, -⟩ := hc
    have c0 : M 10 (c + 180) ≠ -1 := c0
    have c2 : ¬ M 10 (c + 180) = (d : Int) := c2
    exact fin (b := false) rfl (decide_eq_false fun g => g.1.elim c2 (fun g => c0 g.1)) hm' hM
def vr_Q (M : Nat → Nat → Int) (z : Int) (r : Option Value) (M' : Nat → Nat → Int) : Prop := r = some (.int (Int32.ofInt z)) ∧ sx_mok cl_ly M' ∧ ∀ a, a < 128 → a ≠ 19 → a ≠ 20 → a ≠ 22 → M' a = M a
/-- none is -2 -/
def vq_or (z : Int) : Int := if z < 0 then -2 else z
def vr_v (d b m k c : Int) : sm_V := [(0, .ref 21), (1, .int (Int32.ofInt d)), (2, .int (Int32.ofInt b)), (3, .int (Int32.ofInt m)), (4, .int (Int32.ofInt k)), (5, .int (Int32.ofInt c))]
/-- how much the class likes cards of a house on day d, as things stand in M -/
def vr_lk (M : Nat → Nat → Int) (d : Nat) (h : Nat) : Int := vq_X M h d (M 23 h)
def vr_ch (M : Nat → Nat → Int) (d n : Nat) : Int × Int := vq_ch (fun c => M 10 (c + 180)) (M 11) (vr_lk M d) (M 21 8) (M 21 6) (d : Int) n
theorem vr_lk_r (d h : Nat) : -99 ≤ vr_lk M d h ∧ vr_lk M d h ≤ 99 := vq_held_r _
theorem vr_keep (hw : WF M) (hR : vu_R M) (h : ∀ a, a < 128 → a ≠ 19 → a ≠ 20 → a ≠ 22 → M' a = M a) : WF M' ∧ vu_R M' ∧ ∀ g d b, vq_X M' g d b = vq_X M g d b := by
  have e67 := h 67 (by decide) (by decide) (by decide) (by decide)
  have e68 := h 68 (by decide) (by decide) (by decide) (by decide)
  have e69 := h 69 (by decide) (by decide) (by decide) (by decide)
  have e70 := h 70 (by decide) (by decide) (by decide) (by decide)
  have e71 := h 71 (by decide) (by decide) (by decide) (by decide)
  have e53 := h 53 (by decide) (by decide) (by decide) (by decide)
  have e10 := h 10 (by decide) (by decide) (by decide) (by decide)
  refine ⟨WF_zs M M' (fun k hk => ?_) hw, vu_on hR hw (h 16 (by decide) (by decide) (by decide) (by decide)) (by rw [h 14 (by decide) (by decide) (by decide) (by decide)]) (by rw [e53]) (fun i _ => by rw [e67, e68]; exact ⟨rfl, rfl⟩) (by rw [e69]) (fun i _ => by rw [e70, e71]; exact ⟨rfl, rfl⟩), fun g d b => ?_⟩
  · simp only [cz_zs, List.mem_cons, List.not_mem_nil, or_false] at hk
    exact h k (by omega) (by omega) (by omega) (by omega)
  · unfold vq_X
    rw [e10]
    exact vq_like_M (by rw [e53]) (by rw [e69]) e67 e68 e70 e71
theorem vr_loop {d nc : Nat} (hL : L < 2 ^ 31) (hd : d ≤ 29) (hw : WF M) (hR : vu_R M) (hnc : M 9 5 = (nc : Int)) (hn : nc ≤ 12) : ∀ (m k kn : Nat) (M' : Nat → Nat → Int), k + m = nc → kn < 64 → sx_mok cl_ly M' → (∀ a, a < 128 → a ≠ 19 → a ≠ 20 → a ≠ 22 → M' a = M a) → (∀ g : Nat, g < 6 → vq_bt (kn : Int) (g : Int) ≠ 0 → M' 22 g = vr_lk M d g) → rz_fin (vr_Q M (vq_or (vr_ch M d nc).1)) L xs 57 6 11 (vr_v (d : Int) (vq_or (vr_ch M d k).1) (vr_ch M d k).2 (kn : Int) (k : Int)) [] M' := by
  intro m
  induction m with
  | zero =>
    intro k kn M' hk hkn hm h _
    have r := vq_ch_r (D := fun c => M 10 (c + 180)) (W := M 11) (S := M 21 8) (G := M 21 6) (d := (d : Int)) (fun i => (vr_lk_r (M := M) d i).2) k
    have r : -1 ≤ (vr_ch M d k).1 ∧ (vr_ch M d k).1 < (k : Int) ∧ 0 ≤ (vr_ch M d k).2 ∧ (vr_ch M d k).2 ≤ 99 := r
    have ro : -2 ≤ vq_or (vr_ch M d k).1 ∧ vq_or (vr_ch M d k).1 ≤ 11 := by unfold vq_or; split <;> omega
    have e9 := h 9 (by decide) (by decide) (by decide) (by decide)
    rw [show nc = k by omega]
    refine qs_use (zs := [(d : Int), vq_or (vr_ch M d k).1, (vr_ch M d k).2, (kn : Int), (k : Int), M 9 5]) vr3_c hL hm (qs_in (show 0 ≤ (d : Int) ∧ (d : Int) ≤ 29 by omega) (qs_in ro (qs_in r.2.2 (qs_in (show 0 ≤ (kn : Int) ∧ (kn : Int) ≤ 63 by omega) (qs_in (show 0 ≤ (k : Int) ∧ (k : Int) ≤ 12 by omega) (qs_rd (show (0 : Int) ≤ 5 by decide) (by rw [e9]; rfl) (show 0 ≤ M 9 5 ∧ M 9 5 ≤ 12 by omega) (qs_ge (show ¬ (k : Int) < M 9 5 by omega) (qs_fin rfl)))))))) (Nat.le_refl _) rfl rfl (qs_c (fun M2 hm2 hc2 hM => ?_) qs_z)
    exact ⟨rfl, hm2, fun a ha x1 x2 x3 => (hM a ha).trans (h a ha x1 x2 x3)⟩
  | succ m ih =>
    intro k kn M' hk hkn hm h hI
    have r := vq_ch_r (D := fun c => M 10 (c + 180)) (W := M 11) (S := M 21 8) (G := M 21 6) (d := (d : Int)) (fun i => (vr_lk_r (M := M) d i).2) k
    have r : -1 ≤ (vr_ch M d k).1 ∧ (vr_ch M d k).1 < (k : Int) ∧ 0 ≤ (vr_ch M d k).2 ∧ (vr_ch M d k).2 ≤ 99 := r
    have ro : -2 ≤ vq_or (vr_ch M d k).1 ∧ vq_or (vr_ch M d k).1 ≤ 11 := by unfold vq_or; split <;> omega
    have e9 := h 9 (by decide) (by decide) (by decide) (by decide)
    have e10 := h 10 (by decide) (by decide) (by decide) (by decide)
    have e11 := h 11 (by decide) (by decide) (by decide) (by decide)
    have e21 := h 21 (by decide) (by decide) (by decide) (by decide)
    have e23 := h 23 (by decide) (by decide) (by decide) (by decide)
    have w8 : sx_w sx_r32 (M 21 8) := by rw [← e21]; exact cv_ly_ok (g := (21, 8, sx_r32)) hm (by decide +kernel)
    have w6 : sx_w sx_r32 (M 21 6) := by rw [← e21]; exact cv_ly_ok (g := (21, 6, sx_r32)) hm (by decide +kernel)
    have w11 : sx_w (0, 5) (M 11 k) := by rw [← e11]; exact hm 11 _ k _ rfl (by show k < 12; omega) rfl
    have w11 : 0 ≤ M 11 k ∧ M 11 k ≤ 5 := w11
    obtain ⟨g, hg⟩ : ∃ g : Nat, M 11 k = (g : Int) := ⟨(M 11 k).toNat, by omega⟩
    have gt : (M 11 k).toNat = g := by omega
    have g6 : g < 6 := by omega
    obtain ⟨b, hb⟩ : ∃ b : Bool, vq_may (fun c => M 10 (c + 180)) (M 11) (M 21 8) (M 21 6) (d : Int) k = b := ⟨_, rfl⟩
    have step : vr_ch M d (k + 1) = if b = true ∧ (vr_ch M d k).2 < vr_lk M d g then ((k : Int), vr_lk M d g) else vr_ch M d k := by
      show (if vq_may (fun c => M 10 (c + 180)) (M 11) (M 21 8) (M 21 6) (d : Int) k = true ∧ (vr_ch M d k).2 < vr_lk M d (M 11 k).toNat then ((k : Int), vr_lk M d (M 11 k).toNat) else vr_ch M d k) = _
      rw [hb, gt]
    have vo : vq_or (k : Int) = (k : Int) := by unfold vq_or; rw [if_neg (by omega)]
    refine qs_use (zs := [(d : Int), vq_or (vr_ch M d k).1, (vr_ch M d k).2, (kn : Int), (k : Int), M 9 5, M 21 8, M 21 6]) vr1_c hL hm (qs_in (show 0 ≤ (d : Int) ∧ (d : Int) ≤ 29 by omega) (qs_in ro (qs_in r.2.2 (qs_in (show 0 ≤ (kn : Int) ∧ (kn : Int) ≤ 63 by omega) (qs_in (show 0 ≤ (k : Int) ∧ (k : Int) ≤ 11 by omega) (qs_rd (show (0 : Int) ≤ 5 by decide) (by rw [e9]; rfl) (show 0 ≤ M 9 5 ∧ M 9 5 ≤ 12 by omega) (qs_lt (show (k : Int) < M 9 5 by omega) (qs_rd (show (0 : Int) ≤ 8 by decide) (by rw [e21]; rfl) w8 (qs_rd (show (0 : Int) ≤ 6 by decide) (by rw [e21]; rfl) w6 (qs_fin rfl)))))))))) (Nat.le_refl _) rfl rfl (qs_c (fun M2 hm2 hc2 hM2 => ?_) qs_z)
    have f2 : ∀ a, a < 128 → M2 a = M' a := hM2
    have f10 := (f2 10 (by decide)).trans e10
    have f11 := (f2 11 (by decide)).trans e11
    show rz_fin _ L xs 57 6 38 (vr_v (d : Int) (vq_or (vr_ch M d k).1) (vr_ch M d k).2 (kn : Int) (k : Int)) [.int (Int32.ofInt (M 21 6)), .int (Int32.ofInt (M 21 8)), .int (Int32.ofInt (d : Int)), .int (Int32.ofInt (k : Int)), .ref 9] M2
    have hl := vl_lies (xs := xs) (M := M2) (c := k) (d := d) (S := M 21 8) (G := M 21 6) hL hm2 (by omega) hd w8 w6
    rw [f10, f11, hb] at hl
    refine qs_vc (k := 58) (b := 9) (d := 5) (d' := 5) (rest := []) rfl rfl rfl rfl rfl rfl rfl rfl (Nat.le_refl _) rfl (rz_d (by decide) hl) (fun r9 M3 hr => ?_)
    obtain ⟨rfl, hm3, f3⟩ := hr
    have h3 : ∀ a, a < 128 → M3 a = M' a := fun a ha => (f3 a ha).trans (f2 a ha)
    have h3' : ∀ a, a < 128 → a ≠ 19 → a ≠ 20 → a ≠ 22 → M3 a = M a := fun a ha x1 x2 x3 => (h3 a ha).trans (h a ha x1 x2 x3)
    have z11 := h3' 11 (by decide) (by decide) (by decide) (by decide)
    have z23 := h3' 23 (by decide) (by decide) (by decide) (by decide)
    have w23 : sx_w sx_r32 (M 23 g) := by rw [← z23]; exact hm3 23 _ g _ rfl (by show g < 6; omega) rfl
    have w22 : sx_w sx_r32 (M3 22 g) := hm3 22 _ g _ rfl (by show g < 6; omega) rfl
    refine qs_use (zs := [(d : Int), vq_or (vr_ch M d k).1, (vr_ch M d k).2, (kn : Int), (k : Int), if b = true then 1 else 0, (g : Int), M 23 g, M3 22 g]) vr5_c hL hm3 (qs_in (show 0 ≤ (d : Int) ∧ (d : Int) ≤ 29 by omega) (qs_in ro (qs_in r.2.2 (qs_in (show 0 ≤ (kn : Int) ∧ (kn : Int) ≤ 63 by omega) (qs_in (show 0 ≤ (k : Int) ∧ (k : Int) ≤ 11 by omega) (qs_in (show 0 ≤ (if b = true then (1 : Int) else 0) ∧ (if b = true then (1 : Int) else 0) ≤ 1 by split <;> omega) (qs_rd (show 0 ≤ (k : Int) by omega) (show M3 11 (k : Int).toNat = _ by rw [z11]; exact hg) (show 0 ≤ (g : Int) ∧ (g : Int) ≤ 5 by omega) (qs_rd (show 0 ≤ (g : Int) by omega) (by rw [z23]; rfl) w23 (qs_rd (show 0 ≤ (g : Int) by omega) rfl w22 (qs_fin rfl)))))))))) (Nat.le_refl _) rfl rfl (qs_c (fun u1 u2 M4 hm4 hc4 hM4 => ?_) (qs_c (fun u1 u2 M4 hm4 hc4 hM4 => ?_) (qs_c (fun u1 u2 M4 hm4 hc4 hM4 => ?_) (qs_c (fun u1 u2 M4 hm4 hc4 hM4 => ?_) qs_z))))
    · -- may not be
      have c1 : 0 ≤ (if b = true then (1 : Int) else 0) ∧ (if b = true then (1 : Int) else 0) ≤ 0 := hc4.1
      have hb0 : b ≠ true := fun e => by rw [if_pos e] at c1; omega
      rw [if_neg (fun e => hb0 e.1)] at step
      have := ih (k + 1) kn M4 (by omega) hkn hm4 (fun a ha x1 x2 x3 => (hM4 a ha).trans (h3' a ha x1 x2 x3)) (fun g hg hk => by rw [hM4 22 (by decide)]; show M3 22 g = _; rw [h3 22 (by decide)]; exact hI g hg hk)
      rw [step, show ((k + 1 : Nat) : Int) = (k : Int) + 1 by omega] at this
      exact this
    · -- the law is asked
      obtain ⟨c1, c2, c3, c4, -⟩ := hc4
      have c1 : 0 ≤ u2 ∧ u2 ≤ 0 := c1
      have c2 : (if b = true then (1 : Int) else 0) ≠ 0 := c2
      have hb1 : b = true := by
        by_cases e : b = true
        · exact e
        · rw [if_neg e] at c2
          exact absurd rfl c2
      have h4' : ∀ a, a < 128 → a ≠ 19 → a ≠ 20 → a ≠ 22 → M4 a = M a := fun a ha x1 x2 x3 => (hM4 a ha).trans (h3' a ha x1 x2 x3)
      obtain ⟨w4, r4, X4⟩ := vr_keep hw hR h4'
      show rz_fin _ L xs 57 6 93 [(0, .ref 21), (1, .int (Int32.ofInt (d : Int))), (2, .int (Int32.ofInt (vq_or (vr_ch M d k).1))), (3, .int (Int32.ofInt (vr_ch M d k).2)), (4, .int (Int32.ofInt (kn : Int))), (5, .int (Int32.ofInt (k : Int))), (6, .int (Int32.ofInt (g : Int)))] [.int (Int32.ofInt (M 23 g)), .int (Int32.ofInt (d : Int)), .int (Int32.ofInt (g : Int)), .ref 9, .ref 14, .int (Int32.ofInt (g : Int)), .ref 22] M4
      have hlk := wy_like (xs := xs) (M := M4) (h := g) (d := d) (b := M 23 g) hL hm4 w4 r4 (by omega) hd w23
      rw [X4] at hlk
      have hlk : rz_fin (wy_Q M4 (vr_lk M d g)) L xs 59 3 0 [(0, .ref 14), (1, .ref 9), (2, .int (Int32.ofInt (g : Int))), (3, .int (Int32.ofInt (d : Int))), (4, .int (Int32.ofInt (M 23 g)))] [] M4 := hlk
      refine qs_vc (k := 59) (b := 14) (d := 5) (d' := 5) (rest := [.int (Int32.ofInt (g : Int)), .ref 22]) rfl rfl rfl rfl rfl rfl rfl rfl (Nat.le_refl _) rfl (rz_d (by decide) hlk) (fun r9 M5 hr => ?_)
      obtain ⟨rfl, hm5, f5⟩ := hr
      have lr := vr_lk_r (M := M) d g
      obtain ⟨k1, k2⟩ := vq_kn_ok hkn g6
      refine qs_use (zs := [(d : Int), vq_or (vr_ch M d k).1, (vr_ch M d k).2, (kn : Int), (k : Int), (g : Int), vr_lk M d g]) vr2_c hL hm5 (qs_in (show 0 ≤ (d : Int) ∧ (d : Int) ≤ 29 by omega) (qs_in ro (qs_in r.2.2 (qs_in (show 0 ≤ (kn : Int) ∧ (kn : Int) ≤ 63 by omega) (qs_in (show 0 ≤ (k : Int) ∧ (k : Int) ≤ 11 by omega) (qs_in (show 0 ≤ (g : Int) ∧ (g : Int) ≤ 5 by omega) (qs_in lr (qs_fin rfl)))))))) (Nat.le_refl _) rfl rfl (qs_c (fun v1 v2 M6 hm6 hc6 hM6 => ?_) (qs_c (fun v1 v2 M6 hm6 hc6 hM6 => ?_) qs_z))
      · obtain ⟨-, -, c5, c6, c7, -⟩ := hc6
        have c5 : (vr_ch M d k).2 < vr_lk M d g := c5
        have c6 : v1 = sx_mf 8 1 (g : Int) := c6
        have c7 : v2 = sx_mf 4 (kn : Int) v1 := c7
        rw [c6] at c7
        have hM6 : ∀ a, a < 128 → M6 a = sx_up M5 22 (g : Int).toNat (vr_lk M d g) a := hM6
        rw [Int.toNat_natCast] at hM6
        rw [if_pos ⟨hb1, c5⟩] at step
        have := ih (k + 1) v2.toNat M6 (by omega) (by rw [← c7] at k1; omega) hm6 (fun a ha x1 x2 x3 => by rw [hM6 a ha, sh_une x3, f5 a ha x1 x2]; exact h4' a ha x1 x2 x3) (fun g' hg' hk' => by
          rw [hM6 22 (by decide)]
          by_cases e : g' = g
          · rw [e, sh_uat]
          · rw [sh_unj e, f5 22 (by decide) (by decide) (by decide), hM4 22 (by decide)]
            show M3 22 g' = _
            rw [h3 22 (by decide)]
            refine hI g' hg' (fun e0 => hk' ?_)
            rw [show ((v2.toNat : Nat) : Int) = v2 by rw [← c7] at k1; omega, c7, k2 g' hg' e, e0])
        rw [step, vo, show ((v2.toNat : Nat) : Int) = v2 by rw [← c7] at k1; omega, show ((k + 1 : Nat) : Int) = (k : Int) + 1 by omega] at this
        exact this
      · obtain ⟨c5, c6, c7, -⟩ := hc6
        have c5 : ¬ (vr_ch M d k).2 < vr_lk M d g := c5
        have c6 : v1 = sx_mf 8 1 (g : Int) := c6
        have c7 : v2 = sx_mf 4 (kn : Int) v1 := c7
        rw [c6] at c7
        have hM6 : ∀ a, a < 128 → M6 a = sx_up M5 22 (g : Int).toNat (vr_lk M d g) a := hM6
        rw [Int.toNat_natCast] at hM6
        rw [if_neg (fun e => c5 e.2)] at step
        have := ih (k + 1) v2.toNat M6 (by omega) (by rw [← c7] at k1; omega) hm6 (fun a ha x1 x2 x3 => by rw [hM6 a ha, sh_une x3, f5 a ha x1 x2]; exact h4' a ha x1 x2 x3) (fun g' hg' hk' => by
          rw [hM6 22 (by decide)]
          by_cases e : g' = g
          · rw [e, sh_uat]
          · rw [sh_unj e, f5 22 (by decide) (by decide) (by decide), hM4 22 (by decide)]
            show M3 22 g' = _
            rw [h3 22 (by decide)]
            refine hI g' hg' (fun e0 => hk' ?_)
            rw [show ((v2.toNat : Nat) : Int) = v2 by rw [← c7] at k1; omega, c7, k2 g' hg' e, e0])
        rw [step, show ((v2.toNat : Nat) : Int) = v2 by rw [← c7] at k1; omega, show ((k + 1 : Nat) : Int) = (k : Int) + 1 by omega] at this
        exact this
    · obtain ⟨c0, c1, c2, c3, c4, c5, -⟩ := hc4
      have c1 : (if b = true then (1 : Int) else 0) ≠ 0 := c1
      have c2 : u2 ≠ 0 := c2
      have c3 : (vr_ch M d k).2 < M3 22 g := c3
      have c4 : u1 = sx_mf 10 (kn : Int) (g : Int) := c4
      have c5 : u2 = sx_mf 3 u1 1 := c5
      rw [c4] at c5
      have c5 : u2 = vq_bt (kn : Int) (g : Int) := c5
      have hb1 : b = true := by
        by_cases e : b = true
        · exact e
        · rw [if_neg e] at c1
          exact absurd rfl c1
      have e22 : M3 22 g = vr_lk M d g := by rw [h3 22 (by decide)]; exact hI g g6 (by rw [← c5]; exact c2)
      rw [e22] at c3
      rw [if_pos ⟨hb1, c3⟩] at step
      have := ih (k + 1) kn M4 (by omega) hkn hm4 (fun a ha x1 x2 x3 => (hM4 a ha).trans (h3' a ha x1 x2 x3)) (fun g hg hk => by rw [hM4 22 (by decide)]; show M3 22 g = _; rw [h3 22 (by decide)]; exact hI g hg hk)
      rw [step, vo, ← e22, show ((k + 1 : Nat) : Int) = (k : Int) + 1 by omega] at this
      exact this
    · obtain ⟨c0, c1, c2, c3, c4, c5, -⟩ := hc4
      have c2 : u2 ≠ 0 := c2
      have c3 : ¬ (vr_ch M d k).2 < M3 22 g := c3
      have c4 : u1 = sx_mf 10 (kn : Int) (g : Int) := c4
      have c5 : u2 = sx_mf 3 u1 1 := c5
      rw [c4] at c5
      have c5 : u2 = vq_bt (kn : Int) (g : Int) := c5
      have e22 : M3 22 g = vr_lk M d g := by rw [h3 22 (by decide)]; exact hI g g6 (by rw [← c5]; exact c2)
      rw [e22] at c3
      rw [if_neg (fun e => c3 e.2)] at step
      have := ih (k + 1) kn M4 (by omega) hkn hm4 (fun a ha x1 x2 x3 => (hM4 a ha).trans (h3' a ha x1 x2 x3)) (fun g hg hk => by rw [hM4 22 (by decide)]; show M3 22 g = _; rw [h3 22 (by decide)]; exact hI g hg hk)
      rw [step, show ((k + 1 : Nat) : Int) = (k : Int) + 1 by omega] at this
      exact this
/-- the card that the class accepts -/
theorem vr_choice {d nc : Nat} (hL : L < 2 ^ 31) (hm : sx_mok cl_ly M) (hd : d ≤ 29) (hw : WF M) (hR : vu_R M) (hnc : M 9 5 = (nc : Int)) : rz_fin (vr_Q M (vq_or (vr_ch M d nc).1)) L xs 57 6 0 [(0, .ref 21), (1, .int (Int32.ofInt (d : Int)))] [] M := by
  have h12 : 0 ≤ M 9 5 ∧ M 9 5 ≤ 12 := cv_ly_ok (g := (9, 5, 0, 12)) hm (by decide +kernel)
  refine qs_use (zs := [(d : Int)]) vr4_c hL hm (qs_in (show 0 ≤ (d : Int) ∧ (d : Int) ≤ 29 by omega) (qs_fin rfl)) (Nat.le_refl _) rfl rfl (qs_c (fun M2 hm2 hc hM => ?_) qs_z)
  exact vr_loop hL hd hw hR hnc (by omega) nc 0 0 M2 (by omega) (by decide) hm2 (fun a ha _ _ _ => hM a ha) (fun g hg hk => absurd (vq_kn0 hg) hk)
end
