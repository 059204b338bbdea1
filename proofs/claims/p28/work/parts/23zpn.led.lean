/-! led: the pair. -/
section
variable {L : Nat} {xs : Nat → Int32} {M M' N N' M0 M1 M2 X Y : Nat → Nat → Int} {k H : Int}
def lea_i : List qs_I := [(0, 0, (0, 0), (-2147483648, -1))]
def lea_T : List og_T := [(none, some (0, 0, -1), [], [], [], [])]
theorem lea_c : qs_chk (fun _ => false) lea_i 0 lea_T 400 400 4 116 0 [(0, 2, 0, 8), (1, 0, 9, 0)] [] = true := by decide +kernel
def leb_i : List qs_I := [(0, 0, (0, 0), (0, 4)), (1, 13, (9, 0), sx_r32)]
def leb_T : List og_T := [(none, some (0, 10, 0), [], [], [], [])]
theorem leb_c : qs_chk (fun _ => false) leb_i 0 leb_T 400 400 4 116 0 [(0, 2, 0, 8), (1, 0, 9, 0)] [] = true := by decide +kernel
def lec_i : List qs_I := [(0, 0, (0, 0), (5, 9))]
def lec_T : List og_T := [(none, some (0, 0, -1), [], [], [], [])]
theorem lec_c : qs_chk (fun _ => false) lec_i 0 lec_T 400 400 4 116 0 [(0, 2, 0, 8), (1, 0, 9, 0)] [] = true := by decide +kernel
def led_i : List qs_I := [(0, 0, (0, 0), (10, 15)), (1, 9, (0, 4), (0, 6)), (1, 12, (9, -10), sx_r32)]
def led_T : List og_T := [(none, some (0, 11, 0), [], [], [], [(0, (10, 0), (0, 0), 1, 6), (1, (9, 0), (10, 0), 10, 0)]), (none, some (0, 0, -1), [], [], [], [(0, (10, 0), (0, 0), 0, 5), (2, (9, 0), (10, 0), 10, 0)])]
theorem led_c : qs_chk (fun _ => false) led_i 0 led_T 400 400 4 116 0 [(0, 2, 0, 8), (1, 0, 9, 0)] [] = true := by decide +kernel
def lee_i : List qs_I := [(0, 0, (0, 0), (16, 2147483647)), (1, 9, (0, 4), (0, 6))]
def lee_T : List og_T := [(none, some (0, 0, -1), [], [], [], [])]
theorem lee_c : qs_chk (fun _ => false) lee_i 0 lee_T 400 400 4 116 0 [(0, 2, 0, 8), (1, 0, 9, 0)] [] = true := by decide +kernel
def lma_i : List qs_I := [(0, 0, (0, 0), (-2147483638, -1)), (1, 53, (0, 1), (0, 6))]
def lma_T : List og_T := [(none, some (0, 0, -1), [], [], [], [])]
theorem lma_c : qs_chk (fun _ => false) lma_i 0 lma_T 400 400 4 242 0 [(0, 2, 0, 53), (1, 0, 9, 0)] [] = true := by decide +kernel
def lmb_i : List qs_I := [(0, 0, (0, 0), (0, 4)), (1, 82, (9, 0), sx_r32)]
def lmb_T : List og_T := [(none, some (0, 10, 0), [], [], [], [])]
theorem lmb_c : qs_chk (fun _ => false) lmb_i 0 lmb_T 400 400 4 242 0 [(0, 2, 0, 53), (1, 0, 9, 0)] [] = true := by decide +kernel
def lmc_i : List qs_I := [(0, 0, (0, 0), (5, 9)), (1, 53, (0, 1), (0, 6))]
def lmc_T : List og_T := [(none, some (0, 0, -1), [], [], [], [])]
theorem lmc_c : qs_chk (fun _ => false) lmc_i 0 lmc_T 400 400 4 242 0 [(0, 2, 0, 53), (1, 0, 9, 0)] [] = true := by decide +kernel
def lmd_i : List qs_I := [(0, 0, (0, 0), (10, 15)), (1, 53, (0, 1), (0, 6)), (1, 74, (9, -10), sx_r32)]
def lmd_T : List og_T := [(none, some (0, 0, -1), [], [], [], [(0, (10, 0), (0, 0), 0, 5), (1, (10, 0), (9, 0), -9, 0)]), (none, some (0, 11, 0), [], [], [], [(0, (10, 0), (0, 0), 1, 6), (2, (10, 0), (9, 0), -9, 0)])]
theorem lmd_c : qs_chk (fun _ => false) lmd_i 0 lmd_T 400 400 4 242 0 [(0, 2, 0, 53), (1, 0, 9, 0)] [] = true := by decide +kernel
def lme_i : List qs_I := [(0, 0, (0, 0), (16, 2147483647)), (1, 53, (0, 1), (0, 6))]
def lme_T : List og_T := [(none, some (0, 0, -1), [], [], [], [])]
theorem lme_c : qs_chk (fun _ => false) lme_i 0 lme_T 400 400 4 242 0 [(0, 2, 0, 53), (1, 0, 9, 0)] [] = true := by decide +kernel
theorem lmf_c : ((List.range 10).all fun j => qs_chk (fun _ => false) [(1, 53, (0, 1), (0, 6))] 0 [(none, some (0, 0, -1), [], [], [], [])] 400 400 4 242 0 [(0, 2, 0, 53), (1, 0, 0, -2147483648 + (j : Int))] []) = true := by decide +kernel
/-- what is told -/
def ed_v (H : Int) (T B : Nat → Int) (k : Int) : Int := if 0 ≤ k ∧ k ≤ 4 then T k.toNat else if 10 ≤ k ∧ k < H + 10 then B (k - 10).toNat else -1
def ed_Q (M : Nat → Nat → Int) (z : Int) (r : Option Value) (N : Nat → Nat → Int) : Prop := r = some (.int (Int32.ofInt z)) ∧ sx_mok cl_ly N ∧ ∀ a, a < 128 → N a = M a
theorem ed_x (hL : L < 2 ^ 31) (hm : sx_mok cl_ly M) (wk : sx_w sx_r32 k) : rz_fin (ed_Q M (ed_v (M 9 4) (M 13) (M 12) k)) L xs 116 4 0 [(0, .ref 8), (1, .int (Int32.ofInt k))] [] M := by
  have h4 := cx_fld (c := 9) (k := 4) (lo := 0) (hi := 6) hm (by decide +kernel)
  have wk := sx_r32_iff.mp wk
  by_cases q1 : k < 0
  · have e : ed_v (M 9 4) (M 13) (M 12) k = -1 := by
      unfold ed_v
      rw [if_neg (by omega), if_neg (by omega)]
    rw [e]
    exact qs_use (zs := [k]) lea_c hL hm (qs_in (show -2147483648 ≤ k ∧ k ≤ -1 by omega) (qs_fin rfl)) (Nat.le_refl _) rfl rfl (qs_c (fun N hN hc hM => ⟨rfl, hN, hM⟩) qs_z)
  by_cases q2 : k ≤ 4
  · obtain ⟨n, rfl⟩ := Int.eq_ofNat_of_zero_le (show 0 ≤ k by omega)
    have e : ed_v (M 9 4) (M 13) (M 12) (n : Int) = M 13 n := if_pos (by omega)
    rw [e]
    have w : sx_w sx_r32 (M 13 n) := hm 13 _ n _ rfl (by show n < 5; omega) rfl
    exact qs_use (zs := [(n : Int), M 13 n]) leb_c hL hm (qs_in (show 0 ≤ (n : Int) ∧ (n : Int) ≤ 4 by omega) (qs_rd (show 0 ≤ (n : Int) by omega) rfl w (qs_fin rfl))) (Nat.le_refl _) rfl rfl (qs_c (fun N hN hc hM => ⟨rfl, hN, hM⟩) qs_z)
  by_cases q3 : k ≤ 9
  · have e : ed_v (M 9 4) (M 13) (M 12) k = -1 := by
      unfold ed_v
      rw [if_neg (by omega), if_neg (by omega)]
    rw [e]
    exact qs_use (zs := [k]) lec_c hL hm (qs_in (show 5 ≤ k ∧ k ≤ 9 by omega) (qs_fin rfl)) (Nat.le_refl _) rfl rfl (qs_c (fun N hN hc hM => ⟨rfl, hN, hM⟩) qs_z)
  by_cases q4 : k ≤ 15
  · obtain ⟨n, en⟩ := Int.eq_ofNat_of_zero_le (show 0 ≤ k - 10 by omega)
    have w : sx_w sx_r32 (M 12 n) := hm 12 _ n _ rfl (by show n < 6; omega) rfl
    have ek : k + -10 = (n : Int) := by omega
    refine qs_use (zs := [k, M 9 4, M 12 n]) led_c hL hm (qs_in (show 10 ≤ k ∧ k ≤ 15 by omega) (qs_rd (show (0 : Int) ≤ 4 by decide) rfl h4 (qs_rd (show 0 ≤ k + -10 by omega) (by
      show M 12 (k + -10).toNat = M 12 n
      rw [ek, Int.toNat_natCast]) w (qs_fin rfl)))) (Nat.le_refl _) rfl rfl (qs_c (fun N hN hc hM => ?_) (qs_c (fun N hN hc hM => ?_) qs_z))
    · have c1 : k < M 9 4 + 10 := hc.2.1
      have e : ed_v (M 9 4) (M 13) (M 12) k = M 12 n := by
        unfold ed_v
        rw [if_neg (by omega), if_pos (by omega), en, Int.toNat_natCast]
      rw [e]
      exact ⟨rfl, hN, hM⟩
    · have c1 : ¬ k < M 9 4 + 10 := hc.2.1
      have e : ed_v (M 9 4) (M 13) (M 12) k = -1 := by
        unfold ed_v
        rw [if_neg (by omega), if_neg (by omega)]
      rw [e]
      exact ⟨rfl, hN, hM⟩
  · have e : ed_v (M 9 4) (M 13) (M 12) k = -1 := by
      unfold ed_v
      rw [if_neg (by omega), if_neg (by omega)]
    rw [e]
    exact qs_use (zs := [k, M 9 4]) lee_c hL hm (qs_in (show 16 ≤ k ∧ k ≤ 2147483647 by omega) (qs_rd (show (0 : Int) ≤ 4 by decide) rfl h4 (qs_fin rfl))) (Nat.le_refl _) rfl rfl (qs_c (fun N hN hc hM => ⟨rfl, hN, hM⟩) qs_z)
theorem ed_y (hL : L < 2 ^ 31) (hm : sx_mok cl_ly M) (wk : sx_w sx_r32 k) : rz_fin (ed_Q M (ed_v (M 53 1) (M 82) (M 74) k)) L xs 242 4 0 [(0, .ref 53), (1, .int (Int32.ofInt k))] [] M := by
  have h4 := cx_fld (c := 53) (k := 1) (lo := 0) (hi := 6) hm (by decide +kernel)
  have wk := sx_r32_iff.mp wk
  have no : ¬ (0 ≤ k ∧ k ≤ 4) → ¬ (10 ≤ k ∧ k < M 53 1 + 10) → ed_v (M 53 1) (M 82) (M 74) k = -1 := fun a b => by
    unfold ed_v
    rw [if_neg a, if_neg b]
  by_cases q0 : k < -2147483638
  · rw [no (by omega) (by omega)]
    obtain ⟨j, ej⟩ := Int.eq_ofNat_of_zero_le (show 0 ≤ k + 2147483648 by omega)
    have ek : k = -2147483648 + (j : Int) := by omega
    rw [ek]
    exact qs_use (zs := [M 53 1]) (List.all_eq_true.mp lmf_c j (List.mem_range.mpr (by omega))) hL hm (qs_rd (show (0 : Int) ≤ 1 by decide) rfl h4 (qs_fin rfl)) (Nat.le_refl _) rfl rfl (qs_c (fun N hN hc hM => ⟨rfl, hN, hM⟩) qs_z)
  by_cases q1 : k < 0
  · rw [no (by omega) (by omega)]
    exact qs_use (zs := [k, M 53 1]) lma_c hL hm (qs_in (show -2147483638 ≤ k ∧ k ≤ -1 by omega) (qs_rd (show (0 : Int) ≤ 1 by decide) rfl h4 (qs_fin rfl))) (Nat.le_refl _) rfl rfl (qs_c (fun N hN hc hM => ⟨rfl, hN, hM⟩) qs_z)
  by_cases q2 : k ≤ 4
  · obtain ⟨n, rfl⟩ := Int.eq_ofNat_of_zero_le (show 0 ≤ k by omega)
    have e : ed_v (M 53 1) (M 82) (M 74) (n : Int) = M 82 n := if_pos (by omega)
    rw [e]
    have w : sx_w sx_r32 (M 82 n) := hm 82 _ n _ rfl (by show n < 5; omega) rfl
    exact qs_use (zs := [(n : Int), M 82 n]) lmb_c hL hm (qs_in (show 0 ≤ (n : Int) ∧ (n : Int) ≤ 4 by omega) (qs_rd (show 0 ≤ (n : Int) by omega) rfl w (qs_fin rfl))) (Nat.le_refl _) rfl rfl (qs_c (fun N hN hc hM => ⟨rfl, hN, hM⟩) qs_z)
  by_cases q3 : k ≤ 9
  · rw [no (by omega) (by omega)]
    exact qs_use (zs := [k, M 53 1]) lmc_c hL hm (qs_in (show 5 ≤ k ∧ k ≤ 9 by omega) (qs_rd (show (0 : Int) ≤ 1 by decide) rfl h4 (qs_fin rfl))) (Nat.le_refl _) rfl rfl (qs_c (fun N hN hc hM => ⟨rfl, hN, hM⟩) qs_z)
  by_cases q4 : k ≤ 15
  · obtain ⟨n, en⟩ := Int.eq_ofNat_of_zero_le (show 0 ≤ k - 10 by omega)
    have w : sx_w sx_r32 (M 74 n) := hm 74 _ n _ rfl (by show n < 6; omega) rfl
    have ek : k + -10 = (n : Int) := by omega
    refine qs_use (zs := [k, M 53 1, M 74 n]) lmd_c hL hm (qs_in (show 10 ≤ k ∧ k ≤ 15 by omega) (qs_rd (show (0 : Int) ≤ 1 by decide) rfl h4 (qs_rd (show 0 ≤ k + -10 by omega) (by
      show M 74 (k + -10).toNat = M 74 n
      rw [ek, Int.toNat_natCast]) w (qs_fin rfl)))) (Nat.le_refl _) rfl rfl (qs_c (fun N hN hc hM => ?_) (qs_c (fun N hN hc hM => ?_) qs_z))
    · have c1 : M 53 1 < k + -9 := hc.2.1
      rw [no (by omega) (by omega)]
      exact ⟨rfl, hN, hM⟩
    · have c1 : ¬ M 53 1 < k + -9 := hc.2.1
      have e : ed_v (M 53 1) (M 82) (M 74) k = M 74 n := by
        unfold ed_v
        rw [if_neg (by omega), if_pos (by omega), en, Int.toNat_natCast]
      rw [e]
      exact ⟨rfl, hN, hM⟩
  · rw [no (by omega) (by omega)]
    exact qs_use (zs := [k, M 53 1]) lme_c hL hm (qs_in (show 16 ≤ k ∧ k ≤ 2147483647 by omega) (qs_rd (show (0 : Int) ≤ 1 by decide) rfl h4 (qs_fin rfl))) (Nat.le_refl _) rfl rfl (qs_c (fun N hN hc hM => ⟨rfl, hN, hM⟩) qs_z)
/-- led of both sides -/
theorem fs_le (hL : L < 2 ^ 31) (hI : la_I WF bs_cps M) (hS : fs_SS M) (wk : sx_w sx_r32 k) : fs_P WF L xs 0 116 242 [.ref 8, .int (Int32.ofInt k)] [.ref 53, .int (Int32.ofInt k)] (-2147483648, 2147483647) M := by
  obtain ⟨e1, -, -, -, -, -, -⟩ := bs_eq hI
  have hm := hI.1
  obtain ⟨-, -, s3, s4⟩ := hS.2.1
  have wz : sx_w sx_r32 (ed_v (M 9 4) (M 13) (M 12) k) := by
    have h4 := cx_fld (c := 9) (k := 4) (lo := 0) (hi := 6) hm (by decide +kernel)
    unfold ed_v
    split
    · exact hm 13 _ k.toNat _ rfl (by show k.toNat < 5; omega) rfl
    · split
      · exact hm 12 _ (k - 10).toNat _ rfl (by show (k - 10).toNat < 6; omega) rfl
      · exact og_w32 (by decide) (by decide)
  have eq : ∀ N : Nat → Nat → Int, (∀ a, a < 128 → N a = M a) → ed_v (N 53 1) (N 82) (N 74) k = ed_v (M 9 4) (M 13) (M 12) k := fun N f => by
    have h4 := cx_fld (c := 9) (k := 4) (lo := 0) (hi := 6) hm (by decide +kernel)
    unfold ed_v
    rw [f 53 (by decide), f 82 (by decide), f 74 (by decide), ← e1]
    split
    · exact (s4 k.toNat (by omega)).symm
    · split
      · exact (s3 (k - 10).toNat (by omega)).symm
      · rfl
  refine fs_mk (dx := 4) (dm := 4) (z := ed_v (M 9 4) (M 13) (M 12) k) WF_zs hI hS (by decide) (by decide) wz (Or.inl ⟨rfl, wz⟩) (qs_w (ed_x (xs := xs) hL hm wk) (fun v N g => ?_))
  obtain ⟨rfl, mN, fN⟩ := g
  refine ⟨rfl, mN, fun a ha _ => fN a ha, qs_w (ed_y (xs := xs) hL mN wk) (fun v N' g => ?_)⟩
  obtain ⟨rfl, mN', fN'⟩ := g
  exact ⟨by rw [eq N fN]; rfl, mN', fun a ha _ _ _ _ => fN' a ha, fun j _ => by rw [fN' 53 (by decide)]⟩
end
