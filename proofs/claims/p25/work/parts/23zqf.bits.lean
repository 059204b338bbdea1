/-! Values that fit, as bits. -/
section
variable {L : Nat} {xs : Nat → Int32} {M M' N N' : Nat → Nat → Int}
def fbu_i (i : Nat) : List qs_I := [(0, 0, (0, 0), (0, 1023))]
def fbu_T (i : Nat) : List og_T := [(none, some (0, 0, (i : Int)), [], [], [], [(0, (11, 0), (0, 0), 1, 1), (5, (9, 0), (0, (i : Int)), 10, 10), (5, (10, 0), (0, 1), 3, 11)]), (some 2, none, [], [(0, 0, 9, 0), (1, 0, 0, 0), (2, 0, 0, 1), (3, 0, 0, (i : Int) + 1)], [], [(7, (11, 0), (0, 0), 1, 0), (5, (9, 0), (0, (i : Int)), 10, 10), (5, (10, 0), (0, 1), 3, 11)])]
theorem fbu_c : ((List.range 10).all fun i => qs_chk (fun pc => Nat.beq pc 2) (fbu_i i) 2 (fbu_T i) 400 400 2 109 2 [(0, 0, 9, 0), (1, 0, 0, 0), (2, 0, 0, 1), (3, 0, 0, (i : Int))] []) = true := by decide +kernel
def fbv_i : List qs_I := [(0, 0, (0, 0), (0, 1023))]
def fbv_T : List og_T := [(none, some (0, 0, -2), [], [], [], [])]
theorem fbv_c : qs_chk (fun pc => Nat.beq pc 2) fbv_i 0 fbv_T 400 400 2 109 2 [(0, 0, 9, 0), (1, 0, 0, 0), (2, 0, 0, 1), (3, 0, 0, 10)] [] = true := by decide +kernel
def fbw_i : List qs_I := [(0, 0, (0, 0), (0, 1023))]
def fbw_T : List og_T := [(some 2, none, [], [(0, 0, 9, 0), (1, 0, 0, 0), (2, 0, 0, 1), (3, 0, 0, 0)], [], [])]
theorem fbw_c : qs_chk (fun pc => Nat.beq pc 2) fbw_i 0 fbw_T 400 400 2 109 0 [(0, 0, 9, 0), (1, 0, 0, 0), (2, 0, 0, 1)] [] = true := by decide +kernel
def fbd_i (i : Nat) : List qs_I := [(0, 0, (0, 0), (0, 1023))]
def fbd_T (i : Nat) : List og_T := [(none, some (0, 0, 9 - (i : Int)), [], [], [], [(0, (11, 0), (0, 0), 1, 1), (5, (9, 0), (0, 9 - (i : Int)), 10, 10), (5, (10, 0), (0, 1), 3, 11)]), (some 2, none, [], [(0, 0, 9, 0), (1, 0, 0, 9), (2, 0, 0, -1), (3, 0, 0, (i : Int) + 1)], [], [(7, (11, 0), (0, 0), 1, 0), (5, (9, 0), (0, 9 - (i : Int)), 10, 10), (5, (10, 0), (0, 1), 3, 11)])]
theorem fbd_c : ((List.range 10).all fun i => qs_chk (fun pc => Nat.beq pc 2) (fbd_i i) 2 (fbd_T i) 400 400 2 109 2 [(0, 0, 9, 0), (1, 0, 0, 9), (2, 0, 0, -1), (3, 0, 0, (i : Int))] []) = true := by decide +kernel
def fbx_i : List qs_I := [(0, 0, (0, 0), (0, 1023))]
def fbx_T : List og_T := [(none, some (0, 0, -2), [], [], [], [])]
theorem fbx_c : qs_chk (fun pc => Nat.beq pc 2) fbx_i 0 fbx_T 400 400 2 109 2 [(0, 0, 9, 0), (1, 0, 0, 9), (2, 0, 0, -1), (3, 0, 0, 10)] [] = true := by decide +kernel
def fby_i : List qs_I := [(0, 0, (0, 0), (0, 1023))]
def fby_T : List og_T := [(some 2, none, [], [(0, 0, 9, 0), (1, 0, 0, 9), (2, 0, 0, -1), (3, 0, 0, 0)], [], [])]
theorem fby_c : qs_chk (fun pc => Nat.beq pc 2) fby_i 0 fby_T 400 400 2 109 0 [(0, 0, 9, 0), (1, 0, 0, 9), (2, 0, 0, -1)] [] = true := by decide +kernel
/-- values that fit, as bits; how many they are; the first, the last of them -/
def ftn (F : Nat → Int) : Nat → Nat
  | 0 => 0
  | k + 1 => if F k < 0 then ftn F k + 2 ^ k else ftn F k
def fcn (F : Nat → Int) : Nat → Nat
  | 0 => 0
  | k + 1 => if F k < 0 then fcn F k + 1 else fcn F k
def fls (F : Nat → Int) : Nat → Int
  | 0 => -2
  | k + 1 => if F k < 0 then (k : Int) else fls F k
def pcn (n : Nat) : Nat → Nat
  | 0 => 0
  | g + 1 => pcn n g + n / 2 ^ g % 2
theorem ftn_lt {F : Nat → Int} : ∀ k, ftn F k < 2 ^ k := by
  intro k
  induction k with
  | zero => exact Nat.one_pos
  | succ k ih =>
    have e : 2 ^ (k + 1) = 2 ^ k + 2 ^ k := by rw [Nat.pow_succ]; omega
    show (if F k < 0 then ftn F k + 2 ^ k else ftn F k) < 2 ^ (k + 1)
    split <;> omega
theorem ft_hi {n k g : Nat} (h : n < 2 ^ k) (hk : k ≤ g) : n / 2 ^ g % 2 = 0 := by
  have h2 : 2 ^ k ≤ 2 ^ g := Nat.pow_le_pow_right (by decide) hk
  rw [Nat.div_eq_of_lt (Nat.lt_of_lt_of_le h h2)]
theorem ft_lo {n k g : Nat} (hk : g < k) : (n + 2 ^ k) / 2 ^ g % 2 = n / 2 ^ g % 2 := by
  obtain ⟨j, rfl⟩ : ∃ j, k = g + (j + 1) := ⟨k - g - 1, by omega⟩
  have e : 2 ^ (g + (j + 1)) = 2 ^ g * (2 * 2 ^ j) := by rw [Nat.pow_add, Nat.pow_succ, Nat.mul_comm (2 ^ j) 2]
  rw [e, Nat.add_mul_div_left _ _ (Nat.pow_pos (by decide))]
  omega
theorem ft_at {n k : Nat} (h : n < 2 ^ k) : (n + 2 ^ k) / 2 ^ k % 2 = 1 := by
  have p : 0 < 2 ^ k := Nat.pow_pos (by decide)
  have q := Nat.add_mul_div_left n 1 p
  rw [Nat.mul_one] at q
  rw [q, Nat.div_eq_of_lt h]
theorem ftn_bit {F : Nat → Int} : ∀ k g, g < k → ftn F k / 2 ^ g % 2 = if F g < 0 then 1 else 0 := by
  intro k
  induction k with
  | zero => intro g h; exact absurd h (Nat.not_lt_zero g)
  | succ k ih =>
    intro g hg
    show (if F k < 0 then ftn F k + 2 ^ k else ftn F k) / 2 ^ g % 2 = _
    by_cases e : g = k
    · subst e
      by_cases q : F g < 0
      · rw [if_pos q, if_pos q]
        exact ft_at (ftn_lt g)
      · rw [if_neg q, if_neg q]
        exact ft_hi (ftn_lt g) (Nat.le_refl g)
    · have h2 : g < k := by omega
      rw [← ih g h2]
      split
      · exact ft_lo h2
      · rfl
theorem fcn_eq {F : Nat → Int} {n : Nat} : ∀ k, (∀ g, g < k → n / 2 ^ g % 2 = if F g < 0 then 1 else 0) → fcn F k = pcn n k := by
  intro k
  induction k with
  | zero => intro _; rfl
  | succ k ih =>
    intro h
    show (if F k < 0 then fcn F k + 1 else fcn F k) = pcn n k + n / 2 ^ k % 2
    rw [h k (Nat.lt_succ_self k), ← ih (fun g hg => h g (by omega))]
    split <;> rfl
theorem fcn_le {F : Nat → Int} : ∀ k, fcn F k ≤ k := by
  intro k
  induction k with
  | zero => exact Nat.le_refl 0
  | succ k ih =>
    show (if F k < 0 then fcn F k + 1 else fcn F k) ≤ k + 1
    split <;> omega
theorem fls_r {F : Nat → Int} : ∀ k, -2 ≤ fls F k ∧ fls F k < ((k : Nat) : Int) := by
  intro k
  induction k with
  | zero => exact ⟨by show (-2 : Int) ≤ -2; decide, by show (-2 : Int) < _; omega⟩
  | succ k ih =>
    show -2 ≤ (if F k < 0 then (k : Int) else fls F k) ∧ (if F k < 0 then (k : Int) else fls F k) < _
    split <;> omega
/-- from above: the last -/
theorem fls_sw {F B : Nat → Int} : ∀ (m i : Nat), i + m = 10 → (∀ g, g < 10 → (B g = 1 ↔ F g < 0)) → sw (fun j => B (9 - j)) (fun j => 9 - (j : Int)) 1 m i = fls F m := by
  intro m
  induction m with
  | zero => intro i _ _; rfl
  | succ m ih =>
    intro i hi h
    have e : 9 - i = m := by omega
    have q := h m (by omega)
    show (if B (9 - i) = 1 then 9 - (i : Int) else sw (fun j => B (9 - j)) (fun j => 9 - (j : Int)) 1 m (i + 1)) = if F m < 0 then (m : Int) else fls F m
    rw [e]
    by_cases x : F m < 0
    · rw [if_pos (q.mpr x), if_pos x]
      omega
    · rw [if_neg (fun y => x (q.mp y)), if_neg x]
      exact ih (i + 1) (by omega) h
-- tables
theorem ft_A : ((List.range 10).all fun k => (List.range (2 ^ k)).all fun n => sx_eq (sx_mf 4 (n : Int) (sx_mf 8 1 (k : Int))) ((n + 2 ^ k : Nat) : Int)) = true := by decide +kernel
theorem ft_A_ok {n k : Nat} (hk : k < 10) (hn : n < 2 ^ k) : sx_mf 4 (n : Int) (sx_mf 8 1 (k : Int)) = ((n + 2 ^ k : Nat) : Int) := sx_eq_iff.mp (List.all_eq_true.mp (List.all_eq_true.mp ft_A k (List.mem_range.mpr hk)) n (List.mem_range.mpr hn))
theorem ft_B0 : ((List.range 10).all fun g => (List.range 256).all fun m => sx_eq (vq_bt ((256 * 0 + m : Nat) : Int) (g : Int)) (((256 * 0 + m) / 2 ^ g % 2 : Nat) : Int)) = true := by decide +kernel
theorem ft_B1 : ((List.range 10).all fun g => (List.range 256).all fun m => sx_eq (vq_bt ((256 * 1 + m : Nat) : Int) (g : Int)) (((256 * 1 + m) / 2 ^ g % 2 : Nat) : Int)) = true := by decide +kernel
theorem ft_B2 : ((List.range 10).all fun g => (List.range 256).all fun m => sx_eq (vq_bt ((256 * 2 + m : Nat) : Int) (g : Int)) (((256 * 2 + m) / 2 ^ g % 2 : Nat) : Int)) = true := by decide +kernel
theorem ft_B3 : ((List.range 10).all fun g => (List.range 256).all fun m => sx_eq (vq_bt ((256 * 3 + m : Nat) : Int) (g : Int)) (((256 * 3 + m) / 2 ^ g % 2 : Nat) : Int)) = true := by decide +kernel
theorem ft_B_ok {n g : Nat} (hn : n < 1024) (hg : g < 10) : vq_bt (n : Int) (g : Int) = ((n / 2 ^ g % 2 : Nat) : Int) := by
  have h : ∀ b : Nat, b < 4 → n / 256 = b → vq_bt (n : Int) (g : Int) = ((n / 2 ^ g % 2 : Nat) : Int) := fun b hb e => by
    have hn2 : n = 256 * b + n % 256 := by omega
    have hm : n % 256 < 256 := Nat.mod_lt n (by decide)
    generalize n % 256 = m at hn2 hm
    subst hn2
    match b, hb with
    | 0, _ => exact sx_eq_iff.mp (List.all_eq_true.mp (List.all_eq_true.mp ft_B0 g (List.mem_range.mpr hg)) m (List.mem_range.mpr hm))
    | 1, _ => exact sx_eq_iff.mp (List.all_eq_true.mp (List.all_eq_true.mp ft_B1 g (List.mem_range.mpr hg)) m (List.mem_range.mpr hm))
    | 2, _ => exact sx_eq_iff.mp (List.all_eq_true.mp (List.all_eq_true.mp ft_B2 g (List.mem_range.mpr hg)) m (List.mem_range.mpr hm))
    | 3, _ => exact sx_eq_iff.mp (List.all_eq_true.mp (List.all_eq_true.mp ft_B3 g (List.mem_range.mpr hg)) m (List.mem_range.mpr hm))
  exact h (n / 256) (by omega) rfl
theorem ft_C0 : ((List.range 128).all fun m => qs_chk (fun _ => false) [] 0 [((none, some (0, 0, ((pcn (128 * 0 + m) 10 : Nat) : Int)), [], [], [], []) : og_T)] 400 400 1 93 0 [(0, 0, 0, ((128 * 0 + m : Nat) : Int))] []) = true := by decide +kernel
theorem ft_C1 : ((List.range 128).all fun m => qs_chk (fun _ => false) [] 0 [((none, some (0, 0, ((pcn (128 * 1 + m) 10 : Nat) : Int)), [], [], [], []) : og_T)] 400 400 1 93 0 [(0, 0, 0, ((128 * 1 + m : Nat) : Int))] []) = true := by decide +kernel
theorem ft_C2 : ((List.range 128).all fun m => qs_chk (fun _ => false) [] 0 [((none, some (0, 0, ((pcn (128 * 2 + m) 10 : Nat) : Int)), [], [], [], []) : og_T)] 400 400 1 93 0 [(0, 0, 0, ((128 * 2 + m : Nat) : Int))] []) = true := by decide +kernel
theorem ft_C3 : ((List.range 128).all fun m => qs_chk (fun _ => false) [] 0 [((none, some (0, 0, ((pcn (128 * 3 + m) 10 : Nat) : Int)), [], [], [], []) : og_T)] 400 400 1 93 0 [(0, 0, 0, ((128 * 3 + m : Nat) : Int))] []) = true := by decide +kernel
theorem ft_C4 : ((List.range 128).all fun m => qs_chk (fun _ => false) [] 0 [((none, some (0, 0, ((pcn (128 * 4 + m) 10 : Nat) : Int)), [], [], [], []) : og_T)] 400 400 1 93 0 [(0, 0, 0, ((128 * 4 + m : Nat) : Int))] []) = true := by decide +kernel
theorem ft_C5 : ((List.range 128).all fun m => qs_chk (fun _ => false) [] 0 [((none, some (0, 0, ((pcn (128 * 5 + m) 10 : Nat) : Int)), [], [], [], []) : og_T)] 400 400 1 93 0 [(0, 0, 0, ((128 * 5 + m : Nat) : Int))] []) = true := by decide +kernel
theorem ft_C6 : ((List.range 128).all fun m => qs_chk (fun _ => false) [] 0 [((none, some (0, 0, ((pcn (128 * 6 + m) 10 : Nat) : Int)), [], [], [], []) : og_T)] 400 400 1 93 0 [(0, 0, 0, ((128 * 6 + m : Nat) : Int))] []) = true := by decide +kernel
theorem ft_C7 : ((List.range 128).all fun m => qs_chk (fun _ => false) [] 0 [((none, some (0, 0, ((pcn (128 * 7 + m) 10 : Nat) : Int)), [], [], [], []) : og_T)] 400 400 1 93 0 [(0, 0, 0, ((128 * 7 + m : Nat) : Int))] []) = true := by decide +kernel
/-- how many bits -/
theorem bc_x {n : Nat} (hL : L < 2 ^ 31) (hm : sx_mok cl_ly M) (hn : n < 1024) : rz_fin (fun r N => r = some (.int (Int32.ofInt ((pcn n 10 : Nat) : Int))) ∧ sx_mok cl_ly N ∧ ∀ a, a < 128 → N a = M a) L xs 93 1 0 [(0, .int (Int32.ofInt (n : Int)))] [] M := by
  have h : ∀ b : Nat, b < 8 → n / 128 = b → qs_chk (fun _ => false) [] 0 [((none, some (0, 0, ((pcn n 10 : Nat) : Int)), [], [], [], []) : og_T)] 400 400 1 93 0 [(0, 0, 0, (n : Int))] [] = true := fun b hb e => by
    have hn2 : n = 128 * b + n % 128 := by omega
    have hm : n % 128 < 128 := Nat.mod_lt n (by decide)
    generalize n % 128 = m at hn2 hm
    subst hn2
    match b, hb with
    | 0, _ => exact List.all_eq_true.mp ft_C0 m (List.mem_range.mpr hm)
    | 1, _ => exact List.all_eq_true.mp ft_C1 m (List.mem_range.mpr hm)
    | 2, _ => exact List.all_eq_true.mp ft_C2 m (List.mem_range.mpr hm)
    | 3, _ => exact List.all_eq_true.mp ft_C3 m (List.mem_range.mpr hm)
    | 4, _ => exact List.all_eq_true.mp ft_C4 m (List.mem_range.mpr hm)
    | 5, _ => exact List.all_eq_true.mp ft_C5 m (List.mem_range.mpr hm)
    | 6, _ => exact List.all_eq_true.mp ft_C6 m (List.mem_range.mpr hm)
    | 7, _ => exact List.all_eq_true.mp ft_C7 m (List.mem_range.mpr hm)
  exact qs_use (zs := []) (h (n / 128) (by omega) rfl) hL hm (qs_fin rfl) (Nat.le_refl _) rfl rfl (qs_c (fun N hN hc hM => ⟨rfl, hN, hM⟩) qs_z)
/-- the first bit, from below, from above -/
theorem fbu_loop {n : Nat} (hL : L < 2 ^ 31) (hn : n < 1024) : ∀ (k i : Nat) (M' : Nat → Nat → Int), i + k = 10 → sx_mok cl_ly M' → (∀ a, a < 128 → M' a = M a) → rz_fin (fun r N => r = some (.int (Int32.ofInt (sw (fun j => vq_bt (n : Int) (j : Int)) (fun j => (j : Int)) 1 k i))) ∧ sx_mok cl_ly N ∧ ∀ a, a < 128 → N a = M a) L xs 109 2 2 [(0, .int (Int32.ofInt (n : Int))), (1, .int (Int32.ofInt 0)), (2, .int (Int32.ofInt 1)), (3, .int (Int32.ofInt (i : Int)))] [] M' := by
  intro k
  induction k with
  | zero =>
    intro i M' hi hm hf
    have ei : i = 10 := by omega
    subst ei
    refine qs_use (zs := [(n : Int)]) fbv_c hL hm (qs_in (show 0 ≤ (n : Int) ∧ (n : Int) ≤ 1023 by omega) (qs_fin rfl)) (Nat.le_refl _) rfl rfl (qs_c (fun K hK hc hM => ?_) qs_z)
    exact ⟨rfl, hK, fun a ha => ((show ∀ a, a < 128 → K a = M' a from hM) a ha).trans (hf a ha)⟩
  | succ k ih =>
    intro i M' hi hm hf
    have hi10 : i < 10 := by omega
    refine qs_use (zs := [(n : Int)]) (List.all_eq_true.mp fbu_c i (List.mem_range.mpr hi10)) hL hm (qs_in (show 0 ≤ (n : Int) ∧ (n : Int) ≤ 1023 by omega) (qs_fin rfl)) (Nat.le_refl _) rfl rfl (qs_c (fun u1 u2 K hK hc hM => ?_) (qs_c (fun u1 u2 K hK hc hM => ?_) qs_z))
    · obtain ⟨c1, c2, c3, -⟩ := hc
      have c1 : 1 ≤ u2 ∧ u2 ≤ 1 := c1
      have c2 : u1 = sx_mf 10 (n : Int) (i : Int) := c2
      have c3 : u2 = sx_mf 3 u1 1 := c3
      have e : u2 = vq_bt (n : Int) (i : Int) := by rw [c3, c2]; rfl
      have e0 : sw (fun j => vq_bt (n : Int) (j : Int)) (fun j => (j : Int)) 1 (k + 1) i = (i : Int) := if_pos (show vq_bt (n : Int) (i : Int) = 1 by omega)
      rw [e0]
      exact ⟨rfl, hK, fun a ha => ((show ∀ a, a < 128 → K a = M' a from hM) a ha).trans (hf a ha)⟩
    · obtain ⟨c1, c2, c3, -⟩ := hc
      have c1 : u2 ≠ 1 := c1
      have c2 : u1 = sx_mf 10 (n : Int) (i : Int) := c2
      have c3 : u2 = sx_mf 3 u1 1 := c3
      have e : u2 = vq_bt (n : Int) (i : Int) := by rw [c3, c2]; rfl
      have e0 : sw (fun j => vq_bt (n : Int) (j : Int)) (fun j => (j : Int)) 1 (k + 1) i = sw (fun j => vq_bt (n : Int) (j : Int)) (fun j => (j : Int)) 1 k (i + 1) := if_neg (show ¬ vq_bt (n : Int) (i : Int) = 1 by omega)
      rw [e0]
      exact ih (i + 1) K (by omega) hK (fun a ha => ((show ∀ a, a < 128 → K a = M' a from hM) a ha).trans (hf a ha))
theorem fbd_loop {n : Nat} (hL : L < 2 ^ 31) (hn : n < 1024) : ∀ (k i : Nat) (M' : Nat → Nat → Int), i + k = 10 → sx_mok cl_ly M' → (∀ a, a < 128 → M' a = M a) → rz_fin (fun r N => r = some (.int (Int32.ofInt (sw (fun j => vq_bt (n : Int) (9 - (j : Int))) (fun j => 9 - (j : Int)) 1 k i))) ∧ sx_mok cl_ly N ∧ ∀ a, a < 128 → N a = M a) L xs 109 2 2 [(0, .int (Int32.ofInt (n : Int))), (1, .int (Int32.ofInt 9)), (2, .int (Int32.ofInt (-1))), (3, .int (Int32.ofInt (i : Int)))] [] M' := by
  intro k
  induction k with
  | zero =>
    intro i M' hi hm hf
    have ei : i = 10 := by omega
    subst ei
    refine qs_use (zs := [(n : Int)]) fbx_c hL hm (qs_in (show 0 ≤ (n : Int) ∧ (n : Int) ≤ 1023 by omega) (qs_fin rfl)) (Nat.le_refl _) rfl rfl (qs_c (fun K hK hc hM => ?_) qs_z)
    exact ⟨rfl, hK, fun a ha => ((show ∀ a, a < 128 → K a = M' a from hM) a ha).trans (hf a ha)⟩
  | succ k ih =>
    intro i M' hi hm hf
    have hi10 : i < 10 := by omega
    refine qs_use (zs := [(n : Int)]) (List.all_eq_true.mp fbd_c i (List.mem_range.mpr hi10)) hL hm (qs_in (show 0 ≤ (n : Int) ∧ (n : Int) ≤ 1023 by omega) (qs_fin rfl)) (Nat.le_refl _) rfl rfl (qs_c (fun u1 u2 K hK hc hM => ?_) (qs_c (fun u1 u2 K hK hc hM => ?_) qs_z))
    · obtain ⟨c1, c2, c3, -⟩ := hc
      have c1 : 1 ≤ u2 ∧ u2 ≤ 1 := c1
      have c2 : u1 = sx_mf 10 (n : Int) (9 - (i : Int)) := c2
      have c3 : u2 = sx_mf 3 u1 1 := c3
      have e : u2 = vq_bt (n : Int) (9 - (i : Int)) := by rw [c3, c2]; rfl
      have e0 : sw (fun j => vq_bt (n : Int) (9 - (j : Int))) (fun j => 9 - (j : Int)) 1 (k + 1) i = 9 - (i : Int) := if_pos (show vq_bt (n : Int) (9 - (i : Int)) = 1 by omega)
      rw [e0]
      exact ⟨rfl, hK, fun a ha => ((show ∀ a, a < 128 → K a = M' a from hM) a ha).trans (hf a ha)⟩
    · obtain ⟨c1, c2, c3, -⟩ := hc
      have c1 : u2 ≠ 1 := c1
      have c2 : u1 = sx_mf 10 (n : Int) (9 - (i : Int)) := c2
      have c3 : u2 = sx_mf 3 u1 1 := c3
      have e : u2 = vq_bt (n : Int) (9 - (i : Int)) := by rw [c3, c2]; rfl
      have e0 : sw (fun j => vq_bt (n : Int) (9 - (j : Int))) (fun j => 9 - (j : Int)) 1 (k + 1) i = sw (fun j => vq_bt (n : Int) (9 - (j : Int))) (fun j => 9 - (j : Int)) 1 k (i + 1) := if_neg (show ¬ vq_bt (n : Int) (9 - (i : Int)) = 1 by omega)
      rw [e0]
      exact ih (i + 1) K (by omega) hK (fun a ha => ((show ∀ a, a < 128 → K a = M' a from hM) a ha).trans (hf a ha))
/-- what is told of values that fit -/
theorem ft_bt {F : Nat → Int} {j : Nat} (hj : j < 10) : vq_bt ((ftn F 10 : Nat) : Int) (j : Int) = if F j < 0 then 1 else 0 := by
  rw [ft_B_ok (ftn_lt 10) hj, ftn_bit 10 j hj]
  split <;> rfl
theorem fbu_x {F : Nat → Int} (hL : L < 2 ^ 31) (hm : sx_mok cl_ly M) : rz_fin (fun r N => r = some (.int (Int32.ofInt (sw (fun j => if F j < 0 then 1 else 0) (fun j => (j : Int)) 1 10 0))) ∧ sx_mok cl_ly N ∧ ∀ a, a < 128 → N a = M a) L xs 109 2 0 [(0, .int (Int32.ofInt ((ftn F 10 : Nat) : Int))), (1, .int (Int32.ofInt 0)), (2, .int (Int32.ofInt 1))] [] M := by
  have hn : ftn F 10 < 1024 := ftn_lt 10
  have e : sw (fun j => vq_bt ((ftn F 10 : Nat) : Int) (j : Int)) (fun j => (j : Int)) 1 10 0 = sw (fun j => if F j < 0 then 1 else 0) (fun j => (j : Int)) 1 10 0 := sw_eq 10 0 (fun j _ hj => ft_bt (by omega))
  rw [← e]
  generalize ftn F 10 = n at hn
  refine qs_use (zs := [(n : Int)]) fbw_c hL hm (qs_in (show 0 ≤ (n : Int) ∧ (n : Int) ≤ 1023 by omega) (qs_fin rfl)) (Nat.le_refl _) rfl rfl (qs_c (fun K hK hc hM => ?_) qs_z)
  exact fbu_loop (xs := xs) hL hn 10 0 K rfl hK hM
theorem fbd_x {F : Nat → Int} (hL : L < 2 ^ 31) (hm : sx_mok cl_ly M) : rz_fin (fun r N => r = some (.int (Int32.ofInt (fls F 10))) ∧ sx_mok cl_ly N ∧ ∀ a, a < 128 → N a = M a) L xs 109 2 0 [(0, .int (Int32.ofInt ((ftn F 10 : Nat) : Int))), (1, .int (Int32.ofInt 9)), (2, .int (Int32.ofInt (-1)))] [] M := by
  have hn : ftn F 10 < 1024 := ftn_lt 10
  have e : sw (fun j => vq_bt ((ftn F 10 : Nat) : Int) (9 - (j : Int))) (fun j => 9 - (j : Int)) 1 10 0 = fls F 10 := by
    rw [sw_eq (f := fun j => vq_bt ((ftn F 10 : Nat) : Int) ((9 - j : Nat) : Int)) 10 0 (fun j _ hj => by
      show vq_bt ((ftn F 10 : Nat) : Int) (9 - (j : Int)) = vq_bt ((ftn F 10 : Nat) : Int) ((9 - j : Nat) : Int)
      rw [show ((9 - j : Nat) : Int) = 9 - (j : Int) by omega])]
    exact fls_sw (F := F) (B := fun g => vq_bt ((ftn F 10 : Nat) : Int) (g : Int)) 10 0 rfl (fun g hg => by
      rw [ft_bt hg]
      by_cases q : F g < 0
      · rw [if_pos q]
        exact ⟨fun _ => q, fun _ => rfl⟩
      · rw [if_neg q]
        exact ⟨fun h => absurd h (by decide), fun h => absurd h q⟩)
  rw [← e]
  generalize ftn F 10 = n at hn
  refine qs_use (zs := [(n : Int)]) fby_c hL hm (qs_in (show 0 ≤ (n : Int) ∧ (n : Int) ≤ 1023 by omega) (qs_fin rfl)) (Nat.le_refl _) rfl rfl (qs_c (fun K hK hc hM => ?_) qs_z)
  exact fbd_loop (xs := xs) hL hn 10 0 K rfl hK hM
theorem bc_F {F : Nat → Int} (hL : L < 2 ^ 31) (hm : sx_mok cl_ly M) : rz_fin (fun r N => r = some (.int (Int32.ofInt ((fcn F 10 : Nat) : Int))) ∧ sx_mok cl_ly N ∧ ∀ a, a < 128 → N a = M a) L xs 93 1 0 [(0, .int (Int32.ofInt ((ftn F 10 : Nat) : Int)))] [] M := by
  rw [fcn_eq (n := ftn F 10) 10 (fun g hg => ftn_bit 10 g hg)]
  exact bc_x hL hm (ftn_lt 10)
end
