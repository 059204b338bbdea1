/-! Sets as numbers, for lists. -/
section
variable {P Q : Nat → Bool} {W W' D : Nat → Int} {n m g h k a b x y j i : Nat} {z w : Int}
theorem lk_an (ha : a < 2 ^ 31) (hb : b < 2 ^ 31) : sx_mf 3 (a : Int) (b : Int) = ((a &&& b : Nat) : Int) := by
  have e : sx_mf 3 (a : Int) (b : Int) = (Int32.ofInt (a : Int) &&& Int32.ofInt (b : Int)).toInt := rfl
  have h : a &&& b < 2 ^ 31 := Nat.lt_of_le_of_lt Nat.and_le_left ha
  rw [e]
  show ((Int32.ofInt (a : Int) &&& Int32.ofInt (b : Int)).toBitVec).toInt = _
  rw [Int32.toBitVec_and]
  show (BitVec.ofInt 32 (a : Int) &&& BitVec.ofInt 32 (b : Int)).toInt = _
  exact fd_ti (by rw [BitVec.toNat_and, fd_bv ha, fd_bv hb]) h
theorem lk_sT : ((List.range 31).all fun k => sx_eq (sx_mf 8 1 (k : Int)) ((2 ^ k : Nat) : Int)) = true := by decide +kernel
theorem lk_s (hk : k < 31) : sx_mf 8 1 (k : Int) = ((2 ^ k : Nat) : Int) := sx_eq_iff.mp (List.all_eq_true.mp lk_sT k (List.mem_range.mpr hk))
theorem lk_p (hk : k < 31) : 2 ^ k < 2 ^ 31 := Nat.pow_lt_pow_right (by decide) hk
theorem lk_bt (hn : n < 2 ^ 31) (hg : g < 32) : vq_bt (n : Int) (g : Int) = if n.testBit g = true then 1 else 0 := by
  obtain ⟨-, h2⟩ := vq_amt g hg
  unfold vq_bt
  rw [vq_m10, vq_a3]
  show (((Int32.ofInt (n : Int)).toBitVec >>> (((Int32.ofInt (g : Int)).toUInt32 &&& Int32.toUInt32 31).toBitVec % 32).toNat) &&& 1#32).toInt = _
  rw [h2]
  show ((BitVec.ofInt 32 (n : Int) >>> g) &&& 1#32).toInt = _
  have t : ((BitVec.ofInt 32 (n : Int) >>> g) &&& 1#32).toNat = n / 2 ^ g % 2 := by
    rw [BitVec.toNat_and, BitVec.toNat_ushiftRight, fd_bv hn, Nat.shiftRight_eq_div_pow]
    exact Nat.and_one_is_mod _
  have lt : n / 2 ^ g % 2 < 2 := Nat.mod_lt _ (by decide)
  rw [fd_ti t (Nat.lt_of_lt_of_le lt (by decide)), Nat.testBit_eq_decide_div_mod_eq]
  rcases Nat.mod_two_eq_zero_or_one (n / 2 ^ g) with e | e
  · rw [e]
    rfl
  · rw [e]
    rfl
theorem lk_b0 (hn : n < 2 ^ k) (hk : k ≤ i) : n.testBit i = false := Nat.testBit_lt_two_pow (Nat.lt_of_lt_of_le hn (Nat.pow_le_pow_right (by decide) hk))
theorem lk_xor (hb : b < 2 ^ 31) (ha : a < 2 ^ 31) : sx_mf 3 (a : Int) (sx_mf 5 (b : Int) z) = ((a &&& (BitVec.ofInt 32 (b : Int) ^^^ BitVec.ofInt 32 z).toNat : Nat) : Int) := by
  have e : sx_mf 3 (a : Int) (sx_mf 5 (b : Int) z) = (Int32.ofInt (a : Int) &&& Int32.ofInt ((Int32.ofInt (b : Int) ^^^ Int32.ofInt z).toInt)).toInt := rfl
  rw [Int32.ofInt_toInt] at e
  have h : a &&& (BitVec.ofInt 32 (b : Int) ^^^ BitVec.ofInt 32 z).toNat < 2 ^ 31 := Nat.lt_of_le_of_lt Nat.and_le_left ha
  rw [e]
  show ((Int32.ofInt (a : Int) &&& (Int32.ofInt (b : Int) ^^^ Int32.ofInt z)).toBitVec).toInt = _
  rw [Int32.toBitVec_and, Int32.toBitVec_xor]
  show (BitVec.ofInt 32 (a : Int) &&& (BitVec.ofInt 32 (b : Int) ^^^ BitVec.ofInt 32 z)).toInt = _
  exact fd_ti (by rw [BitVec.toNat_and, fd_bv ha]) h
theorem lk_z : BitVec.ofInt 32 0 = 0#32 := by decide +kernel
theorem lk_m1 : BitVec.ofInt 32 (-1) = BitVec.allOnes 32 := by decide +kernel
/-- the bits of one set that the other hasn't -/
theorem lk_andn (ha : a < 2 ^ 31) (hb : b < 2 ^ 31) : ∃ k : Nat, sx_mf 3 (a : Int) (sx_mf 5 (b : Int) (-1)) = (k : Int) ∧ k ≤ a ∧ ∀ i, k.testBit i = (a.testBit i && !b.testBit i) := by
  refine ⟨_, lk_xor hb ha, Nat.and_le_left, fun i => ?_⟩
  rw [lk_m1, Nat.testBit_and, BitVec.testBit_toNat, BitVec.getLsbD_xor, BitVec.getLsbD_allOnes, ← BitVec.testBit_toNat, fd_bv hb]
  by_cases hi : i < 32
  · rw [decide_eq_true hi, Bool.xor_true]
  · rw [lk_b0 ha (show 31 ≤ i by omega), Bool.false_and, Bool.false_and]
theorem lk_lowN : ∀ n : Nat, 0 < n → ∃ j a : Nat, n = 2 ^ (j + 1) * a + 2 ^ j := by
  intro n
  induction n using Nat.strongRecOn with
  | _ n ih =>
    intro h0
    rcases Nat.mod_two_eq_zero_or_one n with e | e
    · obtain ⟨j, a, q⟩ := ih (n / 2) (by omega) (by omega)
      refine ⟨j + 1, a, ?_⟩
      have e1 : 2 ^ (j + 1 + 1) * a = 2 * (2 ^ (j + 1) * a) := by rw [Nat.pow_succ' (n := j + 1), Nat.mul_assoc]
      have e2 : 2 ^ (j + 1) = 2 * 2 ^ j := Nat.pow_succ'
      rw [e1]
      generalize 2 ^ (j + 1) * a = u at q ⊢
      rw [e2]
      omega
    · exact ⟨0, n / 2, by show n = 2 * (n / 2) + 1; omega⟩
theorem lk_tb (hb : b < 2 ^ (j + 1)) : (2 ^ (j + 1) * a + b).testBit i = ((decide (i ≥ j + 1) && a.testBit (i - (j + 1))) || b.testBit i) := by
  rw [Nat.two_pow_add_eq_or_of_lt hb, Nat.testBit_or, Nat.testBit_two_pow_mul]
theorem lk_neg (hn : n < 2 ^ 31) (hj : n.testBit j = true) (hl : ∀ i, i < j → n.testBit i = false) : sx_mf 3 (n : Int) (sx_mf 1 0 (n : Int)) = ((2 ^ j : Nat) : Int) := by
  have j31 : j < 31 := Decidable.byContradiction fun c => by
    rw [lk_b0 hn (show 31 ≤ j by omega)] at hj
    exact absurd hj (by decide)
  have e : sx_mf 3 (n : Int) (sx_mf 1 0 (n : Int)) = (Int32.ofInt (n : Int) &&& Int32.ofInt ((Int32.ofInt 0 - Int32.ofInt (n : Int)).toInt)).toInt := rfl
  rw [Int32.ofInt_toInt] at e
  rw [e]
  show ((Int32.ofInt (n : Int) &&& (Int32.ofInt 0 - Int32.ofInt (n : Int))).toBitVec).toInt = _
  rw [Int32.toBitVec_and]
  show (BitVec.ofInt 32 (n : Int) &&& (BitVec.ofInt 32 0 - BitVec.ofInt 32 (n : Int))).toInt = _
  rw [lk_z, BitVec.zero_sub]
  refine fd_ti (Nat.eq_of_testBit_eq fun i => ?_) (lk_p j31)
  have lb : ∀ i, (BitVec.ofInt 32 (n : Int)).getLsbD i = n.testBit i := fun i => by rw [← BitVec.testBit_toNat, fd_bv hn]
  rw [BitVec.testBit_toNat, BitVec.getLsbD_and, BitVec.getLsbD_neg, Nat.testBit_two_pow, lb]
  by_cases c : i < j
  · rw [hl i c, decide_eq_false (show ¬ j = i by omega), Bool.false_and]
  · by_cases q : j = i
    · subst q
      have nx : ¬ ∃ i, i < j ∧ (BitVec.ofInt 32 (n : Int)).getLsbD i = true := fun ⟨i, h1, h2⟩ => by
        rw [lb, hl i h1] at h2
        exact absurd h2 (by decide)
      first
        | (rw [hj, decide_eq_false nx, decide_eq_true rfl, Bool.and_false]; rfl)
        | simp [hj, nx]
    · have ex : ∃ i', i' < i ∧ (BitVec.ofInt 32 (n : Int)).getLsbD i' = true := ⟨j, by omega, by rw [lb]; exact hj⟩
      rw [decide_eq_true ex, decide_eq_false q]
      by_cases i32 : i < 32
      · rw [decide_eq_true i32]
        cases n.testBit i <;> rfl
      · rw [lk_b0 hn (show 31 ≤ i by omega), Bool.false_and]
/-- the lowest bit of a set -/
theorem lk_low (h0 : 0 < n) (hn : n < 2 ^ 31) : ∃ j k : Nat, j < 31 ∧ n.testBit j = true ∧ sx_mf 3 (n : Int) (sx_mf 1 0 (n : Int)) = ((2 ^ j : Nat) : Int) ∧ sx_mf 3 (n : Int) ((n : Int) + -1) = (k : Int) ∧ k < n ∧ ∀ i, k.testBit i = (n.testBit i && !decide (i = j)) := by
  obtain ⟨j, a, e⟩ := lk_lowN n h0
  have p0 : 0 < 2 ^ j := Nat.two_pow_pos j
  have p1 : 2 ^ (j + 1) = 2 * 2 ^ j := Nat.pow_succ'
  have tb : ∀ i, n.testBit i = ((decide (i ≥ j + 1) && a.testBit (i - (j + 1))) || decide (j = i)) := fun i => by
    rw [e, lk_tb (b := 2 ^ j) (by omega), Nat.testBit_two_pow]
  have te : ∀ i, (n - 1).testBit i = ((decide (i ≥ j + 1) && a.testBit (i - (j + 1))) || decide (i < j)) := fun i => by
    have q : n - 1 = 2 ^ (j + 1) * a + (2 ^ j - 1) := by
      generalize 2 ^ (j + 1) * a = u at e ⊢
      omega
    rw [q, lk_tb (b := 2 ^ j - 1) (by omega), Nat.testBit_two_pow_sub_one]
  have hj : n.testBit j = true := by rw [tb, decide_eq_true (rfl : j = j), Bool.or_true]
  have hl : ∀ i, i < j → n.testBit i = false := fun i hi => by
    rw [tb, decide_eq_false (show ¬ i ≥ j + 1 by omega), decide_eq_false (show ¬ j = i by omega)]
    rfl
  have j31 : j < 31 := Decidable.byContradiction fun c => by
    rw [lk_b0 hn (show 31 ≤ j by omega)] at hj
    exact absurd hj (by decide)
  refine ⟨j, n &&& (n - 1), j31, hj, lk_neg hn hj hl, ?_, Nat.lt_of_le_of_lt Nat.and_le_right (by omega), fun i => ?_⟩
  · rw [show (n : Int) + -1 = ((n - 1 : Nat) : Int) by omega]
    exact lk_an hn (by omega)
  · rw [Nat.testBit_and]
    by_cases c : i = j
    · rw [c, decide_eq_true rfl, te, decide_eq_false (show ¬ j ≥ j + 1 by omega), decide_eq_false (show ¬ j < j by omega)]
      rfl
    · rw [decide_eq_false c, te, tb, decide_eq_false (show ¬ j = i by omega)]
      by_cases q : i < j
      · rw [decide_eq_false (show ¬ i ≥ j + 1 by omega)]
        rfl
      · rw [decide_eq_false q]
        cases (decide (i ≥ j + 1) && a.testBit (i - (j + 1))) <;> rfl
/-- how many bits -/
def bcn (n : Nat) : Nat := mcn n.testBit 31
theorem mcn_q : ∀ n, (∀ d, d < n → Q d = P d) → mcn Q n = mcn P n := by
  intro n
  induction n with
  | zero => intro _; rfl
  | succ n ih =>
    intro e
    show mcn Q n + (if Q n = true then 1 else 0) = mcn P n + (if P n = true then 1 else 0)
    rw [ih (fun d hd => e d (by omega)), e n (Nat.lt_succ_self n)]
theorem mcn_rm (hj : P j = true) : ∀ n, j < n → (∀ i, i < n → Q i = (P i && !decide (i = j))) → mcn P n = mcn Q n + 1 := by
  intro n
  induction n with
  | zero => intro h0; omega
  | succ n ih =>
    intro h0 e
    show mcn P n + (if P n = true then 1 else 0) = mcn Q n + (if Q n = true then 1 else 0) + 1
    by_cases c : n = j
    · have q : Q n = false := by
        rw [e n (Nat.lt_succ_self n), decide_eq_true c]
        cases P n <;> rfl
      have s : mcn Q n = mcn P n := mcn_q n (fun d hd => by
        rw [e d (by omega), decide_eq_false (show ¬ d = j by omega)]
        cases P d <;> rfl)
      rw [q, s, show P n = true by rw [c]; exact hj, if_pos rfl, if_neg (by decide)]
      all_goals omega
    · have q : Q n = P n := by
        rw [e n (Nat.lt_succ_self n), decide_eq_false c]
        cases P n <;> rfl
      rw [q, ih (by omega) (fun i hi => e i (by omega))]
      all_goals omega
theorem mcn_0 : ∀ n, (∀ d, d < n → P d = false) → mcn P n = 0 := by
  intro n
  induction n with
  | zero => intro _; rfl
  | succ n ih =>
    intro e
    show mcn P n + (if P n = true then 1 else 0) = 0
    rw [ih (fun d hd => e d (by omega)), e n (Nat.lt_succ_self n), if_neg (by decide)]
    all_goals rfl
theorem bcn_0 : bcn 0 = 0 := mcn_0 31 (fun d _ => Nat.zero_testBit d)
theorem bcn_T : ((List.range 64).all fun x => sx_an (Nat.beq (bcn x) (pcn x 10)) (Nat.beq (msz (mbs x) 6 0) (pcn x 10))) = true := by decide +kernel
theorem bcn_p (hx : x < 64) : bcn x = pcn x 10 ∧ msz (mbs x) 6 0 = pcn x 10 := by
  obtain ⟨e1, e2⟩ := sx_an_iff.mp (List.all_eq_true.mp bcn_T x (List.mem_range.mpr hx))
  exact ⟨sx_nbeq.mp e1, sx_nbeq.mp e2⟩
theorem pcn_kle : ∀ k, pcn x k ≤ k := by
  intro k
  induction k with
  | zero => exact Nat.le_refl 0
  | succ k ih =>
    have e : pcn x (k + 1) = pcn x k + x / 2 ^ k % 2 := rfl
    have := Nat.mod_lt (x / 2 ^ k) (show 0 < 2 by decide)
    omega
/-- the owners of cards -/
def osn (P : Nat → Bool) (W : Nat → Int) : Nat → Nat
  | 0 => 0
  | n + 1 => if P n = true then osn P W n ||| 2 ^ (W n).toNat else osn P W n
theorem osn_lt : ∀ n, (∀ c, c < n → 0 ≤ W c ∧ W c ≤ 5) → osn P W n < 64 := by
  intro n
  induction n with
  | zero => intro _; exact (by decide : 0 < 64)
  | succ n ih =>
    intro hw
    have i1 := ih (fun c hc => hw c (by omega))
    obtain ⟨w0, w5⟩ := hw n (Nat.lt_succ_self n)
    show (if P n = true then osn P W n ||| 2 ^ (W n).toNat else osn P W n) < 64
    split
    · have p : 2 ^ (W n).toNat < 2 ^ 6 := Nat.pow_lt_pow_right (by decide) (by omega)
      exact Nat.or_lt_two_pow (n := 6) i1 p
    · exact i1
theorem osn_b : ∀ n, ((osn P W n).testBit g = true ↔ ∃ c, c < n ∧ P c = true ∧ (W c).toNat = g) := by
  intro n
  induction n with
  | zero => exact ⟨fun q => by rw [show osn P W 0 = 0 from rfl, Nat.zero_testBit] at q; exact absurd q (by decide), fun ⟨c, h0, _⟩ => by omega⟩
  | succ n ih =>
    show ((if P n = true then osn P W n ||| 2 ^ (W n).toNat else osn P W n).testBit g = true ↔ _)
    by_cases e : P n = true
    · rw [if_pos e, Nat.testBit_or, Nat.testBit_two_pow, Bool.or_eq_true, decide_eq_true_iff, ih]
      constructor
      · rintro (⟨c, h1, h2⟩ | q)
        · exact ⟨c, by omega, h2⟩
        · exact ⟨n, by omega, e, q⟩
      · rintro ⟨c, h1, h2, h3⟩
        by_cases q : c = n
        · rw [q] at h3
          exact Or.inr h3
        · exact Or.inl ⟨c, by omega, h2, h3⟩
    · rw [if_neg e, ih]
      constructor
      · rintro ⟨c, h1, h2⟩
        exact ⟨c, by omega, h2⟩
      · rintro ⟨c, h1, h2, h3⟩
        have q : c ≠ n := fun q => e (by rw [← q]; exact h2)
        exact ⟨c, by omega, h2, h3⟩
/-- days -/
def dsn (F : Nat → Bool) : Nat → Nat
  | 0 => 0
  | n + 1 => if F n = true then dsn F n ||| 2 ^ n else dsn F n
theorem dsn_lt : ∀ n, dsn P n < 2 ^ n := by
  intro n
  induction n with
  | zero => exact (by decide : 0 < 2 ^ 0)
  | succ n ih =>
    have e : 2 ^ (n + 1) = 2 * 2 ^ n := Nat.pow_succ'
    show (if P n = true then dsn P n ||| 2 ^ n else dsn P n) < 2 ^ (n + 1)
    split
    · exact Nat.or_lt_two_pow (n := n + 1) (by omega) (by rw [e]; have := Nat.two_pow_pos n; omega)
    · omega
theorem dsn_q : ∀ n, (∀ d, d < n → Q d = P d) → dsn Q n = dsn P n := by
  intro n
  induction n with
  | zero => intro _; rfl
  | succ n ih =>
    intro e
    show (if Q n = true then dsn Q n ||| 2 ^ n else dsn Q n) = (if P n = true then dsn P n ||| 2 ^ n else dsn P n)
    rw [ih (fun d hd => e d (by omega)), e n (Nat.lt_succ_self n)]
theorem dsn_b : ∀ n, ((dsn P n).testBit g = true ↔ g < n ∧ P g = true) := by
  intro n
  induction n with
  | zero => exact ⟨fun q => by rw [show dsn P 0 = 0 from rfl, Nat.zero_testBit] at q; exact absurd q (by decide), fun q => by omega⟩
  | succ n ih =>
    show ((if P n = true then dsn P n ||| 2 ^ n else dsn P n).testBit g = true ↔ _)
    by_cases e : P n = true
    · rw [if_pos e, Nat.testBit_or, Nat.testBit_two_pow, Bool.or_eq_true, decide_eq_true_iff, ih]
      constructor
      · rintro (q | q)
        · exact ⟨by omega, q.2⟩
        · exact ⟨by omega, by rw [← q]; exact e⟩
      · rintro ⟨q1, q2⟩
        by_cases q : n = g
        · exact Or.inr q
        · exact Or.inl ⟨by omega, q2⟩
    · rw [if_neg e, ih]
      constructor
      · rintro ⟨q1, q2⟩
        exact ⟨by omega, q2⟩
      · rintro ⟨q1, q2⟩
        have q : g ≠ n := fun q => e (by rw [← q]; exact q2)
        exact ⟨by omega, q2⟩
/-- a long as a set of sets -/
def lsb (z : Int) (x : Nat) : Bool := (Int64.ofInt z).toBitVec.getLsbD x
theorem lsb_or : lsb (sx_mf 36 z w) x = (lsb z x || lsb w x) := by
  have e : sx_mf 36 z w = (Int64.ofInt z ||| Int64.ofInt w).toInt := rfl
  unfold lsb
  rw [e, Int64.ofInt_toInt, Int64.toBitVec_or, BitVec.getLsbD_or]
theorem lsb_T : ((List.range 64).all fun y => (List.range 64).all fun x => bif lsb (sx_mf 40 1 (y : Int)) x then Nat.beq x y else bif Nat.beq x y then false else true) = true := by decide +kernel
theorem lsb_1 (hy : y < 64) (hx : x < 64) : lsb (sx_mf 40 1 (y : Int)) x = decide (x = y) := by
  have t := List.all_eq_true.mp (List.all_eq_true.mp lsb_T y (List.mem_range.mpr hy)) x (List.mem_range.mpr hx)
  by_cases q : x = y
  · rw [decide_eq_true q]
    cases e : lsb (sx_mf 40 1 (y : Int)) x with
    | true => rfl
    | false =>
      rw [e, sx_nbeq.mpr q] at t
      exact absurd t (by decide)
  · rw [decide_eq_false q]
    cases e : lsb (sx_mf 40 1 (y : Int)) x with
    | false => rfl
    | true =>
      rw [e, sx_nbeq_f.mpr q] at t
      exact absurd t (by decide)
theorem lsb_0T : ((List.range 64).all fun x => sx_an (bif lsb 0 x then false else true) (bif lsb 1 x then Nat.beq x 0 else bif Nat.beq x 0 then false else true)) = true := by decide +kernel
theorem lsb_0 (hx : x < 64) : lsb 0 x = false := by
  have t := (sx_an_iff.mp (List.all_eq_true.mp lsb_0T x (List.mem_range.mpr hx))).1
  cases e : lsb 0 x with
  | false => rfl
  | true =>
    rw [e] at t
    exact absurd t (by decide)
theorem lsb_10 (hx : x < 64) : lsb 1 x = decide (x = 0) := by
  have t := (sx_an_iff.mp (List.all_eq_true.mp lsb_0T x (List.mem_range.mpr hx))).2
  by_cases q : x = 0
  · rw [decide_eq_true q]
    cases e : lsb 1 x with
    | true => rfl
    | false =>
      rw [e, sx_nbeq.mpr q] at t
      exact absurd t (by decide)
  · rw [decide_eq_false q]
    cases e : lsb 1 x with
    | false => rfl
    | true =>
      rw [e, sx_nbeq_f.mpr q] at t
      exact absurd t (by decide)
theorem lsb_am : ∀ k : Nat, k < 64 → (((Int64.ofInt (k : Int)).toUInt64 &&& Int64.toUInt64 63).toBitVec % 64).toNat = k := by decide +kernel
theorem lsb_v (Y : Int64) : (Y &&& Int64.ofInt 1).toInt = if Y.toBitVec.getLsbD 0 = true then 1 else 0 := by
  have h1 : (Y.toBitVec &&& 1#64).toNat = Y.toBitVec.toNat % 2 := by
    rw [BitVec.toNat_and]
    exact Nat.and_one_is_mod _
  have h2 : (Y &&& Int64.ofInt 1).toInt = (Y.toBitVec &&& 1#64).toInt := rfl
  have h3 : Y.toBitVec.getLsbD 0 = decide (Y.toBitVec.toNat % 2 = 1) := by rw [← BitVec.testBit_toNat, Nat.testBit_zero]
  rw [h2, BitVec.toInt_eq_toNat_cond, h1, h3]
  rcases Nat.mod_two_eq_zero_or_one Y.toBitVec.toNat with h | h
  · rw [h]
    rfl
  · rw [h]
    rfl
/-- a bit of a long, as it is worked -/
theorem lsb_at (hx : x < 64) : sx_mf 35 (sx_mf 41 z (x : Int)) 1 = if lsb z x = true then 1 else 0 := by
  have e1 : sx_mf 41 z (x : Int) = ((Int64.ofInt z).toUInt64 >>> ((Int64.ofInt (x : Int)).toUInt64 &&& Int64.toUInt64 63)).toInt64.toInt := rfl
  have e2 : ∀ w : Int, sx_mf 35 w 1 = (Int64.ofInt w &&& Int64.ofInt 1).toInt := fun _ => rfl
  rw [e2, e1, Int64.ofInt_toInt, lsb_v]
  have e3 : (((Int64.ofInt z).toUInt64 >>> ((Int64.ofInt (x : Int)).toUInt64 &&& Int64.toUInt64 63)).toInt64).toBitVec = (Int64.ofInt z).toBitVec >>> (((Int64.ofInt (x : Int)).toUInt64 &&& Int64.toUInt64 63).toBitVec % 64).toNat := rfl
  rw [e3, lsb_am x hx, BitVec.getLsbD_ushiftRight, Nat.add_zero]
  rfl
/-- sets of six houses: one more -/
theorem mor_eT : ((List.range 64).all fun y => (List.range 6).all fun h => sx_eq (sx_mf 4 (y : Int) ((2 ^ h : Nat) : Int)) ((mor y h : Nat) : Int)) = true := by decide +kernel
theorem mor_e (hy : y < 64) (hh : h < 6) : sx_mf 4 (y : Int) ((2 ^ h : Nat) : Int) = ((mor y h : Nat) : Int) := sx_eq_iff.mp (List.all_eq_true.mp (List.all_eq_true.mp mor_eT y (List.mem_range.mpr hy)) h (List.mem_range.mpr hh))
end
