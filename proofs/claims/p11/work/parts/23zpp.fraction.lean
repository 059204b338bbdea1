/-! Fractions, brought down: both sides. -/
section
variable {L : Nat} {xs : Nat → Int32} {M M' N N' : Nat → Nat → Int} {a b x y g p : Int}
def fq1_i : List qs_I := [(0, 0, (0, 0), sx_r64), (0, 0, (0, 0), sx_r64), (0, 0, (0, 0), (0, 1))]
def fq1_T : List og_T := [(some 9, none, [], [(0, 1, 9, 0), (2, 1, 10, 0), (4, 0, 11, 0), (5, 1, 9, 0), (7, 1, 10, 0), (9, 0, 0, 0)], [], [])]
theorem fq1_c : qs_chk (fun pc => Nat.beq pc 9) fq1_i 0 fq1_T 400 400 3 75 0 [(0, 1, 9, 0), (2, 1, 10, 0), (4, 0, 11, 0)] [] = true := by decide +kernel
def fq2_i : List qs_I := [(0, 0, (0, 0), sx_r64), (0, 0, (0, 0), sx_r64), (0, 0, (0, 0), (0, 1)), (0, 0, (0, 0), sx_r64), (0, 0, (0, 0), sx_r64), (0, 0, (0, 0), (0, 99))]
def fq2_T : List og_T := [(some 9, none, [], [(0, 1, 9, 0), (2, 1, 10, 0), (4, 0, 11, 0), (5, 1, 13, 0), (7, 1, 15, 0), (9, 0, 14, 1)], [], [(0, (13, 0), (0, 0), -9223372036854775808, -1), (5, (12, 0), (13, 0), 39, 15)]), (some 44, none, [], [(0, 1, 9, 0), (2, 1, 10, 0), (4, 0, 11, 0), (5, 1, 12, 0)], [], [(0, (13, 0), (0, 0), 0, 0)]), (some 9, none, [], [(0, 1, 9, 0), (2, 1, 10, 0), (4, 0, 11, 0), (5, 1, 13, 0), (7, 1, 15, 0), (9, 0, 14, 1)], [], [(0, (13, 0), (0, 0), 1, 9223372036854775807), (5, (12, 0), (13, 0), 39, 15)])]
theorem fq2_c : qs_chk (fun pc => bif Nat.beq pc 9 then true else Nat.beq pc 44) fq2_i 1 fq2_T 400 400 3 75 9 [(0, 1, 9, 0), (2, 1, 10, 0), (4, 0, 11, 0), (5, 1, 12, 0), (7, 1, 13, 0), (9, 0, 14, 0)] [] = true := by decide +kernel
def fq3_i : List qs_I := [(0, 0, (0, 0), sx_r64), (0, 0, (0, 0), sx_r64), (0, 0, (0, 0), (0, 1)), (0, 0, (0, 0), sx_r64)]
def fq3_T : List og_T := [(none, some (1, 13, 0), [], [], [], [(0, (11, 0), (0, 0), 0, 0), (0, (12, 0), (0, 0), -9223372036854775808, -1), (5, (9, 0), (12, 0), 38, 13)]), (none, some (1, 13, 0), [], [], [], [(0, (12, 0), (0, 0), -9223372036854775808, -1), (7, (11, 0), (0, 0), 0, 0), (5, (10, 0), (12, 0), 38, 13)]), (none, some (1, 11, 0), [], [], [], [(0, (12, 0), (0, 0), 0, 0)]), (none, some (1, 13, 0), [], [], [], [(0, (11, 0), (0, 0), 0, 0), (0, (12, 0), (0, 0), 1, 9223372036854775807), (5, (9, 0), (12, 0), 38, 13)]), (none, some (1, 13, 0), [], [], [], [(0, (12, 0), (0, 0), 1, 9223372036854775807), (7, (11, 0), (0, 0), 0, 0), (5, (10, 0), (12, 0), 38, 13)])]
theorem fq3_c : qs_chk (fun _ => false) fq3_i 1 fq3_T 400 400 3 75 44 [(0, 1, 9, 0), (2, 1, 10, 0), (4, 0, 11, 0), (5, 1, 12, 0)] [] = true := by decide +kernel
def lq1_i : List qs_I := [(0, 0, (0, 0), sx_r64), (0, 0, (0, 0), sx_r64), (0, 0, (0, 0), (0, 1))]
def lq1_T : List og_T := [(some 16, none, [], [(0, 1, 9, 0), (2, 1, 10, 0), (4, 0, 11, 0), (5, 1, 9, 0), (7, 1, 10, 0)], [], [(0, (9, 0), (0, 0), -9223372036854775808, -1)]), (none, some (1, 11, 0), [], [], [], [(0, (9, 0), (0, 0), 0, 0)]), (some 16, none, [], [(0, 1, 9, 0), (2, 1, 10, 0), (4, 0, 11, 0), (5, 1, 9, 0), (7, 1, 10, 0)], [], [(0, (9, 0), (0, 0), 1, 9223372036854775807)])]
theorem lq1_c : qs_chk (fun pc => Nat.beq pc 16) lq1_i 0 lq1_T 400 400 3 209 0 [(0, 1, 9, 0), (2, 1, 10, 0), (4, 0, 11, 0)] [] = true := by decide +kernel
def lq2_i : List qs_I := [(0, 0, (0, 0), sx_r64), (0, 0, (0, 0), sx_r64), (0, 0, (0, 0), (0, 1)), (0, 0, (0, 0), sx_r64), (0, 0, (0, 0), sx_r64)]
def lq2_T : List og_T := [(some 16, none, [], [(0, 1, 9, 0), (2, 1, 10, 0), (4, 0, 11, 0), (5, 1, 13, 0), (7, 1, 14, 0)], [], [(0, (13, 0), (0, 0), -9223372036854775808, -1), (5, (12, 0), (13, 0), 39, 14)]), (some 41, none, [], [(0, 1, 9, 0), (2, 1, 10, 0), (4, 0, 11, 0), (5, 1, 12, 0)], [], [(0, (13, 0), (0, 0), 0, 0)]), (some 16, none, [], [(0, 1, 9, 0), (2, 1, 10, 0), (4, 0, 11, 0), (5, 1, 13, 0), (7, 1, 14, 0)], [], [(0, (13, 0), (0, 0), 1, 9223372036854775807), (5, (12, 0), (13, 0), 39, 14)])]
theorem lq2_c : qs_chk (fun pc => bif Nat.beq pc 16 then true else Nat.beq pc 41) lq2_i 1 lq2_T 400 400 3 209 16 [(0, 1, 9, 0), (2, 1, 10, 0), (4, 0, 11, 0), (5, 1, 12, 0), (7, 1, 13, 0)] [] = true := by decide +kernel
def lq3_i : List qs_I := [(0, 0, (0, 0), sx_r64), (0, 0, (0, 0), sx_r64), (0, 0, (0, 0), (0, 1)), (0, 0, (0, 0), sx_r64), (6, 0, (12, 0), (0, 0))]
def lq3_T : List og_T := [(none, some (1, 13, 0), [], [], [], [(0, (11, 0), (0, 0), 0, 0), (5, (9, 0), (12, 0), 38, 13)]), (none, some (1, 13, 0), [], [], [], [(7, (11, 0), (0, 0), 0, 0), (5, (10, 0), (12, 0), 38, 13)])]
theorem lq3_c : qs_chk (fun _ => false) lq3_i 1 lq3_T 400 400 3 209 41 [(0, 1, 9, 0), (2, 1, 10, 0), (4, 0, 11, 0), (5, 1, 12, 0)] [] = true := by decide +kernel
/-- the way down, step by step -/
def eu : Nat → Int → Int → Option Int
  | 0, x, y => if y = 0 then some x else none
  | f + 1, x, y => if y = 0 then some x else eu f y (sx_mf 39 x y)
theorem eu_0 : ∀ f : Nat, eu f x 0 = some x := fun f => by cases f <;> exact if_pos rfl
theorem eu_s {f : Nat} (h : y ≠ 0) : eu (f + 1) x y = eu f y (sx_mf 39 x y) := if_neg h
theorem eu_m (hx : sx_w sx_r64 x) (hy : sx_w sx_r64 y) (h0 : y ≠ 0) : sx_mf 39 x y = Int.tmod x y := by
  show (Int64.ofInt x - Int64.ofInt x / Int64.ofInt y * Int64.ofInt y).toInt = _
  rw [Int64.toInt_sub, Int64.toInt_mul, Int64.toInt_div, Int.bmod_mul_bmod, Int.sub_bmod_bmod, sx_i64 hx, sx_i64 hy, Int.mul_comm, ← Int.tmod_def]
  rw [sx_r64_iff] at hy
  refine mk_bm _ y ?_ (by omega)
  rw [Int.natAbs_tmod]
  exact Nat.mod_lt _ (by omega)
theorem eu_w (x y : Int) : sx_w sx_r64 (sx_mf 39 x y) := by
  show sx_w sx_r64 (Int64.ofInt x - Int64.ofInt x / Int64.ofInt y * Int64.ofInt y).toInt
  rw [sx_r64_iff]
  have h1 := Int64.le_toInt (Int64.ofInt x - Int64.ofInt x / Int64.ofInt y * Int64.ofInt y)
  have h2 := Int64.toInt_lt (Int64.ofInt x - Int64.ofInt x / Int64.ofInt y * Int64.ofInt y)
  omega
theorem eu_half {u v : Nat} (h0 : 0 < u) (h : u ≤ v) : 2 * (v % u) < v := by
  have h1 := Nat.mod_lt v h0
  have h2 := Nat.div_add_mod v u
  have h3 : 1 ≤ v / u := (Nat.one_le_div_iff h0).mpr h
  have h4 : u * 1 ≤ u * (v / u) := Nat.mul_le_mul_left u h3
  omega
theorem eu_ok : ∀ (k f : Nat) (x y : Int), 2 * k ≤ f → y.natAbs < 2 ^ k → (x ≠ 0 ∨ y ≠ 0) → sx_w sx_r64 x → sx_w sx_r64 y → ∃ g, eu f x y = some g ∧ g ≠ 0 ∧ sx_w sx_r64 g := by
  intro k
  induction k with
  | zero =>
    intro f x y _ h1 h2 hx hy
    have e : y = 0 := by
      have : y.natAbs = 0 := by omega
      omega
    subst e
    exact ⟨x, eu_0 f, h2.elim id (fun h => absurd rfl h), hx⟩
  | succ k ih =>
    intro f x y hf h1 h2 hx hy
    obtain ⟨f, rfl⟩ : ∃ q, f = q + 2 := ⟨f - 2, by omega⟩
    by_cases e : y = 0
    · subst e
      exact ⟨x, eu_0 _, h2.elim id (fun h => absurd rfl h), hx⟩
    · rw [eu_s e]
      have wz := eu_w x y
      have ez : (sx_mf 39 x y).natAbs = x.natAbs % y.natAbs := by rw [eu_m hx hy e, Int.natAbs_tmod]
      have lz : (sx_mf 39 x y).natAbs < y.natAbs := by rw [ez]; exact Nat.mod_lt _ (by omega)
      generalize sx_mf 39 x y = z at wz ez lz ⊢
      by_cases e2 : z = 0
      · subst e2
        exact ⟨y, eu_0 _, e, hy⟩
      · rw [eu_s e2]
        have ww := eu_w y z
        have ew : (sx_mf 39 y z).natAbs = y.natAbs % z.natAbs := by rw [eu_m hy wz e2, Int.natAbs_tmod]
        have hh := eu_half (u := z.natAbs) (v := y.natAbs) (by omega) (by omega)
        refine ih f z (sx_mf 39 y z) (by omega) ?_ (Or.inl e2) wz ww
        rw [ew]
        have : 2 ^ (k + 1) = 2 * 2 ^ k := by rw [Nat.pow_succ, Nat.mul_comm]
        omega
/-- the part that is asked for -/
def eu_v (p a b g : Int) : Int := if p = 0 then sx_mf 38 a g else sx_mf 38 b g
def eu_Q (M : Nat → Nat → Int) (z : Int) (r : Option Value) (N : Nat → Nat → Int) : Prop := r = some (.long (Int64.ofInt z)) ∧ sx_mok cl_ly N ∧ ∀ c, c < 128 → N c = M c
theorem fq_loop (hL : L < 2 ^ 31) (ha : sx_w sx_r64 a) (hb : sx_w sx_r64 b) (hp : 0 ≤ p ∧ p ≤ 1) (g0 : g ≠ 0) (gw : sx_w sx_r64 g) : ∀ (f i : Nat) (x y : Int) (M' : Nat → Nat → Int), i + f ≤ 99 → eu f x y = some g → sx_w sx_r64 x → sx_w sx_r64 y → sx_mok cl_ly M' → (∀ c, c < 128 → M' c = M c) → rz_fin (eu_Q M (eu_v p a b g)) L xs 75 3 9 [(0, .long (Int64.ofInt a)), (2, .long (Int64.ofInt b)), (4, .int (Int32.ofInt p)), (5, .long (Int64.ofInt x)), (7, .long (Int64.ofInt y)), (9, .int (Int32.ofInt (i : Int)))] [] M' := by
  intro f
  induction f with
  | zero =>
    intro i x y M' hi he hx hy hm hf
    have e : y = 0 ∧ x = g := by
      by_cases h : y = 0
      · have q : eu 0 x y = some x := if_pos h
        rw [q] at he
        exact ⟨h, Option.some.inj he⟩
      · have q : eu 0 x y = none := if_neg h
        rw [q] at he
        cases he
    obtain ⟨rfl, rfl⟩ := e
    refine qs_use (zs := [a, b, p, x, 0, (i : Int)]) fq2_c hL hm (qs_iw ha (qs_iw hb (qs_in hp (qs_iw hx (qs_iw hy (qs_in (show 0 ≤ (i : Int) ∧ (i : Int) ≤ 99 by omega) (qs_fin rfl))))))) (Nat.le_refl _) rfl rfl (qs_c (fun u1 N hN hc hM => ?_) (qs_c (fun u1 N hN hc hM => ?_) (qs_c (fun u1 N hN hc hM => ?_) qs_z)))
    · exfalso
      have c1 : (-9223372036854775808 : Int) ≤ 0 ∧ (0 : Int) ≤ -1 := hc.1
      omega
    · refine qs_use (zs := [a, b, p, x]) fq3_c hL hN (qs_iw ha (qs_iw hb (qs_in hp (qs_iw hx (qs_fin rfl))))) (Nat.le_refl _) rfl rfl (qs_c (fun u1 K hK hc hM2 => ?_) (qs_c (fun u1 K hK hc hM2 => ?_) (qs_c (fun u1 K hK hc hM2 => ?_) (qs_c (fun u1 K hK hc hM2 => ?_) (qs_c (fun u1 K hK hc hM2 => ?_) qs_z)))))
      all_goals have fK : ∀ c, c < 128 → K c = M c := fun c h => (((show ∀ c, c < 128 → K c = N c from hM2) c h).trans ((show ∀ c, c < 128 → N c = M' c from hM) c h)).trans (hf c h)
      · have c1 : 0 ≤ p ∧ p ≤ 0 := hc.1
        have c3 : u1 = sx_mf 38 a x := hc.2.2.1
        have e : eu_v p a b x = u1 := (if_pos (by omega)).trans c3.symm
        rw [e]
        exact ⟨rfl, hK, fK⟩
      · have c2 : p ≠ 0 := hc.2.1
        have c3 : u1 = sx_mf 38 b x := hc.2.2.1
        have e : eu_v p a b x = u1 := (if_neg c2).trans c3.symm
        rw [e]
        exact ⟨rfl, hK, fK⟩
      · exfalso
        have c1 : 0 ≤ x ∧ x ≤ 0 := hc.1
        omega
      · have c1 : 0 ≤ p ∧ p ≤ 0 := hc.1
        have c3 : u1 = sx_mf 38 a x := hc.2.2.1
        have e : eu_v p a b x = u1 := (if_pos (by omega)).trans c3.symm
        rw [e]
        exact ⟨rfl, hK, fK⟩
      · have c2 : p ≠ 0 := hc.2.1
        have c3 : u1 = sx_mf 38 b x := hc.2.2.1
        have e : eu_v p a b x = u1 := (if_neg c2).trans c3.symm
        rw [e]
        exact ⟨rfl, hK, fK⟩
    · exfalso
      have c1 : (1 : Int) ≤ 0 ∧ (0 : Int) ≤ 9223372036854775807 := hc.1
      omega
  | succ f ih =>
    intro i x y M' hi he hx hy hm hf
    by_cases h : y = 0
    · -- as at the end
      subst h
      have e0 : eu f x 0 = some g := by
        rw [eu_0] at he ⊢
        exact he
      exact ih i x 0 M' (by omega) e0 hx hy hm hf
    · rw [eu_s h] at he
      refine qs_use (zs := [a, b, p, x, y, (i : Int)]) fq2_c hL hm (qs_iw ha (qs_iw hb (qs_in hp (qs_iw hx (qs_iw hy (qs_in (show 0 ≤ (i : Int) ∧ (i : Int) ≤ 99 by omega) (qs_fin rfl))))))) (Nat.le_refl _) rfl rfl (qs_c (fun u1 N hN hc hM => ?_) (qs_c (fun u1 N hN hc hM => ?_) (qs_c (fun u1 N hN hc hM => ?_) qs_z)))
      · have c1 : u1 = sx_mf 39 x y := hc.2.1
        subst c1
        exact ih (i + 1) y (sx_mf 39 x y) N (by omega) he hy (eu_w x y) hN (fun c hc => ((show ∀ c, c < 128 → N c = M' c from hM) c hc).trans (hf c hc))
      · exfalso
        have c1 : 0 ≤ y ∧ y ≤ 0 := hc.1
        omega
      · have c1 : u1 = sx_mf 39 x y := hc.2.1
        subst c1
        exact ih (i + 1) y (sx_mf 39 x y) N (by omega) he hy (eu_w x y) hN (fun c hc => ((show ∀ c, c < 128 → N c = M' c from hM) c hc).trans (hf c hc))
theorem fq_x (hL : L < 2 ^ 31) (hm : sx_mok cl_ly M) (ha : sx_w sx_r64 a) (hb : sx_w sx_r64 b) (hp : 0 ≤ p ∧ p ≤ 1) (g0 : g ≠ 0) (gw : sx_w sx_r64 g) (he : eu 99 a b = some g) : rz_fin (eu_Q M (eu_v p a b g)) L xs 75 3 0 [(0, .long (Int64.ofInt a)), (2, .long (Int64.ofInt b)), (4, .int (Int32.ofInt p))] [] M := by
  refine qs_use (zs := [a, b, p]) fq1_c hL hm (qs_iw ha (qs_iw hb (qs_in hp (qs_fin rfl)))) (Nat.le_refl _) rfl rfl (qs_c (fun N hN hc hM => ?_) qs_z)
  exact fq_loop (xs := xs) hL ha hb hp g0 gw 99 0 a b N (by omega) he ha hb hN hM
theorem lq_loop (hL : L < 2 ^ 31) (ha : sx_w sx_r64 a) (hb : sx_w sx_r64 b) (hp : 0 ≤ p ∧ p ≤ 1) (g0 : g ≠ 0) : ∀ (f : Nat) (x y : Int) (M' : Nat → Nat → Int), eu f x y = some g → sx_w sx_r64 x → sx_w sx_r64 y → sx_mok cl_ly M' → (∀ c, c < 128 → M' c = M c) → rz_fin (eu_Q M (eu_v p a b g)) L xs 209 3 16 [(0, .long (Int64.ofInt a)), (2, .long (Int64.ofInt b)), (4, .int (Int32.ofInt p)), (5, .long (Int64.ofInt x)), (7, .long (Int64.ofInt y))] [] M' := by
  intro f
  induction f with
  | zero =>
    intro x y M' he hx hy hm hf
    have e : y = 0 ∧ x = g := by
      by_cases h : y = 0
      · have q : eu 0 x y = some x := if_pos h
        rw [q] at he
        exact ⟨h, Option.some.inj he⟩
      · have q : eu 0 x y = none := if_neg h
        rw [q] at he
        cases he
    obtain ⟨rfl, rfl⟩ := e
    refine qs_use (zs := [a, b, p, x, 0]) lq2_c hL hm (qs_iw ha (qs_iw hb (qs_in hp (qs_iw hx (qs_iw hy (qs_fin rfl)))))) (Nat.le_refl _) rfl rfl (qs_c (fun u1 N hN hc hM => ?_) (qs_c (fun u1 N hN hc hM => ?_) (qs_c (fun u1 N hN hc hM => ?_) qs_z)))
    · exfalso
      have c1 : (-9223372036854775808 : Int) ≤ 0 ∧ (0 : Int) ≤ -1 := hc.1
      omega
    · refine qs_use (zs := [a, b, p, x]) lq3_c hL hN (qs_iw ha (qs_iw hb (qs_in hp (qs_iw hx (qs_nv (show x ≠ 0 from g0) (qs_fin rfl)))))) (Nat.le_refl _) rfl rfl (qs_c (fun u1 K hK hc hM2 => ?_) (qs_c (fun u1 K hK hc hM2 => ?_) qs_z))
      all_goals have fK : ∀ c, c < 128 → K c = M c := fun c h => (((show ∀ c, c < 128 → K c = N c from hM2) c h).trans ((show ∀ c, c < 128 → N c = M' c from hM) c h)).trans (hf c h)
      · have c1 : 0 ≤ p ∧ p ≤ 0 := hc.1
        have c3 : u1 = sx_mf 38 a x := hc.2.1
        have e : eu_v p a b x = u1 := (if_pos (by omega)).trans c3.symm
        rw [e]
        exact ⟨rfl, hK, fK⟩
      · have c2 : p ≠ 0 := hc.1
        have c3 : u1 = sx_mf 38 b x := hc.2.1
        have e : eu_v p a b x = u1 := (if_neg c2).trans c3.symm
        rw [e]
        exact ⟨rfl, hK, fK⟩
    · exfalso
      have c1 : (1 : Int) ≤ 0 ∧ (0 : Int) ≤ 9223372036854775807 := hc.1
      omega
  | succ f ih =>
    intro x y M' he hx hy hm hf
    by_cases h : y = 0
    · subst h
      have e0 : eu f x 0 = some g := by
        rw [eu_0] at he ⊢
        exact he
      exact ih x 0 M' e0 hx hy hm hf
    · rw [eu_s h] at he
      refine qs_use (zs := [a, b, p, x, y]) lq2_c hL hm (qs_iw ha (qs_iw hb (qs_in hp (qs_iw hx (qs_iw hy (qs_fin rfl)))))) (Nat.le_refl _) rfl rfl (qs_c (fun u1 N hN hc hM => ?_) (qs_c (fun u1 N hN hc hM => ?_) (qs_c (fun u1 N hN hc hM => ?_) qs_z)))
      · have c1 : u1 = sx_mf 39 x y := hc.2.1
        subst c1
        exact ih y (sx_mf 39 x y) N he hy (eu_w x y) hN (fun c hc => ((show ∀ c, c < 128 → N c = M' c from hM) c hc).trans (hf c hc))
      · exfalso
        have c1 : 0 ≤ y ∧ y ≤ 0 := hc.1
        omega
      · have c1 : u1 = sx_mf 39 x y := hc.2.1
        subst c1
        exact ih y (sx_mf 39 x y) N he hy (eu_w x y) hN (fun c hc => ((show ∀ c, c < 128 → N c = M' c from hM) c hc).trans (hf c hc))
theorem eu_1 (hb : sx_w sx_r64 b) (h : 0 < b) : sx_mf 38 b b = 1 ∧ sx_mf 38 0 b = 0 := by
  constructor
  · show (Int64.ofInt b / Int64.ofInt b).toInt = 1
    rw [Int64.toInt_div, sx_i64 hb, Int.tdiv_self (by omega)]
    decide
  · show (Int64.ofInt 0 / Int64.ofInt b).toInt = 0
    rw [Int64.toInt_div, sx_i64 hb, sx_i64 (show sx_w sx_r64 0 from ⟨by decide, by decide⟩), Int.zero_tdiv]
    decide
theorem lq_y (hL : L < 2 ^ 31) (hm : sx_mok cl_ly M) (ha : sx_w sx_r64 a) (hb : sx_w sx_r64 b) (h0 : 0 < b) (hp : 0 ≤ p ∧ p ≤ 1) (g0 : g ≠ 0) (he : eu 99 a b = some g) : rz_fin (eu_Q M (eu_v p a b g)) L xs 209 3 0 [(0, .long (Int64.ofInt a)), (2, .long (Int64.ofInt b)), (4, .int (Int32.ofInt p))] [] M := by
  refine qs_use (zs := [a, b, p]) lq1_c hL hm (qs_iw ha (qs_iw hb (qs_in hp (qs_fin rfl)))) (Nat.le_refl _) rfl rfl (qs_c (fun N hN hc hM => ?_) (qs_c (fun N hN hc hM => ?_) (qs_c (fun N hN hc hM => ?_) qs_z)))
  · exact lq_loop (xs := xs) hL ha hb hp g0 99 a b N he ha hb hN hM
  · have c1 : 0 ≤ a ∧ a ≤ 0 := hc.1
    have ea : a = 0 := by omega
    subst ea
    have em : sx_mf 39 0 b = 0 := by rw [eu_m ha hb (by omega), Int.zero_tmod]
    have eg : b = g := by
      rw [eu_s (by omega), em, eu_0] at he
      exact Option.some.inj he
    subst eg
    have ev : eu_v p 0 b b = p := by
      unfold eu_v
      by_cases q : p = 0
      · rw [if_pos q, (eu_1 hb h0).2, q]
      · rw [if_neg q, (eu_1 hb h0).1]
        omega
    rw [ev]
    exact ⟨rfl, hN, hM⟩
  · exact lq_loop (xs := xs) hL ha hb hp g0 99 a b N he ha hb hN hM
end
