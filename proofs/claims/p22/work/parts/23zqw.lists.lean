/-! Lists: the reference. -/
section
variable {L : Nat} {xs : Nat → Int32} {M M' N : Nat → Nat → Int} {nc : Nat}
def lb1_i : List qs_I := [(0, 0, (0, 0), (0, 2147483647))]
def lb1_T : List og_T := [(some 4, none, [], [(0, 0, 9, 0), (1, 0, 0, 0), (2, 0, 9, 0)], [], [])]
theorem lb1_c : qs_chk (fun pc => Nat.beq pc 4) lb1_i 0 lb1_T 400 400 1 222 0 [(0, 0, 9, 0)] [] = true := by decide +kernel
def lb2_i : List qs_I := [(0, 0, (0, 0), (0, 2147483647)), (0, 0, (0, 0), (0, 31)), (0, 0, (0, 0), (1, 2147483647))]
def lb2_T : List og_T := [(some 4, none, [], [(0, 0, 9, 0), (1, 0, 10, 1), (2, 0, 12, 0)], [], [(5, (11, 0), (11, -1), 3, 12)])]
theorem lb2_c : qs_chk (fun pc => Nat.beq pc 4) lb2_i 1 lb2_T 400 400 1 222 4 [(0, 0, 9, 0), (1, 0, 10, 0), (2, 0, 11, 0)] [] = true := by decide +kernel
def lb3_i : List qs_I := [(0, 0, (0, 0), (0, 2147483647)), (0, 0, (0, 0), (0, 31))]
def lb3_T : List og_T := [(none, some (0, 10, 0), [], [], [], [])]
theorem lb3_c : qs_chk (fun pc => Nat.beq pc 4) lb3_i 0 lb3_T 400 400 1 222 4 [(0, 0, 9, 0), (1, 0, 10, 0), (2, 0, 0, 0)] [] = true := by decide +kernel
def ld1_i : List qs_I := [(0, 0, (0, 0), (0, 5))]
def ld1_T : List og_T := [(some 4, none, [], [(0, 2, 0, 53), (1, 0, 9, 0), (2, 0, 0, 0), (3, 0, 0, 0)], [], [])]
theorem ld1_c : qs_chk (fun pc => Nat.beq pc 4) ld1_i 0 ld1_T 400 400 2 232 0 [(0, 2, 0, 53), (1, 0, 9, 0)] [] = true := by decide +kernel
def ld2_i : List qs_I := [(0, 0, (0, 0), (0, 5)), (0, 0, (0, 0), (0, 1073741823)), (0, 0, (0, 0), (0, 11)), (1, 53, (0, 8), (0, 12)), (2, 12, (11, 0), (0, 0)), (1, 53, (0, 7), (0, 63)), (1, 59, (11, 0), (0, 5)), (1, 60, (11, 0), (-1, 29)), (1, 53, (0, 13), (0, 29)), (1, 53, (0, 11), (0, 4095))]
def ld2_T : List og_T := [(some 4, none, [], [(0, 2, 0, 53), (1, 0, 9, 0), (2, 0, 10, 0), (3, 0, 11, 1)], [], [(0, (15, 0), (0, 0), -1, -1), (0, (19, 0), (0, 0), 1, 1), (0, (21, 0), (0, 0), 1, 1), (3, (14, 0), (9, 0), 0, 0), (1, (15, 0), (16, 0), 0, 0), (5, (13, 0), (9, 0), 9, 18), (5, (18, 0), (0, 1), 3, 19), (5, (17, 0), (11, 0), 9, 20), (5, (20, 0), (0, 1), 3, 21)]), (some 4, none, [], [(0, 2, 0, 53), (1, 0, 9, 0), (2, 0, 24, 0), (3, 0, 11, 1)], [], [(0, (15, 0), (0, 0), -1, -1), (0, (19, 0), (0, 0), 1, 1), (7, (21, 0), (0, 0), 1, 0), (3, (14, 0), (9, 0), 0, 0), (1, (15, 0), (16, 0), 0, 0), (5, (13, 0), (9, 0), 9, 18), (5, (18, 0), (0, 1), 3, 19), (5, (17, 0), (11, 0), 9, 20), (5, (20, 0), (0, 1), 3, 21), (5, (0, 1), (16, 0), 8, 22), (5, (0, 1073741824), (22, 0), 1, 23), (5, (10, 0), (23, 0), 4, 24)]), (some 4, none, [], [(0, 2, 0, 53), (1, 0, 9, 0), (2, 0, 10, 0), (3, 0, 11, 1)], [], [(0, (15, 0), (0, 0), 0, 28), (0, (19, 0), (0, 0), 1, 1), (3, (14, 0), (9, 0), 0, 0), (1, (15, 0), (16, 0), 0, 0), (5, (13, 0), (9, 0), 9, 18), (5, (18, 0), (0, 1), 3, 19)]), (some 4, none, [], [(0, 2, 0, 53), (1, 0, 9, 0), (2, 0, 21, 0), (3, 0, 11, 1)], [], [(0, (15, 0), (0, 0), 0, 29), (0, (19, 0), (0, 0), 1, 1), (3, (14, 0), (9, 0), 0, 0), (2, (15, 0), (16, 0), 0, 0), (5, (13, 0), (9, 0), 9, 18), (5, (18, 0), (0, 1), 3, 19), (5, (0, 1), (15, 0), 8, 20), (5, (10, 0), (20, 0), 4, 21)]), (some 4, none, [], [(0, 2, 0, 53), (1, 0, 9, 0), (2, 0, 10, 0), (3, 0, 11, 1)], [], [(0, (19, 0), (0, 0), 1, 1), (4, (14, 0), (9, 0), 0, 0), (5, (13, 0), (9, 0), 9, 18), (5, (18, 0), (0, 1), 3, 19)]), (none, some (0, 10, 0), [], [], [], [(7, (19, 0), (0, 0), 1, 0), (5, (13, 0), (9, 0), 9, 18), (5, (18, 0), (0, 1), 3, 19)])]
theorem ld2_c : qs_chk (fun pc => Nat.beq pc 4) ld2_i 7 ld2_T 400 400 2 232 4 [(0, 2, 0, 53), (1, 0, 9, 0), (2, 0, 10, 0), (3, 0, 11, 0)] [] = true := by decide +kernel
def ld3_i : List qs_I := [(0, 0, (0, 0), (0, 5)), (0, 0, (0, 0), (0, 1073741823)), (0, 0, (0, 0), (0, 12)), (1, 53, (0, 8), (0, 12)), (3, 12, (11, 0), (0, 0))]
def ld3_T : List og_T := [(none, some (0, 10, 0), [], [], [], [])]
theorem ld3_c : qs_chk (fun pc => Nat.beq pc 4) ld3_i 0 ld3_T 400 400 2 232 4 [(0, 2, 0, 53), (1, 0, 9, 0), (2, 0, 10, 0), (3, 0, 11, 0)] [] = true := by decide +kernel
theorem mcn_n {p : Nat → Bool} : ∀ n, mcn p n ≤ n := by
  intro n
  induction n with
  | zero => exact Nat.le_refl 0
  | succ n ih =>
    show mcn p n + (if p n = true then 1 else 0) ≤ n + 1
    split <;> omega
/-- how many bits, counted -/
theorem lb_loop (hL : L < 2 ^ 31) {n0 B : Nat} (h0 : n0 < 2 ^ 31) (hB : B ≤ 31) : ∀ (n c : Nat) (M' : Nat → Nat → Int), n < 2 ^ 31 → c + bcn n = B → sx_mok cl_ly M' → (∀ a, a < 128 → M' a = M a) → rz_fin (fun r N => r = some (.int (Int32.ofInt (B : Int))) ∧ sx_mok cl_ly N ∧ ∀ a, a < 128 → N a = M a) L xs 222 1 4 [(0, .int (Int32.ofInt (n0 : Int))), (1, .int (Int32.ofInt (c : Int))), (2, .int (Int32.ofInt (n : Int)))] [] M' := by
  intro n
  induction n using Nat.strongRecOn with
  | _ n ih =>
    intro c M' hn hc hm hf
    by_cases z : n = 0
    · subst z
      rw [bcn_0] at hc
      have e : c = B := by omega
      subst e
      refine qs_use (zs := [(n0 : Int), (c : Int)]) lb3_c hL hm (qs_in (show 0 ≤ (n0 : Int) ∧ (n0 : Int) ≤ 2147483647 by omega) (qs_in (show 0 ≤ (c : Int) ∧ (c : Int) ≤ 31 by omega) (qs_fin rfl))) (Nat.le_refl _) rfl rfl (qs_c (fun K hK hc hM => ?_) qs_z)
      exact ⟨rfl, hK, (fun a ha => ((show ∀ a, a < 128 → K a = M' a from hM) a ha).trans (hf a ha))⟩
    · obtain ⟨j, k, j1, j2, -, j4, j5, j6⟩ := lk_low (by omega) hn
      have eb : bcn n = bcn k + 1 := mcn_rm j2 31 j1 (fun i _ => j6 i)
      refine qs_use (zs := [(n0 : Int), (c : Int), (n : Int)]) lb2_c hL hm (qs_in (show 0 ≤ (n0 : Int) ∧ (n0 : Int) ≤ 2147483647 by omega) (qs_in (show 0 ≤ (c : Int) ∧ (c : Int) ≤ 31 by omega) (qs_in (show 1 ≤ (n : Int) ∧ (n : Int) ≤ 2147483647 by omega) (qs_fin rfl)))) (Nat.le_refl _) rfl rfl (qs_c (fun u1 K hK hc hM => ?_) qs_z)
      have c1 : u1 = sx_mf 3 (n : Int) ((n : Int) + -1) := hc.1
      rw [j4] at c1
      subst c1
      exact ih k j5 (c + 1) K (by omega) (by omega) hK (fun a ha => ((show ∀ a, a < 128 → K a = M' a from hM) a ha).trans (hf a ha))
theorem lb_x (hL : L < 2 ^ 31) (hm : sx_mok cl_ly M) {n : Nat} (hn : n < 2 ^ 31) : rz_fin (fun r N => r = some (.int (Int32.ofInt ((bcn n : Nat) : Int))) ∧ sx_mok cl_ly N ∧ ∀ a, a < 128 → N a = M a) L xs 222 1 0 [(0, .int (Int32.ofInt (n : Int)))] [] M := by
  refine qs_use (zs := [(n : Int)]) lb1_c hL hm (qs_in (show 0 ≤ (n : Int) ∧ (n : Int) ≤ 2147483647 by omega) (qs_fin rfl)) (Nat.le_refl _) rfl rfl (qs_c (fun K hK hc hM => ?_) qs_z)
  exact lb_loop (B := bcn n) hL hn (mcn_n 31) n 0 K hn (Nat.zero_add _) hK hM
/-- what the reference holds, for lists -/
def lrH (M : Nat → Nat → Int) (H s nc g t : Nat) : Prop := M 53 1 = (H : Int) ∧ H ≤ 6 ∧ M 53 7 = (s : Int) ∧ s < 64 ∧ M 53 8 = (nc : Int) ∧ nc ≤ 12 ∧ M 53 11 = (g : Int) ∧ g < 4096 ∧ M 53 13 = (t : Int) ∧ t ≤ 29 ∧ ∀ c, c < nc → (0 ≤ M 59 c ∧ M 59 c ≤ 5) ∧ -1 ≤ M 60 c ∧ M 60 c ≤ 29
/-- on which days whom a card may bring -/
def lsE (D W : Nat → Int) (S G : Int) (nc t h d : Nat) : Bool := decide (t ≤ d ∧ d < 30) && (osn (vq_may D W S G (d : Int)) W nc).testBit h
theorem lsE_b {D W : Nat → Int} {S G : Int} {t h d : Nat} : lsE D W S G nc t h d = true ↔ (t ≤ d ∧ d < 30) ∧ ∃ c, c < nc ∧ vq_may D W S G (d : Int) c = true ∧ (W c).toNat = h := by
  unfold lsE
  rw [Bool.and_eq_true, decide_eq_true_iff, osn_b]
def lrE (M : Nat → Nat → Int) (s nc g t h : Nat) : Nat → Bool := lsE (M 60) (M 59) (s : Int) (g : Int) nc t h
theorem ld_T : ((List.range 30).all fun t => sx_an (sx_an (Nat.blt (2 ^ 30 - 2 ^ t) (2 ^ 30)) (sx_eq (sx_mf 1 1073741824 ((2 ^ t : Nat) : Int)) ((2 ^ 30 - 2 ^ t : Nat) : Int))) ((List.range 30).all fun d => bif (2 ^ 30 - 2 ^ t).testBit d then Nat.ble t d else bif Nat.ble t d then false else true)) = true := by decide +kernel
theorem ld_t {t : Nat} (ht : t < 30) : ∃ q : Nat, q < 2 ^ 30 ∧ sx_mf 1 1073741824 ((2 ^ t : Nat) : Int) = (q : Int) ∧ ∀ d, (q.testBit d = true ↔ t ≤ d ∧ d < 30) := by
  obtain ⟨t1, t2⟩ := sx_an_iff.mp (List.all_eq_true.mp ld_T t (List.mem_range.mpr ht))
  obtain ⟨t0, t1⟩ := sx_an_iff.mp t1
  have t0 := Nat.le_of_ble_eq_true t0
  have t1 := sx_eq_iff.mp t1
  generalize 2 ^ 30 - 2 ^ t = q at t0 t1 t2
  refine ⟨q, t0, t1, fun d => ?_⟩
  by_cases hd : d < 30
  · have t3 := List.all_eq_true.mp t2 d (List.mem_range.mpr hd)
    cases e : q.testBit d with
    | true =>
      rw [e] at t3
      exact ⟨fun _ => ⟨Nat.le_of_ble_eq_true t3, hd⟩, fun _ => rfl⟩
    | false =>
      rw [e] at t3
      refine ⟨fun x => absurd x (by decide), fun x => ?_⟩
      have q1 : Nat.ble t d = true := Nat.ble_eq_true_of_le x.1
      rw [q1] at t3
      exact absurd t3 (by decide)
  · rw [lk_b0 (show q < 2 ^ 30 from t0) (Nat.le_of_not_lt hd)]
    exact ⟨fun x => absurd x (by decide), fun x => absurd x.2 hd⟩
/-- the days of a house -/
theorem ld_loop {H s g t h : Nat} (hL : L < 2 ^ 31) (hh : lrH M H s nc g t) (h5 : h ≤ 5) (hb : vq_bt (s : Int) (h : Int) = 1) : ∀ (k c n : Nat) (M' : Nat → Nat → Int), c + k = nc → n < 2 ^ 30 → (∀ d, (n.testBit d = true ↔ (t ≤ d ∧ d < 30) ∧ ∃ i, i < c ∧ vq_may (M 60) (M 59) (s : Int) (g : Int) (d : Int) i = true ∧ (M 59 i).toNat = h)) → sx_mok cl_ly M' → (∀ a, a < 128 → M' a = M a) → rz_fin (fun r N => r = some (.int (Int32.ofInt ((dsn (lrE M s nc g t h) 30 : Nat) : Int))) ∧ sx_mok cl_ly N ∧ ∀ a, a < 128 → N a = M a) L xs 232 2 4 [(0, .ref 53), (1, .int (Int32.ofInt (h : Int))), (2, .int (Int32.ofInt (n : Int))), (3, .int (Int32.ofInt (c : Int)))] [] M' := by
  obtain ⟨h1, h2, h3, h4, h6, h7, h8, h9, h10, h11, h12⟩ := hh
  intro k
  induction k with
  | zero =>
    intro c n M' hk hn hz hm hf
    have e : c = nc := by omega
    subst e
    have en : dsn (lrE M s c g t h) 30 = n := Nat.eq_of_testBit_eq fun d => by
      have q := dsn_b (P := lrE M s c g t h) (g := d) 30
      rw [show lrE M s c g t h d = lsE (M 60) (M 59) (s : Int) (g : Int) c t h d from rfl, lsE_b] at q
      have q2 := hz d
      by_cases b : n.testBit d = true
      · rw [b]
        exact q.mpr ⟨(q2.mp b).1.2, q2.mp b⟩
      · rw [Bool.not_eq_true] at b
        rw [b, ← Bool.not_eq_true]
        intro x
        rw [q2.mpr (q.mp x).2] at b
        exact absurd b (by decide)
    rw [en]
    refine qs_use (zs := [(h : Int), (n : Int), (c : Int), (c : Int)]) ld3_c hL hm (qs_in (show 0 ≤ (h : Int) ∧ (h : Int) ≤ 5 by omega) (qs_in (show 0 ≤ (n : Int) ∧ (n : Int) ≤ 1073741823 by omega) (qs_in (show 0 ≤ (c : Int) ∧ (c : Int) ≤ 12 by omega) (qs_rd (show (0 : Int) ≤ 8 by decide) (by rw [hf 53 (by decide)]; exact h6) (show 0 ≤ (c : Int) ∧ (c : Int) ≤ 12 by omega) (qs_ge (show ¬ (c : Int) < (c : Int) by omega) (qs_fin rfl)))))) (Nat.le_refl _) rfl rfl (qs_c (fun K hK hc hM => ?_) qs_z)
    exact ⟨rfl, hK, (fun a ha => ((show ∀ a, a < 128 → K a = M' a from hM) a ha).trans (hf a ha))⟩
  | succ k ih =>
    intro c n M' hk hn hz hm hf
    have b9 := vq_b9 (s : Int) (show h < 32 by omega)
    have g9 := vq_b9 (g : Int) (show c < 32 by omega)
    obtain ⟨⟨o1, o2⟩, o3, o4⟩ := h12 c (by omega)
    obtain ⟨w, ew⟩ := Int.eq_ofNat_of_zero_le o1
    have mw : (M 59 c).toNat = w := by rw [ew, Int.toNat_natCast]
    have may : ∀ d : Nat, (vq_may (M 60) (M 59) (s : Int) (g : Int) (d : Int) c = true ↔ (M 60 c = (d : Int) ∨ (M 60 c = -1 ∧ vq_bt (g : Int) (c : Int) = 0)) ∧ vq_bt (s : Int) (w : Int) = 1) := fun d => by
      unfold vq_may
      rw [decide_eq_true_iff, ew]
    have z59 : M' 59 c = (w : Int) := by rw [hf 59 (by decide)]; exact ew
    have z60 : M' 60 c = M 60 c := by rw [hf 60 (by decide)]
    generalize M 60 c = v at o3 o4 may z60
    have o34 : -1 ≤ v ∧ v ≤ 29 := ⟨o3, o4⟩
    have go : ∀ (n' : Nat) (K : Nat → Nat → Int), n' < 2 ^ 30 → (∀ d, t ≤ d → d < 30 → (n'.testBit d = true ↔ n.testBit d = true ∨ ((v = (d : Int) ∨ (v = -1 ∧ vq_bt (g : Int) (c : Int) = 0)) ∧ w = h))) → (∀ d, ¬ (t ≤ d ∧ d < 30) → n'.testBit d = false) → sx_mok cl_ly K → (∀ a, a < 128 → K a = M' a) → rz_fin (fun r N => r = some (.int (Int32.ofInt ((dsn (lrE M s nc g t h) 30 : Nat) : Int))) ∧ sx_mok cl_ly N ∧ ∀ a, a < 128 → N a = M a) L xs 232 2 4 [(0, .ref 53), (1, .int (Int32.ofInt (h : Int))), (2, .int (Int32.ofInt (n' : Int))), (3, .int (Int32.ofInt ((c + 1 : Nat) : Int)))] [] K := fun n' K hn' hb' ho' hK fK => ih (c + 1) n' K (by omega) hn' (fun d => by
      by_cases r : t ≤ d ∧ d < 30
      · rw [hb' d r.1 r.2, hz d]
        constructor
        · rintro (⟨-, i, i1, i2⟩ | ⟨q1, q2⟩)
          · exact ⟨r, i, by omega, i2⟩
          · exact ⟨r, c, by omega, (may d).mpr ⟨q1, by rw [q2]; exact hb⟩, mw.trans q2⟩
        · rintro ⟨-, i, i1, i2, i3⟩
          by_cases q : i = c
          · rw [q] at i2 i3
            exact Or.inr ⟨((may d).mp i2).1, mw.symm.trans i3⟩
          · exact Or.inl ⟨r, i, by omega, i2, i3⟩
      · rw [ho' d r]
        exact ⟨fun q => absurd q (by decide), fun q => absurd q.1 r⟩) hK (fun a ha => (fK a ha).trans (hf a ha))
    have ho : ∀ d, ¬ (t ≤ d ∧ d < 30) → n.testBit d = false := fun d r => by
      cases e : n.testBit d with
      | false => rfl
      | true => exact absurd ((hz d).mp e).1 r
    have same : ∀ K, (∀ d : Nat, t ≤ d → d < 30 → ¬ ((v = (d : Int) ∨ (v = -1 ∧ vq_bt (g : Int) (c : Int) = 0)) ∧ w = h)) → sx_mok cl_ly K → (∀ a, a < 128 → K a = M' a) → rz_fin (fun r N => r = some (.int (Int32.ofInt ((dsn (lrE M s nc g t h) 30 : Nat) : Int))) ∧ sx_mok cl_ly N ∧ ∀ a, a < 128 → N a = M a) L xs 232 2 4 [(0, .ref 53), (1, .int (Int32.ofInt (h : Int))), (2, .int (Int32.ofInt (n : Int))), (3, .int (Int32.ofInt ((c + 1 : Nat) : Int)))] [] K := fun K no hK fK => go n K hn (fun d d1 d2 => ⟨Or.inl, fun q => q.elim id (fun x => absurd x (no d d1 d2))⟩) ho hK fK
    refine qs_use (zs := [(h : Int), (n : Int), (c : Int), (nc : Int), (s : Int), (w : Int), v, (t : Int), (g : Int)]) ld2_c hL hm (qs_in (show 0 ≤ (h : Int) ∧ (h : Int) ≤ 5 by omega) (qs_in (show 0 ≤ (n : Int) ∧ (n : Int) ≤ 1073741823 by omega) (qs_in (show 0 ≤ (c : Int) ∧ (c : Int) ≤ 11 by omega) (qs_rd (show (0 : Int) ≤ 8 by decide) (by rw [hf 53 (by decide)]; exact h6) (show 0 ≤ (nc : Int) ∧ (nc : Int) ≤ 12 by omega) (qs_lt (show (c : Int) < (nc : Int) by omega) (qs_rd (show (0 : Int) ≤ 7 by decide) (by rw [hf 53 (by decide)]; exact h3) (show 0 ≤ (s : Int) ∧ (s : Int) ≤ 63 by omega) (qs_rd (show 0 ≤ (c : Int) by omega) z59 (show 0 ≤ (w : Int) ∧ (w : Int) ≤ 5 by omega) (qs_rd (show 0 ≤ (c : Int) by omega) z60 (show -1 ≤ v ∧ v ≤ 29 by omega) (qs_rd (show (0 : Int) ≤ 13 by decide) (by rw [hf 53 (by decide)]; exact h10) (show 0 ≤ (t : Int) ∧ (t : Int) ≤ 29 by omega) (qs_rd (show (0 : Int) ≤ 11 by decide) (by rw [hf 53 (by decide)]; exact h8) (show 0 ≤ (g : Int) ∧ (g : Int) ≤ 4095 by omega) (qs_fin rfl))))))))))) (Nat.le_refl _) rfl rfl (qs_c (fun u1 u2 u3 u4 u5 u6 u7 K hK hc hM => ?_) (qs_c (fun u1 u2 u3 u4 u5 u6 u7 K hK hc hM => ?_) (qs_c (fun u1 u2 u3 u4 u5 u6 u7 K hK hc hM => ?_) (qs_c (fun u1 u2 u3 u4 u5 u6 u7 K hK hc hM => ?_) (qs_c (fun u1 u2 u3 u4 u5 u6 u7 K hK hc hM => ?_) (qs_c (fun u1 u2 u3 u4 u5 u6 u7 K hK hc hM => ?_) qs_z))))))
    · obtain ⟨c1, c2, c3, c4, c5, c6, c7, c8, c9, -⟩ := hc
      have c1 : -1 ≤ v ∧ v ≤ -1 := c1
      have c2 : 1 ≤ u2 ∧ u2 ≤ 1 := c2
      have c3 : 1 ≤ u4 ∧ u4 ≤ 1 := c3
      have c4 : (w : Int) = (h : Int) := c4
      have c5 : v < (t : Int) := c5
      have c6 : u1 = sx_mf 9 (s : Int) (h : Int) := c6
      have c7 : u2 = sx_mf 3 u1 1 := c7
      have c8 : u3 = sx_mf 9 (g : Int) (c : Int) := c8
      have c9 : u4 = sx_mf 3 u3 1 := c9
      have fK : ∀ a, a < 128 → K a = M' a := hM
      rw [c8, g9] at c9
      have bg : vq_bt (g : Int) (c : Int) = 1 := by omega
      exact same K (fun d d1 d2 q => by
        rcases q.1 with q1 | q1
        · omega
        · omega) hK fK
    · obtain ⟨c1, c2, c3, c4, c5, c6, c7, c8, c9, c10, c11, c12, -⟩ := hc
      have c1 : -1 ≤ v ∧ v ≤ -1 := c1
      have c2 : 1 ≤ u2 ∧ u2 ≤ 1 := c2
      have c3 : u4 ≠ 1 := c3
      have c4 : (w : Int) = (h : Int) := c4
      have c5 : v < (t : Int) := c5
      have c6 : u1 = sx_mf 9 (s : Int) (h : Int) := c6
      have c7 : u2 = sx_mf 3 u1 1 := c7
      have c8 : u3 = sx_mf 9 (g : Int) (c : Int) := c8
      have c9 : u4 = sx_mf 3 u3 1 := c9
      have c10 : u5 = sx_mf 8 1 (t : Int) := c10
      have c11 : u6 = sx_mf 1 1073741824 u5 := c11
      have c12 : u7 = sx_mf 4 (n : Int) u6 := c12
      have fK : ∀ a, a < 128 → K a = M' a := hM
      rw [c8, g9] at c9
      have bg : vq_bt (g : Int) (c : Int) = 0 := by
        rcases vq_bt_r (g : Int) (c : Int) with q | q
        · exact q
        · omega
      have eh : w = h := by omega
      have ev : v = -1 := by omega
      have n31 : n < 2 ^ 31 := Nat.lt_trans hn (by decide)
      have t30 : t < 30 := by omega
      have t31 : t < 31 := by omega
      obtain ⟨x, x30, t1, tb⟩ := ld_t t30
      have x31 : x < 2 ^ 31 := Nat.lt_trans x30 (by decide)
      rw [lk_s t31] at c10
      rw [c10, t1] at c11
      rw [c11, fd_or n31 x31] at c12
      subst c12
      have o30 : n ||| x < 2 ^ 30 := Nat.or_lt_two_pow hn x30
      refine go _ K o30 (fun d d1 d2 => ?_) (fun d r => ?_) hK fK
      · rw [Nat.testBit_or, Bool.or_eq_true, tb d]
        exact ⟨fun _ => Or.inr ⟨Or.inr ⟨ev, bg⟩, eh⟩, fun _ => Or.inr ⟨d1, d2⟩⟩
      · rw [Nat.testBit_or, ho d r, Bool.false_or, ← Bool.not_eq_true, tb d]
        exact r
    · obtain ⟨c1, c2, c3, c4, c5, c6, -⟩ := hc
      have c1 : 0 ≤ v ∧ v ≤ 28 := c1
      have c2 : 1 ≤ u2 ∧ u2 ≤ 1 := c2
      have c3 : (w : Int) = (h : Int) := c3
      have c4 : v < (t : Int) := c4
      have c5 : u1 = sx_mf 9 (s : Int) (h : Int) := c5
      have c6 : u2 = sx_mf 3 u1 1 := c6
      have fK : ∀ a, a < 128 → K a = M' a := hM
      exact same K (fun d d1 d2 q => by
        rcases q.1 with q1 | q1
        · omega
        · omega) hK fK
    · obtain ⟨c1, c2, c3, c4, c5, c6, c7, c8, -⟩ := hc
      have c1 : 0 ≤ v ∧ v ≤ 29 := c1
      have c2 : 1 ≤ u2 ∧ u2 ≤ 1 := c2
      have c3 : (w : Int) = (h : Int) := c3
      have c4 : ¬ v < (t : Int) := c4
      have c5 : u1 = sx_mf 9 (s : Int) (h : Int) := c5
      have c6 : u2 = sx_mf 3 u1 1 := c6
      have c7 : u3 = sx_mf 8 1 v := c7
      have c8 : u4 = sx_mf 4 (n : Int) u3 := c8
      have fK : ∀ a, a < 128 → K a = M' a := hM
      have eh : w = h := by omega
      obtain ⟨x, ex⟩ := Int.eq_ofNat_of_zero_le (show 0 ≤ v by omega)
      have tx : t ≤ x := by omega
      have px := lk_p (k := x) (by omega)
      have p30 : 2 ^ x < 2 ^ 30 := Nat.pow_lt_pow_right (by decide) (by omega)
      rw [ex, lk_s (by omega)] at c7
      rw [c7, fd_or (by omega) px] at c8
      subst c8
      have o30 : n ||| 2 ^ x < 2 ^ 30 := Nat.or_lt_two_pow hn p30
      refine go _ K o30 (fun d d1 d2 => ?_) (fun d r => ?_) hK fK
      · rw [Nat.testBit_or, Bool.or_eq_true, Nat.testBit_two_pow, decide_eq_true_iff]
        constructor
        · rintro (q | q)
          · exact Or.inl q
          · exact Or.inr ⟨Or.inl (by omega), eh⟩
        · rintro (q | ⟨q | q, -⟩)
          · exact Or.inl q
          · exact Or.inr (by omega)
          · omega
      · rw [Nat.testBit_or, ho d r, Bool.false_or, Nat.testBit_two_pow, decide_eq_false]
        intro q
        exact r (by omega)
    · obtain ⟨c1, c2, c3, c4, -⟩ := hc
      have c1 : 1 ≤ u2 ∧ u2 ≤ 1 := c1
      have c2 : ¬ (w : Int) = (h : Int) := c2
      have c3 : u1 = sx_mf 9 (s : Int) (h : Int) := c3
      have c4 : u2 = sx_mf 3 u1 1 := c4
      have fK : ∀ a, a < 128 → K a = M' a := hM
      exact same K (fun d d1 d2 q => by
        have := q.2
        omega) hK fK
    · obtain ⟨c1, c2, c3, -⟩ := hc
      have c1 : u2 ≠ 1 := c1
      have c2 : u1 = sx_mf 9 (s : Int) (h : Int) := c2
      have c3 : u2 = sx_mf 3 u1 1 := c3
      have fK : ∀ a, a < 128 → K a = M' a := hM
      rw [c2, b9] at c3
      exfalso
      omega
theorem ld_x {H s g t h : Nat} (hL : L < 2 ^ 31) (hm : sx_mok cl_ly M) (hh : lrH M H s nc g t) (h5 : h ≤ 5) : rz_fin (fun r N => r = some (.int (Int32.ofInt ((dsn (lrE M s nc g t h) 30 : Nat) : Int))) ∧ sx_mok cl_ly N ∧ ∀ a, a < 128 → N a = M a) L xs 232 2 0 [(0, .ref 53), (1, .int (Int32.ofInt (h : Int)))] [] M := by
  refine qs_use (zs := [(h : Int)]) ld1_c hL hm (qs_in (show 0 ≤ (h : Int) ∧ (h : Int) ≤ 5 by omega) (qs_fin rfl)) (Nat.le_refl _) rfl rfl (qs_c (fun K0 hK0 hc hM => ?_) qs_z)
  have f0 : ∀ a, a < 128 → K0 a = M a := hM
  by_cases hb : vq_bt (s : Int) (h : Int) = 1
  · exact ld_loop hL hh h5 hb nc 0 0 K0 (by omega) (by decide) (fun d => by
      rw [Nat.zero_testBit]
      exact ⟨fun q => absurd q (by decide), fun ⟨_, i, i1, _⟩ => by omega⟩) hK0 f0
  · obtain ⟨h1, h2, h3, h4, h6, h7, h8, h9, h10, h11, h12⟩ := hh
    have z : dsn (lrE M s nc g t h) 30 = 0 := Nat.eq_of_testBit_eq fun d => by
      rw [Nat.zero_testBit, ← Bool.not_eq_true]
      intro q
      have q := ((dsn_b (P := lrE M s nc g t h) 30).mp q).2
      obtain ⟨-, c, c1, c2, c3⟩ := lsE_b.mp (show lsE (M 60) (M 59) (s : Int) (g : Int) nc t h d = true from q)
      have q2 := (of_decide_eq_true (show decide ((M 60 c = (d : Int) ∨ (M 60 c = -1 ∧ vq_bt (g : Int) (c : Int) = 0)) ∧ vq_bt (s : Int) (M 59 c) = 1) = true from c2)).2
      obtain ⟨⟨o1, -⟩, -⟩ := h12 c c1
      rw [show M 59 c = (h : Int) by omega] at q2
      exact hb q2
    rw [z]
    by_cases n0 : nc = 0
    · subst n0
      refine qs_use (zs := [(h : Int), (0 : Int), (0 : Int), ((0 : Nat) : Int)]) ld3_c hL hK0 (qs_in (show 0 ≤ (h : Int) ∧ (h : Int) ≤ 5 by omega) (qs_in (show 0 ≤ (0 : Int) ∧ (0 : Int) ≤ 1073741823 by omega) (qs_in (show 0 ≤ (0 : Int) ∧ (0 : Int) ≤ 12 by omega) (qs_rd (show (0 : Int) ≤ 8 by decide) (by rw [f0 53 (by decide)]; exact h6) (show 0 ≤ ((0 : Nat) : Int) ∧ ((0 : Nat) : Int) ≤ 12 by omega) (qs_ge (show ¬ (0 : Int) < ((0 : Nat) : Int) by omega) (qs_fin rfl)))))) (Nat.le_refl _) rfl rfl (qs_c (fun K hK hc hM => ?_) qs_z)
      exact ⟨rfl, hK, (fun a ha => ((show ∀ a, a < 128 → K a = K0 a from hM) a ha).trans (f0 a ha))⟩
    · obtain ⟨⟨o1, o2⟩, o3, o4⟩ := h12 0 (by omega)
      have b9 := vq_b9 (s : Int) (show h < 32 by omega)
      refine qs_use (zs := [(h : Int), (0 : Int), (0 : Int), (nc : Int), (s : Int), M 59 0, M 60 0, (t : Int), (g : Int)]) ld2_c hL hK0 (qs_in (show 0 ≤ (h : Int) ∧ (h : Int) ≤ 5 by omega) (qs_in (show 0 ≤ (0 : Int) ∧ (0 : Int) ≤ 1073741823 by omega) (qs_in (show 0 ≤ (0 : Int) ∧ (0 : Int) ≤ 11 by omega) (qs_rd (show (0 : Int) ≤ 8 by decide) (by rw [f0 53 (by decide)]; exact h6) (show 0 ≤ (nc : Int) ∧ (nc : Int) ≤ 12 by omega) (qs_lt (show (0 : Int) < (nc : Int) by omega) (qs_rd (show (0 : Int) ≤ 7 by decide) (by rw [f0 53 (by decide)]; exact h3) (show 0 ≤ (s : Int) ∧ (s : Int) ≤ 63 by omega) (qs_rd (show 0 ≤ (0 : Int) by omega) (by rw [f0 59 (by decide)]; rfl) ⟨o1, o2⟩ (qs_rd (show 0 ≤ (0 : Int) by omega) (by rw [f0 60 (by decide)]; rfl) ⟨o3, o4⟩ (qs_rd (show (0 : Int) ≤ 13 by decide) (by rw [f0 53 (by decide)]; exact h10) (show 0 ≤ (t : Int) ∧ (t : Int) ≤ 29 by omega) (qs_rd (show (0 : Int) ≤ 11 by decide) (by rw [f0 53 (by decide)]; exact h8) (show 0 ≤ (g : Int) ∧ (g : Int) ≤ 4095 by omega) (qs_fin rfl))))))))))) (Nat.le_refl _) rfl rfl (qs_c (fun u1 u2 u3 u4 u5 u6 u7 K hK hc hM => ?_) (qs_c (fun u1 u2 u3 u4 u5 u6 u7 K hK hc hM => ?_) (qs_c (fun u1 u2 u3 u4 u5 u6 u7 K hK hc hM => ?_) (qs_c (fun u1 u2 u3 u4 u5 u6 u7 K hK hc hM => ?_) (qs_c (fun u1 u2 u3 u4 u5 u6 u7 K hK hc hM => ?_) (qs_c (fun u1 u2 u3 u4 u5 u6 u7 K hK hc hM => ?_) qs_z))))))
      · obtain ⟨c1, c2, c3, c4, c5, c6, c7, c8, c9, -⟩ := hc
        have c1 : -1 ≤ M 60 0 ∧ M 60 0 ≤ -1 := c1
        have c2 : 1 ≤ u2 ∧ u2 ≤ 1 := c2
        have c3 : 1 ≤ u4 ∧ u4 ≤ 1 := c3
        have c4 : M 59 0 = (h : Int) := c4
        have c5 : M 60 0 < (t : Int) := c5
        have c6 : u1 = sx_mf 9 (s : Int) (h : Int) := c6
        have c7 : u2 = sx_mf 3 u1 1 := c7
        have c8 : u3 = sx_mf 9 (g : Int) (0 : Int) := c8
        have c9 : u4 = sx_mf 3 u3 1 := c9
        have fK : ∀ a, a < 128 → K a = K0 a := hM
        rw [c6, b9] at c7
        exact absurd (by omega) hb
      · obtain ⟨c1, c2, c3, c4, c5, c6, c7, c8, c9, c10, c11, c12, -⟩ := hc
        have c1 : -1 ≤ M 60 0 ∧ M 60 0 ≤ -1 := c1
        have c2 : 1 ≤ u2 ∧ u2 ≤ 1 := c2
        have c3 : u4 ≠ 1 := c3
        have c4 : M 59 0 = (h : Int) := c4
        have c5 : M 60 0 < (t : Int) := c5
        have c6 : u1 = sx_mf 9 (s : Int) (h : Int) := c6
        have c7 : u2 = sx_mf 3 u1 1 := c7
        have c8 : u3 = sx_mf 9 (g : Int) (0 : Int) := c8
        have c9 : u4 = sx_mf 3 u3 1 := c9
        have c10 : u5 = sx_mf 8 1 (t : Int) := c10
        have c11 : u6 = sx_mf 1 1073741824 u5 := c11
        have c12 : u7 = sx_mf 4 (0 : Int) u6 := c12
        have fK : ∀ a, a < 128 → K a = K0 a := hM
        rw [c6, b9] at c7
        exact absurd (by omega) hb
      · obtain ⟨c1, c2, c3, c4, c5, c6, -⟩ := hc
        have c1 : 0 ≤ M 60 0 ∧ M 60 0 ≤ 28 := c1
        have c2 : 1 ≤ u2 ∧ u2 ≤ 1 := c2
        have c3 : M 59 0 = (h : Int) := c3
        have c4 : M 60 0 < (t : Int) := c4
        have c5 : u1 = sx_mf 9 (s : Int) (h : Int) := c5
        have c6 : u2 = sx_mf 3 u1 1 := c6
        have fK : ∀ a, a < 128 → K a = K0 a := hM
        rw [c5, b9] at c6
        exact absurd (by omega) hb
      · obtain ⟨c1, c2, c3, c4, c5, c6, c7, c8, -⟩ := hc
        have c1 : 0 ≤ M 60 0 ∧ M 60 0 ≤ 29 := c1
        have c2 : 1 ≤ u2 ∧ u2 ≤ 1 := c2
        have c3 : M 59 0 = (h : Int) := c3
        have c4 : ¬ M 60 0 < (t : Int) := c4
        have c5 : u1 = sx_mf 9 (s : Int) (h : Int) := c5
        have c6 : u2 = sx_mf 3 u1 1 := c6
        have c7 : u3 = sx_mf 8 1 (M 60 0) := c7
        have c8 : u4 = sx_mf 4 (0 : Int) u3 := c8
        have fK : ∀ a, a < 128 → K a = K0 a := hM
        rw [c5, b9] at c6
        exact absurd (by omega) hb
      · obtain ⟨c1, c2, c3, c4, -⟩ := hc
        have c1 : 1 ≤ u2 ∧ u2 ≤ 1 := c1
        have c2 : ¬ M 59 0 = (h : Int) := c2
        have c3 : u1 = sx_mf 9 (s : Int) (h : Int) := c3
        have c4 : u2 = sx_mf 3 u1 1 := c4
        have fK : ∀ a, a < 128 → K a = K0 a := hM
        rw [c3, b9] at c4
        exact absurd (by omega) hb
      · have fK : ∀ a, a < 128 → K a = K0 a := hM
        exact ⟨rfl, hK, fun a ha => (fK a ha).trans (f0 a ha)⟩
end
