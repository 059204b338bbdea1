/-! The greatest matching, pure: sets that can be matched, day by day. -/
section
variable {A : Nat → Bool} {D : Nat → Nat → Bool} {f : Nat → Nat} {m h n k t x y : Nat}
/-- one house more -/
def mor (y h : Nat) : Nat := if y / 2 ^ h % 2 = 1 then y else y + 2 ^ h
def mrm (x h : Nat) : Nat := x - x / 2 ^ h % 2 * 2 ^ h
theorem mor_T : ((List.range 64).all fun y => (List.range 6).all fun h => sx_an (Nat.blt (mor y h) 64) ((List.range 6).all fun g => Nat.beq (mor y h / 2 ^ g % 2) (bif Nat.beq g h then 1 else y / 2 ^ g % 2))) = true := by decide +kernel
theorem mor_ok (hy : y < 64) (hh : h < 6) : mor y h < 64 ∧ ∀ g, g < 6 → mor y h / 2 ^ g % 2 = if g = h then 1 else y / 2 ^ g % 2 := by
  obtain ⟨a, b⟩ := sx_an_iff.mp (List.all_eq_true.mp (List.all_eq_true.mp mor_T y (List.mem_range.mpr hy)) h (List.mem_range.mpr hh))
  refine ⟨Nat.le_of_ble_eq_true a, fun g hg => ?_⟩
  have e := sx_nbeq.mp (List.all_eq_true.mp b g (List.mem_range.mpr hg))
  rw [e]
  by_cases q : g = h
  · rw [if_pos q, sx_nbeq.mpr q]
    rfl
  · rw [if_neg q, sx_nbeq_f.mpr q]
    rfl
theorem mrm_T : ((List.range 64).all fun x => (List.range 6).all fun h => sx_an (Nat.blt (mrm x h) 64) (sx_an ((List.range 6).all fun g => Nat.beq (mrm x h / 2 ^ g % 2) (bif Nat.beq g h then 0 else x / 2 ^ g % 2)) (bif Nat.beq (x / 2 ^ h % 2) 1 then Nat.beq (mor (mrm x h) h) x else true))) = true := by decide +kernel
theorem mrm_ok (hx : x < 64) (hh : h < 6) : mrm x h < 64 ∧ (∀ g, g < 6 → mrm x h / 2 ^ g % 2 = if g = h then 0 else x / 2 ^ g % 2) ∧ (x / 2 ^ h % 2 = 1 → mor (mrm x h) h = x) := by
  obtain ⟨a, b⟩ := sx_an_iff.mp (List.all_eq_true.mp (List.all_eq_true.mp mrm_T x (List.mem_range.mpr hx)) h (List.mem_range.mpr hh))
  obtain ⟨b, c⟩ := sx_an_iff.mp b
  refine ⟨Nat.le_of_ble_eq_true a, fun g hg => ?_, fun q => ?_⟩
  · have e := sx_nbeq.mp (List.all_eq_true.mp b g (List.mem_range.mpr hg))
    rw [e]
    by_cases q : g = h
    · rw [if_pos q, sx_nbeq.mpr q]
      rfl
    · rw [if_neg q, sx_nbeq_f.mpr q]
      rfl
  · rw [sx_nbeq.mpr q] at c
    exact sx_nbeq.mp c
theorem mz_T : ((List.range 64).all fun x => bif (List.range 6).all (fun i => Nat.beq (x / 2 ^ i % 2) 0) then Nat.beq x 0 else true) = true := by decide +kernel
theorem mz_ok (hx : x < 64) (hb : ∀ i, i < 6 → x / 2 ^ i % 2 = 0) : x = 0 := by
  have t := List.all_eq_true.mp mz_T x (List.mem_range.mpr hx)
  have c : ((List.range 6).all fun i => Nat.beq (x / 2 ^ i % 2) 0) = true := List.all_eq_true.mpr fun i hi => sx_nbeq.mpr (hb i (List.mem_range.mp hi))
  rw [c] at t
  exact sx_nbeq.mp t
/-- sets that can be matched to k days from t on -/
def mdp (D : Nat → Nat → Bool) (t : Nat) : Nat → Nat → Prop
  | 0, x => x = 0
  | k + 1, x => mdp D t k x ∨ ∃ y h, h < 6 ∧ mdp D t k y ∧ D h (t + k) = true ∧ x = mor y h
def mat (D : Nat → Nat → Bool) (t k x : Nat) (f : Nat → Nat) : Prop := ∀ i, i < 6 → x / 2 ^ i % 2 = 1 → t ≤ f i ∧ f i < t + k ∧ D i (f i) = true ∧ ∀ j, j < 6 → j ≠ i → x / 2 ^ j % 2 = 1 → f j ≠ f i
theorem mat_up (hm : mat D t k x f) : mat D t (k + 1) x f := fun i hi hb => by
  obtain ⟨a1, a2, a3, a4⟩ := hm i hi hb
  exact ⟨a1, by omega, a3, a4⟩
theorem mdp_mat : ∀ k x, mdp D t k x → x < 64 ∧ ∃ f, mat D t k x f := by
  intro k
  induction k with
  | zero =>
    intro x hx
    have hx : x = 0 := hx
    subst hx
    exact ⟨by decide, fun _ => 0, fun i _ hb => by rw [Nat.zero_div] at hb; exact absurd hb (by decide)⟩
  | succ k ih =>
    intro x hx
    rcases hx with hx | ⟨y, h, hh, hy, hD, e⟩
    · obtain ⟨x64, f, H⟩ := ih x hx
      exact ⟨x64, f, mat_up H⟩
    · obtain ⟨y64, f, H⟩ := ih y hy
      obtain ⟨m1, m2⟩ := mor_ok y64 hh
      by_cases c : y / 2 ^ h % 2 = 1
      · have e2 : x = y := e.trans (if_pos c)
        subst e2
        exact ⟨y64, f, mat_up H⟩
      · subst e
        refine ⟨m1, fun i => if i = h then t + k else f i, fun i hi hb => ?_⟩
        rw [m2 i hi] at hb
        show t ≤ (if i = h then t + k else f i) ∧ (if i = h then t + k else f i) < t + (k + 1) ∧ D i (if i = h then t + k else f i) = true ∧ ∀ j, j < 6 → j ≠ i → mor y h / 2 ^ j % 2 = 1 → (if j = h then t + k else f j) ≠ (if i = h then t + k else f i)
        by_cases q : i = h
        · rw [if_pos q, q]
          refine ⟨by omega, by omega, hD, fun j hj ne bj => ?_⟩
          rw [m2 j hj, if_neg ne] at bj
          rw [if_neg ne]
          obtain ⟨-, a2, -⟩ := H j hj bj
          omega
        · rw [if_neg q] at hb
          rw [if_neg q]
          obtain ⟨a1, a2, a3, a4⟩ := H i hi hb
          refine ⟨a1, by omega, a3, fun j hj ne bj => ?_⟩
          rw [m2 j hj] at bj
          by_cases w : j = h
          · rw [if_pos w]
            omega
          · rw [if_neg w] at bj ⊢
            exact a4 j hj ne bj
theorem mat_mdp : ∀ k x, x < 64 → mat D t k x f → mdp D t k x := by
  intro k
  induction k with
  | zero =>
    intro x hx H
    exact mz_ok hx (fun i hi => by
      have r := Nat.mod_lt (x / 2 ^ i) (show 0 < 2 by decide)
      by_cases c : x / 2 ^ i % 2 = 1
      · obtain ⟨a1, a2, -⟩ := H i hi c
        omega
      · omega)
  | succ k ih =>
    intro x hx H
    by_cases ex : ∃ i, i < 6 ∧ x / 2 ^ i % 2 = 1 ∧ f i = t + k
    · obtain ⟨i, hi, hb, hf⟩ := ex
      obtain ⟨r1, r2, r3⟩ := mrm_ok hx hi
      obtain ⟨-, -, a3, a4⟩ := H i hi hb
      rw [hf] at a3 a4
      refine Or.inr ⟨mrm x i, i, hi, ih (mrm x i) r1 (fun j hj bj => ?_), a3, (r3 hb).symm⟩
      rw [r2 j hj] at bj
      by_cases w : j = i
      · rw [if_pos w] at bj
        exact absurd bj (by decide)
      · rw [if_neg w] at bj
        obtain ⟨b1, b2, b3, b4⟩ := H j hj bj
        have ne := a4 j hj w bj
        refine ⟨b1, by omega, b3, fun l hl nl bl => ?_⟩
        rw [r2 l hl] at bl
        by_cases z : l = i
        · rw [if_pos z] at bl
          exact absurd bl (by decide)
        · rw [if_neg z] at bl
          exact b4 l hl nl bl
    · refine Or.inl (ih x hx (fun i hi hb => ?_))
      obtain ⟨a1, a2, a3, a4⟩ := H i hi hb
      have ne : f i ≠ t + k := fun q => ex ⟨i, hi, hb, q⟩
      exact ⟨a1, by omega, a3, a4⟩
/-- the set of the houses that are taken -/
def mst (A : Nat → Bool) : Nat → Nat
  | 0 => 0
  | n + 1 => if A n = true then mst A n + 2 ^ n else mst A n
theorem mst_lt : ∀ n, mst A n < 2 ^ n := by
  intro n
  induction n with
  | zero => exact Nat.lt_succ_self 0
  | succ n ih =>
    have e : 2 ^ (n + 1) = 2 ^ n + 2 ^ n := by rw [Nat.pow_succ]; omega
    show (if A n = true then mst A n + 2 ^ n else mst A n) < 2 ^ (n + 1)
    split <;> omega
theorem mst_b : ∀ n i, i < n → mst A n / 2 ^ i % 2 = if A i = true then 1 else 0 := by
  intro n
  induction n with
  | zero => intro i hi; omega
  | succ n ih =>
    intro i hi
    show (if A n = true then mst A n + 2 ^ n else mst A n) / 2 ^ i % 2 = if A i = true then 1 else 0
    by_cases c : A n = true
    · rw [if_pos c]
      by_cases q : i = n
      · rw [q, ft_at (mst_lt n), if_pos c]
      · rw [ft_lo (show i < n by omega)]
        exact ih i (by omega)
    · rw [if_neg c]
      by_cases q : i = n
      · rw [q, ft_hi (mst_lt n) (Nat.le_refl n), if_neg c]
      · exact ih i (by omega)
def mbs (x : Nat) : Nat → Bool := fun i => decide (x / 2 ^ i % 2 = 1)
theorem msz_e2 {A' : Nat → Bool} : ∀ m h, (∀ i, h ≤ i → i < h + m → A' i = A i) → msz A' m h = msz A m h := by
  intro m
  induction m with
  | zero => intro h _; rfl
  | succ m ih =>
    intro h e
    show (if A' h = true then 1 else 0) + msz A' m (h + 1) = (if A h = true then 1 else 0) + msz A m (h + 1)
    rw [e h (Nat.le_refl h) (by omega), ih (h + 1) (fun i h1 h2 => e i (by omega) (by omega))]
/-- both ways find the greatest -/
theorem mdp_max (ht : t ≤ 30) (hD : ∀ h d, D h d = true → t ≤ d ∧ d < 30) : (∀ x, mdp D t (30 - t) x → msz (mbs x) 6 0 ≤ mgr D 6 0 (fun _ => false)) ∧ ∃ x, mdp D t (30 - t) x ∧ x < 64 ∧ msz (mbs x) 6 0 = mgr D 6 0 (fun _ => false) := by
  refine ⟨fun x hx => ?_, ?_⟩
  · obtain ⟨x64, f, H⟩ := mdp_mat (30 - t) x hx
    refine mgr_ge 6 0 (fun _ => false) (mbs x) f (fun i _ hi hA => ?_)
    obtain ⟨a1, a2, a3, a4⟩ := H i (by omega) (of_decide_eq_true hA)
    exact ⟨by omega, a3, rfl, fun j j1 j2 hj => a4 j (by omega) (by omega) (of_decide_eq_true hj)⟩
  · obtain ⟨A, f, H, es⟩ := mgr_at (D := D) 6 0 (fun _ => false)
    have bit : ∀ i, i < 6 → (mst A 6 / 2 ^ i % 2 = 1 ↔ A i = true) := fun i hi => by
      rw [mst_b 6 i hi]
      by_cases c : A i = true
      · rw [if_pos c]
        exact ⟨fun _ => c, fun _ => rfl⟩
      · rw [if_neg c]
        exact ⟨fun q => absurd q (by decide), fun q => absurd q c⟩
    have x64 : mst A 6 < 64 := mst_lt 6
    refine ⟨mst A 6, mat_mdp (f := f) (30 - t) (mst A 6) x64 (fun i hi hb => ?_), x64, ?_⟩
    · have hA := (bit i hi).mp hb
      obtain ⟨a1, a2, a3, a4⟩ := H i (Nat.zero_le i) (by omega) hA
      obtain ⟨b1, b2⟩ := hD i (f i) a2
      refine ⟨b1, by omega, a2, fun j hj ne bj => ?_⟩
      have hB := (bit j hj).mp bj
      by_cases c : i < j
      · exact a4 j c (by omega) hB
      · obtain ⟨-, -, -, c4⟩ := H j (Nat.zero_le j) (by omega) hB
        exact fun q => c4 i (by omega) (by omega) hA q.symm
    · rw [← es]
      refine msz_e2 6 0 (fun i _ hi => ?_)
      show decide (mst A 6 / 2 ^ i % 2 = 1) = A i
      by_cases c : A i = true
      · rw [c]
        exact decide_eq_true ((bit i (by omega)).mpr c)
      · have : A i = false := by
          cases q : A i with
          | false => rfl
          | true => exact absurd q c
        rw [this]
        exact decide_eq_false (fun q => c ((bit i (by omega)).mp q))
end
