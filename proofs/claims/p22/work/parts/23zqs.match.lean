/-! The greatest matching, pure: houses, and days. -/
section
variable {p q U A : Nat → Bool} {D : Nat → Nat → Bool} {f g : Nat → Nat} {m h n r d k t x y : Nat}
def mcn (p : Nat → Bool) : Nat → Nat
  | 0 => 0
  | n + 1 => mcn p n + (if p n = true then 1 else 0)
theorem mcn_or : ∀ n, mcn (fun d => p d || q d) n ≤ mcn p n + mcn q n := by
  intro n
  induction n with
  | zero => exact Nat.le_refl 0
  | succ n ih =>
    show mcn (fun d => p d || q d) n + (if (p n || q n) = true then 1 else 0) ≤ mcn p n + (if p n = true then 1 else 0) + (mcn q n + (if q n = true then 1 else 0))
    cases p n <;> cases q n <;> simp <;> omega
theorem mcn_le (hpq : ∀ d, p d = true → q d = true) : ∀ n, mcn p n ≤ mcn q n := by
  intro n
  induction n with
  | zero => exact Nat.le_refl 0
  | succ n ih =>
    show mcn p n + (if p n = true then 1 else 0) ≤ mcn q n + (if q n = true then 1 else 0)
    by_cases e : p n = true
    · rw [if_pos e, if_pos (hpq n e)]
      omega
    · rw [if_neg e]
      omega
theorem mcn_one (x : Nat) : ∀ n, mcn (fun d => decide (d = x)) n ≤ (if x < n then 1 else 0) := by
  intro n
  induction n with
  | zero => exact Nat.zero_le _
  | succ n ih =>
    show mcn (fun d => decide (d = x)) n + (if decide (n = x) = true then 1 else 0) ≤ (if x < n + 1 then 1 else 0)
    by_cases e : n = x
    · rw [if_pos (decide_eq_true e), if_pos (by omega)]
      rw [if_neg (by omega)] at ih
      omega
    · rw [if_neg (fun c => e (of_decide_eq_true c))]
      by_cases c : x < n
      · rw [if_pos c] at ih
        rw [if_pos (by omega)]
        omega
      · rw [if_neg c] at ih
        omega
theorem mcn_ex : ∀ n, 0 < mcn p n → ∃ d, d < n ∧ p d = true := by
  intro n
  induction n with
  | zero => intro h0; exact absurd h0 (Nat.lt_irrefl 0)
  | succ n ih =>
    intro h0
    by_cases e : p n = true
    · exact ⟨n, by omega, e⟩
    · have h1 : 0 < mcn p n + (if p n = true then 1 else 0) := h0
      rw [if_neg e] at h1
      obtain ⟨d, h2, h3⟩ := ih h1
      exact ⟨d, by omega, h3⟩
/-- how many houses are taken, of m from h on -/
def msz (A : Nat → Bool) : Nat → Nat → Nat
  | 0, _ => 0
  | m + 1, h => (if A h = true then 1 else 0) + msz A m (h + 1)
theorem msz_eq {A' : Nat → Bool} : ∀ m h, (∀ i, h ≤ i → A' i = A i) → msz A' m h = msz A m h := by
  intro m
  induction m with
  | zero => intro h _; rfl
  | succ m ih =>
    intro h e
    show (if A' h = true then 1 else 0) + msz A' m (h + 1) = (if A h = true then 1 else 0) + msz A m (h + 1)
    rw [e h (Nat.le_refl h), ih (h + 1) (fun i hi => e i (by omega))]
theorem msz_le : ∀ m h, msz A m h ≤ m := by
  intro m
  induction m with
  | zero => intro h; exact Nat.le_refl 0
  | succ m ih =>
    intro h
    have := ih (h + 1)
    show (if A h = true then 1 else 0) + msz A m (h + 1) ≤ m + 1
    split <;> omega
/-- houses that are taken have days of their own, none of U -/
def mok (D : Nat → Nat → Bool) (U A : Nat → Bool) (f : Nat → Nat) (m h : Nat) : Prop := ∀ i, h ≤ i → i < h + m → A i = true → f i < 30 ∧ D i (f i) = true ∧ U (f i) = false ∧ ∀ j, i < j → j < h + m → A j = true → f j ≠ f i
def mup (U : Nat → Bool) (d : Nat) : Nat → Bool := fun x => U x || decide (x = d)
/-- the greatest of: r, and what the days give -/
def mfd (g : Nat → Nat) (p : Nat → Bool) : Nat → Nat → Nat
  | 0, r => r
  | n + 1, r => max (mfd g p n r) (if p n = true then 1 + g n else 0)
theorem mfd_r : ∀ n, r ≤ mfd g p n r := by
  intro n
  induction n with
  | zero => exact Nat.le_refl r
  | succ n ih => exact Nat.le_trans ih (Nat.le_max_left _ _)
theorem mfd_d (hp : p d = true) : ∀ n, d < n → 1 + g d ≤ mfd g p n r := by
  intro n
  induction n with
  | zero => intro h0; omega
  | succ n ih =>
    intro h0
    show 1 + g d ≤ max (mfd g p n r) (if p n = true then 1 + g n else 0)
    by_cases e : d = n
    · subst e
      rw [if_pos hp]
      exact Nat.le_max_right _ _
    · exact Nat.le_trans (ih (by omega)) (Nat.le_max_left _ _)
theorem mfd_at : ∀ n, mfd g p n r = r ∨ ∃ d, d < n ∧ p d = true ∧ mfd g p n r = 1 + g d := by
  intro n
  induction n with
  | zero => exact Or.inl rfl
  | succ n ih =>
    have e : mfd g p (n + 1) r = max (mfd g p n r) (if p n = true then 1 + g n else 0) := rfl
    rw [e]
    by_cases c : p n = true
    · rw [if_pos c]
      by_cases w : mfd g p n r ≤ 1 + g n
      · rw [Nat.max_eq_right w]
        exact Or.inr ⟨n, by omega, c, rfl⟩
      · rw [Nat.max_eq_left (by omega)]
        rcases ih with ih | ⟨d, h1, h2, h3⟩
        · exact Or.inl ih
        · exact Or.inr ⟨d, by omega, h2, h3⟩
    · rw [if_neg c, Nat.max_eq_left (Nat.zero_le _)]
      rcases ih with ih | ⟨d, h1, h2, h3⟩
      · exact Or.inl ih
      · exact Or.inr ⟨d, by omega, h2, h3⟩
/-- the reference's way, without its short cut: m houses from h on, days U are gone -/
def mgr (D : Nat → Nat → Bool) : Nat → Nat → (Nat → Bool) → Nat
  | 0, _, _ => 0
  | m + 1, h, U => mfd (fun d => mgr D m (h + 1) (mup U d)) (fun d => D h d && !U d) 30 (mgr D m (h + 1) U)
theorem mgr_ge : ∀ (m h : Nat) (U A : Nat → Bool) (f : Nat → Nat), mok D U A f m h → msz A m h ≤ mgr D m h U := by
  intro m
  induction m with
  | zero => intro h U A f _; exact Nat.le_refl 0
  | succ m ih =>
    intro h U A f H
    show (if A h = true then 1 else 0) + msz A m (h + 1) ≤ mfd (fun d => mgr D m (h + 1) (mup U d)) (fun d => D h d && !U d) 30 (mgr D m (h + 1) U)
    by_cases e : A h = true
    · rw [if_pos e]
      obtain ⟨f30, hD, hU, dist⟩ := H h (Nat.le_refl h) (by omega) e
      have g := ih (h + 1) (mup U (f h)) A f (fun i h1 h2 hA => by
        obtain ⟨a1, a2, a3, a4⟩ := H i (by omega) (by omega) hA
        have ne := dist i (by omega) (by omega) hA
        refine ⟨a1, a2, ?_, fun j j1 j2 => a4 j j1 (by omega)⟩
        show (U (f i) || decide (f i = f h)) = false
        rw [a3, decide_eq_false ne]
        rfl)
      have hp : (D h (f h) && !U (f h)) = true := by rw [hD, hU]; rfl
      have := mfd_d (g := fun d => mgr D m (h + 1) (mup U d)) (p := fun d => D h d && !U d) (r := mgr D m (h + 1) U) hp 30 f30
      exact Nat.le_trans (Nat.add_le_add_left g 1) this
    · rw [if_neg e, Nat.zero_add]
      exact Nat.le_trans (ih (h + 1) U A f (fun i h1 h2 hA => by
        obtain ⟨a1, a2, a3, a4⟩ := H i (by omega) (by omega) hA
        exact ⟨a1, a2, a3, fun j j1 j2 => a4 j j1 (by omega)⟩)) (mfd_r 30)
theorem mgr_at : ∀ (m h : Nat) (U : Nat → Bool), ∃ (A : Nat → Bool) (f : Nat → Nat), mok D U A f m h ∧ msz A m h = mgr D m h U := by
  intro m
  induction m with
  | zero => intro h U; exact ⟨fun _ => false, fun _ => 0, fun i h1 h2 _ => by omega, rfl⟩
  | succ m ih =>
    intro h U
    have e : mgr D (m + 1) h U = mfd (fun d => mgr D m (h + 1) (mup U d)) (fun d => D h d && !U d) 30 (mgr D m (h + 1) U) := rfl
    rcases mfd_at (g := fun d => mgr D m (h + 1) (mup U d)) (p := fun d => D h d && !U d) (r := mgr D m (h + 1) U) 30 with e1 | ⟨d, d30, hp, e1⟩
    · obtain ⟨A, f, H, es⟩ := ih (h + 1) U
      refine ⟨fun i => if i = h then false else A i, f, fun i h1 h2 hA => ?_, ?_⟩
      · have hA : (if i = h then false else A i) = true := hA
        by_cases c : i = h
        · rw [if_pos c] at hA
          exact absurd hA (by decide)
        · rw [if_neg c] at hA
          obtain ⟨a1, a2, a3, a4⟩ := H i (by omega) (by omega) hA
          refine ⟨a1, a2, a3, fun j j1 j2 hj => ?_⟩
          have hj : (if j = h then false else A j) = true := hj
          rw [if_neg (by omega)] at hj
          exact a4 j j1 (by omega) hj
      · show (if (if h = h then false else A h) = true then 1 else 0) + msz (fun i => if i = h then false else A i) m (h + 1) = _
        rw [if_pos rfl, if_neg (by decide), Nat.zero_add, msz_eq (A := A) m (h + 1) (fun i hi => if_neg (by omega)), es, e, e1]
    · obtain ⟨A, f, H, es⟩ := ih (h + 1) (mup U d)
      have hp : (D h d && !U d) = true := hp
      have hD : D h d = true := by
        cases c : D h d with
        | true => rfl
        | false => rw [c] at hp; exact absurd hp (by simp)
      have hU : U d = false := by
        cases c : U d with
        | false => rfl
        | true => rw [c, hD] at hp; exact absurd hp (by simp)
      refine ⟨fun i => if i = h then true else A i, fun i => if i = h then d else f i, fun i h1 h2 hA => ?_, ?_⟩
      · have hA : (if i = h then true else A i) = true := hA
        show (if i = h then d else f i) < 30 ∧ D i (if i = h then d else f i) = true ∧ U (if i = h then d else f i) = false ∧ ∀ j, i < j → j < h + (m + 1) → (if j = h then true else A j) = true → (if j = h then d else f j) ≠ (if i = h then d else f i)
        by_cases c : i = h
        · rw [if_pos c, c]
          refine ⟨d30, hD, hU, fun j j1 j2 hj => ?_⟩
          rw [if_neg (by omega)] at hj ⊢
          obtain ⟨-, -, a3, -⟩ := H j (by omega) (by omega) hj
          intro q
          have a3 : (U (f j) || decide (f j = d)) = false := a3
          rw [q, hU, decide_eq_true rfl] at a3
          exact absurd a3 (by decide)
        · rw [if_neg c] at hA
          rw [if_neg c]
          obtain ⟨a1, a2, a3, a4⟩ := H i (by omega) (by omega) hA
          have a3 : (U (f i) || decide (f i = d)) = false := a3
          refine ⟨a1, a2, ?_, fun j j1 j2 hj => ?_⟩
          · cases cc : U (f i) with
            | false => rfl
            | true => rw [cc] at a3; exact absurd a3 (by simp)
          · rw [if_neg (by omega)] at hj ⊢
            exact a4 j j1 (by omega) hj
      · show (if (if h = h then true else A h) = true then 1 else 0) + msz (fun i => if i = h then true else A i) m (h + 1) = _
        rw [if_pos rfl, if_pos rfl, msz_eq (A := A) m (h + 1) (fun i hi => if_neg (by omega)), es, e, e1]
/-- days that houses take, from h on -/
def mtk (A : Nat → Bool) (f : Nat → Nat) : Nat → Nat → Nat → Bool
  | 0, _, _ => false
  | m + 1, h, d => (A h && decide (d = f h)) || mtk A f m (h + 1) d
theorem mtk_c : ∀ m h, mcn (mtk A f m h) 30 ≤ m := by
  intro m
  induction m with
  | zero =>
    intro h
    have : ∀ n, mcn (mtk A f 0 h) n = 0 := by
      intro n
      induction n with
      | zero => rfl
      | succ n ih => show mcn (mtk A f 0 h) n + (if false = true then 1 else 0) = 0; rw [ih]; rfl
    rw [this]
    exact Nat.le_refl 0
  | succ m ih =>
    intro h
    have g := ih (h + 1)
    have o := mcn_or (p := fun d => A h && decide (d = f h)) (q := mtk A f m (h + 1)) 30
    have w := mcn_le (p := fun d => A h && decide (d = f h)) (q := fun d => decide (d = f h)) (fun d e => by
      cases c : A h with
      | true => rw [c] at e; exact e
      | false => rw [c] at e; exact absurd e (by simp)) 30
    have v := mcn_one (f h) 30
    have v2 : (if f h < 30 then 1 else 0) ≤ 1 := by split <;> omega
    have o : mcn (mtk A f (m + 1) h) 30 ≤ mcn (fun d => A h && decide (d = f h)) 30 + mcn (mtk A f m (h + 1)) 30 := o
    omega
theorem mtk_no : ∀ m h i, h ≤ i → i < h + m → A i = true → mtk A f m h d = false → f i ≠ d := by
  intro m
  induction m with
  | zero => intro h i h1 h2; omega
  | succ m ih =>
    intro h i h1 h2 hA hn q
    have hn : ((A h && decide (d = f h)) || mtk A f m (h + 1) d) = false := hn
    by_cases c : i = h
    · rw [c] at hA q
      rw [hA, decide_eq_true q.symm] at hn
      exact absurd hn (by simp)
    · have : mtk A f m (h + 1) d = false := by
        cases cc : mtk A f m (h + 1) d with
        | false => rfl
        | true => rw [cc] at hn; exact absurd hn (by simp)
      exact ih (h + 1) i (by omega) (by omega) hA this q
/-- the short cut: a house of many days is always taken -/
theorem mgr_cut (hc : 6 < mcn (D h) 30) (hU : mcn U 30 + m ≤ 6) : mgr D (m + 1) h U = 1 + mgr D m (h + 1) U := by
  apply Nat.le_antisymm
  · obtain ⟨A, f, H, es⟩ := mgr_at (D := D) (m + 1) h U
    rw [← es]
    have g := mgr_ge (D := D) m (h + 1) U A f (fun i h1 h2 hA => by
      obtain ⟨a1, a2, a3, a4⟩ := H i (by omega) (by omega) hA
      exact ⟨a1, a2, a3, fun j j1 j2 => a4 j j1 (by omega)⟩)
    show (if A h = true then 1 else 0) + msz A m (h + 1) ≤ _
    have : (if A h = true then 1 else 0) ≤ 1 := by split <;> omega
    omega
  · obtain ⟨A, f, H, es⟩ := mgr_at (D := D) m (h + 1) U
    have o1 := mcn_or (p := fun d => D h d && !(U d || mtk A f m (h + 1) d)) (q := fun d => U d || mtk A f m (h + 1) d) 30
    have o2 := mcn_or (p := U) (q := mtk A f m (h + 1)) 30
    have o3 := mtk_c (A := A) (f := f) m (h + 1)
    have le := mcn_le (p := D h) (q := fun d => (D h d && !(U d || mtk A f m (h + 1) d)) || (U d || mtk A f m (h + 1) d)) (fun d e => by
      show ((D h d && !(U d || mtk A f m (h + 1) d)) || (U d || mtk A f m (h + 1) d)) = true
      rw [e]
      cases U d <;> cases mtk A f m (h + 1) d <;> rfl) 30
    obtain ⟨d, d30, hd⟩ := mcn_ex (p := fun d => D h d && !(U d || mtk A f m (h + 1) d)) 30 (by omega)
    have hd : (D h d && !(U d || mtk A f m (h + 1) d)) = true := hd
    have hD : D h d = true := by
      cases c : D h d with
      | true => rfl
      | false => rw [c] at hd; exact absurd hd (by simp)
    have hu : U d = false := by
      cases c : U d with
      | false => rfl
      | true => rw [c, hD] at hd; exact absurd hd (by simp)
    have ht : mtk A f m (h + 1) d = false := by
      cases c : mtk A f m (h + 1) d with
      | false => rfl
      | true => rw [c, hD, hu] at hd; exact absurd hd (by simp)
    have g := mgr_ge (D := D) m (h + 1) (mup U d) A f (fun i h1 h2 hA => by
      obtain ⟨a1, a2, a3, a4⟩ := H i h1 h2 hA
      refine ⟨a1, a2, ?_, a4⟩
      show (U (f i) || decide (f i = d)) = false
      rw [a3, decide_eq_false (mtk_no m (h + 1) i h1 h2 hA ht)]
      rfl)
    rw [es] at g
    have hp : (D h d && !U d) = true := by rw [hD, hu]; rfl
    have := mfd_d (g := fun d => mgr D m (h + 1) (mup U d)) (p := fun d => D h d && !U d) (r := mgr D m (h + 1) U) hp 30 d30
    exact Nat.le_trans (Nat.add_le_add_left g 1) this
end
