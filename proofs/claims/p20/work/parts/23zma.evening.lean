/-! An evening: the ways of one engine, as a pure search. -/
section
/-- fewest lost (7: none yet), the sum, the way -/
abbrev vn_S : Type := Int × Int × List Int
def vn_ab (x : Int) : Int := if x < 0 then -x else x
def vn_dr (a b : Int) : Int := (vn_ab (Int.tmod a 12 - Int.tmod b 12) + vn_ab (Int.tdiv a 12 - Int.tdiv b 12) + 3) / 4
def vn_late (c d : Int) : Int := if d < c then 1 else 0
def vn_from (f : Nat → vn_S → vn_S) : Nat → Nat → vn_S → vn_S
  | 0, _, st => st
  | m + 1, h, st => vn_from f m (h + 1) (f h st)
/-- C: cells, D: wood -/
def vn_go (C D : Nat → Int) : Nat → Nat → Int → Int → Int → Int → List Int → vn_S → vn_S
  | 0, _, _, _, q, s, w, st => if q < st.1 then (q, s, w) else st
  | n + 1, l, p, u, q, s, w, st => vn_from (fun h st => if l.testBit h = true then vn_go C D n (l - 2 ^ h) (C h) (u + vn_dr p (C h) + 1) (q + vn_late (u + vn_dr p (C h)) (D h)) (s + (u + vn_dr p (C h))) (w ++ [(h : Int)]) st else st) 6 0 st
def vn_f (C D : Nat → Int) (n left : Nat) (cell hour lost hours : Int) (way : List Int) (h : Nat) (st : vn_S) : vn_S := if left.testBit h = true then vn_go C D n (left - 2 ^ h) (C h) (hour + vn_dr cell (C h) + 1) (lost + vn_late (hour + vn_dr cell (C h)) (D h)) (hours + (hour + vn_dr cell (C h))) (way ++ [(h : Int)]) st else st
variable {C D : Nat → Int} {n left : Nat} {cell hour lost hours : Int} {way : List Int} {st : vn_S}
theorem vn_go_s : vn_go C D (n + 1) left cell hour lost hours way st = vn_from (vn_f C D n left cell hour lost hours way) 6 0 st := rfl
theorem vn_go_0 : vn_go C D 0 left cell hour lost hours way st = if lost < st.1 then (lost, hours, way) else st := rfl
theorem vn_late_r (c d : Int) : 0 ≤ vn_late c d ∧ vn_late c d ≤ 1 := by
  unfold vn_late
  split <;> decide
theorem vn_from_id {f : Nat → vn_S → vn_S} (h : ∀ i, f i st = st) : ∀ m i, vn_from f m i st = st := by
  intro m
  induction m with
  | zero => intro i; rfl
  | succ m ih =>
    intro i
    show vn_from f m (i + 1) (f i st) = st
    rw [h i]
    exact ih (i + 1)
/-- as many are lost already: nothing is found -/
theorem vn_prune : ∀ (n left : Nat) (cell hour lost hours : Int) (way : List Int) (st : vn_S), st.1 ≤ lost → vn_go C D n left cell hour lost hours way st = st := by
  intro n
  induction n with
  | zero =>
    intro left cell hour lost hours way st h
    rw [vn_go_0, if_neg (by omega)]
  | succ n ih =>
    intro left cell hour lost hours way st h
    rw [vn_go_s]
    refine vn_from_id (fun i => ?_) 6 0
    unfold vn_f
    by_cases c : left.testBit i = true
    · rw [if_pos c]
      have := (vn_late_r (hour + vn_dr cell (C i)) (D i)).1
      exact ih _ _ _ _ _ _ _ (by omega)
    · rw [if_neg c]
theorem vn_from_le {f : Nat → vn_S → vn_S} (h : ∀ i st, (f i st).1 ≤ st.1) : ∀ m i st, (vn_from f m i st).1 ≤ st.1 := by
  intro m
  induction m with
  | zero => intro i st; exact Int.le_refl _
  | succ m ih => intro i st; exact Int.le_trans (ih (i + 1) (f i st)) (h i st)
theorem vn_le : ∀ (n left : Nat) (cell hour lost hours : Int) (way : List Int) (st : vn_S), (vn_go C D n left cell hour lost hours way st).1 ≤ st.1 := by
  intro n
  induction n with
  | zero =>
    intro left cell hour lost hours way st
    rw [vn_go_0]
    split
    · show lost ≤ st.1
      omega
    · exact Int.le_refl _
  | succ n ih =>
    intro left cell hour lost hours way st
    rw [vn_go_s]
    refine vn_from_le (fun i st => ?_) 6 0 st
    unfold vn_f
    split
    · exact ih _ _ _ _ _ _ _
    · exact Int.le_refl _
theorem vn_f_le (h : Nat) : (vn_f C D n left cell hour lost hours way h st).1 ≤ st.1 := by
  unfold vn_f
  split
  · exact vn_le _ _ _ _ _ _ _ _
  · exact Int.le_refl _
theorem vn_from_ge {f : Nat → vn_S → vn_S} (h : ∀ i st, 0 ≤ st.1 → 0 ≤ (f i st).1) : ∀ m i st, 0 ≤ st.1 → 0 ≤ (vn_from f m i st).1 := by
  intro m
  induction m with
  | zero => intro i st h0; exact h0
  | succ m ih => intro i st h0; exact ih (i + 1) (f i st) (h i st h0)
theorem vn_ge : ∀ (n left : Nat) (cell hour lost hours : Int) (way : List Int) (st : vn_S), 0 ≤ lost → 0 ≤ st.1 → 0 ≤ (vn_go C D n left cell hour lost hours way st).1 := by
  intro n
  induction n with
  | zero =>
    intro left cell hour lost hours way st h1 h2
    rw [vn_go_0]
    split
    · exact h1
    · exact h2
  | succ n ih =>
    intro left cell hour lost hours way st h1 h2
    rw [vn_go_s]
    refine vn_from_ge (fun i st h => ?_) 6 0 st h2
    unfold vn_f
    split
    · have := (vn_late_r (hour + vn_dr cell (C i)) (D i)).1
      exact ih _ _ _ _ _ _ _ (by omega) h
    · exact h
theorem vn_f_ge (h : Nat) (h1 : 0 ≤ lost) (h2 : 0 ≤ st.1) : 0 ≤ (vn_f C D n left cell hour lost hours way h st).1 := by
  unfold vn_f
  split
  · have := (vn_late_r (hour + vn_dr cell (C h)) (D h)).1
    exact vn_ge _ _ _ _ _ _ _ _ (by omega) h2
  · exact h2
theorem vn_from_bd {f : Nat → vn_S → vn_S} {j : Nat} {c : Int} (hle : ∀ i st, (f i st).1 ≤ st.1) (hj : ∀ st, (f j st).1 ≤ c) : ∀ m i st, i ≤ j → j < i + m → (vn_from f m i st).1 ≤ c := by
  intro m
  induction m with
  | zero => intro i st h1 h2; omega
  | succ m ih =>
    intro i st h1 h2
    show (vn_from f m (i + 1) (f i st)).1 ≤ c
    by_cases e : i = j
    · subst e
      exact Int.le_trans (vn_from_le hle m (i + 1) (f i st)) (hj st)
    · exact ih (i + 1) (f i st) (by omega) (by omega)
def vn_pc (l : Nat) : Nat := (List.range 6).countP fun h => l.testBit h
theorem vn_pcs : ((List.range 64).all fun l => sx_an (bif Nat.beq l 0 then Nat.beq (vn_pc l) 0 else (List.range 6).any fun h => l.testBit h) ((List.range 6).all fun h => bif l.testBit h then sx_an (Nat.beq (vn_pc (l - 2 ^ h) + 1) (vn_pc l)) (Nat.ble (2 ^ h) l) else true)) = true := by decide +kernel
theorem vn_pc0 (hl : left < 64) : (left = 0 → vn_pc left = 0) ∧ (left ≠ 0 → ∃ h, h < 6 ∧ left.testBit h = true) := by
  obtain ⟨h1, -⟩ := sx_an_iff.mp (List.all_eq_true.mp vn_pcs left (List.mem_range.mpr hl))
  refine ⟨fun e => by subst e; rfl, fun e => ?_⟩
  cases c : Nat.beq left 0 with
  | true => exact absurd (sx_nbeq.mp c) e
  | false =>
    rw [c] at h1
    obtain ⟨h, hh, h2⟩ := List.any_eq_true.mp (show ((List.range 6).any fun h => left.testBit h) = true from h1)
    exact ⟨h, List.mem_range.mp hh, h2⟩
theorem vn_pc1 (hl : left < 64) {h : Nat} (hh : h < 6) (hb : left.testBit h = true) : vn_pc (left - 2 ^ h) + 1 = vn_pc left ∧ 2 ^ h ≤ left := by
  obtain ⟨-, h2⟩ := sx_an_iff.mp (List.all_eq_true.mp vn_pcs left (List.mem_range.mpr hl))
  have h3 := List.all_eq_true.mp h2 h (List.mem_range.mpr hh)
  rw [hb] at h3
  obtain ⟨h3, h4⟩ := sx_an_iff.mp h3
  exact ⟨sx_nbeq.mp h3, Nat.le_of_ble_eq_true h4⟩
theorem vn_pc6 (hl : left < 64) : vn_pc left ≤ 6 := by
  have : ((List.range 64).all fun l => Nat.ble (vn_pc l) 6) = true := by decide +kernel
  exact Nat.le_of_ble_eq_true (List.all_eq_true.mp this left (List.mem_range.mpr hl))
/-- a way is found -/
theorem vn_bd : ∀ (n left : Nat) (cell hour lost hours : Int) (way : List Int) (st : vn_S), left < 64 → vn_pc left = n → (vn_go C D n left cell hour lost hours way st).1 ≤ lost + (n : Int) := by
  intro n
  induction n with
  | zero =>
    intro left cell hour lost hours way st _ _
    rw [vn_go_0]
    split
    · show lost ≤ _
      omega
    · omega
  | succ n ih =>
    intro left cell hour lost hours way st hl hp
    obtain ⟨h, hh, hb⟩ := (vn_pc0 hl).2 (fun e => by
      have := (vn_pc0 hl).1 e
      omega)
    obtain ⟨h1, h2⟩ := vn_pc1 hl hh hb
    rw [vn_go_s]
    refine vn_from_bd (j := h) (fun i st => vn_f_le i) (fun st => ?_) 6 0 st (Nat.zero_le _) (by omega)
    unfold vn_f
    rw [if_pos hb]
    have a := (vn_late_r (hour + vn_dr cell (C h)) (D h)).2
    have b := ih (left - 2 ^ h) (C h) (hour + vn_dr cell (C h) + 1) (lost + vn_late (hour + vn_dr cell (C h)) (D h)) (hours + (hour + vn_dr cell (C h))) (way ++ [(h : Int)]) st (by have := Nat.sub_le left (2 ^ h); omega) (by omega)
    omega
end
