/-! A text, sign by sign, as the class takes it: a pure machine; what it does between two places. -/
section
/-- steps that are laid; signs that wait, the latest first; open; brackets; digits; where the number lies; the jump; whether an operand is due -/
abbrev yk_S : Type := List Int × List Int × Int × Int × Int × Int × Int × Bool
def yk_rank (z : Int) : Int := if z = 124 then 1 else if z = 38 then 2 else if z = 60 ∨ z = 61 ∨ z = 62 then 3 else if z = 43 ∨ z = 45 then 4 else if z = 42 ∨ z = 47 ∨ z = 37 then 5 else 0
def yk_name (z : Int) : Int := if z = 99 then 0 else if z = 102 then 1 else if z = 100 then 2 else if z = 114 then 3 else if z = 104 then 4 else if z = 110 then 5 else -1
def yk_ge (r p : Int) : Bool := decide (r ≤ yk_rank p)
def yk_px (p : Int) : Bool := decide (p = 33 ∨ p = 126)
def yk_ng (x : Int) : Int := -x
/-- settle: what is laid then, what waits then -/
def yk_sd (r : Int) (D P : List Int) : List Int := D ++ (P.takeWhile (yk_ge r)).map yk_ng
def yk_sp (r : Int) (P : List Int) : List Int := P.dropWhile (yk_ge r)
/-- behind an operand -/
def yk_fd (D P : List Int) : List Int := D ++ (P.takeWhile yk_px).map yk_ng
def yk_fp (P : List Int) : List Int := P.dropWhile yk_px
def yk_fo (P : List Int) (o : Int) : Int := o - ((P.takeWhile yk_px).length : Int)
def yk_oper (D P : List Int) (o b g n j z : Int) : Option yk_S :=
  if z = 40 ∨ z = 33 ∨ z = 45 then (if 6 ≤ o then none else some (D, (if z = 45 then 126 else z) :: P, o + 1, (if z = 40 then b + 1 else b), g, n, j, true))
  else if 48 ≤ z ∧ z ≤ 57 then some (yk_fd (D ++ [z - 48]) P, yk_fp P, yk_fo P o, b, 1, (D.length : Int), j, false)
  else if yk_name z = -1 then none
  else some (yk_fd (D ++ [-1000 - yk_name z]) P, yk_fp P, yk_fo P o, b, g, n, j, false)
def yk_digit (D P : List Int) (o b g n j z : Int) : Option yk_S :=
  if g = 0 ∨ 4 ≤ g then none else some (D.set n.toNat (D.getD n.toNat 0 * 10 + (z - 48)), P, o, b, g + 1, n, j, false)
def yk_close (D P : List Int) (o b n j : Int) : Option yk_S :=
  if b = 0 then none else some (yk_fd (yk_sd 1 D P) (yk_sp 1 P).tail, yk_fp (yk_sp 1 P).tail, yk_fo (yk_sp 1 P).tail (o - 1), b - 1, 0, n, j, false)
def yk_cond (D P : List Int) (o b n j : Int) : Option yk_S :=
  if 0 < b ∨ j ≠ -1 then none else some (yk_sd 1 D P ++ [-63] ++ [0], yk_sp 1 P, o, b, 0, n, ((yk_sd 1 D P).length : Int) + 1, true)
def yk_el (D P : List Int) (j : Int) : List Int := if j = -1 then yk_sd 1 D P ++ [-59] else (yk_sd 1 D P ++ [-59]).set j.toNat (((yk_sd 1 D P).length : Int) + 1)
def yk_next (D P : List Int) (o b n j : Int) : Option yk_S :=
  if 0 < b then none else some (yk_el D P j, yk_sp 1 P, o, b, 0, n, -1, true)
def yk_c3 (P : List Int) : Bool := match P with
  | [] => false
  | p :: _ => decide (yk_rank p = 3)
def yk_rs (z : Int) : Int := if yk_rank z = 3 then 4 else yk_rank z
def yk_op (D P : List Int) (o b n j z : Int) : Option yk_S :=
  if yk_rank z = 0 then none
  else if yk_rank z = 3 ∧ yk_c3 (yk_sp (yk_rs z) P) = true then none
  else some (yk_sd (yk_rs z) D P, z :: yk_sp (yk_rs z) P, o, b, 0, n, j, true)
def yk_go (s : yk_S) (z : Int) : Option yk_S := match s with
  | (D, P, o, b, g, n, j, true) => yk_oper D P o b g n j z
  | (D, P, o, b, g, n, j, false) => if 48 ≤ z ∧ z ≤ 57 then yk_digit D P o b g n j z else if z = 41 then yk_close D P o b n j else if z = 63 then yk_cond D P o b n j else if z = 59 then yk_next D P o b n j else yk_op D P o b n j z
/-- from place a on, c signs -/
def yk_run (T : Nat → Int) : Nat → Nat → yk_S → Option yk_S
  | _, 0, s => some s
  | a, c + 1, s => match yk_go s (T a) with
    | some u => yk_run T (a + 1) c u
    | none => none
theorem yk_run_add (T : Nat → Int) : ∀ (c d a : Nat) (s u : yk_S), yk_run T a c s = some u → yk_run T a (c + d) s = yk_run T (a + c) d u := by
  intro c
  induction c with
  | zero =>
    intro d a s u h
    have h : some s = some u := h
    cases h
    rw [Nat.zero_add, Nat.add_zero]
  | succ c ih =>
    intro d a s u h
    rw [show c + 1 + d = (c + d) + 1 by omega]
    have h : (match yk_go s (T a) with
      | some v => yk_run T (a + 1) c v
      | none => none) = some u := h
    show (match yk_go s (T a) with
      | some v => yk_run T (a + 1) (c + d) v
      | none => none) = _
    cases e : yk_go s (T a) with
    | none => rw [e] at h; cases h
    | some v =>
      rw [e] at h
      show yk_run T (a + 1) (c + d) v = _
      rw [ih d (a + 1) v u h, show a + 1 + c = a + (c + 1) by omega]
theorem yk_run_one {T : Nat → Int} {a : Nat} {s u : yk_S} (h : yk_go s (T a) = some u) : yk_run T a 1 s = some u := by
  show (match yk_go s (T a) with
    | some v => yk_run T (a + 1) 0 v
    | none => none) = _
  rw [h]
  rfl
theorem yk_run_cat {T : Nat → Int} {a b c : Nat} {s u v : yk_S} (hab : a ≤ b) (hbc : b ≤ c) (h1 : yk_run T a (b - a) s = some u) (h2 : yk_run T b (c - b) u = some v) : yk_run T a (c - a) s = some v := by
  have := yk_run_add T (b - a) (c - b) a s u h1
  rw [show b - a + (c - b) = c - a by omega, show a + (b - a) = b by omega] at this
  rw [this, h2]
theorem yk_run_cat1 {T : Nat → Int} {a c : Nat} {s u v : yk_S} (hac : a + 1 ≤ c) (h1 : yk_go s (T a) = some u) (h2 : yk_run T (a + 1) (c - (a + 1)) u = some v) : yk_run T a (c - a) s = some v :=
  yk_run_cat (b := a + 1) (by omega) hac (by rw [show a + 1 - a = 1 by omega]; exact yk_run_one h1) h2
theorem yk_run_snoc {T : Nat → Int} {a b : Nat} {s u v : yk_S} (hab : a ≤ b) (h1 : yk_run T a (b - a) s = some u) (h2 : yk_go u (T b) = some v) : yk_run T a (b + 1 - a) s = some v :=
  yk_run_cat (c := b + 1) hab (by omega) h1 (by rw [show b + 1 - b = 1 by omega]; exact yk_run_one h2)
-- signs
theorem yk_rank_r (z : Int) : 0 ≤ yk_rank z ∧ yk_rank z ≤ 5 := by
  unfold yk_rank
  repeat' split
  all_goals omega
theorem yk_rank_ne {z : Int} (h : yk_rank z ≠ 0) : ¬ (48 ≤ z ∧ z ≤ 57) ∧ z ≠ 41 ∧ z ≠ 63 ∧ z ≠ 59 ∧ z ≠ 33 ∧ z ≠ 126 ∧ z ≠ 40 := by
  have hh : z = 124 ∨ z = 38 ∨ z = 60 ∨ z = 61 ∨ z = 62 ∨ z = 43 ∨ z = 45 ∨ z = 42 ∨ z = 47 ∨ z = 37 := by
    unfold yk_rank at h
    by_cases c1 : z = 124
    · omega
    · rw [if_neg c1] at h
      by_cases c2 : z = 38
      · omega
      · rw [if_neg c2] at h
        by_cases c3 : z = 60 ∨ z = 61 ∨ z = 62
        · omega
        · rw [if_neg c3] at h
          by_cases c4 : z = 43 ∨ z = 45
          · omega
          · rw [if_neg c4] at h
            by_cases c5 : z = 42 ∨ z = 47 ∨ z = 37
            · omega
            · rw [if_neg c5] at h
              omega
  omega
theorem yk_rank0 {z : Int} (h : z = 33 ∨ z = 126 ∨ z = 40) : yk_rank z = 0 := by
  rcases h with rfl | rfl | rfl <;> rfl
theorem yk_ge_iff {r p : Int} : yk_ge r p = true ↔ r ≤ yk_rank p := decide_eq_true_iff
theorem yk_px_iff {p : Int} : yk_px p = true ↔ (p = 33 ∨ p = 126) := decide_eq_true_iff
/-- what waits below is of another kind -/
def yk_top (k : Int) (P : List Int) : Prop := ∀ p, P.head? = some p → yk_rank p < k ∧ p ≠ 33 ∧ p ≠ 126
theorem yk_top_le {k m : Int} {P : List Int} (h : yk_top k P) (hk : k ≤ m) : yk_top m P := fun p hp => ⟨by have := (h p hp).1; omega, (h p hp).2⟩
theorem yk_top_nil (k : Int) : yk_top k [] := fun p hp => by cases hp
theorem yk_top_cons {k p : Int} {P : List Int} (h1 : yk_rank p < k) (h2 : p ≠ 33) (h3 : p ≠ 126) : yk_top k (p :: P) := fun q hq => by
  have hq : some p = some q := hq
  cases hq
  exact ⟨h1, h2, h3⟩
theorem yk_take_app {f : Int → Bool} {Q P : List Int} (hQ : ∀ q ∈ Q, f q = true) (hP : ∀ p, P.head? = some p → f p = false) : (Q ++ P).takeWhile f = Q ∧ (Q ++ P).dropWhile f = P := by
  induction Q with
  | nil =>
    cases P with
    | nil => exact ⟨rfl, rfl⟩
    | cons p P =>
      have := hP p rfl
      refine ⟨?_, ?_⟩
      · show (p :: P).takeWhile f = []
        rw [List.takeWhile_cons, this]
        rfl
      · show (p :: P).dropWhile f = p :: P
        rw [List.dropWhile_cons, this]
        rfl
  | cons q Q ih =>
    have h1 := hQ q List.mem_cons_self
    obtain ⟨i1, i2⟩ := ih (fun x hx => hQ x (List.mem_cons_of_mem _ hx))
    refine ⟨?_, ?_⟩
    · show (q :: (Q ++ P)).takeWhile f = _
      rw [List.takeWhile_cons, h1, if_pos rfl, i1]
    · show (q :: (Q ++ P)).dropWhile f = _
      rw [List.dropWhile_cons, h1, if_pos rfl, i2]
theorem yk_top_ge {k r : Int} {P : List Int} (h : yk_top k P) (hr : k ≤ r) : ∀ p, P.head? = some p → yk_ge r p = false := fun p hp => by
  have := (h p hp).1
  exact decide_eq_false (by omega)
theorem yk_top_px {k : Int} {P : List Int} (h : yk_top k P) : ∀ p, P.head? = some p → yk_px p = false := fun p hp => decide_eq_false (by have := (h p hp).2; omega)
/-- settling what waits above -/
theorem yk_settle {r k : Int} {D P Q : List Int} (hQ : ∀ q ∈ Q, r ≤ yk_rank q) (hP : yk_top k P) (hk : k ≤ r) : yk_sd r D (Q ++ P) = D ++ Q.map yk_ng ∧ yk_sp r (Q ++ P) = P := by
  obtain ⟨h1, h2⟩ := yk_take_app (f := yk_ge r) (Q := Q) (P := P) (fun q hq => yk_ge_iff.mpr (hQ q hq)) (yk_top_ge hP hk)
  unfold yk_sd yk_sp
  rw [h1, h2]
  exact ⟨rfl, rfl⟩
theorem yk_fin {k : Int} {D P : List Int} {o : Int} (hP : yk_top k P) : yk_fd D P = D ∧ yk_fp P = P ∧ yk_fo P o = o := by
  obtain ⟨h1, h2⟩ := yk_take_app (f := yk_px) (Q := []) (P := P) (fun q hq => by cases hq) (yk_top_px hP)
  have h1 : P.takeWhile yk_px = [] := h1
  have h2 : P.dropWhile yk_px = P := h2
  unfold yk_fd yk_fp yk_fo
  rw [h1, h2]
  exact ⟨List.append_nil _, rfl, by show o - ((0 : Nat) : Int) = o; omega⟩
theorem yk_fin_px {D P : List Int} {p o : Int} (hp : p = 33 ∨ p = 126) : yk_fd D (p :: P) = yk_fd (D ++ [-p]) P ∧ yk_fp (p :: P) = yk_fp P ∧ yk_fo (p :: P) (o + 1) = yk_fo P o := by
  have h := yk_px_iff.mpr hp
  unfold yk_fd yk_fp yk_fo
  rw [List.takeWhile_cons, List.dropWhile_cons, h, if_pos rfl, if_pos rfl]
  refine ⟨?_, rfl, ?_⟩
  · show D ++ (-p :: _) = _
    rw [List.append_assoc]
    rfl
  · rw [List.length_cons]
    omega
/-- a comparison that waits -/
def yk_cmp (Q : List Int) : Prop := yk_c3 (Q.dropWhile (yk_ge 4)) = true
theorem yk_cmp_app {Q P : List Int} (h : yk_cmp Q) : yk_cmp (Q ++ P) ∧ yk_c3 (yk_sp 4 (Q ++ P)) = true := by
  have key : yk_c3 ((Q ++ P).dropWhile (yk_ge 4)) = true := by
    induction Q with
    | nil => cases h
    | cons q Q ih =>
      have h : yk_c3 ((q :: Q).dropWhile (yk_ge 4)) = true := h
      rw [List.dropWhile_cons] at h
      show yk_c3 ((q :: (Q ++ P)).dropWhile (yk_ge 4)) = true
      rw [List.dropWhile_cons]
      cases e : yk_ge 4 q with
      | true =>
        rw [e, if_pos rfl] at h
        rw [if_pos rfl]
        exact ih h
      | false =>
        rw [e, if_neg (by decide)] at h
        rw [if_neg (by decide)]
        exact h
  exact ⟨key, key⟩
/-- the sign z doesn't go on from here at rank m or more -/
def yk_stop (m g : Int) (Q : List Int) (z : Int) : Prop := (48 ≤ z ∧ z ≤ 57 → g = 0) ∧ (m ≤ yk_rank z → yk_rank z = 3 ∧ yk_cmp Q)
/-- from a to b a part of rank k is read, R laid; m: what stops it -/
def yk_E (T : Nat → Int) (k m ov : Int) (a b : Nat) (R : List Int) : Prop := a ≤ b ∧ ∀ (D P : List Int) (br n j : Int), yk_top k P → 0 ≤ br → ∃ D' Q g n', yk_run T a (b - a) (D, P, ov, br, 0, n, j, true) = some (D', Q ++ P, ov, br, g, n', j, false) ∧ (∀ q ∈ Q, k ≤ yk_rank q) ∧ D' ++ Q.map yk_ng = D ++ R ∧ yk_stop m g Q (T b)
/-- an operand -/
def yk_O (T : Nat → Int) (ov : Int) (a b : Nat) (R : List Int) : Prop := a ≤ b ∧ ∀ (D P : List Int) (br n j : Int), 0 ≤ br → ∃ g n', yk_run T a (b - a) (D, P, ov, br, 0, n, j, true) = some (yk_fd (D ++ R) P, yk_fp P, yk_fo P ov, br, g, n', j, false) ∧ (48 ≤ T b ∧ T b ≤ 57 → g = 0)
/-- it falls at f; N: where the text ends -/
def yk_F (T : Nat → Int) (N : Nat) (k ov : Int) (a f : Nat) : Prop := a ≤ f ∧ f ≤ N ∧ ∀ (D P : List Int) (br n j : Int), yk_top k P → 0 ≤ br → ∃ D' P' o' b' g' n' j' due, yk_run T a (f - a) (D, P, ov, br, 0, n, j, true) = some (D', P', o', b', g', n', j', due) ∧ yk_go (D', P', o', b', g', n', j', due) (T f) = none ∧ (f = N → due = true ∨ 0 < b')
def yk_G (T : Nat → Int) (N : Nat) (ov : Int) (a f : Nat) : Prop := a ≤ f ∧ f ≤ N ∧ ∀ (D P : List Int) (br n j : Int), 0 ≤ br → ∃ D' P' o' b' g' n' j' due, yk_run T a (f - a) (D, P, ov, br, 0, n, j, true) = some (D', P', o', b', g', n', j', due) ∧ yk_go (D', P', o', b', g', n', j', due) (T f) = none ∧ (f = N → due = true ∨ 0 < b')
variable {T : Nat → Int} {N a b c f : Nat} {k m ov z : Int} {R R1 R2 : List Int}
theorem yk_O_E (h : yk_O T ov a b R) (hk : k ≤ 6) : yk_E T k 6 ov a b R := by
  refine ⟨h.1, fun D P br n j hP hb => ?_⟩
  obtain ⟨g, n', h1, h2⟩ := h.2 D P br n j hb
  obtain ⟨f1, f2, f3⟩ := yk_fin (D := D ++ R) (o := ov) hP
  rw [f1, f2, f3] at h1
  exact ⟨D ++ R, [], g, n', h1, (fun q hq => by cases hq), List.append_nil _, h2, fun h9 => by have := (yk_rank_r (T b)).2; omega⟩
theorem yk_G_F (h : yk_G T N ov a f) : yk_F T N k ov a f := ⟨h.1, h.2.1, fun D P br n j _ hb => h.2.2 D P br n j hb⟩
/-- a part is one of less rank -/
theorem yk_E_up (h : yk_E T (k + 1) (k + 1) ov a b R) (hz : yk_rank (T b) ≠ k) : yk_E T k k ov a b R := by
  refine ⟨h.1, fun D P br n j hP hb => ?_⟩
  obtain ⟨D', Q, g, n', h1, h2, h3, h4, h5⟩ := h.2 D P br n j (yk_top_le hP (by omega)) hb
  exact ⟨D', Q, g, n', h1, fun q hq => by have := h2 q hq; omega, h3, h4, fun h9 => h5 (by omega)⟩
theorem yk_E_k (h : yk_E T (k + 1) m ov a b R) : yk_E T k m ov a b R := by
  refine ⟨h.1, fun D P br n j hP hb => ?_⟩
  obtain ⟨D', Q, g, n', h1, h2, h3, h4⟩ := h.2 D P br n j (yk_top_le hP (by omega)) hb
  exact ⟨D', Q, g, n', h1, fun q hq => by have := h2 q hq; omega, h3, h4⟩
theorem yk_E_dn (h : yk_E T k (k + 1) ov a b R) (hz : yk_rank (T b) ≠ k) : yk_E T k k ov a b R := by
  refine ⟨h.1, fun D P br n j hP hb => ?_⟩
  obtain ⟨D', Q, g, n', h1, h2, h3, h4, h5⟩ := h.2 D P br n j hP hb
  exact ⟨D', Q, g, n', h1, h2, h3, h4, fun h9 => h5 (by omega)⟩
theorem yk_go_op {D P : List Int} {o br g n j : Int} (hz : yk_rank z ≠ 0) : yk_go (D, P, o, br, g, n, j, false) z = yk_op D P o br n j z := by
  obtain ⟨h1, h2, h3, h4, -⟩ := yk_rank_ne hz
  show (if 48 ≤ z ∧ z ≤ 57 then _ else if z = 41 then _ else if z = 63 then _ else if z = 59 then _ else _) = _
  rw [if_neg h1, if_neg h2, if_neg h3, if_neg h4]
/-- behind a sign of rank k, not 3 -/
theorem yk_go_k {D P Q : List Int} {o br g n j : Int} (hz : yk_rank z = k) (hk : 1 ≤ k) (h3 : k ≠ 3) (hQ : ∀ q ∈ Q, k ≤ yk_rank q) (hP : yk_top k P) : yk_go (D, Q ++ P, o, br, g, n, j, false) z = some (D ++ Q.map yk_ng, z :: P, o, br, 0, n, j, true) := by
  rw [yk_go_op (by omega)]
  unfold yk_op yk_rs
  rw [if_neg (by omega), if_neg (show ¬ yk_rank z = 3 by omega), if_neg (by omega), hz]
  obtain ⟨e1, e2⟩ := yk_settle (D := D) hQ hP (Int.le_refl k)
  rw [e1, e2]
theorem yk_go_3 {D P Q : List Int} {o br g n j : Int} (hz : yk_rank z = 3) (hQ : ∀ q ∈ Q, 4 ≤ yk_rank q) (hP : yk_top 3 P) : yk_go (D, Q ++ P, o, br, g, n, j, false) z = some (D ++ Q.map yk_ng, z :: P, o, br, 0, n, j, true) := by
  rw [yk_go_op (by omega)]
  unfold yk_op yk_rs
  obtain ⟨e1, e2⟩ := yk_settle (D := D) (r := 4) (k := 3) hQ hP (by decide)
  rw [if_neg (by omega), if_pos hz, e1, e2, if_neg (fun h => ?_)]
  obtain ⟨-, h⟩ := h
  cases P with
  | nil => cases h
  | cons p P =>
    have h : decide (yk_rank p = 3) = true := h
    have h := of_decide_eq_true h
    have := (hP p rfl).1
    omega
theorem yk_stop_app {g : Int} {Q : List Int} {x y : Int} (h : yk_stop m g Q y) : yk_stop m g (Q ++ [x]) y := ⟨h.1, fun h9 => ⟨(h.2 h9).1, (yk_cmp_app (h.2 h9).2).1⟩⟩
theorem yk_laid {D D2 Q2 R1 R2 : List Int} (h : D2 ++ Q2.map yk_ng = D ++ R1 ++ R2) : D2 ++ (Q2 ++ [z]).map yk_ng = D ++ (R1 ++ R2 ++ [-z]) := by
  rw [List.map_append, ← List.append_assoc, h]
  simp [yk_ng]
/-- a chain goes on -/
theorem yk_E_bin (hk : 1 ≤ k) (h3 : k ≠ 3) (h1 : yk_E T k (k + 1) ov a b R1) (hz : yk_rank (T b) = k) (h2 : yk_E T (k + 1) (k + 1) ov (b + 1) c R2) : yk_E T k (k + 1) ov a c (R1 ++ R2 ++ [-(T b)]) := by
  have hbc := h2.1
  refine ⟨by have := h1.1; omega, fun D P br n j hP hb => ?_⟩
  obtain ⟨D1, Q1, g1, n1, a1, a2, a3, -⟩ := h1.2 D P br n j hP hb
  have e := yk_go_k (D := D1) (o := ov) (br := br) (g := g1) (n := n1) (j := j) hz hk h3 a2 hP
  rw [a3] at e
  obtain ⟨p1, p2, p3, p4, p5, p6, -⟩ := yk_rank_ne (z := T b) (by omega)
  obtain ⟨D2, Q2, g2, n2, b1, b2, b3, b4⟩ := h2.2 (D ++ R1) (T b :: P) br n1 j (yk_top_cons (by omega) p5 p6) hb
  refine ⟨D2, Q2 ++ [T b], g2, n2, ?_, fun q hq => ?_, yk_laid b3, yk_stop_app b4⟩
  · rw [List.append_assoc]
    exact yk_run_cat h1.1 (by omega) a1 (yk_run_cat1 (by omega) e b1)
  · rcases List.mem_append.mp hq with hq | hq
    · have := b2 q hq; omega
    · rw [List.mem_singleton.mp hq]; omega
/-- a comparison -/
theorem yk_E_cmp (h1 : yk_E T 4 4 ov a b R1) (hz : yk_rank (T b) = 3) (h2 : yk_E T 4 4 ov (b + 1) c R2) : yk_E T 3 3 ov a c (R1 ++ R2 ++ [-(T b)]) := by
  have hbc := h2.1
  refine ⟨by have := h1.1; omega, fun D P br n j hP hb => ?_⟩
  obtain ⟨D1, Q1, g1, n1, a1, a2, a3, -⟩ := h1.2 D P br n j (yk_top_le hP (by decide)) hb
  have e := yk_go_3 (D := D1) (o := ov) (br := br) (g := g1) (n := n1) (j := j) hz a2 hP
  rw [a3] at e
  obtain ⟨p1, p2, p3, p4, p5, p6, -⟩ := yk_rank_ne (z := T b) (by omega)
  obtain ⟨D2, Q2, g2, n2, b1, b2, b3, b4, b5⟩ := h2.2 (D ++ R1) (T b :: P) br n1 j (yk_top_cons (by omega) p5 p6) hb
  refine ⟨D2, Q2 ++ [T b], g2, n2, ?_, fun q hq => ?_, yk_laid b3, b4, fun h9 => ?_⟩
  · rw [List.append_assoc]
    exact yk_run_cat h1.1 (by omega) a1 (yk_run_cat1 (by omega) e b1)
  · rcases List.mem_append.mp hq with hq | hq
    · have := b2 q hq; omega
    · rw [List.mem_singleton.mp hq]; omega
  · by_cases h4 : 4 ≤ yk_rank (T c)
    · exact ⟨(b5 h4).1, (yk_cmp_app (b5 h4).2).1⟩
    · refine ⟨by omega, ?_⟩
      have e2 := (yk_take_app (f := yk_ge 4) (Q := Q2) (P := [T b]) (fun q hq => yk_ge_iff.mpr (b2 q hq)) (fun p hp => by
        have hp : some (T b) = some p := hp
        cases hp
        exact decide_eq_false (by omega))).2
      show yk_c3 ((Q2 ++ [T b]).dropWhile (yk_ge 4)) = true
      rw [e2]
      exact decide_eq_true hz
/-- ! and - -/
theorem yk_O_px (hz : T a = 33 ∨ T a = 45) (ho : ov < 6) (h : yk_O T (ov + 1) (a + 1) b R) : yk_O T ov a b (R ++ [-(if T a = 45 then 126 else T a)]) := by
  have hab := h.1
  refine ⟨by omega, fun D P br n j hb => ?_⟩
  have hp : (if T a = 45 then 126 else T a) = 33 ∨ (if T a = 45 then 126 else T a) = 126 := by
    rcases hz with e | e
    · rw [if_neg (by omega)]; exact Or.inl e
    · rw [if_pos e]; exact Or.inr rfl
  have e : yk_go (D, P, ov, br, 0, n, j, true) (T a) = some (D, (if T a = 45 then 126 else T a) :: P, ov + 1, br, 0, n, j, true) := by
    show yk_oper D P ov br 0 n j (T a) = _
    unfold yk_oper
    rw [if_pos (by omega), if_neg (by omega), if_neg (show ¬ T a = 40 by omega)]
  obtain ⟨g, n', h1, h2⟩ := h.2 D ((if T a = 45 then 126 else T a) :: P) br n j hb
  obtain ⟨f1, f2, f3⟩ := yk_fin_px (D := D ++ R) (P := P) (o := ov) hp
  rw [f1, f2, f3, List.append_assoc] at h1
  exact ⟨g, n', yk_run_cat1 (by omega) e h1, h2⟩
theorem yk_G_px (hz : T a = 33 ∨ T a = 45) (ho : ov < 6) (h : yk_G T N (ov + 1) (a + 1) f) : yk_G T N ov a f := by
  obtain ⟨h1, h2, h3⟩ := h
  refine ⟨by omega, h2, fun D P br n j hb => ?_⟩
  have e : yk_go (D, P, ov, br, 0, n, j, true) (T a) = some (D, (if T a = 45 then 126 else T a) :: P, ov + 1, br, 0, n, j, true) := by
    show yk_oper D P ov br 0 n j (T a) = _
    unfold yk_oper
    rw [if_pos (by omega), if_neg (by omega), if_neg (show ¬ T a = 40 by omega)]
  obtain ⟨D', P', o', b', g', n', j', due, w1, w2⟩ := h3 D ((if T a = 45 then 126 else T a) :: P) br n j hb
  exact ⟨D', P', o', b', g', n', j', due, yk_run_cat1 (by omega) e w1, w2⟩
theorem yk_go_br {D P : List Int} {br n j : Int} (hz : T a = 40) (ho : ov < 6) : yk_go (D, P, ov, br, 0, n, j, true) (T a) = some (D, 40 :: P, ov + 1, br + 1, 0, n, j, true) := by
  show yk_oper D P ov br 0 n j (T a) = _
  unfold yk_oper
  rw [hz, if_pos (Or.inl rfl), if_neg (by omega), if_neg (by decide), if_pos rfl]
theorem yk_top_br (k : Int) (hk : 1 ≤ k) (P : List Int) : yk_top k (40 :: P) := yk_top_cons (by rw [yk_rank0 (Or.inr (Or.inr rfl))]; omega) (by decide) (by decide)
/-- brackets -/
theorem yk_O_br (hz : T a = 40) (ho : ov < 6) (h : yk_E T 1 1 (ov + 1) (a + 1) b R) (hc : T b = 41) : yk_O T ov a (b + 1) R := by
  have hab := h.1
  refine ⟨by omega, fun D P br n j hb => ?_⟩
  obtain ⟨D', Q, g, n', h1, h2, h3, h4⟩ := h.2 D (40 :: P) (br + 1) n j (yk_top_br 1 (by decide) P) (by omega)
  have e2 : yk_go (D', Q ++ 40 :: P, ov + 1, br + 1, g, n', j, false) (T b) = some (yk_fd (D ++ R) P, yk_fp P, yk_fo P ov, br, 0, n', j, false) := by
    rw [hc]
    show yk_close D' (Q ++ 40 :: P) (ov + 1) (br + 1) n' j = _
    unfold yk_close
    obtain ⟨s1, s2⟩ := yk_settle (D := D') (r := 1) h2 (yk_top_br 1 (by decide) P) (Int.le_refl 1)
    rw [if_neg (by omega), s1, s2, h3, List.tail_cons, show ov + 1 - 1 = ov by omega, show br + 1 - 1 = br by omega]
  exact ⟨0, n', yk_run_snoc (by omega) (yk_run_cat1 (by omega) (yk_go_br hz ho) h1) e2, fun _ => rfl⟩
/-- where a part has stopped within brackets, nothing but ) goes on -/
theorem yk_none {D P Q : List Int} {o br g n j : Int} (hs : yk_stop 1 g Q z) (h41 : z = 41 → br = 0) (h63 : z = 63 → 0 < br ∨ j ≠ -1) (h59 : z = 59 → 0 < br) : yk_go (D, Q ++ P, o, br, g, n, j, false) z = none := by
  show (if 48 ≤ z ∧ z ≤ 57 then yk_digit D (Q ++ P) o br g n j z else if z = 41 then yk_close D (Q ++ P) o br n j else if z = 63 then yk_cond D (Q ++ P) o br n j else if z = 59 then yk_next D (Q ++ P) o br n j else yk_op D (Q ++ P) o br n j z) = none
  by_cases c1 : 48 ≤ z ∧ z ≤ 57
  · rw [if_pos c1]
    unfold yk_digit
    rw [if_pos (Or.inl (hs.1 c1))]
  · rw [if_neg c1]
    by_cases c2 : z = 41
    · rw [if_pos c2]
      unfold yk_close
      rw [if_pos (h41 c2)]
    · rw [if_neg c2]
      by_cases c3 : z = 63
      · rw [if_pos c3]
        unfold yk_cond
        rw [if_pos (h63 c3)]
      · rw [if_neg c3]
        by_cases c4 : z = 59
        · rw [if_pos c4]
          unfold yk_next
          rw [if_pos (h59 c4)]
        · rw [if_neg c4]
          unfold yk_op
          by_cases c5 : yk_rank z = 0
          · rw [if_pos c5]
          · rw [if_neg c5]
            have hr := yk_rank_r z
            obtain ⟨h3, hc⟩ := hs.2 (by omega)
            have hc := (yk_cmp_app (P := P) hc).2
            have e : yk_rs z = 4 := by unfold yk_rs; rw [if_pos h3]
            rw [e, if_pos ⟨h3, hc⟩]
theorem yk_G_br (hz : T a = 40) (ho : ov < 6) (h : yk_F T N 1 (ov + 1) (a + 1) f) : yk_G T N ov a f := by
  obtain ⟨h1, h2, h3⟩ := h
  refine ⟨by omega, h2, fun D P br n j hb => ?_⟩
  obtain ⟨D', P', o', b', g', n', j', due, w1, w2⟩ := h3 D (40 :: P) (br + 1) n j (yk_top_br 1 (by decide) P) (by omega)
  exact ⟨D', P', o', b', g', n', j', due, yk_run_cat1 (by omega) (yk_go_br hz ho) w1, w2⟩
theorem yk_G_cl (hz : T a = 40) (ho : ov < 6) (h : yk_E T 1 1 (ov + 1) (a + 1) b R) (hN : b ≤ N) (hc : T b ≠ 41) : yk_G T N ov a b := by
  have hab := h.1
  refine ⟨by omega, hN, fun D P br n j hb => ?_⟩
  obtain ⟨D', Q, g, n', h1, h2, h3, h4⟩ := h.2 D (40 :: P) (br + 1) n j (yk_top_br 1 (by decide) P) (by omega)
  exact ⟨D', Q ++ 40 :: P, ov + 1, br + 1, g, n', j, false, yk_run_cat1 (by omega) (yk_go_br hz ho) h1, yk_none h4 (fun e => absurd e hc) (fun _ => Or.inl (by omega)) (fun _ => by omega), fun _ => Or.inr (by omega)⟩
/-- chains that fall -/
theorem yk_F_up (h : yk_F T N (k + 1) ov a f) : yk_F T N k ov a f := ⟨h.1, h.2.1, fun D P br n j hP hb => h.2.2 D P br n j (yk_top_le hP (by omega)) hb⟩
theorem yk_F_bin (hk : 1 ≤ k) (h3 : k ≠ 3) (h1 : yk_E T k (k + 1) ov a b R1) (hz : yk_rank (T b) = k) (h2 : yk_F T N (k + 1) ov (b + 1) f) : yk_F T N k ov a f := by
  obtain ⟨f1, f2, f3⟩ := h2
  refine ⟨by have := h1.1; omega, f2, fun D P br n j hP hb => ?_⟩
  obtain ⟨D1, Q1, g1, n1, a1, a2, a3, -⟩ := h1.2 D P br n j hP hb
  have e := yk_go_k (D := D1) (o := ov) (br := br) (g := g1) (n := n1) (j := j) hz hk h3 a2 hP
  rw [a3] at e
  obtain ⟨p1, p2, p3, p4, p5, p6, -⟩ := yk_rank_ne (z := T b) (by omega)
  obtain ⟨D', P', o', b', g', n', j', due, w1, w2⟩ := f3 (D ++ R1) (T b :: P) br n1 j (yk_top_cons (by omega) p5 p6) hb
  exact ⟨D', P', o', b', g', n', j', due, yk_run_cat h1.1 (by omega) a1 (yk_run_cat1 (by omega) e w1), w2⟩
theorem yk_F_cmp (h1 : yk_E T 4 4 ov a b R1) (hz : yk_rank (T b) = 3) (h2 : yk_F T N 4 ov (b + 1) f) : yk_F T N 3 ov a f := by
  obtain ⟨f1, f2, f3⟩ := h2
  refine ⟨by have := h1.1; omega, f2, fun D P br n j hP hb => ?_⟩
  obtain ⟨D1, Q1, g1, n1, a1, a2, a3, -⟩ := h1.2 D P br n j (yk_top_le hP (by decide)) hb
  have e := yk_go_3 (D := D1) (o := ov) (br := br) (g := g1) (n := n1) (j := j) hz a2 hP
  rw [a3] at e
  obtain ⟨p1, p2, p3, p4, p5, p6, -⟩ := yk_rank_ne (z := T b) (by omega)
  obtain ⟨D', P', o', b', g', n', j', due, w1, w2⟩ := f3 (D ++ R1) (T b :: P) br n1 j (yk_top_cons (by omega) p5 p6) hb
  exact ⟨D', P', o', b', g', n', j', due, yk_run_cat h1.1 (by omega) a1 (yk_run_cat1 (by omega) e w1), w2⟩
/-- a NAME -/
theorem yk_O_name (hz : yk_name (T a) ≠ -1) : yk_O T ov a (a + 1) [-1000 - yk_name (T a)] := by
  refine ⟨by omega, fun D P br n j hb => ?_⟩
  have hne : ¬ (T a = 40 ∨ T a = 33 ∨ T a = 45) ∧ ¬ (48 ≤ T a ∧ T a ≤ 57) := by
    have : T a = 99 ∨ T a = 102 ∨ T a = 100 ∨ T a = 114 ∨ T a = 104 ∨ T a = 110 := by
      unfold yk_name at hz
      by_cases c1 : T a = 99
      · omega
      · rw [if_neg c1] at hz
        by_cases c2 : T a = 102
        · omega
        · rw [if_neg c2] at hz
          by_cases c3 : T a = 100
          · omega
          · rw [if_neg c3] at hz
            by_cases c4 : T a = 114
            · omega
            · rw [if_neg c4] at hz
              by_cases c5 : T a = 104
              · omega
              · rw [if_neg c5] at hz
                by_cases c6 : T a = 110
                · omega
                · rw [if_neg c6] at hz
                  exact absurd rfl hz
    omega
  refine ⟨0, n, ?_, fun _ => rfl⟩
  rw [show a + 1 - a = 1 by omega]
  refine yk_run_one ?_
  show yk_oper D P ov br 0 n j (T a) = _
  unfold yk_oper
  rw [if_neg hne.1, if_neg hne.2, if_neg hz]
/-- a sign that no operand begins with -/
theorem yk_G_0 (hN : a ≤ N) (h1 : T a = 40 ∨ T a = 33 ∨ T a = 45 → 6 ≤ ov) (h2 : ¬ (48 ≤ T a ∧ T a ≤ 57)) (h3 : yk_name (T a) = -1) : yk_G T N ov a a := by
  refine ⟨Nat.le_refl _, hN, fun D P br n j hb => ⟨D, P, ov, br, 0, n, j, true, ?_, ?_, fun _ => Or.inl rfl⟩⟩
  · rw [Nat.sub_self]; rfl
  · show yk_oper D P ov br 0 n j (T a) = none
    unfold yk_oper
    by_cases c : T a = 40 ∨ T a = 33 ∨ T a = 45
    · rw [if_pos c, if_pos (h1 c)]
    · rw [if_neg c, if_neg h2, if_pos h3]
-- numbers
/-- c digits from a on: their number -/
def yk_num (T : Nat → Int) (a : Nat) : Nat → Int
  | 0 => 0
  | c + 1 => yk_num T a c * 10 + (T (a + c) - 48)
theorem yk_fd_set {D P : List Int} {x y : Int} : (yk_fd (D ++ [x]) P).set D.length y = yk_fd (D ++ [y]) P ∧ (yk_fd (D ++ [x]) P).getD D.length 0 = x := by
  unfold yk_fd
  generalize (P.takeWhile yk_px).map yk_ng = W
  constructor
  · rw [List.append_assoc, List.append_assoc, List.set_append_right _ _ (Nat.le_refl _), Nat.sub_self]
    rfl
  · rw [List.append_assoc, List.getD_eq_getElem?_getD, List.getElem?_append_right (Nat.le_refl _), Nat.sub_self]
    rfl
theorem yk_dig {D P : List Int} {br n j : Int} : ∀ c : Nat, c < 4 → (∀ i, i < c + 1 → 48 ≤ T (a + i) ∧ T (a + i) ≤ 57) → yk_run T a (c + 1) (D, P, ov, br, 0, n, j, true) = some (yk_fd (D ++ [yk_num T a (c + 1)]) P, yk_fp P, yk_fo P ov, br, (c : Int) + 1, (D.length : Int), j, false) := by
  intro c
  induction c with
  | zero =>
    intro _ h
    have h0 := h 0 (by decide)
    rw [Nat.add_zero] at h0
    refine yk_run_one ?_
    show yk_oper D P ov br 0 n j (T a) = _
    unfold yk_oper
    rw [if_neg (by omega), if_pos h0]
    show _ = some (yk_fd (D ++ [0 * 10 + (T (a + 0) - 48)]) P, yk_fp P, yk_fo P ov, br, ((0 : Nat) : Int) + 1, (D.length : Int), j, false)
    rw [Nat.add_zero, show (0 : Int) * 10 + (T a - 48) = T a - 48 by omega]
    rfl
  | succ c ih =>
    intro hc h
    have i1 := ih (by omega) (fun i hi => h i (by omega))
    have h0 := h (c + 1) (by omega)
    rw [yk_run_add T (c + 1) 1 a _ _ i1]
    refine yk_run_one ?_
    show (if 48 ≤ T (a + (c + 1)) ∧ T (a + (c + 1)) ≤ 57 then yk_digit _ _ _ _ _ _ _ _ else _) = _
    rw [if_pos h0]
    unfold yk_digit
    obtain ⟨s1, s2⟩ := yk_fd_set (D := D) (P := P) (x := yk_num T a (c + 1)) (y := yk_num T a (c + 1) * 10 + (T (a + (c + 1)) - 48))
    rw [if_neg (by omega), Int.toNat_natCast, s2, s1]
    rfl
theorem yk_O_num (hc : c < 4) (h : ∀ i, i < c + 1 → 48 ≤ T (a + i) ∧ T (a + i) ≤ 57) (hb : ¬ (48 ≤ T (a + (c + 1)) ∧ T (a + (c + 1)) ≤ 57)) : yk_O T ov a (a + (c + 1)) [yk_num T a (c + 1)] := by
  refine ⟨by omega, fun D P br n j _ => ⟨(c : Int) + 1, (D.length : Int), ?_, fun h9 => absurd h9 hb⟩⟩
  rw [show a + (c + 1) - a = c + 1 by omega]
  exact yk_dig c hc h
theorem yk_G_num (h : ∀ i, i < 5 → 48 ≤ T (a + i) ∧ T (a + i) ≤ 57) (hN : a + 4 < N) : yk_G T N ov a (a + 4) := by
  refine ⟨by omega, by omega, fun D P br n j _ => ?_⟩
  have e := yk_dig (T := T) (ov := ov) (a := a) (D := D) (P := P) (br := br) (n := n) (j := j) 3 (by decide) (fun i hi => h i (by omega))
  refine ⟨_, _, _, _, _, _, _, _, by rw [show a + 4 - a = 3 + 1 by omega]; exact e, ?_, fun h9 => by omega⟩
  show (if 48 ≤ T (a + 4) ∧ T (a + 4) ≤ 57 then yk_digit _ _ _ _ _ _ _ _ else _) = none
  rw [if_pos (h 4 (by decide))]
  unfold yk_digit
  rw [if_pos (Or.inr (by decide))]
end
