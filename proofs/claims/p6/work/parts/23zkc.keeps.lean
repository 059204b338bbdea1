/-! What holds of the pure machine from sign to sign. -/
section
variable {D P Q X : List Int} {o b g n j z i r : Int} {s s' : yk_S}
def yk_sg : List Int := [37, 38, 42, 43, 45, 47, 60, 61, 62, 124, 40, 33, 126]
def yk_cp (f : Int → Bool) (P : List Int) : Int := ((P.filter f).length : Int)
def yk_p1 (p : Int) : Bool := decide (p = 40)
def yk_p3 (p : Int) : Bool := decide (p = 40 ∨ p = 33 ∨ p = 126)
theorem yk_cp_app (f : Int → Bool) (P Q : List Int) : yk_cp f (P ++ Q) = yk_cp f P + yk_cp f Q := by
  unfold yk_cp
  rw [List.filter_append, List.length_append]
  omega
theorem yk_cp_cons (f : Int → Bool) (p : Int) (P : List Int) : yk_cp f (p :: P) = (if f p = true then 1 else 0) + yk_cp f P := by
  unfold yk_cp
  rw [List.filter_cons]
  split
  · rw [List.length_cons]; omega
  · omega
theorem yk_cp_0 {f : Int → Bool} (h : ∀ q ∈ Q, f q = false) : yk_cp f Q = 0 := by
  unfold yk_cp
  rw [List.filter_eq_nil_iff.mpr (fun q hq => by rw [h q hq]; decide)]
  rfl
theorem yk_cp_n {f : Int → Bool} (h : ∀ q ∈ Q, f q = true) : yk_cp f Q = (Q.length : Int) := by
  unfold yk_cp
  rw [List.filter_eq_self.mpr h]
theorem yk_cp_r (f : Int → Bool) (P : List Int) : 0 ≤ yk_cp f P ∧ yk_cp f P ≤ (P.length : Int) := by
  unfold yk_cp
  have := List.length_filter_le f P
  omega
theorem yk_td (f : Int → Bool) (P : List Int) : P.takeWhile f ++ P.dropWhile f = P ∧ ∀ p ∈ P.takeWhile f, f p = true := by
  induction P with
  | nil => exact ⟨rfl, fun p hp => by cases hp⟩
  | cons p P ih =>
    rw [List.takeWhile_cons, List.dropWhile_cons]
    cases h : f p with
    | true =>
      rw [if_pos rfl, if_pos rfl, List.cons_append, ih.1]
      refine ⟨rfl, fun q hq => ?_⟩
      rcases List.mem_cons.mp hq with rfl | hq
      · exact h
      · exact ih.2 q hq
    | false =>
      rw [if_neg (by decide), if_neg (by decide)]
      exact ⟨rfl, fun q hq => by cases hq⟩
/-- what settling does to counts -/
theorem yk_sp_ok (hr : 1 ≤ r) (P : List Int) : yk_cp yk_p1 (yk_sp r P) = yk_cp yk_p1 P ∧ yk_cp yk_p3 (yk_sp r P) = yk_cp yk_p3 P ∧ (∀ D : List Int, ((yk_sd r D P).length : Int) + ((yk_sp r P).length : Int) = (D.length : Int) + (P.length : Int)) ∧ (∀ p ∈ yk_sp r P, p ∈ P) ∧ ((yk_sp r P).length : Int) ≤ (P.length : Int) := by
  obtain ⟨h1, h2⟩ := yk_td (yk_ge r) P
  have hz : ∀ p ∈ P.takeWhile (yk_ge r), yk_rank p ≠ 0 := fun p hp => by
    have := yk_ge_iff.mp (h2 p hp)
    omega
  have e1 : yk_cp yk_p1 (P.takeWhile (yk_ge r)) = 0 := yk_cp_0 fun q hq => decide_eq_false (yk_rank_ne (hz q hq)).2.2.2.2.2.2
  have e3 : yk_cp yk_p3 (P.takeWhile (yk_ge r)) = 0 := yk_cp_0 fun q hq => decide_eq_false (by
    have := yk_rank_ne (hz q hq)
    omega)
  have a1 := yk_cp_app yk_p1 (P.takeWhile (yk_ge r)) (P.dropWhile (yk_ge r))
  have a3 := yk_cp_app yk_p3 (P.takeWhile (yk_ge r)) (P.dropWhile (yk_ge r))
  rw [h1] at a1 a3
  have l1 : (P.takeWhile (yk_ge r)).length + (P.dropWhile (yk_ge r)).length = P.length := by rw [← List.length_append, h1]
  refine ⟨by unfold yk_sp; omega, by unfold yk_sp; omega, fun D => ?_, fun p hp => ?_, by unfold yk_sp; omega⟩
  · unfold yk_sd yk_sp
    rw [List.length_append, List.length_map]
    omega
  · rw [← h1]
    exact List.mem_append_right _ hp
theorem yk_fp_ok (P : List Int) : yk_cp yk_p1 (yk_fp P) = yk_cp yk_p1 P ∧ (∀ o : Int, yk_fo P o - yk_cp yk_p3 (yk_fp P) = o - yk_cp yk_p3 P) ∧ (∀ D : List Int, ((yk_fd D P).length : Int) + ((yk_fp P).length : Int) = (D.length : Int) + (P.length : Int)) ∧ (∀ p ∈ yk_fp P, p ∈ P) ∧ ((yk_fp P).length : Int) ≤ (P.length : Int) := by
  obtain ⟨h1, h2⟩ := yk_td yk_px P
  have e1 : yk_cp yk_p1 (P.takeWhile yk_px) = 0 := yk_cp_0 fun q hq => decide_eq_false (by
    have := yk_px_iff.mp (h2 q hq)
    omega)
  have e3 : yk_cp yk_p3 (P.takeWhile yk_px) = ((P.takeWhile yk_px).length : Int) := yk_cp_n fun q hq => decide_eq_true (by
    have := yk_px_iff.mp (h2 q hq)
    omega)
  have a1 := yk_cp_app yk_p1 (P.takeWhile yk_px) (P.dropWhile yk_px)
  have a3 := yk_cp_app yk_p3 (P.takeWhile yk_px) (P.dropWhile yk_px)
  rw [h1] at a1 a3
  have l1 : (P.takeWhile yk_px).length + (P.dropWhile yk_px).length = P.length := by rw [← List.length_append, h1]
  refine ⟨by unfold yk_fp; omega, fun o => by unfold yk_fo yk_fp; omega, fun D => ?_, fun p hp => ?_, by unfold yk_fp; omega⟩
  · unfold yk_fd yk_fp
    rw [List.length_append, List.length_map]
    omega
  · rw [← h1]
    exact List.mem_append_right _ hp
/-- the digits of the number that goes on -/
def yk_dg (D : List Int) (g n : Int) : Prop := g = 0 ∨ (0 ≤ n ∧ n < (D.length : Int) ∧ 0 ≤ D.getD n.toNat 0 ∧ ((g = 1 ∧ D.getD n.toNat 0 ≤ 9) ∨ (g = 2 ∧ D.getD n.toNat 0 ≤ 99) ∨ (g = 3 ∧ D.getD n.toNat 0 ≤ 999) ∨ g = 4))
theorem yk_dg_app (h : yk_dg D g n) (X : List Int) : yk_dg (D ++ X) g n := by
  rcases h with h | ⟨h1, h2, h3, h4⟩
  · exact Or.inl h
  · right
    have e : (D ++ X).getD n.toNat 0 = D.getD n.toNat 0 := by
      rw [List.getD_eq_getElem?_getD, List.getD_eq_getElem?_getD, List.getElem?_append_left (by omega)]
    rw [e, List.length_append]
    exact ⟨h1, by omega, h3, h4⟩
/-- behind i signs -/
def yk_inv (i : Int) (s : yk_S) : Prop := (∀ p ∈ s.2.1, p ∈ yk_sg) ∧ (s.2.1.length : Int) ≤ i ∧ (s.1.length : Int) + (s.2.1.length : Int) ≤ 2 * i ∧ 0 ≤ s.2.2.2.1 ∧ s.2.2.2.1 ≤ yk_cp yk_p1 s.2.1 ∧ s.2.2.1 ≤ yk_cp yk_p3 s.2.1 ∧ yk_cp yk_p3 s.2.1 - i ≤ s.2.2.1 ∧ -1 ≤ s.2.2.2.2.2.2.1 ∧ s.2.2.2.2.2.2.1 < (s.1.length : Int) ∧ yk_dg s.1 s.2.2.2.2.1 s.2.2.2.2.2.1
theorem yk_inv_mk {due : Bool} (h1 : ∀ p ∈ P, p ∈ yk_sg) (h2 : (P.length : Int) ≤ i) (h3 : (D.length : Int) + (P.length : Int) ≤ 2 * i) (h4 : 0 ≤ b) (h5 : b ≤ yk_cp yk_p1 P) (h6 : o ≤ yk_cp yk_p3 P) (h7 : yk_cp yk_p3 P - i ≤ o) (h8 : -1 ≤ j) (h9 : j < (D.length : Int)) (h10 : yk_dg D g n) : yk_inv i (D, P, o, b, g, n, j, due) := ⟨h1, h2, h3, h4, h5, h6, h7, h8, h9, h10⟩
theorem yk_fin_inv {due due' : Bool} {i' : Int} (h : yk_inv i (D, P, o, b, g, n, j, due)) (hi : i ≤ i') : yk_inv i' (yk_fd D P, yk_fp P, yk_fo P o, b, g, n, j, due') := by
  obtain ⟨h1, h2, h3, h4, h5, h6, h7, h8, h9, h10⟩ := h
  obtain ⟨f1, f2, f3, f4, f5⟩ := yk_fp_ok P
  have f2 := f2 o
  have f3 := f3 D
  have e1 : (yk_fd D P).length = D.length + ((P.takeWhile yk_px).map yk_ng).length := by unfold yk_fd; rw [List.length_append]
  refine yk_inv_mk (fun p hp => h1 p (f4 p hp)) ?_ ?_ h4 ?_ ?_ ?_ h8 ?_ ?_
  · show _ ≤ i'
    have h2 : (P.length : Int) ≤ i := h2
    omega
  · have h3 : (D.length : Int) + (P.length : Int) ≤ 2 * i := h3
    omega
  · rw [f1]; exact h5
  · have h6 : o ≤ yk_cp yk_p3 P := h6
    omega
  · have h7 : yk_cp yk_p3 P - i ≤ o := h7
    omega
  · have h9 : j < (D.length : Int) := h9
    omega
  · exact yk_dg_app h10 _
theorem yk_set_inv {due due' : Bool} (hr : 1 ≤ r) (h : yk_inv i (D, P, o, b, g, n, j, due)) : yk_inv i (yk_sd r D P, yk_sp r P, o, b, g, n, j, due') := by
  obtain ⟨h1, h2, h3, h4, h5, h6, h7, h8, h9, h10⟩ := h
  obtain ⟨f1, f2, f3, f4, f5⟩ := yk_sp_ok hr P
  have f3 := f3 D
  have e1 : (yk_sd r D P).length = D.length + ((P.takeWhile (yk_ge r)).map yk_ng).length := by unfold yk_sd; rw [List.length_append]
  refine yk_inv_mk (fun p hp => h1 p (f4 p hp)) ?_ ?_ h4 ?_ ?_ ?_ h8 ?_ ?_
  · have h2 : (P.length : Int) ≤ i := h2
    omega
  · have h3 : (D.length : Int) + (P.length : Int) ≤ 2 * i := h3
    omega
  · rw [f1]; exact h5
  · rw [f2]; exact h6
  · rw [f2]; exact h7
  · have h9 : j < (D.length : Int) := h9
    omega
  · exact yk_dg_app h10 _
theorem yk_push_inv {due due' : Bool} {p o' b' : Int} (h : yk_inv i (D, P, o, b, g, n, j, due)) (hp : p ∈ yk_sg) (hb : b' = b + (if yk_p1 p = true then 1 else 0)) (ho : o' = o + (if yk_p3 p = true then 1 else 0)) : yk_inv (i + 1) (D, p :: P, o', b', g, n, j, due') := by
  obtain ⟨h1, h2, h3, h4, h5, h6, h7, h8, h9, h10⟩ := h
  have h2 : (P.length : Int) ≤ i := h2
  have h3 : (D.length : Int) + (P.length : Int) ≤ 2 * i := h3
  have h4 : 0 ≤ b := h4
  have h5 : b ≤ yk_cp yk_p1 P := h5
  have h6 : o ≤ yk_cp yk_p3 P := h6
  have h7 : yk_cp yk_p3 P - i ≤ o := h7
  refine yk_inv_mk (fun q hq => ?_) ?_ ?_ ?_ ?_ ?_ ?_ h8 h9 h10
  · rcases List.mem_cons.mp hq with rfl | hq
    · exact hp
    · exact h1 q hq
  · rw [List.length_cons]; omega
  · rw [List.length_cons]; omega
  · split at hb <;> omega
  · rw [yk_cp_cons]; omega
  · rw [yk_cp_cons]; omega
  · rw [yk_cp_cons]; omega
/-- steps are laid, no more than two a sign -/
theorem yk_lay_inv {due due' : Bool} {j' g' n' : Int} (h : yk_inv i (D, P, o, b, g, n, j, due)) (hX : (X.length : Int) ≤ (D.length : Int) + 2) (hj : -1 ≤ j' ∧ j' < (X.length : Int)) (hg : yk_dg X g' n') : yk_inv (i + 1) (X, P, o, b, g', n', j', due') := by
  obtain ⟨h1, h2, h3, h4, h5, h6, h7, h8, h9, h10⟩ := h
  have h2 : (P.length : Int) ≤ i := h2
  have h3 : (D.length : Int) + (P.length : Int) ≤ 2 * i := h3
  have h7 : yk_cp yk_p3 P - i ≤ o := h7
  exact yk_inv_mk h1 (by omega) (by omega) h4 h5 h6 (by omega) hj.1 hj.2 hg
theorem yk_ops {z : Int} (h : yk_rank z ≠ 0) : z ∈ yk_sg ∧ yk_p1 z = false ∧ yk_p3 z = false := by
  have hh : z = 124 ∨ z = 38 ∨ z = 60 ∨ z = 61 ∨ z = 62 ∨ z = 43 ∨ z = 45 ∨ z = 42 ∨ z = 47 ∨ z = 37 := by
    unfold yk_rank at h
    by_cases c1 : z = 124
    · omega
    · rw [if_neg c1] at h
      by_cases c2 : z = 38
      · omega
      · rw [if_neg c2] at h
        by_cases c3 : z = 60 ∨ z = 61 ∨ z = 62
        · omega
        · rw [if_neg c3] at h
          by_cases c4 : z = 43 ∨ z = 45
          · omega
          · rw [if_neg c4] at h
            by_cases c5 : z = 42 ∨ z = 47 ∨ z = 37
            · omega
            · rw [if_neg c5] at h
              omega
  rcases hh with rfl | rfl | rfl | rfl | rfl | rfl | rfl | rfl | rfl | rfl <;> decide
theorem yk_rs_1 (h : yk_rank z ≠ 0) : 1 ≤ yk_rs z := by
  have := (yk_rank_r z).1
  unfold yk_rs
  split <;> omega
theorem yk_oper_inv (h : yk_inv i (D, P, o, b, g, n, j, true)) (e : yk_oper D P o b g n j z = some s') : yk_inv (i + 1) s' := by
  unfold yk_oper at e
  by_cases c1 : z = 40 ∨ z = 33 ∨ z = 45
  · rw [if_pos c1] at e
    by_cases c2 : 6 ≤ o
    · rw [if_pos c2] at e; cases e
    · rw [if_neg c2] at e
      cases e
      rcases c1 with rfl | rfl | rfl
      · exact yk_push_inv h (by decide) rfl rfl
      · exact yk_push_inv h (by decide) (Int.add_zero b).symm rfl
      · exact yk_push_inv h (by decide) (Int.add_zero b).symm rfl
  · rw [if_neg c1] at e
    by_cases c2 : 48 ≤ z ∧ z ≤ 57
    · rw [if_pos c2] at e
      cases e
      have k := yk_lay_inv (X := D ++ [z - 48]) (j' := j) (g' := 1) (n' := (D.length : Int)) (due' := true) h (by rw [List.length_append]; show ((D.length + 1 : Nat) : Int) ≤ _; omega) ⟨h.2.2.2.2.2.2.2.1, by have := h.2.2.2.2.2.2.2.2.1; rw [List.length_append]; show j < ((D.length + 1 : Nat) : Int); have this : j < (D.length : Int) := this; omega⟩ (Or.inr ?_)
      · exact yk_fin_inv k (Int.le_refl _)
      · have e9 : (D ++ [z - 48]).getD D.length 0 = z - 48 := by
          rw [List.getD_eq_getElem?_getD, List.getElem?_append_right (Nat.le_refl _), Nat.sub_self]
          rfl
        rw [Int.toNat_natCast, e9, List.length_append]
        refine ⟨by omega, ?_, by omega, Or.inl ⟨rfl, by omega⟩⟩
        show (D.length : Int) < ((D.length + 1 : Nat) : Int)
        omega
    · rw [if_neg c2] at e
      by_cases c3 : yk_name z = -1
      · rw [if_pos c3] at e; cases e
      · rw [if_neg c3] at e
        cases e
        refine yk_fin_inv (yk_lay_inv (X := D ++ [-1000 - yk_name z]) (j' := j) (due' := true) h ?_ ⟨h.2.2.2.2.2.2.2.1, ?_⟩ (yk_dg_app h.2.2.2.2.2.2.2.2.2 _)) (Int.le_refl _)
        · rw [List.length_append]; show ((D.length + 1 : Nat) : Int) ≤ _; omega
        · have h9 : j < (D.length : Int) := h.2.2.2.2.2.2.2.2.1
          rw [List.length_append]; show j < ((D.length + 1 : Nat) : Int); omega
theorem yk_digit_inv (h : yk_inv i (D, P, o, b, g, n, j, false)) (hz : 48 ≤ z ∧ z ≤ 57) (e : yk_digit D P o b g n j z = some s') : yk_inv (i + 1) s' := by
  unfold yk_digit at e
  by_cases c : g = 0 ∨ 4 ≤ g
  · rw [if_pos c] at e; cases e
  · rw [if_neg c] at e
    cases e
    have hd : yk_dg D g n := h.2.2.2.2.2.2.2.2.2
    refine yk_lay_inv h (by rw [List.length_set]; omega) ⟨h.2.2.2.2.2.2.2.1, by rw [List.length_set]; exact h.2.2.2.2.2.2.2.2.1⟩ (Or.inr ?_)
    rcases hd with hd | ⟨d1, d2, d3, d4⟩
    · omega
    · have e9 : (D.set n.toNat (D.getD n.toNat 0 * 10 + (z - 48))).getD n.toNat 0 = D.getD n.toNat 0 * 10 + (z - 48) := by
        rw [List.getD_eq_getElem?_getD, List.getElem?_set_self (by omega)]
        rfl
      rw [e9, List.length_set]
      refine ⟨d1, d2, by omega, ?_⟩
      rcases d4 with ⟨h1, h2⟩ | ⟨h1, h2⟩ | ⟨h1, h2⟩ | h1
      · exact Or.inr (Or.inl ⟨by omega, by omega⟩)
      · exact Or.inr (Or.inr (Or.inl ⟨by omega, by omega⟩))
      · exact Or.inr (Or.inr (Or.inr (by omega)))
      · omega
theorem yk_tail_inv {due due' : Bool} (h : yk_inv i (D, P, o, b, g, n, j, due)) (hb : 1 ≤ b) (hg : g = 0) : yk_inv (i + 1) (D, P.tail, o - 1, b - 1, 0, n, j, due') := by
  obtain ⟨h1, h2, h3, h4, h5, h6, h7, h8, h9, h10⟩ := h
  have h2 : (P.length : Int) ≤ i := h2
  have h3 : (D.length : Int) + (P.length : Int) ≤ 2 * i := h3
  have h5 : b ≤ yk_cp yk_p1 P := h5
  have h6 : o ≤ yk_cp yk_p3 P := h6
  have h7 : yk_cp yk_p3 P - i ≤ o := h7
  cases P with
  | nil =>
    have : yk_cp yk_p1 [] = 0 := rfl
    omega
  | cons p P =>
    rw [yk_cp_cons] at h5 h6 h7
    rw [List.length_cons] at h2 h3
    rw [List.tail_cons]
    refine yk_inv_mk (fun q hq => h1 q (List.mem_cons_of_mem _ hq)) (by omega) (by omega) (by omega) ?_ ?_ ?_ h8 h9 (Or.inl rfl)
    · split at h5 <;> omega
    · split at h6 <;> omega
    · split at h7 <;> omega
theorem yk_close_inv (h : yk_inv i (D, P, o, b, 0, n, j, false)) (e : yk_close D P o b n j = some s') : yk_inv (i + 1) s' := by
  unfold yk_close at e
  by_cases c : b = 0
  · rw [if_pos c] at e; cases e
  · rw [if_neg c] at e
    cases e
    have h4 : 0 ≤ b := h.2.2.2.1
    exact yk_fin_inv (yk_tail_inv (due' := false) (yk_set_inv (r := 1) (due' := false) (Int.le_refl 1) h) (by omega) rfl) (Int.le_refl _)
theorem yk_cond_inv (h : yk_inv i (D, P, o, b, 0, n, j, false)) (e : yk_cond D P o b n j = some s') : yk_inv (i + 1) s' := by
  unfold yk_cond at e
  by_cases c : 0 < b ∨ j ≠ -1
  · rw [if_pos c] at e; cases e
  · rw [if_neg c] at e
    cases e
    have el : ((yk_sd 1 D P ++ [-63] ++ [0]).length : Int) = ((yk_sd 1 D P).length : Int) + 2 := by
      rw [List.length_append, List.length_append]
      show (((yk_sd 1 D P).length + 1 + 1 : Nat) : Int) = _
      omega
    exact yk_lay_inv (yk_set_inv (r := 1) (due' := false) (Int.le_refl 1) h) (by omega) ⟨by omega, by omega⟩ (Or.inl rfl)
theorem yk_next_inv (h : yk_inv i (D, P, o, b, 0, n, j, false)) (e : yk_next D P o b n j = some s') : yk_inv (i + 1) s' := by
  unfold yk_next at e
  by_cases c : 0 < b
  · rw [if_pos c] at e; cases e
  · rw [if_neg c] at e
    cases e
    have el := yk_el_len (D := D) (P := P) (j := j)
    exact yk_lay_inv (yk_set_inv (r := 1) (due' := false) (Int.le_refl 1) h) (by omega) ⟨by omega, by omega⟩ (Or.inl rfl)
theorem yk_op_inv (h : yk_inv i (D, P, o, b, 0, n, j, false)) (e : yk_op D P o b n j z = some s') : yk_inv (i + 1) s' := by
  unfold yk_op at e
  by_cases c : yk_rank z = 0
  · rw [if_pos c] at e; cases e
  · rw [if_neg c] at e
    by_cases c2 : yk_rank z = 3 ∧ yk_c3 (yk_sp (yk_rs z) P) = true
    · rw [if_pos c2] at e; cases e
    · rw [if_neg c2] at e
      cases e
      obtain ⟨o1, o2, o3⟩ := yk_ops c
      exact yk_push_inv (yk_set_inv (due' := false) (yk_rs_1 c) h) o1 (by rw [o2]; exact (Int.add_zero b).symm) (by rw [o3]; exact (Int.add_zero o).symm)
theorem yk_inv_g0 {due : Bool} (h : yk_inv i (D, P, o, b, g, n, j, due)) : yk_inv i (D, P, o, b, 0, n, j, due) := by
  obtain ⟨h1, h2, h3, h4, h5, h6, h7, h8, h9, h10⟩ := h
  exact ⟨h1, h2, h3, h4, h5, h6, h7, h8, h9, Or.inl rfl⟩
theorem yk_go_inv (h : yk_inv i s) (e : yk_go s z = some s') : yk_inv (i + 1) s' := by
  obtain ⟨D, P, o, b, g, n, j, due⟩ := s
  cases due with
  | true => exact yk_oper_inv h e
  | false =>
    have e : (if 48 ≤ z ∧ z ≤ 57 then yk_digit D P o b g n j z else if z = 41 then yk_close D P o b n j else if z = 63 then yk_cond D P o b n j else if z = 59 then yk_next D P o b n j else yk_op D P o b n j z) = some s' := e
    by_cases c1 : 48 ≤ z ∧ z ≤ 57
    · rw [if_pos c1] at e
      exact yk_digit_inv h c1 e
    · rw [if_neg c1] at e
      by_cases c2 : z = 41
      · rw [if_pos c2] at e
        exact yk_close_inv (yk_inv_g0 h) e
      · rw [if_neg c2] at e
        by_cases c3 : z = 63
        · rw [if_pos c3] at e
          exact yk_cond_inv (yk_inv_g0 h) e
        · rw [if_neg c3] at e
          by_cases c4 : z = 59
          · rw [if_pos c4] at e
            exact yk_next_inv (yk_inv_g0 h) e
          · rw [if_neg c4] at e
            exact yk_op_inv (yk_inv_g0 h) e
end
