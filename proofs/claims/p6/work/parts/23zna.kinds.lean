/-! The steps of a program are of the kinds that there are. -/
section
variable {i g n j o b z x r : Int} {D P X : List Int} {s s' : yk_S} {T : Nat → Int}
def vt_ok (s : Int) : Prop := 0 ≤ s ∨ (-1005 ≤ s ∧ s ≤ -1000) ∨ s = -33 ∨ s = -126 ∨ s = -59 ∨ s = -63 ∨ ∃ z, yk_rank z ≠ 0 ∧ s = -z
def vt_D (D : List Int) : Prop := ∀ x ∈ D, vt_ok x
theorem vt_app (h1 : vt_D D) (h2 : vt_D X) : vt_D (D ++ X) := fun x hx => by
  rcases List.mem_append.mp hx with h | h
  · exact h1 x h
  · exact h2 x h
theorem vt_one (h : vt_ok x) : vt_D [x] := fun y hy => by
  rw [List.mem_singleton.mp hy]
  exact h
theorem vt_sd (hr : 1 ≤ r) (h : vt_D D) : vt_D (yk_sd r D P) := by
  refine vt_app h (fun x hx => ?_)
  obtain ⟨p, hp, rfl⟩ := List.mem_map.mp hx
  have := yk_ge_iff.mp ((yk_td (yk_ge r) P).2 p hp)
  exact Or.inr (Or.inr (Or.inr (Or.inr (Or.inr (Or.inr ⟨p, by omega, rfl⟩)))))
theorem vt_fd (h : vt_D D) : vt_D (yk_fd D P) := by
  refine vt_app h (fun x hx => ?_)
  obtain ⟨p, hp, rfl⟩ := List.mem_map.mp hx
  rcases yk_px_iff.mp ((yk_td yk_px P).2 p hp) with rfl | rfl
  · exact Or.inr (Or.inr (Or.inl rfl))
  · exact Or.inr (Or.inr (Or.inr (Or.inl rfl)))
theorem vt_set {k : Nat} (h : vt_D D) (hx : vt_ok x) : vt_D (D.set k x) := fun y hy => by
  rcases List.mem_or_eq_of_mem_set hy with h1 | h1
  · exact h y h1
  · rw [h1]
    exact hx
theorem vt_nm (z : Int) : yk_name z = -1 ∨ (0 ≤ yk_name z ∧ yk_name z ≤ 5) := by
  unfold yk_name
  repeat' split
  all_goals omega
theorem vt_oper (h : vt_D D) (e : yk_oper D P o b g n j z = some s') : vt_D s'.1 := by
  unfold yk_oper at e
  by_cases c1 : z = 40 ∨ z = 33 ∨ z = 45
  · rw [if_pos c1] at e
    by_cases c2 : 6 ≤ o
    · rw [if_pos c2] at e; cases e
    · rw [if_neg c2] at e
      cases e
      exact h
  · rw [if_neg c1] at e
    by_cases c2 : 48 ≤ z ∧ z ≤ 57
    · rw [if_pos c2] at e
      cases e
      exact vt_fd (vt_app h (vt_one (Or.inl (by omega))))
    · rw [if_neg c2] at e
      by_cases c3 : yk_name z = -1
      · rw [if_pos c3] at e; cases e
      · rw [if_neg c3] at e
        cases e
        have := vt_nm z
        exact vt_fd (vt_app h (vt_one (Or.inr (Or.inl (by omega)))))
theorem vt_digit (hd : yk_dg D g n) (h : vt_D D) (hz : 48 ≤ z ∧ z ≤ 57) (e : yk_digit D P o b g n j z = some s') : vt_D s'.1 := by
  unfold yk_digit at e
  by_cases c : g = 0 ∨ 4 ≤ g
  · rw [if_pos c] at e; cases e
  · rw [if_neg c] at e
    cases e
    refine vt_set h (Or.inl ?_)
    rcases hd with hd | ⟨d1, d2, d3, d4⟩
    · omega
    · omega
theorem vt_close (h : vt_D D) (e : yk_close D P o b n j = some s') : vt_D s'.1 := by
  unfold yk_close at e
  by_cases c : b = 0
  · rw [if_pos c] at e; cases e
  · rw [if_neg c] at e
    cases e
    exact vt_fd (vt_sd (Int.le_refl 1) h)
theorem vt_cond (h : vt_D D) (e : yk_cond D P o b n j = some s') : vt_D s'.1 := by
  unfold yk_cond at e
  by_cases c : 0 < b ∨ j ≠ -1
  · rw [if_pos c] at e; cases e
  · rw [if_neg c] at e
    cases e
    exact vt_app (vt_app (vt_sd (Int.le_refl 1) h) (vt_one (Or.inr (Or.inr (Or.inr (Or.inr (Or.inr (Or.inl rfl)))))))) (vt_one (Or.inl (Int.le_refl 0)))
theorem vt_el (h : vt_D D) : vt_D (yk_el D P j) := by
  have h1 : vt_D (yk_sd 1 D P ++ [-59]) := vt_app (vt_sd (Int.le_refl 1) h) (vt_one (Or.inr (Or.inr (Or.inr (Or.inr (Or.inl rfl))))))
  unfold yk_el
  split
  · exact h1
  · exact vt_set h1 (Or.inl (by omega))
theorem vt_next (h : vt_D D) (e : yk_next D P o b n j = some s') : vt_D s'.1 := by
  unfold yk_next at e
  by_cases c : 0 < b
  · rw [if_pos c] at e; cases e
  · rw [if_neg c] at e
    cases e
    exact vt_el h
theorem vt_op (h : vt_D D) (e : yk_op D P o b n j z = some s') : vt_D s'.1 := by
  unfold yk_op at e
  by_cases c : yk_rank z = 0
  · rw [if_pos c] at e; cases e
  · rw [if_neg c] at e
    by_cases c2 : yk_rank z = 3 ∧ yk_c3 (yk_sp (yk_rs z) P) = true
    · rw [if_pos c2] at e; cases e
    · rw [if_neg c2] at e
      cases e
      exact vt_sd (yk_rs_1 c) h
theorem vt_go (hi : yk_inv i s) (h : vt_D s.1) (e : yk_go s z = some s') : vt_D s'.1 := by
  obtain ⟨D, P, o, b, g, n, j, due⟩ := s
  cases due with
  | true => exact vt_oper h e
  | false =>
    have e : (if 48 ≤ z ∧ z ≤ 57 then yk_digit D P o b g n j z else if z = 41 then yk_close D P o b n j else if z = 63 then yk_cond D P o b n j else if z = 59 then yk_next D P o b n j else yk_op D P o b n j z) = some s' := e
    by_cases c1 : 48 ≤ z ∧ z ≤ 57
    · rw [if_pos c1] at e
      exact vt_digit hi.2.2.2.2.2.2.2.2.2 h c1 e
    · rw [if_neg c1] at e
      by_cases c2 : z = 41
      · rw [if_pos c2] at e
        exact vt_close h e
      · rw [if_neg c2] at e
        by_cases c3 : z = 63
        · rw [if_pos c3] at e
          exact vt_cond h e
        · rw [if_neg c3] at e
          by_cases c4 : z = 59
          · rw [if_pos c4] at e
            exact vt_next h e
          · rw [if_neg c4] at e
            exact vt_op h e
theorem vt_run : ∀ (c a : Nat) (i : Int) (s s' : yk_S), yk_inv i s → vt_D s.1 → yk_run T a c s = some s' → vt_D s'.1 := by
  intro c
  induction c with
  | zero =>
    intro a i s s' hi h e
    have e : some s = some s' := e
    cases e
    exact h
  | succ c ih =>
    intro a i s s' hi h e
    have e : (match yk_go s (T a) with
      | some u => yk_run T (a + 1) c u
      | none => none) = some s' := e
    cases g : yk_go s (T a) with
    | none => rw [g] at e; cases e
    | some u =>
      rw [g] at e
      exact ih (a + 1) (i + 1) u s' (yk_go_inv hi g) (vt_go hi h g) e
/-- a program that was taken -/
theorem vt_prog {N : Nat} {o b g n j : Int} {due : Bool} {m : Int} (e : yk_run T 0 N (yv_s0 m) = some (D, P, o, b, g, n, j, due)) : vt_D (yk_el D P j) := by
  refine vt_el (vt_run N 0 0 (yv_s0 m) _ ?_ (fun x hx => by cases hx) e)
  exact yk_inv_mk (fun p hp => by cases hp) (by decide) (by decide) (by decide) (by decide) (by decide) (by decide) (by decide) (by decide) (Or.inl rfl)
/-- how many steps put a value -/
def vt_c (D : List Int) : Nat := D.countP fun x => decide (0 ≤ x ∨ x ≤ -1000)
theorem vt_c_app (A B : List Int) : vt_c (A ++ B) = vt_c A + vt_c B := List.countP_append
theorem vt_c_one (x : Int) : vt_c [x] ≤ 1 := List.countP_le_length
theorem vt_c_cons (x : Int) (D : List Int) : vt_c (x :: D) = vt_c [x] + vt_c D := vt_c_app [x] D
theorem vt_c_neg {X : List Int} (h : ∀ x ∈ X, x < 0 ∧ -1000 < x) : vt_c X = 0 := List.countP_eq_zero.mpr fun x hx e => by
  have h1 := h x hx
  have h2 := of_decide_eq_true e
  omega
theorem vt_c_on {X : List Int} (h : ∀ x ∈ X, x < 0 ∧ -1000 < x) : vt_c (D ++ X) = vt_c D := by
  rw [vt_c_app, vt_c_neg h, Nat.add_zero]
theorem vt_c_set : ∀ (D : List Int) (k : Nat) (x : Int), vt_c (D.set k x) ≤ vt_c D + 1 := by
  intro D
  induction D with
  | nil => intro k x; exact Nat.zero_le _
  | cons y D ih =>
    intro k x
    cases k with
    | zero =>
      show vt_c (x :: D) ≤ vt_c (y :: D) + 1
      rw [vt_c_cons x, vt_c_cons y]
      have := vt_c_one x
      omega
    | succ k =>
      show vt_c (y :: D.set k x) ≤ vt_c (y :: D) + 1
      rw [vt_c_cons y (D.set k x), vt_c_cons y D]
      have := ih k x
      omega
theorem vt_csd (hr : 1 ≤ r) : vt_c (yk_sd r D P) = vt_c D := by
  refine vt_c_on (fun x hx => ?_)
  obtain ⟨p, hp, rfl⟩ := List.mem_map.mp hx
  have h0 := yk_ge_iff.mp ((yk_td (yk_ge r) P).2 p hp)
  have h1 : yk_rank p ≠ 0 := by omega
  have h2 := (yk_ops h1).1
  simp only [yk_sg, List.mem_cons, List.not_mem_nil, or_false] at h2
  show -p < 0 ∧ -1000 < -p
  omega
theorem vt_cfd : vt_c (yk_fd D P) = vt_c D := by
  refine vt_c_on (fun x hx => ?_)
  obtain ⟨p, hp, rfl⟩ := List.mem_map.mp hx
  rcases yk_px_iff.mp ((yk_td yk_px P).2 p hp) with rfl | rfl
  · exact ⟨by decide, by decide⟩
  · exact ⟨by decide, by decide⟩
theorem vt_cel : vt_c (yk_el D P j) ≤ vt_c D + 1 := by
  have h1 : vt_c (yk_sd 1 D P ++ [-59]) = vt_c D := by
    rw [vt_c_on (fun x hx => by rw [List.mem_singleton.mp hx]; exact ⟨by decide, by decide⟩), vt_csd (Int.le_refl 1)]
  unfold yk_el
  split
  · rw [h1]
    exact Nat.le_succ _
  · refine Nat.le_trans (vt_c_set _ _ _) ?_
    rw [h1]
    exact Nat.le_refl _
theorem vt_coper (e : yk_oper D P o b g n j z = some s') : vt_c s'.1 ≤ vt_c D + 1 := by
  unfold yk_oper at e
  by_cases c1 : z = 40 ∨ z = 33 ∨ z = 45
  · rw [if_pos c1] at e
    by_cases c2 : 6 ≤ o
    · rw [if_pos c2] at e; cases e
    · rw [if_neg c2] at e
      cases e
      exact Nat.le_succ _
  · rw [if_neg c1] at e
    by_cases c2 : 48 ≤ z ∧ z ≤ 57
    · rw [if_pos c2] at e
      cases e
      show vt_c (yk_fd (D ++ [_]) P) ≤ _
      rw [vt_cfd, vt_c_app]
      have := vt_c_one (z - 48)
      omega
    · rw [if_neg c2] at e
      by_cases c3 : yk_name z = -1
      · rw [if_pos c3] at e; cases e
      · rw [if_neg c3] at e
        cases e
        show vt_c (yk_fd (D ++ [_]) P) ≤ _
        rw [vt_cfd, vt_c_app]
        have := vt_c_one (-1000 - yk_name z)
        omega
theorem vt_cgo (e : yk_go s z = some s') : vt_c s'.1 ≤ vt_c s.1 + 1 := by
  obtain ⟨D, P, o, b, g, n, j, due⟩ := s
  cases due with
  | true => exact vt_coper e
  | false =>
    have e : (if 48 ≤ z ∧ z ≤ 57 then yk_digit D P o b g n j z else if z = 41 then yk_close D P o b n j else if z = 63 then yk_cond D P o b n j else if z = 59 then yk_next D P o b n j else yk_op D P o b n j z) = some s' := e
    by_cases c1 : 48 ≤ z ∧ z ≤ 57
    · rw [if_pos c1] at e
      unfold yk_digit at e
      by_cases c : g = 0 ∨ 4 ≤ g
      · rw [if_pos c] at e; cases e
      · rw [if_neg c] at e
        cases e
        exact vt_c_set _ _ _
    · rw [if_neg c1] at e
      by_cases c2 : z = 41
      · rw [if_pos c2] at e
        unfold yk_close at e
        by_cases c : b = 0
        · rw [if_pos c] at e; cases e
        · rw [if_neg c] at e
          cases e
          show vt_c (yk_fd (yk_sd 1 D P) _) ≤ vt_c D + 1
          rw [vt_cfd, vt_csd (Int.le_refl 1)]
          exact Nat.le_succ _
      · rw [if_neg c2] at e
        by_cases c3 : z = 63
        · rw [if_pos c3] at e
          unfold yk_cond at e
          by_cases c : 0 < b ∨ j ≠ -1
          · rw [if_pos c] at e; cases e
          · rw [if_neg c] at e
            cases e
            show vt_c (yk_sd 1 D P ++ [-63] ++ [0]) ≤ vt_c D + 1
            rw [vt_c_app, vt_c_on (fun x hx => by rw [List.mem_singleton.mp hx]; exact ⟨by decide, by decide⟩), vt_csd (Int.le_refl 1)]
            have := vt_c_one 0
            omega
        · rw [if_neg c3] at e
          by_cases c4 : z = 59
          · rw [if_pos c4] at e
            unfold yk_next at e
            by_cases c : 0 < b
            · rw [if_pos c] at e; cases e
            · rw [if_neg c] at e
              cases e
              exact vt_cel
          · rw [if_neg c4] at e
            unfold yk_op at e
            by_cases c : yk_rank z = 0
            · rw [if_pos c] at e; cases e
            · rw [if_neg c] at e
              by_cases c5 : yk_rank z = 3 ∧ yk_c3 (yk_sp (yk_rs z) P) = true
              · rw [if_pos c5] at e; cases e
              · rw [if_neg c5] at e
                cases e
                show vt_c (yk_sd (yk_rs z) D P) ≤ vt_c D + 1
                rw [vt_csd (yk_rs_1 c)]
                exact Nat.le_succ _
theorem vt_crun : ∀ (c a : Nat) (s s' : yk_S), yk_run T a c s = some s' → vt_c s'.1 ≤ vt_c s.1 + c := by
  intro c
  induction c with
  | zero =>
    intro a s s' e
    have e : some s = some s' := e
    cases e
    exact Nat.le_refl _
  | succ c ih =>
    intro a s s' e
    have e : (match yk_go s (T a) with
      | some u => yk_run T (a + 1) c u
      | none => none) = some s' := e
    cases g : yk_go s (T a) with
    | none => rw [g] at e; cases e
    | some u =>
      rw [g] at e
      have h1 := ih (a + 1) u s' e
      have h2 := vt_cgo g
      omega
theorem vt_cprog {N : Nat} {o b g n j : Int} {due : Bool} {m : Int} (e : yk_run T 0 N (yv_s0 m) = some (D, P, o, b, g, n, j, due)) : vt_c (yk_el D P j) ≤ N + 1 := by
  have h1 : vt_c D ≤ 0 + N := vt_crun N 0 (yv_s0 m) _ e
  have h2 := vt_cel (D := D) (P := P) (j := j)
  omega
end
