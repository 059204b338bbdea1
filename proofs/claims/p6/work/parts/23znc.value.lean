/-! What a program is worth: pure. -/
section
variable {N : Nat → Int} {A B V U : List Int} {s a b z : Int} {M M' : Nat → Nat → Int}
/-- a sign between two values -/
def vt_j (z a b : Int) : Int := if z = 124 then (if a = 0 ∧ b = 0 then 0 else 1) else if z = 38 then (if a = 0 ∨ b = 0 then 0 else 1) else if z = 60 then (if a < b then 1 else 0) else if z = 61 then (if a = b then 1 else 0) else if z = 62 then (if b < a then 1 else 0) else if z = 43 then sx_mf 0 a b else if z = 45 then sx_mf 1 a b else if z = 42 then sx_mf 2 a b else if z = 47 then (if b = 0 then 0 else sx_mf 6 a b) else (if b = 0 then 0 else sx_mf 7 a b)
/-- one step; the latest value first -/
def vt_st (N : Nat → Int) (s : Int) (V : List Int) : Option (List Int) := if 0 ≤ s then some (s :: V) else if s ≤ -1000 then some (N (-1000 - s).toNat :: V) else if s = -33 then (match V with
  | a :: R => some ((if a = 0 then 1 else 0) :: R)
  | [] => none) else if s = -126 then (match V with
  | a :: R => some (sx_mf 1 0 a :: R)
  | [] => none) else (match V with
  | b :: a :: R => some (vt_j (-s) a b :: R)
  | _ => none)
def vt_sr (N : Nat → Int) : List Int → List Int → Option (List Int)
  | [], V => some V
  | s :: A, V => match vt_st N s V with
    | some U => vt_sr N A U
    | none => none
theorem vt_sr_cons {U : List Int} (h : vt_st N s V = some U) : vt_sr N (s :: A) V = vt_sr N A U := by
  show (match vt_st N s V with
    | some U => vt_sr N A U
    | none => none) = _
  rw [h]
/-- never less than one value, once there is one -/
theorem vt_st_ne (h : vt_st N s V = some U) : U ≠ [] := by
  unfold vt_st at h
  by_cases c1 : 0 ≤ s
  · rw [if_pos c1] at h
    cases h
    exact List.cons_ne_nil _ _
  · rw [if_neg c1] at h
    by_cases c2 : s ≤ -1000
    · rw [if_pos c2] at h
      cases h
      exact List.cons_ne_nil _ _
    · rw [if_neg c2] at h
      by_cases c3 : s = -33
      · rw [if_pos c3] at h
        cases V with
        | nil => cases h
        | cons a R =>
          cases h
          exact List.cons_ne_nil _ _
      · rw [if_neg c3] at h
        by_cases c4 : s = -126
        · rw [if_pos c4] at h
          cases V with
          | nil => cases h
          | cons a R =>
            cases h
            exact List.cons_ne_nil _ _
        · rw [if_neg c4] at h
          cases V with
          | nil => cases h
          | cons b R =>
            cases R with
            | nil => cases h
            | cons a R =>
              cases h
              exact List.cons_ne_nil _ _
theorem vt_sr_ne : ∀ (A : List Int) (V : List Int) {U : List Int}, vt_sr N A V = some U → (A ≠ [] ∨ V ≠ []) → U ≠ [] := by
  intro A
  induction A with
  | nil =>
    intro V U h hn
    have h : some V = some U := h
    cases h
    rcases hn with hn | hn
    · exact absurd rfl hn
    · exact hn
  | cons s A ih =>
    intro V U h _
    cases e : vt_st N s V with
    | none =>
      have h : (match vt_st N s V with
        | some U => vt_sr N A U
        | none => none) = some U := h
      rw [e] at h
      cases h
    | some W =>
      rw [vt_sr_cons e] at h
      exact ih W h (Or.inr (vt_st_ne e))
/-- the value at the bottom -/
def vt_val (N : Nat → Int) (A : List Int) : Int := match vt_sr N A [] with
  | some V => V.getLastD 0
  | none => 0
/-- the kinds of the reference's steps are those of the class's -/
theorem vt_en {w v : Int} (h : vt_ok (yr_en w v)) : (w = 1 ∧ 0 ≤ v) ∨ w = 2 ∨ w = 3 ∨ w = 4 ∨ yk_rank w ≠ 0 := by
  by_cases c1 : w = 1
  · subst c1
    by_cases c : 0 ≤ v
    · exact Or.inl ⟨rfl, c⟩
    · exfalso
      unfold yr_en at h
      rw [if_pos rfl, if_neg c] at h
      rcases h with h | h | h | h | h | h | ⟨z, hz, h⟩
      · omega
      · omega
      · omega
      · omega
      · omega
      · omega
      · have := (yk_ops hz).1
        simp only [yk_sg, List.mem_cons, List.not_mem_nil, or_false] at this
        omega
  · by_cases c2 : w = 2
    · exact Or.inr (Or.inl c2)
    · by_cases c3 : w = 3
      · exact Or.inr (Or.inr (Or.inl c3))
      · by_cases c4 : w = 4
        · exact Or.inr (Or.inr (Or.inr (Or.inl c4)))
        · refine Or.inr (Or.inr (Or.inr (Or.inr (fun hr => ?_))))
          unfold yr_en at h
          rw [if_neg c1, if_neg c2, if_neg c3, if_neg c4, if_pos hr] at h
          rcases h with h | h | h | h | h | h | ⟨z, hz, h⟩
          · omega
          · omega
          · omega
          · omega
          · omega
          · omega
          · have := (yk_ops hz).1
            simp only [yk_sg, List.mem_cons, List.not_mem_nil, or_false] at this
            omega
/-- a part that can be worked is worth something: steps c from place k on -/
theorem vt_run_ok : ∀ (c k n m : Nat), wf_run M c k n = some m → (∀ i, k ≤ i → i < k + c → vt_ok (yr_en (M 67 i) (M 68 i))) → ∀ V : List Int, V.length = n → ∃ U, vt_sr N (yr_L M k c) V = some U ∧ U.length = m := by
  have one : ∀ k n m, wf_st M k n = some m → vt_ok (yr_en (M 67 k) (M 68 k)) → ∀ V : List Int, V.length = n → ∃ U, vt_st N (yr_en (M 67 k) (M 68 k)) V = some U ∧ U.length = m := by
    intro k n m h ok V hV
    unfold wf_st at h
    rcases vt_en ok with ⟨w, v⟩ | w | w | w | w
    · rw [w, if_pos rfl] at h
      cases h
      refine ⟨M 68 k :: V, ?_, by rw [List.length_cons, hV]⟩
      unfold vt_st yr_en
      rw [w, if_pos rfl, if_pos v, if_pos v]
    · rw [w, if_neg (by decide), if_pos rfl] at h
      by_cases c : 0 ≤ M 68 k ∧ M 68 k ≤ 5
      · rw [if_pos c] at h
        cases h
        refine ⟨N (-1000 - (-1000 - M 68 k)).toNat :: V, ?_, by rw [List.length_cons, hV]⟩
        rw [w]
        show vt_st N (-1000 - M 68 k) V = _
        unfold vt_st
        rw [if_neg (by omega), if_pos (by omega)]
      · rw [if_neg c] at h
        cases h
    · rw [w, if_neg (by decide), if_neg (by decide), if_pos (Or.inl rfl)] at h
      by_cases c : 1 ≤ n
      · rw [if_pos c] at h
        cases h
        cases V with
        | nil => exact absurd hV (by show ¬ (0 = n); omega)
        | cons a R =>
          refine ⟨(if a = 0 then 1 else 0) :: R, ?_, hV⟩
          unfold yr_en
          rw [w]
          rfl
      · rw [if_neg c] at h
        cases h
    · rw [w, if_neg (by decide), if_neg (by decide), if_pos (Or.inr rfl)] at h
      by_cases c : 1 ≤ n
      · rw [if_pos c] at h
        cases h
        cases V with
        | nil => exact absurd hV (by show ¬ (0 = n); omega)
        | cons a R =>
          refine ⟨sx_mf 1 0 a :: R, ?_, hV⟩
          unfold yr_en
          rw [w]
          rfl
      · rw [if_neg c] at h
        cases h
    · obtain ⟨r1, r2, r3, r4⟩ := yr_rk w
      rw [if_neg r1, if_neg r2, if_neg (by omega)] at h
      by_cases c : 2 ≤ n
      · rw [if_pos c] at h
        cases h
        have hs := (yk_ops w).1
        simp only [yk_sg, List.mem_cons, List.not_mem_nil, or_false] at hs
        obtain ⟨-, -, -, -, n33, n126, -⟩ := yk_rank_ne w
        cases V with
        | nil => exact absurd hV (by show ¬ (0 = n); omega)
        | cons b R =>
          cases R with
          | nil => exact absurd hV (by show ¬ (1 = n); omega)
          | cons a R =>
            refine ⟨vt_j (-(-(M 67 k))) a b :: R, ?_, by
              have hV : R.length + 1 + 1 = n := hV
              show R.length + 1 = n - 1
              omega⟩
            rw [yr_en_op w]
            unfold vt_st
            rw [if_neg (by omega), if_neg (by omega), if_neg (by omega), if_neg (by omega)]
      · rw [if_neg c] at h
        cases h
  intro c
  induction c with
  | zero =>
    intro k n m h _ V hV
    have h : some n = some m := h
    cases h
    exact ⟨V, rfl, hV⟩
  | succ c ih =>
    intro k n m h ok V hV
    have h : (match wf_st M k n with
      | some m => wf_run M c (k + 1) m
      | none => none) = some m := h
    cases e : wf_st M k n with
    | none => rw [e] at h; cases h
    | some q =>
      rw [e] at h
      obtain ⟨U, u1, u2⟩ := one k n q e (ok k (Nat.le_refl _) (by omega)) V hV
      obtain ⟨W, w1, w2⟩ := ih (k + 1) q m h (fun i h1 h2 => ok i (by omega) (by omega)) U u2
      refine ⟨W, ?_, w2⟩
      have e1 : yr_L M k (c + 1) = [yr_en (M 67 k) (M 68 k)] ++ yr_L M (k + 1) c := by
        rw [Nat.add_comm c 1, yr_L_add]
        rfl
      rw [e1]
      show vt_sr N (yr_en (M 67 k) (M 68 k) :: yr_L M (k + 1) c) V = some W
      rw [vt_sr_cons u1]
      exact w1
end
