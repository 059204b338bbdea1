/-! A law, line by line: what it is worth; its lines can be worked. -/
section
variable {L : Nat} {xs : Nat → Int32} {M M' M1 M2 : Nat → Nat → Int} {N : Nat → Int} {A B U V : List Int} {x : Int}
/-- a line's test, and what else it has -/
def vt_A (M : Nat → Nat → Int) (l : Nat) : List Int := yr_L M (yj_f M 0 l).toNat (M 70 l - yj_f M 0 l).toNat
def vt_B (M : Nat → Nat → Int) (l : Nat) : List Int := yr_L M (M 70 l).toNat (M 71 l - M 70 l).toNat
/-- c lines from line l on -/
def vt_gv (M : Nat → Nat → Int) (N : Nat → Int) : Nat → Nat → Int
  | 0, _ => 0
  | c + 1, l => if M 70 l = yj_f M 0 l ∨ vt_val N (vt_A M l) ≠ 0 then vt_val N (vt_B M l) else vt_gv M N c (l + 1)
/-- a step that works -/
def vt_p (s : Int) : Prop := 0 ≤ s ∨ (-1005 ≤ s ∧ s ≤ -1000) ∨ s = -33 ∨ s = -126 ∨ ∃ z, yk_rank z ≠ 0 ∧ s = -z
/-- line l can be worked -/
def vt_ln (M : Nat → Nat → Int) (l : Nat) : Prop := (0 ≤ yj_f M 0 l ∧ yj_f M 0 l ≤ M 70 l ∧ M 70 l < M 71 l ∧ M 71 l ≤ 130) ∧ (∀ N : Nat → Int, (vt_sr N (vt_A M l) []).isSome = true) ∧ (∀ N : Nat → Int, (vt_sr N (vt_B M l) []).isSome = true) ∧ (∀ i : Nat, yj_f M 0 l ≤ (i : Int) → (i : Int) < M 71 l → wu_K M i) ∧ (∀ x ∈ vt_A M l, vt_p x) ∧ ∀ x ∈ vt_B M l, vt_p x
theorem vt_val_some {A U : List Int} (h : vt_sr N A [] = some U) : vt_val N A = U.getLastD 0 := by
  unfold vt_val
  rw [h]
theorem vt_mem_w1 {m : Nat} (h : x ∈ A) : x ∈ yk_w1 A m := List.mem_append_left _ h
theorem vt_mem_w2 {m : Nat} (h : x ∈ A ∨ x ∈ B) : x ∈ yk_w2 A B m := by
  unfold yk_w2
  rcases h with h | h
  · exact List.mem_append_left _ (List.mem_append_left _ (List.mem_append_left _ h))
  · exact List.mem_append_left _ (List.mem_append_right _ h)
theorem vt_mem_W {l m : Nat} (h : (x ∈ vt_A M l ∧ M 70 l ≠ yj_f M 0 l) ∨ x ∈ vt_B M l) : x ∈ yj_W M 0 0 l m := by
  unfold yj_W
  rw [Nat.zero_add, Nat.zero_add]
  by_cases c : M 70 l = yj_f M 0 l
  · rw [if_pos c]
    rcases h with h | h
    · exact absurd c h.2
    · unfold vt_B at h
      rw [c] at h
      exact vt_mem_w1 h
  · rw [if_neg c, Nat.zero_add]
    refine vt_mem_w2 ?_
    rcases h with h | h
    · exact Or.inl h.1
    · exact Or.inr h
theorem vt_mem_P {l : Nat} : ∀ {n m : Nat}, l < n → (x ∈ vt_A M l ∧ M 70 l ≠ yj_f M 0 l) ∨ x ∈ vt_B M l → x ∈ yj_P M 0 0 n m := by
  intro n
  induction n with
  | zero => intro m h _; exact absurd h (Nat.not_lt_zero _)
  | succ n ih =>
    intro m h hx
    show x ∈ yj_P M 0 0 n m ++ yj_W M 0 0 n (m + (yj_P M 0 0 n m).length)
    by_cases e : l = n
    · subst e
      exact List.mem_append_right _ (vt_mem_W hx)
    · exact List.mem_append_left _ (ih (by omega) hx)
theorem vt_L_mem : ∀ {c k i : Nat}, k ≤ i → i < k + c → yr_en (M 67 i) (M 68 i) ∈ yr_L M k c := by
  intro c
  induction c with
  | zero => intro k i h1 h2; omega
  | succ c ih =>
    intro k i h1 h2
    show yr_en (M 67 i) (M 68 i) ∈ yr_L M k c ++ [yr_en (M 67 (k + c)) (M 68 (k + c))]
    by_cases e : i = k + c
    · rw [e]
      exact List.mem_append_right _ (List.mem_singleton.mpr rfl)
    · exact List.mem_append_left _ (ih h1 (by omega))
theorem vt_L_at : ∀ {c k : Nat}, x ∈ yr_L M k c → ∃ i, k ≤ i ∧ i < k + c ∧ x = yr_en (M 67 i) (M 68 i) := by
  intro c
  induction c with
  | zero => intro k h; cases h
  | succ c ih =>
    intro k h
    have h : x ∈ yr_L M k c ++ [yr_en (M 67 (k + c)) (M 68 (k + c))] := h
    rcases List.mem_append.mp h with h | h
    · obtain ⟨i, h1, h2, h3⟩ := ih h
      exact ⟨i, h1, by omega, h3⟩
    · exact ⟨k + c, by omega, by omega, List.mem_singleton.mp h⟩
/-- names are names -/
theorem wf_names : ∀ (c k n : Nat), (wf_run M c k n).isSome = true → ∀ i, k ≤ i → i < k + c → M 67 i = 2 → 0 ≤ M 68 i ∧ M 68 i ≤ 5 := by
  intro c
  induction c with
  | zero => intro k n _ i h1 h2; omega
  | succ c ih =>
    intro k n h i h1 h2 h3
    have h : (match wf_st M k n with
      | some m => wf_run M c (k + 1) m
      | none => none).isSome = true := h
    cases e : wf_st M k n with
    | none => rw [e] at h; cases h
    | some m =>
      rw [e] at h
      by_cases c9 : i = k
      · subst c9
        unfold wf_st at e
        rw [h3, if_neg (by decide), if_pos rfl] at e
        by_cases c8 : 0 ≤ M 68 i ∧ M 68 i ≤ 5
        · exact c8
        · rw [if_neg c8] at e; cases e
      · exact ih (k + 1) m h i (by omega) (by omega) h3
theorem vt_p_of {w v : Int} (h : vt_ok (yr_en w v)) (h2 : w = 2 → 0 ≤ v ∧ v ≤ 5) : vt_p (yr_en w v) := by
  rcases vt_en h with ⟨e, c⟩ | e | e | e | e
  · left
    unfold yr_en
    rw [if_pos e, if_pos c]
    exact c
  · right; left
    have := h2 e
    unfold yr_en
    rw [e, if_neg (by decide), if_pos rfl]
    omega
  · right; right; left
    rw [e]
    rfl
  · right; right; right; left
    rw [e]
    rfl
  · right; right; right; right
    exact ⟨w, e, yr_en_op e⟩
theorem vt_seg {a b : Int} (h0 : 0 ≤ a) (h1 : a ≤ b) (hw : wf_seg M a.toNat b.toNat) (ok : ∀ i : Nat, a ≤ (i : Int) → (i : Int) < b → vt_ok (yr_en (M 67 i) (M 68 i))) : (∀ N : Nat → Int, (vt_sr N (yr_L M a.toNat (b - a).toNat) []).isSome = true) ∧ ∀ i : Nat, a ≤ (i : Int) → (i : Int) < b → wu_K M i := by
  have ec : b.toNat - a.toNat = (b - a).toNat := by omega
  unfold wf_seg at hw
  rw [ec] at hw
  refine ⟨fun N => ?_, fun i h2 h3 => ⟨ok i h2 h3, wf_names _ _ _ hw i (by omega) (by omega)⟩⟩
  obtain ⟨m, hm⟩ := Option.isSome_iff_exists.mp hw
  obtain ⟨U, hU, -⟩ := vt_run_ok (N := N) (b - a).toNat a.toNat 0 m hm (fun i h2 h3 => ok i (by omega) (by omega)) [] rfl
  rw [hU]
  rfl
/-- the lines of a law that is in force -/
theorem vt_lines (hw : WF M) (hR : vu_R M) (h1 : M 53 33 = 1) {l : Nat} (hl : (l : Int) < M 69 0) : vt_ln M l := by
  rcases hR with hR | ⟨-, -, -, eP, hD, -, hN⟩
  · omega
  · obtain ⟨b1, b2, b3, b4⟩ := vu_wb hw hl
    rw [Nat.zero_add] at b2 b3 b4
    have b5 := hN l (by omega)
    rw [Nat.zero_add] at b5
    obtain ⟨-, -, -, -, w1, w2⟩ := hw.2 l hl
    have ef : wf_from M l = yj_f M 0 l := by
      unfold yj_f wf_from
      by_cases h : l = 0
      · rw [if_pos h, if_pos h]
      · rw [if_neg h, if_neg h, Nat.zero_add]
    rw [ef] at w1
    rw [eP] at hD
    have okA : ∀ i : Nat, yj_f M 0 l ≤ (i : Int) → (i : Int) < M 70 l → vt_ok (yr_en (M 67 i) (M 68 i)) := fun i h2 h3 => hD _ (vt_mem_P (l := l) (by omega) (Or.inl ⟨vt_L_mem (by omega) (by omega), by omega⟩))
    have okB : ∀ i : Nat, M 70 l ≤ (i : Int) → (i : Int) < M 71 l → vt_ok (yr_en (M 67 i) (M 68 i)) := fun i h2 h3 => hD _ (vt_mem_P (l := l) (by omega) (Or.inr (vt_L_mem (by omega) (by omega))))
    obtain ⟨a1, a2⟩ := vt_seg b1 b2 w1 okA
    obtain ⟨c1, c2⟩ := vt_seg (by omega) b3 w2 okB
    have kk : ∀ i : Nat, yj_f M 0 l ≤ (i : Int) → (i : Int) < M 71 l → wu_K M i := fun i h2 h3 => by
      by_cases c : (i : Int) < M 70 l
      · exact a2 i h2 c
      · exact c2 i (by omega) h3
    refine ⟨⟨b1, b2, b5, b4⟩, a1, c1, kk, fun x hx => ?_, fun x hx => ?_⟩
    · obtain ⟨i, h2, h3, rfl⟩ := vt_L_at hx
      obtain ⟨k1, k2⟩ := kk i (by omega) (by omega)
      exact vt_p_of k1 k2
    · obtain ⟨i, h2, h3, rfl⟩ := vt_L_at hx
      obtain ⟨k1, k2⟩ := kk i (by omega) (by omega)
      exact vt_p_of k1 k2
end
