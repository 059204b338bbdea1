/-! The reference's parser: what its parts do to a text of a place; how they are put together. -/
section
variable {L : Nat} {xs : Nat → Int32} {M M0 M1 M2 M3 : Nat → Nat → Int}
theorem wf_run_add (M : Nat → Nat → Int) : ∀ (c1 c2 k n : Nat), wf_run M (c1 + c2) k n = (match wf_run M c1 k n with
    | some m => wf_run M c2 (k + c1) m
    | none => none) := by
  intro c1
  induction c1 with
  | zero =>
    intro c2 k n
    rw [Nat.zero_add]
    rfl
  | succ c1 ih =>
    intro c2 k n
    rw [show c1 + 1 + c2 = (c1 + c2) + 1 by omega]
    show (match wf_st M k n with
      | some m => wf_run M (c1 + c2) (k + 1) m
      | none => none) = (match (match wf_st M k n with
      | some m => wf_run M c1 (k + 1) m
      | none => none) with
      | some m => wf_run M c2 (k + (c1 + 1)) m
      | none => none)
    cases wf_st M k n with
    | none => rfl
    | some m =>
      show wf_run M (c1 + c2) (k + 1) m = (match wf_run M c1 (k + 1) m with
        | some m => wf_run M c2 (k + (c1 + 1)) m
        | none => none)
      rw [ih c2 (k + 1) m, show k + 1 + c1 = k + (c1 + 1) by omega]
theorem wf_run_on {M M' : Nat → Nat → Int} : ∀ (c k n : Nat), (∀ i, k ≤ i → i < k + c → M' 67 i = M 67 i ∧ M' 68 i = M 68 i) → wf_run M' c k n = wf_run M c k n := by
  intro c
  induction c with
  | zero => intro k n _; rfl
  | succ c ih =>
    intro k n h
    have h0 := h k (Nat.le_refl _) (by omega)
    have e : wf_st M' k n = wf_st M k n := by
      unfold wf_st
      rw [h0.1, h0.2]
    show (match wf_st M' k n with
      | some m => wf_run M' c (k + 1) m
      | none => none) = (match wf_st M k n with
      | some m => wf_run M c (k + 1) m
      | none => none)
    rw [e]
    cases wf_st M k n with
    | none => rfl
    | some m => exact ih (k + 1) m (fun i h1 h2 => h i (by omega) (by omega))
/-- c steps from k on leave one value more, whatever lies below -/
def ps_seg (M : Nat → Nat → Int) (k c : Nat) : Prop := ∀ n, wf_run M c k n = some (n + 1)
theorem ps_seg_on {M M' : Nat → Nat → Int} {k c : Nat} (h : ps_seg M k c) (he : ∀ i, k ≤ i → i < k + c → M' 67 i = M 67 i ∧ M' 68 i = M 68 i) : ps_seg M' k c := fun n => by
  rw [wf_run_on c k n he]
  exact h n
theorem ps_seg_bin {k c1 c2 : Nat} (h1 : ps_seg M k c1) (h2 : ps_seg M (k + c1) c2) (hz : M 67 (k + c1 + c2) ≠ 1 ∧ M 67 (k + c1 + c2) ≠ 2 ∧ M 67 (k + c1 + c2) ≠ 3 ∧ M 67 (k + c1 + c2) ≠ 4) : ps_seg M k (c1 + c2 + 1) := by
  intro n
  have hs : wf_st M (k + c1 + c2) (n + 1 + 1) = some (n + 1) := by
    unfold wf_st
    rw [if_neg hz.1, if_neg hz.2.1, if_neg (fun h => h.elim hz.2.2.1 hz.2.2.2), if_pos (by omega)]
    rfl
  rw [Nat.add_assoc c1 c2 1, wf_run_add, h1]
  show wf_run M (c2 + 1) (k + c1) (n + 1) = _
  rw [wf_run_add, h2]
  show wf_run M 1 (k + c1 + c2) (n + 1 + 1) = _
  show (match wf_st M (k + c1 + c2) (n + 1 + 1) with
    | some m => wf_run M 0 (k + c1 + c2 + 1) m
    | none => none) = _
  rw [hs]
  rfl
theorem ps_seg_un {k c : Nat} (h1 : ps_seg M k c) (hz : M 67 (k + c) = 3 ∨ M 67 (k + c) = 4) : ps_seg M k (c + 1) := by
  intro n
  have hs : wf_st M (k + c) (n + 1) = some (n + 1) := by
    unfold wf_st
    rw [if_neg (by rcases hz with h | h <;> rw [h] <;> decide), if_neg (by rcases hz with h | h <;> rw [h] <;> decide), if_pos hz, if_pos (by omega)]
  rw [wf_run_add, h1]
  show (match wf_st M (k + c) (n + 1) with
    | some m => wf_run M 0 (k + c + 1) m
    | none => none) = _
  rw [hs]
  rfl
theorem ps_seg_one {k : Nat} (hz : M 67 k = 1 ∨ (M 67 k = 2 ∧ 0 ≤ M 68 k ∧ M 68 k ≤ 5)) : ps_seg M k 1 := by
  intro n
  have hs : wf_st M k n = some (n + 1) := by
    unfold wf_st
    rcases hz with h | ⟨h, h2⟩
    · rw [if_pos h]
    · rw [if_neg (by rw [h]; decide), if_pos h, if_pos h2]
  show (match wf_st M k n with
    | some m => wf_run M 0 (k + 1) m
    | none => none) = _
  rw [hs]
  rfl
/-- what the parser's parts may change: here, fault, open, laid; the steps -/
def ps_c : ct_C := ([(2, 53, 53)], [], [(53, 22, sx_r32), (53, 23, sx_r32), (53, 24, sx_r32), (53, 25, sx_r32)], [67, 68], none, 60, false)
/-- before a part: no fault; the places are in order -/
def ps_P (M : Nat → Nat → Int) : Prop := sx_mok cl_ly M ∧ M 53 23 = -1 ∧ 0 ≤ M 53 22 ∧ M 53 22 ≤ M 53 21 ∧ 0 ≤ M 53 25 ∧ M 53 25 ≤ M 53 22 ∧ 0 ≤ M 53 24 ∧ M 53 24 ≤ 6
/-- what a part that reads does -/
def ps_R (M M' : Nat → Nat → Int) : Prop := sx_mok cl_ly M' ∧ ct_fr ps_c M M' ∧ M 53 22 ≤ M' 53 22 ∧ M' 53 22 ≤ M 53 21 ∧ M 53 25 ≤ M' 53 25 ∧ (∀ i : Nat, (i : Int) < 130 + M 53 25 → M' 67 i = M 67 i ∧ M' 68 i = M 68 i) ∧ ((M' 53 23 = -1 ∧ M' 53 24 = M 53 24 ∧ M' 53 25 - M 53 25 ≤ M' 53 22 - M 53 22 ∧ ps_seg M' (130 + M 53 25).toNat (M' 53 25 - M 53 25).toNat) ∨ (0 ≤ M' 53 23 ∧ M' 53 23 ≤ M 53 21 ∧ M 53 24 ≤ M' 53 24 ∧ M' 53 24 ≤ 6 ∧ M' 53 25 - M 53 25 ≤ M' 53 22 - M 53 22 + 1))
theorem ps_fr_tr (h1 : ct_fr ps_c M0 M1) (h2 : ct_fr ps_c M1 M2) : ct_fr ps_c M0 M2 := fun a i ha hm hp => (h2 a i ha hm hp).trans (h1 a i ha hm hp)
theorem ps_T (h : ct_fr ps_c M M1) : M1 53 21 = M 53 21 := h 53 21 (by decide) (by decide) (fun g hg => by
  simp only [ps_c, List.mem_cons, List.not_mem_nil, or_false] at hg
  rcases hg with rfl | rfl | rfl | rfl <;> decide)
/-- one more sign is read: only here goes on by one -/
def ps_hd (M M' : Nat → Nat → Int) : Prop := sx_mok cl_ly M' ∧ ct_fr ps_c M M' ∧ M' 53 22 = M 53 22 + 1 ∧ M' 53 22 ≤ M 53 21 ∧ M' 53 23 = M 53 23 ∧ M' 53 24 = M 53 24 ∧ M' 53 25 = M 53 25 ∧ M' 67 = M 67 ∧ M' 68 = M 68
/-- a step is laid: kind z, with w -/
def ps_ad (z : Int) (M M' : Nat → Nat → Int) : Prop := sx_mok cl_ly M' ∧ ct_fr ps_c M M' ∧ M' 53 22 = M 53 22 ∧ M' 53 23 = M 53 23 ∧ M' 53 24 = M 53 24 ∧ M' 53 25 = M 53 25 + 1 ∧ M' 67 (130 + M 53 25).toNat = z ∧ (∀ i : Nat, (i : Int) ≠ 130 + M 53 25 → M' 67 i = M 67 i ∧ M' 68 i = M 68 i)
/-- a chain: what was read, a sign, what is read behind it, the sign's step -/
theorem ps_chain {z : Int} (hp : ps_P M0) (h1 : ps_R M0 M1) (hf : M1 53 23 = -1) (h2 : ps_hd M1 M2) (h3 : ps_R M2 M3) {M4 : Nat → Nat → Int} (h4 : ps_ad z M3 M4) (hz : z ≠ 1 ∧ z ≠ 2 ∧ z ≠ 3 ∧ z ≠ 4) : ps_R M0 M4 := by
  obtain ⟨p1, p2, p3, p4, p5, p6, p7, p8⟩ := hp
  obtain ⟨a1, a2, a3, a4, a5, a6, a7⟩ := h1
  obtain ⟨b1, b2, b3, b4, b5, b6, b7, b8, b9⟩ := h2
  obtain ⟨c1, c2, c3, c4, c5, c6, c7⟩ := h3
  obtain ⟨d1, d2, d3, d4, d5, d6, d7, d8⟩ := h4
  have t1 := ps_T a2
  have t2 := ps_T b2
  have t3 := ps_T c2
  have a7 : M1 53 24 = M0 53 24 ∧ M1 53 25 - M0 53 25 ≤ M1 53 22 - M0 53 22 ∧ ps_seg M1 (130 + M0 53 25).toNat (M1 53 25 - M0 53 25).toNat := by
    rcases a7 with h | h
    · exact h.2
    · omega
  obtain ⟨a7, a8, a9⟩ := a7
  refine ⟨d1, ps_fr_tr a2 (ps_fr_tr b2 (ps_fr_tr c2 d2)), by omega, by omega, by omega, fun i hi => ?_, ?_⟩
  · obtain ⟨e1, e2⟩ := d8 i (by omega)
    obtain ⟨e3, e4⟩ := c6 i (by omega)
    obtain ⟨e5, e6⟩ := a6 i hi
    rw [e1, e2, e3, e4, b8, b9]
    exact ⟨e5, e6⟩
  · rcases c7 with ⟨k1, k2, k3, k4⟩ | ⟨k1, k2, k3, k4, k5⟩
    · left
      refine ⟨by omega, by omega, by omega, ?_⟩
      have s1 : ps_seg M4 (130 + M0 53 25).toNat (M1 53 25 - M0 53 25).toNat := ps_seg_on a9 (fun i h1 h2 => by
        obtain ⟨e1, e2⟩ := d8 i (by omega)
        obtain ⟨e3, e4⟩ := c6 i (by omega)
        rw [e1, e2, e3, e4, b8, b9]
        exact ⟨rfl, rfl⟩)
      have s2 : ps_seg M4 (130 + M2 53 25).toNat (M3 53 25 - M2 53 25).toNat := ps_seg_on k4 (fun i h1 h2 => d8 i (by omega))
      have e1 : (130 + M2 53 25).toNat = (130 + M0 53 25).toNat + (M1 53 25 - M0 53 25).toNat := by omega
      rw [e1] at s2
      have := ps_seg_bin s1 s2 (by
        have e2 : (130 + M0 53 25).toNat + (M1 53 25 - M0 53 25).toNat + (M3 53 25 - M2 53 25).toNat = (130 + M3 53 25).toNat := by omega
        rw [e2, d7]
        exact hz)
      have e3 : (M1 53 25 - M0 53 25).toNat + (M3 53 25 - M2 53 25).toNat + 1 = (M4 53 25 - M0 53 25).toNat := by omega
      rw [e3] at this
      exact this
    · right
      refine ⟨by omega, by omega, by omega, by omega, by omega⟩
/-- behind a sign the next part may begin -/
theorem ps_next (hp : ps_P M0) (h1 : ps_R M0 M1) (hf : M1 53 23 = -1) (h2 : ps_hd M1 M2) : ps_P M2 := by
  obtain ⟨p1, p2, p3, p4, p5, p6, p7, p8⟩ := hp
  obtain ⟨a1, a2, a3, a4, a5, a6, a7⟩ := h1
  obtain ⟨b1, b2, b3, b4, b5, b6, b7, b8, b9⟩ := h2
  have t1 := ps_T a2
  have t2 := ps_T b2
  refine ⟨b1, by omega, by omega, by omega, by omega, ?_, ?_, ?_⟩
  all_goals rcases a7 with ⟨k1, k2, k3, k4⟩ | ⟨k1, k2, k3, k4, k5⟩ <;> omega
end
