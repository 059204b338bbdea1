/-! The reference's parser: the new text becomes the law. -/
section
variable {L : Nat} {xs : Nat → Int32} {M M0 M1 : Nat → Nat → Int}
theorem wf_run_sh : ∀ (c k n : Nat), (∀ i, k ≤ i → i < k + c → M1 67 i = M 67 (130 + i) ∧ M1 68 i = M 68 (130 + i)) → wf_run M1 c k n = wf_run M c (130 + k) n := by
  intro c
  induction c with
  | zero => intro k n _; rfl
  | succ c ih =>
    intro k n h
    have h0 := h k (Nat.le_refl _) (by omega)
    have e : wf_st M1 k n = wf_st M (130 + k) n := by
      unfold wf_st
      rw [h0.1, h0.2]
    show (match wf_st M1 k n with
      | some m => wf_run M1 c (k + 1) m
      | none => none) = (match wf_st M (130 + k) n with
      | some m => wf_run M c (130 + k + 1) m
      | none => none)
    rw [e]
    cases wf_st M (130 + k) n with
    | none => rfl
    | some m => exact ih (k + 1) m (fun i h1 h2 => h i (by omega) (by omega))
theorem rt_new {n : Nat} (h : ∀ l, l < n → rt_L M l) (hn : n ≤ 61) (hl : M 53 25 ≤ 130) (h69 : M1 69 0 = (n : Int)) (h6 : ∀ i : Nat, (i : Int) < M 53 25 → M1 67 i = M 67 (130 + i) ∧ M1 68 i = M 68 (130 + i)) (h7 : ∀ i, i < n → M1 70 i = M 70 (61 + i) ∧ M1 71 i = M 71 (61 + i)) : WF M1 := by
  refine ⟨by rw [h69]; omega, fun l hl' => ?_⟩
  rw [h69] at hl'
  have hl2 : l < n := by omega
  obtain ⟨a1, a2, a3, a4, a5, a6⟩ := h l hl2
  obtain ⟨e1, e2⟩ := h7 l hl2
  have ef : wf_from M1 l = rt_from M l := by
    unfold wf_from rt_from
    by_cases h : l = 0
    · rw [if_pos h, if_pos h]
    · rw [if_neg h, if_neg h]
      exact (h7 (l - 1) (by omega)).2
  have es : ∀ {a b : Int}, 0 ≤ a → a ≤ b → b ≤ M 53 25 → lz_seg M a b → wf_seg M1 a.toNat b.toNat := fun {a b} h0 h1 h2 h => by
    unfold lz_seg at h
    unfold wf_seg
    rw [wf_run_sh _ _ _ (fun i h3 h4 => h6 i (by omega)), show b.toNat - a.toNat = (b - a).toNat by omega, show 130 + a.toNat = (130 + a).toNat by omega]
    exact h
  rw [ef, e1, e2]
  exact ⟨a1, a2, a3, by omega, es a1 a2 (by omega) a5, es (by omega) a3 a4 a6⟩
end
