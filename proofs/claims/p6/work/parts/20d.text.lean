/-! The reference's parser: what holds between the lines of a text. -/
section
variable {L : Nat} {xs : Nat → Int32} {M M0 M1 : Nat → Nat → Int}
/-- place 0 of the law is as it was -/
def rt_B (M0 M : Nat → Nat → Int) : Prop := sx_mok cl_ly M ∧ ct_fr lz_c M0 M ∧ (∀ i : Nat, i < 130 → M 67 i = M0 67 i ∧ M 68 i = M0 68 i) ∧ (∀ i : Nat, i ≠ 1 → M 69 i = M0 69 i) ∧ ∀ i : Nat, i < 61 → M 70 i = M0 70 i ∧ M 71 i = M0 71 i
def rt_from (M : Nat → Nat → Int) (l : Nat) : Int := if l = 0 then 0 else M 71 (61 + (l - 1))
/-- line l of the new place can be worked -/
def rt_L (M : Nat → Nat → Int) (l : Nat) : Prop := 0 ≤ rt_from M l ∧ rt_from M l ≤ M 70 (61 + l) ∧ M 70 (61 + l) ≤ M 71 (61 + l) ∧ M 71 (61 + l) ≤ M 53 25 ∧ lz_seg M (rt_from M l) (M 70 (61 + l)) ∧ lz_seg M (M 70 (61 + l)) (M 71 (61 + l))
/-- n lines stand, without a fault; c: whether a ; is still to be read -/
def rt_I (c : Int) (M0 M : Nat → Nat → Int) (n : Nat) : Prop := rt_B M0 M ∧ ps_P M ∧ M 53 24 = 0 ∧ M 69 1 = (n : Int) ∧ 2 * (n : Int) ≤ M 53 22 + c ∧ rt_from M n = M 53 25 ∧ ∀ l, l < n → rt_L M l
theorem rt_L_on {l : Nat} (h : rt_L M l) (hl : M 53 25 ≤ M1 53 25) (h6 : ∀ i : Nat, (i : Int) < 130 + M 53 25 → M1 67 i = M 67 i ∧ M1 68 i = M 68 i) (h7 : ∀ i, i ≤ 61 + l → M1 70 i = M 70 i ∧ M1 71 i = M 71 i) : rt_L M1 l := by
  obtain ⟨a1, a2, a3, a4, a5, a6⟩ := h
  have e0 : rt_from M1 l = rt_from M l := by
    unfold rt_from
    by_cases h : l = 0
    · rw [if_pos h, if_pos h]
    · rw [if_neg h, if_neg h]
      exact (h7 _ (by omega)).2
  obtain ⟨e1, e2⟩ := h7 (61 + l) (Nat.le_refl _)
  unfold rt_L
  rw [e0, e1, e2]
  exact ⟨a1, a2, a3, by omega, lz_seg_on a1 a5 (fun i hi => h6 i (by omega)), lz_seg_on (by omega) a6 (fun i hi => h6 i (by omega))⟩
theorem rt_line {n : Nat} (h : rt_I 0 M0 M n) (hR : lz_R M M1) : rt_B M0 M1 ∧ ((M1 53 23 = -1 ∧ rt_I 1 M0 M1 (n + 1)) ∨ (0 ≤ M1 53 23 ∧ M1 53 23 ≤ 120)) := by
  obtain ⟨⟨b1, b2, b3, b4, b5⟩, ⟨p1, p2, p3, p4, p5, p6, p7, p8⟩, i1, i2, i3, i4, i5⟩ := h
  obtain ⟨a1, a2, a3, a4, a5, a6, a7, a8, a9, a10⟩ := hR
  have t := lz_T a2
  have hT := pz_T p1
  have hB : rt_B M0 M1 := ⟨a1, lz_tr b2 a2, fun i hi => by
    obtain ⟨u1, u2⟩ := a6 i (by omega)
    rw [u1, u2]
    exact b3 i hi, fun i hi => by rw [a8 i hi, b4 i hi], fun i hi => by
    obtain ⟨u1, u2⟩ := a9 i (by omega)
    rw [u1, u2]
    exact b5 i hi⟩
  refine ⟨hB, ?_⟩
  rcases a10 with ⟨k1, k2, k3, k4, k5, k6, k7, k8, k9⟩ | ⟨k1, k2, k3, k4, k5⟩
  · left
    have en : (61 + M 69 1).toNat = 61 + n := by rw [i2]; omega
    rw [en] at k5 k6 k7 k8 k9
    have ef : rt_from M1 n = M 53 25 := by
      rw [← i4]
      unfold rt_from
      by_cases h : n = 0
      · rw [if_pos h, if_pos h]
      · rw [if_neg h, if_neg h]
        exact (a9 _ (by omega)).2
    refine ⟨k1, hB, ⟨a1, k1, by omega, by omega, by omega, by omega, by omega, by omega⟩, by omega, by omega, by omega, ?_, fun l hl => ?_⟩
    · show (if n + 1 = 0 then (0 : Int) else M1 71 (61 + (n + 1 - 1))) = _
      rw [if_neg (by omega)]
      exact k5
    · by_cases h : l = n
      · subst h
        unfold rt_L
        rw [ef, k5]
        exact ⟨by omega, k6, k7, Int.le_refl _, k8, k9⟩
      · exact rt_L_on (i5 l (by omega)) a5 a6 (fun i hi => a9 i (by omega))
  · right
    exact ⟨k1, by omega⟩
theorem rt_semi {n : Nat} (h : rt_I 1 M0 M n) (hh : ps_hd M M1) : rt_I 0 M0 M1 n := by
  obtain ⟨⟨b1, b2, b3, b4, b5⟩, ⟨p1, p2, p3, p4, p5, p6, p7, p8⟩, i1, i2, i3, i4, i5⟩ := h
  obtain ⟨a1, a2, a3, a4, a5, a6, a7, a8, a9⟩ := hh
  have t := ps_T a2
  have o69 : M1 69 = M 69 := ps_oth (by decide) (by decide) (by decide) (by decide) a2
  have o70 : M1 70 = M 70 := ps_oth (by decide) (by decide) (by decide) (by decide) a2
  have o71 : M1 71 = M 71 := ps_oth (by decide) (by decide) (by decide) (by decide) a2
  refine ⟨⟨a1, lz_tr b2 (lz_up a2), ?_, ?_, ?_⟩, ⟨a1, by omega, by omega, by omega, by omega, by omega, by omega, by omega⟩, by omega, by rw [o69]; exact i2, by omega, ?_, fun l hl => rt_L_on (i5 l hl) (by omega) (fun i _ => by rw [a8, a9]; exact ⟨rfl, rfl⟩) (fun i _ => by rw [o70, o71]; exact ⟨rfl, rfl⟩)⟩
  · rw [a8, a9]; exact b3
  · rw [o69]; exact b4
  · rw [o70, o71]; exact b5
  · unfold rt_from
    rw [o71, a7]
    exact i4
/-- the law at place 0 stays what it was -/
theorem rt_WF (h : rt_B M0 M) (hw : WF M0) : WF M := by
  obtain ⟨b1, b2, b3, b4, b5⟩ := h
  obtain ⟨⟨w1, w2⟩, w3⟩ := hw
  have e0 := b4 0 (by decide)
  refine ⟨by rw [e0]; exact ⟨w1, w2⟩, fun l hl => ?_⟩
  rw [e0] at hl
  obtain ⟨c1, c2, c3, c4, c5, c6⟩ := w3 l hl
  have ef : wf_from M l = wf_from M0 l := by
    unfold wf_from
    by_cases h : l = 0
    · rw [if_pos h, if_pos h]
    · rw [if_neg h, if_neg h]
      exact (b5 _ (by omega)).2
  obtain ⟨e1, e2⟩ := b5 l (by omega)
  have es : ∀ {a b : Nat}, b ≤ 130 → wf_seg M0 a b → wf_seg M a b := fun {a b} hb h => by
    unfold wf_seg at h ⊢
    rw [wf_run_on _ _ _ (fun i h1 h2 => b3 i (by omega))]
    exact h
  rw [ef, e1, e2]
  exact ⟨c1, c2, c3, c4, es (by omega) c5, es (by omega) c6⟩
end
