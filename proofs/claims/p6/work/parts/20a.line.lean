/-! The reference's parser: a line of the text. -/
section
variable {L : Nat} {xs : Nat → Int32} {M MM M0 M1 M2 M3 M4 M5 : Nat → Nat → Int} {ρ : Nat → Int}
/-- what the lines may change -/
def lz_c : ct_C := ([(2, 53, 53)], [], [(53, 22, sx_r32), (53, 23, sx_r32), (53, 24, sx_r32), (53, 25, sx_r32)], [67, 68, 69, 70, 71], none, 60, false)
theorem lz_tr (h1 : ct_fr lz_c M0 M1) (h2 : ct_fr lz_c M1 M2) : ct_fr lz_c M0 M2 := fun a i ha hm hp => (h2 a i ha hm hp).trans (h1 a i ha hm hp)
theorem lz_up (h : ct_fr ps_c M M1) : ct_fr lz_c M M1 := fun a i ha hm hp => h a i ha (fun h9 => hm (by
  simp only [ps_c, List.mem_cons, List.not_mem_nil, or_false] at h9
  rcases h9 with rfl | rfl <;> simp [lz_c])) hp
theorem lz_T (h : ct_fr lz_c M M1) : M1 53 21 = M 53 21 := h 53 21 (by decide) (by decide) (fun g hg => by
  simp only [lz_c, List.mem_cons, List.not_mem_nil, or_false] at hg
  rcases hg with rfl | rfl | rfl | rfl <;> decide)
theorem ps_oth {a : Nat} (ha : a < 128) (h53 : a ≠ 53) (h67 : a ≠ 67) (h68 : a ≠ 68) (h : ct_fr ps_c M M1) : M1 a = M a := by
  funext i
  refine h a i ha (fun hm => ?_) (fun g hg e => ?_)
  · simp only [ps_c, List.mem_cons, List.not_mem_nil, or_false] at hm
    omega
  · simp only [ps_c, List.mem_cons, List.not_mem_nil, or_false] at hg
    rcases hg with rfl | rfl | rfl | rfl <;> exact absurd e.symm h53
/-- a part of the text from step a to step b at the new place can be worked -/
def lz_seg (M : Nat → Nat → Int) (a b : Int) : Prop := (wf_run M (b - a).toNat (130 + a).toNat 0).isSome = true
theorem lz_seg_on {a b : Int} (ha : 0 ≤ a) (h : lz_seg M a b) (he : ∀ i : Nat, (i : Int) < 130 + b → M1 67 i = M 67 i ∧ M1 68 i = M 68 i) : lz_seg M1 a b := by
  unfold lz_seg at h ⊢
  rw [wf_run_on _ _ _ (fun i h1 h2 => he i (by omega))]
  exact h
theorem lz_seg_of {a b : Int} (h : ps_seg M (130 + a).toNat (b - a).toNat) : lz_seg M a b := by
  unfold lz_seg
  rw [h 0]
  rfl
theorem lz_seg_0 {a : Int} : lz_seg M a a := by
  unfold lz_seg
  rw [show (a - a).toNat = 0 by omega]
  rfl
theorem ps_seg_pos {k c : Nat} (h : ps_seg M k c) : 1 ≤ c := by
  cases c with
  | zero =>
    have := h 0
    have : some 0 = some (0 + 1) := this
    cases this
  | succ c => omega
/-- a place in the text is noted; dh: signs read -/
def lz_s (dh : Int) (M M1 : Nat → Nat → Int) : Prop := sx_mok cl_ly M1 ∧ ct_fr lz_c M M1 ∧ M1 53 22 = M 53 22 + dh ∧ M1 53 22 ≤ M 53 21 ∧ M1 53 23 = M 53 23 ∧ M1 53 24 = M 53 24 ∧ M1 53 25 = M 53 25 ∧ M1 67 = M 67 ∧ M1 68 = M 68 ∧ M1 69 = M 69 ∧ M1 71 = M 71 ∧ M1 70 (61 + M 69 1).toNat = M 53 25 ∧ ∀ i : Nat, (i : Int) ≠ 61 + M 69 1 → M1 70 i = M 70 i
/-- the line is ended -/
def lz_e (M M1 : Nat → Nat → Int) : Prop := sx_mok cl_ly M1 ∧ ct_fr lz_c M M1 ∧ M1 53 22 = M 53 22 ∧ M1 53 23 = M 53 23 ∧ M1 53 24 = M 53 24 ∧ M1 53 25 = M 53 25 ∧ M1 67 = M 67 ∧ M1 68 = M 68 ∧ M1 70 = M 70 ∧ M1 69 1 = M 69 1 + 1 ∧ (∀ i : Nat, i ≠ 1 → M1 69 i = M 69 i) ∧ M1 71 (61 + M 69 1).toNat = M 53 25 ∧ ∀ i : Nat, (i : Int) ≠ 61 + M 69 1 → M1 71 i = M 71 i
/-- what a line does -/
def lz_R (M M' : Nat → Nat → Int) : Prop := sx_mok cl_ly M' ∧ ct_fr lz_c M M' ∧ M 53 22 ≤ M' 53 22 ∧ M' 53 22 ≤ M 53 21 ∧ M 53 25 ≤ M' 53 25 ∧ (∀ i : Nat, (i : Int) < 130 + M 53 25 → M' 67 i = M 67 i ∧ M' 68 i = M 68 i) ∧ M' 69 1 = M 69 1 + 1 ∧ (∀ i : Nat, i ≠ 1 → M' 69 i = M 69 i) ∧ (∀ i : Nat, (i : Int) ≠ 61 + M 69 1 → M' 70 i = M 70 i ∧ M' 71 i = M 71 i) ∧ ((M' 53 23 = -1 ∧ M' 53 24 = M 53 24 ∧ M' 53 25 - M 53 25 ≤ M' 53 22 - M 53 22 ∧ M 53 22 < M' 53 22 ∧ M' 71 (61 + M 69 1).toNat = M' 53 25 ∧ M 53 25 ≤ M' 70 (61 + M 69 1).toNat ∧ M' 70 (61 + M 69 1).toNat ≤ M' 53 25 ∧ lz_seg M' (M 53 25) (M' 70 (61 + M 69 1).toNat) ∧ lz_seg M' (M' 70 (61 + M 69 1).toNat) (M' 53 25)) ∨ (0 ≤ M' 53 23 ∧ M' 53 23 ≤ M 53 21 ∧ M 53 24 ≤ M' 53 24 ∧ M' 53 24 ≤ 6 ∧ M' 53 25 - M 53 25 ≤ M' 53 22 - M 53 22 + 1))
theorem lz_P {dh : Int} (hd : 0 ≤ dh) (hP : ps_P M) (h : lz_s dh M M1) : ps_P M1 := by
  obtain ⟨p1, p2, p3, p4, p5, p6, p7, p8⟩ := hP
  obtain ⟨a1, a2, a3, a4, a5, a6, a7, -⟩ := h
  have t := lz_T a2
  exact ⟨a1, by omega, by omega, by omega, by omega, by omega, by omega, by omega⟩
theorem lz_one (hP : ps_P M0) (hn : 0 ≤ M0 69 1) (h1 : lz_s 0 M0 M1) (h2 : ps_R M1 M2) (h3 : lz_e M2 M3) : lz_R M0 M3 := by
  obtain ⟨p1, p2, p3, p4, p5, p6, p7, p8⟩ := hP
  obtain ⟨a1, a2, a3, a4, a5, a6, a7, a8, a9, a10, a11, a12, a13⟩ := h1
  obtain ⟨b1, b2, b3, b4, b5, b6, b7⟩ := h2
  obtain ⟨c1, c2, c3, c4, c5, c6, c7, c8, c9, c10, c11, c12, c13⟩ := h3
  have t1 := lz_T a2
  have t2 := ps_T b2
  have o69 : M2 69 = M1 69 := ps_oth (by decide) (by decide) (by decide) (by decide) b2
  have o70 : M2 70 = M1 70 := ps_oth (by decide) (by decide) (by decide) (by decide) b2
  have o71 : M2 71 = M1 71 := ps_oth (by decide) (by decide) (by decide) (by decide) b2
  rw [o69, a10] at c10 c12 c13
  have e70 : M3 70 (61 + M0 69 1).toNat = M0 53 25 := by rw [c9, o70]; exact a12
  refine ⟨c1, lz_tr a2 (lz_tr (lz_up b2) c2), by omega, by omega, by omega, fun i hi => ?_, c10, fun i hi => by rw [c11 i hi, o69, a10], fun i hi => ⟨by rw [c9, o70]; exact a13 i hi, by rw [c13 i hi, o71, a11]⟩, ?_⟩
  · obtain ⟨u1, u2⟩ := b6 i (by omega)
    rw [c7, c8, u1, u2, a8, a9]
    exact ⟨rfl, rfl⟩
  · rcases b7 with ⟨k1, k2, k3, k4⟩ | ⟨k1, k2, k3, k4, k5⟩
    · left
      have kp := ps_seg_pos k4
      have s1 : lz_seg M3 (M1 53 25) (M2 53 25) := lz_seg_on (by omega) (lz_seg_of k4) (fun i _ => by rw [c7, c8]; exact ⟨rfl, rfl⟩)
      rw [e70]
      refine ⟨by omega, by omega, by omega, by omega, by omega, by omega, by omega, lz_seg_0, ?_⟩
      rw [c6, ← a7]
      exact s1
    · right
      exact ⟨by omega, by omega, by omega, by omega, by omega⟩
theorem lz_two (hP : ps_P M0) (hn : 0 ≤ M0 69 1) (h1 : lz_s 0 M0 M1) (h2 : ps_R M1 M2) (hf : M2 53 23 = -1) (h3 : lz_s 1 M2 M3) (h4 : ps_R M3 M4) (h5 : lz_e M4 M5) : lz_R M0 M5 := by
  obtain ⟨p1, p2, p3, p4, p5, p6, p7, p8⟩ := hP
  obtain ⟨a1, a2, a3, a4, a5, a6, a7, a8, a9, a10, a11, a12, a13⟩ := h1
  obtain ⟨b1, b2, b3, b4, b5, b6, b7⟩ := h2
  obtain ⟨d1, d2, d3, d4, d5, d6, d7, d8, d9, d10, d11, d12, d13⟩ := h3
  obtain ⟨f1, f2, f3, f4, f5, f6, f7⟩ := h4
  obtain ⟨c1, c2, c3, c4, c5, c6, c7, c8, c9, c10, c11, c12, c13⟩ := h5
  have t1 := lz_T a2
  have t2 := ps_T b2
  have t3 := lz_T d2
  have t4 := ps_T f2
  have o69 : M2 69 = M1 69 := ps_oth (by decide) (by decide) (by decide) (by decide) b2
  have o70 : M2 70 = M1 70 := ps_oth (by decide) (by decide) (by decide) (by decide) b2
  have o71 : M2 71 = M1 71 := ps_oth (by decide) (by decide) (by decide) (by decide) b2
  have q69 : M4 69 = M3 69 := ps_oth (by decide) (by decide) (by decide) (by decide) f2
  have q70 : M4 70 = M3 70 := ps_oth (by decide) (by decide) (by decide) (by decide) f2
  have q71 : M4 71 = M3 71 := ps_oth (by decide) (by decide) (by decide) (by decide) f2
  rw [o69, a10] at d12 d13
  rw [q69, d10, o69, a10] at c10 c12 c13
  have e70 : M5 70 (61 + M0 69 1).toNat = M2 53 25 := by rw [c9, q70]; exact d12
  rcases b7 with ⟨k1, k2, k3, k4⟩ | ⟨k1, -⟩
  · have kp := ps_seg_pos k4
    refine ⟨c1, lz_tr a2 (lz_tr (lz_up b2) (lz_tr d2 (lz_tr (lz_up f2) c2))), by omega, by omega, by omega, fun i hi => ?_, c10, fun i hi => by rw [c11 i hi, q69, d10, o69, a10], fun i hi => ⟨by rw [c9, q70, d13 i hi, o70]; exact a13 i hi, by rw [c13 i hi, q71, d11, o71, a11]⟩, ?_⟩
    · obtain ⟨u1, u2⟩ := b6 i (by omega)
      obtain ⟨u3, u4⟩ := f6 i (by omega)
      rw [c7, c8, u3, u4, d8, d9, u1, u2, a8, a9]
      exact ⟨rfl, rfl⟩
    · rcases f7 with ⟨l1, l2, l3, l4⟩ | ⟨l1, l2, l3, l4, l5⟩
      · left
        have lp := ps_seg_pos l4
        have s1 : lz_seg M5 (M1 53 25) (M2 53 25) := lz_seg_on (by omega) (lz_seg_of k4) (fun i hi => by
          obtain ⟨u3, u4⟩ := f6 i (by omega)
          rw [c7, c8, u3, u4, d8, d9]
          exact ⟨rfl, rfl⟩)
        have s2 : lz_seg M5 (M3 53 25) (M4 53 25) := lz_seg_on (by omega) (lz_seg_of l4) (fun i _ => by rw [c7, c8]; exact ⟨rfl, rfl⟩)
        rw [e70]
        refine ⟨by omega, by omega, by omega, by omega, by omega, by omega, by omega, ?_, ?_⟩
        · rw [← a7]; exact s1
        · rw [c6, ← d7]; exact s2
      · right
        exact ⟨by omega, by omega, by omega, by omega, by omega⟩
  · omega
end
