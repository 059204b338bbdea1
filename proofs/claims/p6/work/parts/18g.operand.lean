/-! The reference's parser: operand, the proof. -/
section
variable {L : Nat} {xs : Nat → Int32} {M MM M0 M1 M2 M3 : Nat → Nat → Int} {ρ : Nat → Int}
/-- a sign that opens was read -/
def po_D (M M1 : Nat → Nat → Int) : Prop := sx_mok cl_ly M1 ∧ ct_fr ps_c M M1 ∧ M1 53 22 = M 53 22 + 1 ∧ M1 53 22 ≤ M 53 21 ∧ M1 53 23 = M 53 23 ∧ M1 53 24 = M 53 24 + 1 ∧ M1 53 24 ≤ 6 ∧ M1 53 25 = M 53 25 ∧ M1 67 = M 67 ∧ M1 68 = M 68
theorem po_P (hP : ps_P M) (h : po_D M M1) : ps_P M1 := by
  obtain ⟨p1, p2, p3, p4, p5, p6, p7, p8⟩ := hP
  obtain ⟨a1, a2, a3, a4, a5, a6, a7, a8, a9, a10⟩ := h
  have t := ps_T a2
  exact ⟨a1, by omega, by omega, by omega, by omega, by omega, by omega, a7⟩
theorem po_un {z : Int} (hz : z = 3 ∨ z = 4) (hP : ps_P M) (h1 : po_D M M1) (h2 : ps_R M1 M2) (m3 : sx_mok cl_ly M3) (f3 : ct_fr ps_c M2 M3) (e22 : M3 53 22 = M2 53 22) (e23 : M3 53 23 = M2 53 23) (e24 : M3 53 24 = M2 53 24 - 1) (e25 : M3 53 25 = M2 53 25 + 1) (e67 : M3 67 (130 + M2 53 25).toNat = z) (eo : ∀ i : Nat, (i : Int) ≠ 130 + M2 53 25 → M3 67 i = M2 67 i ∧ M3 68 i = M2 68 i) : ps_R M M3 := by
  obtain ⟨p1, p2, p3, p4, p5, p6, p7, p8⟩ := hP
  obtain ⟨a1, a2, a3, a4, a5, a6, a7, a8, a9, a10⟩ := h1
  obtain ⟨c1, c2, c3, c4, c5, c6, c7⟩ := h2
  have t1 := ps_T a2
  have t2 := ps_T c2
  refine ⟨m3, ps_fr_tr a2 (ps_fr_tr c2 f3), by omega, by omega, by omega, fun i hi => ?_, ?_⟩
  · obtain ⟨u1, u2⟩ := eo i (by omega)
    obtain ⟨u3, u4⟩ := c6 i (by omega)
    rw [u1, u2, u3, u4, a9, a10]
    exact ⟨rfl, rfl⟩
  · rcases c7 with ⟨k1, k2, k3, k4⟩ | ⟨k1, k2, k3, k4, k5⟩
    · left
      refine ⟨by omega, by omega, by omega, ?_⟩
      have s1 : ps_seg M3 (130 + M1 53 25).toNat (M2 53 25 - M1 53 25).toNat := ps_seg_on k4 (fun i h1 h2 => eo i (by omega))
      have := ps_seg_un s1 (by
        have e2 : (130 + M1 53 25).toNat + (M2 53 25 - M1 53 25).toNat = (130 + M2 53 25).toNat := by omega
        rw [e2, e67]
        exact hz)
      have e3 : (M2 53 25 - M1 53 25).toNat + 1 = (M3 53 25 - M 53 25).toNat := by omega
      rw [e3, a8] at this
      exact this
    · right
      exact ⟨by omega, by omega, by omega, by omega, by omega⟩
theorem po_br0 (hP : ps_P M) (h1 : po_D M M1) (h2 : ps_R M1 M2) (hf : 0 ≤ M2 53 23) (m3 : sx_mok cl_ly M3) (he : ∀ a, a < 128 → M3 a = M2 a) : ps_R M M3 := by
  obtain ⟨p1, p2, p3, p4, p5, p6, p7, p8⟩ := hP
  obtain ⟨a1, a2, a3, a4, a5, a6, a7, a8, a9, a10⟩ := h1
  obtain ⟨c1, c2, c3, c4, c5, c6, c7⟩ := ps_R_same h2 m3 he
  have t1 := ps_T a2
  have e53 := he 53 (by decide)
  rw [← e53] at hf
  refine ⟨m3, ps_fr_tr a2 c2, by omega, by omega, by omega, fun i hi => ?_, ?_⟩
  · obtain ⟨u3, u4⟩ := c6 i (by omega)
    rw [u3, u4, a9, a10]
    exact ⟨rfl, rfl⟩
  · right
    rcases c7 with ⟨k1, -⟩ | ⟨k1, k2, k3, k4, k5⟩
    · omega
    · exact ⟨by omega, by omega, by omega, by omega, by omega⟩
theorem po_br1 (hP : ps_P M) (h1 : po_D M M1) (h2 : ps_R M1 M2) (hf : M2 53 23 = -1) (m3 : sx_mok cl_ly M3) (f3 : ct_fr ps_c M2 M3) (e22 : M3 53 22 = M2 53 22) (e23 : M3 53 23 = M2 53 22) (e24 : M3 53 24 = M2 53 24) (e25 : M3 53 25 = M2 53 25) (e67 : M3 67 = M2 67) (e68 : M3 68 = M2 68) : ps_R M M3 := by
  obtain ⟨p1, p2, p3, p4, p5, p6, p7, p8⟩ := hP
  obtain ⟨a1, a2, a3, a4, a5, a6, a7, a8, a9, a10⟩ := h1
  obtain ⟨c1, c2, c3, c4, c5, c6, c7⟩ := h2
  have t1 := ps_T a2
  refine ⟨m3, ps_fr_tr a2 (ps_fr_tr c2 f3), by omega, by omega, by omega, fun i hi => ?_, ?_⟩
  · obtain ⟨u3, u4⟩ := c6 i (by omega)
    rw [e67, e68, u3, u4, a9, a10]
    exact ⟨rfl, rfl⟩
  · right
    rcases c7 with ⟨k1, k2, k3, k4⟩ | ⟨k1, -⟩
    · exact ⟨by omega, by omega, by omega, by omega, by omega⟩
    · omega
theorem po_br2 (hP : ps_P M) (h1 : po_D M M1) (h2 : ps_R M1 M2) (hf : M2 53 23 = -1) (m3 : sx_mok cl_ly M3) (f3 : ct_fr ps_c M2 M3) (e22 : M3 53 22 = M2 53 22 + 1) (hT : M2 53 22 < M2 53 21) (e23 : M3 53 23 = M2 53 23) (e24 : M3 53 24 = M2 53 24 - 1) (e25 : M3 53 25 = M2 53 25) (e67 : M3 67 = M2 67) (e68 : M3 68 = M2 68) : ps_R M M3 := by
  obtain ⟨p1, p2, p3, p4, p5, p6, p7, p8⟩ := hP
  obtain ⟨a1, a2, a3, a4, a5, a6, a7, a8, a9, a10⟩ := h1
  obtain ⟨c1, c2, c3, c4, c5, c6, c7⟩ := h2
  have t1 := ps_T a2
  have t2 := ps_T c2
  refine ⟨m3, ps_fr_tr a2 (ps_fr_tr c2 f3), by omega, by omega, by omega, fun i hi => ?_, ?_⟩
  · obtain ⟨u3, u4⟩ := c6 i (by omega)
    rw [e67, e68, u3, u4, a9, a10]
    exact ⟨rfl, rfl⟩
  · left
    rcases c7 with ⟨k1, k2, k3, k4⟩ | ⟨k1, -⟩
    · refine ⟨by omega, by omega, by omega, ?_⟩
      rw [e25, ← a8]
      exact ps_seg_on k4 (fun i _ _ => by rw [e67, e68]; exact ⟨rfl, rfl⟩)
    · omega
/-- a step of its own: a name, a number -/
theorem po_leaf {n : Int} (hP : ps_P M) (m1 : sx_mok cl_ly M1) (f1 : ct_fr ps_c M M1) (h0 : 0 ≤ n) (hT : M 53 22 + n ≤ M 53 21) (e22 : M1 53 22 = M 53 22 + n) (e24 : M1 53 24 = M 53 24) (e25 : M1 53 25 = M 53 25 + 1) (hs : M1 67 (130 + M 53 25).toNat = 1 ∨ (M1 67 (130 + M 53 25).toNat = 2 ∧ 0 ≤ M1 68 (130 + M 53 25).toNat ∧ M1 68 (130 + M 53 25).toNat ≤ 5)) (eo : ∀ i : Nat, (i : Int) ≠ 130 + M 53 25 → M1 67 i = M 67 i ∧ M1 68 i = M 68 i) (hf : (M1 53 23 = -1 ∧ 1 ≤ n) ∨ (M1 53 23 = M 53 22 + n)) : ps_R M M1 := by
  obtain ⟨p1, p2, p3, p4, p5, p6, p7, p8⟩ := hP
  refine ⟨m1, f1, by omega, by omega, by omega, fun i hi => eo i (by omega), ?_⟩
  rcases hf with ⟨hf, hn⟩ | hf
  · left
    refine ⟨hf, e24, by omega, ?_⟩
    rw [show (M1 53 25 - M 53 25).toNat = 1 by omega]
    exact ps_seg_one hs
  · right
    exact ⟨by omega, by omega, by omega, by omega, by omega⟩
theorem po_f55 : (sm_MT 181).2.2.2.2.2 55 = some (.invokevirtual 228, 3) := rfl
end
