/-! The law that is in force: what both sides hold of it. -/
section
variable {L : Nat} {xs : Nat → Int32} {M M' M0 M1 M2 M3 : Nat → Nat → Int} {T T' : Nat → Int} {N : Nat} {z v : Int}
/-- there is none; or the class's program is what the reference's tables tell -/
def vu_R (M : Nat → Nat → Int) : Prop := (M 53 33 = 0 ∧ M 14 7 = 0) ∨ (M 53 33 = 1 ∧ 1 ≤ M 14 7 ∧ M 14 7 ≤ 256 ∧ yh_D (M 16) (M 14 7).toNat = yj_P M 0 0 (M 69 0).toNat 0 ∧ vt_D (yh_D (M 16) (M 14 7).toNat) ∧ vt_c (yh_D (M 16) (M 14 7).toNat) ≤ 121 ∧ yj_N M 0 (M 69 0).toNat)
theorem vu_wb (hw : WF M) {l : Nat} (hl : (l : Int) < M 69 0) : yj_b M 0 l 130 := by
  obtain ⟨a, b, c, d, -, -⟩ := hw.2 l hl
  have e : yj_f M 0 l = wf_from M l := by
    unfold yj_f wf_from
    by_cases h : l = 0
    · rw [if_pos h, if_pos h]
    · rw [if_neg h, if_neg h, Nat.zero_add]
  unfold yj_b
  rw [e, Nat.zero_add]
  exact ⟨a, b, c, d⟩
/-- the law at place 0 stays what it was -/
theorem vu_keep (hw : WF M) (h6 : ∀ i : Nat, i < 130 → M' 67 i = M 67 i ∧ M' 68 i = M 68 i) (h9 : M' 69 0 = M 69 0) (h7 : ∀ i : Nat, i < 61 → M' 70 i = M 70 i ∧ M' 71 i = M 71 i) : yj_P M' 0 0 (M' 69 0).toNat = yj_P M 0 0 (M 69 0).toNat := by
  obtain ⟨w1, w2⟩ := hw.1
  rw [h9]
  exact yj_P_eq (c := 130) (fun l hl => vu_wb hw (by omega)) (fun i hi => by
    rw [Nat.zero_add]
    exact h6 i (by omega)) (fun i hi => by
    rw [Nat.zero_add]
    exact h7 i (by omega))
theorem vu_on (h : vu_R M) (hw : WF M) (e16 : M' 16 = M 16) (e7 : M' 14 7 = M 14 7) (e33 : M' 53 33 = M 53 33) (h6 : ∀ i : Nat, i < 130 → M' 67 i = M 67 i ∧ M' 68 i = M 68 i) (h9 : M' 69 0 = M 69 0) (h7 : ∀ i : Nat, i < 61 → M' 70 i = M 70 i ∧ M' 71 i = M 71 i) : vu_R M' := by
  have eN : yj_N M' 0 (M' 69 0).toNat ↔ yj_N M 0 (M 69 0).toNat := by
    obtain ⟨w1, w2⟩ := hw.1
    rw [h9]
    unfold yj_N
    refine ⟨fun g l hl => ?_, fun g l hl => ?_⟩
    · have := g l hl
      rw [(h7 (0 + l) (by omega)).1, (h7 (0 + l) (by omega)).2] at this
      exact this
    · rw [(h7 (0 + l) (by omega)).1, (h7 (0 + l) (by omega)).2]
      exact g l hl
  unfold vu_R at h ⊢
  rw [e16, e7, e33, vu_keep hw h6 h9 h7, eN]
  exact h
/-- law() of both sides: the same answer, the same law in force -/
theorem vu_law (hL : L < 2 ^ 31) (hI : la_I WF lw_cps M) (hS : ym_SS M) (hR : vu_R M) : ∃ z M1 M2, sx_w (-220, 1) z ∧ sx_w sx_r32 z ∧ lb_run L xs 32 [.ref 8] M (lb_val 0 z) M1 ∧ sx_mok cl_ly M1 ∧ lb_run L xs 173 [.ref 53] M1 (lb_val 0 z) M2 ∧ sx_mok cl_ly M2 ∧ WF M2 ∧ vu_R M2 ∧ M2 14 6 = 0 ∧ M2 53 21 = 0 ∧ (∀ a, a < 128 → a ≠ 14 → ¬ (16 ≤ a ∧ a ≤ 18) → a ≠ 53 → ¬ (67 ≤ a ∧ a ≤ 71) → M2 a = M a) ∧ ∀ j, j ≠ 33 → ¬ (21 ≤ j ∧ j ≤ 25) → M2 53 j = M 53 j := by
  obtain ⟨i1, i2, i3, i4, i5⟩ := hI
  obtain ⟨wN, eN⟩ := i5 _ (List.mem_singleton.mpr rfl)
  have wN : 0 ≤ M 14 6 ∧ M 14 6 ≤ 120 := wN
  have eN : M 14 6 = M 53 21 := eN
  obtain ⟨F1, r1, M1, f1, v, rfl, v1, v2, m1, R1, R2, R3, R4⟩ := rz_d (show 13 ≤ 99 by decide) (yw_all (xs := xs) hL i1)
  have e1 : ∀ a, a < 128 → a ≠ 14 → a ≠ 16 → a ≠ 17 → a ≠ 18 → M1 a = M a := R1
  have w1 : WF M1 := WF_zs M M1 (fun k hk => by
    simp only [cz_zs, List.mem_cons, List.not_mem_nil, or_false] at hk
    exact e1 k (by omega) (by omega) (by omega) (by omega) (by omega)) i3
  obtain ⟨F2, r2, M2, f2, z, rfl, z1, z2, m2, g1, g2, w2, y1, y2⟩ := rz_d (show 48 ≤ 99 by decide) (ym_fin (xs := xs) hL m1 w1)
  have o53 : M1 53 = M 53 := e1 53 (by decide) (by decide) (by decide) (by decide) (by decide)
  have o66 : M1 66 = M 66 := e1 66 (by decide) (by decide) (by decide) (by decide) (by decide)
  have eT : (M1 53 21).toNat = (M 14 6).toNat := by rw [o53, eN]
  have agree : ∀ i, i < (M 14 6).toNat → ∀ s, yk_go s (M 15 i) = yk_go s (yr_T M1 i) := fun i hi s => by
    have h15 : sx_w (0, 255) (M 15 i) := i1 15 _ i _ rfl (by show i < 120; omega) rfl
    have et : yr_T M1 i = ym_sg (M 15 i) := by
      unfold yr_T
      rw [o53, ← eN, if_pos (by omega), o66]
      exact hS i (by omega)
    rw [et]
    exact ym_eq h15.1 h15.2 s
  rw [eT] at y1 y2
  have hv : v = z := by
    refine ym_det (n := M 14 13) agree ?_ ?_
    · rcases R4 with ⟨D, P, o, b, g, n, j, a1, a2, a3, -⟩ | ⟨f, s, a1, a2, a3, a4, -⟩
      · exact Or.inl ⟨D, P, o, b, g, n, j, a1, a2, a3⟩
      · exact Or.inr ⟨f, s, a1, a2, a3, a4⟩
    · by_cases e : z = -1
      · exact Or.inl ⟨e, _, (y1 e).2.2.1⟩
      · exact Or.inr ⟨by omega, (y2 (by omega)).1⟩
  subst hv
  have oth : ∀ a, a < 128 → a ≠ 14 → ¬ (16 ≤ a ∧ a ≤ 18) → a ≠ 53 → ¬ (67 ≤ a ∧ a ≤ 71) → M2 a = M a := fun a ha h1 h2 h3 h4 => by
    funext i
    rw [g1 a i ha h4 (fun h => absurd h h3), e1 a ha h1 (by omega) (by omega) (by omega)]
  have n16 : M2 16 = M1 16 := by
    funext i
    exact g1 16 i (by decide) (by decide) (fun h => absurd h (by decide))
  have n14 : ∀ j, M2 14 j = M1 14 j := fun j => g1 14 j (by decide) (by decide) (fun h => absurd h (by decide))
  have rel : vu_R M2 := by
    by_cases e : v = -1
    · obtain ⟨y3, y4, y5, y6⟩ := y1 e
      obtain ⟨D', Q, g', n', j', q1, q2, q3, -⟩ := y5.2 [] (M 14 13)
      have q1 : yk_run (M 15) 0 (M 14 6).toNat (yv_s0 (M 14 13)) = some (D', Q, 0, 0, g', n', j', false) := by
        rw [ym_run agree _ _ _ (by omega)]
        exact q1
      rcases R4 with ⟨D, P, o, b, g, n, j, a1, a2, a3, a4, a5⟩ | ⟨f, s, a1, a2, -⟩
      · have a6 := vt_prog a1
        have a7 := vt_cprog a1
        rw [q1] at a1
        cases a1
        have q3 : yk_el D' Q j' = yj_P M2 0 0 (M2 69 0).toNat 0 := q3
        have l1 : 1 ≤ (yk_el D' Q j').length := by
          rw [yk_el_len]
          omega
        have l2 : M1 14 7 ≤ 256 := (cx_fld (c := 14) (k := 7) (lo := 0) (hi := 256) m1 (by decide +kernel)).2
        have e7 : (M1 14 7).toNat = (yk_el D' Q j').length := by omega
        refine Or.inr ⟨y3, by rw [n14]; omega, by rw [n14]; exact l2, ?_, ?_, ?_, y6⟩
        · rw [n16, n14, e7, a5]
          exact q3
        · rw [n16, n14, e7, a5]
          exact a6
        · rw [n16, n14, e7, a5]
          have := wN.2
          omega
      · omega
    · obtain ⟨-, y3, y4, y5, y6⟩ := y2 (by omega)
      rcases R4 with ⟨D, P, o, b, g, n, j, a1, a2, a3, -⟩ | ⟨f, s, a1, a2, a3, a4, a5, a6⟩
      · exact absurd a3 e
      · have o67 := e1 67 (by decide) (by decide) (by decide) (by decide) (by decide)
        have o68 := e1 68 (by decide) (by decide) (by decide) (by decide) (by decide)
        have o69 := e1 69 (by decide) (by decide) (by decide) (by decide) (by decide)
        have o70 := e1 70 (by decide) (by decide) (by decide) (by decide) (by decide)
        have o71 := e1 71 (by decide) (by decide) (by decide) (by decide) (by decide)
        rw [o67, o68] at y4
        rw [o69] at y5
        rw [o70, o71] at y6
        exact vu_on hR i3 (n16.trans a6) ((n14 7).trans a5) (by rw [y3, o53]) y4 y5 y6
  refine ⟨yw_v v, M1, M2, ?_, ?_, ⟨F1, f1⟩, m1, ⟨F2, f2⟩, m2, w2, rel, (n14 6).trans R3, g2, oth, fun j h1 h2 => ?_⟩
  · show sx_w (-220, 1) (yw_v v)
    unfold yw_v
    split
    · exact ⟨by decide, by decide⟩
    · exact ⟨by show (-220 : Int) ≤ _; omega, by show _ ≤ (1 : Int); omega⟩
  · unfold yw_v
    split
    · exact og_w32 (by decide) (by decide)
    · exact og_w32 (by omega) (by omega)
  · rw [g1 53 j (by decide) (by decide) (fun _ => ⟨h1, h2⟩), o53]
theorem vu_0 : vu_R cl_M0 := by
  have h : sx_an (sx_eq (cl_M0 53 33) 0) (sx_eq (cl_M0 14 7) 0) = true := by decide +kernel
  obtain ⟨h1, h2⟩ := sx_an_iff.mp h
  exact Or.inl ⟨sx_eq_iff.mp h1, sx_eq_iff.mp h2⟩
end
