/-! Numbers, and changes that are kept, as both sides hold them alike. -/
section
variable {WF : (Nat → Nat → Int) → Prop} {L : Nat} {xs : Nat → Int32} {M M' M0 M1 M2 : Nat → Nat → Int} {v : Int} {c m : Nat}
def nm_N (M : Nat → Nat → Int) : Prop := (∀ w n : Nat, w ≤ 4 → n < 6 → M 10 (30 * w + n) = M (54 + w) n) ∧ (∀ n : Nat, n < 30 → M 10 (150 + n) = M 61 n) ∧ ∀ n : Nat, n < 12 → (n : Int) < M 53 8 → M 10 (180 + n) = M 60 n
def nm_C (M : Nat → Nat → Int) : Prop := (∀ q : Nat, q < 40 → M 33 (4 * q) = M 62 q ∧ M 33 (4 * q + 1) = M 63 q ∧ M 33 (4 * q + 2) = M 64 q ∧ M 33 (4 * q + 3) = M 65 q) ∧ M 32 2 = M 53 14 + M 53 15
def nm_E (M : Nat → Nat → Int) : Prop := nm_N M ∧ nm_C M
def bs_SS (M : Nat → Nat → Int) : Prop := sh_SS M ∧ nm_E M
def nm_zc : List Nat := [33, 54, 55, 56, 57, 58, 60, 61, 62, 63, 64, 65]
def nm_j : List Nat := (List.range 192).filter fun j => decide (150 ≤ j ∨ j % 30 < 6)
def nm_zp : List (Nat × Nat) := (53, 8) :: (32, 2) :: (53, 14) :: (53, 15) :: nm_j.map fun j => (10, j)
theorem nm_in {j : Nat} (hj : j < 192) (h : 150 ≤ j ∨ j % 30 < 6) : (10, j) ∈ nm_zp := by
  unfold nm_zp
  refine List.mem_cons_of_mem _ (List.mem_cons_of_mem _ (List.mem_cons_of_mem _ (List.mem_cons_of_mem _ ?_)))
  refine List.mem_map.mpr ⟨j, ?_, rfl⟩
  unfold nm_j
  exact List.mem_filter.mpr ⟨List.mem_range.mpr hj, decide_eq_true h⟩
theorem nm_in4 : (53, 8) ∈ nm_zp ∧ (32, 2) ∈ nm_zp ∧ (53, 14) ∈ nm_zp ∧ (53, 15) ∈ nm_zp := by
  unfold nm_zp
  exact ⟨List.mem_cons_self, List.mem_cons_of_mem _ List.mem_cons_self, List.mem_cons_of_mem _ (List.mem_cons_of_mem _ List.mem_cons_self), List.mem_cons_of_mem _ (List.mem_cons_of_mem _ (List.mem_cons_of_mem _ List.mem_cons_self))⟩
theorem nm_fp : lb_fp nm_zc nm_zp nm_E := by
  intro M M' h1 h2 hE
  obtain ⟨⟨n1, n2, n3⟩, c1, c2⟩ := hE
  have z : ∀ a, a = 33 ∨ (54 ≤ a ∧ a ≤ 65 ∧ a ≠ 59) → M' a = M a := fun a ha => h1 a (by
    simp only [nm_zc, List.mem_cons, List.not_mem_nil, or_false]
    omega)
  have p : ∀ j, j < 192 → (150 ≤ j ∨ j % 30 < 6) → M' 10 j = M 10 j := fun j hj h => h2 (10, j) (nm_in hj h)
  have e8 : M' 53 8 = M 53 8 := h2 (53, 8) nm_in4.1
  have e2 : M' 32 2 = M 32 2 := h2 (32, 2) nm_in4.2.1
  have e14 : M' 53 14 = M 53 14 := h2 (53, 14) nm_in4.2.2.1
  have e15 : M' 53 15 = M 53 15 := h2 (53, 15) nm_in4.2.2.2
  refine ⟨⟨fun w n hw hn => ?_, fun n hn => ?_, fun n hn h => ?_⟩, fun q hq => ?_, ?_⟩
  · rw [p _ (by omega) (by omega), z (54 + w) (by omega)]
    exact n1 w n hw hn
  · rw [p _ (by omega) (by omega), z 61 (by omega)]
    exact n2 n hn
  · rw [e8] at h
    rw [p _ (by omega) (by omega), z 60 (by omega)]
    exact n3 n hn h
  · rw [z 33 (by omega), z 62 (by omega), z 63 (by omega), z 64 (by omega), z 65 (by omega)]
    exact c1 q hq
  · rw [e2, e14, e15]
    exact c2
def bs_zc : List Nat := [41, 42, 43, 44, 45, 46, 47, 48, 49, 50, 51, 52, 87, 88, 89] ++ nm_zc
theorem bs_fp : lb_fp bs_zc nm_zp bs_SS := fun M M' h1 h2 h => ⟨sh_fp M M' (fun z hz => h1 z (List.mem_append_left _ hz)) (fun p hp => by cases hp) h.1, nm_fp M M' (fun z hz => h1 z (List.mem_append_right _ hz)) h2 h.2⟩
def bs_cps : List la_P := [((9, 4), (53, 1), (0, 6)), ((9, 5), (53, 8), (0, 12)), ((37, 2), (53, 57), (0, 50)), ((10, 210), (53, 13), (0, 29)), ((32, 1), (53, 14), (0, 40)), ((34, 2), (53, 49), (0, 1)), ((34, 3), (53, 54), (0, 29))]
def bs_w (a : Nat) : Prop := a ≠ 9 ∧ a ≠ 10 ∧ a ≠ 11 ∧ ¬ (19 ≤ a ∧ a ≤ 23) ∧ a ≠ 32 ∧ a ≠ 33 ∧ ¬ (41 ≤ a ∧ a ≤ 65) ∧ ¬ (72 ≤ a ∧ a ≤ 77) ∧ ¬ (87 ≤ a ∧ a ≤ 90)
def bs_v (j : Nat) : Prop := j ≠ 1 ∧ j ≠ 7 ∧ j ≠ 8 ∧ j ≠ 13 ∧ j ≠ 14 ∧ j ≠ 15 ∧ j ≠ 35 ∧ j ≠ 36
/-- what a pair of these calls never touches -/
def bs_fr (M M' : Nat → Nat → Int) : Prop := (∀ a, a < 128 → bs_w a → M' a = M a) ∧ ∀ j, bs_v j → M' 53 j = M 53 j
/-- a pair of calls: the same answer, and all that is held alike stays so -/
def bs_P (WF : (Nat → Nat → Int) → Prop) (L : Nat) (xs : Nat → Int32) (kx km : Nat) (ax am : List Value) (r : Int × Int) (M : Nat → Nat → Int) : Prop := ∃ z M1 M2, sx_w r z ∧ ((0 = 0 ∧ sx_w sx_r32 z) ∨ (0 = 1 ∧ sx_w sx_r64 z)) ∧ lb_run L xs kx ax M (lb_val 0 z) M1 ∧ sx_mok cl_ly M1 ∧ lb_run L xs km am M1 (lb_val 0 z) M2 ∧ sx_mok cl_ly M2 ∧ la_I WF bs_cps M2 ∧ bs_SS M2 ∧ bs_fr M M2
theorem bs_eq (hI : la_I WF bs_cps M) : M 9 4 = M 53 1 ∧ M 9 5 = M 53 8 ∧ M 37 2 = M 53 57 ∧ M 10 210 = M 53 13 ∧ M 32 1 = M 53 14 ∧ (sx_w (0, 1) (M 34 2) ∧ M 34 2 = M 53 49) ∧ (sx_w (0, 29) (M 34 3) ∧ M 34 3 = M 53 54) :=
  ⟨(hI.2.2.2.2 ((9, 4), (53, 1), (0, 6)) (by simp [bs_cps])).2, (hI.2.2.2.2 ((9, 5), (53, 8), (0, 12)) (by simp [bs_cps])).2, (hI.2.2.2.2 ((37, 2), (53, 57), (0, 50)) (by simp [bs_cps])).2, (hI.2.2.2.2 ((10, 210), (53, 13), (0, 29)) (by simp [bs_cps])).2, (hI.2.2.2.2 ((32, 1), (53, 14), (0, 40)) (by simp [bs_cps])).2, hI.2.2.2.2 ((34, 2), (53, 49), (0, 1)) (by simp [bs_cps]), hI.2.2.2.2 ((34, 3), (53, 54), (0, 29)) (by simp [bs_cps])⟩
def bs_o (a : Nat) : Prop := a ≠ 9 ∧ a ≠ 10 ∧ a ≠ 11 ∧ a ≠ 32 ∧ a ≠ 33 ∧ ¬ (53 ≤ a ∧ a ≤ 65)
theorem bs_mk (hz : ∀ M M' : Nat → Nat → Int, (∀ z ∈ cz_zs, M' z = M z) → WF M → WF M') (hI : la_I WF bs_cps M) (hS : bs_SS M) (hm : sx_mok cl_ly M2) (hf : ∀ a, a < 128 → bs_o a → M2 a = M a) (h1 : M2 9 4 = M2 53 1) (h2 : M2 9 5 = M2 53 8) (h3 : ∀ j, bs_v j → M2 53 j = M 53 j) (h4 : M2 10 210 = M2 53 13) (h5 : M2 32 1 = M2 53 14) (hE : nm_E M2) (hX : xJ (M2 33)) : la_I WF bs_cps M2 ∧ bs_SS M2 ∧ bs_fr M M2 := by
  obtain ⟨-, -, e3, -, -, e6, e7⟩ := bs_eq hI
  have f13 := cx_fld (c := 53) (k := 13) (lo := 0) (hi := 29) hm (by decide +kernel)
  have f15 := jr_un hm
  have k2 := jr_kn hm
  have g := hE.2.2
  have o37 : M2 37 = M 37 := hf 37 (by decide) (by unfold bs_o; decide)
  have o34 : M2 34 = M 34 := hf 34 (by decide) (by unfold bs_o; decide)
  refine ⟨⟨hm, JJ_iff.mpr ⟨hX, fun q hq => ?_, by omega, by omega⟩, hz M M2 (fun u hu => ?_) hI.2.2.1, ?_, fun p hp => ?_⟩, ⟨?_, hE⟩, fun a ha w => hf a ha (by unfold bs_w at w; unfold bs_o; omega), h3⟩
  · have h := hX q hq
    obtain ⟨c0, c1, c2, c3⟩ := hE.2.1 q hq
    rw [c0, c1, c2, c3] at h
    exact h
  · have : ∀ u ∈ cz_zs, u < 128 ∧ u ≠ 9 ∧ u ≠ 10 ∧ u ≠ 11 ∧ u ≠ 32 ∧ u ≠ 33 ∧ ¬ (53 ≤ u ∧ u ≤ 65) := by decide +kernel
    exact hf u (this u hu).1 (this u hu).2
  · rw [h4]
    exact f13
  · simp only [bs_cps, List.mem_cons, List.not_mem_nil, or_false] at hp
    rcases hp with rfl | rfl | rfl | rfl | rfl | rfl | rfl
    · exact ⟨cx_fld (c := 9) (k := 4) (lo := 0) (hi := 6) hm (by decide +kernel), h1⟩
    · exact ⟨cx_fld (c := 9) (k := 5) (lo := 0) (hi := 12) hm (by decide +kernel), h2⟩
    · refine ⟨cx_fld (c := 37) (k := 2) (lo := 0) (hi := 50) hm (by decide +kernel), ?_⟩
      show M2 37 2 = M2 53 57
      rw [o37, h3 57 (by unfold bs_v; decide)]
      exact e3
    · refine ⟨?_, h4⟩
      show sx_w (0, 29) (M2 10 210)
      rw [h4]
      exact f13
    · exact ⟨cx_fld (c := 32) (k := 1) (lo := 0) (hi := 40) hm (by decide +kernel), h5⟩
    · show sx_w (0, 1) (M2 34 2) ∧ M2 34 2 = M2 53 49
      rw [o34, h3 49 (by unfold bs_v; decide)]
      exact e6
    · show sx_w (0, 29) (M2 34 3) ∧ M2 34 3 = M2 53 54
      rw [o34, h3 54 (by unfold bs_v; decide)]
      exact e7
  · exact sh_fp M M2 (fun z hz => hf z (by
      simp only [List.mem_cons, List.not_mem_nil, or_false] at hz
      omega) (by
      simp only [List.mem_cons, List.not_mem_nil, or_false] at hz
      unfold bs_o
      omega)) (fun p hp => by cases hp) hS.1
theorem bs_same (hz : ∀ M M' : Nat → Nat → Int, (∀ z ∈ cz_zs, M' z = M z) → WF M → WF M') (hI : la_I WF bs_cps M) (hS : bs_SS M) (hm : sx_mok cl_ly M2) (h : ∀ a, a < 128 → M2 a = M a) : la_I WF bs_cps M2 ∧ bs_SS M2 ∧ bs_fr M M2 := by
  obtain ⟨e1, e2, e3, e4, e5, -, -⟩ := bs_eq hI
  have q : ∀ z ∈ nm_zc, z < 128 := by decide +kernel
  have q2 : ∀ p ∈ nm_zp, p.1 < 128 := by decide +kernel
  refine bs_mk hz hI hS hm (fun a ha _ => h a ha) ?_ ?_ (fun j _ => by rw [h 53 (by decide)]) ?_ ?_ (nm_fp M M2 (fun z hz => h z (q z hz)) (fun p hp => by rw [h p.1 (q2 p hp)]) hS.2) ?_
  · rw [h 9 (by decide), h 53 (by decide)]; exact e1
  · rw [h 9 (by decide), h 53 (by decide)]; exact e2
  · rw [h 10 (by decide), h 53 (by decide)]; exact e4
  · rw [h 32 (by decide), h 53 (by decide)]; exact e5
  · rw [h 33 (by decide)]; exact (JJ_iff.mp hI.2.1).1
/-- both sides change nothing -/
theorem bs_P0 {kx km : Nat} {ax am : List Value} {r : Int × Int} {z : Int} (hz : ∀ M M' : Nat → Nat → Int, (∀ z ∈ cz_zs, M' z = M z) → WF M → WF M') (hI : la_I WF bs_cps M) (hS : bs_SS M) (hr : sx_w r z) (h32 : sx_w sx_r32 z) (a1 : lb_run L xs kx ax M (lb_val 0 z) M1) (a2 : sx_mok cl_ly M1) (a3 : ∀ a, a < 128 → M1 a = M a) (b1 : lb_run L xs km am M1 (lb_val 0 z) M2) (b2 : sx_mok cl_ly M2) (b3 : ∀ a, a < 128 → M2 a = M1 a) : bs_P WF L xs kx km ax am r M := by
  obtain ⟨c1, c2⟩ := bs_same hz hI hS b2 (fun a ha => (b3 a ha).trans (a3 a ha))
  exact ⟨z, M1, M2, hr, Or.inl ⟨rfl, h32⟩, a1, a2, b1, b2, c1, c2⟩
/-- a number is laid on both sides -/
theorem nm_up (hN : nm_N M) (hb : (c ≤ 4 ∧ m ≤ 5) ∨ (c = 5 ∧ m ≤ 29) ∨ (c = 6 ∧ m ≤ 11) ∨ (c = 7 ∧ m = 0)) (h10 : ∀ j, M' 10 j = if j = 30 * c + m then v else M 10 j) (hl : ∀ a j, 54 ≤ a → a ≤ 61 → M' a j = if c ≠ 7 ∧ a = dl_cell c ∧ j = m then v else M a j) (h8 : M' 53 8 = M 53 8) : nm_N M' := by
  obtain ⟨n1, n2, n3⟩ := hN
  have D : (c ≤ 4 ∧ m ≤ 5 ∧ dl_cell c = 54 + c) ∨ (c = 5 ∧ m ≤ 29 ∧ dl_cell c = 61) ∨ (c = 6 ∧ m ≤ 11 ∧ dl_cell c = 60) ∨ (c = 7 ∧ m = 0) := by
    unfold dl_cell
    rcases hb with ⟨a, b⟩ | ⟨a, b⟩ | ⟨a, b⟩ | h
    · exact Or.inl ⟨a, b, if_pos (by omega)⟩
    · exact Or.inr (Or.inl ⟨a, b, by rw [if_neg (by omega), if_pos a]⟩)
    · exact Or.inr (Or.inr (Or.inl ⟨a, b, by rw [if_neg (by omega), if_neg (by omega)]⟩))
    · exact Or.inr (Or.inr (Or.inr h))
  refine ⟨fun w n hw hn => ?_, fun n hn => ?_, fun n hn h => ?_⟩
  · rw [h10, hl (54 + w) n (by omega) (by omega)]
    by_cases e : 30 * w + n = 30 * c + m
    · rw [if_pos e, if_pos (show c ≠ 7 ∧ 54 + w = dl_cell c ∧ n = m from ⟨by omega, by omega, by omega⟩)]
    · rw [if_neg e, if_neg (show ¬ (c ≠ 7 ∧ 54 + w = dl_cell c ∧ n = m) from fun h => e (by omega))]
      exact n1 w n hw hn
  · rw [h10, hl 61 n (by omega) (by omega)]
    by_cases e : 150 + n = 30 * c + m
    · rw [if_pos e, if_pos (show c ≠ 7 ∧ 61 = dl_cell c ∧ n = m from ⟨by omega, by omega, by omega⟩)]
    · rw [if_neg e, if_neg (show ¬ (c ≠ 7 ∧ 61 = dl_cell c ∧ n = m) from fun h => e (by omega))]
      exact n2 n hn
  · rw [h8] at h
    rw [h10, hl 60 n (by omega) (by omega)]
    by_cases e : 180 + n = 30 * c + m
    · rw [if_pos e, if_pos (show c ≠ 7 ∧ 60 = dl_cell c ∧ n = m from ⟨by omega, by omega, by omega⟩)]
    · rw [if_neg e, if_neg (show ¬ (c ≠ 7 ∧ 60 = dl_cell c ∧ n = m) from fun h => e (by omega))]
      exact n3 n hn h
/-- what a number is on both sides -/
theorem nm_at (hN : nm_N M) (h210 : M 10 210 = M 53 13) (hb : (c ≤ 4 ∧ m ≤ 5) ∨ (c = 5 ∧ m ≤ 29) ∨ (c = 6 ∧ m ≤ 11 ∧ (m : Int) < M 53 8) ∨ (c = 7 ∧ m = 0)) : M 10 (30 * c + m) = dy_at (c : Int) (m : Int) M := by
  unfold dy_at
  rcases hb with ⟨a, b⟩ | ⟨a, b⟩ | ⟨a, b, d⟩ | ⟨a, b⟩
  · rw [if_neg (by omega), Int.toNat_natCast, Int.toNat_natCast, show dl_cell c = 54 + c by unfold dl_cell; exact if_pos (by omega)]
    exact hN.1 c m a (by omega)
  · have e : dl_cell c = 61 := by unfold dl_cell; rw [if_neg (by omega), if_pos a]
    rw [if_neg (by omega), Int.toNat_natCast, Int.toNat_natCast, e, show 30 * c + m = 150 + m by omega]
    exact hN.2.1 m (by omega)
  · have e : dl_cell c = 60 := by unfold dl_cell; rw [if_neg (by omega), if_neg (by omega)]
    rw [if_neg (by omega), Int.toNat_natCast, Int.toNat_natCast, e, show 30 * c + m = 180 + m by omega]
    exact hN.2.2 m (by omega) d
  · rw [if_pos (by omega), show 30 * c + m = 210 by omega]
    exact h210
theorem nm_S0 : nm_E cl_M0 := by
  have h1 : ((List.range 5).all fun w => (List.range 6).all fun n => sx_eq (cl_M0 10 (30 * w + n)) (cl_M0 (54 + w) n)) = true := by decide +kernel
  have h2 : ((List.range 30).all fun n => sx_eq (cl_M0 10 (150 + n)) (cl_M0 61 n)) = true := by decide +kernel
  have h3 : ((List.range 12).all fun n => sx_eq (cl_M0 10 (180 + n)) (cl_M0 60 n)) = true := by decide +kernel
  have h4 : ((List.range 40).all fun q => sx_an (sx_an (sx_eq (cl_M0 33 (4 * q)) (cl_M0 62 q)) (sx_eq (cl_M0 33 (4 * q + 1)) (cl_M0 63 q))) (sx_an (sx_eq (cl_M0 33 (4 * q + 2)) (cl_M0 64 q)) (sx_eq (cl_M0 33 (4 * q + 3)) (cl_M0 65 q)))) = true := by decide +kernel
  have h5 : sx_eq (cl_M0 32 2) (cl_M0 53 14 + cl_M0 53 15) = true := by decide +kernel
  refine ⟨⟨fun w n hw hn => ?_, fun n hn => ?_, fun n hn _ => ?_⟩, fun q hq => ?_, sx_eq_iff.mp h5⟩
  · exact sx_eq_iff.mp (List.all_eq_true.mp (List.all_eq_true.mp h1 w (List.mem_range.mpr (by omega))) n (List.mem_range.mpr hn))
  · exact sx_eq_iff.mp (List.all_eq_true.mp h2 n (List.mem_range.mpr hn))
  · exact sx_eq_iff.mp (List.all_eq_true.mp h3 n (List.mem_range.mpr hn))
  · obtain ⟨a, b⟩ := sx_an_iff.mp (List.all_eq_true.mp h4 q (List.mem_range.mpr hq))
    obtain ⟨a1, a2⟩ := sx_an_iff.mp a
    obtain ⟨b1, b2⟩ := sx_an_iff.mp b
    exact ⟨sx_eq_iff.mp a1, sx_eq_iff.mp a2, sx_eq_iff.mp b1, sx_eq_iff.mp b2⟩
theorem bs_S0 : bs_SS cl_M0 := ⟨sh_S0, nm_S0⟩
end
