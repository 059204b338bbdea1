/-! mend, undo, redo, 28. -/
section
variable {L : Nat} {xs : Nat → Int32}
def k_mr_35 : ct_C := ([(2, .ofNat 53, .ofNat 53)], [(53, 14, .ofNat 35, .ofNat 35)], [(53, 13, .ofNat 0, .ofNat 29), (53, 14, .ofNat 0, .ofNat 40), (53, 15, .ofNat 0, .ofNat 40)], [54, 55, 56, 57, 58, 60, 61], (some (0, .negSucc 4, .ofNat 4)), 2, false)
theorem s_mr_35 (M : Nat → Nat → Int) (hm : sx_mok cl_ly M) (hJ : JJ M) (hg : ct_g k_mr_35.2.1 M) : ∃ m ∈ [k_mr_35_e, k_mr_35_0, k_mr_35_1, k_mr_35_2, k_mr_35_3], ct_g m.2.1 M := by
  have hv : M 53 14 = 35 := by
    have h := hg (53, 14, .ofNat 35, .ofNat 35) List.mem_cons_self
    exact Int.le_antisymm h.2 h.1
  have hk := jr_kn hm
  have hu := jr_un hm
  have hd := hJ.2.2.1
  have he := hJ.2.2.2
  by_cases h0 : M 53 15 = 0
  · exact ⟨k_mr_35_e, List.mem_cons_self, (jc (by show (35 : Int) ≤ M 53 14; omega) (by show M 53 14 ≤ (35 : Int); omega) (jc (by show (0 : Int) ≤ M 53 15; omega) (by show M 53 15 ≤ (0 : Int); omega) jn))⟩
  · have h8 : jp (M 62 35) (M 63 35) (M 64 35) (M 65 35) := hJ.2.1 35 (by decide)
    obtain ⟨⟨b1, b2, b3, b4⟩, h8⟩ := h8
    rcases h8 with h8 | h8 | h8 | h8
    · exact ⟨k_mr_35_0, (List.mem_cons_of_mem _ List.mem_cons_self), (jc (by show (35 : Int) ≤ M 53 14; omega) (by show M 53 14 ≤ (35 : Int); omega) (jc (by show (1 : Int) ≤ M 53 15; omega) (by show M 53 15 ≤ (5 : Int); omega) (jc (by show (0 : Int) ≤ M 62 35; omega) (by show M 62 35 ≤ (4 : Int); omega) (jc (by show (0 : Int) ≤ M 63 35; omega) (by show M 63 35 ≤ (5 : Int); omega) (jc (by show (-1 : Int) ≤ M 65 35; omega) (by show M 65 35 ≤ (143 : Int); omega) jn)))))⟩
    · exact ⟨k_mr_35_1, (List.mem_cons_of_mem _ (List.mem_cons_of_mem _ List.mem_cons_self)), (jc (by show (35 : Int) ≤ M 53 14; omega) (by show M 53 14 ≤ (35 : Int); omega) (jc (by show (1 : Int) ≤ M 53 15; omega) (by show M 53 15 ≤ (5 : Int); omega) (jc (by show (5 : Int) ≤ M 62 35; omega) (by show M 62 35 ≤ (5 : Int); omega) (jc (by show (0 : Int) ≤ M 63 35; omega) (by show M 63 35 ≤ (29 : Int); omega) (jc (by show (-1 : Int) ≤ M 65 35; omega) (by show M 65 35 ≤ (143 : Int); omega) jn)))))⟩
    · exact ⟨k_mr_35_2, (List.mem_cons_of_mem _ (List.mem_cons_of_mem _ (List.mem_cons_of_mem _ List.mem_cons_self))), (jc (by show (35 : Int) ≤ M 53 14; omega) (by show M 53 14 ≤ (35 : Int); omega) (jc (by show (1 : Int) ≤ M 53 15; omega) (by show M 53 15 ≤ (5 : Int); omega) (jc (by show (6 : Int) ≤ M 62 35; omega) (by show M 62 35 ≤ (6 : Int); omega) (jc (by show (0 : Int) ≤ M 63 35; omega) (by show M 63 35 ≤ (11 : Int); omega) (jc (by show (-1 : Int) ≤ M 65 35; omega) (by show M 65 35 ≤ (143 : Int); omega) jn)))))⟩
    · exact ⟨k_mr_35_3, (List.mem_cons_of_mem _ (List.mem_cons_of_mem _ (List.mem_cons_of_mem _ (List.mem_cons_of_mem _ List.mem_cons_self)))), (jc (by show (35 : Int) ≤ M 53 14; omega) (by show M 53 14 ≤ (35 : Int); omega) (jc (by show (1 : Int) ≤ M 53 15; omega) (by show M 53 15 ≤ (5 : Int); omega) (jc (by show (7 : Int) ≤ M 62 35; omega) (by show M 62 35 ≤ (7 : Int); omega) (jc (by show (0 : Int) ≤ M 63 35; omega) (by show M 63 35 ≤ (0 : Int); omega) (jc (by show (0 : Int) ≤ M 65 35; omega) (by show M 65 35 ≤ (29 : Int); omega) jn)))))⟩
theorem c_mr_35 (hL : L < 2 ^ 31) : ci L xs 162 k_mr_35 :=
  ci_j_ok (ms := [k_mr_35_e, k_mr_35_0, k_mr_35_1, k_mr_35_2, k_mr_35_3]) (jl_cons (c_mr_35_e hL) (jl_cons (c_mr_35_0 hL) (jl_cons (c_mr_35_1 hL) (jl_cons (c_mr_35_2 hL) (jl_cons (c_mr_35_3 hL) jl_nil))))) s_mr_35 (by decide +kernel)
def k_mr_36_e : ct_C := ([(2, .ofNat 53, .ofNat 53)], [(53, 14, .ofNat 36, .ofNat 36), (53, 15, .ofNat 0, .ofNat 0)], [], [], (some (0, .negSucc 4, .negSucc 4)), 1, false)
theorem c_mr_36_e (hL : L < 2 ^ 31) : ci L xs 162 k_mr_36_e :=
  mi_ok (fc := 9000) (f := 9000) (cuts := []) (xk := jx) cl_lok cl_hrf (cl_hro L xs) hL jx_ok (by decide +kernel)
def k_mr_36_0 : ct_C := ([(2, .ofNat 53, .ofNat 53)], [(53, 14, .ofNat 36, .ofNat 36), (53, 15, .ofNat 1, .ofNat 4), (62, 36, .ofNat 0, .ofNat 4), (63, 36, .ofNat 0, .ofNat 5), (65, 36, .negSucc 0, .ofNat 143)], [(53, 14, .ofNat 37, .ofNat 37), (53, 15, .ofNat 0, .ofNat 3)], [54, 55, 56, 57, 58], (some (0, .ofNat 0, .ofNat 3)), 2, false)
theorem c_mr_36_0 (hL : L < 2 ^ 31) : ci L xs 162 k_mr_36_0 :=
  mi_ok (fc := 9000) (f := 9000) (cuts := []) (xk := jx) cl_lok cl_hrf (cl_hro L xs) hL jx_ok (by decide +kernel)
def k_mr_36_1 : ct_C := ([(2, .ofNat 53, .ofNat 53)], [(53, 14, .ofNat 36, .ofNat 36), (53, 15, .ofNat 1, .ofNat 4), (62, 36, .ofNat 5, .ofNat 5), (63, 36, .ofNat 0, .ofNat 29), (65, 36, .negSucc 0, .ofNat 143)], [(53, 14, .ofNat 37, .ofNat 37), (53, 15, .ofNat 0, .ofNat 3)], [61], (some (0, .ofNat 0, .ofNat 3)), 2, false)
theorem c_mr_36_1 (hL : L < 2 ^ 31) : ci L xs 162 k_mr_36_1 :=
  mi_ok (fc := 9000) (f := 9000) (cuts := []) (xk := jx) cl_lok cl_hrf (cl_hro L xs) hL jx_ok (by decide +kernel)
def k_mr_36_2 : ct_C := ([(2, .ofNat 53, .ofNat 53)], [(53, 14, .ofNat 36, .ofNat 36), (53, 15, .ofNat 1, .ofNat 4), (62, 36, .ofNat 6, .ofNat 6), (63, 36, .ofNat 0, .ofNat 11), (65, 36, .negSucc 0, .ofNat 143)], [(53, 14, .ofNat 37, .ofNat 37), (53, 15, .ofNat 0, .ofNat 3)], [60], (some (0, .ofNat 0, .ofNat 3)), 2, false)
theorem c_mr_36_2 (hL : L < 2 ^ 31) : ci L xs 162 k_mr_36_2 :=
  mi_ok (fc := 9000) (f := 9000) (cuts := []) (xk := jx) cl_lok cl_hrf (cl_hro L xs) hL jx_ok (by decide +kernel)
def k_mr_36_3 : ct_C := ([(2, .ofNat 53, .ofNat 53)], [(53, 14, .ofNat 36, .ofNat 36), (53, 15, .ofNat 1, .ofNat 4), (62, 36, .ofNat 7, .ofNat 7), (63, 36, .ofNat 0, .ofNat 0), (65, 36, .ofNat 0, .ofNat 29)], [(53, 13, .ofNat 0, .ofNat 29), (53, 14, .ofNat 37, .ofNat 37), (53, 15, .ofNat 0, .ofNat 3)], [], (some (0, .ofNat 0, .ofNat 3)), 2, false)
theorem c_mr_36_3 (hL : L < 2 ^ 31) : ci L xs 162 k_mr_36_3 :=
  mi_ok (fc := 9000) (f := 9000) (cuts := []) (xk := jx) cl_lok cl_hrf (cl_hro L xs) hL jx_ok (by decide +kernel)
def k_mr_36 : ct_C := ([(2, .ofNat 53, .ofNat 53)], [(53, 14, .ofNat 36, .ofNat 36)], [(53, 13, .ofNat 0, .ofNat 29), (53, 14, .ofNat 0, .ofNat 40), (53, 15, .ofNat 0, .ofNat 40)], [54, 55, 56, 57, 58, 60, 61], (some (0, .negSucc 4, .ofNat 3)), 2, false)
theorem s_mr_36 (M : Nat → Nat → Int) (hm : sx_mok cl_ly M) (hJ : JJ M) (hg : ct_g k_mr_36.2.1 M) : ∃ m ∈ [k_mr_36_e, k_mr_36_0, k_mr_36_1, k_mr_36_2, k_mr_36_3], ct_g m.2.1 M := by
  have hv : M 53 14 = 36 := by
    have h := hg (53, 14, .ofNat 36, .ofNat 36) List.mem_cons_self
    exact Int.le_antisymm h.2 h.1
  have hk := jr_kn hm
  have hu := jr_un hm
  have hd := hJ.2.2.1
  have he := hJ.2.2.2
  by_cases h0 : M 53 15 = 0
  · exact ⟨k_mr_36_e, List.mem_cons_self, (jc (by show (36 : Int) ≤ M 53 14; omega) (by show M 53 14 ≤ (36 : Int); omega) (jc (by show (0 : Int) ≤ M 53 15; omega) (by show M 53 15 ≤ (0 : Int); omega) jn))⟩
  · have h8 : jp (M 62 36) (M 63 36) (M 64 36) (M 65 36) := hJ.2.1 36 (by decide)
    obtain ⟨⟨b1, b2, b3, b4⟩, h8⟩ := h8
    rcases h8 with h8 | h8 | h8 | h8
    · exact ⟨k_mr_36_0, (List.mem_cons_of_mem _ List.mem_cons_self), (jc (by show (36 : Int) ≤ M 53 14; omega) (by show M 53 14 ≤ (36 : Int); omega) (jc (by show (1 : Int) ≤ M 53 15; omega) (by show M 53 15 ≤ (4 : Int); omega) (jc (by show (0 : Int) ≤ M 62 36; omega) (by show M 62 36 ≤ (4 : Int); omega) (jc (by show (0 : Int) ≤ M 63 36; omega) (by show M 63 36 ≤ (5 : Int); omega) (jc (by show (-1 : Int) ≤ M 65 36; omega) (by show M 65 36 ≤ (143 : Int); omega) jn)))))⟩
    · exact ⟨k_mr_36_1, (List.mem_cons_of_mem _ (List.mem_cons_of_mem _ List.mem_cons_self)), (jc (by show (36 : Int) ≤ M 53 14; omega) (by show M 53 14 ≤ (36 : Int); omega) (jc (by show (1 : Int) ≤ M 53 15; omega) (by show M 53 15 ≤ (4 : Int); omega) (jc (by show (5 : Int) ≤ M 62 36; omega) (by show M 62 36 ≤ (5 : Int); omega) (jc (by show (0 : Int) ≤ M 63 36; omega) (by show M 63 36 ≤ (29 : Int); omega) (jc (by show (-1 : Int) ≤ M 65 36; omega) (by show M 65 36 ≤ (143 : Int); omega) jn)))))⟩
    · exact ⟨k_mr_36_2, (List.mem_cons_of_mem _ (List.mem_cons_of_mem _ (List.mem_cons_of_mem _ List.mem_cons_self))), (jc (by show (36 : Int) ≤ M 53 14; omega) (by show M 53 14 ≤ (36 : Int); omega) (jc (by show (1 : Int) ≤ M 53 15; omega) (by show M 53 15 ≤ (4 : Int); omega) (jc (by show (6 : Int) ≤ M 62 36; omega) (by show M 62 36 ≤ (6 : Int); omega) (jc (by show (0 : Int) ≤ M 63 36; omega) (by show M 63 36 ≤ (11 : Int); omega) (jc (by show (-1 : Int) ≤ M 65 36; omega) (by show M 65 36 ≤ (143 : Int); omega) jn)))))⟩
    · exact ⟨k_mr_36_3, (List.mem_cons_of_mem _ (List.mem_cons_of_mem _ (List.mem_cons_of_mem _ (List.mem_cons_of_mem _ List.mem_cons_self)))), (jc (by show (36 : Int) ≤ M 53 14; omega) (by show M 53 14 ≤ (36 : Int); omega) (jc (by show (1 : Int) ≤ M 53 15; omega) (by show M 53 15 ≤ (4 : Int); omega) (jc (by show (7 : Int) ≤ M 62 36; omega) (by show M 62 36 ≤ (7 : Int); omega) (jc (by show (0 : Int) ≤ M 63 36; omega) (by show M 63 36 ≤ (0 : Int); omega) (jc (by show (0 : Int) ≤ M 65 36; omega) (by show M 65 36 ≤ (29 : Int); omega) jn)))))⟩
theorem c_mr_36 (hL : L < 2 ^ 31) : ci L xs 162 k_mr_36 :=
  ci_j_ok (ms := [k_mr_36_e, k_mr_36_0, k_mr_36_1, k_mr_36_2, k_mr_36_3]) (jl_cons (c_mr_36_e hL) (jl_cons (c_mr_36_0 hL) (jl_cons (c_mr_36_1 hL) (jl_cons (c_mr_36_2 hL) (jl_cons (c_mr_36_3 hL) jl_nil))))) s_mr_36 (by decide +kernel)
def k_mr_37_e : ct_C := ([(2, .ofNat 53, .ofNat 53)], [(53, 14, .ofNat 37, .ofNat 37), (53, 15, .ofNat 0, .ofNat 0)], [], [], (some (0, .negSucc 4, .negSucc 4)), 1, false)
theorem c_mr_37_e (hL : L < 2 ^ 31) : ci L xs 162 k_mr_37_e :=
  mi_ok (fc := 9000) (f := 9000) (cuts := []) (xk := jx) cl_lok cl_hrf (cl_hro L xs) hL jx_ok (by decide +kernel)
def k_mr_37_0 : ct_C := ([(2, .ofNat 53, .ofNat 53)], [(53, 14, .ofNat 37, .ofNat 37), (53, 15, .ofNat 1, .ofNat 3), (62, 37, .ofNat 0, .ofNat 4), (63, 37, .ofNat 0, .ofNat 5), (65, 37, .negSucc 0, .ofNat 143)], [(53, 14, .ofNat 38, .ofNat 38), (53, 15, .ofNat 0, .ofNat 2)], [54, 55, 56, 57, 58], (some (0, .ofNat 0, .ofNat 2)), 2, false)
theorem c_mr_37_0 (hL : L < 2 ^ 31) : ci L xs 162 k_mr_37_0 :=
  mi_ok (fc := 9000) (f := 9000) (cuts := []) (xk := jx) cl_lok cl_hrf (cl_hro L xs) hL jx_ok (by decide +kernel)
def k_mr_37_1 : ct_C := ([(2, .ofNat 53, .ofNat 53)], [(53, 14, .ofNat 37, .ofNat 37), (53, 15, .ofNat 1, .ofNat 3), (62, 37, .ofNat 5, .ofNat 5), (63, 37, .ofNat 0, .ofNat 29), (65, 37, .negSucc 0, .ofNat 143)], [(53, 14, .ofNat 38, .ofNat 38), (53, 15, .ofNat 0, .ofNat 2)], [61], (some (0, .ofNat 0, .ofNat 2)), 2, false)
theorem c_mr_37_1 (hL : L < 2 ^ 31) : ci L xs 162 k_mr_37_1 :=
  mi_ok (fc := 9000) (f := 9000) (cuts := []) (xk := jx) cl_lok cl_hrf (cl_hro L xs) hL jx_ok (by decide +kernel)
def k_mr_37_2 : ct_C := ([(2, .ofNat 53, .ofNat 53)], [(53, 14, .ofNat 37, .ofNat 37), (53, 15, .ofNat 1, .ofNat 3), (62, 37, .ofNat 6, .ofNat 6), (63, 37, .ofNat 0, .ofNat 11), (65, 37, .negSucc 0, .ofNat 143)], [(53, 14, .ofNat 38, .ofNat 38), (53, 15, .ofNat 0, .ofNat 2)], [60], (some (0, .ofNat 0, .ofNat 2)), 2, false)
theorem c_mr_37_2 (hL : L < 2 ^ 31) : ci L xs 162 k_mr_37_2 :=
  mi_ok (fc := 9000) (f := 9000) (cuts := []) (xk := jx) cl_lok cl_hrf (cl_hro L xs) hL jx_ok (by decide +kernel)
def k_mr_37_3 : ct_C := ([(2, .ofNat 53, .ofNat 53)], [(53, 14, .ofNat 37, .ofNat 37), (53, 15, .ofNat 1, .ofNat 3), (62, 37, .ofNat 7, .ofNat 7), (63, 37, .ofNat 0, .ofNat 0), (65, 37, .ofNat 0, .ofNat 29)], [(53, 13, .ofNat 0, .ofNat 29), (53, 14, .ofNat 38, .ofNat 38), (53, 15, .ofNat 0, .ofNat 2)], [], (some (0, .ofNat 0, .ofNat 2)), 2, false)
theorem c_mr_37_3 (hL : L < 2 ^ 31) : ci L xs 162 k_mr_37_3 :=
  mi_ok (fc := 9000) (f := 9000) (cuts := []) (xk := jx) cl_lok cl_hrf (cl_hro L xs) hL jx_ok (by decide +kernel)
def k_mr_37 : ct_C := ([(2, .ofNat 53, .ofNat 53)], [(53, 14, .ofNat 37, .ofNat 37)], [(53, 13, .ofNat 0, .ofNat 29), (53, 14, .ofNat 0, .ofNat 40), (53, 15, .ofNat 0, .ofNat 40)], [54, 55, 56, 57, 58, 60, 61], (some (0, .negSucc 4, .ofNat 2)), 2, false)
theorem s_mr_37 (M : Nat → Nat → Int) (hm : sx_mok cl_ly M) (hJ : JJ M) (hg : ct_g k_mr_37.2.1 M) : ∃ m ∈ [k_mr_37_e, k_mr_37_0, k_mr_37_1, k_mr_37_2, k_mr_37_3], ct_g m.2.1 M := by
  have hv : M 53 14 = 37 := by
    have h := hg (53, 14, .ofNat 37, .ofNat 37) List.mem_cons_self
    exact Int.le_antisymm h.2 h.1
  have hk := jr_kn hm
  have hu := jr_un hm
  have hd := hJ.2.2.1
  have he := hJ.2.2.2
  by_cases h0 : M 53 15 = 0
  · exact ⟨k_mr_37_e, List.mem_cons_self, (jc (by show (37 : Int) ≤ M 53 14; omega) (by show M 53 14 ≤ (37 : Int); omega) (jc (by show (0 : Int) ≤ M 53 15; omega) (by show M 53 15 ≤ (0 : Int); omega) jn))⟩
  · have h8 : jp (M 62 37) (M 63 37) (M 64 37) (M 65 37) := hJ.2.1 37 (by decide)
    obtain ⟨⟨b1, b2, b3, b4⟩, h8⟩ := h8
    rcases h8 with h8 | h8 | h8 | h8
    · exact ⟨k_mr_37_0, (List.mem_cons_of_mem _ List.mem_cons_self), (jc (by show (37 : Int) ≤ M 53 14; omega) (by show M 53 14 ≤ (37 : Int); omega) (jc (by show (1 : Int) ≤ M 53 15; omega) (by show M 53 15 ≤ (3 : Int); omega) (jc (by show (0 : Int) ≤ M 62 37; omega) (by show M 62 37 ≤ (4 : Int); omega) (jc (by show (0 : Int) ≤ M 63 37; omega) (by show M 63 37 ≤ (5 : Int); omega) (jc (by show (-1 : Int) ≤ M 65 37; omega) (by show M 65 37 ≤ (143 : Int); omega) jn)))))⟩
    · exact ⟨k_mr_37_1, (List.mem_cons_of_mem _ (List.mem_cons_of_mem _ List.mem_cons_self)), (jc (by show (37 : Int) ≤ M 53 14; omega) (by show M 53 14 ≤ (37 : Int); omega) (jc (by show (1 : Int) ≤ M 53 15; omega) (by show M 53 15 ≤ (3 : Int); omega) (jc (by show (5 : Int) ≤ M 62 37; omega) (by show M 62 37 ≤ (5 : Int); omega) (jc (by show (0 : Int) ≤ M 63 37; omega) (by show M 63 37 ≤ (29 : Int); omega) (jc (by show (-1 : Int) ≤ M 65 37; omega) (by show M 65 37 ≤ (143 : Int); omega) jn)))))⟩
    · exact ⟨k_mr_37_2, (List.mem_cons_of_mem _ (List.mem_cons_of_mem _ (List.mem_cons_of_mem _ List.mem_cons_self))), (jc (by show (37 : Int) ≤ M 53 14; omega) (by show M 53 14 ≤ (37 : Int); omega) (jc (by show (1 : Int) ≤ M 53 15; omega) (by show M 53 15 ≤ (3 : Int); omega) (jc (by show (6 : Int) ≤ M 62 37; omega) (by show M 62 37 ≤ (6 : Int); omega) (jc (by show (0 : Int) ≤ M 63 37; omega) (by show M 63 37 ≤ (11 : Int); omega) (jc (by show (-1 : Int) ≤ M 65 37; omega) (by show M 65 37 ≤ (143 : Int); omega) jn)))))⟩
    · exact ⟨k_mr_37_3, (List.mem_cons_of_mem _ (List.mem_cons_of_mem _ (List.mem_cons_of_mem _ (List.mem_cons_of_mem _ List.mem_cons_self)))), (jc (by show (37 : Int) ≤ M 53 14; omega) (by show M 53 14 ≤ (37 : Int); omega) (jc (by show (1 : Int) ≤ M 53 15; omega) (by show M 53 15 ≤ (3 : Int); omega) (jc (by show (7 : Int) ≤ M 62 37; omega) (by show M 62 37 ≤ (7 : Int); omega) (jc (by show (0 : Int) ≤ M 63 37; omega) (by show M 63 37 ≤ (0 : Int); omega) (jc (by show (0 : Int) ≤ M 65 37; omega) (by show M 65 37 ≤ (29 : Int); omega) jn)))))⟩
theorem c_mr_37 (hL : L < 2 ^ 31) : ci L xs 162 k_mr_37 :=
  ci_j_ok (ms := [k_mr_37_e, k_mr_37_0, k_mr_37_1, k_mr_37_2, k_mr_37_3]) (jl_cons (c_mr_37_e hL) (jl_cons (c_mr_37_0 hL) (jl_cons (c_mr_37_1 hL) (jl_cons (c_mr_37_2 hL) (jl_cons (c_mr_37_3 hL) jl_nil))))) s_mr_37 (by decide +kernel)
def k_mr_38_e : ct_C := ([(2, .ofNat 53, .ofNat 53)], [(53, 14, .ofNat 38, .ofNat 38), (53, 15, .ofNat 0, .ofNat 0)], [], [], (some (0, .negSucc 4, .negSucc 4)), 1, false)
theorem c_mr_38_e (hL : L < 2 ^ 31) : ci L xs 162 k_mr_38_e :=
  mi_ok (fc := 9000) (f := 9000) (cuts := []) (xk := jx) cl_lok cl_hrf (cl_hro L xs) hL jx_ok (by decide +kernel)
def k_mr_38_0 : ct_C := ([(2, .ofNat 53, .ofNat 53)], [(53, 14, .ofNat 38, .ofNat 38), (53, 15, .ofNat 1, .ofNat 2), (62, 38, .ofNat 0, .ofNat 4), (63, 38, .ofNat 0, .ofNat 5), (65, 38, .negSucc 0, .ofNat 143)], [(53, 14, .ofNat 39, .ofNat 39), (53, 15, .ofNat 0, .ofNat 1)], [54, 55, 56, 57, 58], (some (0, .ofNat 0, .ofNat 1)), 2, false)
theorem c_mr_38_0 (hL : L < 2 ^ 31) : ci L xs 162 k_mr_38_0 :=
  mi_ok (fc := 9000) (f := 9000) (cuts := []) (xk := jx) cl_lok cl_hrf (cl_hro L xs) hL jx_ok (by decide +kernel)
def k_mr_38_1 : ct_C := ([(2, .ofNat 53, .ofNat 53)], [(53, 14, .ofNat 38, .ofNat 38), (53, 15, .ofNat 1, .ofNat 2), (62, 38, .ofNat 5, .ofNat 5), (63, 38, .ofNat 0, .ofNat 29), (65, 38, .negSucc 0, .ofNat 143)], [(53, 14, .ofNat 39, .ofNat 39), (53, 15, .ofNat 0, .ofNat 1)], [61], (some (0, .ofNat 0, .ofNat 1)), 2, false)
theorem c_mr_38_1 (hL : L < 2 ^ 31) : ci L xs 162 k_mr_38_1 :=
  mi_ok (fc := 9000) (f := 9000) (cuts := []) (xk := jx) cl_lok cl_hrf (cl_hro L xs) hL jx_ok (by decide +kernel)
def k_mr_38_2 : ct_C := ([(2, .ofNat 53, .ofNat 53)], [(53, 14, .ofNat 38, .ofNat 38), (53, 15, .ofNat 1, .ofNat 2), (62, 38, .ofNat 6, .ofNat 6), (63, 38, .ofNat 0, .ofNat 11), (65, 38, .negSucc 0, .ofNat 143)], [(53, 14, .ofNat 39, .ofNat 39), (53, 15, .ofNat 0, .ofNat 1)], [60], (some (0, .ofNat 0, .ofNat 1)), 2, false)
theorem c_mr_38_2 (hL : L < 2 ^ 31) : ci L xs 162 k_mr_38_2 :=
  mi_ok (fc := 9000) (f := 9000) (cuts := []) (xk := jx) cl_lok cl_hrf (cl_hro L xs) hL jx_ok (by decide +kernel)
def k_mr_38_3 : ct_C := ([(2, .ofNat 53, .ofNat 53)], [(53, 14, .ofNat 38, .ofNat 38), (53, 15, .ofNat 1, .ofNat 2), (62, 38, .ofNat 7, .ofNat 7), (63, 38, .ofNat 0, .ofNat 0), (65, 38, .ofNat 0, .ofNat 29)], [(53, 13, .ofNat 0, .ofNat 29), (53, 14, .ofNat 39, .ofNat 39), (53, 15, .ofNat 0, .ofNat 1)], [], (some (0, .ofNat 0, .ofNat 1)), 2, false)
theorem c_mr_38_3 (hL : L < 2 ^ 31) : ci L xs 162 k_mr_38_3 :=
  mi_ok (fc := 9000) (f := 9000) (cuts := []) (xk := jx) cl_lok cl_hrf (cl_hro L xs) hL jx_ok (by decide +kernel)
def k_mr_38 : ct_C := ([(2, .ofNat 53, .ofNat 53)], [(53, 14, .ofNat 38, .ofNat 38)], [(53, 13, .ofNat 0, .ofNat 29), (53, 14, .ofNat 0, .ofNat 40), (53, 15, .ofNat 0, .ofNat 40)], [54, 55, 56, 57, 58, 60, 61], (some (0, .negSucc 4, .ofNat 1)), 2, false)
theorem s_mr_38 (M : Nat → Nat → Int) (hm : sx_mok cl_ly M) (hJ : JJ M) (hg : ct_g k_mr_38.2.1 M) : ∃ m ∈ [k_mr_38_e, k_mr_38_0, k_mr_38_1, k_mr_38_2, k_mr_38_3], ct_g m.2.1 M := by
  have hv : M 53 14 = 38 := by
    have h := hg (53, 14, .ofNat 38, .ofNat 38) List.mem_cons_self
    exact Int.le_antisymm h.2 h.1
  have hk := jr_kn hm
  have hu := jr_un hm
  have hd := hJ.2.2.1
  have he := hJ.2.2.2
  by_cases h0 : M 53 15 = 0
  · exact ⟨k_mr_38_e, List.mem_cons_self, (jc (by show (38 : Int) ≤ M 53 14; omega) (by show M 53 14 ≤ (38 : Int); omega) (jc (by show (0 : Int) ≤ M 53 15; omega) (by show M 53 15 ≤ (0 : Int); omega) jn))⟩
  · have h8 : jp (M 62 38) (M 63 38) (M 64 38) (M 65 38) := hJ.2.1 38 (by decide)
    obtain ⟨⟨b1, b2, b3, b4⟩, h8⟩ := h8
    rcases h8 with h8 | h8 | h8 | h8
    · exact ⟨k_mr_38_0, (List.mem_cons_of_mem _ List.mem_cons_self), (jc (by show (38 : Int) ≤ M 53 14; omega) (by show M 53 14 ≤ (38 : Int); omega) (jc (by show (1 : Int) ≤ M 53 15; omega) (by show M 53 15 ≤ (2 : Int); omega) (jc (by show (0 : Int) ≤ M 62 38; omega) (by show M 62 38 ≤ (4 : Int); omega) (jc (by show (0 : Int) ≤ M 63 38; omega) (by show M 63 38 ≤ (5 : Int); omega) (jc (by show (-1 : Int) ≤ M 65 38; omega) (by show M 65 38 ≤ (143 : Int); omega) jn)))))⟩
    · exact ⟨k_mr_38_1, (List.mem_cons_of_mem _ (List.mem_cons_of_mem _ List.mem_cons_self)), (jc (by show (38 : Int) ≤ M 53 14; omega) (by show M 53 14 ≤ (38 : Int); omega) (jc (by show (1 : Int) ≤ M 53 15; omega) (by show M 53 15 ≤ (2 : Int); omega) (jc (by show (5 : Int) ≤ M 62 38; omega) (by show M 62 38 ≤ (5 : Int); omega) (jc (by show (0 : Int) ≤ M 63 38; omega) (by show M 63 38 ≤ (29 : Int); omega) (jc (by show (-1 : Int) ≤ M 65 38; omega) (by show M 65 38 ≤ (143 : Int); omega) jn)))))⟩
    · exact ⟨k_mr_38_2, (List.mem_cons_of_mem _ (List.mem_cons_of_mem _ (List.mem_cons_of_mem _ List.mem_cons_self))), (jc (by show (38 : Int) ≤ M 53 14; omega) (by show M 53 14 ≤ (38 : Int); omega) (jc (by show (1 : Int) ≤ M 53 15; omega) (by show M 53 15 ≤ (2 : Int); omega) (jc (by show (6 : Int) ≤ M 62 38; omega) (by show M 62 38 ≤ (6 : Int); omega) (jc (by show (0 : Int) ≤ M 63 38; omega) (by show M 63 38 ≤ (11 : Int); omega) (jc (by show (-1 : Int) ≤ M 65 38; omega) (by show M 65 38 ≤ (143 : Int); omega) jn)))))⟩
    · exact ⟨k_mr_38_3, (List.mem_cons_of_mem _ (List.mem_cons_of_mem _ (List.mem_cons_of_mem _ (List.mem_cons_of_mem _ List.mem_cons_self)))), (jc (by show (38 : Int) ≤ M 53 14; omega) (by show M 53 14 ≤ (38 : Int); omega) (jc (by show (1 : Int) ≤ M 53 15; omega) (by show M 53 15 ≤ (2 : Int); omega) (jc (by show (7 : Int) ≤ M 62 38; omega) (by show M 62 38 ≤ (7 : Int); omega) (jc (by show (0 : Int) ≤ M 63 38; omega) (by show M 63 38 ≤ (0 : Int); omega) (jc (by show (0 : Int) ≤ M 65 38; omega) (by show M 65 38 ≤ (29 : Int); omega) jn)))))⟩
theorem c_mr_38 (hL : L < 2 ^ 31) : ci L xs 162 k_mr_38 :=
  ci_j_ok (ms := [k_mr_38_e, k_mr_38_0, k_mr_38_1, k_mr_38_2, k_mr_38_3]) (jl_cons (c_mr_38_e hL) (jl_cons (c_mr_38_0 hL) (jl_cons (c_mr_38_1 hL) (jl_cons (c_mr_38_2 hL) (jl_cons (c_mr_38_3 hL) jl_nil))))) s_mr_38 (by decide +kernel)
def k_mr_39_e : ct_C := ([(2, .ofNat 53, .ofNat 53)], [(53, 14, .ofNat 39, .ofNat 39), (53, 15, .ofNat 0, .ofNat 0)], [], [], (some (0, .negSucc 4, .negSucc 4)), 1, false)
theorem c_mr_39_e (hL : L < 2 ^ 31) : ci L xs 162 k_mr_39_e :=
  mi_ok (fc := 9000) (f := 9000) (cuts := []) (xk := jx) cl_lok cl_hrf (cl_hro L xs) hL jx_ok (by decide +kernel)
def k_mr_39_0 : ct_C := ([(2, .ofNat 53, .ofNat 53)], [(53, 14, .ofNat 39, .ofNat 39), (53, 15, .ofNat 1, .ofNat 1), (62, 39, .ofNat 0, .ofNat 4), (63, 39, .ofNat 0, .ofNat 5), (65, 39, .negSucc 0, .ofNat 143)], [(53, 14, .ofNat 40, .ofNat 40), (53, 15, .ofNat 0, .ofNat 0)], [54, 55, 56, 57, 58], (some (0, .ofNat 0, .ofNat 0)), 2, false)
theorem c_mr_39_0 (hL : L < 2 ^ 31) : ci L xs 162 k_mr_39_0 :=
  mi_ok (fc := 9000) (f := 9000) (cuts := []) (xk := jx) cl_lok cl_hrf (cl_hro L xs) hL jx_ok (by decide +kernel)
def k_mr_39_1 : ct_C := ([(2, .ofNat 53, .ofNat 53)], [(53, 14, .ofNat 39, .ofNat 39), (53, 15, .ofNat 1, .ofNat 1), (62, 39, .ofNat 5, .ofNat 5), (63, 39, .ofNat 0, .ofNat 29), (65, 39, .negSucc 0, .ofNat 143)], [(53, 14, .ofNat 40, .ofNat 40), (53, 15, .ofNat 0, .ofNat 0)], [61], (some (0, .ofNat 0, .ofNat 0)), 2, false)
theorem c_mr_39_1 (hL : L < 2 ^ 31) : ci L xs 162 k_mr_39_1 :=
  mi_ok (fc := 9000) (f := 9000) (cuts := []) (xk := jx) cl_lok cl_hrf (cl_hro L xs) hL jx_ok (by decide +kernel)
def k_mr_39_2 : ct_C := ([(2, .ofNat 53, .ofNat 53)], [(53, 14, .ofNat 39, .ofNat 39), (53, 15, .ofNat 1, .ofNat 1), (62, 39, .ofNat 6, .ofNat 6), (63, 39, .ofNat 0, .ofNat 11), (65, 39, .negSucc 0, .ofNat 143)], [(53, 14, .ofNat 40, .ofNat 40), (53, 15, .ofNat 0, .ofNat 0)], [60], (some (0, .ofNat 0, .ofNat 0)), 2, false)
theorem c_mr_39_2 (hL : L < 2 ^ 31) : ci L xs 162 k_mr_39_2 :=
  mi_ok (fc := 9000) (f := 9000) (cuts := []) (xk := jx) cl_lok cl_hrf (cl_hro L xs) hL jx_ok (by decide +kernel)
def k_mr_39_3 : ct_C := ([(2, .ofNat 53, .ofNat 53)], [(53, 14, .ofNat 39, .ofNat 39), (53, 15, .ofNat 1, .ofNat 1), (62, 39, .ofNat 7, .ofNat 7), (63, 39, .ofNat 0, .ofNat 0), (65, 39, .ofNat 0, .ofNat 29)], [(53, 13, .ofNat 0, .ofNat 29), (53, 14, .ofNat 40, .ofNat 40), (53, 15, .ofNat 0, .ofNat 0)], [], (some (0, .ofNat 0, .ofNat 0)), 2, false)
theorem c_mr_39_3 (hL : L < 2 ^ 31) : ci L xs 162 k_mr_39_3 :=
  mi_ok (fc := 9000) (f := 9000) (cuts := []) (xk := jx) cl_lok cl_hrf (cl_hro L xs) hL jx_ok (by decide +kernel)
def k_mr_39 : ct_C := ([(2, .ofNat 53, .ofNat 53)], [(53, 14, .ofNat 39, .ofNat 39)], [(53, 13, .ofNat 0, .ofNat 29), (53, 14, .ofNat 0, .ofNat 40), (53, 15, .ofNat 0, .ofNat 40)], [54, 55, 56, 57, 58, 60, 61], (some (0, .negSucc 4, .ofNat 0)), 2, false)
theorem s_mr_39 (M : Nat → Nat → Int) (hm : sx_mok cl_ly M) (hJ : JJ M) (hg : ct_g k_mr_39.2.1 M) : ∃ m ∈ [k_mr_39_e, k_mr_39_0, k_mr_39_1, k_mr_39_2, k_mr_39_3], ct_g m.2.1 M := by
  have hv : M 53 14 = 39 := by
    have h := hg (53, 14, .ofNat 39, .ofNat 39) List.mem_cons_self
    exact Int.le_antisymm h.2 h.1
  have hk := jr_kn hm
  have hu := jr_un hm
  have hd := hJ.2.2.1
  have he := hJ.2.2.2
  by_cases h0 : M 53 15 = 0
  · exact ⟨k_mr_39_e, List.mem_cons_self, (jc (by show (39 : Int) ≤ M 53 14; omega) (by show M 53 14 ≤ (39 : Int); omega) (jc (by show (0 : Int) ≤ M 53 15; omega) (by show M 53 15 ≤ (0 : Int); omega) jn))⟩
  · have h8 : jp (M 62 39) (M 63 39) (M 64 39) (M 65 39) := hJ.2.1 39 (by decide)
    obtain ⟨⟨b1, b2, b3, b4⟩, h8⟩ := h8
    rcases h8 with h8 | h8 | h8 | h8
    · exact ⟨k_mr_39_0, (List.mem_cons_of_mem _ List.mem_cons_self), (jc (by show (39 : Int) ≤ M 53 14; omega) (by show M 53 14 ≤ (39 : Int); omega) (jc (by show (1 : Int) ≤ M 53 15; omega) (by show M 53 15 ≤ (1 : Int); omega) (jc (by show (0 : Int) ≤ M 62 39; omega) (by show M 62 39 ≤ (4 : Int); omega) (jc (by show (0 : Int) ≤ M 63 39; omega) (by show M 63 39 ≤ (5 : Int); omega) (jc (by show (-1 : Int) ≤ M 65 39; omega) (by show M 65 39 ≤ (143 : Int); omega) jn)))))⟩
    · exact ⟨k_mr_39_1, (List.mem_cons_of_mem _ (List.mem_cons_of_mem _ List.mem_cons_self)), (jc (by show (39 : Int) ≤ M 53 14; omega) (by show M 53 14 ≤ (39 : Int); omega) (jc (by show (1 : Int) ≤ M 53 15; omega) (by show M 53 15 ≤ (1 : Int); omega) (jc (by show (5 : Int) ≤ M 62 39; omega) (by show M 62 39 ≤ (5 : Int); omega) (jc (by show (0 : Int) ≤ M 63 39; omega) (by show M 63 39 ≤ (29 : Int); omega) (jc (by show (-1 : Int) ≤ M 65 39; omega) (by show M 65 39 ≤ (143 : Int); omega) jn)))))⟩
    · exact ⟨k_mr_39_2, (List.mem_cons_of_mem _ (List.mem_cons_of_mem _ (List.mem_cons_of_mem _ List.mem_cons_self))), (jc (by show (39 : Int) ≤ M 53 14; omega) (by show M 53 14 ≤ (39 : Int); omega) (jc (by show (1 : Int) ≤ M 53 15; omega) (by show M 53 15 ≤ (1 : Int); omega) (jc (by show (6 : Int) ≤ M 62 39; omega) (by show M 62 39 ≤ (6 : Int); omega) (jc (by show (0 : Int) ≤ M 63 39; omega) (by show M 63 39 ≤ (11 : Int); omega) (jc (by show (-1 : Int) ≤ M 65 39; omega) (by show M 65 39 ≤ (143 : Int); omega) jn)))))⟩
    · exact ⟨k_mr_39_3, (List.mem_cons_of_mem _ (List.mem_cons_of_mem _ (List.mem_cons_of_mem _ (List.mem_cons_of_mem _ List.mem_cons_self)))), (jc (by show (39 : Int) ≤ M 53 14; omega) (by show M 53 14 ≤ (39 : Int); omega) (jc (by show (1 : Int) ≤ M 53 15; omega) (by show M 53 15 ≤ (1 : Int); omega) (jc (by show (7 : Int) ≤ M 62 39; omega) (by show M 62 39 ≤ (7 : Int); omega) (jc (by show (0 : Int) ≤ M 63 39; omega) (by show M 63 39 ≤ (0 : Int); omega) (jc (by show (0 : Int) ≤ M 65 39; omega) (by show M 65 39 ≤ (29 : Int); omega) jn)))))⟩
theorem c_mr_39 (hL : L < 2 ^ 31) : ci L xs 162 k_mr_39 :=
  ci_j_ok (ms := [k_mr_39_e, k_mr_39_0, k_mr_39_1, k_mr_39_2, k_mr_39_3]) (jl_cons (c_mr_39_e hL) (jl_cons (c_mr_39_0 hL) (jl_cons (c_mr_39_1 hL) (jl_cons (c_mr_39_2 hL) (jl_cons (c_mr_39_3 hL) jl_nil))))) s_mr_39 (by decide +kernel)
def k_mr_40_e : ct_C := ([(2, .ofNat 53, .ofNat 53)], [(53, 14, .ofNat 40, .ofNat 40), (53, 15, .ofNat 0, .ofNat 0)], [], [], (some (0, .negSucc 4, .negSucc 4)), 1, false)
theorem c_mr_40_e (hL : L < 2 ^ 31) : ci L xs 162 k_mr_40_e :=
  mi_ok (fc := 9000) (f := 9000) (cuts := []) (xk := jx) cl_lok cl_hrf (cl_hro L xs) hL jx_ok (by decide +kernel)
def k_mr_40 : ct_C := ([(2, .ofNat 53, .ofNat 53)], [(53, 14, .ofNat 40, .ofNat 40)], [], [], (some (0, .negSucc 4, .negSucc 4)), 1, false)
theorem s_mr_40 (M : Nat → Nat → Int) (hm : sx_mok cl_ly M) (hJ : JJ M) (hg : ct_g k_mr_40.2.1 M) : ∃ m ∈ [k_mr_40_e], ct_g m.2.1 M := by
  have hv : M 53 14 = 40 := by
    have h := hg (53, 14, .ofNat 40, .ofNat 40) List.mem_cons_self
    exact Int.le_antisymm h.2 h.1
  have hk := jr_kn hm
  have hu := jr_un hm
  have hd := hJ.2.2.1
  have he := hJ.2.2.2
  exact ⟨k_mr_40_e, List.mem_cons_self, (jc (by show (40 : Int) ≤ M 53 14; omega) (by show M 53 14 ≤ (40 : Int); omega) (jc (by show (0 : Int) ≤ M 53 15; omega) (by show M 53 15 ≤ (0 : Int); omega) jn))⟩
theorem c_mr_40 (hL : L < 2 ^ 31) : ci L xs 162 k_mr_40 :=
  ci_j_ok (ms := [k_mr_40_e]) (jl_cons (c_mr_40_e hL) jl_nil) s_mr_40 (by decide +kernel)
def k_mredo : ct_C := ([(2, .ofNat 53, .ofNat 53)], [(53, 14, .ofNat 0, .ofNat 40)], [(53, 13, .ofNat 0, .ofNat 29), (53, 14, .ofNat 0, .ofNat 40), (53, 15, .ofNat 0, .ofNat 40)], [54, 55, 56, 57, 58, 60, 61], (some (0, .negSucc 4, .ofNat 39)), 2, false)
theorem c_mredo (hL : L < 2 ^ 31) : ci L xs 162 k_mredo :=
  ci_g_ok (i := 0) (ms := [((.ofNat 0, .ofNat 0), k_mr_0), ((.ofNat 1, .ofNat 1), k_mr_1), ((.ofNat 2, .ofNat 2), k_mr_2), ((.ofNat 3, .ofNat 3), k_mr_3), ((.ofNat 4, .ofNat 4), k_mr_4), ((.ofNat 5, .ofNat 5), k_mr_5), ((.ofNat 6, .ofNat 6), k_mr_6), ((.ofNat 7, .ofNat 7), k_mr_7), ((.ofNat 8, .ofNat 8), k_mr_8), ((.ofNat 9, .ofNat 9), k_mr_9), ((.ofNat 10, .ofNat 10), k_mr_10), ((.ofNat 11, .ofNat 11), k_mr_11), ((.ofNat 12, .ofNat 12), k_mr_12), ((.ofNat 13, .ofNat 13), k_mr_13), ((.ofNat 14, .ofNat 14), k_mr_14), ((.ofNat 15, .ofNat 15), k_mr_15), ((.ofNat 16, .ofNat 16), k_mr_16), ((.ofNat 17, .ofNat 17), k_mr_17), ((.ofNat 18, .ofNat 18), k_mr_18), ((.ofNat 19, .ofNat 19), k_mr_19), ((.ofNat 20, .ofNat 20), k_mr_20), ((.ofNat 21, .ofNat 21), k_mr_21), ((.ofNat 22, .ofNat 22), k_mr_22), ((.ofNat 23, .ofNat 23), k_mr_23), ((.ofNat 24, .ofNat 24), k_mr_24), ((.ofNat 25, .ofNat 25), k_mr_25), ((.ofNat 26, .ofNat 26), k_mr_26), ((.ofNat 27, .ofNat 27), k_mr_27), ((.ofNat 28, .ofNat 28), k_mr_28), ((.ofNat 29, .ofNat 29), k_mr_29), ((.ofNat 30, .ofNat 30), k_mr_30), ((.ofNat 31, .ofNat 31), k_mr_31), ((.ofNat 32, .ofNat 32), k_mr_32), ((.ofNat 33, .ofNat 33), k_mr_33), ((.ofNat 34, .ofNat 34), k_mr_34), ((.ofNat 35, .ofNat 35), k_mr_35), ((.ofNat 36, .ofNat 36), k_mr_36), ((.ofNat 37, .ofNat 37), k_mr_37), ((.ofNat 38, .ofNat 38), k_mr_38), ((.ofNat 39, .ofNat 39), k_mr_39), ((.ofNat 40, .ofNat 40), k_mr_40)]) (jm_cons (r := (.ofNat 0, .ofNat 0)) (c_mr_0 hL) (jm_cons (r := (.ofNat 1, .ofNat 1)) (c_mr_1 hL) (jm_cons (r := (.ofNat 2, .ofNat 2)) (c_mr_2 hL) (jm_cons (r := (.ofNat 3, .ofNat 3)) (c_mr_3 hL) (jm_cons (r := (.ofNat 4, .ofNat 4)) (c_mr_4 hL) (jm_cons (r := (.ofNat 5, .ofNat 5)) (c_mr_5 hL) (jm_cons (r := (.ofNat 6, .ofNat 6)) (c_mr_6 hL) (jm_cons (r := (.ofNat 7, .ofNat 7)) (c_mr_7 hL) (jm_cons (r := (.ofNat 8, .ofNat 8)) (c_mr_8 hL) (jm_cons (r := (.ofNat 9, .ofNat 9)) (c_mr_9 hL) (jm_cons (r := (.ofNat 10, .ofNat 10)) (c_mr_10 hL) (jm_cons (r := (.ofNat 11, .ofNat 11)) (c_mr_11 hL) (jm_cons (r := (.ofNat 12, .ofNat 12)) (c_mr_12 hL) (jm_cons (r := (.ofNat 13, .ofNat 13)) (c_mr_13 hL) (jm_cons (r := (.ofNat 14, .ofNat 14)) (c_mr_14 hL) (jm_cons (r := (.ofNat 15, .ofNat 15)) (c_mr_15 hL) (jm_cons (r := (.ofNat 16, .ofNat 16)) (c_mr_16 hL) (jm_cons (r := (.ofNat 17, .ofNat 17)) (c_mr_17 hL) (jm_cons (r := (.ofNat 18, .ofNat 18)) (c_mr_18 hL) (jm_cons (r := (.ofNat 19, .ofNat 19)) (c_mr_19 hL) (jm_cons (r := (.ofNat 20, .ofNat 20)) (c_mr_20 hL) (jm_cons (r := (.ofNat 21, .ofNat 21)) (c_mr_21 hL) (jm_cons (r := (.ofNat 22, .ofNat 22)) (c_mr_22 hL) (jm_cons (r := (.ofNat 23, .ofNat 23)) (c_mr_23 hL) (jm_cons (r := (.ofNat 24, .ofNat 24)) (c_mr_24 hL) (jm_cons (r := (.ofNat 25, .ofNat 25)) (c_mr_25 hL) (jm_cons (r := (.ofNat 26, .ofNat 26)) (c_mr_26 hL) (jm_cons (r := (.ofNat 27, .ofNat 27)) (c_mr_27 hL) (jm_cons (r := (.ofNat 28, .ofNat 28)) (c_mr_28 hL) (jm_cons (r := (.ofNat 29, .ofNat 29)) (c_mr_29 hL) (jm_cons (r := (.ofNat 30, .ofNat 30)) (c_mr_30 hL) (jm_cons (r := (.ofNat 31, .ofNat 31)) (c_mr_31 hL) (jm_cons (r := (.ofNat 32, .ofNat 32)) (c_mr_32 hL) (jm_cons (r := (.ofNat 33, .ofNat 33)) (c_mr_33 hL) (jm_cons (r := (.ofNat 34, .ofNat 34)) (c_mr_34 hL) (jm_cons (r := (.ofNat 35, .ofNat 35)) (c_mr_35 hL) (jm_cons (r := (.ofNat 36, .ofNat 36)) (c_mr_36 hL) (jm_cons (r := (.ofNat 37, .ofNat 37)) (c_mr_37 hL) (jm_cons (r := (.ofNat 38, .ofNat 38)) (c_mr_38 hL) (jm_cons (r := (.ofNat 39, .ofNat 39)) (c_mr_39 hL) (jm_cons (r := (.ofNat 40, .ofNat 40)) (c_mr_40 hL) jm_nil))))))))))))))))))))))))))))))))))))))))) (by decide +kernel)
def k_mm_0_0 : ct_C := ([(2, .ofNat 53, .ofNat 53), (0, .negSucc 2147483647, .ofNat 2147483647), (0, .negSucc 2147483647, .negSucc 0), (0, .negSucc 2147483647, .ofNat 2147483647)], [(53, 14, .ofNat 0, .ofNat 0), (53, 15, .ofNat 0, .ofNat 40)], [], [], (some (0, .negSucc 1999999999, .negSucc 1999999999)), 3, false)
theorem c_mm_0_0 (hL : L < 2 ^ 31) : ci L xs 163 k_mm_0_0 :=
  mi_ok (fc := 9000) (f := 9000) (cuts := []) (xk := jx) cl_lok cl_hrf (cl_hro L xs) hL jx_ok (by decide +kernel)
def k_mm_0_1 : ct_C := ([(2, .ofNat 53, .ofNat 53), (0, .negSucc 2147483647, .ofNat 2147483647), (0, .ofNat 0, .ofNat 4), (0, .negSucc 2147483647, .ofNat 2147483647)], [(53, 1, .ofNat 0, .ofNat 6), (53, 14, .ofNat 0, .ofNat 0), (53, 15, .ofNat 0, .ofNat 40)], [(53, 14, .ofNat 0, .ofNat 1), (53, 15, .ofNat 0, .ofNat 40), (62, 0, .negSucc 2147483647, .ofNat 2147483647), (63, 0, .negSucc 2147483647, .ofNat 2147483647), (64, 0, .negSucc 2147483647, .ofNat 2147483647), (65, 0, .negSucc 2147483647, .ofNat 2147483647)], [54, 55, 56, 57, 58], (some (0, .negSucc 1999999999, .ofNat 143)), 4, false)
theorem c_mm_0_1 (hL : L < 2 ^ 31) : ci L xs 163 k_mm_0_1 :=
  mi_ok (fc := 9000) (f := 9000) (cuts := []) (xk := jx) cl_lok cl_hrf (cl_hro L xs) hL jx_ok (by decide +kernel)
def k_mm_0_2 : ct_C := ([(2, .ofNat 53, .ofNat 53), (0, .negSucc 2147483647, .ofNat 2147483647), (0, .ofNat 5, .ofNat 5), (0, .negSucc 2147483647, .ofNat 2147483647)], [(53, 14, .ofNat 0, .ofNat 0), (53, 15, .ofNat 0, .ofNat 40)], [(53, 14, .ofNat 0, .ofNat 1), (53, 15, .ofNat 0, .ofNat 40), (62, 0, .negSucc 2147483647, .ofNat 2147483647), (63, 0, .negSucc 2147483647, .ofNat 2147483647), (64, 0, .negSucc 2147483647, .ofNat 2147483647), (65, 0, .negSucc 2147483647, .ofNat 2147483647)], [61], (some (0, .negSucc 1999999999, .ofNat 143)), 4, false)
theorem c_mm_0_2 (hL : L < 2 ^ 31) : ci L xs 163 k_mm_0_2 :=
  mi_ok (fc := 9000) (f := 9000) (cuts := []) (xk := jx) cl_lok cl_hrf (cl_hro L xs) hL jx_ok (by decide +kernel)
def k_mm_0_3 : ct_C := ([(2, .ofNat 53, .ofNat 53), (0, .negSucc 2147483647, .ofNat 2147483647), (0, .ofNat 6, .ofNat 6), (0, .negSucc 2147483647, .ofNat 2147483647)], [(53, 8, .ofNat 0, .ofNat 12), (53, 14, .ofNat 0, .ofNat 0), (53, 15, .ofNat 0, .ofNat 40)], [(53, 14, .ofNat 0, .ofNat 1), (53, 15, .ofNat 0, .ofNat 40), (62, 0, .negSucc 2147483647, .ofNat 2147483647), (63, 0, .negSucc 2147483647, .ofNat 2147483647), (64, 0, .negSucc 2147483647, .ofNat 2147483647), (65, 0, .negSucc 2147483647, .ofNat 2147483647)], [60], (some (0, .negSucc 1999999999, .ofNat 143)), 4, false)
theorem c_mm_0_3 (hL : L < 2 ^ 31) : ci L xs 163 k_mm_0_3 :=
  mi_ok (fc := 9000) (f := 9000) (cuts := []) (xk := jx) cl_lok cl_hrf (cl_hro L xs) hL jx_ok (by decide +kernel)
def k_mm_0_4 : ct_C := ([(2, .ofNat 53, .ofNat 53), (0, .negSucc 2147483647, .ofNat 2147483647), (0, .ofNat 7, .ofNat 7), (0, .negSucc 2147483647, .ofNat 2147483647)], [(53, 13, .ofNat 0, .ofNat 29), (53, 14, .ofNat 0, .ofNat 0), (53, 15, .ofNat 0, .ofNat 40)], [(53, 13, .ofNat 0, .ofNat 29), (53, 14, .ofNat 0, .ofNat 1), (53, 15, .ofNat 0, .ofNat 40), (62, 0, .negSucc 2147483647, .ofNat 2147483647), (63, 0, .negSucc 2147483647, .ofNat 2147483647), (64, 0, .negSucc 2147483647, .ofNat 2147483647), (65, 0, .negSucc 2147483647, .ofNat 2147483647)], [], (some (0, .negSucc 1999999999, .ofNat 29)), 4, false)
theorem c_mm_0_4 (hL : L < 2 ^ 31) : ci L xs 163 k_mm_0_4 :=
  mi_ok (fc := 9000) (f := 9000) (cuts := []) (xk := jx) cl_lok cl_hrf (cl_hro L xs) hL jx_ok (by decide +kernel)
def k_mm_0_5 : ct_C := ([(2, .ofNat 53, .ofNat 53), (0, .negSucc 2147483647, .ofNat 2147483647), (0, .ofNat 8, .ofNat 2147483647), (0, .negSucc 2147483647, .ofNat 2147483647)], [(53, 14, .ofNat 0, .ofNat 0), (53, 15, .ofNat 0, .ofNat 40)], [], [], (some (0, .negSucc 1999999999, .negSucc 1999999999)), 3, false)
theorem c_mm_0_5 (hL : L < 2 ^ 31) : ci L xs 163 k_mm_0_5 :=
  mi_ok (fc := 9000) (f := 9000) (cuts := []) (xk := jx) cl_lok cl_hrf (cl_hro L xs) hL jx_ok (by decide +kernel)
def k_mn_0 : ct_C := ([(2, .ofNat 53, .ofNat 53), (0, .negSucc 2147483647, .ofNat 2147483647), (0, .negSucc 2147483647, .ofNat 2147483647), (0, .negSucc 2147483647, .ofNat 2147483647)], [(53, 14, .ofNat 0, .ofNat 0), (53, 15, .ofNat 0, .ofNat 40)], [(53, 13, .ofNat 0, .ofNat 29), (53, 14, .ofNat 0, .ofNat 40), (53, 15, .ofNat 0, .ofNat 40), (62, 0, .negSucc 2147483647, .ofNat 2147483647), (63, 0, .negSucc 2147483647, .ofNat 2147483647), (64, 0, .negSucc 2147483647, .ofNat 2147483647), (65, 0, .negSucc 2147483647, .ofNat 2147483647)], [54, 55, 56, 57, 58, 60, 61], (some (0, .negSucc 1999999999, .ofNat 143)), 4, false)
theorem c_mn_0 (hL : L < 2 ^ 31) : ci L xs 163 k_mn_0 :=
  ci_a_ok (i := 2) (ms := [((.negSucc 2147483647, .negSucc 0), k_mm_0_0), ((.ofNat 0, .ofNat 4), k_mm_0_1), ((.ofNat 5, .ofNat 5), k_mm_0_2), ((.ofNat 6, .ofNat 6), k_mm_0_3), ((.ofNat 7, .ofNat 7), k_mm_0_4), ((.ofNat 8, .ofNat 2147483647), k_mm_0_5)]) (jm_cons (r := (.negSucc 2147483647, .negSucc 0)) (c_mm_0_0 hL) (jm_cons (r := (.ofNat 0, .ofNat 4)) (c_mm_0_1 hL) (jm_cons (r := (.ofNat 5, .ofNat 5)) (c_mm_0_2 hL) (jm_cons (r := (.ofNat 6, .ofNat 6)) (c_mm_0_3 hL) (jm_cons (r := (.ofNat 7, .ofNat 7)) (c_mm_0_4 hL) (jm_cons (r := (.ofNat 8, .ofNat 2147483647)) (c_mm_0_5 hL) jm_nil)))))) (by decide +kernel)
def k_mm_0 : ct_C := ([(2, .ofNat 53, .ofNat 53), (0, .negSucc 2147483647, .ofNat 2147483647), (0, .negSucc 2147483647, .ofNat 2147483647), (0, .negSucc 2147483647, .ofNat 2147483647)], [(53, 14, .ofNat 0, .ofNat 0)], [(53, 13, .ofNat 0, .ofNat 29), (53, 14, .ofNat 0, .ofNat 40), (53, 15, .ofNat 0, .ofNat 40), (62, 0, .negSucc 2147483647, .ofNat 2147483647), (63, 0, .negSucc 2147483647, .ofNat 2147483647), (64, 0, .negSucc 2147483647, .ofNat 2147483647), (65, 0, .negSucc 2147483647, .ofNat 2147483647)], [54, 55, 56, 57, 58, 60, 61], (some (0, .negSucc 1999999999, .ofNat 143)), 4, false)
theorem s_mm_0 (M : Nat → Nat → Int) (hm : sx_mok cl_ly M) (hJ : JJ M) (hg : ct_g k_mm_0.2.1 M) : ∃ m ∈ [k_mn_0], ct_g m.2.1 M := by
  have hv : M 53 14 = 0 := by
    have h := hg (53, 14, .ofNat 0, .ofNat 0) List.mem_cons_self
    exact Int.le_antisymm h.2 h.1
  have hk := jr_kn hm
  have hu := jr_un hm
  have hd := hJ.2.2.1
  have he := hJ.2.2.2
  exact ⟨k_mn_0, List.mem_cons_self, (jc (by show (0 : Int) ≤ M 53 14; omega) (by show M 53 14 ≤ (0 : Int); omega) (jl hm (by decide +kernel) jn))⟩
theorem c_mm_0 (hL : L < 2 ^ 31) : ci L xs 163 k_mm_0 :=
  ci_j_ok (ms := [k_mn_0]) (jl_cons (c_mn_0 hL) jl_nil) s_mm_0 (by decide +kernel)
def k_mm_1_0 : ct_C := ([(2, .ofNat 53, .ofNat 53), (0, .negSucc 2147483647, .ofNat 2147483647), (0, .negSucc 2147483647, .negSucc 0), (0, .negSucc 2147483647, .ofNat 2147483647)], [(53, 14, .ofNat 1, .ofNat 1), (53, 15, .ofNat 0, .ofNat 39)], [], [], (some (0, .negSucc 1999999999, .negSucc 1999999999)), 3, false)
theorem c_mm_1_0 (hL : L < 2 ^ 31) : ci L xs 163 k_mm_1_0 :=
  mi_ok (fc := 9000) (f := 9000) (cuts := []) (xk := jx) cl_lok cl_hrf (cl_hro L xs) hL jx_ok (by decide +kernel)
def k_mm_1_1 : ct_C := ([(2, .ofNat 53, .ofNat 53), (0, .negSucc 2147483647, .ofNat 2147483647), (0, .ofNat 0, .ofNat 4), (0, .negSucc 2147483647, .ofNat 2147483647)], [(53, 1, .ofNat 0, .ofNat 6), (53, 14, .ofNat 1, .ofNat 1), (53, 15, .ofNat 0, .ofNat 39)], [(53, 14, .ofNat 1, .ofNat 2), (53, 15, .ofNat 0, .ofNat 39), (62, 1, .negSucc 2147483647, .ofNat 2147483647), (63, 1, .negSucc 2147483647, .ofNat 2147483647), (64, 1, .negSucc 2147483647, .ofNat 2147483647), (65, 1, .negSucc 2147483647, .ofNat 2147483647)], [54, 55, 56, 57, 58], (some (0, .negSucc 1999999999, .ofNat 143)), 4, false)
theorem c_mm_1_1 (hL : L < 2 ^ 31) : ci L xs 163 k_mm_1_1 :=
  mi_ok (fc := 9000) (f := 9000) (cuts := []) (xk := jx) cl_lok cl_hrf (cl_hro L xs) hL jx_ok (by decide +kernel)
def k_mm_1_2 : ct_C := ([(2, .ofNat 53, .ofNat 53), (0, .negSucc 2147483647, .ofNat 2147483647), (0, .ofNat 5, .ofNat 5), (0, .negSucc 2147483647, .ofNat 2147483647)], [(53, 14, .ofNat 1, .ofNat 1), (53, 15, .ofNat 0, .ofNat 39)], [(53, 14, .ofNat 1, .ofNat 2), (53, 15, .ofNat 0, .ofNat 39), (62, 1, .negSucc 2147483647, .ofNat 2147483647), (63, 1, .negSucc 2147483647, .ofNat 2147483647), (64, 1, .negSucc 2147483647, .ofNat 2147483647), (65, 1, .negSucc 2147483647, .ofNat 2147483647)], [61], (some (0, .negSucc 1999999999, .ofNat 143)), 4, false)
theorem c_mm_1_2 (hL : L < 2 ^ 31) : ci L xs 163 k_mm_1_2 :=
  mi_ok (fc := 9000) (f := 9000) (cuts := []) (xk := jx) cl_lok cl_hrf (cl_hro L xs) hL jx_ok (by decide +kernel)
def k_mm_1_3 : ct_C := ([(2, .ofNat 53, .ofNat 53), (0, .negSucc 2147483647, .ofNat 2147483647), (0, .ofNat 6, .ofNat 6), (0, .negSucc 2147483647, .ofNat 2147483647)], [(53, 8, .ofNat 0, .ofNat 12), (53, 14, .ofNat 1, .ofNat 1), (53, 15, .ofNat 0, .ofNat 39)], [(53, 14, .ofNat 1, .ofNat 2), (53, 15, .ofNat 0, .ofNat 39), (62, 1, .negSucc 2147483647, .ofNat 2147483647), (63, 1, .negSucc 2147483647, .ofNat 2147483647), (64, 1, .negSucc 2147483647, .ofNat 2147483647), (65, 1, .negSucc 2147483647, .ofNat 2147483647)], [60], (some (0, .negSucc 1999999999, .ofNat 143)), 4, false)
theorem c_mm_1_3 (hL : L < 2 ^ 31) : ci L xs 163 k_mm_1_3 :=
  mi_ok (fc := 9000) (f := 9000) (cuts := []) (xk := jx) cl_lok cl_hrf (cl_hro L xs) hL jx_ok (by decide +kernel)
def k_mm_1_4 : ct_C := ([(2, .ofNat 53, .ofNat 53), (0, .negSucc 2147483647, .ofNat 2147483647), (0, .ofNat 7, .ofNat 7), (0, .negSucc 2147483647, .ofNat 2147483647)], [(53, 13, .ofNat 0, .ofNat 29), (53, 14, .ofNat 1, .ofNat 1), (53, 15, .ofNat 0, .ofNat 39)], [(53, 13, .ofNat 0, .ofNat 29), (53, 14, .ofNat 1, .ofNat 2), (53, 15, .ofNat 0, .ofNat 39), (62, 1, .negSucc 2147483647, .ofNat 2147483647), (63, 1, .negSucc 2147483647, .ofNat 2147483647), (64, 1, .negSucc 2147483647, .ofNat 2147483647), (65, 1, .negSucc 2147483647, .ofNat 2147483647)], [], (some (0, .negSucc 1999999999, .ofNat 29)), 4, false)
theorem c_mm_1_4 (hL : L < 2 ^ 31) : ci L xs 163 k_mm_1_4 :=
  mi_ok (fc := 9000) (f := 9000) (cuts := []) (xk := jx) cl_lok cl_hrf (cl_hro L xs) hL jx_ok (by decide +kernel)
def k_mm_1_5 : ct_C := ([(2, .ofNat 53, .ofNat 53), (0, .negSucc 2147483647, .ofNat 2147483647), (0, .ofNat 8, .ofNat 2147483647), (0, .negSucc 2147483647, .ofNat 2147483647)], [(53, 14, .ofNat 1, .ofNat 1), (53, 15, .ofNat 0, .ofNat 39)], [], [], (some (0, .negSucc 1999999999, .negSucc 1999999999)), 3, false)
theorem c_mm_1_5 (hL : L < 2 ^ 31) : ci L xs 163 k_mm_1_5 :=
  mi_ok (fc := 9000) (f := 9000) (cuts := []) (xk := jx) cl_lok cl_hrf (cl_hro L xs) hL jx_ok (by decide +kernel)
def k_mn_1 : ct_C := ([(2, .ofNat 53, .ofNat 53), (0, .negSucc 2147483647, .ofNat 2147483647), (0, .negSucc 2147483647, .ofNat 2147483647), (0, .negSucc 2147483647, .ofNat 2147483647)], [(53, 14, .ofNat 1, .ofNat 1), (53, 15, .ofNat 0, .ofNat 39)], [(53, 13, .ofNat 0, .ofNat 29), (53, 14, .ofNat 0, .ofNat 40), (53, 15, .ofNat 0, .ofNat 40), (62, 1, .negSucc 2147483647, .ofNat 2147483647), (63, 1, .negSucc 2147483647, .ofNat 2147483647), (64, 1, .negSucc 2147483647, .ofNat 2147483647), (65, 1, .negSucc 2147483647, .ofNat 2147483647)], [54, 55, 56, 57, 58, 60, 61], (some (0, .negSucc 1999999999, .ofNat 143)), 4, false)
theorem c_mn_1 (hL : L < 2 ^ 31) : ci L xs 163 k_mn_1 :=
  ci_a_ok (i := 2) (ms := [((.negSucc 2147483647, .negSucc 0), k_mm_1_0), ((.ofNat 0, .ofNat 4), k_mm_1_1), ((.ofNat 5, .ofNat 5), k_mm_1_2), ((.ofNat 6, .ofNat 6), k_mm_1_3), ((.ofNat 7, .ofNat 7), k_mm_1_4), ((.ofNat 8, .ofNat 2147483647), k_mm_1_5)]) (jm_cons (r := (.negSucc 2147483647, .negSucc 0)) (c_mm_1_0 hL) (jm_cons (r := (.ofNat 0, .ofNat 4)) (c_mm_1_1 hL) (jm_cons (r := (.ofNat 5, .ofNat 5)) (c_mm_1_2 hL) (jm_cons (r := (.ofNat 6, .ofNat 6)) (c_mm_1_3 hL) (jm_cons (r := (.ofNat 7, .ofNat 7)) (c_mm_1_4 hL) (jm_cons (r := (.ofNat 8, .ofNat 2147483647)) (c_mm_1_5 hL) jm_nil)))))) (by decide +kernel)
def k_mm_1 : ct_C := ([(2, .ofNat 53, .ofNat 53), (0, .negSucc 2147483647, .ofNat 2147483647), (0, .negSucc 2147483647, .ofNat 2147483647), (0, .negSucc 2147483647, .ofNat 2147483647)], [(53, 14, .ofNat 1, .ofNat 1)], [(53, 13, .ofNat 0, .ofNat 29), (53, 14, .ofNat 0, .ofNat 40), (53, 15, .ofNat 0, .ofNat 40), (62, 1, .negSucc 2147483647, .ofNat 2147483647), (63, 1, .negSucc 2147483647, .ofNat 2147483647), (64, 1, .negSucc 2147483647, .ofNat 2147483647), (65, 1, .negSucc 2147483647, .ofNat 2147483647)], [54, 55, 56, 57, 58, 60, 61], (some (0, .negSucc 1999999999, .ofNat 143)), 4, false)
theorem s_mm_1 (M : Nat → Nat → Int) (hm : sx_mok cl_ly M) (hJ : JJ M) (hg : ct_g k_mm_1.2.1 M) : ∃ m ∈ [k_mn_1], ct_g m.2.1 M := by
  have hv : M 53 14 = 1 := by
    have h := hg (53, 14, .ofNat 1, .ofNat 1) List.mem_cons_self
    exact Int.le_antisymm h.2 h.1
  have hk := jr_kn hm
  have hu := jr_un hm
  have hd := hJ.2.2.1
  have he := hJ.2.2.2
  exact ⟨k_mn_1, List.mem_cons_self, (jc (by show (1 : Int) ≤ M 53 14; omega) (by show M 53 14 ≤ (1 : Int); omega) (jc (by show (0 : Int) ≤ M 53 15; omega) (by show M 53 15 ≤ (39 : Int); omega) jn))⟩
theorem c_mm_1 (hL : L < 2 ^ 31) : ci L xs 163 k_mm_1 :=
  ci_j_ok (ms := [k_mn_1]) (jl_cons (c_mn_1 hL) jl_nil) s_mm_1 (by decide +kernel)
def k_mm_2_0 : ct_C := ([(2, .ofNat 53, .ofNat 53), (0, .negSucc 2147483647, .ofNat 2147483647), (0, .negSucc 2147483647, .negSucc 0), (0, .negSucc 2147483647, .ofNat 2147483647)], [(53, 14, .ofNat 2, .ofNat 2), (53, 15, .ofNat 0, .ofNat 38)], [], [], (some (0, .negSucc 1999999999, .negSucc 1999999999)), 3, false)
theorem c_mm_2_0 (hL : L < 2 ^ 31) : ci L xs 163 k_mm_2_0 :=
  mi_ok (fc := 9000) (f := 9000) (cuts := []) (xk := jx) cl_lok cl_hrf (cl_hro L xs) hL jx_ok (by decide +kernel)
def k_mm_2_1 : ct_C := ([(2, .ofNat 53, .ofNat 53), (0, .negSucc 2147483647, .ofNat 2147483647), (0, .ofNat 0, .ofNat 4), (0, .negSucc 2147483647, .ofNat 2147483647)], [(53, 1, .ofNat 0, .ofNat 6), (53, 14, .ofNat 2, .ofNat 2), (53, 15, .ofNat 0, .ofNat 38)], [(53, 14, .ofNat 2, .ofNat 3), (53, 15, .ofNat 0, .ofNat 38), (62, 2, .negSucc 2147483647, .ofNat 2147483647), (63, 2, .negSucc 2147483647, .ofNat 2147483647), (64, 2, .negSucc 2147483647, .ofNat 2147483647), (65, 2, .negSucc 2147483647, .ofNat 2147483647)], [54, 55, 56, 57, 58], (some (0, .negSucc 1999999999, .ofNat 143)), 4, false)
theorem c_mm_2_1 (hL : L < 2 ^ 31) : ci L xs 163 k_mm_2_1 :=
  mi_ok (fc := 9000) (f := 9000) (cuts := []) (xk := jx) cl_lok cl_hrf (cl_hro L xs) hL jx_ok (by decide +kernel)
def k_mm_2_2 : ct_C := ([(2, .ofNat 53, .ofNat 53), (0, .negSucc 2147483647, .ofNat 2147483647), (0, .ofNat 5, .ofNat 5), (0, .negSucc 2147483647, .ofNat 2147483647)], [(53, 14, .ofNat 2, .ofNat 2), (53, 15, .ofNat 0, .ofNat 38)], [(53, 14, .ofNat 2, .ofNat 3), (53, 15, .ofNat 0, .ofNat 38), (62, 2, .negSucc 2147483647, .ofNat 2147483647), (63, 2, .negSucc 2147483647, .ofNat 2147483647), (64, 2, .negSucc 2147483647, .ofNat 2147483647), (65, 2, .negSucc 2147483647, .ofNat 2147483647)], [61], (some (0, .negSucc 1999999999, .ofNat 143)), 4, false)
theorem c_mm_2_2 (hL : L < 2 ^ 31) : ci L xs 163 k_mm_2_2 :=
  mi_ok (fc := 9000) (f := 9000) (cuts := []) (xk := jx) cl_lok cl_hrf (cl_hro L xs) hL jx_ok (by decide +kernel)
def k_mm_2_3 : ct_C := ([(2, .ofNat 53, .ofNat 53), (0, .negSucc 2147483647, .ofNat 2147483647), (0, .ofNat 6, .ofNat 6), (0, .negSucc 2147483647, .ofNat 2147483647)], [(53, 8, .ofNat 0, .ofNat 12), (53, 14, .ofNat 2, .ofNat 2), (53, 15, .ofNat 0, .ofNat 38)], [(53, 14, .ofNat 2, .ofNat 3), (53, 15, .ofNat 0, .ofNat 38), (62, 2, .negSucc 2147483647, .ofNat 2147483647), (63, 2, .negSucc 2147483647, .ofNat 2147483647), (64, 2, .negSucc 2147483647, .ofNat 2147483647), (65, 2, .negSucc 2147483647, .ofNat 2147483647)], [60], (some (0, .negSucc 1999999999, .ofNat 143)), 4, false)
theorem c_mm_2_3 (hL : L < 2 ^ 31) : ci L xs 163 k_mm_2_3 :=
  mi_ok (fc := 9000) (f := 9000) (cuts := []) (xk := jx) cl_lok cl_hrf (cl_hro L xs) hL jx_ok (by decide +kernel)
def k_mm_2_4 : ct_C := ([(2, .ofNat 53, .ofNat 53), (0, .negSucc 2147483647, .ofNat 2147483647), (0, .ofNat 7, .ofNat 7), (0, .negSucc 2147483647, .ofNat 2147483647)], [(53, 13, .ofNat 0, .ofNat 29), (53, 14, .ofNat 2, .ofNat 2), (53, 15, .ofNat 0, .ofNat 38)], [(53, 13, .ofNat 0, .ofNat 29), (53, 14, .ofNat 2, .ofNat 3), (53, 15, .ofNat 0, .ofNat 38), (62, 2, .negSucc 2147483647, .ofNat 2147483647), (63, 2, .negSucc 2147483647, .ofNat 2147483647), (64, 2, .negSucc 2147483647, .ofNat 2147483647), (65, 2, .negSucc 2147483647, .ofNat 2147483647)], [], (some (0, .negSucc 1999999999, .ofNat 29)), 4, false)
theorem c_mm_2_4 (hL : L < 2 ^ 31) : ci L xs 163 k_mm_2_4 :=
  mi_ok (fc := 9000) (f := 9000) (cuts := []) (xk := jx) cl_lok cl_hrf (cl_hro L xs) hL jx_ok (by decide +kernel)
def k_mm_2_5 : ct_C := ([(2, .ofNat 53, .ofNat 53), (0, .negSucc 2147483647, .ofNat 2147483647), (0, .ofNat 8, .ofNat 2147483647), (0, .negSucc 2147483647, .ofNat 2147483647)], [(53, 14, .ofNat 2, .ofNat 2), (53, 15, .ofNat 0, .ofNat 38)], [], [], (some (0, .negSucc 1999999999, .negSucc 1999999999)), 3, false)
theorem c_mm_2_5 (hL : L < 2 ^ 31) : ci L xs 163 k_mm_2_5 :=
  mi_ok (fc := 9000) (f := 9000) (cuts := []) (xk := jx) cl_lok cl_hrf (cl_hro L xs) hL jx_ok (by decide +kernel)
def k_mn_2 : ct_C := ([(2, .ofNat 53, .ofNat 53), (0, .negSucc 2147483647, .ofNat 2147483647), (0, .negSucc 2147483647, .ofNat 2147483647), (0, .negSucc 2147483647, .ofNat 2147483647)], [(53, 14, .ofNat 2, .ofNat 2), (53, 15, .ofNat 0, .ofNat 38)], [(53, 13, .ofNat 0, .ofNat 29), (53, 14, .ofNat 0, .ofNat 40), (53, 15, .ofNat 0, .ofNat 40), (62, 2, .negSucc 2147483647, .ofNat 2147483647), (63, 2, .negSucc 2147483647, .ofNat 2147483647), (64, 2, .negSucc 2147483647, .ofNat 2147483647), (65, 2, .negSucc 2147483647, .ofNat 2147483647)], [54, 55, 56, 57, 58, 60, 61], (some (0, .negSucc 1999999999, .ofNat 143)), 4, false)
theorem c_mn_2 (hL : L < 2 ^ 31) : ci L xs 163 k_mn_2 :=
  ci_a_ok (i := 2) (ms := [((.negSucc 2147483647, .negSucc 0), k_mm_2_0), ((.ofNat 0, .ofNat 4), k_mm_2_1), ((.ofNat 5, .ofNat 5), k_mm_2_2), ((.ofNat 6, .ofNat 6), k_mm_2_3), ((.ofNat 7, .ofNat 7), k_mm_2_4), ((.ofNat 8, .ofNat 2147483647), k_mm_2_5)]) (jm_cons (r := (.negSucc 2147483647, .negSucc 0)) (c_mm_2_0 hL) (jm_cons (r := (.ofNat 0, .ofNat 4)) (c_mm_2_1 hL) (jm_cons (r := (.ofNat 5, .ofNat 5)) (c_mm_2_2 hL) (jm_cons (r := (.ofNat 6, .ofNat 6)) (c_mm_2_3 hL) (jm_cons (r := (.ofNat 7, .ofNat 7)) (c_mm_2_4 hL) (jm_cons (r := (.ofNat 8, .ofNat 2147483647)) (c_mm_2_5 hL) jm_nil)))))) (by decide +kernel)
def k_mm_2 : ct_C := ([(2, .ofNat 53, .ofNat 53), (0, .negSucc 2147483647, .ofNat 2147483647), (0, .negSucc 2147483647, .ofNat 2147483647), (0, .negSucc 2147483647, .ofNat 2147483647)], [(53, 14, .ofNat 2, .ofNat 2)], [(53, 13, .ofNat 0, .ofNat 29), (53, 14, .ofNat 0, .ofNat 40), (53, 15, .ofNat 0, .ofNat 40), (62, 2, .negSucc 2147483647, .ofNat 2147483647), (63, 2, .negSucc 2147483647, .ofNat 2147483647), (64, 2, .negSucc 2147483647, .ofNat 2147483647), (65, 2, .negSucc 2147483647, .ofNat 2147483647)], [54, 55, 56, 57, 58, 60, 61], (some (0, .negSucc 1999999999, .ofNat 143)), 4, false)
theorem s_mm_2 (M : Nat → Nat → Int) (hm : sx_mok cl_ly M) (hJ : JJ M) (hg : ct_g k_mm_2.2.1 M) : ∃ m ∈ [k_mn_2], ct_g m.2.1 M := by
  have hv : M 53 14 = 2 := by
    have h := hg (53, 14, .ofNat 2, .ofNat 2) List.mem_cons_self
    exact Int.le_antisymm h.2 h.1
  have hk := jr_kn hm
  have hu := jr_un hm
  have hd := hJ.2.2.1
  have he := hJ.2.2.2
  exact ⟨k_mn_2, List.mem_cons_self, (jc (by show (2 : Int) ≤ M 53 14; omega) (by show M 53 14 ≤ (2 : Int); omega) (jc (by show (0 : Int) ≤ M 53 15; omega) (by show M 53 15 ≤ (38 : Int); omega) jn))⟩
theorem c_mm_2 (hL : L < 2 ^ 31) : ci L xs 163 k_mm_2 :=
  ci_j_ok (ms := [k_mn_2]) (jl_cons (c_mn_2 hL) jl_nil) s_mm_2 (by decide +kernel)
def k_mm_3_0 : ct_C := ([(2, .ofNat 53, .ofNat 53), (0, .negSucc 2147483647, .ofNat 2147483647), (0, .negSucc 2147483647, .negSucc 0), (0, .negSucc 2147483647, .ofNat 2147483647)], [(53, 14, .ofNat 3, .ofNat 3), (53, 15, .ofNat 0, .ofNat 37)], [], [], (some (0, .negSucc 1999999999, .negSucc 1999999999)), 3, false)
theorem c_mm_3_0 (hL : L < 2 ^ 31) : ci L xs 163 k_mm_3_0 :=
  mi_ok (fc := 9000) (f := 9000) (cuts := []) (xk := jx) cl_lok cl_hrf (cl_hro L xs) hL jx_ok (by decide +kernel)
def k_mm_3_1 : ct_C := ([(2, .ofNat 53, .ofNat 53), (0, .negSucc 2147483647, .ofNat 2147483647), (0, .ofNat 0, .ofNat 4), (0, .negSucc 2147483647, .ofNat 2147483647)], [(53, 1, .ofNat 0, .ofNat 6), (53, 14, .ofNat 3, .ofNat 3), (53, 15, .ofNat 0, .ofNat 37)], [(53, 14, .ofNat 3, .ofNat 4), (53, 15, .ofNat 0, .ofNat 37), (62, 3, .negSucc 2147483647, .ofNat 2147483647), (63, 3, .negSucc 2147483647, .ofNat 2147483647), (64, 3, .negSucc 2147483647, .ofNat 2147483647), (65, 3, .negSucc 2147483647, .ofNat 2147483647)], [54, 55, 56, 57, 58], (some (0, .negSucc 1999999999, .ofNat 143)), 4, false)
theorem c_mm_3_1 (hL : L < 2 ^ 31) : ci L xs 163 k_mm_3_1 :=
  mi_ok (fc := 9000) (f := 9000) (cuts := []) (xk := jx) cl_lok cl_hrf (cl_hro L xs) hL jx_ok (by decide +kernel)
def k_mm_3_2 : ct_C := ([(2, .ofNat 53, .ofNat 53), (0, .negSucc 2147483647, .ofNat 2147483647), (0, .ofNat 5, .ofNat 5), (0, .negSucc 2147483647, .ofNat 2147483647)], [(53, 14, .ofNat 3, .ofNat 3), (53, 15, .ofNat 0, .ofNat 37)], [(53, 14, .ofNat 3, .ofNat 4), (53, 15, .ofNat 0, .ofNat 37), (62, 3, .negSucc 2147483647, .ofNat 2147483647), (63, 3, .negSucc 2147483647, .ofNat 2147483647), (64, 3, .negSucc 2147483647, .ofNat 2147483647), (65, 3, .negSucc 2147483647, .ofNat 2147483647)], [61], (some (0, .negSucc 1999999999, .ofNat 143)), 4, false)
theorem c_mm_3_2 (hL : L < 2 ^ 31) : ci L xs 163 k_mm_3_2 :=
  mi_ok (fc := 9000) (f := 9000) (cuts := []) (xk := jx) cl_lok cl_hrf (cl_hro L xs) hL jx_ok (by decide +kernel)
def k_mm_3_3 : ct_C := ([(2, .ofNat 53, .ofNat 53), (0, .negSucc 2147483647, .ofNat 2147483647), (0, .ofNat 6, .ofNat 6), (0, .negSucc 2147483647, .ofNat 2147483647)], [(53, 8, .ofNat 0, .ofNat 12), (53, 14, .ofNat 3, .ofNat 3), (53, 15, .ofNat 0, .ofNat 37)], [(53, 14, .ofNat 3, .ofNat 4), (53, 15, .ofNat 0, .ofNat 37), (62, 3, .negSucc 2147483647, .ofNat 2147483647), (63, 3, .negSucc 2147483647, .ofNat 2147483647), (64, 3, .negSucc 2147483647, .ofNat 2147483647), (65, 3, .negSucc 2147483647, .ofNat 2147483647)], [60], (some (0, .negSucc 1999999999, .ofNat 143)), 4, false)
theorem c_mm_3_3 (hL : L < 2 ^ 31) : ci L xs 163 k_mm_3_3 :=
  mi_ok (fc := 9000) (f := 9000) (cuts := []) (xk := jx) cl_lok cl_hrf (cl_hro L xs) hL jx_ok (by decide +kernel)
def k_mm_3_4 : ct_C := ([(2, .ofNat 53, .ofNat 53), (0, .negSucc 2147483647, .ofNat 2147483647), (0, .ofNat 7, .ofNat 7), (0, .negSucc 2147483647, .ofNat 2147483647)], [(53, 13, .ofNat 0, .ofNat 29), (53, 14, .ofNat 3, .ofNat 3), (53, 15, .ofNat 0, .ofNat 37)], [(53, 13, .ofNat 0, .ofNat 29), (53, 14, .ofNat 3, .ofNat 4), (53, 15, .ofNat 0, .ofNat 37), (62, 3, .negSucc 2147483647, .ofNat 2147483647), (63, 3, .negSucc 2147483647, .ofNat 2147483647), (64, 3, .negSucc 2147483647, .ofNat 2147483647), (65, 3, .negSucc 2147483647, .ofNat 2147483647)], [], (some (0, .negSucc 1999999999, .ofNat 29)), 4, false)
theorem c_mm_3_4 (hL : L < 2 ^ 31) : ci L xs 163 k_mm_3_4 :=
  mi_ok (fc := 9000) (f := 9000) (cuts := []) (xk := jx) cl_lok cl_hrf (cl_hro L xs) hL jx_ok (by decide +kernel)
def k_mm_3_5 : ct_C := ([(2, .ofNat 53, .ofNat 53), (0, .negSucc 2147483647, .ofNat 2147483647), (0, .ofNat 8, .ofNat 2147483647), (0, .negSucc 2147483647, .ofNat 2147483647)], [(53, 14, .ofNat 3, .ofNat 3), (53, 15, .ofNat 0, .ofNat 37)], [], [], (some (0, .negSucc 1999999999, .negSucc 1999999999)), 3, false)
theorem c_mm_3_5 (hL : L < 2 ^ 31) : ci L xs 163 k_mm_3_5 :=
  mi_ok (fc := 9000) (f := 9000) (cuts := []) (xk := jx) cl_lok cl_hrf (cl_hro L xs) hL jx_ok (by decide +kernel)
def k_mn_3 : ct_C := ([(2, .ofNat 53, .ofNat 53), (0, .negSucc 2147483647, .ofNat 2147483647), (0, .negSucc 2147483647, .ofNat 2147483647), (0, .negSucc 2147483647, .ofNat 2147483647)], [(53, 14, .ofNat 3, .ofNat 3), (53, 15, .ofNat 0, .ofNat 37)], [(53, 13, .ofNat 0, .ofNat 29), (53, 14, .ofNat 0, .ofNat 40), (53, 15, .ofNat 0, .ofNat 40), (62, 3, .negSucc 2147483647, .ofNat 2147483647), (63, 3, .negSucc 2147483647, .ofNat 2147483647), (64, 3, .negSucc 2147483647, .ofNat 2147483647), (65, 3, .negSucc 2147483647, .ofNat 2147483647)], [54, 55, 56, 57, 58, 60, 61], (some (0, .negSucc 1999999999, .ofNat 143)), 4, false)
theorem c_mn_3 (hL : L < 2 ^ 31) : ci L xs 163 k_mn_3 :=
  ci_a_ok (i := 2) (ms := [((.negSucc 2147483647, .negSucc 0), k_mm_3_0), ((.ofNat 0, .ofNat 4), k_mm_3_1), ((.ofNat 5, .ofNat 5), k_mm_3_2), ((.ofNat 6, .ofNat 6), k_mm_3_3), ((.ofNat 7, .ofNat 7), k_mm_3_4), ((.ofNat 8, .ofNat 2147483647), k_mm_3_5)]) (jm_cons (r := (.negSucc 2147483647, .negSucc 0)) (c_mm_3_0 hL) (jm_cons (r := (.ofNat 0, .ofNat 4)) (c_mm_3_1 hL) (jm_cons (r := (.ofNat 5, .ofNat 5)) (c_mm_3_2 hL) (jm_cons (r := (.ofNat 6, .ofNat 6)) (c_mm_3_3 hL) (jm_cons (r := (.ofNat 7, .ofNat 7)) (c_mm_3_4 hL) (jm_cons (r := (.ofNat 8, .ofNat 2147483647)) (c_mm_3_5 hL) jm_nil)))))) (by decide +kernel)
def k_mm_3 : ct_C := ([(2, .ofNat 53, .ofNat 53), (0, .negSucc 2147483647, .ofNat 2147483647), (0, .negSucc 2147483647, .ofNat 2147483647), (0, .negSucc 2147483647, .ofNat 2147483647)], [(53, 14, .ofNat 3, .ofNat 3)], [(53, 13, .ofNat 0, .ofNat 29), (53, 14, .ofNat 0, .ofNat 40), (53, 15, .ofNat 0, .ofNat 40), (62, 3, .negSucc 2147483647, .ofNat 2147483647), (63, 3, .negSucc 2147483647, .ofNat 2147483647), (64, 3, .negSucc 2147483647, .ofNat 2147483647), (65, 3, .negSucc 2147483647, .ofNat 2147483647)], [54, 55, 56, 57, 58, 60, 61], (some (0, .negSucc 1999999999, .ofNat 143)), 4, false)
theorem s_mm_3 (M : Nat → Nat → Int) (hm : sx_mok cl_ly M) (hJ : JJ M) (hg : ct_g k_mm_3.2.1 M) : ∃ m ∈ [k_mn_3], ct_g m.2.1 M := by
  have hv : M 53 14 = 3 := by
    have h := hg (53, 14, .ofNat 3, .ofNat 3) List.mem_cons_self
    exact Int.le_antisymm h.2 h.1
  have hk := jr_kn hm
  have hu := jr_un hm
  have hd := hJ.2.2.1
  have he := hJ.2.2.2
  exact ⟨k_mn_3, List.mem_cons_self, (jc (by show (3 : Int) ≤ M 53 14; omega) (by show M 53 14 ≤ (3 : Int); omega) (jc (by show (0 : Int) ≤ M 53 15; omega) (by show M 53 15 ≤ (37 : Int); omega) jn))⟩
theorem c_mm_3 (hL : L < 2 ^ 31) : ci L xs 163 k_mm_3 :=
  ci_j_ok (ms := [k_mn_3]) (jl_cons (c_mn_3 hL) jl_nil) s_mm_3 (by decide +kernel)
end
