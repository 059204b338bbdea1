/-! mend, undo, redo, 25. -/
section
variable {L : Nat} {xs : Nat → Int32}
def k_mr_5 : ct_C := ([(2, .ofNat 53, .ofNat 53)], [(53, 14, .ofNat 5, .ofNat 5)], [(53, 13, .ofNat 0, .ofNat 29), (53, 14, .ofNat 0, .ofNat 40), (53, 15, .ofNat 0, .ofNat 40)], [54, 55, 56, 57, 58, 60, 61], (some (0, .negSucc 4, .ofNat 34)), 2, false)
theorem s_mr_5 (M : Nat → Nat → Int) (hm : sx_mok cl_ly M) (hJ : JJ M) (hg : ct_g k_mr_5.2.1 M) : ∃ m ∈ [k_mr_5_e, k_mr_5_0, k_mr_5_1, k_mr_5_2, k_mr_5_3], ct_g m.2.1 M := by
  have hv : M 53 14 = 5 := by
    have h := hg (53, 14, .ofNat 5, .ofNat 5) List.mem_cons_self
    exact Int.le_antisymm h.2 h.1
  have hk := jr_kn hm
  have hu := jr_un hm
  have hd := hJ.2.2.1
  have he := hJ.2.2.2
  by_cases h0 : M 53 15 = 0
  · exact ⟨k_mr_5_e, List.mem_cons_self, (jc (by show (5 : Int) ≤ M 53 14; omega) (by show M 53 14 ≤ (5 : Int); omega) (jc (by show (0 : Int) ≤ M 53 15; omega) (by show M 53 15 ≤ (0 : Int); omega) jn))⟩
  · have h8 : jp (M 62 5) (M 63 5) (M 64 5) (M 65 5) := hJ.2.1 5 (by decide)
    obtain ⟨⟨b1, b2, b3, b4⟩, h8⟩ := h8
    rcases h8 with h8 | h8 | h8 | h8
    · exact ⟨k_mr_5_0, (List.mem_cons_of_mem _ List.mem_cons_self), (jc (by show (5 : Int) ≤ M 53 14; omega) (by show M 53 14 ≤ (5 : Int); omega) (jc (by show (1 : Int) ≤ M 53 15; omega) (by show M 53 15 ≤ (35 : Int); omega) (jc (by show (0 : Int) ≤ M 62 5; omega) (by show M 62 5 ≤ (4 : Int); omega) (jc (by show (0 : Int) ≤ M 63 5; omega) (by show M 63 5 ≤ (5 : Int); omega) (jc (by show (-1 : Int) ≤ M 65 5; omega) (by show M 65 5 ≤ (143 : Int); omega) jn)))))⟩
    · exact ⟨k_mr_5_1, (List.mem_cons_of_mem _ (List.mem_cons_of_mem _ List.mem_cons_self)), (jc (by show (5 : Int) ≤ M 53 14; omega) (by show M 53 14 ≤ (5 : Int); omega) (jc (by show (1 : Int) ≤ M 53 15; omega) (by show M 53 15 ≤ (35 : Int); omega) (jc (by show (5 : Int) ≤ M 62 5; omega) (by show M 62 5 ≤ (5 : Int); omega) (jc (by show (0 : Int) ≤ M 63 5; omega) (by show M 63 5 ≤ (29 : Int); omega) (jc (by show (-1 : Int) ≤ M 65 5; omega) (by show M 65 5 ≤ (143 : Int); omega) jn)))))⟩
    · exact ⟨k_mr_5_2, (List.mem_cons_of_mem _ (List.mem_cons_of_mem _ (List.mem_cons_of_mem _ List.mem_cons_self))), (jc (by show (5 : Int) ≤ M 53 14; omega) (by show M 53 14 ≤ (5 : Int); omega) (jc (by show (1 : Int) ≤ M 53 15; omega) (by show M 53 15 ≤ (35 : Int); omega) (jc (by show (6 : Int) ≤ M 62 5; omega) (by show M 62 5 ≤ (6 : Int); omega) (jc (by show (0 : Int) ≤ M 63 5; omega) (by show M 63 5 ≤ (11 : Int); omega) (jc (by show (-1 : Int) ≤ M 65 5; omega) (by show M 65 5 ≤ (143 : Int); omega) jn)))))⟩
    · exact ⟨k_mr_5_3, (List.mem_cons_of_mem _ (List.mem_cons_of_mem _ (List.mem_cons_of_mem _ (List.mem_cons_of_mem _ List.mem_cons_self)))), (jc (by show (5 : Int) ≤ M 53 14; omega) (by show M 53 14 ≤ (5 : Int); omega) (jc (by show (1 : Int) ≤ M 53 15; omega) (by show M 53 15 ≤ (35 : Int); omega) (jc (by show (7 : Int) ≤ M 62 5; omega) (by show M 62 5 ≤ (7 : Int); omega) (jc (by show (0 : Int) ≤ M 63 5; omega) (by show M 63 5 ≤ (0 : Int); omega) (jc (by show (0 : Int) ≤ M 65 5; omega) (by show M 65 5 ≤ (29 : Int); omega) jn)))))⟩
theorem c_mr_5 (hL : L < 2 ^ 31) : ci L xs 162 k_mr_5 :=
  ci_j_ok (ms := [k_mr_5_e, k_mr_5_0, k_mr_5_1, k_mr_5_2, k_mr_5_3]) (jl_cons (c_mr_5_e hL) (jl_cons (c_mr_5_0 hL) (jl_cons (c_mr_5_1 hL) (jl_cons (c_mr_5_2 hL) (jl_cons (c_mr_5_3 hL) jl_nil))))) s_mr_5 (by decide +kernel)
def k_mr_6_e : ct_C := ([(2, .ofNat 53, .ofNat 53)], [(53, 14, .ofNat 6, .ofNat 6), (53, 15, .ofNat 0, .ofNat 0)], [], [], (some (0, .negSucc 4, .negSucc 4)), 1, false)
theorem c_mr_6_e (hL : L < 2 ^ 31) : ci L xs 162 k_mr_6_e :=
  mi_ok (fc := 9000) (f := 9000) (cuts := []) (xk := jx) cl_lok cl_hrf (cl_hro L xs) hL jx_ok (by decide +kernel)
def k_mr_6_0 : ct_C := ([(2, .ofNat 53, .ofNat 53)], [(53, 14, .ofNat 6, .ofNat 6), (53, 15, .ofNat 1, .ofNat 34), (62, 6, .ofNat 0, .ofNat 4), (63, 6, .ofNat 0, .ofNat 5), (65, 6, .negSucc 0, .ofNat 143)], [(53, 14, .ofNat 7, .ofNat 7), (53, 15, .ofNat 0, .ofNat 33)], [54, 55, 56, 57, 58], (some (0, .ofNat 0, .ofNat 33)), 2, false)
theorem c_mr_6_0 (hL : L < 2 ^ 31) : ci L xs 162 k_mr_6_0 :=
  mi_ok (fc := 9000) (f := 9000) (cuts := []) (xk := jx) cl_lok cl_hrf (cl_hro L xs) hL jx_ok (by decide +kernel)
def k_mr_6_1 : ct_C := ([(2, .ofNat 53, .ofNat 53)], [(53, 14, .ofNat 6, .ofNat 6), (53, 15, .ofNat 1, .ofNat 34), (62, 6, .ofNat 5, .ofNat 5), (63, 6, .ofNat 0, .ofNat 29), (65, 6, .negSucc 0, .ofNat 143)], [(53, 14, .ofNat 7, .ofNat 7), (53, 15, .ofNat 0, .ofNat 33)], [61], (some (0, .ofNat 0, .ofNat 33)), 2, false)
theorem c_mr_6_1 (hL : L < 2 ^ 31) : ci L xs 162 k_mr_6_1 :=
  mi_ok (fc := 9000) (f := 9000) (cuts := []) (xk := jx) cl_lok cl_hrf (cl_hro L xs) hL jx_ok (by decide +kernel)
def k_mr_6_2 : ct_C := ([(2, .ofNat 53, .ofNat 53)], [(53, 14, .ofNat 6, .ofNat 6), (53, 15, .ofNat 1, .ofNat 34), (62, 6, .ofNat 6, .ofNat 6), (63, 6, .ofNat 0, .ofNat 11), (65, 6, .negSucc 0, .ofNat 143)], [(53, 14, .ofNat 7, .ofNat 7), (53, 15, .ofNat 0, .ofNat 33)], [60], (some (0, .ofNat 0, .ofNat 33)), 2, false)
theorem c_mr_6_2 (hL : L < 2 ^ 31) : ci L xs 162 k_mr_6_2 :=
  mi_ok (fc := 9000) (f := 9000) (cuts := []) (xk := jx) cl_lok cl_hrf (cl_hro L xs) hL jx_ok (by decide +kernel)
def k_mr_6_3 : ct_C := ([(2, .ofNat 53, .ofNat 53)], [(53, 14, .ofNat 6, .ofNat 6), (53, 15, .ofNat 1, .ofNat 34), (62, 6, .ofNat 7, .ofNat 7), (63, 6, .ofNat 0, .ofNat 0), (65, 6, .ofNat 0, .ofNat 29)], [(53, 13, .ofNat 0, .ofNat 29), (53, 14, .ofNat 7, .ofNat 7), (53, 15, .ofNat 0, .ofNat 33)], [], (some (0, .ofNat 0, .ofNat 33)), 2, false)
theorem c_mr_6_3 (hL : L < 2 ^ 31) : ci L xs 162 k_mr_6_3 :=
  mi_ok (fc := 9000) (f := 9000) (cuts := []) (xk := jx) cl_lok cl_hrf (cl_hro L xs) hL jx_ok (by decide +kernel)
def k_mr_6 : ct_C := ([(2, .ofNat 53, .ofNat 53)], [(53, 14, .ofNat 6, .ofNat 6)], [(53, 13, .ofNat 0, .ofNat 29), (53, 14, .ofNat 0, .ofNat 40), (53, 15, .ofNat 0, .ofNat 40)], [54, 55, 56, 57, 58, 60, 61], (some (0, .negSucc 4, .ofNat 33)), 2, false)
theorem s_mr_6 (M : Nat → Nat → Int) (hm : sx_mok cl_ly M) (hJ : JJ M) (hg : ct_g k_mr_6.2.1 M) : ∃ m ∈ [k_mr_6_e, k_mr_6_0, k_mr_6_1, k_mr_6_2, k_mr_6_3], ct_g m.2.1 M := by
  have hv : M 53 14 = 6 := by
    have h := hg (53, 14, .ofNat 6, .ofNat 6) List.mem_cons_self
    exact Int.le_antisymm h.2 h.1
  have hk := jr_kn hm
  have hu := jr_un hm
  have hd := hJ.2.2.1
  have he := hJ.2.2.2
  by_cases h0 : M 53 15 = 0
  · exact ⟨k_mr_6_e, List.mem_cons_self, (jc (by show (6 : Int) ≤ M 53 14; omega) (by show M 53 14 ≤ (6 : Int); omega) (jc (by show (0 : Int) ≤ M 53 15; omega) (by show M 53 15 ≤ (0 : Int); omega) jn))⟩
  · have h8 : jp (M 62 6) (M 63 6) (M 64 6) (M 65 6) := hJ.2.1 6 (by decide)
    obtain ⟨⟨b1, b2, b3, b4⟩, h8⟩ := h8
    rcases h8 with h8 | h8 | h8 | h8
    · exact ⟨k_mr_6_0, (List.mem_cons_of_mem _ List.mem_cons_self), (jc (by show (6 : Int) ≤ M 53 14; omega) (by show M 53 14 ≤ (6 : Int); omega) (jc (by show (1 : Int) ≤ M 53 15; omega) (by show M 53 15 ≤ (34 : Int); omega) (jc (by show (0 : Int) ≤ M 62 6; omega) (by show M 62 6 ≤ (4 : Int); omega) (jc (by show (0 : Int) ≤ M 63 6; omega) (by show M 63 6 ≤ (5 : Int); omega) (jc (by show (-1 : Int) ≤ M 65 6; omega) (by show M 65 6 ≤ (143 : Int); omega) jn)))))⟩
    · exact ⟨k_mr_6_1, (List.mem_cons_of_mem _ (List.mem_cons_of_mem _ List.mem_cons_self)), (jc (by show (6 : Int) ≤ M 53 14; omega) (by show M 53 14 ≤ (6 : Int); omega) (jc (by show (1 : Int) ≤ M 53 15; omega) (by show M 53 15 ≤ (34 : Int); omega) (jc (by show (5 : Int) ≤ M 62 6; omega) (by show M 62 6 ≤ (5 : Int); omega) (jc (by show (0 : Int) ≤ M 63 6; omega) (by show M 63 6 ≤ (29 : Int); omega) (jc (by show (-1 : Int) ≤ M 65 6; omega) (by show M 65 6 ≤ (143 : Int); omega) jn)))))⟩
    · exact ⟨k_mr_6_2, (List.mem_cons_of_mem _ (List.mem_cons_of_mem _ (List.mem_cons_of_mem _ List.mem_cons_self))), (jc (by show (6 : Int) ≤ M 53 14; omega) (by show M 53 14 ≤ (6 : Int); omega) (jc (by show (1 : Int) ≤ M 53 15; omega) (by show M 53 15 ≤ (34 : Int); omega) (jc (by show (6 : Int) ≤ M 62 6; omega) (by show M 62 6 ≤ (6 : Int); omega) (jc (by show (0 : Int) ≤ M 63 6; omega) (by show M 63 6 ≤ (11 : Int); omega) (jc (by show (-1 : Int) ≤ M 65 6; omega) (by show M 65 6 ≤ (143 : Int); omega) jn)))))⟩
    · exact ⟨k_mr_6_3, (List.mem_cons_of_mem _ (List.mem_cons_of_mem _ (List.mem_cons_of_mem _ (List.mem_cons_of_mem _ List.mem_cons_self)))), (jc (by show (6 : Int) ≤ M 53 14; omega) (by show M 53 14 ≤ (6 : Int); omega) (jc (by show (1 : Int) ≤ M 53 15; omega) (by show M 53 15 ≤ (34 : Int); omega) (jc (by show (7 : Int) ≤ M 62 6; omega) (by show M 62 6 ≤ (7 : Int); omega) (jc (by show (0 : Int) ≤ M 63 6; omega) (by show M 63 6 ≤ (0 : Int); omega) (jc (by show (0 : Int) ≤ M 65 6; omega) (by show M 65 6 ≤ (29 : Int); omega) jn)))))⟩
theorem c_mr_6 (hL : L < 2 ^ 31) : ci L xs 162 k_mr_6 :=
  ci_j_ok (ms := [k_mr_6_e, k_mr_6_0, k_mr_6_1, k_mr_6_2, k_mr_6_3]) (jl_cons (c_mr_6_e hL) (jl_cons (c_mr_6_0 hL) (jl_cons (c_mr_6_1 hL) (jl_cons (c_mr_6_2 hL) (jl_cons (c_mr_6_3 hL) jl_nil))))) s_mr_6 (by decide +kernel)
def k_mr_7_e : ct_C := ([(2, .ofNat 53, .ofNat 53)], [(53, 14, .ofNat 7, .ofNat 7), (53, 15, .ofNat 0, .ofNat 0)], [], [], (some (0, .negSucc 4, .negSucc 4)), 1, false)
theorem c_mr_7_e (hL : L < 2 ^ 31) : ci L xs 162 k_mr_7_e :=
  mi_ok (fc := 9000) (f := 9000) (cuts := []) (xk := jx) cl_lok cl_hrf (cl_hro L xs) hL jx_ok (by decide +kernel)
def k_mr_7_0 : ct_C := ([(2, .ofNat 53, .ofNat 53)], [(53, 14, .ofNat 7, .ofNat 7), (53, 15, .ofNat 1, .ofNat 33), (62, 7, .ofNat 0, .ofNat 4), (63, 7, .ofNat 0, .ofNat 5), (65, 7, .negSucc 0, .ofNat 143)], [(53, 14, .ofNat 8, .ofNat 8), (53, 15, .ofNat 0, .ofNat 32)], [54, 55, 56, 57, 58], (some (0, .ofNat 0, .ofNat 32)), 2, false)
theorem c_mr_7_0 (hL : L < 2 ^ 31) : ci L xs 162 k_mr_7_0 :=
  mi_ok (fc := 9000) (f := 9000) (cuts := []) (xk := jx) cl_lok cl_hrf (cl_hro L xs) hL jx_ok (by decide +kernel)
def k_mr_7_1 : ct_C := ([(2, .ofNat 53, .ofNat 53)], [(53, 14, .ofNat 7, .ofNat 7), (53, 15, .ofNat 1, .ofNat 33), (62, 7, .ofNat 5, .ofNat 5), (63, 7, .ofNat 0, .ofNat 29), (65, 7, .negSucc 0, .ofNat 143)], [(53, 14, .ofNat 8, .ofNat 8), (53, 15, .ofNat 0, .ofNat 32)], [61], (some (0, .ofNat 0, .ofNat 32)), 2, false)
theorem c_mr_7_1 (hL : L < 2 ^ 31) : ci L xs 162 k_mr_7_1 :=
  mi_ok (fc := 9000) (f := 9000) (cuts := []) (xk := jx) cl_lok cl_hrf (cl_hro L xs) hL jx_ok (by decide +kernel)
def k_mr_7_2 : ct_C := ([(2, .ofNat 53, .ofNat 53)], [(53, 14, .ofNat 7, .ofNat 7), (53, 15, .ofNat 1, .ofNat 33), (62, 7, .ofNat 6, .ofNat 6), (63, 7, .ofNat 0, .ofNat 11), (65, 7, .negSucc 0, .ofNat 143)], [(53, 14, .ofNat 8, .ofNat 8), (53, 15, .ofNat 0, .ofNat 32)], [60], (some (0, .ofNat 0, .ofNat 32)), 2, false)
theorem c_mr_7_2 (hL : L < 2 ^ 31) : ci L xs 162 k_mr_7_2 :=
  mi_ok (fc := 9000) (f := 9000) (cuts := []) (xk := jx) cl_lok cl_hrf (cl_hro L xs) hL jx_ok (by decide +kernel)
def k_mr_7_3 : ct_C := ([(2, .ofNat 53, .ofNat 53)], [(53, 14, .ofNat 7, .ofNat 7), (53, 15, .ofNat 1, .ofNat 33), (62, 7, .ofNat 7, .ofNat 7), (63, 7, .ofNat 0, .ofNat 0), (65, 7, .ofNat 0, .ofNat 29)], [(53, 13, .ofNat 0, .ofNat 29), (53, 14, .ofNat 8, .ofNat 8), (53, 15, .ofNat 0, .ofNat 32)], [], (some (0, .ofNat 0, .ofNat 32)), 2, false)
theorem c_mr_7_3 (hL : L < 2 ^ 31) : ci L xs 162 k_mr_7_3 :=
  mi_ok (fc := 9000) (f := 9000) (cuts := []) (xk := jx) cl_lok cl_hrf (cl_hro L xs) hL jx_ok (by decide +kernel)
def k_mr_7 : ct_C := ([(2, .ofNat 53, .ofNat 53)], [(53, 14, .ofNat 7, .ofNat 7)], [(53, 13, .ofNat 0, .ofNat 29), (53, 14, .ofNat 0, .ofNat 40), (53, 15, .ofNat 0, .ofNat 40)], [54, 55, 56, 57, 58, 60, 61], (some (0, .negSucc 4, .ofNat 32)), 2, false)
theorem s_mr_7 (M : Nat → Nat → Int) (hm : sx_mok cl_ly M) (hJ : JJ M) (hg : ct_g k_mr_7.2.1 M) : ∃ m ∈ [k_mr_7_e, k_mr_7_0, k_mr_7_1, k_mr_7_2, k_mr_7_3], ct_g m.2.1 M := by
  have hv : M 53 14 = 7 := by
    have h := hg (53, 14, .ofNat 7, .ofNat 7) List.mem_cons_self
    exact Int.le_antisymm h.2 h.1
  have hk := jr_kn hm
  have hu := jr_un hm
  have hd := hJ.2.2.1
  have he := hJ.2.2.2
  by_cases h0 : M 53 15 = 0
  · exact ⟨k_mr_7_e, List.mem_cons_self, (jc (by show (7 : Int) ≤ M 53 14; omega) (by show M 53 14 ≤ (7 : Int); omega) (jc (by show (0 : Int) ≤ M 53 15; omega) (by show M 53 15 ≤ (0 : Int); omega) jn))⟩
  · have h8 : jp (M 62 7) (M 63 7) (M 64 7) (M 65 7) := hJ.2.1 7 (by decide)
    obtain ⟨⟨b1, b2, b3, b4⟩, h8⟩ := h8
    rcases h8 with h8 | h8 | h8 | h8
    · exact ⟨k_mr_7_0, (List.mem_cons_of_mem _ List.mem_cons_self), (jc (by show (7 : Int) ≤ M 53 14; omega) (by show M 53 14 ≤ (7 : Int); omega) (jc (by show (1 : Int) ≤ M 53 15; omega) (by show M 53 15 ≤ (33 : Int); omega) (jc (by show (0 : Int) ≤ M 62 7; omega) (by show M 62 7 ≤ (4 : Int); omega) (jc (by show (0 : Int) ≤ M 63 7; omega) (by show M 63 7 ≤ (5 : Int); omega) (jc (by show (-1 : Int) ≤ M 65 7; omega) (by show M 65 7 ≤ (143 : Int); omega) jn)))))⟩
    · exact ⟨k_mr_7_1, (List.mem_cons_of_mem _ (List.mem_cons_of_mem _ List.mem_cons_self)), (jc (by show (7 : Int) ≤ M 53 14; omega) (by show M 53 14 ≤ (7 : Int); omega) (jc (by show (1 : Int) ≤ M 53 15; omega) (by show M 53 15 ≤ (33 : Int); omega) (jc (by show (5 : Int) ≤ M 62 7; omega) (by show M 62 7 ≤ (5 : Int); omega) (jc (by show (0 : Int) ≤ M 63 7; omega) (by show M 63 7 ≤ (29 : Int); omega) (jc (by show (-1 : Int) ≤ M 65 7; omega) (by show M 65 7 ≤ (143 : Int); omega) jn)))))⟩
    · exact ⟨k_mr_7_2, (List.mem_cons_of_mem _ (List.mem_cons_of_mem _ (List.mem_cons_of_mem _ List.mem_cons_self))), (jc (by show (7 : Int) ≤ M 53 14; omega) (by show M 53 14 ≤ (7 : Int); omega) (jc (by show (1 : Int) ≤ M 53 15; omega) (by show M 53 15 ≤ (33 : Int); omega) (jc (by show (6 : Int) ≤ M 62 7; omega) (by show M 62 7 ≤ (6 : Int); omega) (jc (by show (0 : Int) ≤ M 63 7; omega) (by show M 63 7 ≤ (11 : Int); omega) (jc (by show (-1 : Int) ≤ M 65 7; omega) (by show M 65 7 ≤ (143 : Int); omega) jn)))))⟩
    · exact ⟨k_mr_7_3, (List.mem_cons_of_mem _ (List.mem_cons_of_mem _ (List.mem_cons_of_mem _ (List.mem_cons_of_mem _ List.mem_cons_self)))), (jc (by show (7 : Int) ≤ M 53 14; omega) (by show M 53 14 ≤ (7 : Int); omega) (jc (by show (1 : Int) ≤ M 53 15; omega) (by show M 53 15 ≤ (33 : Int); omega) (jc (by show (7 : Int) ≤ M 62 7; omega) (by show M 62 7 ≤ (7 : Int); omega) (jc (by show (0 : Int) ≤ M 63 7; omega) (by show M 63 7 ≤ (0 : Int); omega) (jc (by show (0 : Int) ≤ M 65 7; omega) (by show M 65 7 ≤ (29 : Int); omega) jn)))))⟩
theorem c_mr_7 (hL : L < 2 ^ 31) : ci L xs 162 k_mr_7 :=
  ci_j_ok (ms := [k_mr_7_e, k_mr_7_0, k_mr_7_1, k_mr_7_2, k_mr_7_3]) (jl_cons (c_mr_7_e hL) (jl_cons (c_mr_7_0 hL) (jl_cons (c_mr_7_1 hL) (jl_cons (c_mr_7_2 hL) (jl_cons (c_mr_7_3 hL) jl_nil))))) s_mr_7 (by decide +kernel)
def k_mr_8_e : ct_C := ([(2, .ofNat 53, .ofNat 53)], [(53, 14, .ofNat 8, .ofNat 8), (53, 15, .ofNat 0, .ofNat 0)], [], [], (some (0, .negSucc 4, .negSucc 4)), 1, false)
theorem c_mr_8_e (hL : L < 2 ^ 31) : ci L xs 162 k_mr_8_e :=
  mi_ok (fc := 9000) (f := 9000) (cuts := []) (xk := jx) cl_lok cl_hrf (cl_hro L xs) hL jx_ok (by decide +kernel)
def k_mr_8_0 : ct_C := ([(2, .ofNat 53, .ofNat 53)], [(53, 14, .ofNat 8, .ofNat 8), (53, 15, .ofNat 1, .ofNat 32), (62, 8, .ofNat 0, .ofNat 4), (63, 8, .ofNat 0, .ofNat 5), (65, 8, .negSucc 0, .ofNat 143)], [(53, 14, .ofNat 9, .ofNat 9), (53, 15, .ofNat 0, .ofNat 31)], [54, 55, 56, 57, 58], (some (0, .ofNat 0, .ofNat 31)), 2, false)
theorem c_mr_8_0 (hL : L < 2 ^ 31) : ci L xs 162 k_mr_8_0 :=
  mi_ok (fc := 9000) (f := 9000) (cuts := []) (xk := jx) cl_lok cl_hrf (cl_hro L xs) hL jx_ok (by decide +kernel)
def k_mr_8_1 : ct_C := ([(2, .ofNat 53, .ofNat 53)], [(53, 14, .ofNat 8, .ofNat 8), (53, 15, .ofNat 1, .ofNat 32), (62, 8, .ofNat 5, .ofNat 5), (63, 8, .ofNat 0, .ofNat 29), (65, 8, .negSucc 0, .ofNat 143)], [(53, 14, .ofNat 9, .ofNat 9), (53, 15, .ofNat 0, .ofNat 31)], [61], (some (0, .ofNat 0, .ofNat 31)), 2, false)
theorem c_mr_8_1 (hL : L < 2 ^ 31) : ci L xs 162 k_mr_8_1 :=
  mi_ok (fc := 9000) (f := 9000) (cuts := []) (xk := jx) cl_lok cl_hrf (cl_hro L xs) hL jx_ok (by decide +kernel)
def k_mr_8_2 : ct_C := ([(2, .ofNat 53, .ofNat 53)], [(53, 14, .ofNat 8, .ofNat 8), (53, 15, .ofNat 1, .ofNat 32), (62, 8, .ofNat 6, .ofNat 6), (63, 8, .ofNat 0, .ofNat 11), (65, 8, .negSucc 0, .ofNat 143)], [(53, 14, .ofNat 9, .ofNat 9), (53, 15, .ofNat 0, .ofNat 31)], [60], (some (0, .ofNat 0, .ofNat 31)), 2, false)
theorem c_mr_8_2 (hL : L < 2 ^ 31) : ci L xs 162 k_mr_8_2 :=
  mi_ok (fc := 9000) (f := 9000) (cuts := []) (xk := jx) cl_lok cl_hrf (cl_hro L xs) hL jx_ok (by decide +kernel)
def k_mr_8_3 : ct_C := ([(2, .ofNat 53, .ofNat 53)], [(53, 14, .ofNat 8, .ofNat 8), (53, 15, .ofNat 1, .ofNat 32), (62, 8, .ofNat 7, .ofNat 7), (63, 8, .ofNat 0, .ofNat 0), (65, 8, .ofNat 0, .ofNat 29)], [(53, 13, .ofNat 0, .ofNat 29), (53, 14, .ofNat 9, .ofNat 9), (53, 15, .ofNat 0, .ofNat 31)], [], (some (0, .ofNat 0, .ofNat 31)), 2, false)
theorem c_mr_8_3 (hL : L < 2 ^ 31) : ci L xs 162 k_mr_8_3 :=
  mi_ok (fc := 9000) (f := 9000) (cuts := []) (xk := jx) cl_lok cl_hrf (cl_hro L xs) hL jx_ok (by decide +kernel)
def k_mr_8 : ct_C := ([(2, .ofNat 53, .ofNat 53)], [(53, 14, .ofNat 8, .ofNat 8)], [(53, 13, .ofNat 0, .ofNat 29), (53, 14, .ofNat 0, .ofNat 40), (53, 15, .ofNat 0, .ofNat 40)], [54, 55, 56, 57, 58, 60, 61], (some (0, .negSucc 4, .ofNat 31)), 2, false)
theorem s_mr_8 (M : Nat → Nat → Int) (hm : sx_mok cl_ly M) (hJ : JJ M) (hg : ct_g k_mr_8.2.1 M) : ∃ m ∈ [k_mr_8_e, k_mr_8_0, k_mr_8_1, k_mr_8_2, k_mr_8_3], ct_g m.2.1 M := by
  have hv : M 53 14 = 8 := by
    have h := hg (53, 14, .ofNat 8, .ofNat 8) List.mem_cons_self
    exact Int.le_antisymm h.2 h.1
  have hk := jr_kn hm
  have hu := jr_un hm
  have hd := hJ.2.2.1
  have he := hJ.2.2.2
  by_cases h0 : M 53 15 = 0
  · exact ⟨k_mr_8_e, List.mem_cons_self, (jc (by show (8 : Int) ≤ M 53 14; omega) (by show M 53 14 ≤ (8 : Int); omega) (jc (by show (0 : Int) ≤ M 53 15; omega) (by show M 53 15 ≤ (0 : Int); omega) jn))⟩
  · have h8 : jp (M 62 8) (M 63 8) (M 64 8) (M 65 8) := hJ.2.1 8 (by decide)
    obtain ⟨⟨b1, b2, b3, b4⟩, h8⟩ := h8
    rcases h8 with h8 | h8 | h8 | h8
    · exact ⟨k_mr_8_0, (List.mem_cons_of_mem _ List.mem_cons_self), (jc (by show (8 : Int) ≤ M 53 14; omega) (by show M 53 14 ≤ (8 : Int); omega) (jc (by show (1 : Int) ≤ M 53 15; omega) (by show M 53 15 ≤ (32 : Int); omega) (jc (by show (0 : Int) ≤ M 62 8; omega) (by show M 62 8 ≤ (4 : Int); omega) (jc (by show (0 : Int) ≤ M 63 8; omega) (by show M 63 8 ≤ (5 : Int); omega) (jc (by show (-1 : Int) ≤ M 65 8; omega) (by show M 65 8 ≤ (143 : Int); omega) jn)))))⟩
    · exact ⟨k_mr_8_1, (List.mem_cons_of_mem _ (List.mem_cons_of_mem _ List.mem_cons_self)), (jc (by show (8 : Int) ≤ M 53 14; omega) (by show M 53 14 ≤ (8 : Int); omega) (jc (by show (1 : Int) ≤ M 53 15; omega) (by show M 53 15 ≤ (32 : Int); omega) (jc (by show (5 : Int) ≤ M 62 8; omega) (by show M 62 8 ≤ (5 : Int); omega) (jc (by show (0 : Int) ≤ M 63 8; omega) (by show M 63 8 ≤ (29 : Int); omega) (jc (by show (-1 : Int) ≤ M 65 8; omega) (by show M 65 8 ≤ (143 : Int); omega) jn)))))⟩
    · exact ⟨k_mr_8_2, (List.mem_cons_of_mem _ (List.mem_cons_of_mem _ (List.mem_cons_of_mem _ List.mem_cons_self))), (jc (by show (8 : Int) ≤ M 53 14; omega) (by show M 53 14 ≤ (8 : Int); omega) (jc (by show (1 : Int) ≤ M 53 15; omega) (by show M 53 15 ≤ (32 : Int); omega) (jc (by show (6 : Int) ≤ M 62 8; omega) (by show M 62 8 ≤ (6 : Int); omega) (jc (by show (0 : Int) ≤ M 63 8; omega) (by show M 63 8 ≤ (11 : Int); omega) (jc (by show (-1 : Int) ≤ M 65 8; omega) (by show M 65 8 ≤ (143 : Int); omega) jn)))))⟩
    · exact ⟨k_mr_8_3, (List.mem_cons_of_mem _ (List.mem_cons_of_mem _ (List.mem_cons_of_mem _ (List.mem_cons_of_mem _ List.mem_cons_self)))), (jc (by show (8 : Int) ≤ M 53 14; omega) (by show M 53 14 ≤ (8 : Int); omega) (jc (by show (1 : Int) ≤ M 53 15; omega) (by show M 53 15 ≤ (32 : Int); omega) (jc (by show (7 : Int) ≤ M 62 8; omega) (by show M 62 8 ≤ (7 : Int); omega) (jc (by show (0 : Int) ≤ M 63 8; omega) (by show M 63 8 ≤ (0 : Int); omega) (jc (by show (0 : Int) ≤ M 65 8; omega) (by show M 65 8 ≤ (29 : Int); omega) jn)))))⟩
theorem c_mr_8 (hL : L < 2 ^ 31) : ci L xs 162 k_mr_8 :=
  ci_j_ok (ms := [k_mr_8_e, k_mr_8_0, k_mr_8_1, k_mr_8_2, k_mr_8_3]) (jl_cons (c_mr_8_e hL) (jl_cons (c_mr_8_0 hL) (jl_cons (c_mr_8_1 hL) (jl_cons (c_mr_8_2 hL) (jl_cons (c_mr_8_3 hL) jl_nil))))) s_mr_8 (by decide +kernel)
def k_mr_9_e : ct_C := ([(2, .ofNat 53, .ofNat 53)], [(53, 14, .ofNat 9, .ofNat 9), (53, 15, .ofNat 0, .ofNat 0)], [], [], (some (0, .negSucc 4, .negSucc 4)), 1, false)
theorem c_mr_9_e (hL : L < 2 ^ 31) : ci L xs 162 k_mr_9_e :=
  mi_ok (fc := 9000) (f := 9000) (cuts := []) (xk := jx) cl_lok cl_hrf (cl_hro L xs) hL jx_ok (by decide +kernel)
def k_mr_9_0 : ct_C := ([(2, .ofNat 53, .ofNat 53)], [(53, 14, .ofNat 9, .ofNat 9), (53, 15, .ofNat 1, .ofNat 31), (62, 9, .ofNat 0, .ofNat 4), (63, 9, .ofNat 0, .ofNat 5), (65, 9, .negSucc 0, .ofNat 143)], [(53, 14, .ofNat 10, .ofNat 10), (53, 15, .ofNat 0, .ofNat 30)], [54, 55, 56, 57, 58], (some (0, .ofNat 0, .ofNat 30)), 2, false)
theorem c_mr_9_0 (hL : L < 2 ^ 31) : ci L xs 162 k_mr_9_0 :=
  mi_ok (fc := 9000) (f := 9000) (cuts := []) (xk := jx) cl_lok cl_hrf (cl_hro L xs) hL jx_ok (by decide +kernel)
def k_mr_9_1 : ct_C := ([(2, .ofNat 53, .ofNat 53)], [(53, 14, .ofNat 9, .ofNat 9), (53, 15, .ofNat 1, .ofNat 31), (62, 9, .ofNat 5, .ofNat 5), (63, 9, .ofNat 0, .ofNat 29), (65, 9, .negSucc 0, .ofNat 143)], [(53, 14, .ofNat 10, .ofNat 10), (53, 15, .ofNat 0, .ofNat 30)], [61], (some (0, .ofNat 0, .ofNat 30)), 2, false)
theorem c_mr_9_1 (hL : L < 2 ^ 31) : ci L xs 162 k_mr_9_1 :=
  mi_ok (fc := 9000) (f := 9000) (cuts := []) (xk := jx) cl_lok cl_hrf (cl_hro L xs) hL jx_ok (by decide +kernel)
def k_mr_9_2 : ct_C := ([(2, .ofNat 53, .ofNat 53)], [(53, 14, .ofNat 9, .ofNat 9), (53, 15, .ofNat 1, .ofNat 31), (62, 9, .ofNat 6, .ofNat 6), (63, 9, .ofNat 0, .ofNat 11), (65, 9, .negSucc 0, .ofNat 143)], [(53, 14, .ofNat 10, .ofNat 10), (53, 15, .ofNat 0, .ofNat 30)], [60], (some (0, .ofNat 0, .ofNat 30)), 2, false)
theorem c_mr_9_2 (hL : L < 2 ^ 31) : ci L xs 162 k_mr_9_2 :=
  mi_ok (fc := 9000) (f := 9000) (cuts := []) (xk := jx) cl_lok cl_hrf (cl_hro L xs) hL jx_ok (by decide +kernel)
def k_mr_9_3 : ct_C := ([(2, .ofNat 53, .ofNat 53)], [(53, 14, .ofNat 9, .ofNat 9), (53, 15, .ofNat 1, .ofNat 31), (62, 9, .ofNat 7, .ofNat 7), (63, 9, .ofNat 0, .ofNat 0), (65, 9, .ofNat 0, .ofNat 29)], [(53, 13, .ofNat 0, .ofNat 29), (53, 14, .ofNat 10, .ofNat 10), (53, 15, .ofNat 0, .ofNat 30)], [], (some (0, .ofNat 0, .ofNat 30)), 2, false)
theorem c_mr_9_3 (hL : L < 2 ^ 31) : ci L xs 162 k_mr_9_3 :=
  mi_ok (fc := 9000) (f := 9000) (cuts := []) (xk := jx) cl_lok cl_hrf (cl_hro L xs) hL jx_ok (by decide +kernel)
def k_mr_9 : ct_C := ([(2, .ofNat 53, .ofNat 53)], [(53, 14, .ofNat 9, .ofNat 9)], [(53, 13, .ofNat 0, .ofNat 29), (53, 14, .ofNat 0, .ofNat 40), (53, 15, .ofNat 0, .ofNat 40)], [54, 55, 56, 57, 58, 60, 61], (some (0, .negSucc 4, .ofNat 30)), 2, false)
theorem s_mr_9 (M : Nat → Nat → Int) (hm : sx_mok cl_ly M) (hJ : JJ M) (hg : ct_g k_mr_9.2.1 M) : ∃ m ∈ [k_mr_9_e, k_mr_9_0, k_mr_9_1, k_mr_9_2, k_mr_9_3], ct_g m.2.1 M := by
  have hv : M 53 14 = 9 := by
    have h := hg (53, 14, .ofNat 9, .ofNat 9) List.mem_cons_self
    exact Int.le_antisymm h.2 h.1
  have hk := jr_kn hm
  have hu := jr_un hm
  have hd := hJ.2.2.1
  have he := hJ.2.2.2
  by_cases h0 : M 53 15 = 0
  · exact ⟨k_mr_9_e, List.mem_cons_self, (jc (by show (9 : Int) ≤ M 53 14; omega) (by show M 53 14 ≤ (9 : Int); omega) (jc (by show (0 : Int) ≤ M 53 15; omega) (by show M 53 15 ≤ (0 : Int); omega) jn))⟩
  · have h8 : jp (M 62 9) (M 63 9) (M 64 9) (M 65 9) := hJ.2.1 9 (by decide)
    obtain ⟨⟨b1, b2, b3, b4⟩, h8⟩ := h8
    rcases h8 with h8 | h8 | h8 | h8
    · exact ⟨k_mr_9_0, (List.mem_cons_of_mem _ List.mem_cons_self), (jc (by show (9 : Int) ≤ M 53 14; omega) (by show M 53 14 ≤ (9 : Int); omega) (jc (by show (1 : Int) ≤ M 53 15; omega) (by show M 53 15 ≤ (31 : Int); omega) (jc (by show (0 : Int) ≤ M 62 9; omega) (by show M 62 9 ≤ (4 : Int); omega) (jc (by show (0 : Int) ≤ M 63 9; omega) (by show M 63 9 ≤ (5 : Int); omega) (jc (by show (-1 : Int) ≤ M 65 9; omega) (by show M 65 9 ≤ (143 : Int); omega) jn)))))⟩
    · exact ⟨k_mr_9_1, (List.mem_cons_of_mem _ (List.mem_cons_of_mem _ List.mem_cons_self)), (jc (by show (9 : Int) ≤ M 53 14; omega) (by show M 53 14 ≤ (9 : Int); omega) (jc (by show (1 : Int) ≤ M 53 15; omega) (by show M 53 15 ≤ (31 : Int); omega) (jc (by show (5 : Int) ≤ M 62 9; omega) (by show M 62 9 ≤ (5 : Int); omega) (jc (by show (0 : Int) ≤ M 63 9; omega) (by show M 63 9 ≤ (29 : Int); omega) (jc (by show (-1 : Int) ≤ M 65 9; omega) (by show M 65 9 ≤ (143 : Int); omega) jn)))))⟩
    · exact ⟨k_mr_9_2, (List.mem_cons_of_mem _ (List.mem_cons_of_mem _ (List.mem_cons_of_mem _ List.mem_cons_self))), (jc (by show (9 : Int) ≤ M 53 14; omega) (by show M 53 14 ≤ (9 : Int); omega) (jc (by show (1 : Int) ≤ M 53 15; omega) (by show M 53 15 ≤ (31 : Int); omega) (jc (by show (6 : Int) ≤ M 62 9; omega) (by show M 62 9 ≤ (6 : Int); omega) (jc (by show (0 : Int) ≤ M 63 9; omega) (by show M 63 9 ≤ (11 : Int); omega) (jc (by show (-1 : Int) ≤ M 65 9; omega) (by show M 65 9 ≤ (143 : Int); omega) jn)))))⟩
    · exact ⟨k_mr_9_3, (List.mem_cons_of_mem _ (List.mem_cons_of_mem _ (List.mem_cons_of_mem _ (List.mem_cons_of_mem _ List.mem_cons_self)))), (jc (by show (9 : Int) ≤ M 53 14; omega) (by show M 53 14 ≤ (9 : Int); omega) (jc (by show (1 : Int) ≤ M 53 15; omega) (by show M 53 15 ≤ (31 : Int); omega) (jc (by show (7 : Int) ≤ M 62 9; omega) (by show M 62 9 ≤ (7 : Int); omega) (jc (by show (0 : Int) ≤ M 63 9; omega) (by show M 63 9 ≤ (0 : Int); omega) (jc (by show (0 : Int) ≤ M 65 9; omega) (by show M 65 9 ≤ (29 : Int); omega) jn)))))⟩
theorem c_mr_9 (hL : L < 2 ^ 31) : ci L xs 162 k_mr_9 :=
  ci_j_ok (ms := [k_mr_9_e, k_mr_9_0, k_mr_9_1, k_mr_9_2, k_mr_9_3]) (jl_cons (c_mr_9_e hL) (jl_cons (c_mr_9_0 hL) (jl_cons (c_mr_9_1 hL) (jl_cons (c_mr_9_2 hL) (jl_cons (c_mr_9_3 hL) jl_nil))))) s_mr_9 (by decide +kernel)
def k_mr_10_e : ct_C := ([(2, .ofNat 53, .ofNat 53)], [(53, 14, .ofNat 10, .ofNat 10), (53, 15, .ofNat 0, .ofNat 0)], [], [], (some (0, .negSucc 4, .negSucc 4)), 1, false)
theorem c_mr_10_e (hL : L < 2 ^ 31) : ci L xs 162 k_mr_10_e :=
  mi_ok (fc := 9000) (f := 9000) (cuts := []) (xk := jx) cl_lok cl_hrf (cl_hro L xs) hL jx_ok (by decide +kernel)
def k_mr_10_0 : ct_C := ([(2, .ofNat 53, .ofNat 53)], [(53, 14, .ofNat 10, .ofNat 10), (53, 15, .ofNat 1, .ofNat 30), (62, 10, .ofNat 0, .ofNat 4), (63, 10, .ofNat 0, .ofNat 5), (65, 10, .negSucc 0, .ofNat 143)], [(53, 14, .ofNat 11, .ofNat 11), (53, 15, .ofNat 0, .ofNat 29)], [54, 55, 56, 57, 58], (some (0, .ofNat 0, .ofNat 29)), 2, false)
theorem c_mr_10_0 (hL : L < 2 ^ 31) : ci L xs 162 k_mr_10_0 :=
  mi_ok (fc := 9000) (f := 9000) (cuts := []) (xk := jx) cl_lok cl_hrf (cl_hro L xs) hL jx_ok (by decide +kernel)
def k_mr_10_1 : ct_C := ([(2, .ofNat 53, .ofNat 53)], [(53, 14, .ofNat 10, .ofNat 10), (53, 15, .ofNat 1, .ofNat 30), (62, 10, .ofNat 5, .ofNat 5), (63, 10, .ofNat 0, .ofNat 29), (65, 10, .negSucc 0, .ofNat 143)], [(53, 14, .ofNat 11, .ofNat 11), (53, 15, .ofNat 0, .ofNat 29)], [61], (some (0, .ofNat 0, .ofNat 29)), 2, false)
theorem c_mr_10_1 (hL : L < 2 ^ 31) : ci L xs 162 k_mr_10_1 :=
  mi_ok (fc := 9000) (f := 9000) (cuts := []) (xk := jx) cl_lok cl_hrf (cl_hro L xs) hL jx_ok (by decide +kernel)
def k_mr_10_2 : ct_C := ([(2, .ofNat 53, .ofNat 53)], [(53, 14, .ofNat 10, .ofNat 10), (53, 15, .ofNat 1, .ofNat 30), (62, 10, .ofNat 6, .ofNat 6), (63, 10, .ofNat 0, .ofNat 11), (65, 10, .negSucc 0, .ofNat 143)], [(53, 14, .ofNat 11, .ofNat 11), (53, 15, .ofNat 0, .ofNat 29)], [60], (some (0, .ofNat 0, .ofNat 29)), 2, false)
theorem c_mr_10_2 (hL : L < 2 ^ 31) : ci L xs 162 k_mr_10_2 :=
  mi_ok (fc := 9000) (f := 9000) (cuts := []) (xk := jx) cl_lok cl_hrf (cl_hro L xs) hL jx_ok (by decide +kernel)
def k_mr_10_3 : ct_C := ([(2, .ofNat 53, .ofNat 53)], [(53, 14, .ofNat 10, .ofNat 10), (53, 15, .ofNat 1, .ofNat 30), (62, 10, .ofNat 7, .ofNat 7), (63, 10, .ofNat 0, .ofNat 0), (65, 10, .ofNat 0, .ofNat 29)], [(53, 13, .ofNat 0, .ofNat 29), (53, 14, .ofNat 11, .ofNat 11), (53, 15, .ofNat 0, .ofNat 29)], [], (some (0, .ofNat 0, .ofNat 29)), 2, false)
theorem c_mr_10_3 (hL : L < 2 ^ 31) : ci L xs 162 k_mr_10_3 :=
  mi_ok (fc := 9000) (f := 9000) (cuts := []) (xk := jx) cl_lok cl_hrf (cl_hro L xs) hL jx_ok (by decide +kernel)
def k_mr_10 : ct_C := ([(2, .ofNat 53, .ofNat 53)], [(53, 14, .ofNat 10, .ofNat 10)], [(53, 13, .ofNat 0, .ofNat 29), (53, 14, .ofNat 0, .ofNat 40), (53, 15, .ofNat 0, .ofNat 40)], [54, 55, 56, 57, 58, 60, 61], (some (0, .negSucc 4, .ofNat 29)), 2, false)
theorem s_mr_10 (M : Nat → Nat → Int) (hm : sx_mok cl_ly M) (hJ : JJ M) (hg : ct_g k_mr_10.2.1 M) : ∃ m ∈ [k_mr_10_e, k_mr_10_0, k_mr_10_1, k_mr_10_2, k_mr_10_3], ct_g m.2.1 M := by
  have hv : M 53 14 = 10 := by
    have h := hg (53, 14, .ofNat 10, .ofNat 10) List.mem_cons_self
    exact Int.le_antisymm h.2 h.1
  have hk := jr_kn hm
  have hu := jr_un hm
  have hd := hJ.2.2.1
  have he := hJ.2.2.2
  by_cases h0 : M 53 15 = 0
  · exact ⟨k_mr_10_e, List.mem_cons_self, (jc (by show (10 : Int) ≤ M 53 14; omega) (by show M 53 14 ≤ (10 : Int); omega) (jc (by show (0 : Int) ≤ M 53 15; omega) (by show M 53 15 ≤ (0 : Int); omega) jn))⟩
  · have h8 : jp (M 62 10) (M 63 10) (M 64 10) (M 65 10) := hJ.2.1 10 (by decide)
    obtain ⟨⟨b1, b2, b3, b4⟩, h8⟩ := h8
    rcases h8 with h8 | h8 | h8 | h8
    · exact ⟨k_mr_10_0, (List.mem_cons_of_mem _ List.mem_cons_self), (jc (by show (10 : Int) ≤ M 53 14; omega) (by show M 53 14 ≤ (10 : Int); omega) (jc (by show (1 : Int) ≤ M 53 15; omega) (by show M 53 15 ≤ (30 : Int); omega) (jc (by show (0 : Int) ≤ M 62 10; omega) (by show M 62 10 ≤ (4 : Int); omega) (jc (by show (0 : Int) ≤ M 63 10; omega) (by show M 63 10 ≤ (5 : Int); omega) (jc (by show (-1 : Int) ≤ M 65 10; omega) (by show M 65 10 ≤ (143 : Int); omega) jn)))))⟩
    · exact ⟨k_mr_10_1, (List.mem_cons_of_mem _ (List.mem_cons_of_mem _ List.mem_cons_self)), (jc (by show (10 : Int) ≤ M 53 14; omega) (by show M 53 14 ≤ (10 : Int); omega) (jc (by show (1 : Int) ≤ M 53 15; omega) (by show M 53 15 ≤ (30 : Int); omega) (jc (by show (5 : Int) ≤ M 62 10; omega) (by show M 62 10 ≤ (5 : Int); omega) (jc (by show (0 : Int) ≤ M 63 10; omega) (by show M 63 10 ≤ (29 : Int); omega) (jc (by show (-1 : Int) ≤ M 65 10; omega) (by show M 65 10 ≤ (143 : Int); omega) jn)))))⟩
    · exact ⟨k_mr_10_2, (List.mem_cons_of_mem _ (List.mem_cons_of_mem _ (List.mem_cons_of_mem _ List.mem_cons_self))), (jc (by show (10 : Int) ≤ M 53 14; omega) (by show M 53 14 ≤ (10 : Int); omega) (jc (by show (1 : Int) ≤ M 53 15; omega) (by show M 53 15 ≤ (30 : Int); omega) (jc (by show (6 : Int) ≤ M 62 10; omega) (by show M 62 10 ≤ (6 : Int); omega) (jc (by show (0 : Int) ≤ M 63 10; omega) (by show M 63 10 ≤ (11 : Int); omega) (jc (by show (-1 : Int) ≤ M 65 10; omega) (by show M 65 10 ≤ (143 : Int); omega) jn)))))⟩
    · exact ⟨k_mr_10_3, (List.mem_cons_of_mem _ (List.mem_cons_of_mem _ (List.mem_cons_of_mem _ (List.mem_cons_of_mem _ List.mem_cons_self)))), (jc (by show (10 : Int) ≤ M 53 14; omega) (by show M 53 14 ≤ (10 : Int); omega) (jc (by show (1 : Int) ≤ M 53 15; omega) (by show M 53 15 ≤ (30 : Int); omega) (jc (by show (7 : Int) ≤ M 62 10; omega) (by show M 62 10 ≤ (7 : Int); omega) (jc (by show (0 : Int) ≤ M 63 10; omega) (by show M 63 10 ≤ (0 : Int); omega) (jc (by show (0 : Int) ≤ M 65 10; omega) (by show M 65 10 ≤ (29 : Int); omega) jn)))))⟩
theorem c_mr_10 (hL : L < 2 ^ 31) : ci L xs 162 k_mr_10 :=
  ci_j_ok (ms := [k_mr_10_e, k_mr_10_0, k_mr_10_1, k_mr_10_2, k_mr_10_3]) (jl_cons (c_mr_10_e hL) (jl_cons (c_mr_10_0 hL) (jl_cons (c_mr_10_1 hL) (jl_cons (c_mr_10_2 hL) (jl_cons (c_mr_10_3 hL) jl_nil))))) s_mr_10 (by decide +kernel)
def k_mr_11_e : ct_C := ([(2, .ofNat 53, .ofNat 53)], [(53, 14, .ofNat 11, .ofNat 11), (53, 15, .ofNat 0, .ofNat 0)], [], [], (some (0, .negSucc 4, .negSucc 4)), 1, false)
theorem c_mr_11_e (hL : L < 2 ^ 31) : ci L xs 162 k_mr_11_e :=
  mi_ok (fc := 9000) (f := 9000) (cuts := []) (xk := jx) cl_lok cl_hrf (cl_hro L xs) hL jx_ok (by decide +kernel)
def k_mr_11_0 : ct_C := ([(2, .ofNat 53, .ofNat 53)], [(53, 14, .ofNat 11, .ofNat 11), (53, 15, .ofNat 1, .ofNat 29), (62, 11, .ofNat 0, .ofNat 4), (63, 11, .ofNat 0, .ofNat 5), (65, 11, .negSucc 0, .ofNat 143)], [(53, 14, .ofNat 12, .ofNat 12), (53, 15, .ofNat 0, .ofNat 28)], [54, 55, 56, 57, 58], (some (0, .ofNat 0, .ofNat 28)), 2, false)
theorem c_mr_11_0 (hL : L < 2 ^ 31) : ci L xs 162 k_mr_11_0 :=
  mi_ok (fc := 9000) (f := 9000) (cuts := []) (xk := jx) cl_lok cl_hrf (cl_hro L xs) hL jx_ok (by decide +kernel)
def k_mr_11_1 : ct_C := ([(2, .ofNat 53, .ofNat 53)], [(53, 14, .ofNat 11, .ofNat 11), (53, 15, .ofNat 1, .ofNat 29), (62, 11, .ofNat 5, .ofNat 5), (63, 11, .ofNat 0, .ofNat 29), (65, 11, .negSucc 0, .ofNat 143)], [(53, 14, .ofNat 12, .ofNat 12), (53, 15, .ofNat 0, .ofNat 28)], [61], (some (0, .ofNat 0, .ofNat 28)), 2, false)
theorem c_mr_11_1 (hL : L < 2 ^ 31) : ci L xs 162 k_mr_11_1 :=
  mi_ok (fc := 9000) (f := 9000) (cuts := []) (xk := jx) cl_lok cl_hrf (cl_hro L xs) hL jx_ok (by decide +kernel)
def k_mr_11_2 : ct_C := ([(2, .ofNat 53, .ofNat 53)], [(53, 14, .ofNat 11, .ofNat 11), (53, 15, .ofNat 1, .ofNat 29), (62, 11, .ofNat 6, .ofNat 6), (63, 11, .ofNat 0, .ofNat 11), (65, 11, .negSucc 0, .ofNat 143)], [(53, 14, .ofNat 12, .ofNat 12), (53, 15, .ofNat 0, .ofNat 28)], [60], (some (0, .ofNat 0, .ofNat 28)), 2, false)
theorem c_mr_11_2 (hL : L < 2 ^ 31) : ci L xs 162 k_mr_11_2 :=
  mi_ok (fc := 9000) (f := 9000) (cuts := []) (xk := jx) cl_lok cl_hrf (cl_hro L xs) hL jx_ok (by decide +kernel)
def k_mr_11_3 : ct_C := ([(2, .ofNat 53, .ofNat 53)], [(53, 14, .ofNat 11, .ofNat 11), (53, 15, .ofNat 1, .ofNat 29), (62, 11, .ofNat 7, .ofNat 7), (63, 11, .ofNat 0, .ofNat 0), (65, 11, .ofNat 0, .ofNat 29)], [(53, 13, .ofNat 0, .ofNat 29), (53, 14, .ofNat 12, .ofNat 12), (53, 15, .ofNat 0, .ofNat 28)], [], (some (0, .ofNat 0, .ofNat 28)), 2, false)
theorem c_mr_11_3 (hL : L < 2 ^ 31) : ci L xs 162 k_mr_11_3 :=
  mi_ok (fc := 9000) (f := 9000) (cuts := []) (xk := jx) cl_lok cl_hrf (cl_hro L xs) hL jx_ok (by decide +kernel)
def k_mr_11 : ct_C := ([(2, .ofNat 53, .ofNat 53)], [(53, 14, .ofNat 11, .ofNat 11)], [(53, 13, .ofNat 0, .ofNat 29), (53, 14, .ofNat 0, .ofNat 40), (53, 15, .ofNat 0, .ofNat 40)], [54, 55, 56, 57, 58, 60, 61], (some (0, .negSucc 4, .ofNat 28)), 2, false)
theorem s_mr_11 (M : Nat → Nat → Int) (hm : sx_mok cl_ly M) (hJ : JJ M) (hg : ct_g k_mr_11.2.1 M) : ∃ m ∈ [k_mr_11_e, k_mr_11_0, k_mr_11_1, k_mr_11_2, k_mr_11_3], ct_g m.2.1 M := by
  have hv : M 53 14 = 11 := by
    have h := hg (53, 14, .ofNat 11, .ofNat 11) List.mem_cons_self
    exact Int.le_antisymm h.2 h.1
  have hk := jr_kn hm
  have hu := jr_un hm
  have hd := hJ.2.2.1
  have he := hJ.2.2.2
  by_cases h0 : M 53 15 = 0
  · exact ⟨k_mr_11_e, List.mem_cons_self, (jc (by show (11 : Int) ≤ M 53 14; omega) (by show M 53 14 ≤ (11 : Int); omega) (jc (by show (0 : Int) ≤ M 53 15; omega) (by show M 53 15 ≤ (0 : Int); omega) jn))⟩
  · have h8 : jp (M 62 11) (M 63 11) (M 64 11) (M 65 11) := hJ.2.1 11 (by decide)
    obtain ⟨⟨b1, b2, b3, b4⟩, h8⟩ := h8
    rcases h8 with h8 | h8 | h8 | h8
    · exact ⟨k_mr_11_0, (List.mem_cons_of_mem _ List.mem_cons_self), (jc (by show (11 : Int) ≤ M 53 14; omega) (by show M 53 14 ≤ (11 : Int); omega) (jc (by show (1 : Int) ≤ M 53 15; omega) (by show M 53 15 ≤ (29 : Int); omega) (jc (by show (0 : Int) ≤ M 62 11; omega) (by show M 62 11 ≤ (4 : Int); omega) (jc (by show (0 : Int) ≤ M 63 11; omega) (by show M 63 11 ≤ (5 : Int); omega) (jc (by show (-1 : Int) ≤ M 65 11; omega) (by show M 65 11 ≤ (143 : Int); omega) jn)))))⟩
    · exact ⟨k_mr_11_1, (List.mem_cons_of_mem _ (List.mem_cons_of_mem _ List.mem_cons_self)), (jc (by show (11 : Int) ≤ M 53 14; omega) (by show M 53 14 ≤ (11 : Int); omega) (jc (by show (1 : Int) ≤ M 53 15; omega) (by show M 53 15 ≤ (29 : Int); omega) (jc (by show (5 : Int) ≤ M 62 11; omega) (by show M 62 11 ≤ (5 : Int); omega) (jc (by show (0 : Int) ≤ M 63 11; omega) (by show M 63 11 ≤ (29 : Int); omega) (jc (by show (-1 : Int) ≤ M 65 11; omega) (by show M 65 11 ≤ (143 : Int); omega) jn)))))⟩
    · exact ⟨k_mr_11_2, (List.mem_cons_of_mem _ (List.mem_cons_of_mem _ (List.mem_cons_of_mem _ List.mem_cons_self))), (jc (by show (11 : Int) ≤ M 53 14; omega) (by show M 53 14 ≤ (11 : Int); omega) (jc (by show (1 : Int) ≤ M 53 15; omega) (by show M 53 15 ≤ (29 : Int); omega) (jc (by show (6 : Int) ≤ M 62 11; omega) (by show M 62 11 ≤ (6 : Int); omega) (jc (by show (0 : Int) ≤ M 63 11; omega) (by show M 63 11 ≤ (11 : Int); omega) (jc (by show (-1 : Int) ≤ M 65 11; omega) (by show M 65 11 ≤ (143 : Int); omega) jn)))))⟩
    · exact ⟨k_mr_11_3, (List.mem_cons_of_mem _ (List.mem_cons_of_mem _ (List.mem_cons_of_mem _ (List.mem_cons_of_mem _ List.mem_cons_self)))), (jc (by show (11 : Int) ≤ M 53 14; omega) (by show M 53 14 ≤ (11 : Int); omega) (jc (by show (1 : Int) ≤ M 53 15; omega) (by show M 53 15 ≤ (29 : Int); omega) (jc (by show (7 : Int) ≤ M 62 11; omega) (by show M 62 11 ≤ (7 : Int); omega) (jc (by show (0 : Int) ≤ M 63 11; omega) (by show M 63 11 ≤ (0 : Int); omega) (jc (by show (0 : Int) ≤ M 65 11; omega) (by show M 65 11 ≤ (29 : Int); omega) jn)))))⟩
theorem c_mr_11 (hL : L < 2 ^ 31) : ci L xs 162 k_mr_11 :=
  ci_j_ok (ms := [k_mr_11_e, k_mr_11_0, k_mr_11_1, k_mr_11_2, k_mr_11_3]) (jl_cons (c_mr_11_e hL) (jl_cons (c_mr_11_0 hL) (jl_cons (c_mr_11_1 hL) (jl_cons (c_mr_11_2 hL) (jl_cons (c_mr_11_3 hL) jl_nil))))) s_mr_11 (by decide +kernel)
def k_mr_12_e : ct_C := ([(2, .ofNat 53, .ofNat 53)], [(53, 14, .ofNat 12, .ofNat 12), (53, 15, .ofNat 0, .ofNat 0)], [], [], (some (0, .negSucc 4, .negSucc 4)), 1, false)
theorem c_mr_12_e (hL : L < 2 ^ 31) : ci L xs 162 k_mr_12_e :=
  mi_ok (fc := 9000) (f := 9000) (cuts := []) (xk := jx) cl_lok cl_hrf (cl_hro L xs) hL jx_ok (by decide +kernel)
def k_mr_12_0 : ct_C := ([(2, .ofNat 53, .ofNat 53)], [(53, 14, .ofNat 12, .ofNat 12), (53, 15, .ofNat 1, .ofNat 28), (62, 12, .ofNat 0, .ofNat 4), (63, 12, .ofNat 0, .ofNat 5), (65, 12, .negSucc 0, .ofNat 143)], [(53, 14, .ofNat 13, .ofNat 13), (53, 15, .ofNat 0, .ofNat 27)], [54, 55, 56, 57, 58], (some (0, .ofNat 0, .ofNat 27)), 2, false)
theorem c_mr_12_0 (hL : L < 2 ^ 31) : ci L xs 162 k_mr_12_0 :=
  mi_ok (fc := 9000) (f := 9000) (cuts := []) (xk := jx) cl_lok cl_hrf (cl_hro L xs) hL jx_ok (by decide +kernel)
def k_mr_12_1 : ct_C := ([(2, .ofNat 53, .ofNat 53)], [(53, 14, .ofNat 12, .ofNat 12), (53, 15, .ofNat 1, .ofNat 28), (62, 12, .ofNat 5, .ofNat 5), (63, 12, .ofNat 0, .ofNat 29), (65, 12, .negSucc 0, .ofNat 143)], [(53, 14, .ofNat 13, .ofNat 13), (53, 15, .ofNat 0, .ofNat 27)], [61], (some (0, .ofNat 0, .ofNat 27)), 2, false)
theorem c_mr_12_1 (hL : L < 2 ^ 31) : ci L xs 162 k_mr_12_1 :=
  mi_ok (fc := 9000) (f := 9000) (cuts := []) (xk := jx) cl_lok cl_hrf (cl_hro L xs) hL jx_ok (by decide +kernel)
def k_mr_12_2 : ct_C := ([(2, .ofNat 53, .ofNat 53)], [(53, 14, .ofNat 12, .ofNat 12), (53, 15, .ofNat 1, .ofNat 28), (62, 12, .ofNat 6, .ofNat 6), (63, 12, .ofNat 0, .ofNat 11), (65, 12, .negSucc 0, .ofNat 143)], [(53, 14, .ofNat 13, .ofNat 13), (53, 15, .ofNat 0, .ofNat 27)], [60], (some (0, .ofNat 0, .ofNat 27)), 2, false)
theorem c_mr_12_2 (hL : L < 2 ^ 31) : ci L xs 162 k_mr_12_2 :=
  mi_ok (fc := 9000) (f := 9000) (cuts := []) (xk := jx) cl_lok cl_hrf (cl_hro L xs) hL jx_ok (by decide +kernel)
def k_mr_12_3 : ct_C := ([(2, .ofNat 53, .ofNat 53)], [(53, 14, .ofNat 12, .ofNat 12), (53, 15, .ofNat 1, .ofNat 28), (62, 12, .ofNat 7, .ofNat 7), (63, 12, .ofNat 0, .ofNat 0), (65, 12, .ofNat 0, .ofNat 29)], [(53, 13, .ofNat 0, .ofNat 29), (53, 14, .ofNat 13, .ofNat 13), (53, 15, .ofNat 0, .ofNat 27)], [], (some (0, .ofNat 0, .ofNat 27)), 2, false)
theorem c_mr_12_3 (hL : L < 2 ^ 31) : ci L xs 162 k_mr_12_3 :=
  mi_ok (fc := 9000) (f := 9000) (cuts := []) (xk := jx) cl_lok cl_hrf (cl_hro L xs) hL jx_ok (by decide +kernel)
def k_mr_12 : ct_C := ([(2, .ofNat 53, .ofNat 53)], [(53, 14, .ofNat 12, .ofNat 12)], [(53, 13, .ofNat 0, .ofNat 29), (53, 14, .ofNat 0, .ofNat 40), (53, 15, .ofNat 0, .ofNat 40)], [54, 55, 56, 57, 58, 60, 61], (some (0, .negSucc 4, .ofNat 27)), 2, false)
theorem s_mr_12 (M : Nat → Nat → Int) (hm : sx_mok cl_ly M) (hJ : JJ M) (hg : ct_g k_mr_12.2.1 M) : ∃ m ∈ [k_mr_12_e, k_mr_12_0, k_mr_12_1, k_mr_12_2, k_mr_12_3], ct_g m.2.1 M := by
  have hv : M 53 14 = 12 := by
    have h := hg (53, 14, .ofNat 12, .ofNat 12) List.mem_cons_self
    exact Int.le_antisymm h.2 h.1
  have hk := jr_kn hm
  have hu := jr_un hm
  have hd := hJ.2.2.1
  have he := hJ.2.2.2
  by_cases h0 : M 53 15 = 0
  · exact ⟨k_mr_12_e, List.mem_cons_self, (jc (by show (12 : Int) ≤ M 53 14; omega) (by show M 53 14 ≤ (12 : Int); omega) (jc (by show (0 : Int) ≤ M 53 15; omega) (by show M 53 15 ≤ (0 : Int); omega) jn))⟩
  · have h8 : jp (M 62 12) (M 63 12) (M 64 12) (M 65 12) := hJ.2.1 12 (by decide)
    obtain ⟨⟨b1, b2, b3, b4⟩, h8⟩ := h8
    rcases h8 with h8 | h8 | h8 | h8
    · exact ⟨k_mr_12_0, (List.mem_cons_of_mem _ List.mem_cons_self), (jc (by show (12 : Int) ≤ M 53 14; omega) (by show M 53 14 ≤ (12 : Int); omega) (jc (by show (1 : Int) ≤ M 53 15; omega) (by show M 53 15 ≤ (28 : Int); omega) (jc (by show (0 : Int) ≤ M 62 12; omega) (by show M 62 12 ≤ (4 : Int); omega) (jc (by show (0 : Int) ≤ M 63 12; omega) (by show M 63 12 ≤ (5 : Int); omega) (jc (by show (-1 : Int) ≤ M 65 12; omega) (by show M 65 12 ≤ (143 : Int); omega) jn)))))⟩
    · exact ⟨k_mr_12_1, (List.mem_cons_of_mem _ (List.mem_cons_of_mem _ List.mem_cons_self)), (jc (by show (12 : Int) ≤ M 53 14; omega) (by show M 53 14 ≤ (12 : Int); omega) (jc (by show (1 : Int) ≤ M 53 15; omega) (by show M 53 15 ≤ (28 : Int); omega) (jc (by show (5 : Int) ≤ M 62 12; omega) (by show M 62 12 ≤ (5 : Int); omega) (jc (by show (0 : Int) ≤ M 63 12; omega) (by show M 63 12 ≤ (29 : Int); omega) (jc (by show (-1 : Int) ≤ M 65 12; omega) (by show M 65 12 ≤ (143 : Int); omega) jn)))))⟩
    · exact ⟨k_mr_12_2, (List.mem_cons_of_mem _ (List.mem_cons_of_mem _ (List.mem_cons_of_mem _ List.mem_cons_self))), (jc (by show (12 : Int) ≤ M 53 14; omega) (by show M 53 14 ≤ (12 : Int); omega) (jc (by show (1 : Int) ≤ M 53 15; omega) (by show M 53 15 ≤ (28 : Int); omega) (jc (by show (6 : Int) ≤ M 62 12; omega) (by show M 62 12 ≤ (6 : Int); omega) (jc (by show (0 : Int) ≤ M 63 12; omega) (by show M 63 12 ≤ (11 : Int); omega) (jc (by show (-1 : Int) ≤ M 65 12; omega) (by show M 65 12 ≤ (143 : Int); omega) jn)))))⟩
    · exact ⟨k_mr_12_3, (List.mem_cons_of_mem _ (List.mem_cons_of_mem _ (List.mem_cons_of_mem _ (List.mem_cons_of_mem _ List.mem_cons_self)))), (jc (by show (12 : Int) ≤ M 53 14; omega) (by show M 53 14 ≤ (12 : Int); omega) (jc (by show (1 : Int) ≤ M 53 15; omega) (by show M 53 15 ≤ (28 : Int); omega) (jc (by show (7 : Int) ≤ M 62 12; omega) (by show M 62 12 ≤ (7 : Int); omega) (jc (by show (0 : Int) ≤ M 63 12; omega) (by show M 63 12 ≤ (0 : Int); omega) (jc (by show (0 : Int) ≤ M 65 12; omega) (by show M 65 12 ≤ (29 : Int); omega) jn)))))⟩
theorem c_mr_12 (hL : L < 2 ^ 31) : ci L xs 162 k_mr_12 :=
  ci_j_ok (ms := [k_mr_12_e, k_mr_12_0, k_mr_12_1, k_mr_12_2, k_mr_12_3]) (jl_cons (c_mr_12_e hL) (jl_cons (c_mr_12_0 hL) (jl_cons (c_mr_12_1 hL) (jl_cons (c_mr_12_2 hL) (jl_cons (c_mr_12_3 hL) jl_nil))))) s_mr_12 (by decide +kernel)
def k_mr_13_e : ct_C := ([(2, .ofNat 53, .ofNat 53)], [(53, 14, .ofNat 13, .ofNat 13), (53, 15, .ofNat 0, .ofNat 0)], [], [], (some (0, .negSucc 4, .negSucc 4)), 1, false)
theorem c_mr_13_e (hL : L < 2 ^ 31) : ci L xs 162 k_mr_13_e :=
  mi_ok (fc := 9000) (f := 9000) (cuts := []) (xk := jx) cl_lok cl_hrf (cl_hro L xs) hL jx_ok (by decide +kernel)
def k_mr_13_0 : ct_C := ([(2, .ofNat 53, .ofNat 53)], [(53, 14, .ofNat 13, .ofNat 13), (53, 15, .ofNat 1, .ofNat 27), (62, 13, .ofNat 0, .ofNat 4), (63, 13, .ofNat 0, .ofNat 5), (65, 13, .negSucc 0, .ofNat 143)], [(53, 14, .ofNat 14, .ofNat 14), (53, 15, .ofNat 0, .ofNat 26)], [54, 55, 56, 57, 58], (some (0, .ofNat 0, .ofNat 26)), 2, false)
theorem c_mr_13_0 (hL : L < 2 ^ 31) : ci L xs 162 k_mr_13_0 :=
  mi_ok (fc := 9000) (f := 9000) (cuts := []) (xk := jx) cl_lok cl_hrf (cl_hro L xs) hL jx_ok (by decide +kernel)
def k_mr_13_1 : ct_C := ([(2, .ofNat 53, .ofNat 53)], [(53, 14, .ofNat 13, .ofNat 13), (53, 15, .ofNat 1, .ofNat 27), (62, 13, .ofNat 5, .ofNat 5), (63, 13, .ofNat 0, .ofNat 29), (65, 13, .negSucc 0, .ofNat 143)], [(53, 14, .ofNat 14, .ofNat 14), (53, 15, .ofNat 0, .ofNat 26)], [61], (some (0, .ofNat 0, .ofNat 26)), 2, false)
theorem c_mr_13_1 (hL : L < 2 ^ 31) : ci L xs 162 k_mr_13_1 :=
  mi_ok (fc := 9000) (f := 9000) (cuts := []) (xk := jx) cl_lok cl_hrf (cl_hro L xs) hL jx_ok (by decide +kernel)
def k_mr_13_2 : ct_C := ([(2, .ofNat 53, .ofNat 53)], [(53, 14, .ofNat 13, .ofNat 13), (53, 15, .ofNat 1, .ofNat 27), (62, 13, .ofNat 6, .ofNat 6), (63, 13, .ofNat 0, .ofNat 11), (65, 13, .negSucc 0, .ofNat 143)], [(53, 14, .ofNat 14, .ofNat 14), (53, 15, .ofNat 0, .ofNat 26)], [60], (some (0, .ofNat 0, .ofNat 26)), 2, false)
theorem c_mr_13_2 (hL : L < 2 ^ 31) : ci L xs 162 k_mr_13_2 :=
  mi_ok (fc := 9000) (f := 9000) (cuts := []) (xk := jx) cl_lok cl_hrf (cl_hro L xs) hL jx_ok (by decide +kernel)
def k_mr_13_3 : ct_C := ([(2, .ofNat 53, .ofNat 53)], [(53, 14, .ofNat 13, .ofNat 13), (53, 15, .ofNat 1, .ofNat 27), (62, 13, .ofNat 7, .ofNat 7), (63, 13, .ofNat 0, .ofNat 0), (65, 13, .ofNat 0, .ofNat 29)], [(53, 13, .ofNat 0, .ofNat 29), (53, 14, .ofNat 14, .ofNat 14), (53, 15, .ofNat 0, .ofNat 26)], [], (some (0, .ofNat 0, .ofNat 26)), 2, false)
theorem c_mr_13_3 (hL : L < 2 ^ 31) : ci L xs 162 k_mr_13_3 :=
  mi_ok (fc := 9000) (f := 9000) (cuts := []) (xk := jx) cl_lok cl_hrf (cl_hro L xs) hL jx_ok (by decide +kernel)
def k_mr_13 : ct_C := ([(2, .ofNat 53, .ofNat 53)], [(53, 14, .ofNat 13, .ofNat 13)], [(53, 13, .ofNat 0, .ofNat 29), (53, 14, .ofNat 0, .ofNat 40), (53, 15, .ofNat 0, .ofNat 40)], [54, 55, 56, 57, 58, 60, 61], (some (0, .negSucc 4, .ofNat 26)), 2, false)
theorem s_mr_13 (M : Nat → Nat → Int) (hm : sx_mok cl_ly M) (hJ : JJ M) (hg : ct_g k_mr_13.2.1 M) : ∃ m ∈ [k_mr_13_e, k_mr_13_0, k_mr_13_1, k_mr_13_2, k_mr_13_3], ct_g m.2.1 M := by
  have hv : M 53 14 = 13 := by
    have h := hg (53, 14, .ofNat 13, .ofNat 13) List.mem_cons_self
    exact Int.le_antisymm h.2 h.1
  have hk := jr_kn hm
  have hu := jr_un hm
  have hd := hJ.2.2.1
  have he := hJ.2.2.2
  by_cases h0 : M 53 15 = 0
  · exact ⟨k_mr_13_e, List.mem_cons_self, (jc (by show (13 : Int) ≤ M 53 14; omega) (by show M 53 14 ≤ (13 : Int); omega) (jc (by show (0 : Int) ≤ M 53 15; omega) (by show M 53 15 ≤ (0 : Int); omega) jn))⟩
  · have h8 : jp (M 62 13) (M 63 13) (M 64 13) (M 65 13) := hJ.2.1 13 (by decide)
    obtain ⟨⟨b1, b2, b3, b4⟩, h8⟩ := h8
    rcases h8 with h8 | h8 | h8 | h8
    · exact ⟨k_mr_13_0, (List.mem_cons_of_mem _ List.mem_cons_self), (jc (by show (13 : Int) ≤ M 53 14; omega) (by show M 53 14 ≤ (13 : Int); omega) (jc (by show (1 : Int) ≤ M 53 15; omega) (by show M 53 15 ≤ (27 : Int); omega) (jc (by show (0 : Int) ≤ M 62 13; omega) (by show M 62 13 ≤ (4 : Int); omega) (jc (by show (0 : Int) ≤ M 63 13; omega) (by show M 63 13 ≤ (5 : Int); omega) (jc (by show (-1 : Int) ≤ M 65 13; omega) (by show M 65 13 ≤ (143 : Int); omega) jn)))))⟩
    · exact ⟨k_mr_13_1, (List.mem_cons_of_mem _ (List.mem_cons_of_mem _ List.mem_cons_self)), (jc (by show (13 : Int) ≤ M 53 14; omega) (by show M 53 14 ≤ (13 : Int); omega) (jc (by show (1 : Int) ≤ M 53 15; omega) (by show M 53 15 ≤ (27 : Int); omega) (jc (by show (5 : Int) ≤ M 62 13; omega) (by show M 62 13 ≤ (5 : Int); omega) (jc (by show (0 : Int) ≤ M 63 13; omega) (by show M 63 13 ≤ (29 : Int); omega) (jc (by show (-1 : Int) ≤ M 65 13; omega) (by show M 65 13 ≤ (143 : Int); omega) jn)))))⟩
    · exact ⟨k_mr_13_2, (List.mem_cons_of_mem _ (List.mem_cons_of_mem _ (List.mem_cons_of_mem _ List.mem_cons_self))), (jc (by show (13 : Int) ≤ M 53 14; omega) (by show M 53 14 ≤ (13 : Int); omega) (jc (by show (1 : Int) ≤ M 53 15; omega) (by show M 53 15 ≤ (27 : Int); omega) (jc (by show (6 : Int) ≤ M 62 13; omega) (by show M 62 13 ≤ (6 : Int); omega) (jc (by show (0 : Int) ≤ M 63 13; omega) (by show M 63 13 ≤ (11 : Int); omega) (jc (by show (-1 : Int) ≤ M 65 13; omega) (by show M 65 13 ≤ (143 : Int); omega) jn)))))⟩
    · exact ⟨k_mr_13_3, (List.mem_cons_of_mem _ (List.mem_cons_of_mem _ (List.mem_cons_of_mem _ (List.mem_cons_of_mem _ List.mem_cons_self)))), (jc (by show (13 : Int) ≤ M 53 14; omega) (by show M 53 14 ≤ (13 : Int); omega) (jc (by show (1 : Int) ≤ M 53 15; omega) (by show M 53 15 ≤ (27 : Int); omega) (jc (by show (7 : Int) ≤ M 62 13; omega) (by show M 62 13 ≤ (7 : Int); omega) (jc (by show (0 : Int) ≤ M 63 13; omega) (by show M 63 13 ≤ (0 : Int); omega) (jc (by show (0 : Int) ≤ M 65 13; omega) (by show M 65 13 ≤ (29 : Int); omega) jn)))))⟩
theorem c_mr_13 (hL : L < 2 ^ 31) : ci L xs 162 k_mr_13 :=
  ci_j_ok (ms := [k_mr_13_e, k_mr_13_0, k_mr_13_1, k_mr_13_2, k_mr_13_3]) (jl_cons (c_mr_13_e hL) (jl_cons (c_mr_13_0 hL) (jl_cons (c_mr_13_1 hL) (jl_cons (c_mr_13_2 hL) (jl_cons (c_mr_13_3 hL) jl_nil))))) s_mr_13 (by decide +kernel)
def k_mr_14_e : ct_C := ([(2, .ofNat 53, .ofNat 53)], [(53, 14, .ofNat 14, .ofNat 14), (53, 15, .ofNat 0, .ofNat 0)], [], [], (some (0, .negSucc 4, .negSucc 4)), 1, false)
theorem c_mr_14_e (hL : L < 2 ^ 31) : ci L xs 162 k_mr_14_e :=
  mi_ok (fc := 9000) (f := 9000) (cuts := []) (xk := jx) cl_lok cl_hrf (cl_hro L xs) hL jx_ok (by decide +kernel)
def k_mr_14_0 : ct_C := ([(2, .ofNat 53, .ofNat 53)], [(53, 14, .ofNat 14, .ofNat 14), (53, 15, .ofNat 1, .ofNat 26), (62, 14, .ofNat 0, .ofNat 4), (63, 14, .ofNat 0, .ofNat 5), (65, 14, .negSucc 0, .ofNat 143)], [(53, 14, .ofNat 15, .ofNat 15), (53, 15, .ofNat 0, .ofNat 25)], [54, 55, 56, 57, 58], (some (0, .ofNat 0, .ofNat 25)), 2, false)
theorem c_mr_14_0 (hL : L < 2 ^ 31) : ci L xs 162 k_mr_14_0 :=
  mi_ok (fc := 9000) (f := 9000) (cuts := []) (xk := jx) cl_lok cl_hrf (cl_hro L xs) hL jx_ok (by decide +kernel)
def k_mr_14_1 : ct_C := ([(2, .ofNat 53, .ofNat 53)], [(53, 14, .ofNat 14, .ofNat 14), (53, 15, .ofNat 1, .ofNat 26), (62, 14, .ofNat 5, .ofNat 5), (63, 14, .ofNat 0, .ofNat 29), (65, 14, .negSucc 0, .ofNat 143)], [(53, 14, .ofNat 15, .ofNat 15), (53, 15, .ofNat 0, .ofNat 25)], [61], (some (0, .ofNat 0, .ofNat 25)), 2, false)
theorem c_mr_14_1 (hL : L < 2 ^ 31) : ci L xs 162 k_mr_14_1 :=
  mi_ok (fc := 9000) (f := 9000) (cuts := []) (xk := jx) cl_lok cl_hrf (cl_hro L xs) hL jx_ok (by decide +kernel)
def k_mr_14_2 : ct_C := ([(2, .ofNat 53, .ofNat 53)], [(53, 14, .ofNat 14, .ofNat 14), (53, 15, .ofNat 1, .ofNat 26), (62, 14, .ofNat 6, .ofNat 6), (63, 14, .ofNat 0, .ofNat 11), (65, 14, .negSucc 0, .ofNat 143)], [(53, 14, .ofNat 15, .ofNat 15), (53, 15, .ofNat 0, .ofNat 25)], [60], (some (0, .ofNat 0, .ofNat 25)), 2, false)
theorem c_mr_14_2 (hL : L < 2 ^ 31) : ci L xs 162 k_mr_14_2 :=
  mi_ok (fc := 9000) (f := 9000) (cuts := []) (xk := jx) cl_lok cl_hrf (cl_hro L xs) hL jx_ok (by decide +kernel)
def k_mr_14_3 : ct_C := ([(2, .ofNat 53, .ofNat 53)], [(53, 14, .ofNat 14, .ofNat 14), (53, 15, .ofNat 1, .ofNat 26), (62, 14, .ofNat 7, .ofNat 7), (63, 14, .ofNat 0, .ofNat 0), (65, 14, .ofNat 0, .ofNat 29)], [(53, 13, .ofNat 0, .ofNat 29), (53, 14, .ofNat 15, .ofNat 15), (53, 15, .ofNat 0, .ofNat 25)], [], (some (0, .ofNat 0, .ofNat 25)), 2, false)
theorem c_mr_14_3 (hL : L < 2 ^ 31) : ci L xs 162 k_mr_14_3 :=
  mi_ok (fc := 9000) (f := 9000) (cuts := []) (xk := jx) cl_lok cl_hrf (cl_hro L xs) hL jx_ok (by decide +kernel)
def k_mr_14 : ct_C := ([(2, .ofNat 53, .ofNat 53)], [(53, 14, .ofNat 14, .ofNat 14)], [(53, 13, .ofNat 0, .ofNat 29), (53, 14, .ofNat 0, .ofNat 40), (53, 15, .ofNat 0, .ofNat 40)], [54, 55, 56, 57, 58, 60, 61], (some (0, .negSucc 4, .ofNat 25)), 2, false)
theorem s_mr_14 (M : Nat → Nat → Int) (hm : sx_mok cl_ly M) (hJ : JJ M) (hg : ct_g k_mr_14.2.1 M) : ∃ m ∈ [k_mr_14_e, k_mr_14_0, k_mr_14_1, k_mr_14_2, k_mr_14_3], ct_g m.2.1 M := by
  have hv : M 53 14 = 14 := by
    have h := hg (53, 14, .ofNat 14, .ofNat 14) List.mem_cons_self
    exact Int.le_antisymm h.2 h.1
  have hk := jr_kn hm
  have hu := jr_un hm
  have hd := hJ.2.2.1
  have he := hJ.2.2.2
  by_cases h0 : M 53 15 = 0
  · exact ⟨k_mr_14_e, List.mem_cons_self, (jc (by show (14 : Int) ≤ M 53 14; omega) (by show M 53 14 ≤ (14 : Int); omega) (jc (by show (0 : Int) ≤ M 53 15; omega) (by show M 53 15 ≤ (0 : Int); omega) jn))⟩
  · have h8 : jp (M 62 14) (M 63 14) (M 64 14) (M 65 14) := hJ.2.1 14 (by decide)
    obtain ⟨⟨b1, b2, b3, b4⟩, h8⟩ := h8
    rcases h8 with h8 | h8 | h8 | h8
    · exact ⟨k_mr_14_0, (List.mem_cons_of_mem _ List.mem_cons_self), (jc (by show (14 : Int) ≤ M 53 14; omega) (by show M 53 14 ≤ (14 : Int); omega) (jc (by show (1 : Int) ≤ M 53 15; omega) (by show M 53 15 ≤ (26 : Int); omega) (jc (by show (0 : Int) ≤ M 62 14; omega) (by show M 62 14 ≤ (4 : Int); omega) (jc (by show (0 : Int) ≤ M 63 14; omega) (by show M 63 14 ≤ (5 : Int); omega) (jc (by show (-1 : Int) ≤ M 65 14; omega) (by show M 65 14 ≤ (143 : Int); omega) jn)))))⟩
    · exact ⟨k_mr_14_1, (List.mem_cons_of_mem _ (List.mem_cons_of_mem _ List.mem_cons_self)), (jc (by show (14 : Int) ≤ M 53 14; omega) (by show M 53 14 ≤ (14 : Int); omega) (jc (by show (1 : Int) ≤ M 53 15; omega) (by show M 53 15 ≤ (26 : Int); omega) (jc (by show (5 : Int) ≤ M 62 14; omega) (by show M 62 14 ≤ (5 : Int); omega) (jc (by show (0 : Int) ≤ M 63 14; omega) (by show M 63 14 ≤ (29 : Int); omega) (jc (by show (-1 : Int) ≤ M 65 14; omega) (by show M 65 14 ≤ (143 : Int); omega) jn)))))⟩
    · exact ⟨k_mr_14_2, (List.mem_cons_of_mem _ (List.mem_cons_of_mem _ (List.mem_cons_of_mem _ List.mem_cons_self))), (jc (by show (14 : Int) ≤ M 53 14; omega) (by show M 53 14 ≤ (14 : Int); omega) (jc (by show (1 : Int) ≤ M 53 15; omega) (by show M 53 15 ≤ (26 : Int); omega) (jc (by show (6 : Int) ≤ M 62 14; omega) (by show M 62 14 ≤ (6 : Int); omega) (jc (by show (0 : Int) ≤ M 63 14; omega) (by show M 63 14 ≤ (11 : Int); omega) (jc (by show (-1 : Int) ≤ M 65 14; omega) (by show M 65 14 ≤ (143 : Int); omega) jn)))))⟩
    · exact ⟨k_mr_14_3, (List.mem_cons_of_mem _ (List.mem_cons_of_mem _ (List.mem_cons_of_mem _ (List.mem_cons_of_mem _ List.mem_cons_self)))), (jc (by show (14 : Int) ≤ M 53 14; omega) (by show M 53 14 ≤ (14 : Int); omega) (jc (by show (1 : Int) ≤ M 53 15; omega) (by show M 53 15 ≤ (26 : Int); omega) (jc (by show (7 : Int) ≤ M 62 14; omega) (by show M 62 14 ≤ (7 : Int); omega) (jc (by show (0 : Int) ≤ M 63 14; omega) (by show M 63 14 ≤ (0 : Int); omega) (jc (by show (0 : Int) ≤ M 65 14; omega) (by show M 65 14 ≤ (29 : Int); omega) jn)))))⟩
theorem c_mr_14 (hL : L < 2 ^ 31) : ci L xs 162 k_mr_14 :=
  ci_j_ok (ms := [k_mr_14_e, k_mr_14_0, k_mr_14_1, k_mr_14_2, k_mr_14_3]) (jl_cons (c_mr_14_e hL) (jl_cons (c_mr_14_0 hL) (jl_cons (c_mr_14_1 hL) (jl_cons (c_mr_14_2 hL) (jl_cons (c_mr_14_3 hL) jl_nil))))) s_mr_14 (by decide +kernel)
def k_mr_15_e : ct_C := ([(2, .ofNat 53, .ofNat 53)], [(53, 14, .ofNat 15, .ofNat 15), (53, 15, .ofNat 0, .ofNat 0)], [], [], (some (0, .negSucc 4, .negSucc 4)), 1, false)
theorem c_mr_15_e (hL : L < 2 ^ 31) : ci L xs 162 k_mr_15_e :=
  mi_ok (fc := 9000) (f := 9000) (cuts := []) (xk := jx) cl_lok cl_hrf (cl_hro L xs) hL jx_ok (by decide +kernel)
def k_mr_15_0 : ct_C := ([(2, .ofNat 53, .ofNat 53)], [(53, 14, .ofNat 15, .ofNat 15), (53, 15, .ofNat 1, .ofNat 25), (62, 15, .ofNat 0, .ofNat 4), (63, 15, .ofNat 0, .ofNat 5), (65, 15, .negSucc 0, .ofNat 143)], [(53, 14, .ofNat 16, .ofNat 16), (53, 15, .ofNat 0, .ofNat 24)], [54, 55, 56, 57, 58], (some (0, .ofNat 0, .ofNat 24)), 2, false)
theorem c_mr_15_0 (hL : L < 2 ^ 31) : ci L xs 162 k_mr_15_0 :=
  mi_ok (fc := 9000) (f := 9000) (cuts := []) (xk := jx) cl_lok cl_hrf (cl_hro L xs) hL jx_ok (by decide +kernel)
def k_mr_15_1 : ct_C := ([(2, .ofNat 53, .ofNat 53)], [(53, 14, .ofNat 15, .ofNat 15), (53, 15, .ofNat 1, .ofNat 25), (62, 15, .ofNat 5, .ofNat 5), (63, 15, .ofNat 0, .ofNat 29), (65, 15, .negSucc 0, .ofNat 143)], [(53, 14, .ofNat 16, .ofNat 16), (53, 15, .ofNat 0, .ofNat 24)], [61], (some (0, .ofNat 0, .ofNat 24)), 2, false)
theorem c_mr_15_1 (hL : L < 2 ^ 31) : ci L xs 162 k_mr_15_1 :=
  mi_ok (fc := 9000) (f := 9000) (cuts := []) (xk := jx) cl_lok cl_hrf (cl_hro L xs) hL jx_ok (by decide +kernel)
def k_mr_15_2 : ct_C := ([(2, .ofNat 53, .ofNat 53)], [(53, 14, .ofNat 15, .ofNat 15), (53, 15, .ofNat 1, .ofNat 25), (62, 15, .ofNat 6, .ofNat 6), (63, 15, .ofNat 0, .ofNat 11), (65, 15, .negSucc 0, .ofNat 143)], [(53, 14, .ofNat 16, .ofNat 16), (53, 15, .ofNat 0, .ofNat 24)], [60], (some (0, .ofNat 0, .ofNat 24)), 2, false)
theorem c_mr_15_2 (hL : L < 2 ^ 31) : ci L xs 162 k_mr_15_2 :=
  mi_ok (fc := 9000) (f := 9000) (cuts := []) (xk := jx) cl_lok cl_hrf (cl_hro L xs) hL jx_ok (by decide +kernel)
def k_mr_15_3 : ct_C := ([(2, .ofNat 53, .ofNat 53)], [(53, 14, .ofNat 15, .ofNat 15), (53, 15, .ofNat 1, .ofNat 25), (62, 15, .ofNat 7, .ofNat 7), (63, 15, .ofNat 0, .ofNat 0), (65, 15, .ofNat 0, .ofNat 29)], [(53, 13, .ofNat 0, .ofNat 29), (53, 14, .ofNat 16, .ofNat 16), (53, 15, .ofNat 0, .ofNat 24)], [], (some (0, .ofNat 0, .ofNat 24)), 2, false)
theorem c_mr_15_3 (hL : L < 2 ^ 31) : ci L xs 162 k_mr_15_3 :=
  mi_ok (fc := 9000) (f := 9000) (cuts := []) (xk := jx) cl_lok cl_hrf (cl_hro L xs) hL jx_ok (by decide +kernel)
end
