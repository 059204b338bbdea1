/-! mend, undo, redo, 26. -/
section
variable {L : Nat} {xs : Nat → Int32}
def k_mr_15 : ct_C := ([(2, .ofNat 53, .ofNat 53)], [(53, 14, .ofNat 15, .ofNat 15)], [(53, 13, .ofNat 0, .ofNat 29), (53, 14, .ofNat 0, .ofNat 40), (53, 15, .ofNat 0, .ofNat 40)], [54, 55, 56, 57, 58, 60, 61], (some (0, .negSucc 4, .ofNat 24)), 2, false)
theorem s_mr_15 (M : Nat → Nat → Int) (hm : sx_mok cl_ly M) (hJ : JJ M) (hg : ct_g k_mr_15.2.1 M) : ∃ m ∈ [k_mr_15_e, k_mr_15_0, k_mr_15_1, k_mr_15_2, k_mr_15_3], ct_g m.2.1 M := by
  have hv : M 53 14 = 15 := by
    have h := hg (53, 14, .ofNat 15, .ofNat 15) List.mem_cons_self
    exact Int.le_antisymm h.2 h.1
  have hk := jr_kn hm
  have hu := jr_un hm
  have hd := hJ.2.2.1
  have he := hJ.2.2.2
  by_cases h0 : M 53 15 = 0
  · exact ⟨k_mr_15_e, List.mem_cons_self, (jc (by show (15 : Int) ≤ M 53 14; omega) (by show M 53 14 ≤ (15 : Int); omega) (jc (by show (0 : Int) ≤ M 53 15; omega) (by show M 53 15 ≤ (0 : Int); omega) jn))⟩
  · have h8 : jp (M 62 15) (M 63 15) (M 64 15) (M 65 15) := hJ.2.1 15 (by decide)
    obtain ⟨⟨b1, b2, b3, b4⟩, h8⟩ := h8
    rcases h8 with h8 | h8 | h8 | h8
    · exact ⟨k_mr_15_0, (List.mem_cons_of_mem _ List.mem_cons_self), (jc (by show (15 : Int) ≤ M 53 14; omega) (by show M 53 14 ≤ (15 : Int); omega) (jc (by show (1 : Int) ≤ M 53 15; omega) (by show M 53 15 ≤ (25 : Int); omega) (jc (by show (0 : Int) ≤ M 62 15; omega) (by show M 62 15 ≤ (4 : Int); omega) (jc (by show (0 : Int) ≤ M 63 15; omega) (by show M 63 15 ≤ (5 : Int); omega) (jc (by show (-1 : Int) ≤ M 65 15; omega) (by show M 65 15 ≤ (143 : Int); omega) jn)))))⟩
    · exact ⟨k_mr_15_1, (List.mem_cons_of_mem _ (List.mem_cons_of_mem _ List.mem_cons_self)), (jc (by show (15 : Int) ≤ M 53 14; omega) (by show M 53 14 ≤ (15 : Int); omega) (jc (by show (1 : Int) ≤ M 53 15; omega) (by show M 53 15 ≤ (25 : Int); omega) (jc (by show (5 : Int) ≤ M 62 15; omega) (by show M 62 15 ≤ (5 : Int); omega) (jc (by show (0 : Int) ≤ M 63 15; omega) (by show M 63 15 ≤ (29 : Int); omega) (jc (by show (-1 : Int) ≤ M 65 15; omega) (by show M 65 15 ≤ (143 : Int); omega) jn)))))⟩
    · exact ⟨k_mr_15_2, (List.mem_cons_of_mem _ (List.mem_cons_of_mem _ (List.mem_cons_of_mem _ List.mem_cons_self))), (jc (by show (15 : Int) ≤ M 53 14; omega) (by show M 53 14 ≤ (15 : Int); omega) (jc (by show (1 : Int) ≤ M 53 15; omega) (by show M 53 15 ≤ (25 : Int); omega) (jc (by show (6 : Int) ≤ M 62 15; omega) (by show M 62 15 ≤ (6 : Int); omega) (jc (by show (0 : Int) ≤ M 63 15; omega) (by show M 63 15 ≤ (11 : Int); omega) (jc (by show (-1 : Int) ≤ M 65 15; omega) (by show M 65 15 ≤ (143 : Int); omega) jn)))))⟩
    · exact ⟨k_mr_15_3, (List.mem_cons_of_mem _ (List.mem_cons_of_mem _ (List.mem_cons_of_mem _ (List.mem_cons_of_mem _ List.mem_cons_self)))), (jc (by show (15 : Int) ≤ M 53 14; omega) (by show M 53 14 ≤ (15 : Int); omega) (jc (by show (1 : Int) ≤ M 53 15; omega) (by show M 53 15 ≤ (25 : Int); omega) (jc (by show (7 : Int) ≤ M 62 15; omega) (by show M 62 15 ≤ (7 : Int); omega) (jc (by show (0 : Int) ≤ M 63 15; omega) (by show M 63 15 ≤ (0 : Int); omega) (jc (by show (0 : Int) ≤ M 65 15; omega) (by show M 65 15 ≤ (29 : Int); omega) jn)))))⟩
theorem c_mr_15 (hL : L < 2 ^ 31) : ci L xs 162 k_mr_15 :=
  ci_j_ok (ms := [k_mr_15_e, k_mr_15_0, k_mr_15_1, k_mr_15_2, k_mr_15_3]) (jl_cons (c_mr_15_e hL) (jl_cons (c_mr_15_0 hL) (jl_cons (c_mr_15_1 hL) (jl_cons (c_mr_15_2 hL) (jl_cons (c_mr_15_3 hL) jl_nil))))) s_mr_15 (by decide +kernel)
def k_mr_16_e : ct_C := ([(2, .ofNat 53, .ofNat 53)], [(53, 14, .ofNat 16, .ofNat 16), (53, 15, .ofNat 0, .ofNat 0)], [], [], (some (0, .negSucc 4, .negSucc 4)), 1, false)
theorem c_mr_16_e (hL : L < 2 ^ 31) : ci L xs 162 k_mr_16_e :=
  mi_ok (fc := 9000) (f := 9000) (cuts := []) (xk := jx) cl_lok cl_hrf (cl_hro L xs) hL jx_ok (by decide +kernel)
def k_mr_16_0 : ct_C := ([(2, .ofNat 53, .ofNat 53)], [(53, 14, .ofNat 16, .ofNat 16), (53, 15, .ofNat 1, .ofNat 24), (62, 16, .ofNat 0, .ofNat 4), (63, 16, .ofNat 0, .ofNat 5), (65, 16, .negSucc 0, .ofNat 143)], [(53, 14, .ofNat 17, .ofNat 17), (53, 15, .ofNat 0, .ofNat 23)], [54, 55, 56, 57, 58], (some (0, .ofNat 0, .ofNat 23)), 2, false)
theorem c_mr_16_0 (hL : L < 2 ^ 31) : ci L xs 162 k_mr_16_0 :=
  mi_ok (fc := 9000) (f := 9000) (cuts := []) (xk := jx) cl_lok cl_hrf (cl_hro L xs) hL jx_ok (by decide +kernel)
def k_mr_16_1 : ct_C := ([(2, .ofNat 53, .ofNat 53)], [(53, 14, .ofNat 16, .ofNat 16), (53, 15, .ofNat 1, .ofNat 24), (62, 16, .ofNat 5, .ofNat 5), (63, 16, .ofNat 0, .ofNat 29), (65, 16, .negSucc 0, .ofNat 143)], [(53, 14, .ofNat 17, .ofNat 17), (53, 15, .ofNat 0, .ofNat 23)], [61], (some (0, .ofNat 0, .ofNat 23)), 2, false)
theorem c_mr_16_1 (hL : L < 2 ^ 31) : ci L xs 162 k_mr_16_1 :=
  mi_ok (fc := 9000) (f := 9000) (cuts := []) (xk := jx) cl_lok cl_hrf (cl_hro L xs) hL jx_ok (by decide +kernel)
def k_mr_16_2 : ct_C := ([(2, .ofNat 53, .ofNat 53)], [(53, 14, .ofNat 16, .ofNat 16), (53, 15, .ofNat 1, .ofNat 24), (62, 16, .ofNat 6, .ofNat 6), (63, 16, .ofNat 0, .ofNat 11), (65, 16, .negSucc 0, .ofNat 143)], [(53, 14, .ofNat 17, .ofNat 17), (53, 15, .ofNat 0, .ofNat 23)], [60], (some (0, .ofNat 0, .ofNat 23)), 2, false)
theorem c_mr_16_2 (hL : L < 2 ^ 31) : ci L xs 162 k_mr_16_2 :=
  mi_ok (fc := 9000) (f := 9000) (cuts := []) (xk := jx) cl_lok cl_hrf (cl_hro L xs) hL jx_ok (by decide +kernel)
def k_mr_16_3 : ct_C := ([(2, .ofNat 53, .ofNat 53)], [(53, 14, .ofNat 16, .ofNat 16), (53, 15, .ofNat 1, .ofNat 24), (62, 16, .ofNat 7, .ofNat 7), (63, 16, .ofNat 0, .ofNat 0), (65, 16, .ofNat 0, .ofNat 29)], [(53, 13, .ofNat 0, .ofNat 29), (53, 14, .ofNat 17, .ofNat 17), (53, 15, .ofNat 0, .ofNat 23)], [], (some (0, .ofNat 0, .ofNat 23)), 2, false)
theorem c_mr_16_3 (hL : L < 2 ^ 31) : ci L xs 162 k_mr_16_3 :=
  mi_ok (fc := 9000) (f := 9000) (cuts := []) (xk := jx) cl_lok cl_hrf (cl_hro L xs) hL jx_ok (by decide +kernel)
def k_mr_16 : ct_C := ([(2, .ofNat 53, .ofNat 53)], [(53, 14, .ofNat 16, .ofNat 16)], [(53, 13, .ofNat 0, .ofNat 29), (53, 14, .ofNat 0, .ofNat 40), (53, 15, .ofNat 0, .ofNat 40)], [54, 55, 56, 57, 58, 60, 61], (some (0, .negSucc 4, .ofNat 23)), 2, false)
theorem s_mr_16 (M : Nat → Nat → Int) (hm : sx_mok cl_ly M) (hJ : JJ M) (hg : ct_g k_mr_16.2.1 M) : ∃ m ∈ [k_mr_16_e, k_mr_16_0, k_mr_16_1, k_mr_16_2, k_mr_16_3], ct_g m.2.1 M := by
  have hv : M 53 14 = 16 := by
    have h := hg (53, 14, .ofNat 16, .ofNat 16) List.mem_cons_self
    exact Int.le_antisymm h.2 h.1
  have hk := jr_kn hm
  have hu := jr_un hm
  have hd := hJ.2.2.1
  have he := hJ.2.2.2
  by_cases h0 : M 53 15 = 0
  · exact ⟨k_mr_16_e, List.mem_cons_self, (jc (by show (16 : Int) ≤ M 53 14; omega) (by show M 53 14 ≤ (16 : Int); omega) (jc (by show (0 : Int) ≤ M 53 15; omega) (by show M 53 15 ≤ (0 : Int); omega) jn))⟩
  · have h8 : jp (M 62 16) (M 63 16) (M 64 16) (M 65 16) := hJ.2.1 16 (by decide)
    obtain ⟨⟨b1, b2, b3, b4⟩, h8⟩ := h8
    rcases h8 with h8 | h8 | h8 | h8
    · exact ⟨k_mr_16_0, (List.mem_cons_of_mem _ List.mem_cons_self), (jc (by show (16 : Int) ≤ M 53 14; omega) (by show M 53 14 ≤ (16 : Int); omega) (jc (by show (1 : Int) ≤ M 53 15; omega) (by show M 53 15 ≤ (24 : Int); omega) (jc (by show (0 : Int) ≤ M 62 16; omega) (by show M 62 16 ≤ (4 : Int); omega) (jc (by show (0 : Int) ≤ M 63 16; omega) (by show M 63 16 ≤ (5 : Int); omega) (jc (by show (-1 : Int) ≤ M 65 16; omega) (by show M 65 16 ≤ (143 : Int); omega) jn)))))⟩
    · exact ⟨k_mr_16_1, (List.mem_cons_of_mem _ (List.mem_cons_of_mem _ List.mem_cons_self)), (jc (by show (16 : Int) ≤ M 53 14; omega) (by show M 53 14 ≤ (16 : Int); omega) (jc (by show (1 : Int) ≤ M 53 15; omega) (by show M 53 15 ≤ (24 : Int); omega) (jc (by show (5 : Int) ≤ M 62 16; omega) (by show M 62 16 ≤ (5 : Int); omega) (jc (by show (0 : Int) ≤ M 63 16; omega) (by show M 63 16 ≤ (29 : Int); omega) (jc (by show (-1 : Int) ≤ M 65 16; omega) (by show M 65 16 ≤ (143 : Int); omega) jn)))))⟩
    · exact ⟨k_mr_16_2, (List.mem_cons_of_mem _ (List.mem_cons_of_mem _ (List.mem_cons_of_mem _ List.mem_cons_self))), (jc (by show (16 : Int) ≤ M 53 14; omega) (by show M 53 14 ≤ (16 : Int); omega) (jc (by show (1 : Int) ≤ M 53 15; omega) (by show M 53 15 ≤ (24 : Int); omega) (jc (by show (6 : Int) ≤ M 62 16; omega) (by show M 62 16 ≤ (6 : Int); omega) (jc (by show (0 : Int) ≤ M 63 16; omega) (by show M 63 16 ≤ (11 : Int); omega) (jc (by show (-1 : Int) ≤ M 65 16; omega) (by show M 65 16 ≤ (143 : Int); omega) jn)))))⟩
    · exact ⟨k_mr_16_3, (List.mem_cons_of_mem _ (List.mem_cons_of_mem _ (List.mem_cons_of_mem _ (List.mem_cons_of_mem _ List.mem_cons_self)))), (jc (by show (16 : Int) ≤ M 53 14; omega) (by show M 53 14 ≤ (16 : Int); omega) (jc (by show (1 : Int) ≤ M 53 15; omega) (by show M 53 15 ≤ (24 : Int); omega) (jc (by show (7 : Int) ≤ M 62 16; omega) (by show M 62 16 ≤ (7 : Int); omega) (jc (by show (0 : Int) ≤ M 63 16; omega) (by show M 63 16 ≤ (0 : Int); omega) (jc (by show (0 : Int) ≤ M 65 16; omega) (by show M 65 16 ≤ (29 : Int); omega) jn)))))⟩
theorem c_mr_16 (hL : L < 2 ^ 31) : ci L xs 162 k_mr_16 :=
  ci_j_ok (ms := [k_mr_16_e, k_mr_16_0, k_mr_16_1, k_mr_16_2, k_mr_16_3]) (jl_cons (c_mr_16_e hL) (jl_cons (c_mr_16_0 hL) (jl_cons (c_mr_16_1 hL) (jl_cons (c_mr_16_2 hL) (jl_cons (c_mr_16_3 hL) jl_nil))))) s_mr_16 (by decide +kernel)
def k_mr_17_e : ct_C := ([(2, .ofNat 53, .ofNat 53)], [(53, 14, .ofNat 17, .ofNat 17), (53, 15, .ofNat 0, .ofNat 0)], [], [], (some (0, .negSucc 4, .negSucc 4)), 1, false)
theorem c_mr_17_e (hL : L < 2 ^ 31) : ci L xs 162 k_mr_17_e :=
  mi_ok (fc := 9000) (f := 9000) (cuts := []) (xk := jx) cl_lok cl_hrf (cl_hro L xs) hL jx_ok (by decide +kernel)
def k_mr_17_0 : ct_C := ([(2, .ofNat 53, .ofNat 53)], [(53, 14, .ofNat 17, .ofNat 17), (53, 15, .ofNat 1, .ofNat 23), (62, 17, .ofNat 0, .ofNat 4), (63, 17, .ofNat 0, .ofNat 5), (65, 17, .negSucc 0, .ofNat 143)], [(53, 14, .ofNat 18, .ofNat 18), (53, 15, .ofNat 0, .ofNat 22)], [54, 55, 56, 57, 58], (some (0, .ofNat 0, .ofNat 22)), 2, false)
theorem c_mr_17_0 (hL : L < 2 ^ 31) : ci L xs 162 k_mr_17_0 :=
  mi_ok (fc := 9000) (f := 9000) (cuts := []) (xk := jx) cl_lok cl_hrf (cl_hro L xs) hL jx_ok (by decide +kernel)
def k_mr_17_1 : ct_C := ([(2, .ofNat 53, .ofNat 53)], [(53, 14, .ofNat 17, .ofNat 17), (53, 15, .ofNat 1, .ofNat 23), (62, 17, .ofNat 5, .ofNat 5), (63, 17, .ofNat 0, .ofNat 29), (65, 17, .negSucc 0, .ofNat 143)], [(53, 14, .ofNat 18, .ofNat 18), (53, 15, .ofNat 0, .ofNat 22)], [61], (some (0, .ofNat 0, .ofNat 22)), 2, false)
theorem c_mr_17_1 (hL : L < 2 ^ 31) : ci L xs 162 k_mr_17_1 :=
  mi_ok (fc := 9000) (f := 9000) (cuts := []) (xk := jx) cl_lok cl_hrf (cl_hro L xs) hL jx_ok (by decide +kernel)
def k_mr_17_2 : ct_C := ([(2, .ofNat 53, .ofNat 53)], [(53, 14, .ofNat 17, .ofNat 17), (53, 15, .ofNat 1, .ofNat 23), (62, 17, .ofNat 6, .ofNat 6), (63, 17, .ofNat 0, .ofNat 11), (65, 17, .negSucc 0, .ofNat 143)], [(53, 14, .ofNat 18, .ofNat 18), (53, 15, .ofNat 0, .ofNat 22)], [60], (some (0, .ofNat 0, .ofNat 22)), 2, false)
theorem c_mr_17_2 (hL : L < 2 ^ 31) : ci L xs 162 k_mr_17_2 :=
  mi_ok (fc := 9000) (f := 9000) (cuts := []) (xk := jx) cl_lok cl_hrf (cl_hro L xs) hL jx_ok (by decide +kernel)
def k_mr_17_3 : ct_C := ([(2, .ofNat 53, .ofNat 53)], [(53, 14, .ofNat 17, .ofNat 17), (53, 15, .ofNat 1, .ofNat 23), (62, 17, .ofNat 7, .ofNat 7), (63, 17, .ofNat 0, .ofNat 0), (65, 17, .ofNat 0, .ofNat 29)], [(53, 13, .ofNat 0, .ofNat 29), (53, 14, .ofNat 18, .ofNat 18), (53, 15, .ofNat 0, .ofNat 22)], [], (some (0, .ofNat 0, .ofNat 22)), 2, false)
theorem c_mr_17_3 (hL : L < 2 ^ 31) : ci L xs 162 k_mr_17_3 :=
  mi_ok (fc := 9000) (f := 9000) (cuts := []) (xk := jx) cl_lok cl_hrf (cl_hro L xs) hL jx_ok (by decide +kernel)
def k_mr_17 : ct_C := ([(2, .ofNat 53, .ofNat 53)], [(53, 14, .ofNat 17, .ofNat 17)], [(53, 13, .ofNat 0, .ofNat 29), (53, 14, .ofNat 0, .ofNat 40), (53, 15, .ofNat 0, .ofNat 40)], [54, 55, 56, 57, 58, 60, 61], (some (0, .negSucc 4, .ofNat 22)), 2, false)
theorem s_mr_17 (M : Nat → Nat → Int) (hm : sx_mok cl_ly M) (hJ : JJ M) (hg : ct_g k_mr_17.2.1 M) : ∃ m ∈ [k_mr_17_e, k_mr_17_0, k_mr_17_1, k_mr_17_2, k_mr_17_3], ct_g m.2.1 M := by
  have hv : M 53 14 = 17 := by
    have h := hg (53, 14, .ofNat 17, .ofNat 17) List.mem_cons_self
    exact Int.le_antisymm h.2 h.1
  have hk := jr_kn hm
  have hu := jr_un hm
  have hd := hJ.2.2.1
  have he := hJ.2.2.2
  by_cases h0 : M 53 15 = 0
  · exact ⟨k_mr_17_e, List.mem_cons_self, (jc (by show (17 : Int) ≤ M 53 14; omega) (by show M 53 14 ≤ (17 : Int); omega) (jc (by show (0 : Int) ≤ M 53 15; omega) (by show M 53 15 ≤ (0 : Int); omega) jn))⟩
  · have h8 : jp (M 62 17) (M 63 17) (M 64 17) (M 65 17) := hJ.2.1 17 (by decide)
    obtain ⟨⟨b1, b2, b3, b4⟩, h8⟩ := h8
    rcases h8 with h8 | h8 | h8 | h8
    · exact ⟨k_mr_17_0, (List.mem_cons_of_mem _ List.mem_cons_self), (jc (by show (17 : Int) ≤ M 53 14; omega) (by show M 53 14 ≤ (17 : Int); omega) (jc (by show (1 : Int) ≤ M 53 15; omega) (by show M 53 15 ≤ (23 : Int); omega) (jc (by show (0 : Int) ≤ M 62 17; omega) (by show M 62 17 ≤ (4 : Int); omega) (jc (by show (0 : Int) ≤ M 63 17; omega) (by show M 63 17 ≤ (5 : Int); omega) (jc (by show (-1 : Int) ≤ M 65 17; omega) (by show M 65 17 ≤ (143 : Int); omega) jn)))))⟩
    · exact ⟨k_mr_17_1, (List.mem_cons_of_mem _ (List.mem_cons_of_mem _ List.mem_cons_self)), (jc (by show (17 : Int) ≤ M 53 14; omega) (by show M 53 14 ≤ (17 : Int); omega) (jc (by show (1 : Int) ≤ M 53 15; omega) (by show M 53 15 ≤ (23 : Int); omega) (jc (by show (5 : Int) ≤ M 62 17; omega) (by show M 62 17 ≤ (5 : Int); omega) (jc (by show (0 : Int) ≤ M 63 17; omega) (by show M 63 17 ≤ (29 : Int); omega) (jc (by show (-1 : Int) ≤ M 65 17; omega) (by show M 65 17 ≤ (143 : Int); omega) jn)))))⟩
    · exact ⟨k_mr_17_2, (List.mem_cons_of_mem _ (List.mem_cons_of_mem _ (List.mem_cons_of_mem _ List.mem_cons_self))), (jc (by show (17 : Int) ≤ M 53 14; omega) (by show M 53 14 ≤ (17 : Int); omega) (jc (by show (1 : Int) ≤ M 53 15; omega) (by show M 53 15 ≤ (23 : Int); omega) (jc (by show (6 : Int) ≤ M 62 17; omega) (by show M 62 17 ≤ (6 : Int); omega) (jc (by show (0 : Int) ≤ M 63 17; omega) (by show M 63 17 ≤ (11 : Int); omega) (jc (by show (-1 : Int) ≤ M 65 17; omega) (by show M 65 17 ≤ (143 : Int); omega) jn)))))⟩
    · exact ⟨k_mr_17_3, (List.mem_cons_of_mem _ (List.mem_cons_of_mem _ (List.mem_cons_of_mem _ (List.mem_cons_of_mem _ List.mem_cons_self)))), (jc (by show (17 : Int) ≤ M 53 14; omega) (by show M 53 14 ≤ (17 : Int); omega) (jc (by show (1 : Int) ≤ M 53 15; omega) (by show M 53 15 ≤ (23 : Int); omega) (jc (by show (7 : Int) ≤ M 62 17; omega) (by show M 62 17 ≤ (7 : Int); omega) (jc (by show (0 : Int) ≤ M 63 17; omega) (by show M 63 17 ≤ (0 : Int); omega) (jc (by show (0 : Int) ≤ M 65 17; omega) (by show M 65 17 ≤ (29 : Int); omega) jn)))))⟩
theorem c_mr_17 (hL : L < 2 ^ 31) : ci L xs 162 k_mr_17 :=
  ci_j_ok (ms := [k_mr_17_e, k_mr_17_0, k_mr_17_1, k_mr_17_2, k_mr_17_3]) (jl_cons (c_mr_17_e hL) (jl_cons (c_mr_17_0 hL) (jl_cons (c_mr_17_1 hL) (jl_cons (c_mr_17_2 hL) (jl_cons (c_mr_17_3 hL) jl_nil))))) s_mr_17 (by decide +kernel)
def k_mr_18_e : ct_C := ([(2, .ofNat 53, .ofNat 53)], [(53, 14, .ofNat 18, .ofNat 18), (53, 15, .ofNat 0, .ofNat 0)], [], [], (some (0, .negSucc 4, .negSucc 4)), 1, false)
theorem c_mr_18_e (hL : L < 2 ^ 31) : ci L xs 162 k_mr_18_e :=
  mi_ok (fc := 9000) (f := 9000) (cuts := []) (xk := jx) cl_lok cl_hrf (cl_hro L xs) hL jx_ok (by decide +kernel)
def k_mr_18_0 : ct_C := ([(2, .ofNat 53, .ofNat 53)], [(53, 14, .ofNat 18, .ofNat 18), (53, 15, .ofNat 1, .ofNat 22), (62, 18, .ofNat 0, .ofNat 4), (63, 18, .ofNat 0, .ofNat 5), (65, 18, .negSucc 0, .ofNat 143)], [(53, 14, .ofNat 19, .ofNat 19), (53, 15, .ofNat 0, .ofNat 21)], [54, 55, 56, 57, 58], (some (0, .ofNat 0, .ofNat 21)), 2, false)
theorem c_mr_18_0 (hL : L < 2 ^ 31) : ci L xs 162 k_mr_18_0 :=
  mi_ok (fc := 9000) (f := 9000) (cuts := []) (xk := jx) cl_lok cl_hrf (cl_hro L xs) hL jx_ok (by decide +kernel)
def k_mr_18_1 : ct_C := ([(2, .ofNat 53, .ofNat 53)], [(53, 14, .ofNat 18, .ofNat 18), (53, 15, .ofNat 1, .ofNat 22), (62, 18, .ofNat 5, .ofNat 5), (63, 18, .ofNat 0, .ofNat 29), (65, 18, .negSucc 0, .ofNat 143)], [(53, 14, .ofNat 19, .ofNat 19), (53, 15, .ofNat 0, .ofNat 21)], [61], (some (0, .ofNat 0, .ofNat 21)), 2, false)
theorem c_mr_18_1 (hL : L < 2 ^ 31) : ci L xs 162 k_mr_18_1 :=
  mi_ok (fc := 9000) (f := 9000) (cuts := []) (xk := jx) cl_lok cl_hrf (cl_hro L xs) hL jx_ok (by decide +kernel)
def k_mr_18_2 : ct_C := ([(2, .ofNat 53, .ofNat 53)], [(53, 14, .ofNat 18, .ofNat 18), (53, 15, .ofNat 1, .ofNat 22), (62, 18, .ofNat 6, .ofNat 6), (63, 18, .ofNat 0, .ofNat 11), (65, 18, .negSucc 0, .ofNat 143)], [(53, 14, .ofNat 19, .ofNat 19), (53, 15, .ofNat 0, .ofNat 21)], [60], (some (0, .ofNat 0, .ofNat 21)), 2, false)
theorem c_mr_18_2 (hL : L < 2 ^ 31) : ci L xs 162 k_mr_18_2 :=
  mi_ok (fc := 9000) (f := 9000) (cuts := []) (xk := jx) cl_lok cl_hrf (cl_hro L xs) hL jx_ok (by decide +kernel)
def k_mr_18_3 : ct_C := ([(2, .ofNat 53, .ofNat 53)], [(53, 14, .ofNat 18, .ofNat 18), (53, 15, .ofNat 1, .ofNat 22), (62, 18, .ofNat 7, .ofNat 7), (63, 18, .ofNat 0, .ofNat 0), (65, 18, .ofNat 0, .ofNat 29)], [(53, 13, .ofNat 0, .ofNat 29), (53, 14, .ofNat 19, .ofNat 19), (53, 15, .ofNat 0, .ofNat 21)], [], (some (0, .ofNat 0, .ofNat 21)), 2, false)
theorem c_mr_18_3 (hL : L < 2 ^ 31) : ci L xs 162 k_mr_18_3 :=
  mi_ok (fc := 9000) (f := 9000) (cuts := []) (xk := jx) cl_lok cl_hrf (cl_hro L xs) hL jx_ok (by decide +kernel)
def k_mr_18 : ct_C := ([(2, .ofNat 53, .ofNat 53)], [(53, 14, .ofNat 18, .ofNat 18)], [(53, 13, .ofNat 0, .ofNat 29), (53, 14, .ofNat 0, .ofNat 40), (53, 15, .ofNat 0, .ofNat 40)], [54, 55, 56, 57, 58, 60, 61], (some (0, .negSucc 4, .ofNat 21)), 2, false)
theorem s_mr_18 (M : Nat → Nat → Int) (hm : sx_mok cl_ly M) (hJ : JJ M) (hg : ct_g k_mr_18.2.1 M) : ∃ m ∈ [k_mr_18_e, k_mr_18_0, k_mr_18_1, k_mr_18_2, k_mr_18_3], ct_g m.2.1 M := by
  have hv : M 53 14 = 18 := by
    have h := hg (53, 14, .ofNat 18, .ofNat 18) List.mem_cons_self
    exact Int.le_antisymm h.2 h.1
  have hk := jr_kn hm
  have hu := jr_un hm
  have hd := hJ.2.2.1
  have he := hJ.2.2.2
  by_cases h0 : M 53 15 = 0
  · exact ⟨k_mr_18_e, List.mem_cons_self, (jc (by show (18 : Int) ≤ M 53 14; omega) (by show M 53 14 ≤ (18 : Int); omega) (jc (by show (0 : Int) ≤ M 53 15; omega) (by show M 53 15 ≤ (0 : Int); omega) jn))⟩
  · have h8 : jp (M 62 18) (M 63 18) (M 64 18) (M 65 18) := hJ.2.1 18 (by decide)
    obtain ⟨⟨b1, b2, b3, b4⟩, h8⟩ := h8
    rcases h8 with h8 | h8 | h8 | h8
    · exact ⟨k_mr_18_0, (List.mem_cons_of_mem _ List.mem_cons_self), (jc (by show (18 : Int) ≤ M 53 14; omega) (by show M 53 14 ≤ (18 : Int); omega) (jc (by show (1 : Int) ≤ M 53 15; omega) (by show M 53 15 ≤ (22 : Int); omega) (jc (by show (0 : Int) ≤ M 62 18; omega) (by show M 62 18 ≤ (4 : Int); omega) (jc (by show (0 : Int) ≤ M 63 18; omega) (by show M 63 18 ≤ (5 : Int); omega) (jc (by show (-1 : Int) ≤ M 65 18; omega) (by show M 65 18 ≤ (143 : Int); omega) jn)))))⟩
    · exact ⟨k_mr_18_1, (List.mem_cons_of_mem _ (List.mem_cons_of_mem _ List.mem_cons_self)), (jc (by show (18 : Int) ≤ M 53 14; omega) (by show M 53 14 ≤ (18 : Int); omega) (jc (by show (1 : Int) ≤ M 53 15; omega) (by show M 53 15 ≤ (22 : Int); omega) (jc (by show (5 : Int) ≤ M 62 18; omega) (by show M 62 18 ≤ (5 : Int); omega) (jc (by show (0 : Int) ≤ M 63 18; omega) (by show M 63 18 ≤ (29 : Int); omega) (jc (by show (-1 : Int) ≤ M 65 18; omega) (by show M 65 18 ≤ (143 : Int); omega) jn)))))⟩
    · exact ⟨k_mr_18_2, (List.mem_cons_of_mem _ (List.mem_cons_of_mem _ (List.mem_cons_of_mem _ List.mem_cons_self))), (jc (by show (18 : Int) ≤ M 53 14; omega) (by show M 53 14 ≤ (18 : Int); omega) (jc (by show (1 : Int) ≤ M 53 15; omega) (by show M 53 15 ≤ (22 : Int); omega) (jc (by show (6 : Int) ≤ M 62 18; omega) (by show M 62 18 ≤ (6 : Int); omega) (jc (by show (0 : Int) ≤ M 63 18; omega) (by show M 63 18 ≤ (11 : Int); omega) (jc (by show (-1 : Int) ≤ M 65 18; omega) (by show M 65 18 ≤ (143 : Int); omega) jn)))))⟩
    · exact ⟨k_mr_18_3, (List.mem_cons_of_mem _ (List.mem_cons_of_mem _ (List.mem_cons_of_mem _ (List.mem_cons_of_mem _ List.mem_cons_self)))), (jc (by show (18 : Int) ≤ M 53 14; omega) (by show M 53 14 ≤ (18 : Int); omega) (jc (by show (1 : Int) ≤ M 53 15; omega) (by show M 53 15 ≤ (22 : Int); omega) (jc (by show (7 : Int) ≤ M 62 18; omega) (by show M 62 18 ≤ (7 : Int); omega) (jc (by show (0 : Int) ≤ M 63 18; omega) (by show M 63 18 ≤ (0 : Int); omega) (jc (by show (0 : Int) ≤ M 65 18; omega) (by show M 65 18 ≤ (29 : Int); omega) jn)))))⟩
theorem c_mr_18 (hL : L < 2 ^ 31) : ci L xs 162 k_mr_18 :=
  ci_j_ok (ms := [k_mr_18_e, k_mr_18_0, k_mr_18_1, k_mr_18_2, k_mr_18_3]) (jl_cons (c_mr_18_e hL) (jl_cons (c_mr_18_0 hL) (jl_cons (c_mr_18_1 hL) (jl_cons (c_mr_18_2 hL) (jl_cons (c_mr_18_3 hL) jl_nil))))) s_mr_18 (by decide +kernel)
def k_mr_19_e : ct_C := ([(2, .ofNat 53, .ofNat 53)], [(53, 14, .ofNat 19, .ofNat 19), (53, 15, .ofNat 0, .ofNat 0)], [], [], (some (0, .negSucc 4, .negSucc 4)), 1, false)
theorem c_mr_19_e (hL : L < 2 ^ 31) : ci L xs 162 k_mr_19_e :=
  mi_ok (fc := 9000) (f := 9000) (cuts := []) (xk := jx) cl_lok cl_hrf (cl_hro L xs) hL jx_ok (by decide +kernel)
def k_mr_19_0 : ct_C := ([(2, .ofNat 53, .ofNat 53)], [(53, 14, .ofNat 19, .ofNat 19), (53, 15, .ofNat 1, .ofNat 21), (62, 19, .ofNat 0, .ofNat 4), (63, 19, .ofNat 0, .ofNat 5), (65, 19, .negSucc 0, .ofNat 143)], [(53, 14, .ofNat 20, .ofNat 20), (53, 15, .ofNat 0, .ofNat 20)], [54, 55, 56, 57, 58], (some (0, .ofNat 0, .ofNat 20)), 2, false)
theorem c_mr_19_0 (hL : L < 2 ^ 31) : ci L xs 162 k_mr_19_0 :=
  mi_ok (fc := 9000) (f := 9000) (cuts := []) (xk := jx) cl_lok cl_hrf (cl_hro L xs) hL jx_ok (by decide +kernel)
def k_mr_19_1 : ct_C := ([(2, .ofNat 53, .ofNat 53)], [(53, 14, .ofNat 19, .ofNat 19), (53, 15, .ofNat 1, .ofNat 21), (62, 19, .ofNat 5, .ofNat 5), (63, 19, .ofNat 0, .ofNat 29), (65, 19, .negSucc 0, .ofNat 143)], [(53, 14, .ofNat 20, .ofNat 20), (53, 15, .ofNat 0, .ofNat 20)], [61], (some (0, .ofNat 0, .ofNat 20)), 2, false)
theorem c_mr_19_1 (hL : L < 2 ^ 31) : ci L xs 162 k_mr_19_1 :=
  mi_ok (fc := 9000) (f := 9000) (cuts := []) (xk := jx) cl_lok cl_hrf (cl_hro L xs) hL jx_ok (by decide +kernel)
def k_mr_19_2 : ct_C := ([(2, .ofNat 53, .ofNat 53)], [(53, 14, .ofNat 19, .ofNat 19), (53, 15, .ofNat 1, .ofNat 21), (62, 19, .ofNat 6, .ofNat 6), (63, 19, .ofNat 0, .ofNat 11), (65, 19, .negSucc 0, .ofNat 143)], [(53, 14, .ofNat 20, .ofNat 20), (53, 15, .ofNat 0, .ofNat 20)], [60], (some (0, .ofNat 0, .ofNat 20)), 2, false)
theorem c_mr_19_2 (hL : L < 2 ^ 31) : ci L xs 162 k_mr_19_2 :=
  mi_ok (fc := 9000) (f := 9000) (cuts := []) (xk := jx) cl_lok cl_hrf (cl_hro L xs) hL jx_ok (by decide +kernel)
def k_mr_19_3 : ct_C := ([(2, .ofNat 53, .ofNat 53)], [(53, 14, .ofNat 19, .ofNat 19), (53, 15, .ofNat 1, .ofNat 21), (62, 19, .ofNat 7, .ofNat 7), (63, 19, .ofNat 0, .ofNat 0), (65, 19, .ofNat 0, .ofNat 29)], [(53, 13, .ofNat 0, .ofNat 29), (53, 14, .ofNat 20, .ofNat 20), (53, 15, .ofNat 0, .ofNat 20)], [], (some (0, .ofNat 0, .ofNat 20)), 2, false)
theorem c_mr_19_3 (hL : L < 2 ^ 31) : ci L xs 162 k_mr_19_3 :=
  mi_ok (fc := 9000) (f := 9000) (cuts := []) (xk := jx) cl_lok cl_hrf (cl_hro L xs) hL jx_ok (by decide +kernel)
def k_mr_19 : ct_C := ([(2, .ofNat 53, .ofNat 53)], [(53, 14, .ofNat 19, .ofNat 19)], [(53, 13, .ofNat 0, .ofNat 29), (53, 14, .ofNat 0, .ofNat 40), (53, 15, .ofNat 0, .ofNat 40)], [54, 55, 56, 57, 58, 60, 61], (some (0, .negSucc 4, .ofNat 20)), 2, false)
theorem s_mr_19 (M : Nat → Nat → Int) (hm : sx_mok cl_ly M) (hJ : JJ M) (hg : ct_g k_mr_19.2.1 M) : ∃ m ∈ [k_mr_19_e, k_mr_19_0, k_mr_19_1, k_mr_19_2, k_mr_19_3], ct_g m.2.1 M := by
  have hv : M 53 14 = 19 := by
    have h := hg (53, 14, .ofNat 19, .ofNat 19) List.mem_cons_self
    exact Int.le_antisymm h.2 h.1
  have hk := jr_kn hm
  have hu := jr_un hm
  have hd := hJ.2.2.1
  have he := hJ.2.2.2
  by_cases h0 : M 53 15 = 0
  · exact ⟨k_mr_19_e, List.mem_cons_self, (jc (by show (19 : Int) ≤ M 53 14; omega) (by show M 53 14 ≤ (19 : Int); omega) (jc (by show (0 : Int) ≤ M 53 15; omega) (by show M 53 15 ≤ (0 : Int); omega) jn))⟩
  · have h8 : jp (M 62 19) (M 63 19) (M 64 19) (M 65 19) := hJ.2.1 19 (by decide)
    obtain ⟨⟨b1, b2, b3, b4⟩, h8⟩ := h8
    rcases h8 with h8 | h8 | h8 | h8
    · exact ⟨k_mr_19_0, (List.mem_cons_of_mem _ List.mem_cons_self), (jc (by show (19 : Int) ≤ M 53 14; omega) (by show M 53 14 ≤ (19 : Int); omega) (jc (by show (1 : Int) ≤ M 53 15; omega) (by show M 53 15 ≤ (21 : Int); omega) (jc (by show (0 : Int) ≤ M 62 19; omega) (by show M 62 19 ≤ (4 : Int); omega) (jc (by show (0 : Int) ≤ M 63 19; omega) (by show M 63 19 ≤ (5 : Int); omega) (jc (by show (-1 : Int) ≤ M 65 19; omega) (by show M 65 19 ≤ (143 : Int); omega) jn)))))⟩
    · exact ⟨k_mr_19_1, (List.mem_cons_of_mem _ (List.mem_cons_of_mem _ List.mem_cons_self)), (jc (by show (19 : Int) ≤ M 53 14; omega) (by show M 53 14 ≤ (19 : Int); omega) (jc (by show (1 : Int) ≤ M 53 15; omega) (by show M 53 15 ≤ (21 : Int); omega) (jc (by show (5 : Int) ≤ M 62 19; omega) (by show M 62 19 ≤ (5 : Int); omega) (jc (by show (0 : Int) ≤ M 63 19; omega) (by show M 63 19 ≤ (29 : Int); omega) (jc (by show (-1 : Int) ≤ M 65 19; omega) (by show M 65 19 ≤ (143 : Int); omega) jn)))))⟩
    · exact ⟨k_mr_19_2, (List.mem_cons_of_mem _ (List.mem_cons_of_mem _ (List.mem_cons_of_mem _ List.mem_cons_self))), (jc (by show (19 : Int) ≤ M 53 14; omega) (by show M 53 14 ≤ (19 : Int); omega) (jc (by show (1 : Int) ≤ M 53 15; omega) (by show M 53 15 ≤ (21 : Int); omega) (jc (by show (6 : Int) ≤ M 62 19; omega) (by show M 62 19 ≤ (6 : Int); omega) (jc (by show (0 : Int) ≤ M 63 19; omega) (by show M 63 19 ≤ (11 : Int); omega) (jc (by show (-1 : Int) ≤ M 65 19; omega) (by show M 65 19 ≤ (143 : Int); omega) jn)))))⟩
    · exact ⟨k_mr_19_3, (List.mem_cons_of_mem _ (List.mem_cons_of_mem _ (List.mem_cons_of_mem _ (List.mem_cons_of_mem _ List.mem_cons_self)))), (jc (by show (19 : Int) ≤ M 53 14; omega) (by show M 53 14 ≤ (19 : Int); omega) (jc (by show (1 : Int) ≤ M 53 15; omega) (by show M 53 15 ≤ (21 : Int); omega) (jc (by show (7 : Int) ≤ M 62 19; omega) (by show M 62 19 ≤ (7 : Int); omega) (jc (by show (0 : Int) ≤ M 63 19; omega) (by show M 63 19 ≤ (0 : Int); omega) (jc (by show (0 : Int) ≤ M 65 19; omega) (by show M 65 19 ≤ (29 : Int); omega) jn)))))⟩
theorem c_mr_19 (hL : L < 2 ^ 31) : ci L xs 162 k_mr_19 :=
  ci_j_ok (ms := [k_mr_19_e, k_mr_19_0, k_mr_19_1, k_mr_19_2, k_mr_19_3]) (jl_cons (c_mr_19_e hL) (jl_cons (c_mr_19_0 hL) (jl_cons (c_mr_19_1 hL) (jl_cons (c_mr_19_2 hL) (jl_cons (c_mr_19_3 hL) jl_nil))))) s_mr_19 (by decide +kernel)
def k_mr_20_e : ct_C := ([(2, .ofNat 53, .ofNat 53)], [(53, 14, .ofNat 20, .ofNat 20), (53, 15, .ofNat 0, .ofNat 0)], [], [], (some (0, .negSucc 4, .negSucc 4)), 1, false)
theorem c_mr_20_e (hL : L < 2 ^ 31) : ci L xs 162 k_mr_20_e :=
  mi_ok (fc := 9000) (f := 9000) (cuts := []) (xk := jx) cl_lok cl_hrf (cl_hro L xs) hL jx_ok (by decide +kernel)
def k_mr_20_0 : ct_C := ([(2, .ofNat 53, .ofNat 53)], [(53, 14, .ofNat 20, .ofNat 20), (53, 15, .ofNat 1, .ofNat 20), (62, 20, .ofNat 0, .ofNat 4), (63, 20, .ofNat 0, .ofNat 5), (65, 20, .negSucc 0, .ofNat 143)], [(53, 14, .ofNat 21, .ofNat 21), (53, 15, .ofNat 0, .ofNat 19)], [54, 55, 56, 57, 58], (some (0, .ofNat 0, .ofNat 19)), 2, false)
theorem c_mr_20_0 (hL : L < 2 ^ 31) : ci L xs 162 k_mr_20_0 :=
  mi_ok (fc := 9000) (f := 9000) (cuts := []) (xk := jx) cl_lok cl_hrf (cl_hro L xs) hL jx_ok (by decide +kernel)
def k_mr_20_1 : ct_C := ([(2, .ofNat 53, .ofNat 53)], [(53, 14, .ofNat 20, .ofNat 20), (53, 15, .ofNat 1, .ofNat 20), (62, 20, .ofNat 5, .ofNat 5), (63, 20, .ofNat 0, .ofNat 29), (65, 20, .negSucc 0, .ofNat 143)], [(53, 14, .ofNat 21, .ofNat 21), (53, 15, .ofNat 0, .ofNat 19)], [61], (some (0, .ofNat 0, .ofNat 19)), 2, false)
theorem c_mr_20_1 (hL : L < 2 ^ 31) : ci L xs 162 k_mr_20_1 :=
  mi_ok (fc := 9000) (f := 9000) (cuts := []) (xk := jx) cl_lok cl_hrf (cl_hro L xs) hL jx_ok (by decide +kernel)
def k_mr_20_2 : ct_C := ([(2, .ofNat 53, .ofNat 53)], [(53, 14, .ofNat 20, .ofNat 20), (53, 15, .ofNat 1, .ofNat 20), (62, 20, .ofNat 6, .ofNat 6), (63, 20, .ofNat 0, .ofNat 11), (65, 20, .negSucc 0, .ofNat 143)], [(53, 14, .ofNat 21, .ofNat 21), (53, 15, .ofNat 0, .ofNat 19)], [60], (some (0, .ofNat 0, .ofNat 19)), 2, false)
theorem c_mr_20_2 (hL : L < 2 ^ 31) : ci L xs 162 k_mr_20_2 :=
  mi_ok (fc := 9000) (f := 9000) (cuts := []) (xk := jx) cl_lok cl_hrf (cl_hro L xs) hL jx_ok (by decide +kernel)
def k_mr_20_3 : ct_C := ([(2, .ofNat 53, .ofNat 53)], [(53, 14, .ofNat 20, .ofNat 20), (53, 15, .ofNat 1, .ofNat 20), (62, 20, .ofNat 7, .ofNat 7), (63, 20, .ofNat 0, .ofNat 0), (65, 20, .ofNat 0, .ofNat 29)], [(53, 13, .ofNat 0, .ofNat 29), (53, 14, .ofNat 21, .ofNat 21), (53, 15, .ofNat 0, .ofNat 19)], [], (some (0, .ofNat 0, .ofNat 19)), 2, false)
theorem c_mr_20_3 (hL : L < 2 ^ 31) : ci L xs 162 k_mr_20_3 :=
  mi_ok (fc := 9000) (f := 9000) (cuts := []) (xk := jx) cl_lok cl_hrf (cl_hro L xs) hL jx_ok (by decide +kernel)
def k_mr_20 : ct_C := ([(2, .ofNat 53, .ofNat 53)], [(53, 14, .ofNat 20, .ofNat 20)], [(53, 13, .ofNat 0, .ofNat 29), (53, 14, .ofNat 0, .ofNat 40), (53, 15, .ofNat 0, .ofNat 40)], [54, 55, 56, 57, 58, 60, 61], (some (0, .negSucc 4, .ofNat 19)), 2, false)
theorem s_mr_20 (M : Nat → Nat → Int) (hm : sx_mok cl_ly M) (hJ : JJ M) (hg : ct_g k_mr_20.2.1 M) : ∃ m ∈ [k_mr_20_e, k_mr_20_0, k_mr_20_1, k_mr_20_2, k_mr_20_3], ct_g m.2.1 M := by
  have hv : M 53 14 = 20 := by
    have h := hg (53, 14, .ofNat 20, .ofNat 20) List.mem_cons_self
    exact Int.le_antisymm h.2 h.1
  have hk := jr_kn hm
  have hu := jr_un hm
  have hd := hJ.2.2.1
  have he := hJ.2.2.2
  by_cases h0 : M 53 15 = 0
  · exact ⟨k_mr_20_e, List.mem_cons_self, (jc (by show (20 : Int) ≤ M 53 14; omega) (by show M 53 14 ≤ (20 : Int); omega) (jc (by show (0 : Int) ≤ M 53 15; omega) (by show M 53 15 ≤ (0 : Int); omega) jn))⟩
  · have h8 : jp (M 62 20) (M 63 20) (M 64 20) (M 65 20) := hJ.2.1 20 (by decide)
    obtain ⟨⟨b1, b2, b3, b4⟩, h8⟩ := h8
    rcases h8 with h8 | h8 | h8 | h8
    · exact ⟨k_mr_20_0, (List.mem_cons_of_mem _ List.mem_cons_self), (jc (by show (20 : Int) ≤ M 53 14; omega) (by show M 53 14 ≤ (20 : Int); omega) (jc (by show (1 : Int) ≤ M 53 15; omega) (by show M 53 15 ≤ (20 : Int); omega) (jc (by show (0 : Int) ≤ M 62 20; omega) (by show M 62 20 ≤ (4 : Int); omega) (jc (by show (0 : Int) ≤ M 63 20; omega) (by show M 63 20 ≤ (5 : Int); omega) (jc (by show (-1 : Int) ≤ M 65 20; omega) (by show M 65 20 ≤ (143 : Int); omega) jn)))))⟩
    · exact ⟨k_mr_20_1, (List.mem_cons_of_mem _ (List.mem_cons_of_mem _ List.mem_cons_self)), (jc (by show (20 : Int) ≤ M 53 14; omega) (by show M 53 14 ≤ (20 : Int); omega) (jc (by show (1 : Int) ≤ M 53 15; omega) (by show M 53 15 ≤ (20 : Int); omega) (jc (by show (5 : Int) ≤ M 62 20; omega) (by show M 62 20 ≤ (5 : Int); omega) (jc (by show (0 : Int) ≤ M 63 20; omega) (by show M 63 20 ≤ (29 : Int); omega) (jc (by show (-1 : Int) ≤ M 65 20; omega) (by show M 65 20 ≤ (143 : Int); omega) jn)))))⟩
    · exact ⟨k_mr_20_2, (List.mem_cons_of_mem _ (List.mem_cons_of_mem _ (List.mem_cons_of_mem _ List.mem_cons_self))), (jc (by show (20 : Int) ≤ M 53 14; omega) (by show M 53 14 ≤ (20 : Int); omega) (jc (by show (1 : Int) ≤ M 53 15; omega) (by show M 53 15 ≤ (20 : Int); omega) (jc (by show (6 : Int) ≤ M 62 20; omega) (by show M 62 20 ≤ (6 : Int); omega) (jc (by show (0 : Int) ≤ M 63 20; omega) (by show M 63 20 ≤ (11 : Int); omega) (jc (by show (-1 : Int) ≤ M 65 20; omega) (by show M 65 20 ≤ (143 : Int); omega) jn)))))⟩
    · exact ⟨k_mr_20_3, (List.mem_cons_of_mem _ (List.mem_cons_of_mem _ (List.mem_cons_of_mem _ (List.mem_cons_of_mem _ List.mem_cons_self)))), (jc (by show (20 : Int) ≤ M 53 14; omega) (by show M 53 14 ≤ (20 : Int); omega) (jc (by show (1 : Int) ≤ M 53 15; omega) (by show M 53 15 ≤ (20 : Int); omega) (jc (by show (7 : Int) ≤ M 62 20; omega) (by show M 62 20 ≤ (7 : Int); omega) (jc (by show (0 : Int) ≤ M 63 20; omega) (by show M 63 20 ≤ (0 : Int); omega) (jc (by show (0 : Int) ≤ M 65 20; omega) (by show M 65 20 ≤ (29 : Int); omega) jn)))))⟩
theorem c_mr_20 (hL : L < 2 ^ 31) : ci L xs 162 k_mr_20 :=
  ci_j_ok (ms := [k_mr_20_e, k_mr_20_0, k_mr_20_1, k_mr_20_2, k_mr_20_3]) (jl_cons (c_mr_20_e hL) (jl_cons (c_mr_20_0 hL) (jl_cons (c_mr_20_1 hL) (jl_cons (c_mr_20_2 hL) (jl_cons (c_mr_20_3 hL) jl_nil))))) s_mr_20 (by decide +kernel)
def k_mr_21_e : ct_C := ([(2, .ofNat 53, .ofNat 53)], [(53, 14, .ofNat 21, .ofNat 21), (53, 15, .ofNat 0, .ofNat 0)], [], [], (some (0, .negSucc 4, .negSucc 4)), 1, false)
theorem c_mr_21_e (hL : L < 2 ^ 31) : ci L xs 162 k_mr_21_e :=
  mi_ok (fc := 9000) (f := 9000) (cuts := []) (xk := jx) cl_lok cl_hrf (cl_hro L xs) hL jx_ok (by decide +kernel)
def k_mr_21_0 : ct_C := ([(2, .ofNat 53, .ofNat 53)], [(53, 14, .ofNat 21, .ofNat 21), (53, 15, .ofNat 1, .ofNat 19), (62, 21, .ofNat 0, .ofNat 4), (63, 21, .ofNat 0, .ofNat 5), (65, 21, .negSucc 0, .ofNat 143)], [(53, 14, .ofNat 22, .ofNat 22), (53, 15, .ofNat 0, .ofNat 18)], [54, 55, 56, 57, 58], (some (0, .ofNat 0, .ofNat 18)), 2, false)
theorem c_mr_21_0 (hL : L < 2 ^ 31) : ci L xs 162 k_mr_21_0 :=
  mi_ok (fc := 9000) (f := 9000) (cuts := []) (xk := jx) cl_lok cl_hrf (cl_hro L xs) hL jx_ok (by decide +kernel)
def k_mr_21_1 : ct_C := ([(2, .ofNat 53, .ofNat 53)], [(53, 14, .ofNat 21, .ofNat 21), (53, 15, .ofNat 1, .ofNat 19), (62, 21, .ofNat 5, .ofNat 5), (63, 21, .ofNat 0, .ofNat 29), (65, 21, .negSucc 0, .ofNat 143)], [(53, 14, .ofNat 22, .ofNat 22), (53, 15, .ofNat 0, .ofNat 18)], [61], (some (0, .ofNat 0, .ofNat 18)), 2, false)
theorem c_mr_21_1 (hL : L < 2 ^ 31) : ci L xs 162 k_mr_21_1 :=
  mi_ok (fc := 9000) (f := 9000) (cuts := []) (xk := jx) cl_lok cl_hrf (cl_hro L xs) hL jx_ok (by decide +kernel)
def k_mr_21_2 : ct_C := ([(2, .ofNat 53, .ofNat 53)], [(53, 14, .ofNat 21, .ofNat 21), (53, 15, .ofNat 1, .ofNat 19), (62, 21, .ofNat 6, .ofNat 6), (63, 21, .ofNat 0, .ofNat 11), (65, 21, .negSucc 0, .ofNat 143)], [(53, 14, .ofNat 22, .ofNat 22), (53, 15, .ofNat 0, .ofNat 18)], [60], (some (0, .ofNat 0, .ofNat 18)), 2, false)
theorem c_mr_21_2 (hL : L < 2 ^ 31) : ci L xs 162 k_mr_21_2 :=
  mi_ok (fc := 9000) (f := 9000) (cuts := []) (xk := jx) cl_lok cl_hrf (cl_hro L xs) hL jx_ok (by decide +kernel)
def k_mr_21_3 : ct_C := ([(2, .ofNat 53, .ofNat 53)], [(53, 14, .ofNat 21, .ofNat 21), (53, 15, .ofNat 1, .ofNat 19), (62, 21, .ofNat 7, .ofNat 7), (63, 21, .ofNat 0, .ofNat 0), (65, 21, .ofNat 0, .ofNat 29)], [(53, 13, .ofNat 0, .ofNat 29), (53, 14, .ofNat 22, .ofNat 22), (53, 15, .ofNat 0, .ofNat 18)], [], (some (0, .ofNat 0, .ofNat 18)), 2, false)
theorem c_mr_21_3 (hL : L < 2 ^ 31) : ci L xs 162 k_mr_21_3 :=
  mi_ok (fc := 9000) (f := 9000) (cuts := []) (xk := jx) cl_lok cl_hrf (cl_hro L xs) hL jx_ok (by decide +kernel)
def k_mr_21 : ct_C := ([(2, .ofNat 53, .ofNat 53)], [(53, 14, .ofNat 21, .ofNat 21)], [(53, 13, .ofNat 0, .ofNat 29), (53, 14, .ofNat 0, .ofNat 40), (53, 15, .ofNat 0, .ofNat 40)], [54, 55, 56, 57, 58, 60, 61], (some (0, .negSucc 4, .ofNat 18)), 2, false)
theorem s_mr_21 (M : Nat → Nat → Int) (hm : sx_mok cl_ly M) (hJ : JJ M) (hg : ct_g k_mr_21.2.1 M) : ∃ m ∈ [k_mr_21_e, k_mr_21_0, k_mr_21_1, k_mr_21_2, k_mr_21_3], ct_g m.2.1 M := by
  have hv : M 53 14 = 21 := by
    have h := hg (53, 14, .ofNat 21, .ofNat 21) List.mem_cons_self
    exact Int.le_antisymm h.2 h.1
  have hk := jr_kn hm
  have hu := jr_un hm
  have hd := hJ.2.2.1
  have he := hJ.2.2.2
  by_cases h0 : M 53 15 = 0
  · exact ⟨k_mr_21_e, List.mem_cons_self, (jc (by show (21 : Int) ≤ M 53 14; omega) (by show M 53 14 ≤ (21 : Int); omega) (jc (by show (0 : Int) ≤ M 53 15; omega) (by show M 53 15 ≤ (0 : Int); omega) jn))⟩
  · have h8 : jp (M 62 21) (M 63 21) (M 64 21) (M 65 21) := hJ.2.1 21 (by decide)
    obtain ⟨⟨b1, b2, b3, b4⟩, h8⟩ := h8
    rcases h8 with h8 | h8 | h8 | h8
    · exact ⟨k_mr_21_0, (List.mem_cons_of_mem _ List.mem_cons_self), (jc (by show (21 : Int) ≤ M 53 14; omega) (by show M 53 14 ≤ (21 : Int); omega) (jc (by show (1 : Int) ≤ M 53 15; omega) (by show M 53 15 ≤ (19 : Int); omega) (jc (by show (0 : Int) ≤ M 62 21; omega) (by show M 62 21 ≤ (4 : Int); omega) (jc (by show (0 : Int) ≤ M 63 21; omega) (by show M 63 21 ≤ (5 : Int); omega) (jc (by show (-1 : Int) ≤ M 65 21; omega) (by show M 65 21 ≤ (143 : Int); omega) jn)))))⟩
    · exact ⟨k_mr_21_1, (List.mem_cons_of_mem _ (List.mem_cons_of_mem _ List.mem_cons_self)), (jc (by show (21 : Int) ≤ M 53 14; omega) (by show M 53 14 ≤ (21 : Int); omega) (jc (by show (1 : Int) ≤ M 53 15; omega) (by show M 53 15 ≤ (19 : Int); omega) (jc (by show (5 : Int) ≤ M 62 21; omega) (by show M 62 21 ≤ (5 : Int); omega) (jc (by show (0 : Int) ≤ M 63 21; omega) (by show M 63 21 ≤ (29 : Int); omega) (jc (by show (-1 : Int) ≤ M 65 21; omega) (by show M 65 21 ≤ (143 : Int); omega) jn)))))⟩
    · exact ⟨k_mr_21_2, (List.mem_cons_of_mem _ (List.mem_cons_of_mem _ (List.mem_cons_of_mem _ List.mem_cons_self))), (jc (by show (21 : Int) ≤ M 53 14; omega) (by show M 53 14 ≤ (21 : Int); omega) (jc (by show (1 : Int) ≤ M 53 15; omega) (by show M 53 15 ≤ (19 : Int); omega) (jc (by show (6 : Int) ≤ M 62 21; omega) (by show M 62 21 ≤ (6 : Int); omega) (jc (by show (0 : Int) ≤ M 63 21; omega) (by show M 63 21 ≤ (11 : Int); omega) (jc (by show (-1 : Int) ≤ M 65 21; omega) (by show M 65 21 ≤ (143 : Int); omega) jn)))))⟩
    · exact ⟨k_mr_21_3, (List.mem_cons_of_mem _ (List.mem_cons_of_mem _ (List.mem_cons_of_mem _ (List.mem_cons_of_mem _ List.mem_cons_self)))), (jc (by show (21 : Int) ≤ M 53 14; omega) (by show M 53 14 ≤ (21 : Int); omega) (jc (by show (1 : Int) ≤ M 53 15; omega) (by show M 53 15 ≤ (19 : Int); omega) (jc (by show (7 : Int) ≤ M 62 21; omega) (by show M 62 21 ≤ (7 : Int); omega) (jc (by show (0 : Int) ≤ M 63 21; omega) (by show M 63 21 ≤ (0 : Int); omega) (jc (by show (0 : Int) ≤ M 65 21; omega) (by show M 65 21 ≤ (29 : Int); omega) jn)))))⟩
theorem c_mr_21 (hL : L < 2 ^ 31) : ci L xs 162 k_mr_21 :=
  ci_j_ok (ms := [k_mr_21_e, k_mr_21_0, k_mr_21_1, k_mr_21_2, k_mr_21_3]) (jl_cons (c_mr_21_e hL) (jl_cons (c_mr_21_0 hL) (jl_cons (c_mr_21_1 hL) (jl_cons (c_mr_21_2 hL) (jl_cons (c_mr_21_3 hL) jl_nil))))) s_mr_21 (by decide +kernel)
def k_mr_22_e : ct_C := ([(2, .ofNat 53, .ofNat 53)], [(53, 14, .ofNat 22, .ofNat 22), (53, 15, .ofNat 0, .ofNat 0)], [], [], (some (0, .negSucc 4, .negSucc 4)), 1, false)
theorem c_mr_22_e (hL : L < 2 ^ 31) : ci L xs 162 k_mr_22_e :=
  mi_ok (fc := 9000) (f := 9000) (cuts := []) (xk := jx) cl_lok cl_hrf (cl_hro L xs) hL jx_ok (by decide +kernel)
def k_mr_22_0 : ct_C := ([(2, .ofNat 53, .ofNat 53)], [(53, 14, .ofNat 22, .ofNat 22), (53, 15, .ofNat 1, .ofNat 18), (62, 22, .ofNat 0, .ofNat 4), (63, 22, .ofNat 0, .ofNat 5), (65, 22, .negSucc 0, .ofNat 143)], [(53, 14, .ofNat 23, .ofNat 23), (53, 15, .ofNat 0, .ofNat 17)], [54, 55, 56, 57, 58], (some (0, .ofNat 0, .ofNat 17)), 2, false)
theorem c_mr_22_0 (hL : L < 2 ^ 31) : ci L xs 162 k_mr_22_0 :=
  mi_ok (fc := 9000) (f := 9000) (cuts := []) (xk := jx) cl_lok cl_hrf (cl_hro L xs) hL jx_ok (by decide +kernel)
def k_mr_22_1 : ct_C := ([(2, .ofNat 53, .ofNat 53)], [(53, 14, .ofNat 22, .ofNat 22), (53, 15, .ofNat 1, .ofNat 18), (62, 22, .ofNat 5, .ofNat 5), (63, 22, .ofNat 0, .ofNat 29), (65, 22, .negSucc 0, .ofNat 143)], [(53, 14, .ofNat 23, .ofNat 23), (53, 15, .ofNat 0, .ofNat 17)], [61], (some (0, .ofNat 0, .ofNat 17)), 2, false)
theorem c_mr_22_1 (hL : L < 2 ^ 31) : ci L xs 162 k_mr_22_1 :=
  mi_ok (fc := 9000) (f := 9000) (cuts := []) (xk := jx) cl_lok cl_hrf (cl_hro L xs) hL jx_ok (by decide +kernel)
def k_mr_22_2 : ct_C := ([(2, .ofNat 53, .ofNat 53)], [(53, 14, .ofNat 22, .ofNat 22), (53, 15, .ofNat 1, .ofNat 18), (62, 22, .ofNat 6, .ofNat 6), (63, 22, .ofNat 0, .ofNat 11), (65, 22, .negSucc 0, .ofNat 143)], [(53, 14, .ofNat 23, .ofNat 23), (53, 15, .ofNat 0, .ofNat 17)], [60], (some (0, .ofNat 0, .ofNat 17)), 2, false)
theorem c_mr_22_2 (hL : L < 2 ^ 31) : ci L xs 162 k_mr_22_2 :=
  mi_ok (fc := 9000) (f := 9000) (cuts := []) (xk := jx) cl_lok cl_hrf (cl_hro L xs) hL jx_ok (by decide +kernel)
def k_mr_22_3 : ct_C := ([(2, .ofNat 53, .ofNat 53)], [(53, 14, .ofNat 22, .ofNat 22), (53, 15, .ofNat 1, .ofNat 18), (62, 22, .ofNat 7, .ofNat 7), (63, 22, .ofNat 0, .ofNat 0), (65, 22, .ofNat 0, .ofNat 29)], [(53, 13, .ofNat 0, .ofNat 29), (53, 14, .ofNat 23, .ofNat 23), (53, 15, .ofNat 0, .ofNat 17)], [], (some (0, .ofNat 0, .ofNat 17)), 2, false)
theorem c_mr_22_3 (hL : L < 2 ^ 31) : ci L xs 162 k_mr_22_3 :=
  mi_ok (fc := 9000) (f := 9000) (cuts := []) (xk := jx) cl_lok cl_hrf (cl_hro L xs) hL jx_ok (by decide +kernel)
def k_mr_22 : ct_C := ([(2, .ofNat 53, .ofNat 53)], [(53, 14, .ofNat 22, .ofNat 22)], [(53, 13, .ofNat 0, .ofNat 29), (53, 14, .ofNat 0, .ofNat 40), (53, 15, .ofNat 0, .ofNat 40)], [54, 55, 56, 57, 58, 60, 61], (some (0, .negSucc 4, .ofNat 17)), 2, false)
theorem s_mr_22 (M : Nat → Nat → Int) (hm : sx_mok cl_ly M) (hJ : JJ M) (hg : ct_g k_mr_22.2.1 M) : ∃ m ∈ [k_mr_22_e, k_mr_22_0, k_mr_22_1, k_mr_22_2, k_mr_22_3], ct_g m.2.1 M := by
  have hv : M 53 14 = 22 := by
    have h := hg (53, 14, .ofNat 22, .ofNat 22) List.mem_cons_self
    exact Int.le_antisymm h.2 h.1
  have hk := jr_kn hm
  have hu := jr_un hm
  have hd := hJ.2.2.1
  have he := hJ.2.2.2
  by_cases h0 : M 53 15 = 0
  · exact ⟨k_mr_22_e, List.mem_cons_self, (jc (by show (22 : Int) ≤ M 53 14; omega) (by show M 53 14 ≤ (22 : Int); omega) (jc (by show (0 : Int) ≤ M 53 15; omega) (by show M 53 15 ≤ (0 : Int); omega) jn))⟩
  · have h8 : jp (M 62 22) (M 63 22) (M 64 22) (M 65 22) := hJ.2.1 22 (by decide)
    obtain ⟨⟨b1, b2, b3, b4⟩, h8⟩ := h8
    rcases h8 with h8 | h8 | h8 | h8
    · exact ⟨k_mr_22_0, (List.mem_cons_of_mem _ List.mem_cons_self), (jc (by show (22 : Int) ≤ M 53 14; omega) (by show M 53 14 ≤ (22 : Int); omega) (jc (by show (1 : Int) ≤ M 53 15; omega) (by show M 53 15 ≤ (18 : Int); omega) (jc (by show (0 : Int) ≤ M 62 22; omega) (by show M 62 22 ≤ (4 : Int); omega) (jc (by show (0 : Int) ≤ M 63 22; omega) (by show M 63 22 ≤ (5 : Int); omega) (jc (by show (-1 : Int) ≤ M 65 22; omega) (by show M 65 22 ≤ (143 : Int); omega) jn)))))⟩
    · exact ⟨k_mr_22_1, (List.mem_cons_of_mem _ (List.mem_cons_of_mem _ List.mem_cons_self)), (jc (by show (22 : Int) ≤ M 53 14; omega) (by show M 53 14 ≤ (22 : Int); omega) (jc (by show (1 : Int) ≤ M 53 15; omega) (by show M 53 15 ≤ (18 : Int); omega) (jc (by show (5 : Int) ≤ M 62 22; omega) (by show M 62 22 ≤ (5 : Int); omega) (jc (by show (0 : Int) ≤ M 63 22; omega) (by show M 63 22 ≤ (29 : Int); omega) (jc (by show (-1 : Int) ≤ M 65 22; omega) (by show M 65 22 ≤ (143 : Int); omega) jn)))))⟩
    · exact ⟨k_mr_22_2, (List.mem_cons_of_mem _ (List.mem_cons_of_mem _ (List.mem_cons_of_mem _ List.mem_cons_self))), (jc (by show (22 : Int) ≤ M 53 14; omega) (by show M 53 14 ≤ (22 : Int); omega) (jc (by show (1 : Int) ≤ M 53 15; omega) (by show M 53 15 ≤ (18 : Int); omega) (jc (by show (6 : Int) ≤ M 62 22; omega) (by show M 62 22 ≤ (6 : Int); omega) (jc (by show (0 : Int) ≤ M 63 22; omega) (by show M 63 22 ≤ (11 : Int); omega) (jc (by show (-1 : Int) ≤ M 65 22; omega) (by show M 65 22 ≤ (143 : Int); omega) jn)))))⟩
    · exact ⟨k_mr_22_3, (List.mem_cons_of_mem _ (List.mem_cons_of_mem _ (List.mem_cons_of_mem _ (List.mem_cons_of_mem _ List.mem_cons_self)))), (jc (by show (22 : Int) ≤ M 53 14; omega) (by show M 53 14 ≤ (22 : Int); omega) (jc (by show (1 : Int) ≤ M 53 15; omega) (by show M 53 15 ≤ (18 : Int); omega) (jc (by show (7 : Int) ≤ M 62 22; omega) (by show M 62 22 ≤ (7 : Int); omega) (jc (by show (0 : Int) ≤ M 63 22; omega) (by show M 63 22 ≤ (0 : Int); omega) (jc (by show (0 : Int) ≤ M 65 22; omega) (by show M 65 22 ≤ (29 : Int); omega) jn)))))⟩
theorem c_mr_22 (hL : L < 2 ^ 31) : ci L xs 162 k_mr_22 :=
  ci_j_ok (ms := [k_mr_22_e, k_mr_22_0, k_mr_22_1, k_mr_22_2, k_mr_22_3]) (jl_cons (c_mr_22_e hL) (jl_cons (c_mr_22_0 hL) (jl_cons (c_mr_22_1 hL) (jl_cons (c_mr_22_2 hL) (jl_cons (c_mr_22_3 hL) jl_nil))))) s_mr_22 (by decide +kernel)
def k_mr_23_e : ct_C := ([(2, .ofNat 53, .ofNat 53)], [(53, 14, .ofNat 23, .ofNat 23), (53, 15, .ofNat 0, .ofNat 0)], [], [], (some (0, .negSucc 4, .negSucc 4)), 1, false)
theorem c_mr_23_e (hL : L < 2 ^ 31) : ci L xs 162 k_mr_23_e :=
  mi_ok (fc := 9000) (f := 9000) (cuts := []) (xk := jx) cl_lok cl_hrf (cl_hro L xs) hL jx_ok (by decide +kernel)
def k_mr_23_0 : ct_C := ([(2, .ofNat 53, .ofNat 53)], [(53, 14, .ofNat 23, .ofNat 23), (53, 15, .ofNat 1, .ofNat 17), (62, 23, .ofNat 0, .ofNat 4), (63, 23, .ofNat 0, .ofNat 5), (65, 23, .negSucc 0, .ofNat 143)], [(53, 14, .ofNat 24, .ofNat 24), (53, 15, .ofNat 0, .ofNat 16)], [54, 55, 56, 57, 58], (some (0, .ofNat 0, .ofNat 16)), 2, false)
theorem c_mr_23_0 (hL : L < 2 ^ 31) : ci L xs 162 k_mr_23_0 :=
  mi_ok (fc := 9000) (f := 9000) (cuts := []) (xk := jx) cl_lok cl_hrf (cl_hro L xs) hL jx_ok (by decide +kernel)
def k_mr_23_1 : ct_C := ([(2, .ofNat 53, .ofNat 53)], [(53, 14, .ofNat 23, .ofNat 23), (53, 15, .ofNat 1, .ofNat 17), (62, 23, .ofNat 5, .ofNat 5), (63, 23, .ofNat 0, .ofNat 29), (65, 23, .negSucc 0, .ofNat 143)], [(53, 14, .ofNat 24, .ofNat 24), (53, 15, .ofNat 0, .ofNat 16)], [61], (some (0, .ofNat 0, .ofNat 16)), 2, false)
theorem c_mr_23_1 (hL : L < 2 ^ 31) : ci L xs 162 k_mr_23_1 :=
  mi_ok (fc := 9000) (f := 9000) (cuts := []) (xk := jx) cl_lok cl_hrf (cl_hro L xs) hL jx_ok (by decide +kernel)
def k_mr_23_2 : ct_C := ([(2, .ofNat 53, .ofNat 53)], [(53, 14, .ofNat 23, .ofNat 23), (53, 15, .ofNat 1, .ofNat 17), (62, 23, .ofNat 6, .ofNat 6), (63, 23, .ofNat 0, .ofNat 11), (65, 23, .negSucc 0, .ofNat 143)], [(53, 14, .ofNat 24, .ofNat 24), (53, 15, .ofNat 0, .ofNat 16)], [60], (some (0, .ofNat 0, .ofNat 16)), 2, false)
theorem c_mr_23_2 (hL : L < 2 ^ 31) : ci L xs 162 k_mr_23_2 :=
  mi_ok (fc := 9000) (f := 9000) (cuts := []) (xk := jx) cl_lok cl_hrf (cl_hro L xs) hL jx_ok (by decide +kernel)
def k_mr_23_3 : ct_C := ([(2, .ofNat 53, .ofNat 53)], [(53, 14, .ofNat 23, .ofNat 23), (53, 15, .ofNat 1, .ofNat 17), (62, 23, .ofNat 7, .ofNat 7), (63, 23, .ofNat 0, .ofNat 0), (65, 23, .ofNat 0, .ofNat 29)], [(53, 13, .ofNat 0, .ofNat 29), (53, 14, .ofNat 24, .ofNat 24), (53, 15, .ofNat 0, .ofNat 16)], [], (some (0, .ofNat 0, .ofNat 16)), 2, false)
theorem c_mr_23_3 (hL : L < 2 ^ 31) : ci L xs 162 k_mr_23_3 :=
  mi_ok (fc := 9000) (f := 9000) (cuts := []) (xk := jx) cl_lok cl_hrf (cl_hro L xs) hL jx_ok (by decide +kernel)
def k_mr_23 : ct_C := ([(2, .ofNat 53, .ofNat 53)], [(53, 14, .ofNat 23, .ofNat 23)], [(53, 13, .ofNat 0, .ofNat 29), (53, 14, .ofNat 0, .ofNat 40), (53, 15, .ofNat 0, .ofNat 40)], [54, 55, 56, 57, 58, 60, 61], (some (0, .negSucc 4, .ofNat 16)), 2, false)
theorem s_mr_23 (M : Nat → Nat → Int) (hm : sx_mok cl_ly M) (hJ : JJ M) (hg : ct_g k_mr_23.2.1 M) : ∃ m ∈ [k_mr_23_e, k_mr_23_0, k_mr_23_1, k_mr_23_2, k_mr_23_3], ct_g m.2.1 M := by
  have hv : M 53 14 = 23 := by
    have h := hg (53, 14, .ofNat 23, .ofNat 23) List.mem_cons_self
    exact Int.le_antisymm h.2 h.1
  have hk := jr_kn hm
  have hu := jr_un hm
  have hd := hJ.2.2.1
  have he := hJ.2.2.2
  by_cases h0 : M 53 15 = 0
  · exact ⟨k_mr_23_e, List.mem_cons_self, (jc (by show (23 : Int) ≤ M 53 14; omega) (by show M 53 14 ≤ (23 : Int); omega) (jc (by show (0 : Int) ≤ M 53 15; omega) (by show M 53 15 ≤ (0 : Int); omega) jn))⟩
  · have h8 : jp (M 62 23) (M 63 23) (M 64 23) (M 65 23) := hJ.2.1 23 (by decide)
    obtain ⟨⟨b1, b2, b3, b4⟩, h8⟩ := h8
    rcases h8 with h8 | h8 | h8 | h8
    · exact ⟨k_mr_23_0, (List.mem_cons_of_mem _ List.mem_cons_self), (jc (by show (23 : Int) ≤ M 53 14; omega) (by show M 53 14 ≤ (23 : Int); omega) (jc (by show (1 : Int) ≤ M 53 15; omega) (by show M 53 15 ≤ (17 : Int); omega) (jc (by show (0 : Int) ≤ M 62 23; omega) (by show M 62 23 ≤ (4 : Int); omega) (jc (by show (0 : Int) ≤ M 63 23; omega) (by show M 63 23 ≤ (5 : Int); omega) (jc (by show (-1 : Int) ≤ M 65 23; omega) (by show M 65 23 ≤ (143 : Int); omega) jn)))))⟩
    · exact ⟨k_mr_23_1, (List.mem_cons_of_mem _ (List.mem_cons_of_mem _ List.mem_cons_self)), (jc (by show (23 : Int) ≤ M 53 14; omega) (by show M 53 14 ≤ (23 : Int); omega) (jc (by show (1 : Int) ≤ M 53 15; omega) (by show M 53 15 ≤ (17 : Int); omega) (jc (by show (5 : Int) ≤ M 62 23; omega) (by show M 62 23 ≤ (5 : Int); omega) (jc (by show (0 : Int) ≤ M 63 23; omega) (by show M 63 23 ≤ (29 : Int); omega) (jc (by show (-1 : Int) ≤ M 65 23; omega) (by show M 65 23 ≤ (143 : Int); omega) jn)))))⟩
    · exact ⟨k_mr_23_2, (List.mem_cons_of_mem _ (List.mem_cons_of_mem _ (List.mem_cons_of_mem _ List.mem_cons_self))), (jc (by show (23 : Int) ≤ M 53 14; omega) (by show M 53 14 ≤ (23 : Int); omega) (jc (by show (1 : Int) ≤ M 53 15; omega) (by show M 53 15 ≤ (17 : Int); omega) (jc (by show (6 : Int) ≤ M 62 23; omega) (by show M 62 23 ≤ (6 : Int); omega) (jc (by show (0 : Int) ≤ M 63 23; omega) (by show M 63 23 ≤ (11 : Int); omega) (jc (by show (-1 : Int) ≤ M 65 23; omega) (by show M 65 23 ≤ (143 : Int); omega) jn)))))⟩
    · exact ⟨k_mr_23_3, (List.mem_cons_of_mem _ (List.mem_cons_of_mem _ (List.mem_cons_of_mem _ (List.mem_cons_of_mem _ List.mem_cons_self)))), (jc (by show (23 : Int) ≤ M 53 14; omega) (by show M 53 14 ≤ (23 : Int); omega) (jc (by show (1 : Int) ≤ M 53 15; omega) (by show M 53 15 ≤ (17 : Int); omega) (jc (by show (7 : Int) ≤ M 62 23; omega) (by show M 62 23 ≤ (7 : Int); omega) (jc (by show (0 : Int) ≤ M 63 23; omega) (by show M 63 23 ≤ (0 : Int); omega) (jc (by show (0 : Int) ≤ M 65 23; omega) (by show M 65 23 ≤ (29 : Int); omega) jn)))))⟩
theorem c_mr_23 (hL : L < 2 ^ 31) : ci L xs 162 k_mr_23 :=
  ci_j_ok (ms := [k_mr_23_e, k_mr_23_0, k_mr_23_1, k_mr_23_2, k_mr_23_3]) (jl_cons (c_mr_23_e hL) (jl_cons (c_mr_23_0 hL) (jl_cons (c_mr_23_1 hL) (jl_cons (c_mr_23_2 hL) (jl_cons (c_mr_23_3 hL) jl_nil))))) s_mr_23 (by decide +kernel)
def k_mr_24_e : ct_C := ([(2, .ofNat 53, .ofNat 53)], [(53, 14, .ofNat 24, .ofNat 24), (53, 15, .ofNat 0, .ofNat 0)], [], [], (some (0, .negSucc 4, .negSucc 4)), 1, false)
theorem c_mr_24_e (hL : L < 2 ^ 31) : ci L xs 162 k_mr_24_e :=
  mi_ok (fc := 9000) (f := 9000) (cuts := []) (xk := jx) cl_lok cl_hrf (cl_hro L xs) hL jx_ok (by decide +kernel)
def k_mr_24_0 : ct_C := ([(2, .ofNat 53, .ofNat 53)], [(53, 14, .ofNat 24, .ofNat 24), (53, 15, .ofNat 1, .ofNat 16), (62, 24, .ofNat 0, .ofNat 4), (63, 24, .ofNat 0, .ofNat 5), (65, 24, .negSucc 0, .ofNat 143)], [(53, 14, .ofNat 25, .ofNat 25), (53, 15, .ofNat 0, .ofNat 15)], [54, 55, 56, 57, 58], (some (0, .ofNat 0, .ofNat 15)), 2, false)
theorem c_mr_24_0 (hL : L < 2 ^ 31) : ci L xs 162 k_mr_24_0 :=
  mi_ok (fc := 9000) (f := 9000) (cuts := []) (xk := jx) cl_lok cl_hrf (cl_hro L xs) hL jx_ok (by decide +kernel)
def k_mr_24_1 : ct_C := ([(2, .ofNat 53, .ofNat 53)], [(53, 14, .ofNat 24, .ofNat 24), (53, 15, .ofNat 1, .ofNat 16), (62, 24, .ofNat 5, .ofNat 5), (63, 24, .ofNat 0, .ofNat 29), (65, 24, .negSucc 0, .ofNat 143)], [(53, 14, .ofNat 25, .ofNat 25), (53, 15, .ofNat 0, .ofNat 15)], [61], (some (0, .ofNat 0, .ofNat 15)), 2, false)
theorem c_mr_24_1 (hL : L < 2 ^ 31) : ci L xs 162 k_mr_24_1 :=
  mi_ok (fc := 9000) (f := 9000) (cuts := []) (xk := jx) cl_lok cl_hrf (cl_hro L xs) hL jx_ok (by decide +kernel)
def k_mr_24_2 : ct_C := ([(2, .ofNat 53, .ofNat 53)], [(53, 14, .ofNat 24, .ofNat 24), (53, 15, .ofNat 1, .ofNat 16), (62, 24, .ofNat 6, .ofNat 6), (63, 24, .ofNat 0, .ofNat 11), (65, 24, .negSucc 0, .ofNat 143)], [(53, 14, .ofNat 25, .ofNat 25), (53, 15, .ofNat 0, .ofNat 15)], [60], (some (0, .ofNat 0, .ofNat 15)), 2, false)
theorem c_mr_24_2 (hL : L < 2 ^ 31) : ci L xs 162 k_mr_24_2 :=
  mi_ok (fc := 9000) (f := 9000) (cuts := []) (xk := jx) cl_lok cl_hrf (cl_hro L xs) hL jx_ok (by decide +kernel)
def k_mr_24_3 : ct_C := ([(2, .ofNat 53, .ofNat 53)], [(53, 14, .ofNat 24, .ofNat 24), (53, 15, .ofNat 1, .ofNat 16), (62, 24, .ofNat 7, .ofNat 7), (63, 24, .ofNat 0, .ofNat 0), (65, 24, .ofNat 0, .ofNat 29)], [(53, 13, .ofNat 0, .ofNat 29), (53, 14, .ofNat 25, .ofNat 25), (53, 15, .ofNat 0, .ofNat 15)], [], (some (0, .ofNat 0, .ofNat 15)), 2, false)
theorem c_mr_24_3 (hL : L < 2 ^ 31) : ci L xs 162 k_mr_24_3 :=
  mi_ok (fc := 9000) (f := 9000) (cuts := []) (xk := jx) cl_lok cl_hrf (cl_hro L xs) hL jx_ok (by decide +kernel)
def k_mr_24 : ct_C := ([(2, .ofNat 53, .ofNat 53)], [(53, 14, .ofNat 24, .ofNat 24)], [(53, 13, .ofNat 0, .ofNat 29), (53, 14, .ofNat 0, .ofNat 40), (53, 15, .ofNat 0, .ofNat 40)], [54, 55, 56, 57, 58, 60, 61], (some (0, .negSucc 4, .ofNat 15)), 2, false)
theorem s_mr_24 (M : Nat → Nat → Int) (hm : sx_mok cl_ly M) (hJ : JJ M) (hg : ct_g k_mr_24.2.1 M) : ∃ m ∈ [k_mr_24_e, k_mr_24_0, k_mr_24_1, k_mr_24_2, k_mr_24_3], ct_g m.2.1 M := by
  have hv : M 53 14 = 24 := by
    have h := hg (53, 14, .ofNat 24, .ofNat 24) List.mem_cons_self
    exact Int.le_antisymm h.2 h.1
  have hk := jr_kn hm
  have hu := jr_un hm
  have hd := hJ.2.2.1
  have he := hJ.2.2.2
  by_cases h0 : M 53 15 = 0
  · exact ⟨k_mr_24_e, List.mem_cons_self, (jc (by show (24 : Int) ≤ M 53 14; omega) (by show M 53 14 ≤ (24 : Int); omega) (jc (by show (0 : Int) ≤ M 53 15; omega) (by show M 53 15 ≤ (0 : Int); omega) jn))⟩
  · have h8 : jp (M 62 24) (M 63 24) (M 64 24) (M 65 24) := hJ.2.1 24 (by decide)
    obtain ⟨⟨b1, b2, b3, b4⟩, h8⟩ := h8
    rcases h8 with h8 | h8 | h8 | h8
    · exact ⟨k_mr_24_0, (List.mem_cons_of_mem _ List.mem_cons_self), (jc (by show (24 : Int) ≤ M 53 14; omega) (by show M 53 14 ≤ (24 : Int); omega) (jc (by show (1 : Int) ≤ M 53 15; omega) (by show M 53 15 ≤ (16 : Int); omega) (jc (by show (0 : Int) ≤ M 62 24; omega) (by show M 62 24 ≤ (4 : Int); omega) (jc (by show (0 : Int) ≤ M 63 24; omega) (by show M 63 24 ≤ (5 : Int); omega) (jc (by show (-1 : Int) ≤ M 65 24; omega) (by show M 65 24 ≤ (143 : Int); omega) jn)))))⟩
    · exact ⟨k_mr_24_1, (List.mem_cons_of_mem _ (List.mem_cons_of_mem _ List.mem_cons_self)), (jc (by show (24 : Int) ≤ M 53 14; omega) (by show M 53 14 ≤ (24 : Int); omega) (jc (by show (1 : Int) ≤ M 53 15; omega) (by show M 53 15 ≤ (16 : Int); omega) (jc (by show (5 : Int) ≤ M 62 24; omega) (by show M 62 24 ≤ (5 : Int); omega) (jc (by show (0 : Int) ≤ M 63 24; omega) (by show M 63 24 ≤ (29 : Int); omega) (jc (by show (-1 : Int) ≤ M 65 24; omega) (by show M 65 24 ≤ (143 : Int); omega) jn)))))⟩
    · exact ⟨k_mr_24_2, (List.mem_cons_of_mem _ (List.mem_cons_of_mem _ (List.mem_cons_of_mem _ List.mem_cons_self))), (jc (by show (24 : Int) ≤ M 53 14; omega) (by show M 53 14 ≤ (24 : Int); omega) (jc (by show (1 : Int) ≤ M 53 15; omega) (by show M 53 15 ≤ (16 : Int); omega) (jc (by show (6 : Int) ≤ M 62 24; omega) (by show M 62 24 ≤ (6 : Int); omega) (jc (by show (0 : Int) ≤ M 63 24; omega) (by show M 63 24 ≤ (11 : Int); omega) (jc (by show (-1 : Int) ≤ M 65 24; omega) (by show M 65 24 ≤ (143 : Int); omega) jn)))))⟩
    · exact ⟨k_mr_24_3, (List.mem_cons_of_mem _ (List.mem_cons_of_mem _ (List.mem_cons_of_mem _ (List.mem_cons_of_mem _ List.mem_cons_self)))), (jc (by show (24 : Int) ≤ M 53 14; omega) (by show M 53 14 ≤ (24 : Int); omega) (jc (by show (1 : Int) ≤ M 53 15; omega) (by show M 53 15 ≤ (16 : Int); omega) (jc (by show (7 : Int) ≤ M 62 24; omega) (by show M 62 24 ≤ (7 : Int); omega) (jc (by show (0 : Int) ≤ M 63 24; omega) (by show M 63 24 ≤ (0 : Int); omega) (jc (by show (0 : Int) ≤ M 65 24; omega) (by show M 65 24 ≤ (29 : Int); omega) jn)))))⟩
theorem c_mr_24 (hL : L < 2 ^ 31) : ci L xs 162 k_mr_24 :=
  ci_j_ok (ms := [k_mr_24_e, k_mr_24_0, k_mr_24_1, k_mr_24_2, k_mr_24_3]) (jl_cons (c_mr_24_e hL) (jl_cons (c_mr_24_0 hL) (jl_cons (c_mr_24_1 hL) (jl_cons (c_mr_24_2 hL) (jl_cons (c_mr_24_3 hL) jl_nil))))) s_mr_24 (by decide +kernel)
def k_mr_25_e : ct_C := ([(2, .ofNat 53, .ofNat 53)], [(53, 14, .ofNat 25, .ofNat 25), (53, 15, .ofNat 0, .ofNat 0)], [], [], (some (0, .negSucc 4, .negSucc 4)), 1, false)
theorem c_mr_25_e (hL : L < 2 ^ 31) : ci L xs 162 k_mr_25_e :=
  mi_ok (fc := 9000) (f := 9000) (cuts := []) (xk := jx) cl_lok cl_hrf (cl_hro L xs) hL jx_ok (by decide +kernel)
def k_mr_25_0 : ct_C := ([(2, .ofNat 53, .ofNat 53)], [(53, 14, .ofNat 25, .ofNat 25), (53, 15, .ofNat 1, .ofNat 15), (62, 25, .ofNat 0, .ofNat 4), (63, 25, .ofNat 0, .ofNat 5), (65, 25, .negSucc 0, .ofNat 143)], [(53, 14, .ofNat 26, .ofNat 26), (53, 15, .ofNat 0, .ofNat 14)], [54, 55, 56, 57, 58], (some (0, .ofNat 0, .ofNat 14)), 2, false)
theorem c_mr_25_0 (hL : L < 2 ^ 31) : ci L xs 162 k_mr_25_0 :=
  mi_ok (fc := 9000) (f := 9000) (cuts := []) (xk := jx) cl_lok cl_hrf (cl_hro L xs) hL jx_ok (by decide +kernel)
def k_mr_25_1 : ct_C := ([(2, .ofNat 53, .ofNat 53)], [(53, 14, .ofNat 25, .ofNat 25), (53, 15, .ofNat 1, .ofNat 15), (62, 25, .ofNat 5, .ofNat 5), (63, 25, .ofNat 0, .ofNat 29), (65, 25, .negSucc 0, .ofNat 143)], [(53, 14, .ofNat 26, .ofNat 26), (53, 15, .ofNat 0, .ofNat 14)], [61], (some (0, .ofNat 0, .ofNat 14)), 2, false)
theorem c_mr_25_1 (hL : L < 2 ^ 31) : ci L xs 162 k_mr_25_1 :=
  mi_ok (fc := 9000) (f := 9000) (cuts := []) (xk := jx) cl_lok cl_hrf (cl_hro L xs) hL jx_ok (by decide +kernel)
def k_mr_25_2 : ct_C := ([(2, .ofNat 53, .ofNat 53)], [(53, 14, .ofNat 25, .ofNat 25), (53, 15, .ofNat 1, .ofNat 15), (62, 25, .ofNat 6, .ofNat 6), (63, 25, .ofNat 0, .ofNat 11), (65, 25, .negSucc 0, .ofNat 143)], [(53, 14, .ofNat 26, .ofNat 26), (53, 15, .ofNat 0, .ofNat 14)], [60], (some (0, .ofNat 0, .ofNat 14)), 2, false)
theorem c_mr_25_2 (hL : L < 2 ^ 31) : ci L xs 162 k_mr_25_2 :=
  mi_ok (fc := 9000) (f := 9000) (cuts := []) (xk := jx) cl_lok cl_hrf (cl_hro L xs) hL jx_ok (by decide +kernel)
def k_mr_25_3 : ct_C := ([(2, .ofNat 53, .ofNat 53)], [(53, 14, .ofNat 25, .ofNat 25), (53, 15, .ofNat 1, .ofNat 15), (62, 25, .ofNat 7, .ofNat 7), (63, 25, .ofNat 0, .ofNat 0), (65, 25, .ofNat 0, .ofNat 29)], [(53, 13, .ofNat 0, .ofNat 29), (53, 14, .ofNat 26, .ofNat 26), (53, 15, .ofNat 0, .ofNat 14)], [], (some (0, .ofNat 0, .ofNat 14)), 2, false)
theorem c_mr_25_3 (hL : L < 2 ^ 31) : ci L xs 162 k_mr_25_3 :=
  mi_ok (fc := 9000) (f := 9000) (cuts := []) (xk := jx) cl_lok cl_hrf (cl_hro L xs) hL jx_ok (by decide +kernel)
end
