/-! mend, undo, redo, 6. -/
section
variable {L : Nat} {xs : Nat → Int32}
def k_xr_26_1 : ct_C := ([(2, .ofNat 8, .ofNat 8)], [(10, 210, .ofNat 0, .ofNat 29), (32, 1, .ofNat 26, .ofNat 26), (32, 2, .ofNat 27, .ofNat 40), (33, 104, .ofNat 5, .ofNat 5), (33, 105, .ofNat 0, .ofNat 29), (33, 107, .negSucc 0, .ofNat 143)], [(10, 210, .ofNat 0, .ofNat 29), (32, 1, .ofNat 27, .ofNat 27)], [10], (some (0, .ofNat 0, .ofNat 13)), 3, false)
theorem c_xr_26_1 (hL : L < 2 ^ 31) : ci L xs 123 k_xr_26_1 :=
  mi_ok (fc := 9000) (f := 9000) (cuts := []) (xk := jx) cl_lok cl_hrf (cl_hro L xs) hL jx_ok (by decide +kernel)
def k_xr_26_2 : ct_C := ([(2, .ofNat 8, .ofNat 8)], [(10, 210, .ofNat 0, .ofNat 29), (32, 1, .ofNat 26, .ofNat 26), (32, 2, .ofNat 27, .ofNat 40), (33, 104, .ofNat 6, .ofNat 6), (33, 105, .ofNat 0, .ofNat 11), (33, 107, .negSucc 0, .ofNat 143)], [(10, 210, .ofNat 0, .ofNat 29), (32, 1, .ofNat 27, .ofNat 27)], [10], (some (0, .ofNat 0, .ofNat 13)), 3, false)
theorem c_xr_26_2 (hL : L < 2 ^ 31) : ci L xs 123 k_xr_26_2 :=
  mi_ok (fc := 9000) (f := 9000) (cuts := []) (xk := jx) cl_lok cl_hrf (cl_hro L xs) hL jx_ok (by decide +kernel)
def k_xr_26_3 : ct_C := ([(2, .ofNat 8, .ofNat 8)], [(10, 210, .ofNat 0, .ofNat 29), (32, 1, .ofNat 26, .ofNat 26), (32, 2, .ofNat 27, .ofNat 40), (33, 104, .ofNat 7, .ofNat 7), (33, 105, .ofNat 0, .ofNat 0), (33, 107, .ofNat 0, .ofNat 29)], [(10, 210, .ofNat 0, .ofNat 29), (32, 1, .ofNat 27, .ofNat 27)], [10], (some (0, .ofNat 0, .ofNat 13)), 3, false)
theorem c_xr_26_3 (hL : L < 2 ^ 31) : ci L xs 123 k_xr_26_3 :=
  mi_ok (fc := 9000) (f := 9000) (cuts := []) (xk := jx) cl_lok cl_hrf (cl_hro L xs) hL jx_ok (by decide +kernel)
def k_xr_26 : ct_C := ([(2, .ofNat 8, .ofNat 8)], [(10, 210, .ofNat 0, .ofNat 29), (32, 1, .ofNat 26, .ofNat 26)], [(10, 210, .ofNat 0, .ofNat 29), (32, 1, .ofNat 0, .ofNat 40)], [10], (some (0, .negSucc 4, .ofNat 13)), 3, false)
theorem s_xr_26 (M : Nat → Nat → Int) (hm : sx_mok cl_ly M) (hJ : JJ M) (hg : ct_g k_xr_26.2.1 M) : ∃ m ∈ [k_xr_26_e, k_xr_26_0, k_xr_26_1, k_xr_26_2, k_xr_26_3], ct_g m.2.1 M := by
  have hv : M 32 1 = 26 := by
    have h := hg (32, 1, .ofNat 26, .ofNat 26) (List.mem_cons_of_mem _ List.mem_cons_self)
    exact Int.le_antisymm h.2 h.1
  have hk := jr_kn hm
  have hu := jr_un hm
  have hd := hJ.2.2.1
  have he := hJ.2.2.2
  by_cases h0 : M 32 2 = 26
  · exact ⟨k_xr_26_e, List.mem_cons_self, (jc (by show (26 : Int) ≤ M 32 1; omega) (by show M 32 1 ≤ (26 : Int); omega) (jc (by show (26 : Int) ≤ M 32 2; omega) (by show M 32 2 ≤ (26 : Int); omega) jn))⟩
  · have h8 : jp (M 33 104) (M 33 105) (M 33 106) (M 33 107) := hJ.1 26 (by decide)
    obtain ⟨⟨b1, b2, b3, b4⟩, h8⟩ := h8
    rcases h8 with h8 | h8 | h8 | h8
    · exact ⟨k_xr_26_0, (List.mem_cons_of_mem _ List.mem_cons_self), (jh (hg (10, 210, .ofNat 0, .ofNat 29) List.mem_cons_self) (jc (by show (26 : Int) ≤ M 32 1; omega) (by show M 32 1 ≤ (26 : Int); omega) (jc (by show (27 : Int) ≤ M 32 2; omega) (by show M 32 2 ≤ (40 : Int); omega) (jc (by show (0 : Int) ≤ M 33 104; omega) (by show M 33 104 ≤ (4 : Int); omega) (jc (by show (0 : Int) ≤ M 33 105; omega) (by show M 33 105 ≤ (5 : Int); omega) (jc (by show (-1 : Int) ≤ M 33 107; omega) (by show M 33 107 ≤ (143 : Int); omega) jn))))))⟩
    · exact ⟨k_xr_26_1, (List.mem_cons_of_mem _ (List.mem_cons_of_mem _ List.mem_cons_self)), (jh (hg (10, 210, .ofNat 0, .ofNat 29) List.mem_cons_self) (jc (by show (26 : Int) ≤ M 32 1; omega) (by show M 32 1 ≤ (26 : Int); omega) (jc (by show (27 : Int) ≤ M 32 2; omega) (by show M 32 2 ≤ (40 : Int); omega) (jc (by show (5 : Int) ≤ M 33 104; omega) (by show M 33 104 ≤ (5 : Int); omega) (jc (by show (0 : Int) ≤ M 33 105; omega) (by show M 33 105 ≤ (29 : Int); omega) (jc (by show (-1 : Int) ≤ M 33 107; omega) (by show M 33 107 ≤ (143 : Int); omega) jn))))))⟩
    · exact ⟨k_xr_26_2, (List.mem_cons_of_mem _ (List.mem_cons_of_mem _ (List.mem_cons_of_mem _ List.mem_cons_self))), (jh (hg (10, 210, .ofNat 0, .ofNat 29) List.mem_cons_self) (jc (by show (26 : Int) ≤ M 32 1; omega) (by show M 32 1 ≤ (26 : Int); omega) (jc (by show (27 : Int) ≤ M 32 2; omega) (by show M 32 2 ≤ (40 : Int); omega) (jc (by show (6 : Int) ≤ M 33 104; omega) (by show M 33 104 ≤ (6 : Int); omega) (jc (by show (0 : Int) ≤ M 33 105; omega) (by show M 33 105 ≤ (11 : Int); omega) (jc (by show (-1 : Int) ≤ M 33 107; omega) (by show M 33 107 ≤ (143 : Int); omega) jn))))))⟩
    · exact ⟨k_xr_26_3, (List.mem_cons_of_mem _ (List.mem_cons_of_mem _ (List.mem_cons_of_mem _ (List.mem_cons_of_mem _ List.mem_cons_self)))), (jh (hg (10, 210, .ofNat 0, .ofNat 29) List.mem_cons_self) (jc (by show (26 : Int) ≤ M 32 1; omega) (by show M 32 1 ≤ (26 : Int); omega) (jc (by show (27 : Int) ≤ M 32 2; omega) (by show M 32 2 ≤ (40 : Int); omega) (jc (by show (7 : Int) ≤ M 33 104; omega) (by show M 33 104 ≤ (7 : Int); omega) (jc (by show (0 : Int) ≤ M 33 105; omega) (by show M 33 105 ≤ (0 : Int); omega) (jc (by show (0 : Int) ≤ M 33 107; omega) (by show M 33 107 ≤ (29 : Int); omega) jn))))))⟩
theorem c_xr_26 (hL : L < 2 ^ 31) : ci L xs 123 k_xr_26 :=
  ci_j_ok (ms := [k_xr_26_e, k_xr_26_0, k_xr_26_1, k_xr_26_2, k_xr_26_3]) (jl_cons (c_xr_26_e hL) (jl_cons (c_xr_26_0 hL) (jl_cons (c_xr_26_1 hL) (jl_cons (c_xr_26_2 hL) (jl_cons (c_xr_26_3 hL) jl_nil))))) s_xr_26 (by decide +kernel)
def k_xr_27_e : ct_C := ([(2, .ofNat 8, .ofNat 8)], [(32, 1, .ofNat 27, .ofNat 27), (32, 2, .ofNat 27, .ofNat 27)], [], [], (some (0, .negSucc 4, .negSucc 4)), 1, false)
theorem c_xr_27_e (hL : L < 2 ^ 31) : ci L xs 123 k_xr_27_e :=
  mi_ok (fc := 9000) (f := 9000) (cuts := []) (xk := jx) cl_lok cl_hrf (cl_hro L xs) hL jx_ok (by decide +kernel)
def k_xr_27_0 : ct_C := ([(2, .ofNat 8, .ofNat 8)], [(10, 210, .ofNat 0, .ofNat 29), (32, 1, .ofNat 27, .ofNat 27), (32, 2, .ofNat 28, .ofNat 40), (33, 108, .ofNat 0, .ofNat 4), (33, 109, .ofNat 0, .ofNat 5), (33, 111, .negSucc 0, .ofNat 143)], [(10, 210, .ofNat 0, .ofNat 29), (32, 1, .ofNat 28, .ofNat 28)], [10], (some (0, .ofNat 0, .ofNat 12)), 3, false)
theorem c_xr_27_0 (hL : L < 2 ^ 31) : ci L xs 123 k_xr_27_0 :=
  mi_ok (fc := 9000) (f := 9000) (cuts := []) (xk := jx) cl_lok cl_hrf (cl_hro L xs) hL jx_ok (by decide +kernel)
def k_xr_27_1 : ct_C := ([(2, .ofNat 8, .ofNat 8)], [(10, 210, .ofNat 0, .ofNat 29), (32, 1, .ofNat 27, .ofNat 27), (32, 2, .ofNat 28, .ofNat 40), (33, 108, .ofNat 5, .ofNat 5), (33, 109, .ofNat 0, .ofNat 29), (33, 111, .negSucc 0, .ofNat 143)], [(10, 210, .ofNat 0, .ofNat 29), (32, 1, .ofNat 28, .ofNat 28)], [10], (some (0, .ofNat 0, .ofNat 12)), 3, false)
theorem c_xr_27_1 (hL : L < 2 ^ 31) : ci L xs 123 k_xr_27_1 :=
  mi_ok (fc := 9000) (f := 9000) (cuts := []) (xk := jx) cl_lok cl_hrf (cl_hro L xs) hL jx_ok (by decide +kernel)
def k_xr_27_2 : ct_C := ([(2, .ofNat 8, .ofNat 8)], [(10, 210, .ofNat 0, .ofNat 29), (32, 1, .ofNat 27, .ofNat 27), (32, 2, .ofNat 28, .ofNat 40), (33, 108, .ofNat 6, .ofNat 6), (33, 109, .ofNat 0, .ofNat 11), (33, 111, .negSucc 0, .ofNat 143)], [(10, 210, .ofNat 0, .ofNat 29), (32, 1, .ofNat 28, .ofNat 28)], [10], (some (0, .ofNat 0, .ofNat 12)), 3, false)
theorem c_xr_27_2 (hL : L < 2 ^ 31) : ci L xs 123 k_xr_27_2 :=
  mi_ok (fc := 9000) (f := 9000) (cuts := []) (xk := jx) cl_lok cl_hrf (cl_hro L xs) hL jx_ok (by decide +kernel)
def k_xr_27_3 : ct_C := ([(2, .ofNat 8, .ofNat 8)], [(10, 210, .ofNat 0, .ofNat 29), (32, 1, .ofNat 27, .ofNat 27), (32, 2, .ofNat 28, .ofNat 40), (33, 108, .ofNat 7, .ofNat 7), (33, 109, .ofNat 0, .ofNat 0), (33, 111, .ofNat 0, .ofNat 29)], [(10, 210, .ofNat 0, .ofNat 29), (32, 1, .ofNat 28, .ofNat 28)], [10], (some (0, .ofNat 0, .ofNat 12)), 3, false)
theorem c_xr_27_3 (hL : L < 2 ^ 31) : ci L xs 123 k_xr_27_3 :=
  mi_ok (fc := 9000) (f := 9000) (cuts := []) (xk := jx) cl_lok cl_hrf (cl_hro L xs) hL jx_ok (by decide +kernel)
def k_xr_27 : ct_C := ([(2, .ofNat 8, .ofNat 8)], [(10, 210, .ofNat 0, .ofNat 29), (32, 1, .ofNat 27, .ofNat 27)], [(10, 210, .ofNat 0, .ofNat 29), (32, 1, .ofNat 0, .ofNat 40)], [10], (some (0, .negSucc 4, .ofNat 12)), 3, false)
theorem s_xr_27 (M : Nat → Nat → Int) (hm : sx_mok cl_ly M) (hJ : JJ M) (hg : ct_g k_xr_27.2.1 M) : ∃ m ∈ [k_xr_27_e, k_xr_27_0, k_xr_27_1, k_xr_27_2, k_xr_27_3], ct_g m.2.1 M := by
  have hv : M 32 1 = 27 := by
    have h := hg (32, 1, .ofNat 27, .ofNat 27) (List.mem_cons_of_mem _ List.mem_cons_self)
    exact Int.le_antisymm h.2 h.1
  have hk := jr_kn hm
  have hu := jr_un hm
  have hd := hJ.2.2.1
  have he := hJ.2.2.2
  by_cases h0 : M 32 2 = 27
  · exact ⟨k_xr_27_e, List.mem_cons_self, (jc (by show (27 : Int) ≤ M 32 1; omega) (by show M 32 1 ≤ (27 : Int); omega) (jc (by show (27 : Int) ≤ M 32 2; omega) (by show M 32 2 ≤ (27 : Int); omega) jn))⟩
  · have h8 : jp (M 33 108) (M 33 109) (M 33 110) (M 33 111) := hJ.1 27 (by decide)
    obtain ⟨⟨b1, b2, b3, b4⟩, h8⟩ := h8
    rcases h8 with h8 | h8 | h8 | h8
    · exact ⟨k_xr_27_0, (List.mem_cons_of_mem _ List.mem_cons_self), (jh (hg (10, 210, .ofNat 0, .ofNat 29) List.mem_cons_self) (jc (by show (27 : Int) ≤ M 32 1; omega) (by show M 32 1 ≤ (27 : Int); omega) (jc (by show (28 : Int) ≤ M 32 2; omega) (by show M 32 2 ≤ (40 : Int); omega) (jc (by show (0 : Int) ≤ M 33 108; omega) (by show M 33 108 ≤ (4 : Int); omega) (jc (by show (0 : Int) ≤ M 33 109; omega) (by show M 33 109 ≤ (5 : Int); omega) (jc (by show (-1 : Int) ≤ M 33 111; omega) (by show M 33 111 ≤ (143 : Int); omega) jn))))))⟩
    · exact ⟨k_xr_27_1, (List.mem_cons_of_mem _ (List.mem_cons_of_mem _ List.mem_cons_self)), (jh (hg (10, 210, .ofNat 0, .ofNat 29) List.mem_cons_self) (jc (by show (27 : Int) ≤ M 32 1; omega) (by show M 32 1 ≤ (27 : Int); omega) (jc (by show (28 : Int) ≤ M 32 2; omega) (by show M 32 2 ≤ (40 : Int); omega) (jc (by show (5 : Int) ≤ M 33 108; omega) (by show M 33 108 ≤ (5 : Int); omega) (jc (by show (0 : Int) ≤ M 33 109; omega) (by show M 33 109 ≤ (29 : Int); omega) (jc (by show (-1 : Int) ≤ M 33 111; omega) (by show M 33 111 ≤ (143 : Int); omega) jn))))))⟩
    · exact ⟨k_xr_27_2, (List.mem_cons_of_mem _ (List.mem_cons_of_mem _ (List.mem_cons_of_mem _ List.mem_cons_self))), (jh (hg (10, 210, .ofNat 0, .ofNat 29) List.mem_cons_self) (jc (by show (27 : Int) ≤ M 32 1; omega) (by show M 32 1 ≤ (27 : Int); omega) (jc (by show (28 : Int) ≤ M 32 2; omega) (by show M 32 2 ≤ (40 : Int); omega) (jc (by show (6 : Int) ≤ M 33 108; omega) (by show M 33 108 ≤ (6 : Int); omega) (jc (by show (0 : Int) ≤ M 33 109; omega) (by show M 33 109 ≤ (11 : Int); omega) (jc (by show (-1 : Int) ≤ M 33 111; omega) (by show M 33 111 ≤ (143 : Int); omega) jn))))))⟩
    · exact ⟨k_xr_27_3, (List.mem_cons_of_mem _ (List.mem_cons_of_mem _ (List.mem_cons_of_mem _ (List.mem_cons_of_mem _ List.mem_cons_self)))), (jh (hg (10, 210, .ofNat 0, .ofNat 29) List.mem_cons_self) (jc (by show (27 : Int) ≤ M 32 1; omega) (by show M 32 1 ≤ (27 : Int); omega) (jc (by show (28 : Int) ≤ M 32 2; omega) (by show M 32 2 ≤ (40 : Int); omega) (jc (by show (7 : Int) ≤ M 33 108; omega) (by show M 33 108 ≤ (7 : Int); omega) (jc (by show (0 : Int) ≤ M 33 109; omega) (by show M 33 109 ≤ (0 : Int); omega) (jc (by show (0 : Int) ≤ M 33 111; omega) (by show M 33 111 ≤ (29 : Int); omega) jn))))))⟩
theorem c_xr_27 (hL : L < 2 ^ 31) : ci L xs 123 k_xr_27 :=
  ci_j_ok (ms := [k_xr_27_e, k_xr_27_0, k_xr_27_1, k_xr_27_2, k_xr_27_3]) (jl_cons (c_xr_27_e hL) (jl_cons (c_xr_27_0 hL) (jl_cons (c_xr_27_1 hL) (jl_cons (c_xr_27_2 hL) (jl_cons (c_xr_27_3 hL) jl_nil))))) s_xr_27 (by decide +kernel)
def k_xr_28_e : ct_C := ([(2, .ofNat 8, .ofNat 8)], [(32, 1, .ofNat 28, .ofNat 28), (32, 2, .ofNat 28, .ofNat 28)], [], [], (some (0, .negSucc 4, .negSucc 4)), 1, false)
theorem c_xr_28_e (hL : L < 2 ^ 31) : ci L xs 123 k_xr_28_e :=
  mi_ok (fc := 9000) (f := 9000) (cuts := []) (xk := jx) cl_lok cl_hrf (cl_hro L xs) hL jx_ok (by decide +kernel)
def k_xr_28_0 : ct_C := ([(2, .ofNat 8, .ofNat 8)], [(10, 210, .ofNat 0, .ofNat 29), (32, 1, .ofNat 28, .ofNat 28), (32, 2, .ofNat 29, .ofNat 40), (33, 112, .ofNat 0, .ofNat 4), (33, 113, .ofNat 0, .ofNat 5), (33, 115, .negSucc 0, .ofNat 143)], [(10, 210, .ofNat 0, .ofNat 29), (32, 1, .ofNat 29, .ofNat 29)], [10], (some (0, .ofNat 0, .ofNat 11)), 3, false)
theorem c_xr_28_0 (hL : L < 2 ^ 31) : ci L xs 123 k_xr_28_0 :=
  mi_ok (fc := 9000) (f := 9000) (cuts := []) (xk := jx) cl_lok cl_hrf (cl_hro L xs) hL jx_ok (by decide +kernel)
def k_xr_28_1 : ct_C := ([(2, .ofNat 8, .ofNat 8)], [(10, 210, .ofNat 0, .ofNat 29), (32, 1, .ofNat 28, .ofNat 28), (32, 2, .ofNat 29, .ofNat 40), (33, 112, .ofNat 5, .ofNat 5), (33, 113, .ofNat 0, .ofNat 29), (33, 115, .negSucc 0, .ofNat 143)], [(10, 210, .ofNat 0, .ofNat 29), (32, 1, .ofNat 29, .ofNat 29)], [10], (some (0, .ofNat 0, .ofNat 11)), 3, false)
theorem c_xr_28_1 (hL : L < 2 ^ 31) : ci L xs 123 k_xr_28_1 :=
  mi_ok (fc := 9000) (f := 9000) (cuts := []) (xk := jx) cl_lok cl_hrf (cl_hro L xs) hL jx_ok (by decide +kernel)
def k_xr_28_2 : ct_C := ([(2, .ofNat 8, .ofNat 8)], [(10, 210, .ofNat 0, .ofNat 29), (32, 1, .ofNat 28, .ofNat 28), (32, 2, .ofNat 29, .ofNat 40), (33, 112, .ofNat 6, .ofNat 6), (33, 113, .ofNat 0, .ofNat 11), (33, 115, .negSucc 0, .ofNat 143)], [(10, 210, .ofNat 0, .ofNat 29), (32, 1, .ofNat 29, .ofNat 29)], [10], (some (0, .ofNat 0, .ofNat 11)), 3, false)
theorem c_xr_28_2 (hL : L < 2 ^ 31) : ci L xs 123 k_xr_28_2 :=
  mi_ok (fc := 9000) (f := 9000) (cuts := []) (xk := jx) cl_lok cl_hrf (cl_hro L xs) hL jx_ok (by decide +kernel)
def k_xr_28_3 : ct_C := ([(2, .ofNat 8, .ofNat 8)], [(10, 210, .ofNat 0, .ofNat 29), (32, 1, .ofNat 28, .ofNat 28), (32, 2, .ofNat 29, .ofNat 40), (33, 112, .ofNat 7, .ofNat 7), (33, 113, .ofNat 0, .ofNat 0), (33, 115, .ofNat 0, .ofNat 29)], [(10, 210, .ofNat 0, .ofNat 29), (32, 1, .ofNat 29, .ofNat 29)], [10], (some (0, .ofNat 0, .ofNat 11)), 3, false)
theorem c_xr_28_3 (hL : L < 2 ^ 31) : ci L xs 123 k_xr_28_3 :=
  mi_ok (fc := 9000) (f := 9000) (cuts := []) (xk := jx) cl_lok cl_hrf (cl_hro L xs) hL jx_ok (by decide +kernel)
def k_xr_28 : ct_C := ([(2, .ofNat 8, .ofNat 8)], [(10, 210, .ofNat 0, .ofNat 29), (32, 1, .ofNat 28, .ofNat 28)], [(10, 210, .ofNat 0, .ofNat 29), (32, 1, .ofNat 0, .ofNat 40)], [10], (some (0, .negSucc 4, .ofNat 11)), 3, false)
theorem s_xr_28 (M : Nat → Nat → Int) (hm : sx_mok cl_ly M) (hJ : JJ M) (hg : ct_g k_xr_28.2.1 M) : ∃ m ∈ [k_xr_28_e, k_xr_28_0, k_xr_28_1, k_xr_28_2, k_xr_28_3], ct_g m.2.1 M := by
  have hv : M 32 1 = 28 := by
    have h := hg (32, 1, .ofNat 28, .ofNat 28) (List.mem_cons_of_mem _ List.mem_cons_self)
    exact Int.le_antisymm h.2 h.1
  have hk := jr_kn hm
  have hu := jr_un hm
  have hd := hJ.2.2.1
  have he := hJ.2.2.2
  by_cases h0 : M 32 2 = 28
  · exact ⟨k_xr_28_e, List.mem_cons_self, (jc (by show (28 : Int) ≤ M 32 1; omega) (by show M 32 1 ≤ (28 : Int); omega) (jc (by show (28 : Int) ≤ M 32 2; omega) (by show M 32 2 ≤ (28 : Int); omega) jn))⟩
  · have h8 : jp (M 33 112) (M 33 113) (M 33 114) (M 33 115) := hJ.1 28 (by decide)
    obtain ⟨⟨b1, b2, b3, b4⟩, h8⟩ := h8
    rcases h8 with h8 | h8 | h8 | h8
    · exact ⟨k_xr_28_0, (List.mem_cons_of_mem _ List.mem_cons_self), (jh (hg (10, 210, .ofNat 0, .ofNat 29) List.mem_cons_self) (jc (by show (28 : Int) ≤ M 32 1; omega) (by show M 32 1 ≤ (28 : Int); omega) (jc (by show (29 : Int) ≤ M 32 2; omega) (by show M 32 2 ≤ (40 : Int); omega) (jc (by show (0 : Int) ≤ M 33 112; omega) (by show M 33 112 ≤ (4 : Int); omega) (jc (by show (0 : Int) ≤ M 33 113; omega) (by show M 33 113 ≤ (5 : Int); omega) (jc (by show (-1 : Int) ≤ M 33 115; omega) (by show M 33 115 ≤ (143 : Int); omega) jn))))))⟩
    · exact ⟨k_xr_28_1, (List.mem_cons_of_mem _ (List.mem_cons_of_mem _ List.mem_cons_self)), (jh (hg (10, 210, .ofNat 0, .ofNat 29) List.mem_cons_self) (jc (by show (28 : Int) ≤ M 32 1; omega) (by show M 32 1 ≤ (28 : Int); omega) (jc (by show (29 : Int) ≤ M 32 2; omega) (by show M 32 2 ≤ (40 : Int); omega) (jc (by show (5 : Int) ≤ M 33 112; omega) (by show M 33 112 ≤ (5 : Int); omega) (jc (by show (0 : Int) ≤ M 33 113; omega) (by show M 33 113 ≤ (29 : Int); omega) (jc (by show (-1 : Int) ≤ M 33 115; omega) (by show M 33 115 ≤ (143 : Int); omega) jn))))))⟩
    · exact ⟨k_xr_28_2, (List.mem_cons_of_mem _ (List.mem_cons_of_mem _ (List.mem_cons_of_mem _ List.mem_cons_self))), (jh (hg (10, 210, .ofNat 0, .ofNat 29) List.mem_cons_self) (jc (by show (28 : Int) ≤ M 32 1; omega) (by show M 32 1 ≤ (28 : Int); omega) (jc (by show (29 : Int) ≤ M 32 2; omega) (by show M 32 2 ≤ (40 : Int); omega) (jc (by show (6 : Int) ≤ M 33 112; omega) (by show M 33 112 ≤ (6 : Int); omega) (jc (by show (0 : Int) ≤ M 33 113; omega) (by show M 33 113 ≤ (11 : Int); omega) (jc (by show (-1 : Int) ≤ M 33 115; omega) (by show M 33 115 ≤ (143 : Int); omega) jn))))))⟩
    · exact ⟨k_xr_28_3, (List.mem_cons_of_mem _ (List.mem_cons_of_mem _ (List.mem_cons_of_mem _ (List.mem_cons_of_mem _ List.mem_cons_self)))), (jh (hg (10, 210, .ofNat 0, .ofNat 29) List.mem_cons_self) (jc (by show (28 : Int) ≤ M 32 1; omega) (by show M 32 1 ≤ (28 : Int); omega) (jc (by show (29 : Int) ≤ M 32 2; omega) (by show M 32 2 ≤ (40 : Int); omega) (jc (by show (7 : Int) ≤ M 33 112; omega) (by show M 33 112 ≤ (7 : Int); omega) (jc (by show (0 : Int) ≤ M 33 113; omega) (by show M 33 113 ≤ (0 : Int); omega) (jc (by show (0 : Int) ≤ M 33 115; omega) (by show M 33 115 ≤ (29 : Int); omega) jn))))))⟩
theorem c_xr_28 (hL : L < 2 ^ 31) : ci L xs 123 k_xr_28 :=
  ci_j_ok (ms := [k_xr_28_e, k_xr_28_0, k_xr_28_1, k_xr_28_2, k_xr_28_3]) (jl_cons (c_xr_28_e hL) (jl_cons (c_xr_28_0 hL) (jl_cons (c_xr_28_1 hL) (jl_cons (c_xr_28_2 hL) (jl_cons (c_xr_28_3 hL) jl_nil))))) s_xr_28 (by decide +kernel)
def k_xr_29_e : ct_C := ([(2, .ofNat 8, .ofNat 8)], [(32, 1, .ofNat 29, .ofNat 29), (32, 2, .ofNat 29, .ofNat 29)], [], [], (some (0, .negSucc 4, .negSucc 4)), 1, false)
theorem c_xr_29_e (hL : L < 2 ^ 31) : ci L xs 123 k_xr_29_e :=
  mi_ok (fc := 9000) (f := 9000) (cuts := []) (xk := jx) cl_lok cl_hrf (cl_hro L xs) hL jx_ok (by decide +kernel)
def k_xr_29_0 : ct_C := ([(2, .ofNat 8, .ofNat 8)], [(10, 210, .ofNat 0, .ofNat 29), (32, 1, .ofNat 29, .ofNat 29), (32, 2, .ofNat 30, .ofNat 40), (33, 116, .ofNat 0, .ofNat 4), (33, 117, .ofNat 0, .ofNat 5), (33, 119, .negSucc 0, .ofNat 143)], [(10, 210, .ofNat 0, .ofNat 29), (32, 1, .ofNat 30, .ofNat 30)], [10], (some (0, .ofNat 0, .ofNat 10)), 3, false)
theorem c_xr_29_0 (hL : L < 2 ^ 31) : ci L xs 123 k_xr_29_0 :=
  mi_ok (fc := 9000) (f := 9000) (cuts := []) (xk := jx) cl_lok cl_hrf (cl_hro L xs) hL jx_ok (by decide +kernel)
def k_xr_29_1 : ct_C := ([(2, .ofNat 8, .ofNat 8)], [(10, 210, .ofNat 0, .ofNat 29), (32, 1, .ofNat 29, .ofNat 29), (32, 2, .ofNat 30, .ofNat 40), (33, 116, .ofNat 5, .ofNat 5), (33, 117, .ofNat 0, .ofNat 29), (33, 119, .negSucc 0, .ofNat 143)], [(10, 210, .ofNat 0, .ofNat 29), (32, 1, .ofNat 30, .ofNat 30)], [10], (some (0, .ofNat 0, .ofNat 10)), 3, false)
theorem c_xr_29_1 (hL : L < 2 ^ 31) : ci L xs 123 k_xr_29_1 :=
  mi_ok (fc := 9000) (f := 9000) (cuts := []) (xk := jx) cl_lok cl_hrf (cl_hro L xs) hL jx_ok (by decide +kernel)
def k_xr_29_2 : ct_C := ([(2, .ofNat 8, .ofNat 8)], [(10, 210, .ofNat 0, .ofNat 29), (32, 1, .ofNat 29, .ofNat 29), (32, 2, .ofNat 30, .ofNat 40), (33, 116, .ofNat 6, .ofNat 6), (33, 117, .ofNat 0, .ofNat 11), (33, 119, .negSucc 0, .ofNat 143)], [(10, 210, .ofNat 0, .ofNat 29), (32, 1, .ofNat 30, .ofNat 30)], [10], (some (0, .ofNat 0, .ofNat 10)), 3, false)
theorem c_xr_29_2 (hL : L < 2 ^ 31) : ci L xs 123 k_xr_29_2 :=
  mi_ok (fc := 9000) (f := 9000) (cuts := []) (xk := jx) cl_lok cl_hrf (cl_hro L xs) hL jx_ok (by decide +kernel)
def k_xr_29_3 : ct_C := ([(2, .ofNat 8, .ofNat 8)], [(10, 210, .ofNat 0, .ofNat 29), (32, 1, .ofNat 29, .ofNat 29), (32, 2, .ofNat 30, .ofNat 40), (33, 116, .ofNat 7, .ofNat 7), (33, 117, .ofNat 0, .ofNat 0), (33, 119, .ofNat 0, .ofNat 29)], [(10, 210, .ofNat 0, .ofNat 29), (32, 1, .ofNat 30, .ofNat 30)], [10], (some (0, .ofNat 0, .ofNat 10)), 3, false)
theorem c_xr_29_3 (hL : L < 2 ^ 31) : ci L xs 123 k_xr_29_3 :=
  mi_ok (fc := 9000) (f := 9000) (cuts := []) (xk := jx) cl_lok cl_hrf (cl_hro L xs) hL jx_ok (by decide +kernel)
def k_xr_29 : ct_C := ([(2, .ofNat 8, .ofNat 8)], [(10, 210, .ofNat 0, .ofNat 29), (32, 1, .ofNat 29, .ofNat 29)], [(10, 210, .ofNat 0, .ofNat 29), (32, 1, .ofNat 0, .ofNat 40)], [10], (some (0, .negSucc 4, .ofNat 10)), 3, false)
theorem s_xr_29 (M : Nat → Nat → Int) (hm : sx_mok cl_ly M) (hJ : JJ M) (hg : ct_g k_xr_29.2.1 M) : ∃ m ∈ [k_xr_29_e, k_xr_29_0, k_xr_29_1, k_xr_29_2, k_xr_29_3], ct_g m.2.1 M := by
  have hv : M 32 1 = 29 := by
    have h := hg (32, 1, .ofNat 29, .ofNat 29) (List.mem_cons_of_mem _ List.mem_cons_self)
    exact Int.le_antisymm h.2 h.1
  have hk := jr_kn hm
  have hu := jr_un hm
  have hd := hJ.2.2.1
  have he := hJ.2.2.2
  by_cases h0 : M 32 2 = 29
  · exact ⟨k_xr_29_e, List.mem_cons_self, (jc (by show (29 : Int) ≤ M 32 1; omega) (by show M 32 1 ≤ (29 : Int); omega) (jc (by show (29 : Int) ≤ M 32 2; omega) (by show M 32 2 ≤ (29 : Int); omega) jn))⟩
  · have h8 : jp (M 33 116) (M 33 117) (M 33 118) (M 33 119) := hJ.1 29 (by decide)
    obtain ⟨⟨b1, b2, b3, b4⟩, h8⟩ := h8
    rcases h8 with h8 | h8 | h8 | h8
    · exact ⟨k_xr_29_0, (List.mem_cons_of_mem _ List.mem_cons_self), (jh (hg (10, 210, .ofNat 0, .ofNat 29) List.mem_cons_self) (jc (by show (29 : Int) ≤ M 32 1; omega) (by show M 32 1 ≤ (29 : Int); omega) (jc (by show (30 : Int) ≤ M 32 2; omega) (by show M 32 2 ≤ (40 : Int); omega) (jc (by show (0 : Int) ≤ M 33 116; omega) (by show M 33 116 ≤ (4 : Int); omega) (jc (by show (0 : Int) ≤ M 33 117; omega) (by show M 33 117 ≤ (5 : Int); omega) (jc (by show (-1 : Int) ≤ M 33 119; omega) (by show M 33 119 ≤ (143 : Int); omega) jn))))))⟩
    · exact ⟨k_xr_29_1, (List.mem_cons_of_mem _ (List.mem_cons_of_mem _ List.mem_cons_self)), (jh (hg (10, 210, .ofNat 0, .ofNat 29) List.mem_cons_self) (jc (by show (29 : Int) ≤ M 32 1; omega) (by show M 32 1 ≤ (29 : Int); omega) (jc (by show (30 : Int) ≤ M 32 2; omega) (by show M 32 2 ≤ (40 : Int); omega) (jc (by show (5 : Int) ≤ M 33 116; omega) (by show M 33 116 ≤ (5 : Int); omega) (jc (by show (0 : Int) ≤ M 33 117; omega) (by show M 33 117 ≤ (29 : Int); omega) (jc (by show (-1 : Int) ≤ M 33 119; omega) (by show M 33 119 ≤ (143 : Int); omega) jn))))))⟩
    · exact ⟨k_xr_29_2, (List.mem_cons_of_mem _ (List.mem_cons_of_mem _ (List.mem_cons_of_mem _ List.mem_cons_self))), (jh (hg (10, 210, .ofNat 0, .ofNat 29) List.mem_cons_self) (jc (by show (29 : Int) ≤ M 32 1; omega) (by show M 32 1 ≤ (29 : Int); omega) (jc (by show (30 : Int) ≤ M 32 2; omega) (by show M 32 2 ≤ (40 : Int); omega) (jc (by show (6 : Int) ≤ M 33 116; omega) (by show M 33 116 ≤ (6 : Int); omega) (jc (by show (0 : Int) ≤ M 33 117; omega) (by show M 33 117 ≤ (11 : Int); omega) (jc (by show (-1 : Int) ≤ M 33 119; omega) (by show M 33 119 ≤ (143 : Int); omega) jn))))))⟩
    · exact ⟨k_xr_29_3, (List.mem_cons_of_mem _ (List.mem_cons_of_mem _ (List.mem_cons_of_mem _ (List.mem_cons_of_mem _ List.mem_cons_self)))), (jh (hg (10, 210, .ofNat 0, .ofNat 29) List.mem_cons_self) (jc (by show (29 : Int) ≤ M 32 1; omega) (by show M 32 1 ≤ (29 : Int); omega) (jc (by show (30 : Int) ≤ M 32 2; omega) (by show M 32 2 ≤ (40 : Int); omega) (jc (by show (7 : Int) ≤ M 33 116; omega) (by show M 33 116 ≤ (7 : Int); omega) (jc (by show (0 : Int) ≤ M 33 117; omega) (by show M 33 117 ≤ (0 : Int); omega) (jc (by show (0 : Int) ≤ M 33 119; omega) (by show M 33 119 ≤ (29 : Int); omega) jn))))))⟩
theorem c_xr_29 (hL : L < 2 ^ 31) : ci L xs 123 k_xr_29 :=
  ci_j_ok (ms := [k_xr_29_e, k_xr_29_0, k_xr_29_1, k_xr_29_2, k_xr_29_3]) (jl_cons (c_xr_29_e hL) (jl_cons (c_xr_29_0 hL) (jl_cons (c_xr_29_1 hL) (jl_cons (c_xr_29_2 hL) (jl_cons (c_xr_29_3 hL) jl_nil))))) s_xr_29 (by decide +kernel)
def k_xr_30_e : ct_C := ([(2, .ofNat 8, .ofNat 8)], [(32, 1, .ofNat 30, .ofNat 30), (32, 2, .ofNat 30, .ofNat 30)], [], [], (some (0, .negSucc 4, .negSucc 4)), 1, false)
theorem c_xr_30_e (hL : L < 2 ^ 31) : ci L xs 123 k_xr_30_e :=
  mi_ok (fc := 9000) (f := 9000) (cuts := []) (xk := jx) cl_lok cl_hrf (cl_hro L xs) hL jx_ok (by decide +kernel)
def k_xr_30_0 : ct_C := ([(2, .ofNat 8, .ofNat 8)], [(10, 210, .ofNat 0, .ofNat 29), (32, 1, .ofNat 30, .ofNat 30), (32, 2, .ofNat 31, .ofNat 40), (33, 120, .ofNat 0, .ofNat 4), (33, 121, .ofNat 0, .ofNat 5), (33, 123, .negSucc 0, .ofNat 143)], [(10, 210, .ofNat 0, .ofNat 29), (32, 1, .ofNat 31, .ofNat 31)], [10], (some (0, .ofNat 0, .ofNat 9)), 3, false)
theorem c_xr_30_0 (hL : L < 2 ^ 31) : ci L xs 123 k_xr_30_0 :=
  mi_ok (fc := 9000) (f := 9000) (cuts := []) (xk := jx) cl_lok cl_hrf (cl_hro L xs) hL jx_ok (by decide +kernel)
def k_xr_30_1 : ct_C := ([(2, .ofNat 8, .ofNat 8)], [(10, 210, .ofNat 0, .ofNat 29), (32, 1, .ofNat 30, .ofNat 30), (32, 2, .ofNat 31, .ofNat 40), (33, 120, .ofNat 5, .ofNat 5), (33, 121, .ofNat 0, .ofNat 29), (33, 123, .negSucc 0, .ofNat 143)], [(10, 210, .ofNat 0, .ofNat 29), (32, 1, .ofNat 31, .ofNat 31)], [10], (some (0, .ofNat 0, .ofNat 9)), 3, false)
theorem c_xr_30_1 (hL : L < 2 ^ 31) : ci L xs 123 k_xr_30_1 :=
  mi_ok (fc := 9000) (f := 9000) (cuts := []) (xk := jx) cl_lok cl_hrf (cl_hro L xs) hL jx_ok (by decide +kernel)
def k_xr_30_2 : ct_C := ([(2, .ofNat 8, .ofNat 8)], [(10, 210, .ofNat 0, .ofNat 29), (32, 1, .ofNat 30, .ofNat 30), (32, 2, .ofNat 31, .ofNat 40), (33, 120, .ofNat 6, .ofNat 6), (33, 121, .ofNat 0, .ofNat 11), (33, 123, .negSucc 0, .ofNat 143)], [(10, 210, .ofNat 0, .ofNat 29), (32, 1, .ofNat 31, .ofNat 31)], [10], (some (0, .ofNat 0, .ofNat 9)), 3, false)
theorem c_xr_30_2 (hL : L < 2 ^ 31) : ci L xs 123 k_xr_30_2 :=
  mi_ok (fc := 9000) (f := 9000) (cuts := []) (xk := jx) cl_lok cl_hrf (cl_hro L xs) hL jx_ok (by decide +kernel)
def k_xr_30_3 : ct_C := ([(2, .ofNat 8, .ofNat 8)], [(10, 210, .ofNat 0, .ofNat 29), (32, 1, .ofNat 30, .ofNat 30), (32, 2, .ofNat 31, .ofNat 40), (33, 120, .ofNat 7, .ofNat 7), (33, 121, .ofNat 0, .ofNat 0), (33, 123, .ofNat 0, .ofNat 29)], [(10, 210, .ofNat 0, .ofNat 29), (32, 1, .ofNat 31, .ofNat 31)], [10], (some (0, .ofNat 0, .ofNat 9)), 3, false)
theorem c_xr_30_3 (hL : L < 2 ^ 31) : ci L xs 123 k_xr_30_3 :=
  mi_ok (fc := 9000) (f := 9000) (cuts := []) (xk := jx) cl_lok cl_hrf (cl_hro L xs) hL jx_ok (by decide +kernel)
def k_xr_30 : ct_C := ([(2, .ofNat 8, .ofNat 8)], [(10, 210, .ofNat 0, .ofNat 29), (32, 1, .ofNat 30, .ofNat 30)], [(10, 210, .ofNat 0, .ofNat 29), (32, 1, .ofNat 0, .ofNat 40)], [10], (some (0, .negSucc 4, .ofNat 9)), 3, false)
theorem s_xr_30 (M : Nat → Nat → Int) (hm : sx_mok cl_ly M) (hJ : JJ M) (hg : ct_g k_xr_30.2.1 M) : ∃ m ∈ [k_xr_30_e, k_xr_30_0, k_xr_30_1, k_xr_30_2, k_xr_30_3], ct_g m.2.1 M := by
  have hv : M 32 1 = 30 := by
    have h := hg (32, 1, .ofNat 30, .ofNat 30) (List.mem_cons_of_mem _ List.mem_cons_self)
    exact Int.le_antisymm h.2 h.1
  have hk := jr_kn hm
  have hu := jr_un hm
  have hd := hJ.2.2.1
  have he := hJ.2.2.2
  by_cases h0 : M 32 2 = 30
  · exact ⟨k_xr_30_e, List.mem_cons_self, (jc (by show (30 : Int) ≤ M 32 1; omega) (by show M 32 1 ≤ (30 : Int); omega) (jc (by show (30 : Int) ≤ M 32 2; omega) (by show M 32 2 ≤ (30 : Int); omega) jn))⟩
  · have h8 : jp (M 33 120) (M 33 121) (M 33 122) (M 33 123) := hJ.1 30 (by decide)
    obtain ⟨⟨b1, b2, b3, b4⟩, h8⟩ := h8
    rcases h8 with h8 | h8 | h8 | h8
    · exact ⟨k_xr_30_0, (List.mem_cons_of_mem _ List.mem_cons_self), (jh (hg (10, 210, .ofNat 0, .ofNat 29) List.mem_cons_self) (jc (by show (30 : Int) ≤ M 32 1; omega) (by show M 32 1 ≤ (30 : Int); omega) (jc (by show (31 : Int) ≤ M 32 2; omega) (by show M 32 2 ≤ (40 : Int); omega) (jc (by show (0 : Int) ≤ M 33 120; omega) (by show M 33 120 ≤ (4 : Int); omega) (jc (by show (0 : Int) ≤ M 33 121; omega) (by show M 33 121 ≤ (5 : Int); omega) (jc (by show (-1 : Int) ≤ M 33 123; omega) (by show M 33 123 ≤ (143 : Int); omega) jn))))))⟩
    · exact ⟨k_xr_30_1, (List.mem_cons_of_mem _ (List.mem_cons_of_mem _ List.mem_cons_self)), (jh (hg (10, 210, .ofNat 0, .ofNat 29) List.mem_cons_self) (jc (by show (30 : Int) ≤ M 32 1; omega) (by show M 32 1 ≤ (30 : Int); omega) (jc (by show (31 : Int) ≤ M 32 2; omega) (by show M 32 2 ≤ (40 : Int); omega) (jc (by show (5 : Int) ≤ M 33 120; omega) (by show M 33 120 ≤ (5 : Int); omega) (jc (by show (0 : Int) ≤ M 33 121; omega) (by show M 33 121 ≤ (29 : Int); omega) (jc (by show (-1 : Int) ≤ M 33 123; omega) (by show M 33 123 ≤ (143 : Int); omega) jn))))))⟩
    · exact ⟨k_xr_30_2, (List.mem_cons_of_mem _ (List.mem_cons_of_mem _ (List.mem_cons_of_mem _ List.mem_cons_self))), (jh (hg (10, 210, .ofNat 0, .ofNat 29) List.mem_cons_self) (jc (by show (30 : Int) ≤ M 32 1; omega) (by show M 32 1 ≤ (30 : Int); omega) (jc (by show (31 : Int) ≤ M 32 2; omega) (by show M 32 2 ≤ (40 : Int); omega) (jc (by show (6 : Int) ≤ M 33 120; omega) (by show M 33 120 ≤ (6 : Int); omega) (jc (by show (0 : Int) ≤ M 33 121; omega) (by show M 33 121 ≤ (11 : Int); omega) (jc (by show (-1 : Int) ≤ M 33 123; omega) (by show M 33 123 ≤ (143 : Int); omega) jn))))))⟩
    · exact ⟨k_xr_30_3, (List.mem_cons_of_mem _ (List.mem_cons_of_mem _ (List.mem_cons_of_mem _ (List.mem_cons_of_mem _ List.mem_cons_self)))), (jh (hg (10, 210, .ofNat 0, .ofNat 29) List.mem_cons_self) (jc (by show (30 : Int) ≤ M 32 1; omega) (by show M 32 1 ≤ (30 : Int); omega) (jc (by show (31 : Int) ≤ M 32 2; omega) (by show M 32 2 ≤ (40 : Int); omega) (jc (by show (7 : Int) ≤ M 33 120; omega) (by show M 33 120 ≤ (7 : Int); omega) (jc (by show (0 : Int) ≤ M 33 121; omega) (by show M 33 121 ≤ (0 : Int); omega) (jc (by show (0 : Int) ≤ M 33 123; omega) (by show M 33 123 ≤ (29 : Int); omega) jn))))))⟩
theorem c_xr_30 (hL : L < 2 ^ 31) : ci L xs 123 k_xr_30 :=
  ci_j_ok (ms := [k_xr_30_e, k_xr_30_0, k_xr_30_1, k_xr_30_2, k_xr_30_3]) (jl_cons (c_xr_30_e hL) (jl_cons (c_xr_30_0 hL) (jl_cons (c_xr_30_1 hL) (jl_cons (c_xr_30_2 hL) (jl_cons (c_xr_30_3 hL) jl_nil))))) s_xr_30 (by decide +kernel)
def k_xr_31_e : ct_C := ([(2, .ofNat 8, .ofNat 8)], [(32, 1, .ofNat 31, .ofNat 31), (32, 2, .ofNat 31, .ofNat 31)], [], [], (some (0, .negSucc 4, .negSucc 4)), 1, false)
theorem c_xr_31_e (hL : L < 2 ^ 31) : ci L xs 123 k_xr_31_e :=
  mi_ok (fc := 9000) (f := 9000) (cuts := []) (xk := jx) cl_lok cl_hrf (cl_hro L xs) hL jx_ok (by decide +kernel)
def k_xr_31_0 : ct_C := ([(2, .ofNat 8, .ofNat 8)], [(10, 210, .ofNat 0, .ofNat 29), (32, 1, .ofNat 31, .ofNat 31), (32, 2, .ofNat 32, .ofNat 40), (33, 124, .ofNat 0, .ofNat 4), (33, 125, .ofNat 0, .ofNat 5), (33, 127, .negSucc 0, .ofNat 143)], [(10, 210, .ofNat 0, .ofNat 29), (32, 1, .ofNat 32, .ofNat 32)], [10], (some (0, .ofNat 0, .ofNat 8)), 3, false)
theorem c_xr_31_0 (hL : L < 2 ^ 31) : ci L xs 123 k_xr_31_0 :=
  mi_ok (fc := 9000) (f := 9000) (cuts := []) (xk := jx) cl_lok cl_hrf (cl_hro L xs) hL jx_ok (by decide +kernel)
def k_xr_31_1 : ct_C := ([(2, .ofNat 8, .ofNat 8)], [(10, 210, .ofNat 0, .ofNat 29), (32, 1, .ofNat 31, .ofNat 31), (32, 2, .ofNat 32, .ofNat 40), (33, 124, .ofNat 5, .ofNat 5), (33, 125, .ofNat 0, .ofNat 29), (33, 127, .negSucc 0, .ofNat 143)], [(10, 210, .ofNat 0, .ofNat 29), (32, 1, .ofNat 32, .ofNat 32)], [10], (some (0, .ofNat 0, .ofNat 8)), 3, false)
theorem c_xr_31_1 (hL : L < 2 ^ 31) : ci L xs 123 k_xr_31_1 :=
  mi_ok (fc := 9000) (f := 9000) (cuts := []) (xk := jx) cl_lok cl_hrf (cl_hro L xs) hL jx_ok (by decide +kernel)
def k_xr_31_2 : ct_C := ([(2, .ofNat 8, .ofNat 8)], [(10, 210, .ofNat 0, .ofNat 29), (32, 1, .ofNat 31, .ofNat 31), (32, 2, .ofNat 32, .ofNat 40), (33, 124, .ofNat 6, .ofNat 6), (33, 125, .ofNat 0, .ofNat 11), (33, 127, .negSucc 0, .ofNat 143)], [(10, 210, .ofNat 0, .ofNat 29), (32, 1, .ofNat 32, .ofNat 32)], [10], (some (0, .ofNat 0, .ofNat 8)), 3, false)
theorem c_xr_31_2 (hL : L < 2 ^ 31) : ci L xs 123 k_xr_31_2 :=
  mi_ok (fc := 9000) (f := 9000) (cuts := []) (xk := jx) cl_lok cl_hrf (cl_hro L xs) hL jx_ok (by decide +kernel)
def k_xr_31_3 : ct_C := ([(2, .ofNat 8, .ofNat 8)], [(10, 210, .ofNat 0, .ofNat 29), (32, 1, .ofNat 31, .ofNat 31), (32, 2, .ofNat 32, .ofNat 40), (33, 124, .ofNat 7, .ofNat 7), (33, 125, .ofNat 0, .ofNat 0), (33, 127, .ofNat 0, .ofNat 29)], [(10, 210, .ofNat 0, .ofNat 29), (32, 1, .ofNat 32, .ofNat 32)], [10], (some (0, .ofNat 0, .ofNat 8)), 3, false)
theorem c_xr_31_3 (hL : L < 2 ^ 31) : ci L xs 123 k_xr_31_3 :=
  mi_ok (fc := 9000) (f := 9000) (cuts := []) (xk := jx) cl_lok cl_hrf (cl_hro L xs) hL jx_ok (by decide +kernel)
def k_xr_31 : ct_C := ([(2, .ofNat 8, .ofNat 8)], [(10, 210, .ofNat 0, .ofNat 29), (32, 1, .ofNat 31, .ofNat 31)], [(10, 210, .ofNat 0, .ofNat 29), (32, 1, .ofNat 0, .ofNat 40)], [10], (some (0, .negSucc 4, .ofNat 8)), 3, false)
theorem s_xr_31 (M : Nat → Nat → Int) (hm : sx_mok cl_ly M) (hJ : JJ M) (hg : ct_g k_xr_31.2.1 M) : ∃ m ∈ [k_xr_31_e, k_xr_31_0, k_xr_31_1, k_xr_31_2, k_xr_31_3], ct_g m.2.1 M := by
  have hv : M 32 1 = 31 := by
    have h := hg (32, 1, .ofNat 31, .ofNat 31) (List.mem_cons_of_mem _ List.mem_cons_self)
    exact Int.le_antisymm h.2 h.1
  have hk := jr_kn hm
  have hu := jr_un hm
  have hd := hJ.2.2.1
  have he := hJ.2.2.2
  by_cases h0 : M 32 2 = 31
  · exact ⟨k_xr_31_e, List.mem_cons_self, (jc (by show (31 : Int) ≤ M 32 1; omega) (by show M 32 1 ≤ (31 : Int); omega) (jc (by show (31 : Int) ≤ M 32 2; omega) (by show M 32 2 ≤ (31 : Int); omega) jn))⟩
  · have h8 : jp (M 33 124) (M 33 125) (M 33 126) (M 33 127) := hJ.1 31 (by decide)
    obtain ⟨⟨b1, b2, b3, b4⟩, h8⟩ := h8
    rcases h8 with h8 | h8 | h8 | h8
    · exact ⟨k_xr_31_0, (List.mem_cons_of_mem _ List.mem_cons_self), (jh (hg (10, 210, .ofNat 0, .ofNat 29) List.mem_cons_self) (jc (by show (31 : Int) ≤ M 32 1; omega) (by show M 32 1 ≤ (31 : Int); omega) (jc (by show (32 : Int) ≤ M 32 2; omega) (by show M 32 2 ≤ (40 : Int); omega) (jc (by show (0 : Int) ≤ M 33 124; omega) (by show M 33 124 ≤ (4 : Int); omega) (jc (by show (0 : Int) ≤ M 33 125; omega) (by show M 33 125 ≤ (5 : Int); omega) (jc (by show (-1 : Int) ≤ M 33 127; omega) (by show M 33 127 ≤ (143 : Int); omega) jn))))))⟩
    · exact ⟨k_xr_31_1, (List.mem_cons_of_mem _ (List.mem_cons_of_mem _ List.mem_cons_self)), (jh (hg (10, 210, .ofNat 0, .ofNat 29) List.mem_cons_self) (jc (by show (31 : Int) ≤ M 32 1; omega) (by show M 32 1 ≤ (31 : Int); omega) (jc (by show (32 : Int) ≤ M 32 2; omega) (by show M 32 2 ≤ (40 : Int); omega) (jc (by show (5 : Int) ≤ M 33 124; omega) (by show M 33 124 ≤ (5 : Int); omega) (jc (by show (0 : Int) ≤ M 33 125; omega) (by show M 33 125 ≤ (29 : Int); omega) (jc (by show (-1 : Int) ≤ M 33 127; omega) (by show M 33 127 ≤ (143 : Int); omega) jn))))))⟩
    · exact ⟨k_xr_31_2, (List.mem_cons_of_mem _ (List.mem_cons_of_mem _ (List.mem_cons_of_mem _ List.mem_cons_self))), (jh (hg (10, 210, .ofNat 0, .ofNat 29) List.mem_cons_self) (jc (by show (31 : Int) ≤ M 32 1; omega) (by show M 32 1 ≤ (31 : Int); omega) (jc (by show (32 : Int) ≤ M 32 2; omega) (by show M 32 2 ≤ (40 : Int); omega) (jc (by show (6 : Int) ≤ M 33 124; omega) (by show M 33 124 ≤ (6 : Int); omega) (jc (by show (0 : Int) ≤ M 33 125; omega) (by show M 33 125 ≤ (11 : Int); omega) (jc (by show (-1 : Int) ≤ M 33 127; omega) (by show M 33 127 ≤ (143 : Int); omega) jn))))))⟩
    · exact ⟨k_xr_31_3, (List.mem_cons_of_mem _ (List.mem_cons_of_mem _ (List.mem_cons_of_mem _ (List.mem_cons_of_mem _ List.mem_cons_self)))), (jh (hg (10, 210, .ofNat 0, .ofNat 29) List.mem_cons_self) (jc (by show (31 : Int) ≤ M 32 1; omega) (by show M 32 1 ≤ (31 : Int); omega) (jc (by show (32 : Int) ≤ M 32 2; omega) (by show M 32 2 ≤ (40 : Int); omega) (jc (by show (7 : Int) ≤ M 33 124; omega) (by show M 33 124 ≤ (7 : Int); omega) (jc (by show (0 : Int) ≤ M 33 125; omega) (by show M 33 125 ≤ (0 : Int); omega) (jc (by show (0 : Int) ≤ M 33 127; omega) (by show M 33 127 ≤ (29 : Int); omega) jn))))))⟩
theorem c_xr_31 (hL : L < 2 ^ 31) : ci L xs 123 k_xr_31 :=
  ci_j_ok (ms := [k_xr_31_e, k_xr_31_0, k_xr_31_1, k_xr_31_2, k_xr_31_3]) (jl_cons (c_xr_31_e hL) (jl_cons (c_xr_31_0 hL) (jl_cons (c_xr_31_1 hL) (jl_cons (c_xr_31_2 hL) (jl_cons (c_xr_31_3 hL) jl_nil))))) s_xr_31 (by decide +kernel)
def k_xr_32_e : ct_C := ([(2, .ofNat 8, .ofNat 8)], [(32, 1, .ofNat 32, .ofNat 32), (32, 2, .ofNat 32, .ofNat 32)], [], [], (some (0, .negSucc 4, .negSucc 4)), 1, false)
theorem c_xr_32_e (hL : L < 2 ^ 31) : ci L xs 123 k_xr_32_e :=
  mi_ok (fc := 9000) (f := 9000) (cuts := []) (xk := jx) cl_lok cl_hrf (cl_hro L xs) hL jx_ok (by decide +kernel)
def k_xr_32_0 : ct_C := ([(2, .ofNat 8, .ofNat 8)], [(10, 210, .ofNat 0, .ofNat 29), (32, 1, .ofNat 32, .ofNat 32), (32, 2, .ofNat 33, .ofNat 40), (33, 128, .ofNat 0, .ofNat 4), (33, 129, .ofNat 0, .ofNat 5), (33, 131, .negSucc 0, .ofNat 143)], [(10, 210, .ofNat 0, .ofNat 29), (32, 1, .ofNat 33, .ofNat 33)], [10], (some (0, .ofNat 0, .ofNat 7)), 3, false)
theorem c_xr_32_0 (hL : L < 2 ^ 31) : ci L xs 123 k_xr_32_0 :=
  mi_ok (fc := 9000) (f := 9000) (cuts := []) (xk := jx) cl_lok cl_hrf (cl_hro L xs) hL jx_ok (by decide +kernel)
def k_xr_32_1 : ct_C := ([(2, .ofNat 8, .ofNat 8)], [(10, 210, .ofNat 0, .ofNat 29), (32, 1, .ofNat 32, .ofNat 32), (32, 2, .ofNat 33, .ofNat 40), (33, 128, .ofNat 5, .ofNat 5), (33, 129, .ofNat 0, .ofNat 29), (33, 131, .negSucc 0, .ofNat 143)], [(10, 210, .ofNat 0, .ofNat 29), (32, 1, .ofNat 33, .ofNat 33)], [10], (some (0, .ofNat 0, .ofNat 7)), 3, false)
theorem c_xr_32_1 (hL : L < 2 ^ 31) : ci L xs 123 k_xr_32_1 :=
  mi_ok (fc := 9000) (f := 9000) (cuts := []) (xk := jx) cl_lok cl_hrf (cl_hro L xs) hL jx_ok (by decide +kernel)
def k_xr_32_2 : ct_C := ([(2, .ofNat 8, .ofNat 8)], [(10, 210, .ofNat 0, .ofNat 29), (32, 1, .ofNat 32, .ofNat 32), (32, 2, .ofNat 33, .ofNat 40), (33, 128, .ofNat 6, .ofNat 6), (33, 129, .ofNat 0, .ofNat 11), (33, 131, .negSucc 0, .ofNat 143)], [(10, 210, .ofNat 0, .ofNat 29), (32, 1, .ofNat 33, .ofNat 33)], [10], (some (0, .ofNat 0, .ofNat 7)), 3, false)
theorem c_xr_32_2 (hL : L < 2 ^ 31) : ci L xs 123 k_xr_32_2 :=
  mi_ok (fc := 9000) (f := 9000) (cuts := []) (xk := jx) cl_lok cl_hrf (cl_hro L xs) hL jx_ok (by decide +kernel)
def k_xr_32_3 : ct_C := ([(2, .ofNat 8, .ofNat 8)], [(10, 210, .ofNat 0, .ofNat 29), (32, 1, .ofNat 32, .ofNat 32), (32, 2, .ofNat 33, .ofNat 40), (33, 128, .ofNat 7, .ofNat 7), (33, 129, .ofNat 0, .ofNat 0), (33, 131, .ofNat 0, .ofNat 29)], [(10, 210, .ofNat 0, .ofNat 29), (32, 1, .ofNat 33, .ofNat 33)], [10], (some (0, .ofNat 0, .ofNat 7)), 3, false)
theorem c_xr_32_3 (hL : L < 2 ^ 31) : ci L xs 123 k_xr_32_3 :=
  mi_ok (fc := 9000) (f := 9000) (cuts := []) (xk := jx) cl_lok cl_hrf (cl_hro L xs) hL jx_ok (by decide +kernel)
def k_xr_32 : ct_C := ([(2, .ofNat 8, .ofNat 8)], [(10, 210, .ofNat 0, .ofNat 29), (32, 1, .ofNat 32, .ofNat 32)], [(10, 210, .ofNat 0, .ofNat 29), (32, 1, .ofNat 0, .ofNat 40)], [10], (some (0, .negSucc 4, .ofNat 7)), 3, false)
theorem s_xr_32 (M : Nat → Nat → Int) (hm : sx_mok cl_ly M) (hJ : JJ M) (hg : ct_g k_xr_32.2.1 M) : ∃ m ∈ [k_xr_32_e, k_xr_32_0, k_xr_32_1, k_xr_32_2, k_xr_32_3], ct_g m.2.1 M := by
  have hv : M 32 1 = 32 := by
    have h := hg (32, 1, .ofNat 32, .ofNat 32) (List.mem_cons_of_mem _ List.mem_cons_self)
    exact Int.le_antisymm h.2 h.1
  have hk := jr_kn hm
  have hu := jr_un hm
  have hd := hJ.2.2.1
  have he := hJ.2.2.2
  by_cases h0 : M 32 2 = 32
  · exact ⟨k_xr_32_e, List.mem_cons_self, (jc (by show (32 : Int) ≤ M 32 1; omega) (by show M 32 1 ≤ (32 : Int); omega) (jc (by show (32 : Int) ≤ M 32 2; omega) (by show M 32 2 ≤ (32 : Int); omega) jn))⟩
  · have h8 : jp (M 33 128) (M 33 129) (M 33 130) (M 33 131) := hJ.1 32 (by decide)
    obtain ⟨⟨b1, b2, b3, b4⟩, h8⟩ := h8
    rcases h8 with h8 | h8 | h8 | h8
    · exact ⟨k_xr_32_0, (List.mem_cons_of_mem _ List.mem_cons_self), (jh (hg (10, 210, .ofNat 0, .ofNat 29) List.mem_cons_self) (jc (by show (32 : Int) ≤ M 32 1; omega) (by show M 32 1 ≤ (32 : Int); omega) (jc (by show (33 : Int) ≤ M 32 2; omega) (by show M 32 2 ≤ (40 : Int); omega) (jc (by show (0 : Int) ≤ M 33 128; omega) (by show M 33 128 ≤ (4 : Int); omega) (jc (by show (0 : Int) ≤ M 33 129; omega) (by show M 33 129 ≤ (5 : Int); omega) (jc (by show (-1 : Int) ≤ M 33 131; omega) (by show M 33 131 ≤ (143 : Int); omega) jn))))))⟩
    · exact ⟨k_xr_32_1, (List.mem_cons_of_mem _ (List.mem_cons_of_mem _ List.mem_cons_self)), (jh (hg (10, 210, .ofNat 0, .ofNat 29) List.mem_cons_self) (jc (by show (32 : Int) ≤ M 32 1; omega) (by show M 32 1 ≤ (32 : Int); omega) (jc (by show (33 : Int) ≤ M 32 2; omega) (by show M 32 2 ≤ (40 : Int); omega) (jc (by show (5 : Int) ≤ M 33 128; omega) (by show M 33 128 ≤ (5 : Int); omega) (jc (by show (0 : Int) ≤ M 33 129; omega) (by show M 33 129 ≤ (29 : Int); omega) (jc (by show (-1 : Int) ≤ M 33 131; omega) (by show M 33 131 ≤ (143 : Int); omega) jn))))))⟩
    · exact ⟨k_xr_32_2, (List.mem_cons_of_mem _ (List.mem_cons_of_mem _ (List.mem_cons_of_mem _ List.mem_cons_self))), (jh (hg (10, 210, .ofNat 0, .ofNat 29) List.mem_cons_self) (jc (by show (32 : Int) ≤ M 32 1; omega) (by show M 32 1 ≤ (32 : Int); omega) (jc (by show (33 : Int) ≤ M 32 2; omega) (by show M 32 2 ≤ (40 : Int); omega) (jc (by show (6 : Int) ≤ M 33 128; omega) (by show M 33 128 ≤ (6 : Int); omega) (jc (by show (0 : Int) ≤ M 33 129; omega) (by show M 33 129 ≤ (11 : Int); omega) (jc (by show (-1 : Int) ≤ M 33 131; omega) (by show M 33 131 ≤ (143 : Int); omega) jn))))))⟩
    · exact ⟨k_xr_32_3, (List.mem_cons_of_mem _ (List.mem_cons_of_mem _ (List.mem_cons_of_mem _ (List.mem_cons_of_mem _ List.mem_cons_self)))), (jh (hg (10, 210, .ofNat 0, .ofNat 29) List.mem_cons_self) (jc (by show (32 : Int) ≤ M 32 1; omega) (by show M 32 1 ≤ (32 : Int); omega) (jc (by show (33 : Int) ≤ M 32 2; omega) (by show M 32 2 ≤ (40 : Int); omega) (jc (by show (7 : Int) ≤ M 33 128; omega) (by show M 33 128 ≤ (7 : Int); omega) (jc (by show (0 : Int) ≤ M 33 129; omega) (by show M 33 129 ≤ (0 : Int); omega) (jc (by show (0 : Int) ≤ M 33 131; omega) (by show M 33 131 ≤ (29 : Int); omega) jn))))))⟩
theorem c_xr_32 (hL : L < 2 ^ 31) : ci L xs 123 k_xr_32 :=
  ci_j_ok (ms := [k_xr_32_e, k_xr_32_0, k_xr_32_1, k_xr_32_2, k_xr_32_3]) (jl_cons (c_xr_32_e hL) (jl_cons (c_xr_32_0 hL) (jl_cons (c_xr_32_1 hL) (jl_cons (c_xr_32_2 hL) (jl_cons (c_xr_32_3 hL) jl_nil))))) s_xr_32 (by decide +kernel)
def k_xr_33_e : ct_C := ([(2, .ofNat 8, .ofNat 8)], [(32, 1, .ofNat 33, .ofNat 33), (32, 2, .ofNat 33, .ofNat 33)], [], [], (some (0, .negSucc 4, .negSucc 4)), 1, false)
theorem c_xr_33_e (hL : L < 2 ^ 31) : ci L xs 123 k_xr_33_e :=
  mi_ok (fc := 9000) (f := 9000) (cuts := []) (xk := jx) cl_lok cl_hrf (cl_hro L xs) hL jx_ok (by decide +kernel)
def k_xr_33_0 : ct_C := ([(2, .ofNat 8, .ofNat 8)], [(10, 210, .ofNat 0, .ofNat 29), (32, 1, .ofNat 33, .ofNat 33), (32, 2, .ofNat 34, .ofNat 40), (33, 132, .ofNat 0, .ofNat 4), (33, 133, .ofNat 0, .ofNat 5), (33, 135, .negSucc 0, .ofNat 143)], [(10, 210, .ofNat 0, .ofNat 29), (32, 1, .ofNat 34, .ofNat 34)], [10], (some (0, .ofNat 0, .ofNat 6)), 3, false)
theorem c_xr_33_0 (hL : L < 2 ^ 31) : ci L xs 123 k_xr_33_0 :=
  mi_ok (fc := 9000) (f := 9000) (cuts := []) (xk := jx) cl_lok cl_hrf (cl_hro L xs) hL jx_ok (by decide +kernel)
def k_xr_33_1 : ct_C := ([(2, .ofNat 8, .ofNat 8)], [(10, 210, .ofNat 0, .ofNat 29), (32, 1, .ofNat 33, .ofNat 33), (32, 2, .ofNat 34, .ofNat 40), (33, 132, .ofNat 5, .ofNat 5), (33, 133, .ofNat 0, .ofNat 29), (33, 135, .negSucc 0, .ofNat 143)], [(10, 210, .ofNat 0, .ofNat 29), (32, 1, .ofNat 34, .ofNat 34)], [10], (some (0, .ofNat 0, .ofNat 6)), 3, false)
theorem c_xr_33_1 (hL : L < 2 ^ 31) : ci L xs 123 k_xr_33_1 :=
  mi_ok (fc := 9000) (f := 9000) (cuts := []) (xk := jx) cl_lok cl_hrf (cl_hro L xs) hL jx_ok (by decide +kernel)
def k_xr_33_2 : ct_C := ([(2, .ofNat 8, .ofNat 8)], [(10, 210, .ofNat 0, .ofNat 29), (32, 1, .ofNat 33, .ofNat 33), (32, 2, .ofNat 34, .ofNat 40), (33, 132, .ofNat 6, .ofNat 6), (33, 133, .ofNat 0, .ofNat 11), (33, 135, .negSucc 0, .ofNat 143)], [(10, 210, .ofNat 0, .ofNat 29), (32, 1, .ofNat 34, .ofNat 34)], [10], (some (0, .ofNat 0, .ofNat 6)), 3, false)
theorem c_xr_33_2 (hL : L < 2 ^ 31) : ci L xs 123 k_xr_33_2 :=
  mi_ok (fc := 9000) (f := 9000) (cuts := []) (xk := jx) cl_lok cl_hrf (cl_hro L xs) hL jx_ok (by decide +kernel)
def k_xr_33_3 : ct_C := ([(2, .ofNat 8, .ofNat 8)], [(10, 210, .ofNat 0, .ofNat 29), (32, 1, .ofNat 33, .ofNat 33), (32, 2, .ofNat 34, .ofNat 40), (33, 132, .ofNat 7, .ofNat 7), (33, 133, .ofNat 0, .ofNat 0), (33, 135, .ofNat 0, .ofNat 29)], [(10, 210, .ofNat 0, .ofNat 29), (32, 1, .ofNat 34, .ofNat 34)], [10], (some (0, .ofNat 0, .ofNat 6)), 3, false)
theorem c_xr_33_3 (hL : L < 2 ^ 31) : ci L xs 123 k_xr_33_3 :=
  mi_ok (fc := 9000) (f := 9000) (cuts := []) (xk := jx) cl_lok cl_hrf (cl_hro L xs) hL jx_ok (by decide +kernel)
def k_xr_33 : ct_C := ([(2, .ofNat 8, .ofNat 8)], [(10, 210, .ofNat 0, .ofNat 29), (32, 1, .ofNat 33, .ofNat 33)], [(10, 210, .ofNat 0, .ofNat 29), (32, 1, .ofNat 0, .ofNat 40)], [10], (some (0, .negSucc 4, .ofNat 6)), 3, false)
theorem s_xr_33 (M : Nat → Nat → Int) (hm : sx_mok cl_ly M) (hJ : JJ M) (hg : ct_g k_xr_33.2.1 M) : ∃ m ∈ [k_xr_33_e, k_xr_33_0, k_xr_33_1, k_xr_33_2, k_xr_33_3], ct_g m.2.1 M := by
  have hv : M 32 1 = 33 := by
    have h := hg (32, 1, .ofNat 33, .ofNat 33) (List.mem_cons_of_mem _ List.mem_cons_self)
    exact Int.le_antisymm h.2 h.1
  have hk := jr_kn hm
  have hu := jr_un hm
  have hd := hJ.2.2.1
  have he := hJ.2.2.2
  by_cases h0 : M 32 2 = 33
  · exact ⟨k_xr_33_e, List.mem_cons_self, (jc (by show (33 : Int) ≤ M 32 1; omega) (by show M 32 1 ≤ (33 : Int); omega) (jc (by show (33 : Int) ≤ M 32 2; omega) (by show M 32 2 ≤ (33 : Int); omega) jn))⟩
  · have h8 : jp (M 33 132) (M 33 133) (M 33 134) (M 33 135) := hJ.1 33 (by decide)
    obtain ⟨⟨b1, b2, b3, b4⟩, h8⟩ := h8
    rcases h8 with h8 | h8 | h8 | h8
    · exact ⟨k_xr_33_0, (List.mem_cons_of_mem _ List.mem_cons_self), (jh (hg (10, 210, .ofNat 0, .ofNat 29) List.mem_cons_self) (jc (by show (33 : Int) ≤ M 32 1; omega) (by show M 32 1 ≤ (33 : Int); omega) (jc (by show (34 : Int) ≤ M 32 2; omega) (by show M 32 2 ≤ (40 : Int); omega) (jc (by show (0 : Int) ≤ M 33 132; omega) (by show M 33 132 ≤ (4 : Int); omega) (jc (by show (0 : Int) ≤ M 33 133; omega) (by show M 33 133 ≤ (5 : Int); omega) (jc (by show (-1 : Int) ≤ M 33 135; omega) (by show M 33 135 ≤ (143 : Int); omega) jn))))))⟩
    · exact ⟨k_xr_33_1, (List.mem_cons_of_mem _ (List.mem_cons_of_mem _ List.mem_cons_self)), (jh (hg (10, 210, .ofNat 0, .ofNat 29) List.mem_cons_self) (jc (by show (33 : Int) ≤ M 32 1; omega) (by show M 32 1 ≤ (33 : Int); omega) (jc (by show (34 : Int) ≤ M 32 2; omega) (by show M 32 2 ≤ (40 : Int); omega) (jc (by show (5 : Int) ≤ M 33 132; omega) (by show M 33 132 ≤ (5 : Int); omega) (jc (by show (0 : Int) ≤ M 33 133; omega) (by show M 33 133 ≤ (29 : Int); omega) (jc (by show (-1 : Int) ≤ M 33 135; omega) (by show M 33 135 ≤ (143 : Int); omega) jn))))))⟩
    · exact ⟨k_xr_33_2, (List.mem_cons_of_mem _ (List.mem_cons_of_mem _ (List.mem_cons_of_mem _ List.mem_cons_self))), (jh (hg (10, 210, .ofNat 0, .ofNat 29) List.mem_cons_self) (jc (by show (33 : Int) ≤ M 32 1; omega) (by show M 32 1 ≤ (33 : Int); omega) (jc (by show (34 : Int) ≤ M 32 2; omega) (by show M 32 2 ≤ (40 : Int); omega) (jc (by show (6 : Int) ≤ M 33 132; omega) (by show M 33 132 ≤ (6 : Int); omega) (jc (by show (0 : Int) ≤ M 33 133; omega) (by show M 33 133 ≤ (11 : Int); omega) (jc (by show (-1 : Int) ≤ M 33 135; omega) (by show M 33 135 ≤ (143 : Int); omega) jn))))))⟩
    · exact ⟨k_xr_33_3, (List.mem_cons_of_mem _ (List.mem_cons_of_mem _ (List.mem_cons_of_mem _ (List.mem_cons_of_mem _ List.mem_cons_self)))), (jh (hg (10, 210, .ofNat 0, .ofNat 29) List.mem_cons_self) (jc (by show (33 : Int) ≤ M 32 1; omega) (by show M 32 1 ≤ (33 : Int); omega) (jc (by show (34 : Int) ≤ M 32 2; omega) (by show M 32 2 ≤ (40 : Int); omega) (jc (by show (7 : Int) ≤ M 33 132; omega) (by show M 33 132 ≤ (7 : Int); omega) (jc (by show (0 : Int) ≤ M 33 133; omega) (by show M 33 133 ≤ (0 : Int); omega) (jc (by show (0 : Int) ≤ M 33 135; omega) (by show M 33 135 ≤ (29 : Int); omega) jn))))))⟩
theorem c_xr_33 (hL : L < 2 ^ 31) : ci L xs 123 k_xr_33 :=
  ci_j_ok (ms := [k_xr_33_e, k_xr_33_0, k_xr_33_1, k_xr_33_2, k_xr_33_3]) (jl_cons (c_xr_33_e hL) (jl_cons (c_xr_33_0 hL) (jl_cons (c_xr_33_1 hL) (jl_cons (c_xr_33_2 hL) (jl_cons (c_xr_33_3 hL) jl_nil))))) s_xr_33 (by decide +kernel)
def k_xr_34_e : ct_C := ([(2, .ofNat 8, .ofNat 8)], [(32, 1, .ofNat 34, .ofNat 34), (32, 2, .ofNat 34, .ofNat 34)], [], [], (some (0, .negSucc 4, .negSucc 4)), 1, false)
theorem c_xr_34_e (hL : L < 2 ^ 31) : ci L xs 123 k_xr_34_e :=
  mi_ok (fc := 9000) (f := 9000) (cuts := []) (xk := jx) cl_lok cl_hrf (cl_hro L xs) hL jx_ok (by decide +kernel)
def k_xr_34_0 : ct_C := ([(2, .ofNat 8, .ofNat 8)], [(10, 210, .ofNat 0, .ofNat 29), (32, 1, .ofNat 34, .ofNat 34), (32, 2, .ofNat 35, .ofNat 40), (33, 136, .ofNat 0, .ofNat 4), (33, 137, .ofNat 0, .ofNat 5), (33, 139, .negSucc 0, .ofNat 143)], [(10, 210, .ofNat 0, .ofNat 29), (32, 1, .ofNat 35, .ofNat 35)], [10], (some (0, .ofNat 0, .ofNat 5)), 3, false)
theorem c_xr_34_0 (hL : L < 2 ^ 31) : ci L xs 123 k_xr_34_0 :=
  mi_ok (fc := 9000) (f := 9000) (cuts := []) (xk := jx) cl_lok cl_hrf (cl_hro L xs) hL jx_ok (by decide +kernel)
def k_xr_34_1 : ct_C := ([(2, .ofNat 8, .ofNat 8)], [(10, 210, .ofNat 0, .ofNat 29), (32, 1, .ofNat 34, .ofNat 34), (32, 2, .ofNat 35, .ofNat 40), (33, 136, .ofNat 5, .ofNat 5), (33, 137, .ofNat 0, .ofNat 29), (33, 139, .negSucc 0, .ofNat 143)], [(10, 210, .ofNat 0, .ofNat 29), (32, 1, .ofNat 35, .ofNat 35)], [10], (some (0, .ofNat 0, .ofNat 5)), 3, false)
theorem c_xr_34_1 (hL : L < 2 ^ 31) : ci L xs 123 k_xr_34_1 :=
  mi_ok (fc := 9000) (f := 9000) (cuts := []) (xk := jx) cl_lok cl_hrf (cl_hro L xs) hL jx_ok (by decide +kernel)
def k_xr_34_2 : ct_C := ([(2, .ofNat 8, .ofNat 8)], [(10, 210, .ofNat 0, .ofNat 29), (32, 1, .ofNat 34, .ofNat 34), (32, 2, .ofNat 35, .ofNat 40), (33, 136, .ofNat 6, .ofNat 6), (33, 137, .ofNat 0, .ofNat 11), (33, 139, .negSucc 0, .ofNat 143)], [(10, 210, .ofNat 0, .ofNat 29), (32, 1, .ofNat 35, .ofNat 35)], [10], (some (0, .ofNat 0, .ofNat 5)), 3, false)
theorem c_xr_34_2 (hL : L < 2 ^ 31) : ci L xs 123 k_xr_34_2 :=
  mi_ok (fc := 9000) (f := 9000) (cuts := []) (xk := jx) cl_lok cl_hrf (cl_hro L xs) hL jx_ok (by decide +kernel)
def k_xr_34_3 : ct_C := ([(2, .ofNat 8, .ofNat 8)], [(10, 210, .ofNat 0, .ofNat 29), (32, 1, .ofNat 34, .ofNat 34), (32, 2, .ofNat 35, .ofNat 40), (33, 136, .ofNat 7, .ofNat 7), (33, 137, .ofNat 0, .ofNat 0), (33, 139, .ofNat 0, .ofNat 29)], [(10, 210, .ofNat 0, .ofNat 29), (32, 1, .ofNat 35, .ofNat 35)], [10], (some (0, .ofNat 0, .ofNat 5)), 3, false)
theorem c_xr_34_3 (hL : L < 2 ^ 31) : ci L xs 123 k_xr_34_3 :=
  mi_ok (fc := 9000) (f := 9000) (cuts := []) (xk := jx) cl_lok cl_hrf (cl_hro L xs) hL jx_ok (by decide +kernel)
def k_xr_34 : ct_C := ([(2, .ofNat 8, .ofNat 8)], [(10, 210, .ofNat 0, .ofNat 29), (32, 1, .ofNat 34, .ofNat 34)], [(10, 210, .ofNat 0, .ofNat 29), (32, 1, .ofNat 0, .ofNat 40)], [10], (some (0, .negSucc 4, .ofNat 5)), 3, false)
theorem s_xr_34 (M : Nat → Nat → Int) (hm : sx_mok cl_ly M) (hJ : JJ M) (hg : ct_g k_xr_34.2.1 M) : ∃ m ∈ [k_xr_34_e, k_xr_34_0, k_xr_34_1, k_xr_34_2, k_xr_34_3], ct_g m.2.1 M := by
  have hv : M 32 1 = 34 := by
    have h := hg (32, 1, .ofNat 34, .ofNat 34) (List.mem_cons_of_mem _ List.mem_cons_self)
    exact Int.le_antisymm h.2 h.1
  have hk := jr_kn hm
  have hu := jr_un hm
  have hd := hJ.2.2.1
  have he := hJ.2.2.2
  by_cases h0 : M 32 2 = 34
  · exact ⟨k_xr_34_e, List.mem_cons_self, (jc (by show (34 : Int) ≤ M 32 1; omega) (by show M 32 1 ≤ (34 : Int); omega) (jc (by show (34 : Int) ≤ M 32 2; omega) (by show M 32 2 ≤ (34 : Int); omega) jn))⟩
  · have h8 : jp (M 33 136) (M 33 137) (M 33 138) (M 33 139) := hJ.1 34 (by decide)
    obtain ⟨⟨b1, b2, b3, b4⟩, h8⟩ := h8
    rcases h8 with h8 | h8 | h8 | h8
    · exact ⟨k_xr_34_0, (List.mem_cons_of_mem _ List.mem_cons_self), (jh (hg (10, 210, .ofNat 0, .ofNat 29) List.mem_cons_self) (jc (by show (34 : Int) ≤ M 32 1; omega) (by show M 32 1 ≤ (34 : Int); omega) (jc (by show (35 : Int) ≤ M 32 2; omega) (by show M 32 2 ≤ (40 : Int); omega) (jc (by show (0 : Int) ≤ M 33 136; omega) (by show M 33 136 ≤ (4 : Int); omega) (jc (by show (0 : Int) ≤ M 33 137; omega) (by show M 33 137 ≤ (5 : Int); omega) (jc (by show (-1 : Int) ≤ M 33 139; omega) (by show M 33 139 ≤ (143 : Int); omega) jn))))))⟩
    · exact ⟨k_xr_34_1, (List.mem_cons_of_mem _ (List.mem_cons_of_mem _ List.mem_cons_self)), (jh (hg (10, 210, .ofNat 0, .ofNat 29) List.mem_cons_self) (jc (by show (34 : Int) ≤ M 32 1; omega) (by show M 32 1 ≤ (34 : Int); omega) (jc (by show (35 : Int) ≤ M 32 2; omega) (by show M 32 2 ≤ (40 : Int); omega) (jc (by show (5 : Int) ≤ M 33 136; omega) (by show M 33 136 ≤ (5 : Int); omega) (jc (by show (0 : Int) ≤ M 33 137; omega) (by show M 33 137 ≤ (29 : Int); omega) (jc (by show (-1 : Int) ≤ M 33 139; omega) (by show M 33 139 ≤ (143 : Int); omega) jn))))))⟩
    · exact ⟨k_xr_34_2, (List.mem_cons_of_mem _ (List.mem_cons_of_mem _ (List.mem_cons_of_mem _ List.mem_cons_self))), (jh (hg (10, 210, .ofNat 0, .ofNat 29) List.mem_cons_self) (jc (by show (34 : Int) ≤ M 32 1; omega) (by show M 32 1 ≤ (34 : Int); omega) (jc (by show (35 : Int) ≤ M 32 2; omega) (by show M 32 2 ≤ (40 : Int); omega) (jc (by show (6 : Int) ≤ M 33 136; omega) (by show M 33 136 ≤ (6 : Int); omega) (jc (by show (0 : Int) ≤ M 33 137; omega) (by show M 33 137 ≤ (11 : Int); omega) (jc (by show (-1 : Int) ≤ M 33 139; omega) (by show M 33 139 ≤ (143 : Int); omega) jn))))))⟩
    · exact ⟨k_xr_34_3, (List.mem_cons_of_mem _ (List.mem_cons_of_mem _ (List.mem_cons_of_mem _ (List.mem_cons_of_mem _ List.mem_cons_self)))), (jh (hg (10, 210, .ofNat 0, .ofNat 29) List.mem_cons_self) (jc (by show (34 : Int) ≤ M 32 1; omega) (by show M 32 1 ≤ (34 : Int); omega) (jc (by show (35 : Int) ≤ M 32 2; omega) (by show M 32 2 ≤ (40 : Int); omega) (jc (by show (7 : Int) ≤ M 33 136; omega) (by show M 33 136 ≤ (7 : Int); omega) (jc (by show (0 : Int) ≤ M 33 137; omega) (by show M 33 137 ≤ (0 : Int); omega) (jc (by show (0 : Int) ≤ M 33 139; omega) (by show M 33 139 ≤ (29 : Int); omega) jn))))))⟩
theorem c_xr_34 (hL : L < 2 ^ 31) : ci L xs 123 k_xr_34 :=
  ci_j_ok (ms := [k_xr_34_e, k_xr_34_0, k_xr_34_1, k_xr_34_2, k_xr_34_3]) (jl_cons (c_xr_34_e hL) (jl_cons (c_xr_34_0 hL) (jl_cons (c_xr_34_1 hL) (jl_cons (c_xr_34_2 hL) (jl_cons (c_xr_34_3 hL) jl_nil))))) s_xr_34 (by decide +kernel)
def k_xr_35_e : ct_C := ([(2, .ofNat 8, .ofNat 8)], [(32, 1, .ofNat 35, .ofNat 35), (32, 2, .ofNat 35, .ofNat 35)], [], [], (some (0, .negSucc 4, .negSucc 4)), 1, false)
theorem c_xr_35_e (hL : L < 2 ^ 31) : ci L xs 123 k_xr_35_e :=
  mi_ok (fc := 9000) (f := 9000) (cuts := []) (xk := jx) cl_lok cl_hrf (cl_hro L xs) hL jx_ok (by decide +kernel)
def k_xr_35_0 : ct_C := ([(2, .ofNat 8, .ofNat 8)], [(10, 210, .ofNat 0, .ofNat 29), (32, 1, .ofNat 35, .ofNat 35), (32, 2, .ofNat 36, .ofNat 40), (33, 140, .ofNat 0, .ofNat 4), (33, 141, .ofNat 0, .ofNat 5), (33, 143, .negSucc 0, .ofNat 143)], [(10, 210, .ofNat 0, .ofNat 29), (32, 1, .ofNat 36, .ofNat 36)], [10], (some (0, .ofNat 0, .ofNat 4)), 3, false)
theorem c_xr_35_0 (hL : L < 2 ^ 31) : ci L xs 123 k_xr_35_0 :=
  mi_ok (fc := 9000) (f := 9000) (cuts := []) (xk := jx) cl_lok cl_hrf (cl_hro L xs) hL jx_ok (by decide +kernel)
def k_xr_35_1 : ct_C := ([(2, .ofNat 8, .ofNat 8)], [(10, 210, .ofNat 0, .ofNat 29), (32, 1, .ofNat 35, .ofNat 35), (32, 2, .ofNat 36, .ofNat 40), (33, 140, .ofNat 5, .ofNat 5), (33, 141, .ofNat 0, .ofNat 29), (33, 143, .negSucc 0, .ofNat 143)], [(10, 210, .ofNat 0, .ofNat 29), (32, 1, .ofNat 36, .ofNat 36)], [10], (some (0, .ofNat 0, .ofNat 4)), 3, false)
theorem c_xr_35_1 (hL : L < 2 ^ 31) : ci L xs 123 k_xr_35_1 :=
  mi_ok (fc := 9000) (f := 9000) (cuts := []) (xk := jx) cl_lok cl_hrf (cl_hro L xs) hL jx_ok (by decide +kernel)
def k_xr_35_2 : ct_C := ([(2, .ofNat 8, .ofNat 8)], [(10, 210, .ofNat 0, .ofNat 29), (32, 1, .ofNat 35, .ofNat 35), (32, 2, .ofNat 36, .ofNat 40), (33, 140, .ofNat 6, .ofNat 6), (33, 141, .ofNat 0, .ofNat 11), (33, 143, .negSucc 0, .ofNat 143)], [(10, 210, .ofNat 0, .ofNat 29), (32, 1, .ofNat 36, .ofNat 36)], [10], (some (0, .ofNat 0, .ofNat 4)), 3, false)
theorem c_xr_35_2 (hL : L < 2 ^ 31) : ci L xs 123 k_xr_35_2 :=
  mi_ok (fc := 9000) (f := 9000) (cuts := []) (xk := jx) cl_lok cl_hrf (cl_hro L xs) hL jx_ok (by decide +kernel)
def k_xr_35_3 : ct_C := ([(2, .ofNat 8, .ofNat 8)], [(10, 210, .ofNat 0, .ofNat 29), (32, 1, .ofNat 35, .ofNat 35), (32, 2, .ofNat 36, .ofNat 40), (33, 140, .ofNat 7, .ofNat 7), (33, 141, .ofNat 0, .ofNat 0), (33, 143, .ofNat 0, .ofNat 29)], [(10, 210, .ofNat 0, .ofNat 29), (32, 1, .ofNat 36, .ofNat 36)], [10], (some (0, .ofNat 0, .ofNat 4)), 3, false)
theorem c_xr_35_3 (hL : L < 2 ^ 31) : ci L xs 123 k_xr_35_3 :=
  mi_ok (fc := 9000) (f := 9000) (cuts := []) (xk := jx) cl_lok cl_hrf (cl_hro L xs) hL jx_ok (by decide +kernel)
def k_xr_35 : ct_C := ([(2, .ofNat 8, .ofNat 8)], [(10, 210, .ofNat 0, .ofNat 29), (32, 1, .ofNat 35, .ofNat 35)], [(10, 210, .ofNat 0, .ofNat 29), (32, 1, .ofNat 0, .ofNat 40)], [10], (some (0, .negSucc 4, .ofNat 4)), 3, false)
theorem s_xr_35 (M : Nat → Nat → Int) (hm : sx_mok cl_ly M) (hJ : JJ M) (hg : ct_g k_xr_35.2.1 M) : ∃ m ∈ [k_xr_35_e, k_xr_35_0, k_xr_35_1, k_xr_35_2, k_xr_35_3], ct_g m.2.1 M := by
  have hv : M 32 1 = 35 := by
    have h := hg (32, 1, .ofNat 35, .ofNat 35) (List.mem_cons_of_mem _ List.mem_cons_self)
    exact Int.le_antisymm h.2 h.1
  have hk := jr_kn hm
  have hu := jr_un hm
  have hd := hJ.2.2.1
  have he := hJ.2.2.2
  by_cases h0 : M 32 2 = 35
  · exact ⟨k_xr_35_e, List.mem_cons_self, (jc (by show (35 : Int) ≤ M 32 1; omega) (by show M 32 1 ≤ (35 : Int); omega) (jc (by show (35 : Int) ≤ M 32 2; omega) (by show M 32 2 ≤ (35 : Int); omega) jn))⟩
  · have h8 : jp (M 33 140) (M 33 141) (M 33 142) (M 33 143) := hJ.1 35 (by decide)
    obtain ⟨⟨b1, b2, b3, b4⟩, h8⟩ := h8
    rcases h8 with h8 | h8 | h8 | h8
    · exact ⟨k_xr_35_0, (List.mem_cons_of_mem _ List.mem_cons_self), (jh (hg (10, 210, .ofNat 0, .ofNat 29) List.mem_cons_self) (jc (by show (35 : Int) ≤ M 32 1; omega) (by show M 32 1 ≤ (35 : Int); omega) (jc (by show (36 : Int) ≤ M 32 2; omega) (by show M 32 2 ≤ (40 : Int); omega) (jc (by show (0 : Int) ≤ M 33 140; omega) (by show M 33 140 ≤ (4 : Int); omega) (jc (by show (0 : Int) ≤ M 33 141; omega) (by show M 33 141 ≤ (5 : Int); omega) (jc (by show (-1 : Int) ≤ M 33 143; omega) (by show M 33 143 ≤ (143 : Int); omega) jn))))))⟩
    · exact ⟨k_xr_35_1, (List.mem_cons_of_mem _ (List.mem_cons_of_mem _ List.mem_cons_self)), (jh (hg (10, 210, .ofNat 0, .ofNat 29) List.mem_cons_self) (jc (by show (35 : Int) ≤ M 32 1; omega) (by show M 32 1 ≤ (35 : Int); omega) (jc (by show (36 : Int) ≤ M 32 2; omega) (by show M 32 2 ≤ (40 : Int); omega) (jc (by show (5 : Int) ≤ M 33 140; omega) (by show M 33 140 ≤ (5 : Int); omega) (jc (by show (0 : Int) ≤ M 33 141; omega) (by show M 33 141 ≤ (29 : Int); omega) (jc (by show (-1 : Int) ≤ M 33 143; omega) (by show M 33 143 ≤ (143 : Int); omega) jn))))))⟩
    · exact ⟨k_xr_35_2, (List.mem_cons_of_mem _ (List.mem_cons_of_mem _ (List.mem_cons_of_mem _ List.mem_cons_self))), (jh (hg (10, 210, .ofNat 0, .ofNat 29) List.mem_cons_self) (jc (by show (35 : Int) ≤ M 32 1; omega) (by show M 32 1 ≤ (35 : Int); omega) (jc (by show (36 : Int) ≤ M 32 2; omega) (by show M 32 2 ≤ (40 : Int); omega) (jc (by show (6 : Int) ≤ M 33 140; omega) (by show M 33 140 ≤ (6 : Int); omega) (jc (by show (0 : Int) ≤ M 33 141; omega) (by show M 33 141 ≤ (11 : Int); omega) (jc (by show (-1 : Int) ≤ M 33 143; omega) (by show M 33 143 ≤ (143 : Int); omega) jn))))))⟩
    · exact ⟨k_xr_35_3, (List.mem_cons_of_mem _ (List.mem_cons_of_mem _ (List.mem_cons_of_mem _ (List.mem_cons_of_mem _ List.mem_cons_self)))), (jh (hg (10, 210, .ofNat 0, .ofNat 29) List.mem_cons_self) (jc (by show (35 : Int) ≤ M 32 1; omega) (by show M 32 1 ≤ (35 : Int); omega) (jc (by show (36 : Int) ≤ M 32 2; omega) (by show M 32 2 ≤ (40 : Int); omega) (jc (by show (7 : Int) ≤ M 33 140; omega) (by show M 33 140 ≤ (7 : Int); omega) (jc (by show (0 : Int) ≤ M 33 141; omega) (by show M 33 141 ≤ (0 : Int); omega) (jc (by show (0 : Int) ≤ M 33 143; omega) (by show M 33 143 ≤ (29 : Int); omega) jn))))))⟩
theorem c_xr_35 (hL : L < 2 ^ 31) : ci L xs 123 k_xr_35 :=
  ci_j_ok (ms := [k_xr_35_e, k_xr_35_0, k_xr_35_1, k_xr_35_2, k_xr_35_3]) (jl_cons (c_xr_35_e hL) (jl_cons (c_xr_35_0 hL) (jl_cons (c_xr_35_1 hL) (jl_cons (c_xr_35_2 hL) (jl_cons (c_xr_35_3 hL) jl_nil))))) s_xr_35 (by decide +kernel)
def k_xr_36_e : ct_C := ([(2, .ofNat 8, .ofNat 8)], [(32, 1, .ofNat 36, .ofNat 36), (32, 2, .ofNat 36, .ofNat 36)], [], [], (some (0, .negSucc 4, .negSucc 4)), 1, false)
theorem c_xr_36_e (hL : L < 2 ^ 31) : ci L xs 123 k_xr_36_e :=
  mi_ok (fc := 9000) (f := 9000) (cuts := []) (xk := jx) cl_lok cl_hrf (cl_hro L xs) hL jx_ok (by decide +kernel)
def k_xr_36_0 : ct_C := ([(2, .ofNat 8, .ofNat 8)], [(10, 210, .ofNat 0, .ofNat 29), (32, 1, .ofNat 36, .ofNat 36), (32, 2, .ofNat 37, .ofNat 40), (33, 144, .ofNat 0, .ofNat 4), (33, 145, .ofNat 0, .ofNat 5), (33, 147, .negSucc 0, .ofNat 143)], [(10, 210, .ofNat 0, .ofNat 29), (32, 1, .ofNat 37, .ofNat 37)], [10], (some (0, .ofNat 0, .ofNat 3)), 3, false)
theorem c_xr_36_0 (hL : L < 2 ^ 31) : ci L xs 123 k_xr_36_0 :=
  mi_ok (fc := 9000) (f := 9000) (cuts := []) (xk := jx) cl_lok cl_hrf (cl_hro L xs) hL jx_ok (by decide +kernel)
end
