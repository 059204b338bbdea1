/-! mend, undo, redo, 4. -/
section
variable {L : Nat} {xs : Nat → Int32}
def k_xr_6_1 : ct_C := ([(2, .ofNat 8, .ofNat 8)], [(10, 210, .ofNat 0, .ofNat 29), (32, 1, .ofNat 6, .ofNat 6), (32, 2, .ofNat 7, .ofNat 40), (33, 24, .ofNat 5, .ofNat 5), (33, 25, .ofNat 0, .ofNat 29), (33, 27, .negSucc 0, .ofNat 143)], [(10, 210, .ofNat 0, .ofNat 29), (32, 1, .ofNat 7, .ofNat 7)], [10], (some (0, .ofNat 0, .ofNat 33)), 3, false)
theorem c_xr_6_1 (hL : L < 2 ^ 31) : ci L xs 123 k_xr_6_1 :=
  mi_ok (fc := 9000) (f := 9000) (cuts := []) (xk := jx) cl_lok cl_hrf (cl_hro L xs) hL jx_ok (by decide +kernel)
def k_xr_6_2 : ct_C := ([(2, .ofNat 8, .ofNat 8)], [(10, 210, .ofNat 0, .ofNat 29), (32, 1, .ofNat 6, .ofNat 6), (32, 2, .ofNat 7, .ofNat 40), (33, 24, .ofNat 6, .ofNat 6), (33, 25, .ofNat 0, .ofNat 11), (33, 27, .negSucc 0, .ofNat 143)], [(10, 210, .ofNat 0, .ofNat 29), (32, 1, .ofNat 7, .ofNat 7)], [10], (some (0, .ofNat 0, .ofNat 33)), 3, false)
theorem c_xr_6_2 (hL : L < 2 ^ 31) : ci L xs 123 k_xr_6_2 :=
  mi_ok (fc := 9000) (f := 9000) (cuts := []) (xk := jx) cl_lok cl_hrf (cl_hro L xs) hL jx_ok (by decide +kernel)
def k_xr_6_3 : ct_C := ([(2, .ofNat 8, .ofNat 8)], [(10, 210, .ofNat 0, .ofNat 29), (32, 1, .ofNat 6, .ofNat 6), (32, 2, .ofNat 7, .ofNat 40), (33, 24, .ofNat 7, .ofNat 7), (33, 25, .ofNat 0, .ofNat 0), (33, 27, .ofNat 0, .ofNat 29)], [(10, 210, .ofNat 0, .ofNat 29), (32, 1, .ofNat 7, .ofNat 7)], [10], (some (0, .ofNat 0, .ofNat 33)), 3, false)
theorem c_xr_6_3 (hL : L < 2 ^ 31) : ci L xs 123 k_xr_6_3 :=
  mi_ok (fc := 9000) (f := 9000) (cuts := []) (xk := jx) cl_lok cl_hrf (cl_hro L xs) hL jx_ok (by decide +kernel)
def k_xr_6 : ct_C := ([(2, .ofNat 8, .ofNat 8)], [(10, 210, .ofNat 0, .ofNat 29), (32, 1, .ofNat 6, .ofNat 6)], [(10, 210, .ofNat 0, .ofNat 29), (32, 1, .ofNat 0, .ofNat 40)], [10], (some (0, .negSucc 4, .ofNat 33)), 3, false)
theorem s_xr_6 (M : Nat → Nat → Int) (hm : sx_mok cl_ly M) (hJ : JJ M) (hg : ct_g k_xr_6.2.1 M) : ∃ m ∈ [k_xr_6_e, k_xr_6_0, k_xr_6_1, k_xr_6_2, k_xr_6_3], ct_g m.2.1 M := by
  have hv : M 32 1 = 6 := by
    have h := hg (32, 1, .ofNat 6, .ofNat 6) (List.mem_cons_of_mem _ List.mem_cons_self)
    exact Int.le_antisymm h.2 h.1
  have hk := jr_kn hm
  have hu := jr_un hm
  have hd := hJ.2.2.1
  have he := hJ.2.2.2
  by_cases h0 : M 32 2 = 6
  · exact ⟨k_xr_6_e, List.mem_cons_self, (jc (by show (6 : Int) ≤ M 32 1; omega) (by show M 32 1 ≤ (6 : Int); omega) (jc (by show (6 : Int) ≤ M 32 2; omega) (by show M 32 2 ≤ (6 : Int); omega) jn))⟩
  · have h8 : jp (M 33 24) (M 33 25) (M 33 26) (M 33 27) := hJ.1 6 (by decide)
    obtain ⟨⟨b1, b2, b3, b4⟩, h8⟩ := h8
    rcases h8 with h8 | h8 | h8 | h8
    · exact ⟨k_xr_6_0, (List.mem_cons_of_mem _ List.mem_cons_self), (jh (hg (10, 210, .ofNat 0, .ofNat 29) List.mem_cons_self) (jc (by show (6 : Int) ≤ M 32 1; omega) (by show M 32 1 ≤ (6 : Int); omega) (jc (by show (7 : Int) ≤ M 32 2; omega) (by show M 32 2 ≤ (40 : Int); omega) (jc (by show (0 : Int) ≤ M 33 24; omega) (by show M 33 24 ≤ (4 : Int); omega) (jc (by show (0 : Int) ≤ M 33 25; omega) (by show M 33 25 ≤ (5 : Int); omega) (jc (by show (-1 : Int) ≤ M 33 27; omega) (by show M 33 27 ≤ (143 : Int); omega) jn))))))⟩
    · exact ⟨k_xr_6_1, (List.mem_cons_of_mem _ (List.mem_cons_of_mem _ List.mem_cons_self)), (jh (hg (10, 210, .ofNat 0, .ofNat 29) List.mem_cons_self) (jc (by show (6 : Int) ≤ M 32 1; omega) (by show M 32 1 ≤ (6 : Int); omega) (jc (by show (7 : Int) ≤ M 32 2; omega) (by show M 32 2 ≤ (40 : Int); omega) (jc (by show (5 : Int) ≤ M 33 24; omega) (by show M 33 24 ≤ (5 : Int); omega) (jc (by show (0 : Int) ≤ M 33 25; omega) (by show M 33 25 ≤ (29 : Int); omega) (jc (by show (-1 : Int) ≤ M 33 27; omega) (by show M 33 27 ≤ (143 : Int); omega) jn))))))⟩
    · exact ⟨k_xr_6_2, (List.mem_cons_of_mem _ (List.mem_cons_of_mem _ (List.mem_cons_of_mem _ List.mem_cons_self))), (jh (hg (10, 210, .ofNat 0, .ofNat 29) List.mem_cons_self) (jc (by show (6 : Int) ≤ M 32 1; omega) (by show M 32 1 ≤ (6 : Int); omega) (jc (by show (7 : Int) ≤ M 32 2; omega) (by show M 32 2 ≤ (40 : Int); omega) (jc (by show (6 : Int) ≤ M 33 24; omega) (by show M 33 24 ≤ (6 : Int); omega) (jc (by show (0 : Int) ≤ M 33 25; omega) (by show M 33 25 ≤ (11 : Int); omega) (jc (by show (-1 : Int) ≤ M 33 27; omega) (by show M 33 27 ≤ (143 : Int); omega) jn))))))⟩
    · exact ⟨k_xr_6_3, (List.mem_cons_of_mem _ (List.mem_cons_of_mem _ (List.mem_cons_of_mem _ (List.mem_cons_of_mem _ List.mem_cons_self)))), (jh (hg (10, 210, .ofNat 0, .ofNat 29) List.mem_cons_self) (jc (by show (6 : Int) ≤ M 32 1; omega) (by show M 32 1 ≤ (6 : Int); omega) (jc (by show (7 : Int) ≤ M 32 2; omega) (by show M 32 2 ≤ (40 : Int); omega) (jc (by show (7 : Int) ≤ M 33 24; omega) (by show M 33 24 ≤ (7 : Int); omega) (jc (by show (0 : Int) ≤ M 33 25; omega) (by show M 33 25 ≤ (0 : Int); omega) (jc (by show (0 : Int) ≤ M 33 27; omega) (by show M 33 27 ≤ (29 : Int); omega) jn))))))⟩
theorem c_xr_6 (hL : L < 2 ^ 31) : ci L xs 123 k_xr_6 :=
  ci_j_ok (ms := [k_xr_6_e, k_xr_6_0, k_xr_6_1, k_xr_6_2, k_xr_6_3]) (jl_cons (c_xr_6_e hL) (jl_cons (c_xr_6_0 hL) (jl_cons (c_xr_6_1 hL) (jl_cons (c_xr_6_2 hL) (jl_cons (c_xr_6_3 hL) jl_nil))))) s_xr_6 (by decide +kernel)
def k_xr_7_e : ct_C := ([(2, .ofNat 8, .ofNat 8)], [(32, 1, .ofNat 7, .ofNat 7), (32, 2, .ofNat 7, .ofNat 7)], [], [], (some (0, .negSucc 4, .negSucc 4)), 1, false)
theorem c_xr_7_e (hL : L < 2 ^ 31) : ci L xs 123 k_xr_7_e :=
  mi_ok (fc := 9000) (f := 9000) (cuts := []) (xk := jx) cl_lok cl_hrf (cl_hro L xs) hL jx_ok (by decide +kernel)
def k_xr_7_0 : ct_C := ([(2, .ofNat 8, .ofNat 8)], [(10, 210, .ofNat 0, .ofNat 29), (32, 1, .ofNat 7, .ofNat 7), (32, 2, .ofNat 8, .ofNat 40), (33, 28, .ofNat 0, .ofNat 4), (33, 29, .ofNat 0, .ofNat 5), (33, 31, .negSucc 0, .ofNat 143)], [(10, 210, .ofNat 0, .ofNat 29), (32, 1, .ofNat 8, .ofNat 8)], [10], (some (0, .ofNat 0, .ofNat 32)), 3, false)
theorem c_xr_7_0 (hL : L < 2 ^ 31) : ci L xs 123 k_xr_7_0 :=
  mi_ok (fc := 9000) (f := 9000) (cuts := []) (xk := jx) cl_lok cl_hrf (cl_hro L xs) hL jx_ok (by decide +kernel)
def k_xr_7_1 : ct_C := ([(2, .ofNat 8, .ofNat 8)], [(10, 210, .ofNat 0, .ofNat 29), (32, 1, .ofNat 7, .ofNat 7), (32, 2, .ofNat 8, .ofNat 40), (33, 28, .ofNat 5, .ofNat 5), (33, 29, .ofNat 0, .ofNat 29), (33, 31, .negSucc 0, .ofNat 143)], [(10, 210, .ofNat 0, .ofNat 29), (32, 1, .ofNat 8, .ofNat 8)], [10], (some (0, .ofNat 0, .ofNat 32)), 3, false)
theorem c_xr_7_1 (hL : L < 2 ^ 31) : ci L xs 123 k_xr_7_1 :=
  mi_ok (fc := 9000) (f := 9000) (cuts := []) (xk := jx) cl_lok cl_hrf (cl_hro L xs) hL jx_ok (by decide +kernel)
def k_xr_7_2 : ct_C := ([(2, .ofNat 8, .ofNat 8)], [(10, 210, .ofNat 0, .ofNat 29), (32, 1, .ofNat 7, .ofNat 7), (32, 2, .ofNat 8, .ofNat 40), (33, 28, .ofNat 6, .ofNat 6), (33, 29, .ofNat 0, .ofNat 11), (33, 31, .negSucc 0, .ofNat 143)], [(10, 210, .ofNat 0, .ofNat 29), (32, 1, .ofNat 8, .ofNat 8)], [10], (some (0, .ofNat 0, .ofNat 32)), 3, false)
theorem c_xr_7_2 (hL : L < 2 ^ 31) : ci L xs 123 k_xr_7_2 :=
  mi_ok (fc := 9000) (f := 9000) (cuts := []) (xk := jx) cl_lok cl_hrf (cl_hro L xs) hL jx_ok (by decide +kernel)
def k_xr_7_3 : ct_C := ([(2, .ofNat 8, .ofNat 8)], [(10, 210, .ofNat 0, .ofNat 29), (32, 1, .ofNat 7, .ofNat 7), (32, 2, .ofNat 8, .ofNat 40), (33, 28, .ofNat 7, .ofNat 7), (33, 29, .ofNat 0, .ofNat 0), (33, 31, .ofNat 0, .ofNat 29)], [(10, 210, .ofNat 0, .ofNat 29), (32, 1, .ofNat 8, .ofNat 8)], [10], (some (0, .ofNat 0, .ofNat 32)), 3, false)
theorem c_xr_7_3 (hL : L < 2 ^ 31) : ci L xs 123 k_xr_7_3 :=
  mi_ok (fc := 9000) (f := 9000) (cuts := []) (xk := jx) cl_lok cl_hrf (cl_hro L xs) hL jx_ok (by decide +kernel)
def k_xr_7 : ct_C := ([(2, .ofNat 8, .ofNat 8)], [(10, 210, .ofNat 0, .ofNat 29), (32, 1, .ofNat 7, .ofNat 7)], [(10, 210, .ofNat 0, .ofNat 29), (32, 1, .ofNat 0, .ofNat 40)], [10], (some (0, .negSucc 4, .ofNat 32)), 3, false)
theorem s_xr_7 (M : Nat → Nat → Int) (hm : sx_mok cl_ly M) (hJ : JJ M) (hg : ct_g k_xr_7.2.1 M) : ∃ m ∈ [k_xr_7_e, k_xr_7_0, k_xr_7_1, k_xr_7_2, k_xr_7_3], ct_g m.2.1 M := by
  have hv : M 32 1 = 7 := by
    have h := hg (32, 1, .ofNat 7, .ofNat 7) (List.mem_cons_of_mem _ List.mem_cons_self)
    exact Int.le_antisymm h.2 h.1
  have hk := jr_kn hm
  have hu := jr_un hm
  have hd := hJ.2.2.1
  have he := hJ.2.2.2
  by_cases h0 : M 32 2 = 7
  · exact ⟨k_xr_7_e, List.mem_cons_self, (jc (by show (7 : Int) ≤ M 32 1; omega) (by show M 32 1 ≤ (7 : Int); omega) (jc (by show (7 : Int) ≤ M 32 2; omega) (by show M 32 2 ≤ (7 : Int); omega) jn))⟩
  · have h8 : jp (M 33 28) (M 33 29) (M 33 30) (M 33 31) := hJ.1 7 (by decide)
    obtain ⟨⟨b1, b2, b3, b4⟩, h8⟩ := h8
    rcases h8 with h8 | h8 | h8 | h8
    · exact ⟨k_xr_7_0, (List.mem_cons_of_mem _ List.mem_cons_self), (jh (hg (10, 210, .ofNat 0, .ofNat 29) List.mem_cons_self) (jc (by show (7 : Int) ≤ M 32 1; omega) (by show M 32 1 ≤ (7 : Int); omega) (jc (by show (8 : Int) ≤ M 32 2; omega) (by show M 32 2 ≤ (40 : Int); omega) (jc (by show (0 : Int) ≤ M 33 28; omega) (by show M 33 28 ≤ (4 : Int); omega) (jc (by show (0 : Int) ≤ M 33 29; omega) (by show M 33 29 ≤ (5 : Int); omega) (jc (by show (-1 : Int) ≤ M 33 31; omega) (by show M 33 31 ≤ (143 : Int); omega) jn))))))⟩
    · exact ⟨k_xr_7_1, (List.mem_cons_of_mem _ (List.mem_cons_of_mem _ List.mem_cons_self)), (jh (hg (10, 210, .ofNat 0, .ofNat 29) List.mem_cons_self) (jc (by show (7 : Int) ≤ M 32 1; omega) (by show M 32 1 ≤ (7 : Int); omega) (jc (by show (8 : Int) ≤ M 32 2; omega) (by show M 32 2 ≤ (40 : Int); omega) (jc (by show (5 : Int) ≤ M 33 28; omega) (by show M 33 28 ≤ (5 : Int); omega) (jc (by show (0 : Int) ≤ M 33 29; omega) (by show M 33 29 ≤ (29 : Int); omega) (jc (by show (-1 : Int) ≤ M 33 31; omega) (by show M 33 31 ≤ (143 : Int); omega) jn))))))⟩
    · exact ⟨k_xr_7_2, (List.mem_cons_of_mem _ (List.mem_cons_of_mem _ (List.mem_cons_of_mem _ List.mem_cons_self))), (jh (hg (10, 210, .ofNat 0, .ofNat 29) List.mem_cons_self) (jc (by show (7 : Int) ≤ M 32 1; omega) (by show M 32 1 ≤ (7 : Int); omega) (jc (by show (8 : Int) ≤ M 32 2; omega) (by show M 32 2 ≤ (40 : Int); omega) (jc (by show (6 : Int) ≤ M 33 28; omega) (by show M 33 28 ≤ (6 : Int); omega) (jc (by show (0 : Int) ≤ M 33 29; omega) (by show M 33 29 ≤ (11 : Int); omega) (jc (by show (-1 : Int) ≤ M 33 31; omega) (by show M 33 31 ≤ (143 : Int); omega) jn))))))⟩
    · exact ⟨k_xr_7_3, (List.mem_cons_of_mem _ (List.mem_cons_of_mem _ (List.mem_cons_of_mem _ (List.mem_cons_of_mem _ List.mem_cons_self)))), (jh (hg (10, 210, .ofNat 0, .ofNat 29) List.mem_cons_self) (jc (by show (7 : Int) ≤ M 32 1; omega) (by show M 32 1 ≤ (7 : Int); omega) (jc (by show (8 : Int) ≤ M 32 2; omega) (by show M 32 2 ≤ (40 : Int); omega) (jc (by show (7 : Int) ≤ M 33 28; omega) (by show M 33 28 ≤ (7 : Int); omega) (jc (by show (0 : Int) ≤ M 33 29; omega) (by show M 33 29 ≤ (0 : Int); omega) (jc (by show (0 : Int) ≤ M 33 31; omega) (by show M 33 31 ≤ (29 : Int); omega) jn))))))⟩
theorem c_xr_7 (hL : L < 2 ^ 31) : ci L xs 123 k_xr_7 :=
  ci_j_ok (ms := [k_xr_7_e, k_xr_7_0, k_xr_7_1, k_xr_7_2, k_xr_7_3]) (jl_cons (c_xr_7_e hL) (jl_cons (c_xr_7_0 hL) (jl_cons (c_xr_7_1 hL) (jl_cons (c_xr_7_2 hL) (jl_cons (c_xr_7_3 hL) jl_nil))))) s_xr_7 (by decide +kernel)
def k_xr_8_e : ct_C := ([(2, .ofNat 8, .ofNat 8)], [(32, 1, .ofNat 8, .ofNat 8), (32, 2, .ofNat 8, .ofNat 8)], [], [], (some (0, .negSucc 4, .negSucc 4)), 1, false)
theorem c_xr_8_e (hL : L < 2 ^ 31) : ci L xs 123 k_xr_8_e :=
  mi_ok (fc := 9000) (f := 9000) (cuts := []) (xk := jx) cl_lok cl_hrf (cl_hro L xs) hL jx_ok (by decide +kernel)
def k_xr_8_0 : ct_C := ([(2, .ofNat 8, .ofNat 8)], [(10, 210, .ofNat 0, .ofNat 29), (32, 1, .ofNat 8, .ofNat 8), (32, 2, .ofNat 9, .ofNat 40), (33, 32, .ofNat 0, .ofNat 4), (33, 33, .ofNat 0, .ofNat 5), (33, 35, .negSucc 0, .ofNat 143)], [(10, 210, .ofNat 0, .ofNat 29), (32, 1, .ofNat 9, .ofNat 9)], [10], (some (0, .ofNat 0, .ofNat 31)), 3, false)
theorem c_xr_8_0 (hL : L < 2 ^ 31) : ci L xs 123 k_xr_8_0 :=
  mi_ok (fc := 9000) (f := 9000) (cuts := []) (xk := jx) cl_lok cl_hrf (cl_hro L xs) hL jx_ok (by decide +kernel)
def k_xr_8_1 : ct_C := ([(2, .ofNat 8, .ofNat 8)], [(10, 210, .ofNat 0, .ofNat 29), (32, 1, .ofNat 8, .ofNat 8), (32, 2, .ofNat 9, .ofNat 40), (33, 32, .ofNat 5, .ofNat 5), (33, 33, .ofNat 0, .ofNat 29), (33, 35, .negSucc 0, .ofNat 143)], [(10, 210, .ofNat 0, .ofNat 29), (32, 1, .ofNat 9, .ofNat 9)], [10], (some (0, .ofNat 0, .ofNat 31)), 3, false)
theorem c_xr_8_1 (hL : L < 2 ^ 31) : ci L xs 123 k_xr_8_1 :=
  mi_ok (fc := 9000) (f := 9000) (cuts := []) (xk := jx) cl_lok cl_hrf (cl_hro L xs) hL jx_ok (by decide +kernel)
def k_xr_8_2 : ct_C := ([(2, .ofNat 8, .ofNat 8)], [(10, 210, .ofNat 0, .ofNat 29), (32, 1, .ofNat 8, .ofNat 8), (32, 2, .ofNat 9, .ofNat 40), (33, 32, .ofNat 6, .ofNat 6), (33, 33, .ofNat 0, .ofNat 11), (33, 35, .negSucc 0, .ofNat 143)], [(10, 210, .ofNat 0, .ofNat 29), (32, 1, .ofNat 9, .ofNat 9)], [10], (some (0, .ofNat 0, .ofNat 31)), 3, false)
theorem c_xr_8_2 (hL : L < 2 ^ 31) : ci L xs 123 k_xr_8_2 :=
  mi_ok (fc := 9000) (f := 9000) (cuts := []) (xk := jx) cl_lok cl_hrf (cl_hro L xs) hL jx_ok (by decide +kernel)
def k_xr_8_3 : ct_C := ([(2, .ofNat 8, .ofNat 8)], [(10, 210, .ofNat 0, .ofNat 29), (32, 1, .ofNat 8, .ofNat 8), (32, 2, .ofNat 9, .ofNat 40), (33, 32, .ofNat 7, .ofNat 7), (33, 33, .ofNat 0, .ofNat 0), (33, 35, .ofNat 0, .ofNat 29)], [(10, 210, .ofNat 0, .ofNat 29), (32, 1, .ofNat 9, .ofNat 9)], [10], (some (0, .ofNat 0, .ofNat 31)), 3, false)
theorem c_xr_8_3 (hL : L < 2 ^ 31) : ci L xs 123 k_xr_8_3 :=
  mi_ok (fc := 9000) (f := 9000) (cuts := []) (xk := jx) cl_lok cl_hrf (cl_hro L xs) hL jx_ok (by decide +kernel)
def k_xr_8 : ct_C := ([(2, .ofNat 8, .ofNat 8)], [(10, 210, .ofNat 0, .ofNat 29), (32, 1, .ofNat 8, .ofNat 8)], [(10, 210, .ofNat 0, .ofNat 29), (32, 1, .ofNat 0, .ofNat 40)], [10], (some (0, .negSucc 4, .ofNat 31)), 3, false)
theorem s_xr_8 (M : Nat → Nat → Int) (hm : sx_mok cl_ly M) (hJ : JJ M) (hg : ct_g k_xr_8.2.1 M) : ∃ m ∈ [k_xr_8_e, k_xr_8_0, k_xr_8_1, k_xr_8_2, k_xr_8_3], ct_g m.2.1 M := by
  have hv : M 32 1 = 8 := by
    have h := hg (32, 1, .ofNat 8, .ofNat 8) (List.mem_cons_of_mem _ List.mem_cons_self)
    exact Int.le_antisymm h.2 h.1
  have hk := jr_kn hm
  have hu := jr_un hm
  have hd := hJ.2.2.1
  have he := hJ.2.2.2
  by_cases h0 : M 32 2 = 8
  · exact ⟨k_xr_8_e, List.mem_cons_self, (jc (by show (8 : Int) ≤ M 32 1; omega) (by show M 32 1 ≤ (8 : Int); omega) (jc (by show (8 : Int) ≤ M 32 2; omega) (by show M 32 2 ≤ (8 : Int); omega) jn))⟩
  · have h8 : jp (M 33 32) (M 33 33) (M 33 34) (M 33 35) := hJ.1 8 (by decide)
    obtain ⟨⟨b1, b2, b3, b4⟩, h8⟩ := h8
    rcases h8 with h8 | h8 | h8 | h8
    · exact ⟨k_xr_8_0, (List.mem_cons_of_mem _ List.mem_cons_self), (jh (hg (10, 210, .ofNat 0, .ofNat 29) List.mem_cons_self) (jc (by show (8 : Int) ≤ M 32 1; omega) (by show M 32 1 ≤ (8 : Int); omega) (jc (by show (9 : Int) ≤ M 32 2; omega) (by show M 32 2 ≤ (40 : Int); omega) (jc (by show (0 : Int) ≤ M 33 32; omega) (by show M 33 32 ≤ (4 : Int); omega) (jc (by show (0 : Int) ≤ M 33 33; omega) (by show M 33 33 ≤ (5 : Int); omega) (jc (by show (-1 : Int) ≤ M 33 35; omega) (by show M 33 35 ≤ (143 : Int); omega) jn))))))⟩
    · exact ⟨k_xr_8_1, (List.mem_cons_of_mem _ (List.mem_cons_of_mem _ List.mem_cons_self)), (jh (hg (10, 210, .ofNat 0, .ofNat 29) List.mem_cons_self) (jc (by show (8 : Int) ≤ M 32 1; omega) (by show M 32 1 ≤ (8 : Int); omega) (jc (by show (9 : Int) ≤ M 32 2; omega) (by show M 32 2 ≤ (40 : Int); omega) (jc (by show (5 : Int) ≤ M 33 32; omega) (by show M 33 32 ≤ (5 : Int); omega) (jc (by show (0 : Int) ≤ M 33 33; omega) (by show M 33 33 ≤ (29 : Int); omega) (jc (by show (-1 : Int) ≤ M 33 35; omega) (by show M 33 35 ≤ (143 : Int); omega) jn))))))⟩
    · exact ⟨k_xr_8_2, (List.mem_cons_of_mem _ (List.mem_cons_of_mem _ (List.mem_cons_of_mem _ List.mem_cons_self))), (jh (hg (10, 210, .ofNat 0, .ofNat 29) List.mem_cons_self) (jc (by show (8 : Int) ≤ M 32 1; omega) (by show M 32 1 ≤ (8 : Int); omega) (jc (by show (9 : Int) ≤ M 32 2; omega) (by show M 32 2 ≤ (40 : Int); omega) (jc (by show (6 : Int) ≤ M 33 32; omega) (by show M 33 32 ≤ (6 : Int); omega) (jc (by show (0 : Int) ≤ M 33 33; omega) (by show M 33 33 ≤ (11 : Int); omega) (jc (by show (-1 : Int) ≤ M 33 35; omega) (by show M 33 35 ≤ (143 : Int); omega) jn))))))⟩
    · exact ⟨k_xr_8_3, (List.mem_cons_of_mem _ (List.mem_cons_of_mem _ (List.mem_cons_of_mem _ (List.mem_cons_of_mem _ List.mem_cons_self)))), (jh (hg (10, 210, .ofNat 0, .ofNat 29) List.mem_cons_self) (jc (by show (8 : Int) ≤ M 32 1; omega) (by show M 32 1 ≤ (8 : Int); omega) (jc (by show (9 : Int) ≤ M 32 2; omega) (by show M 32 2 ≤ (40 : Int); omega) (jc (by show (7 : Int) ≤ M 33 32; omega) (by show M 33 32 ≤ (7 : Int); omega) (jc (by show (0 : Int) ≤ M 33 33; omega) (by show M 33 33 ≤ (0 : Int); omega) (jc (by show (0 : Int) ≤ M 33 35; omega) (by show M 33 35 ≤ (29 : Int); omega) jn))))))⟩
theorem c_xr_8 (hL : L < 2 ^ 31) : ci L xs 123 k_xr_8 :=
  ci_j_ok (ms := [k_xr_8_e, k_xr_8_0, k_xr_8_1, k_xr_8_2, k_xr_8_3]) (jl_cons (c_xr_8_e hL) (jl_cons (c_xr_8_0 hL) (jl_cons (c_xr_8_1 hL) (jl_cons (c_xr_8_2 hL) (jl_cons (c_xr_8_3 hL) jl_nil))))) s_xr_8 (by decide +kernel)
def k_xr_9_e : ct_C := ([(2, .ofNat 8, .ofNat 8)], [(32, 1, .ofNat 9, .ofNat 9), (32, 2, .ofNat 9, .ofNat 9)], [], [], (some (0, .negSucc 4, .negSucc 4)), 1, false)
theorem c_xr_9_e (hL : L < 2 ^ 31) : ci L xs 123 k_xr_9_e :=
  mi_ok (fc := 9000) (f := 9000) (cuts := []) (xk := jx) cl_lok cl_hrf (cl_hro L xs) hL jx_ok (by decide +kernel)
def k_xr_9_0 : ct_C := ([(2, .ofNat 8, .ofNat 8)], [(10, 210, .ofNat 0, .ofNat 29), (32, 1, .ofNat 9, .ofNat 9), (32, 2, .ofNat 10, .ofNat 40), (33, 36, .ofNat 0, .ofNat 4), (33, 37, .ofNat 0, .ofNat 5), (33, 39, .negSucc 0, .ofNat 143)], [(10, 210, .ofNat 0, .ofNat 29), (32, 1, .ofNat 10, .ofNat 10)], [10], (some (0, .ofNat 0, .ofNat 30)), 3, false)
theorem c_xr_9_0 (hL : L < 2 ^ 31) : ci L xs 123 k_xr_9_0 :=
  mi_ok (fc := 9000) (f := 9000) (cuts := []) (xk := jx) cl_lok cl_hrf (cl_hro L xs) hL jx_ok (by decide +kernel)
def k_xr_9_1 : ct_C := ([(2, .ofNat 8, .ofNat 8)], [(10, 210, .ofNat 0, .ofNat 29), (32, 1, .ofNat 9, .ofNat 9), (32, 2, .ofNat 10, .ofNat 40), (33, 36, .ofNat 5, .ofNat 5), (33, 37, .ofNat 0, .ofNat 29), (33, 39, .negSucc 0, .ofNat 143)], [(10, 210, .ofNat 0, .ofNat 29), (32, 1, .ofNat 10, .ofNat 10)], [10], (some (0, .ofNat 0, .ofNat 30)), 3, false)
theorem c_xr_9_1 (hL : L < 2 ^ 31) : ci L xs 123 k_xr_9_1 :=
  mi_ok (fc := 9000) (f := 9000) (cuts := []) (xk := jx) cl_lok cl_hrf (cl_hro L xs) hL jx_ok (by decide +kernel)
def k_xr_9_2 : ct_C := ([(2, .ofNat 8, .ofNat 8)], [(10, 210, .ofNat 0, .ofNat 29), (32, 1, .ofNat 9, .ofNat 9), (32, 2, .ofNat 10, .ofNat 40), (33, 36, .ofNat 6, .ofNat 6), (33, 37, .ofNat 0, .ofNat 11), (33, 39, .negSucc 0, .ofNat 143)], [(10, 210, .ofNat 0, .ofNat 29), (32, 1, .ofNat 10, .ofNat 10)], [10], (some (0, .ofNat 0, .ofNat 30)), 3, false)
theorem c_xr_9_2 (hL : L < 2 ^ 31) : ci L xs 123 k_xr_9_2 :=
  mi_ok (fc := 9000) (f := 9000) (cuts := []) (xk := jx) cl_lok cl_hrf (cl_hro L xs) hL jx_ok (by decide +kernel)
def k_xr_9_3 : ct_C := ([(2, .ofNat 8, .ofNat 8)], [(10, 210, .ofNat 0, .ofNat 29), (32, 1, .ofNat 9, .ofNat 9), (32, 2, .ofNat 10, .ofNat 40), (33, 36, .ofNat 7, .ofNat 7), (33, 37, .ofNat 0, .ofNat 0), (33, 39, .ofNat 0, .ofNat 29)], [(10, 210, .ofNat 0, .ofNat 29), (32, 1, .ofNat 10, .ofNat 10)], [10], (some (0, .ofNat 0, .ofNat 30)), 3, false)
theorem c_xr_9_3 (hL : L < 2 ^ 31) : ci L xs 123 k_xr_9_3 :=
  mi_ok (fc := 9000) (f := 9000) (cuts := []) (xk := jx) cl_lok cl_hrf (cl_hro L xs) hL jx_ok (by decide +kernel)
def k_xr_9 : ct_C := ([(2, .ofNat 8, .ofNat 8)], [(10, 210, .ofNat 0, .ofNat 29), (32, 1, .ofNat 9, .ofNat 9)], [(10, 210, .ofNat 0, .ofNat 29), (32, 1, .ofNat 0, .ofNat 40)], [10], (some (0, .negSucc 4, .ofNat 30)), 3, false)
theorem s_xr_9 (M : Nat → Nat → Int) (hm : sx_mok cl_ly M) (hJ : JJ M) (hg : ct_g k_xr_9.2.1 M) : ∃ m ∈ [k_xr_9_e, k_xr_9_0, k_xr_9_1, k_xr_9_2, k_xr_9_3], ct_g m.2.1 M := by
  have hv : M 32 1 = 9 := by
    have h := hg (32, 1, .ofNat 9, .ofNat 9) (List.mem_cons_of_mem _ List.mem_cons_self)
    exact Int.le_antisymm h.2 h.1
  have hk := jr_kn hm
  have hu := jr_un hm
  have hd := hJ.2.2.1
  have he := hJ.2.2.2
  by_cases h0 : M 32 2 = 9
  · exact ⟨k_xr_9_e, List.mem_cons_self, (jc (by show (9 : Int) ≤ M 32 1; omega) (by show M 32 1 ≤ (9 : Int); omega) (jc (by show (9 : Int) ≤ M 32 2; omega) (by show M 32 2 ≤ (9 : Int); omega) jn))⟩
  · have h8 : jp (M 33 36) (M 33 37) (M 33 38) (M 33 39) := hJ.1 9 (by decide)
    obtain ⟨⟨b1, b2, b3, b4⟩, h8⟩ := h8
    rcases h8 with h8 | h8 | h8 | h8
    · exact ⟨k_xr_9_0, (List.mem_cons_of_mem _ List.mem_cons_self), (jh (hg (10, 210, .ofNat 0, .ofNat 29) List.mem_cons_self) (jc (by show (9 : Int) ≤ M 32 1; omega) (by show M 32 1 ≤ (9 : Int); omega) (jc (by show (10 : Int) ≤ M 32 2; omega) (by show M 32 2 ≤ (40 : Int); omega) (jc (by show (0 : Int) ≤ M 33 36; omega) (by show M 33 36 ≤ (4 : Int); omega) (jc (by show (0 : Int) ≤ M 33 37; omega) (by show M 33 37 ≤ (5 : Int); omega) (jc (by show (-1 : Int) ≤ M 33 39; omega) (by show M 33 39 ≤ (143 : Int); omega) jn))))))⟩
    · exact ⟨k_xr_9_1, (List.mem_cons_of_mem _ (List.mem_cons_of_mem _ List.mem_cons_self)), (jh (hg (10, 210, .ofNat 0, .ofNat 29) List.mem_cons_self) (jc (by show (9 : Int) ≤ M 32 1; omega) (by show M 32 1 ≤ (9 : Int); omega) (jc (by show (10 : Int) ≤ M 32 2; omega) (by show M 32 2 ≤ (40 : Int); omega) (jc (by show (5 : Int) ≤ M 33 36; omega) (by show M 33 36 ≤ (5 : Int); omega) (jc (by show (0 : Int) ≤ M 33 37; omega) (by show M 33 37 ≤ (29 : Int); omega) (jc (by show (-1 : Int) ≤ M 33 39; omega) (by show M 33 39 ≤ (143 : Int); omega) jn))))))⟩
    · exact ⟨k_xr_9_2, (List.mem_cons_of_mem _ (List.mem_cons_of_mem _ (List.mem_cons_of_mem _ List.mem_cons_self))), (jh (hg (10, 210, .ofNat 0, .ofNat 29) List.mem_cons_self) (jc (by show (9 : Int) ≤ M 32 1; omega) (by show M 32 1 ≤ (9 : Int); omega) (jc (by show (10 : Int) ≤ M 32 2; omega) (by show M 32 2 ≤ (40 : Int); omega) (jc (by show (6 : Int) ≤ M 33 36; omega) (by show M 33 36 ≤ (6 : Int); omega) (jc (by show (0 : Int) ≤ M 33 37; omega) (by show M 33 37 ≤ (11 : Int); omega) (jc (by show (-1 : Int) ≤ M 33 39; omega) (by show M 33 39 ≤ (143 : Int); omega) jn))))))⟩
    · exact ⟨k_xr_9_3, (List.mem_cons_of_mem _ (List.mem_cons_of_mem _ (List.mem_cons_of_mem _ (List.mem_cons_of_mem _ List.mem_cons_self)))), (jh (hg (10, 210, .ofNat 0, .ofNat 29) List.mem_cons_self) (jc (by show (9 : Int) ≤ M 32 1; omega) (by show M 32 1 ≤ (9 : Int); omega) (jc (by show (10 : Int) ≤ M 32 2; omega) (by show M 32 2 ≤ (40 : Int); omega) (jc (by show (7 : Int) ≤ M 33 36; omega) (by show M 33 36 ≤ (7 : Int); omega) (jc (by show (0 : Int) ≤ M 33 37; omega) (by show M 33 37 ≤ (0 : Int); omega) (jc (by show (0 : Int) ≤ M 33 39; omega) (by show M 33 39 ≤ (29 : Int); omega) jn))))))⟩
theorem c_xr_9 (hL : L < 2 ^ 31) : ci L xs 123 k_xr_9 :=
  ci_j_ok (ms := [k_xr_9_e, k_xr_9_0, k_xr_9_1, k_xr_9_2, k_xr_9_3]) (jl_cons (c_xr_9_e hL) (jl_cons (c_xr_9_0 hL) (jl_cons (c_xr_9_1 hL) (jl_cons (c_xr_9_2 hL) (jl_cons (c_xr_9_3 hL) jl_nil))))) s_xr_9 (by decide +kernel)
def k_xr_10_e : ct_C := ([(2, .ofNat 8, .ofNat 8)], [(32, 1, .ofNat 10, .ofNat 10), (32, 2, .ofNat 10, .ofNat 10)], [], [], (some (0, .negSucc 4, .negSucc 4)), 1, false)
theorem c_xr_10_e (hL : L < 2 ^ 31) : ci L xs 123 k_xr_10_e :=
  mi_ok (fc := 9000) (f := 9000) (cuts := []) (xk := jx) cl_lok cl_hrf (cl_hro L xs) hL jx_ok (by decide +kernel)
def k_xr_10_0 : ct_C := ([(2, .ofNat 8, .ofNat 8)], [(10, 210, .ofNat 0, .ofNat 29), (32, 1, .ofNat 10, .ofNat 10), (32, 2, .ofNat 11, .ofNat 40), (33, 40, .ofNat 0, .ofNat 4), (33, 41, .ofNat 0, .ofNat 5), (33, 43, .negSucc 0, .ofNat 143)], [(10, 210, .ofNat 0, .ofNat 29), (32, 1, .ofNat 11, .ofNat 11)], [10], (some (0, .ofNat 0, .ofNat 29)), 3, false)
theorem c_xr_10_0 (hL : L < 2 ^ 31) : ci L xs 123 k_xr_10_0 :=
  mi_ok (fc := 9000) (f := 9000) (cuts := []) (xk := jx) cl_lok cl_hrf (cl_hro L xs) hL jx_ok (by decide +kernel)
def k_xr_10_1 : ct_C := ([(2, .ofNat 8, .ofNat 8)], [(10, 210, .ofNat 0, .ofNat 29), (32, 1, .ofNat 10, .ofNat 10), (32, 2, .ofNat 11, .ofNat 40), (33, 40, .ofNat 5, .ofNat 5), (33, 41, .ofNat 0, .ofNat 29), (33, 43, .negSucc 0, .ofNat 143)], [(10, 210, .ofNat 0, .ofNat 29), (32, 1, .ofNat 11, .ofNat 11)], [10], (some (0, .ofNat 0, .ofNat 29)), 3, false)
theorem c_xr_10_1 (hL : L < 2 ^ 31) : ci L xs 123 k_xr_10_1 :=
  mi_ok (fc := 9000) (f := 9000) (cuts := []) (xk := jx) cl_lok cl_hrf (cl_hro L xs) hL jx_ok (by decide +kernel)
def k_xr_10_2 : ct_C := ([(2, .ofNat 8, .ofNat 8)], [(10, 210, .ofNat 0, .ofNat 29), (32, 1, .ofNat 10, .ofNat 10), (32, 2, .ofNat 11, .ofNat 40), (33, 40, .ofNat 6, .ofNat 6), (33, 41, .ofNat 0, .ofNat 11), (33, 43, .negSucc 0, .ofNat 143)], [(10, 210, .ofNat 0, .ofNat 29), (32, 1, .ofNat 11, .ofNat 11)], [10], (some (0, .ofNat 0, .ofNat 29)), 3, false)
theorem c_xr_10_2 (hL : L < 2 ^ 31) : ci L xs 123 k_xr_10_2 :=
  mi_ok (fc := 9000) (f := 9000) (cuts := []) (xk := jx) cl_lok cl_hrf (cl_hro L xs) hL jx_ok (by decide +kernel)
def k_xr_10_3 : ct_C := ([(2, .ofNat 8, .ofNat 8)], [(10, 210, .ofNat 0, .ofNat 29), (32, 1, .ofNat 10, .ofNat 10), (32, 2, .ofNat 11, .ofNat 40), (33, 40, .ofNat 7, .ofNat 7), (33, 41, .ofNat 0, .ofNat 0), (33, 43, .ofNat 0, .ofNat 29)], [(10, 210, .ofNat 0, .ofNat 29), (32, 1, .ofNat 11, .ofNat 11)], [10], (some (0, .ofNat 0, .ofNat 29)), 3, false)
theorem c_xr_10_3 (hL : L < 2 ^ 31) : ci L xs 123 k_xr_10_3 :=
  mi_ok (fc := 9000) (f := 9000) (cuts := []) (xk := jx) cl_lok cl_hrf (cl_hro L xs) hL jx_ok (by decide +kernel)
def k_xr_10 : ct_C := ([(2, .ofNat 8, .ofNat 8)], [(10, 210, .ofNat 0, .ofNat 29), (32, 1, .ofNat 10, .ofNat 10)], [(10, 210, .ofNat 0, .ofNat 29), (32, 1, .ofNat 0, .ofNat 40)], [10], (some (0, .negSucc 4, .ofNat 29)), 3, false)
theorem s_xr_10 (M : Nat → Nat → Int) (hm : sx_mok cl_ly M) (hJ : JJ M) (hg : ct_g k_xr_10.2.1 M) : ∃ m ∈ [k_xr_10_e, k_xr_10_0, k_xr_10_1, k_xr_10_2, k_xr_10_3], ct_g m.2.1 M := by
  have hv : M 32 1 = 10 := by
    have h := hg (32, 1, .ofNat 10, .ofNat 10) (List.mem_cons_of_mem _ List.mem_cons_self)
    exact Int.le_antisymm h.2 h.1
  have hk := jr_kn hm
  have hu := jr_un hm
  have hd := hJ.2.2.1
  have he := hJ.2.2.2
  by_cases h0 : M 32 2 = 10
  · exact ⟨k_xr_10_e, List.mem_cons_self, (jc (by show (10 : Int) ≤ M 32 1; omega) (by show M 32 1 ≤ (10 : Int); omega) (jc (by show (10 : Int) ≤ M 32 2; omega) (by show M 32 2 ≤ (10 : Int); omega) jn))⟩
  · have h8 : jp (M 33 40) (M 33 41) (M 33 42) (M 33 43) := hJ.1 10 (by decide)
    obtain ⟨⟨b1, b2, b3, b4⟩, h8⟩ := h8
    rcases h8 with h8 | h8 | h8 | h8
    · exact ⟨k_xr_10_0, (List.mem_cons_of_mem _ List.mem_cons_self), (jh (hg (10, 210, .ofNat 0, .ofNat 29) List.mem_cons_self) (jc (by show (10 : Int) ≤ M 32 1; omega) (by show M 32 1 ≤ (10 : Int); omega) (jc (by show (11 : Int) ≤ M 32 2; omega) (by show M 32 2 ≤ (40 : Int); omega) (jc (by show (0 : Int) ≤ M 33 40; omega) (by show M 33 40 ≤ (4 : Int); omega) (jc (by show (0 : Int) ≤ M 33 41; omega) (by show M 33 41 ≤ (5 : Int); omega) (jc (by show (-1 : Int) ≤ M 33 43; omega) (by show M 33 43 ≤ (143 : Int); omega) jn))))))⟩
    · exact ⟨k_xr_10_1, (List.mem_cons_of_mem _ (List.mem_cons_of_mem _ List.mem_cons_self)), (jh (hg (10, 210, .ofNat 0, .ofNat 29) List.mem_cons_self) (jc (by show (10 : Int) ≤ M 32 1; omega) (by show M 32 1 ≤ (10 : Int); omega) (jc (by show (11 : Int) ≤ M 32 2; omega) (by show M 32 2 ≤ (40 : Int); omega) (jc (by show (5 : Int) ≤ M 33 40; omega) (by show M 33 40 ≤ (5 : Int); omega) (jc (by show (0 : Int) ≤ M 33 41; omega) (by show M 33 41 ≤ (29 : Int); omega) (jc (by show (-1 : Int) ≤ M 33 43; omega) (by show M 33 43 ≤ (143 : Int); omega) jn))))))⟩
    · exact ⟨k_xr_10_2, (List.mem_cons_of_mem _ (List.mem_cons_of_mem _ (List.mem_cons_of_mem _ List.mem_cons_self))), (jh (hg (10, 210, .ofNat 0, .ofNat 29) List.mem_cons_self) (jc (by show (10 : Int) ≤ M 32 1; omega) (by show M 32 1 ≤ (10 : Int); omega) (jc (by show (11 : Int) ≤ M 32 2; omega) (by show M 32 2 ≤ (40 : Int); omega) (jc (by show (6 : Int) ≤ M 33 40; omega) (by show M 33 40 ≤ (6 : Int); omega) (jc (by show (0 : Int) ≤ M 33 41; omega) (by show M 33 41 ≤ (11 : Int); omega) (jc (by show (-1 : Int) ≤ M 33 43; omega) (by show M 33 43 ≤ (143 : Int); omega) jn))))))⟩
    · exact ⟨k_xr_10_3, (List.mem_cons_of_mem _ (List.mem_cons_of_mem _ (List.mem_cons_of_mem _ (List.mem_cons_of_mem _ List.mem_cons_self)))), (jh (hg (10, 210, .ofNat 0, .ofNat 29) List.mem_cons_self) (jc (by show (10 : Int) ≤ M 32 1; omega) (by show M 32 1 ≤ (10 : Int); omega) (jc (by show (11 : Int) ≤ M 32 2; omega) (by show M 32 2 ≤ (40 : Int); omega) (jc (by show (7 : Int) ≤ M 33 40; omega) (by show M 33 40 ≤ (7 : Int); omega) (jc (by show (0 : Int) ≤ M 33 41; omega) (by show M 33 41 ≤ (0 : Int); omega) (jc (by show (0 : Int) ≤ M 33 43; omega) (by show M 33 43 ≤ (29 : Int); omega) jn))))))⟩
theorem c_xr_10 (hL : L < 2 ^ 31) : ci L xs 123 k_xr_10 :=
  ci_j_ok (ms := [k_xr_10_e, k_xr_10_0, k_xr_10_1, k_xr_10_2, k_xr_10_3]) (jl_cons (c_xr_10_e hL) (jl_cons (c_xr_10_0 hL) (jl_cons (c_xr_10_1 hL) (jl_cons (c_xr_10_2 hL) (jl_cons (c_xr_10_3 hL) jl_nil))))) s_xr_10 (by decide +kernel)
def k_xr_11_e : ct_C := ([(2, .ofNat 8, .ofNat 8)], [(32, 1, .ofNat 11, .ofNat 11), (32, 2, .ofNat 11, .ofNat 11)], [], [], (some (0, .negSucc 4, .negSucc 4)), 1, false)
theorem c_xr_11_e (hL : L < 2 ^ 31) : ci L xs 123 k_xr_11_e :=
  mi_ok (fc := 9000) (f := 9000) (cuts := []) (xk := jx) cl_lok cl_hrf (cl_hro L xs) hL jx_ok (by decide +kernel)
def k_xr_11_0 : ct_C := ([(2, .ofNat 8, .ofNat 8)], [(10, 210, .ofNat 0, .ofNat 29), (32, 1, .ofNat 11, .ofNat 11), (32, 2, .ofNat 12, .ofNat 40), (33, 44, .ofNat 0, .ofNat 4), (33, 45, .ofNat 0, .ofNat 5), (33, 47, .negSucc 0, .ofNat 143)], [(10, 210, .ofNat 0, .ofNat 29), (32, 1, .ofNat 12, .ofNat 12)], [10], (some (0, .ofNat 0, .ofNat 28)), 3, false)
theorem c_xr_11_0 (hL : L < 2 ^ 31) : ci L xs 123 k_xr_11_0 :=
  mi_ok (fc := 9000) (f := 9000) (cuts := []) (xk := jx) cl_lok cl_hrf (cl_hro L xs) hL jx_ok (by decide +kernel)
def k_xr_11_1 : ct_C := ([(2, .ofNat 8, .ofNat 8)], [(10, 210, .ofNat 0, .ofNat 29), (32, 1, .ofNat 11, .ofNat 11), (32, 2, .ofNat 12, .ofNat 40), (33, 44, .ofNat 5, .ofNat 5), (33, 45, .ofNat 0, .ofNat 29), (33, 47, .negSucc 0, .ofNat 143)], [(10, 210, .ofNat 0, .ofNat 29), (32, 1, .ofNat 12, .ofNat 12)], [10], (some (0, .ofNat 0, .ofNat 28)), 3, false)
theorem c_xr_11_1 (hL : L < 2 ^ 31) : ci L xs 123 k_xr_11_1 :=
  mi_ok (fc := 9000) (f := 9000) (cuts := []) (xk := jx) cl_lok cl_hrf (cl_hro L xs) hL jx_ok (by decide +kernel)
def k_xr_11_2 : ct_C := ([(2, .ofNat 8, .ofNat 8)], [(10, 210, .ofNat 0, .ofNat 29), (32, 1, .ofNat 11, .ofNat 11), (32, 2, .ofNat 12, .ofNat 40), (33, 44, .ofNat 6, .ofNat 6), (33, 45, .ofNat 0, .ofNat 11), (33, 47, .negSucc 0, .ofNat 143)], [(10, 210, .ofNat 0, .ofNat 29), (32, 1, .ofNat 12, .ofNat 12)], [10], (some (0, .ofNat 0, .ofNat 28)), 3, false)
theorem c_xr_11_2 (hL : L < 2 ^ 31) : ci L xs 123 k_xr_11_2 :=
  mi_ok (fc := 9000) (f := 9000) (cuts := []) (xk := jx) cl_lok cl_hrf (cl_hro L xs) hL jx_ok (by decide +kernel)
def k_xr_11_3 : ct_C := ([(2, .ofNat 8, .ofNat 8)], [(10, 210, .ofNat 0, .ofNat 29), (32, 1, .ofNat 11, .ofNat 11), (32, 2, .ofNat 12, .ofNat 40), (33, 44, .ofNat 7, .ofNat 7), (33, 45, .ofNat 0, .ofNat 0), (33, 47, .ofNat 0, .ofNat 29)], [(10, 210, .ofNat 0, .ofNat 29), (32, 1, .ofNat 12, .ofNat 12)], [10], (some (0, .ofNat 0, .ofNat 28)), 3, false)
theorem c_xr_11_3 (hL : L < 2 ^ 31) : ci L xs 123 k_xr_11_3 :=
  mi_ok (fc := 9000) (f := 9000) (cuts := []) (xk := jx) cl_lok cl_hrf (cl_hro L xs) hL jx_ok (by decide +kernel)
def k_xr_11 : ct_C := ([(2, .ofNat 8, .ofNat 8)], [(10, 210, .ofNat 0, .ofNat 29), (32, 1, .ofNat 11, .ofNat 11)], [(10, 210, .ofNat 0, .ofNat 29), (32, 1, .ofNat 0, .ofNat 40)], [10], (some (0, .negSucc 4, .ofNat 28)), 3, false)
theorem s_xr_11 (M : Nat → Nat → Int) (hm : sx_mok cl_ly M) (hJ : JJ M) (hg : ct_g k_xr_11.2.1 M) : ∃ m ∈ [k_xr_11_e, k_xr_11_0, k_xr_11_1, k_xr_11_2, k_xr_11_3], ct_g m.2.1 M := by
  have hv : M 32 1 = 11 := by
    have h := hg (32, 1, .ofNat 11, .ofNat 11) (List.mem_cons_of_mem _ List.mem_cons_self)
    exact Int.le_antisymm h.2 h.1
  have hk := jr_kn hm
  have hu := jr_un hm
  have hd := hJ.2.2.1
  have he := hJ.2.2.2
  by_cases h0 : M 32 2 = 11
  · exact ⟨k_xr_11_e, List.mem_cons_self, (jc (by show (11 : Int) ≤ M 32 1; omega) (by show M 32 1 ≤ (11 : Int); omega) (jc (by show (11 : Int) ≤ M 32 2; omega) (by show M 32 2 ≤ (11 : Int); omega) jn))⟩
  · have h8 : jp (M 33 44) (M 33 45) (M 33 46) (M 33 47) := hJ.1 11 (by decide)
    obtain ⟨⟨b1, b2, b3, b4⟩, h8⟩ := h8
    rcases h8 with h8 | h8 | h8 | h8
    · exact ⟨k_xr_11_0, (List.mem_cons_of_mem _ List.mem_cons_self), (jh (hg (10, 210, .ofNat 0, .ofNat 29) List.mem_cons_self) (jc (by show (11 : Int) ≤ M 32 1; omega) (by show M 32 1 ≤ (11 : Int); omega) (jc (by show (12 : Int) ≤ M 32 2; omega) (by show M 32 2 ≤ (40 : Int); omega) (jc (by show (0 : Int) ≤ M 33 44; omega) (by show M 33 44 ≤ (4 : Int); omega) (jc (by show (0 : Int) ≤ M 33 45; omega) (by show M 33 45 ≤ (5 : Int); omega) (jc (by show (-1 : Int) ≤ M 33 47; omega) (by show M 33 47 ≤ (143 : Int); omega) jn))))))⟩
    · exact ⟨k_xr_11_1, (List.mem_cons_of_mem _ (List.mem_cons_of_mem _ List.mem_cons_self)), (jh (hg (10, 210, .ofNat 0, .ofNat 29) List.mem_cons_self) (jc (by show (11 : Int) ≤ M 32 1; omega) (by show M 32 1 ≤ (11 : Int); omega) (jc (by show (12 : Int) ≤ M 32 2; omega) (by show M 32 2 ≤ (40 : Int); omega) (jc (by show (5 : Int) ≤ M 33 44; omega) (by show M 33 44 ≤ (5 : Int); omega) (jc (by show (0 : Int) ≤ M 33 45; omega) (by show M 33 45 ≤ (29 : Int); omega) (jc (by show (-1 : Int) ≤ M 33 47; omega) (by show M 33 47 ≤ (143 : Int); omega) jn))))))⟩
    · exact ⟨k_xr_11_2, (List.mem_cons_of_mem _ (List.mem_cons_of_mem _ (List.mem_cons_of_mem _ List.mem_cons_self))), (jh (hg (10, 210, .ofNat 0, .ofNat 29) List.mem_cons_self) (jc (by show (11 : Int) ≤ M 32 1; omega) (by show M 32 1 ≤ (11 : Int); omega) (jc (by show (12 : Int) ≤ M 32 2; omega) (by show M 32 2 ≤ (40 : Int); omega) (jc (by show (6 : Int) ≤ M 33 44; omega) (by show M 33 44 ≤ (6 : Int); omega) (jc (by show (0 : Int) ≤ M 33 45; omega) (by show M 33 45 ≤ (11 : Int); omega) (jc (by show (-1 : Int) ≤ M 33 47; omega) (by show M 33 47 ≤ (143 : Int); omega) jn))))))⟩
    · exact ⟨k_xr_11_3, (List.mem_cons_of_mem _ (List.mem_cons_of_mem _ (List.mem_cons_of_mem _ (List.mem_cons_of_mem _ List.mem_cons_self)))), (jh (hg (10, 210, .ofNat 0, .ofNat 29) List.mem_cons_self) (jc (by show (11 : Int) ≤ M 32 1; omega) (by show M 32 1 ≤ (11 : Int); omega) (jc (by show (12 : Int) ≤ M 32 2; omega) (by show M 32 2 ≤ (40 : Int); omega) (jc (by show (7 : Int) ≤ M 33 44; omega) (by show M 33 44 ≤ (7 : Int); omega) (jc (by show (0 : Int) ≤ M 33 45; omega) (by show M 33 45 ≤ (0 : Int); omega) (jc (by show (0 : Int) ≤ M 33 47; omega) (by show M 33 47 ≤ (29 : Int); omega) jn))))))⟩
theorem c_xr_11 (hL : L < 2 ^ 31) : ci L xs 123 k_xr_11 :=
  ci_j_ok (ms := [k_xr_11_e, k_xr_11_0, k_xr_11_1, k_xr_11_2, k_xr_11_3]) (jl_cons (c_xr_11_e hL) (jl_cons (c_xr_11_0 hL) (jl_cons (c_xr_11_1 hL) (jl_cons (c_xr_11_2 hL) (jl_cons (c_xr_11_3 hL) jl_nil))))) s_xr_11 (by decide +kernel)
def k_xr_12_e : ct_C := ([(2, .ofNat 8, .ofNat 8)], [(32, 1, .ofNat 12, .ofNat 12), (32, 2, .ofNat 12, .ofNat 12)], [], [], (some (0, .negSucc 4, .negSucc 4)), 1, false)
theorem c_xr_12_e (hL : L < 2 ^ 31) : ci L xs 123 k_xr_12_e :=
  mi_ok (fc := 9000) (f := 9000) (cuts := []) (xk := jx) cl_lok cl_hrf (cl_hro L xs) hL jx_ok (by decide +kernel)
def k_xr_12_0 : ct_C := ([(2, .ofNat 8, .ofNat 8)], [(10, 210, .ofNat 0, .ofNat 29), (32, 1, .ofNat 12, .ofNat 12), (32, 2, .ofNat 13, .ofNat 40), (33, 48, .ofNat 0, .ofNat 4), (33, 49, .ofNat 0, .ofNat 5), (33, 51, .negSucc 0, .ofNat 143)], [(10, 210, .ofNat 0, .ofNat 29), (32, 1, .ofNat 13, .ofNat 13)], [10], (some (0, .ofNat 0, .ofNat 27)), 3, false)
theorem c_xr_12_0 (hL : L < 2 ^ 31) : ci L xs 123 k_xr_12_0 :=
  mi_ok (fc := 9000) (f := 9000) (cuts := []) (xk := jx) cl_lok cl_hrf (cl_hro L xs) hL jx_ok (by decide +kernel)
def k_xr_12_1 : ct_C := ([(2, .ofNat 8, .ofNat 8)], [(10, 210, .ofNat 0, .ofNat 29), (32, 1, .ofNat 12, .ofNat 12), (32, 2, .ofNat 13, .ofNat 40), (33, 48, .ofNat 5, .ofNat 5), (33, 49, .ofNat 0, .ofNat 29), (33, 51, .negSucc 0, .ofNat 143)], [(10, 210, .ofNat 0, .ofNat 29), (32, 1, .ofNat 13, .ofNat 13)], [10], (some (0, .ofNat 0, .ofNat 27)), 3, false)
theorem c_xr_12_1 (hL : L < 2 ^ 31) : ci L xs 123 k_xr_12_1 :=
  mi_ok (fc := 9000) (f := 9000) (cuts := []) (xk := jx) cl_lok cl_hrf (cl_hro L xs) hL jx_ok (by decide +kernel)
def k_xr_12_2 : ct_C := ([(2, .ofNat 8, .ofNat 8)], [(10, 210, .ofNat 0, .ofNat 29), (32, 1, .ofNat 12, .ofNat 12), (32, 2, .ofNat 13, .ofNat 40), (33, 48, .ofNat 6, .ofNat 6), (33, 49, .ofNat 0, .ofNat 11), (33, 51, .negSucc 0, .ofNat 143)], [(10, 210, .ofNat 0, .ofNat 29), (32, 1, .ofNat 13, .ofNat 13)], [10], (some (0, .ofNat 0, .ofNat 27)), 3, false)
theorem c_xr_12_2 (hL : L < 2 ^ 31) : ci L xs 123 k_xr_12_2 :=
  mi_ok (fc := 9000) (f := 9000) (cuts := []) (xk := jx) cl_lok cl_hrf (cl_hro L xs) hL jx_ok (by decide +kernel)
def k_xr_12_3 : ct_C := ([(2, .ofNat 8, .ofNat 8)], [(10, 210, .ofNat 0, .ofNat 29), (32, 1, .ofNat 12, .ofNat 12), (32, 2, .ofNat 13, .ofNat 40), (33, 48, .ofNat 7, .ofNat 7), (33, 49, .ofNat 0, .ofNat 0), (33, 51, .ofNat 0, .ofNat 29)], [(10, 210, .ofNat 0, .ofNat 29), (32, 1, .ofNat 13, .ofNat 13)], [10], (some (0, .ofNat 0, .ofNat 27)), 3, false)
theorem c_xr_12_3 (hL : L < 2 ^ 31) : ci L xs 123 k_xr_12_3 :=
  mi_ok (fc := 9000) (f := 9000) (cuts := []) (xk := jx) cl_lok cl_hrf (cl_hro L xs) hL jx_ok (by decide +kernel)
def k_xr_12 : ct_C := ([(2, .ofNat 8, .ofNat 8)], [(10, 210, .ofNat 0, .ofNat 29), (32, 1, .ofNat 12, .ofNat 12)], [(10, 210, .ofNat 0, .ofNat 29), (32, 1, .ofNat 0, .ofNat 40)], [10], (some (0, .negSucc 4, .ofNat 27)), 3, false)
theorem s_xr_12 (M : Nat → Nat → Int) (hm : sx_mok cl_ly M) (hJ : JJ M) (hg : ct_g k_xr_12.2.1 M) : ∃ m ∈ [k_xr_12_e, k_xr_12_0, k_xr_12_1, k_xr_12_2, k_xr_12_3], ct_g m.2.1 M := by
  have hv : M 32 1 = 12 := by
    have h := hg (32, 1, .ofNat 12, .ofNat 12) (List.mem_cons_of_mem _ List.mem_cons_self)
    exact Int.le_antisymm h.2 h.1
  have hk := jr_kn hm
  have hu := jr_un hm
  have hd := hJ.2.2.1
  have he := hJ.2.2.2
  by_cases h0 : M 32 2 = 12
  · exact ⟨k_xr_12_e, List.mem_cons_self, (jc (by show (12 : Int) ≤ M 32 1; omega) (by show M 32 1 ≤ (12 : Int); omega) (jc (by show (12 : Int) ≤ M 32 2; omega) (by show M 32 2 ≤ (12 : Int); omega) jn))⟩
  · have h8 : jp (M 33 48) (M 33 49) (M 33 50) (M 33 51) := hJ.1 12 (by decide)
    obtain ⟨⟨b1, b2, b3, b4⟩, h8⟩ := h8
    rcases h8 with h8 | h8 | h8 | h8
    · exact ⟨k_xr_12_0, (List.mem_cons_of_mem _ List.mem_cons_self), (jh (hg (10, 210, .ofNat 0, .ofNat 29) List.mem_cons_self) (jc (by show (12 : Int) ≤ M 32 1; omega) (by show M 32 1 ≤ (12 : Int); omega) (jc (by show (13 : Int) ≤ M 32 2; omega) (by show M 32 2 ≤ (40 : Int); omega) (jc (by show (0 : Int) ≤ M 33 48; omega) (by show M 33 48 ≤ (4 : Int); omega) (jc (by show (0 : Int) ≤ M 33 49; omega) (by show M 33 49 ≤ (5 : Int); omega) (jc (by show (-1 : Int) ≤ M 33 51; omega) (by show M 33 51 ≤ (143 : Int); omega) jn))))))⟩
    · exact ⟨k_xr_12_1, (List.mem_cons_of_mem _ (List.mem_cons_of_mem _ List.mem_cons_self)), (jh (hg (10, 210, .ofNat 0, .ofNat 29) List.mem_cons_self) (jc (by show (12 : Int) ≤ M 32 1; omega) (by show M 32 1 ≤ (12 : Int); omega) (jc (by show (13 : Int) ≤ M 32 2; omega) (by show M 32 2 ≤ (40 : Int); omega) (jc (by show (5 : Int) ≤ M 33 48; omega) (by show M 33 48 ≤ (5 : Int); omega) (jc (by show (0 : Int) ≤ M 33 49; omega) (by show M 33 49 ≤ (29 : Int); omega) (jc (by show (-1 : Int) ≤ M 33 51; omega) (by show M 33 51 ≤ (143 : Int); omega) jn))))))⟩
    · exact ⟨k_xr_12_2, (List.mem_cons_of_mem _ (List.mem_cons_of_mem _ (List.mem_cons_of_mem _ List.mem_cons_self))), (jh (hg (10, 210, .ofNat 0, .ofNat 29) List.mem_cons_self) (jc (by show (12 : Int) ≤ M 32 1; omega) (by show M 32 1 ≤ (12 : Int); omega) (jc (by show (13 : Int) ≤ M 32 2; omega) (by show M 32 2 ≤ (40 : Int); omega) (jc (by show (6 : Int) ≤ M 33 48; omega) (by show M 33 48 ≤ (6 : Int); omega) (jc (by show (0 : Int) ≤ M 33 49; omega) (by show M 33 49 ≤ (11 : Int); omega) (jc (by show (-1 : Int) ≤ M 33 51; omega) (by show M 33 51 ≤ (143 : Int); omega) jn))))))⟩
    · exact ⟨k_xr_12_3, (List.mem_cons_of_mem _ (List.mem_cons_of_mem _ (List.mem_cons_of_mem _ (List.mem_cons_of_mem _ List.mem_cons_self)))), (jh (hg (10, 210, .ofNat 0, .ofNat 29) List.mem_cons_self) (jc (by show (12 : Int) ≤ M 32 1; omega) (by show M 32 1 ≤ (12 : Int); omega) (jc (by show (13 : Int) ≤ M 32 2; omega) (by show M 32 2 ≤ (40 : Int); omega) (jc (by show (7 : Int) ≤ M 33 48; omega) (by show M 33 48 ≤ (7 : Int); omega) (jc (by show (0 : Int) ≤ M 33 49; omega) (by show M 33 49 ≤ (0 : Int); omega) (jc (by show (0 : Int) ≤ M 33 51; omega) (by show M 33 51 ≤ (29 : Int); omega) jn))))))⟩
theorem c_xr_12 (hL : L < 2 ^ 31) : ci L xs 123 k_xr_12 :=
  ci_j_ok (ms := [k_xr_12_e, k_xr_12_0, k_xr_12_1, k_xr_12_2, k_xr_12_3]) (jl_cons (c_xr_12_e hL) (jl_cons (c_xr_12_0 hL) (jl_cons (c_xr_12_1 hL) (jl_cons (c_xr_12_2 hL) (jl_cons (c_xr_12_3 hL) jl_nil))))) s_xr_12 (by decide +kernel)
def k_xr_13_e : ct_C := ([(2, .ofNat 8, .ofNat 8)], [(32, 1, .ofNat 13, .ofNat 13), (32, 2, .ofNat 13, .ofNat 13)], [], [], (some (0, .negSucc 4, .negSucc 4)), 1, false)
theorem c_xr_13_e (hL : L < 2 ^ 31) : ci L xs 123 k_xr_13_e :=
  mi_ok (fc := 9000) (f := 9000) (cuts := []) (xk := jx) cl_lok cl_hrf (cl_hro L xs) hL jx_ok (by decide +kernel)
def k_xr_13_0 : ct_C := ([(2, .ofNat 8, .ofNat 8)], [(10, 210, .ofNat 0, .ofNat 29), (32, 1, .ofNat 13, .ofNat 13), (32, 2, .ofNat 14, .ofNat 40), (33, 52, .ofNat 0, .ofNat 4), (33, 53, .ofNat 0, .ofNat 5), (33, 55, .negSucc 0, .ofNat 143)], [(10, 210, .ofNat 0, .ofNat 29), (32, 1, .ofNat 14, .ofNat 14)], [10], (some (0, .ofNat 0, .ofNat 26)), 3, false)
theorem c_xr_13_0 (hL : L < 2 ^ 31) : ci L xs 123 k_xr_13_0 :=
  mi_ok (fc := 9000) (f := 9000) (cuts := []) (xk := jx) cl_lok cl_hrf (cl_hro L xs) hL jx_ok (by decide +kernel)
def k_xr_13_1 : ct_C := ([(2, .ofNat 8, .ofNat 8)], [(10, 210, .ofNat 0, .ofNat 29), (32, 1, .ofNat 13, .ofNat 13), (32, 2, .ofNat 14, .ofNat 40), (33, 52, .ofNat 5, .ofNat 5), (33, 53, .ofNat 0, .ofNat 29), (33, 55, .negSucc 0, .ofNat 143)], [(10, 210, .ofNat 0, .ofNat 29), (32, 1, .ofNat 14, .ofNat 14)], [10], (some (0, .ofNat 0, .ofNat 26)), 3, false)
theorem c_xr_13_1 (hL : L < 2 ^ 31) : ci L xs 123 k_xr_13_1 :=
  mi_ok (fc := 9000) (f := 9000) (cuts := []) (xk := jx) cl_lok cl_hrf (cl_hro L xs) hL jx_ok (by decide +kernel)
def k_xr_13_2 : ct_C := ([(2, .ofNat 8, .ofNat 8)], [(10, 210, .ofNat 0, .ofNat 29), (32, 1, .ofNat 13, .ofNat 13), (32, 2, .ofNat 14, .ofNat 40), (33, 52, .ofNat 6, .ofNat 6), (33, 53, .ofNat 0, .ofNat 11), (33, 55, .negSucc 0, .ofNat 143)], [(10, 210, .ofNat 0, .ofNat 29), (32, 1, .ofNat 14, .ofNat 14)], [10], (some (0, .ofNat 0, .ofNat 26)), 3, false)
theorem c_xr_13_2 (hL : L < 2 ^ 31) : ci L xs 123 k_xr_13_2 :=
  mi_ok (fc := 9000) (f := 9000) (cuts := []) (xk := jx) cl_lok cl_hrf (cl_hro L xs) hL jx_ok (by decide +kernel)
def k_xr_13_3 : ct_C := ([(2, .ofNat 8, .ofNat 8)], [(10, 210, .ofNat 0, .ofNat 29), (32, 1, .ofNat 13, .ofNat 13), (32, 2, .ofNat 14, .ofNat 40), (33, 52, .ofNat 7, .ofNat 7), (33, 53, .ofNat 0, .ofNat 0), (33, 55, .ofNat 0, .ofNat 29)], [(10, 210, .ofNat 0, .ofNat 29), (32, 1, .ofNat 14, .ofNat 14)], [10], (some (0, .ofNat 0, .ofNat 26)), 3, false)
theorem c_xr_13_3 (hL : L < 2 ^ 31) : ci L xs 123 k_xr_13_3 :=
  mi_ok (fc := 9000) (f := 9000) (cuts := []) (xk := jx) cl_lok cl_hrf (cl_hro L xs) hL jx_ok (by decide +kernel)
def k_xr_13 : ct_C := ([(2, .ofNat 8, .ofNat 8)], [(10, 210, .ofNat 0, .ofNat 29), (32, 1, .ofNat 13, .ofNat 13)], [(10, 210, .ofNat 0, .ofNat 29), (32, 1, .ofNat 0, .ofNat 40)], [10], (some (0, .negSucc 4, .ofNat 26)), 3, false)
theorem s_xr_13 (M : Nat → Nat → Int) (hm : sx_mok cl_ly M) (hJ : JJ M) (hg : ct_g k_xr_13.2.1 M) : ∃ m ∈ [k_xr_13_e, k_xr_13_0, k_xr_13_1, k_xr_13_2, k_xr_13_3], ct_g m.2.1 M := by
  have hv : M 32 1 = 13 := by
    have h := hg (32, 1, .ofNat 13, .ofNat 13) (List.mem_cons_of_mem _ List.mem_cons_self)
    exact Int.le_antisymm h.2 h.1
  have hk := jr_kn hm
  have hu := jr_un hm
  have hd := hJ.2.2.1
  have he := hJ.2.2.2
  by_cases h0 : M 32 2 = 13
  · exact ⟨k_xr_13_e, List.mem_cons_self, (jc (by show (13 : Int) ≤ M 32 1; omega) (by show M 32 1 ≤ (13 : Int); omega) (jc (by show (13 : Int) ≤ M 32 2; omega) (by show M 32 2 ≤ (13 : Int); omega) jn))⟩
  · have h8 : jp (M 33 52) (M 33 53) (M 33 54) (M 33 55) := hJ.1 13 (by decide)
    obtain ⟨⟨b1, b2, b3, b4⟩, h8⟩ := h8
    rcases h8 with h8 | h8 | h8 | h8
    · exact ⟨k_xr_13_0, (List.mem_cons_of_mem _ List.mem_cons_self), (jh (hg (10, 210, .ofNat 0, .ofNat 29) List.mem_cons_self) (jc (by show (13 : Int) ≤ M 32 1; omega) (by show M 32 1 ≤ (13 : Int); omega) (jc (by show (14 : Int) ≤ M 32 2; omega) (by show M 32 2 ≤ (40 : Int); omega) (jc (by show (0 : Int) ≤ M 33 52; omega) (by show M 33 52 ≤ (4 : Int); omega) (jc (by show (0 : Int) ≤ M 33 53; omega) (by show M 33 53 ≤ (5 : Int); omega) (jc (by show (-1 : Int) ≤ M 33 55; omega) (by show M 33 55 ≤ (143 : Int); omega) jn))))))⟩
    · exact ⟨k_xr_13_1, (List.mem_cons_of_mem _ (List.mem_cons_of_mem _ List.mem_cons_self)), (jh (hg (10, 210, .ofNat 0, .ofNat 29) List.mem_cons_self) (jc (by show (13 : Int) ≤ M 32 1; omega) (by show M 32 1 ≤ (13 : Int); omega) (jc (by show (14 : Int) ≤ M 32 2; omega) (by show M 32 2 ≤ (40 : Int); omega) (jc (by show (5 : Int) ≤ M 33 52; omega) (by show M 33 52 ≤ (5 : Int); omega) (jc (by show (0 : Int) ≤ M 33 53; omega) (by show M 33 53 ≤ (29 : Int); omega) (jc (by show (-1 : Int) ≤ M 33 55; omega) (by show M 33 55 ≤ (143 : Int); omega) jn))))))⟩
    · exact ⟨k_xr_13_2, (List.mem_cons_of_mem _ (List.mem_cons_of_mem _ (List.mem_cons_of_mem _ List.mem_cons_self))), (jh (hg (10, 210, .ofNat 0, .ofNat 29) List.mem_cons_self) (jc (by show (13 : Int) ≤ M 32 1; omega) (by show M 32 1 ≤ (13 : Int); omega) (jc (by show (14 : Int) ≤ M 32 2; omega) (by show M 32 2 ≤ (40 : Int); omega) (jc (by show (6 : Int) ≤ M 33 52; omega) (by show M 33 52 ≤ (6 : Int); omega) (jc (by show (0 : Int) ≤ M 33 53; omega) (by show M 33 53 ≤ (11 : Int); omega) (jc (by show (-1 : Int) ≤ M 33 55; omega) (by show M 33 55 ≤ (143 : Int); omega) jn))))))⟩
    · exact ⟨k_xr_13_3, (List.mem_cons_of_mem _ (List.mem_cons_of_mem _ (List.mem_cons_of_mem _ (List.mem_cons_of_mem _ List.mem_cons_self)))), (jh (hg (10, 210, .ofNat 0, .ofNat 29) List.mem_cons_self) (jc (by show (13 : Int) ≤ M 32 1; omega) (by show M 32 1 ≤ (13 : Int); omega) (jc (by show (14 : Int) ≤ M 32 2; omega) (by show M 32 2 ≤ (40 : Int); omega) (jc (by show (7 : Int) ≤ M 33 52; omega) (by show M 33 52 ≤ (7 : Int); omega) (jc (by show (0 : Int) ≤ M 33 53; omega) (by show M 33 53 ≤ (0 : Int); omega) (jc (by show (0 : Int) ≤ M 33 55; omega) (by show M 33 55 ≤ (29 : Int); omega) jn))))))⟩
theorem c_xr_13 (hL : L < 2 ^ 31) : ci L xs 123 k_xr_13 :=
  ci_j_ok (ms := [k_xr_13_e, k_xr_13_0, k_xr_13_1, k_xr_13_2, k_xr_13_3]) (jl_cons (c_xr_13_e hL) (jl_cons (c_xr_13_0 hL) (jl_cons (c_xr_13_1 hL) (jl_cons (c_xr_13_2 hL) (jl_cons (c_xr_13_3 hL) jl_nil))))) s_xr_13 (by decide +kernel)
def k_xr_14_e : ct_C := ([(2, .ofNat 8, .ofNat 8)], [(32, 1, .ofNat 14, .ofNat 14), (32, 2, .ofNat 14, .ofNat 14)], [], [], (some (0, .negSucc 4, .negSucc 4)), 1, false)
theorem c_xr_14_e (hL : L < 2 ^ 31) : ci L xs 123 k_xr_14_e :=
  mi_ok (fc := 9000) (f := 9000) (cuts := []) (xk := jx) cl_lok cl_hrf (cl_hro L xs) hL jx_ok (by decide +kernel)
def k_xr_14_0 : ct_C := ([(2, .ofNat 8, .ofNat 8)], [(10, 210, .ofNat 0, .ofNat 29), (32, 1, .ofNat 14, .ofNat 14), (32, 2, .ofNat 15, .ofNat 40), (33, 56, .ofNat 0, .ofNat 4), (33, 57, .ofNat 0, .ofNat 5), (33, 59, .negSucc 0, .ofNat 143)], [(10, 210, .ofNat 0, .ofNat 29), (32, 1, .ofNat 15, .ofNat 15)], [10], (some (0, .ofNat 0, .ofNat 25)), 3, false)
theorem c_xr_14_0 (hL : L < 2 ^ 31) : ci L xs 123 k_xr_14_0 :=
  mi_ok (fc := 9000) (f := 9000) (cuts := []) (xk := jx) cl_lok cl_hrf (cl_hro L xs) hL jx_ok (by decide +kernel)
def k_xr_14_1 : ct_C := ([(2, .ofNat 8, .ofNat 8)], [(10, 210, .ofNat 0, .ofNat 29), (32, 1, .ofNat 14, .ofNat 14), (32, 2, .ofNat 15, .ofNat 40), (33, 56, .ofNat 5, .ofNat 5), (33, 57, .ofNat 0, .ofNat 29), (33, 59, .negSucc 0, .ofNat 143)], [(10, 210, .ofNat 0, .ofNat 29), (32, 1, .ofNat 15, .ofNat 15)], [10], (some (0, .ofNat 0, .ofNat 25)), 3, false)
theorem c_xr_14_1 (hL : L < 2 ^ 31) : ci L xs 123 k_xr_14_1 :=
  mi_ok (fc := 9000) (f := 9000) (cuts := []) (xk := jx) cl_lok cl_hrf (cl_hro L xs) hL jx_ok (by decide +kernel)
def k_xr_14_2 : ct_C := ([(2, .ofNat 8, .ofNat 8)], [(10, 210, .ofNat 0, .ofNat 29), (32, 1, .ofNat 14, .ofNat 14), (32, 2, .ofNat 15, .ofNat 40), (33, 56, .ofNat 6, .ofNat 6), (33, 57, .ofNat 0, .ofNat 11), (33, 59, .negSucc 0, .ofNat 143)], [(10, 210, .ofNat 0, .ofNat 29), (32, 1, .ofNat 15, .ofNat 15)], [10], (some (0, .ofNat 0, .ofNat 25)), 3, false)
theorem c_xr_14_2 (hL : L < 2 ^ 31) : ci L xs 123 k_xr_14_2 :=
  mi_ok (fc := 9000) (f := 9000) (cuts := []) (xk := jx) cl_lok cl_hrf (cl_hro L xs) hL jx_ok (by decide +kernel)
def k_xr_14_3 : ct_C := ([(2, .ofNat 8, .ofNat 8)], [(10, 210, .ofNat 0, .ofNat 29), (32, 1, .ofNat 14, .ofNat 14), (32, 2, .ofNat 15, .ofNat 40), (33, 56, .ofNat 7, .ofNat 7), (33, 57, .ofNat 0, .ofNat 0), (33, 59, .ofNat 0, .ofNat 29)], [(10, 210, .ofNat 0, .ofNat 29), (32, 1, .ofNat 15, .ofNat 15)], [10], (some (0, .ofNat 0, .ofNat 25)), 3, false)
theorem c_xr_14_3 (hL : L < 2 ^ 31) : ci L xs 123 k_xr_14_3 :=
  mi_ok (fc := 9000) (f := 9000) (cuts := []) (xk := jx) cl_lok cl_hrf (cl_hro L xs) hL jx_ok (by decide +kernel)
def k_xr_14 : ct_C := ([(2, .ofNat 8, .ofNat 8)], [(10, 210, .ofNat 0, .ofNat 29), (32, 1, .ofNat 14, .ofNat 14)], [(10, 210, .ofNat 0, .ofNat 29), (32, 1, .ofNat 0, .ofNat 40)], [10], (some (0, .negSucc 4, .ofNat 25)), 3, false)
theorem s_xr_14 (M : Nat → Nat → Int) (hm : sx_mok cl_ly M) (hJ : JJ M) (hg : ct_g k_xr_14.2.1 M) : ∃ m ∈ [k_xr_14_e, k_xr_14_0, k_xr_14_1, k_xr_14_2, k_xr_14_3], ct_g m.2.1 M := by
  have hv : M 32 1 = 14 := by
    have h := hg (32, 1, .ofNat 14, .ofNat 14) (List.mem_cons_of_mem _ List.mem_cons_self)
    exact Int.le_antisymm h.2 h.1
  have hk := jr_kn hm
  have hu := jr_un hm
  have hd := hJ.2.2.1
  have he := hJ.2.2.2
  by_cases h0 : M 32 2 = 14
  · exact ⟨k_xr_14_e, List.mem_cons_self, (jc (by show (14 : Int) ≤ M 32 1; omega) (by show M 32 1 ≤ (14 : Int); omega) (jc (by show (14 : Int) ≤ M 32 2; omega) (by show M 32 2 ≤ (14 : Int); omega) jn))⟩
  · have h8 : jp (M 33 56) (M 33 57) (M 33 58) (M 33 59) := hJ.1 14 (by decide)
    obtain ⟨⟨b1, b2, b3, b4⟩, h8⟩ := h8
    rcases h8 with h8 | h8 | h8 | h8
    · exact ⟨k_xr_14_0, (List.mem_cons_of_mem _ List.mem_cons_self), (jh (hg (10, 210, .ofNat 0, .ofNat 29) List.mem_cons_self) (jc (by show (14 : Int) ≤ M 32 1; omega) (by show M 32 1 ≤ (14 : Int); omega) (jc (by show (15 : Int) ≤ M 32 2; omega) (by show M 32 2 ≤ (40 : Int); omega) (jc (by show (0 : Int) ≤ M 33 56; omega) (by show M 33 56 ≤ (4 : Int); omega) (jc (by show (0 : Int) ≤ M 33 57; omega) (by show M 33 57 ≤ (5 : Int); omega) (jc (by show (-1 : Int) ≤ M 33 59; omega) (by show M 33 59 ≤ (143 : Int); omega) jn))))))⟩
    · exact ⟨k_xr_14_1, (List.mem_cons_of_mem _ (List.mem_cons_of_mem _ List.mem_cons_self)), (jh (hg (10, 210, .ofNat 0, .ofNat 29) List.mem_cons_self) (jc (by show (14 : Int) ≤ M 32 1; omega) (by show M 32 1 ≤ (14 : Int); omega) (jc (by show (15 : Int) ≤ M 32 2; omega) (by show M 32 2 ≤ (40 : Int); omega) (jc (by show (5 : Int) ≤ M 33 56; omega) (by show M 33 56 ≤ (5 : Int); omega) (jc (by show (0 : Int) ≤ M 33 57; omega) (by show M 33 57 ≤ (29 : Int); omega) (jc (by show (-1 : Int) ≤ M 33 59; omega) (by show M 33 59 ≤ (143 : Int); omega) jn))))))⟩
    · exact ⟨k_xr_14_2, (List.mem_cons_of_mem _ (List.mem_cons_of_mem _ (List.mem_cons_of_mem _ List.mem_cons_self))), (jh (hg (10, 210, .ofNat 0, .ofNat 29) List.mem_cons_self) (jc (by show (14 : Int) ≤ M 32 1; omega) (by show M 32 1 ≤ (14 : Int); omega) (jc (by show (15 : Int) ≤ M 32 2; omega) (by show M 32 2 ≤ (40 : Int); omega) (jc (by show (6 : Int) ≤ M 33 56; omega) (by show M 33 56 ≤ (6 : Int); omega) (jc (by show (0 : Int) ≤ M 33 57; omega) (by show M 33 57 ≤ (11 : Int); omega) (jc (by show (-1 : Int) ≤ M 33 59; omega) (by show M 33 59 ≤ (143 : Int); omega) jn))))))⟩
    · exact ⟨k_xr_14_3, (List.mem_cons_of_mem _ (List.mem_cons_of_mem _ (List.mem_cons_of_mem _ (List.mem_cons_of_mem _ List.mem_cons_self)))), (jh (hg (10, 210, .ofNat 0, .ofNat 29) List.mem_cons_self) (jc (by show (14 : Int) ≤ M 32 1; omega) (by show M 32 1 ≤ (14 : Int); omega) (jc (by show (15 : Int) ≤ M 32 2; omega) (by show M 32 2 ≤ (40 : Int); omega) (jc (by show (7 : Int) ≤ M 33 56; omega) (by show M 33 56 ≤ (7 : Int); omega) (jc (by show (0 : Int) ≤ M 33 57; omega) (by show M 33 57 ≤ (0 : Int); omega) (jc (by show (0 : Int) ≤ M 33 59; omega) (by show M 33 59 ≤ (29 : Int); omega) jn))))))⟩
theorem c_xr_14 (hL : L < 2 ^ 31) : ci L xs 123 k_xr_14 :=
  ci_j_ok (ms := [k_xr_14_e, k_xr_14_0, k_xr_14_1, k_xr_14_2, k_xr_14_3]) (jl_cons (c_xr_14_e hL) (jl_cons (c_xr_14_0 hL) (jl_cons (c_xr_14_1 hL) (jl_cons (c_xr_14_2 hL) (jl_cons (c_xr_14_3 hL) jl_nil))))) s_xr_14 (by decide +kernel)
def k_xr_15_e : ct_C := ([(2, .ofNat 8, .ofNat 8)], [(32, 1, .ofNat 15, .ofNat 15), (32, 2, .ofNat 15, .ofNat 15)], [], [], (some (0, .negSucc 4, .negSucc 4)), 1, false)
theorem c_xr_15_e (hL : L < 2 ^ 31) : ci L xs 123 k_xr_15_e :=
  mi_ok (fc := 9000) (f := 9000) (cuts := []) (xk := jx) cl_lok cl_hrf (cl_hro L xs) hL jx_ok (by decide +kernel)
def k_xr_15_0 : ct_C := ([(2, .ofNat 8, .ofNat 8)], [(10, 210, .ofNat 0, .ofNat 29), (32, 1, .ofNat 15, .ofNat 15), (32, 2, .ofNat 16, .ofNat 40), (33, 60, .ofNat 0, .ofNat 4), (33, 61, .ofNat 0, .ofNat 5), (33, 63, .negSucc 0, .ofNat 143)], [(10, 210, .ofNat 0, .ofNat 29), (32, 1, .ofNat 16, .ofNat 16)], [10], (some (0, .ofNat 0, .ofNat 24)), 3, false)
theorem c_xr_15_0 (hL : L < 2 ^ 31) : ci L xs 123 k_xr_15_0 :=
  mi_ok (fc := 9000) (f := 9000) (cuts := []) (xk := jx) cl_lok cl_hrf (cl_hro L xs) hL jx_ok (by decide +kernel)
def k_xr_15_1 : ct_C := ([(2, .ofNat 8, .ofNat 8)], [(10, 210, .ofNat 0, .ofNat 29), (32, 1, .ofNat 15, .ofNat 15), (32, 2, .ofNat 16, .ofNat 40), (33, 60, .ofNat 5, .ofNat 5), (33, 61, .ofNat 0, .ofNat 29), (33, 63, .negSucc 0, .ofNat 143)], [(10, 210, .ofNat 0, .ofNat 29), (32, 1, .ofNat 16, .ofNat 16)], [10], (some (0, .ofNat 0, .ofNat 24)), 3, false)
theorem c_xr_15_1 (hL : L < 2 ^ 31) : ci L xs 123 k_xr_15_1 :=
  mi_ok (fc := 9000) (f := 9000) (cuts := []) (xk := jx) cl_lok cl_hrf (cl_hro L xs) hL jx_ok (by decide +kernel)
def k_xr_15_2 : ct_C := ([(2, .ofNat 8, .ofNat 8)], [(10, 210, .ofNat 0, .ofNat 29), (32, 1, .ofNat 15, .ofNat 15), (32, 2, .ofNat 16, .ofNat 40), (33, 60, .ofNat 6, .ofNat 6), (33, 61, .ofNat 0, .ofNat 11), (33, 63, .negSucc 0, .ofNat 143)], [(10, 210, .ofNat 0, .ofNat 29), (32, 1, .ofNat 16, .ofNat 16)], [10], (some (0, .ofNat 0, .ofNat 24)), 3, false)
theorem c_xr_15_2 (hL : L < 2 ^ 31) : ci L xs 123 k_xr_15_2 :=
  mi_ok (fc := 9000) (f := 9000) (cuts := []) (xk := jx) cl_lok cl_hrf (cl_hro L xs) hL jx_ok (by decide +kernel)
def k_xr_15_3 : ct_C := ([(2, .ofNat 8, .ofNat 8)], [(10, 210, .ofNat 0, .ofNat 29), (32, 1, .ofNat 15, .ofNat 15), (32, 2, .ofNat 16, .ofNat 40), (33, 60, .ofNat 7, .ofNat 7), (33, 61, .ofNat 0, .ofNat 0), (33, 63, .ofNat 0, .ofNat 29)], [(10, 210, .ofNat 0, .ofNat 29), (32, 1, .ofNat 16, .ofNat 16)], [10], (some (0, .ofNat 0, .ofNat 24)), 3, false)
theorem c_xr_15_3 (hL : L < 2 ^ 31) : ci L xs 123 k_xr_15_3 :=
  mi_ok (fc := 9000) (f := 9000) (cuts := []) (xk := jx) cl_lok cl_hrf (cl_hro L xs) hL jx_ok (by decide +kernel)
def k_xr_15 : ct_C := ([(2, .ofNat 8, .ofNat 8)], [(10, 210, .ofNat 0, .ofNat 29), (32, 1, .ofNat 15, .ofNat 15)], [(10, 210, .ofNat 0, .ofNat 29), (32, 1, .ofNat 0, .ofNat 40)], [10], (some (0, .negSucc 4, .ofNat 24)), 3, false)
theorem s_xr_15 (M : Nat → Nat → Int) (hm : sx_mok cl_ly M) (hJ : JJ M) (hg : ct_g k_xr_15.2.1 M) : ∃ m ∈ [k_xr_15_e, k_xr_15_0, k_xr_15_1, k_xr_15_2, k_xr_15_3], ct_g m.2.1 M := by
  have hv : M 32 1 = 15 := by
    have h := hg (32, 1, .ofNat 15, .ofNat 15) (List.mem_cons_of_mem _ List.mem_cons_self)
    exact Int.le_antisymm h.2 h.1
  have hk := jr_kn hm
  have hu := jr_un hm
  have hd := hJ.2.2.1
  have he := hJ.2.2.2
  by_cases h0 : M 32 2 = 15
  · exact ⟨k_xr_15_e, List.mem_cons_self, (jc (by show (15 : Int) ≤ M 32 1; omega) (by show M 32 1 ≤ (15 : Int); omega) (jc (by show (15 : Int) ≤ M 32 2; omega) (by show M 32 2 ≤ (15 : Int); omega) jn))⟩
  · have h8 : jp (M 33 60) (M 33 61) (M 33 62) (M 33 63) := hJ.1 15 (by decide)
    obtain ⟨⟨b1, b2, b3, b4⟩, h8⟩ := h8
    rcases h8 with h8 | h8 | h8 | h8
    · exact ⟨k_xr_15_0, (List.mem_cons_of_mem _ List.mem_cons_self), (jh (hg (10, 210, .ofNat 0, .ofNat 29) List.mem_cons_self) (jc (by show (15 : Int) ≤ M 32 1; omega) (by show M 32 1 ≤ (15 : Int); omega) (jc (by show (16 : Int) ≤ M 32 2; omega) (by show M 32 2 ≤ (40 : Int); omega) (jc (by show (0 : Int) ≤ M 33 60; omega) (by show M 33 60 ≤ (4 : Int); omega) (jc (by show (0 : Int) ≤ M 33 61; omega) (by show M 33 61 ≤ (5 : Int); omega) (jc (by show (-1 : Int) ≤ M 33 63; omega) (by show M 33 63 ≤ (143 : Int); omega) jn))))))⟩
    · exact ⟨k_xr_15_1, (List.mem_cons_of_mem _ (List.mem_cons_of_mem _ List.mem_cons_self)), (jh (hg (10, 210, .ofNat 0, .ofNat 29) List.mem_cons_self) (jc (by show (15 : Int) ≤ M 32 1; omega) (by show M 32 1 ≤ (15 : Int); omega) (jc (by show (16 : Int) ≤ M 32 2; omega) (by show M 32 2 ≤ (40 : Int); omega) (jc (by show (5 : Int) ≤ M 33 60; omega) (by show M 33 60 ≤ (5 : Int); omega) (jc (by show (0 : Int) ≤ M 33 61; omega) (by show M 33 61 ≤ (29 : Int); omega) (jc (by show (-1 : Int) ≤ M 33 63; omega) (by show M 33 63 ≤ (143 : Int); omega) jn))))))⟩
    · exact ⟨k_xr_15_2, (List.mem_cons_of_mem _ (List.mem_cons_of_mem _ (List.mem_cons_of_mem _ List.mem_cons_self))), (jh (hg (10, 210, .ofNat 0, .ofNat 29) List.mem_cons_self) (jc (by show (15 : Int) ≤ M 32 1; omega) (by show M 32 1 ≤ (15 : Int); omega) (jc (by show (16 : Int) ≤ M 32 2; omega) (by show M 32 2 ≤ (40 : Int); omega) (jc (by show (6 : Int) ≤ M 33 60; omega) (by show M 33 60 ≤ (6 : Int); omega) (jc (by show (0 : Int) ≤ M 33 61; omega) (by show M 33 61 ≤ (11 : Int); omega) (jc (by show (-1 : Int) ≤ M 33 63; omega) (by show M 33 63 ≤ (143 : Int); omega) jn))))))⟩
    · exact ⟨k_xr_15_3, (List.mem_cons_of_mem _ (List.mem_cons_of_mem _ (List.mem_cons_of_mem _ (List.mem_cons_of_mem _ List.mem_cons_self)))), (jh (hg (10, 210, .ofNat 0, .ofNat 29) List.mem_cons_self) (jc (by show (15 : Int) ≤ M 32 1; omega) (by show M 32 1 ≤ (15 : Int); omega) (jc (by show (16 : Int) ≤ M 32 2; omega) (by show M 32 2 ≤ (40 : Int); omega) (jc (by show (7 : Int) ≤ M 33 60; omega) (by show M 33 60 ≤ (7 : Int); omega) (jc (by show (0 : Int) ≤ M 33 61; omega) (by show M 33 61 ≤ (0 : Int); omega) (jc (by show (0 : Int) ≤ M 33 63; omega) (by show M 33 63 ≤ (29 : Int); omega) jn))))))⟩
theorem c_xr_15 (hL : L < 2 ^ 31) : ci L xs 123 k_xr_15 :=
  ci_j_ok (ms := [k_xr_15_e, k_xr_15_0, k_xr_15_1, k_xr_15_2, k_xr_15_3]) (jl_cons (c_xr_15_e hL) (jl_cons (c_xr_15_0 hL) (jl_cons (c_xr_15_1 hL) (jl_cons (c_xr_15_2 hL) (jl_cons (c_xr_15_3 hL) jl_nil))))) s_xr_15 (by decide +kernel)
def k_xr_16_e : ct_C := ([(2, .ofNat 8, .ofNat 8)], [(32, 1, .ofNat 16, .ofNat 16), (32, 2, .ofNat 16, .ofNat 16)], [], [], (some (0, .negSucc 4, .negSucc 4)), 1, false)
theorem c_xr_16_e (hL : L < 2 ^ 31) : ci L xs 123 k_xr_16_e :=
  mi_ok (fc := 9000) (f := 9000) (cuts := []) (xk := jx) cl_lok cl_hrf (cl_hro L xs) hL jx_ok (by decide +kernel)
def k_xr_16_0 : ct_C := ([(2, .ofNat 8, .ofNat 8)], [(10, 210, .ofNat 0, .ofNat 29), (32, 1, .ofNat 16, .ofNat 16), (32, 2, .ofNat 17, .ofNat 40), (33, 64, .ofNat 0, .ofNat 4), (33, 65, .ofNat 0, .ofNat 5), (33, 67, .negSucc 0, .ofNat 143)], [(10, 210, .ofNat 0, .ofNat 29), (32, 1, .ofNat 17, .ofNat 17)], [10], (some (0, .ofNat 0, .ofNat 23)), 3, false)
theorem c_xr_16_0 (hL : L < 2 ^ 31) : ci L xs 123 k_xr_16_0 :=
  mi_ok (fc := 9000) (f := 9000) (cuts := []) (xk := jx) cl_lok cl_hrf (cl_hro L xs) hL jx_ok (by decide +kernel)
end
