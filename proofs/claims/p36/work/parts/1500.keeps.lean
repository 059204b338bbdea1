/-! mend, undo, redo, 0. -/
section
variable {L : Nat} {xs : Nat → Int32}
def k_xu_0 : ct_C := ([(2, .ofNat 8, .ofNat 8)], [(32, 1, .ofNat 0, .ofNat 0)], [], [], (some (0, .negSucc 4, .negSucc 4)), 1, false)
theorem c_xu_0 (hL : L < 2 ^ 31) : ci L xs 121 k_xu_0 :=
  mi_ok (fc := 9000) (f := 9000) (cuts := []) (xk := jx) cl_lok cl_hrf (cl_hro L xs) hL jx_ok (by decide +kernel)
def k_xu_1_0 : ct_C := ([(2, .ofNat 8, .ofNat 8)], [(10, 210, .ofNat 0, .ofNat 29), (32, 1, .ofNat 1, .ofNat 1), (32, 2, .ofNat 1, .ofNat 40), (33, 0, .ofNat 0, .ofNat 4), (33, 1, .ofNat 0, .ofNat 5), (33, 2, .negSucc 0, .ofNat 143)], [(10, 210, .ofNat 0, .ofNat 29), (32, 1, .ofNat 0, .ofNat 0)], [10], (some (0, .ofNat 0, .ofNat 0)), 3, false)
theorem c_xu_1_0 (hL : L < 2 ^ 31) : ci L xs 121 k_xu_1_0 :=
  mi_ok (fc := 9000) (f := 9000) (cuts := []) (xk := jx) cl_lok cl_hrf (cl_hro L xs) hL jx_ok (by decide +kernel)
def k_xu_1_1 : ct_C := ([(2, .ofNat 8, .ofNat 8)], [(10, 210, .ofNat 0, .ofNat 29), (32, 1, .ofNat 1, .ofNat 1), (32, 2, .ofNat 1, .ofNat 40), (33, 0, .ofNat 5, .ofNat 5), (33, 1, .ofNat 0, .ofNat 29), (33, 2, .negSucc 0, .ofNat 143)], [(10, 210, .ofNat 0, .ofNat 29), (32, 1, .ofNat 0, .ofNat 0)], [10], (some (0, .ofNat 0, .ofNat 0)), 3, false)
theorem c_xu_1_1 (hL : L < 2 ^ 31) : ci L xs 121 k_xu_1_1 :=
  mi_ok (fc := 9000) (f := 9000) (cuts := []) (xk := jx) cl_lok cl_hrf (cl_hro L xs) hL jx_ok (by decide +kernel)
def k_xu_1_2 : ct_C := ([(2, .ofNat 8, .ofNat 8)], [(10, 210, .ofNat 0, .ofNat 29), (32, 1, .ofNat 1, .ofNat 1), (32, 2, .ofNat 1, .ofNat 40), (33, 0, .ofNat 6, .ofNat 6), (33, 1, .ofNat 0, .ofNat 11), (33, 2, .negSucc 0, .ofNat 143)], [(10, 210, .ofNat 0, .ofNat 29), (32, 1, .ofNat 0, .ofNat 0)], [10], (some (0, .ofNat 0, .ofNat 0)), 3, false)
theorem c_xu_1_2 (hL : L < 2 ^ 31) : ci L xs 121 k_xu_1_2 :=
  mi_ok (fc := 9000) (f := 9000) (cuts := []) (xk := jx) cl_lok cl_hrf (cl_hro L xs) hL jx_ok (by decide +kernel)
def k_xu_1_3 : ct_C := ([(2, .ofNat 8, .ofNat 8)], [(10, 210, .ofNat 0, .ofNat 29), (32, 1, .ofNat 1, .ofNat 1), (32, 2, .ofNat 1, .ofNat 40), (33, 0, .ofNat 7, .ofNat 7), (33, 1, .ofNat 0, .ofNat 0), (33, 2, .ofNat 0, .ofNat 29)], [(10, 210, .ofNat 0, .ofNat 29), (32, 1, .ofNat 0, .ofNat 0)], [10], (some (0, .ofNat 0, .ofNat 0)), 3, false)
theorem c_xu_1_3 (hL : L < 2 ^ 31) : ci L xs 121 k_xu_1_3 :=
  mi_ok (fc := 9000) (f := 9000) (cuts := []) (xk := jx) cl_lok cl_hrf (cl_hro L xs) hL jx_ok (by decide +kernel)
def k_xu_1 : ct_C := ([(2, .ofNat 8, .ofNat 8)], [(10, 210, .ofNat 0, .ofNat 29), (32, 1, .ofNat 1, .ofNat 1)], [(10, 210, .ofNat 0, .ofNat 29), (32, 1, .ofNat 0, .ofNat 40)], [10], (some (0, .ofNat 0, .ofNat 0)), 3, false)
theorem s_xu_1 (M : Nat → Nat → Int) (hm : sx_mok cl_ly M) (hJ : JJ M) (hg : ct_g k_xu_1.2.1 M) : ∃ m ∈ [k_xu_1_0, k_xu_1_1, k_xu_1_2, k_xu_1_3], ct_g m.2.1 M := by
  have hv : M 32 1 = 1 := by
    have h := hg (32, 1, .ofNat 1, .ofNat 1) (List.mem_cons_of_mem _ List.mem_cons_self)
    exact Int.le_antisymm h.2 h.1
  have hk := jr_kn hm
  have hu := jr_un hm
  have hd := hJ.2.2.1
  have he := hJ.2.2.2
  have h8 : jp (M 33 0) (M 33 1) (M 33 2) (M 33 3) := hJ.1 0 (by decide)
  obtain ⟨⟨b1, b2, b3, b4⟩, h8⟩ := h8
  rcases h8 with h8 | h8 | h8 | h8
  · exact ⟨k_xu_1_0, List.mem_cons_self, (jh (hg (10, 210, .ofNat 0, .ofNat 29) List.mem_cons_self) (jc (by show (1 : Int) ≤ M 32 1; omega) (by show M 32 1 ≤ (1 : Int); omega) (jc (by show (1 : Int) ≤ M 32 2; omega) (by show M 32 2 ≤ (40 : Int); omega) (jc (by show (0 : Int) ≤ M 33 0; omega) (by show M 33 0 ≤ (4 : Int); omega) (jc (by show (0 : Int) ≤ M 33 1; omega) (by show M 33 1 ≤ (5 : Int); omega) (jc (by show (-1 : Int) ≤ M 33 2; omega) (by show M 33 2 ≤ (143 : Int); omega) jn))))))⟩
  · exact ⟨k_xu_1_1, (List.mem_cons_of_mem _ List.mem_cons_self), (jh (hg (10, 210, .ofNat 0, .ofNat 29) List.mem_cons_self) (jc (by show (1 : Int) ≤ M 32 1; omega) (by show M 32 1 ≤ (1 : Int); omega) (jc (by show (1 : Int) ≤ M 32 2; omega) (by show M 32 2 ≤ (40 : Int); omega) (jc (by show (5 : Int) ≤ M 33 0; omega) (by show M 33 0 ≤ (5 : Int); omega) (jc (by show (0 : Int) ≤ M 33 1; omega) (by show M 33 1 ≤ (29 : Int); omega) (jc (by show (-1 : Int) ≤ M 33 2; omega) (by show M 33 2 ≤ (143 : Int); omega) jn))))))⟩
  · exact ⟨k_xu_1_2, (List.mem_cons_of_mem _ (List.mem_cons_of_mem _ List.mem_cons_self)), (jh (hg (10, 210, .ofNat 0, .ofNat 29) List.mem_cons_self) (jc (by show (1 : Int) ≤ M 32 1; omega) (by show M 32 1 ≤ (1 : Int); omega) (jc (by show (1 : Int) ≤ M 32 2; omega) (by show M 32 2 ≤ (40 : Int); omega) (jc (by show (6 : Int) ≤ M 33 0; omega) (by show M 33 0 ≤ (6 : Int); omega) (jc (by show (0 : Int) ≤ M 33 1; omega) (by show M 33 1 ≤ (11 : Int); omega) (jc (by show (-1 : Int) ≤ M 33 2; omega) (by show M 33 2 ≤ (143 : Int); omega) jn))))))⟩
  · exact ⟨k_xu_1_3, (List.mem_cons_of_mem _ (List.mem_cons_of_mem _ (List.mem_cons_of_mem _ List.mem_cons_self))), (jh (hg (10, 210, .ofNat 0, .ofNat 29) List.mem_cons_self) (jc (by show (1 : Int) ≤ M 32 1; omega) (by show M 32 1 ≤ (1 : Int); omega) (jc (by show (1 : Int) ≤ M 32 2; omega) (by show M 32 2 ≤ (40 : Int); omega) (jc (by show (7 : Int) ≤ M 33 0; omega) (by show M 33 0 ≤ (7 : Int); omega) (jc (by show (0 : Int) ≤ M 33 1; omega) (by show M 33 1 ≤ (0 : Int); omega) (jc (by show (0 : Int) ≤ M 33 2; omega) (by show M 33 2 ≤ (29 : Int); omega) jn))))))⟩
theorem c_xu_1 (hL : L < 2 ^ 31) : ci L xs 121 k_xu_1 :=
  ci_j_ok (ms := [k_xu_1_0, k_xu_1_1, k_xu_1_2, k_xu_1_3]) (jl_cons (c_xu_1_0 hL) (jl_cons (c_xu_1_1 hL) (jl_cons (c_xu_1_2 hL) (jl_cons (c_xu_1_3 hL) jl_nil)))) s_xu_1 (by decide +kernel)
def k_xu_2_0 : ct_C := ([(2, .ofNat 8, .ofNat 8)], [(10, 210, .ofNat 0, .ofNat 29), (32, 1, .ofNat 2, .ofNat 2), (32, 2, .ofNat 2, .ofNat 40), (33, 4, .ofNat 0, .ofNat 4), (33, 5, .ofNat 0, .ofNat 5), (33, 6, .negSucc 0, .ofNat 143)], [(10, 210, .ofNat 0, .ofNat 29), (32, 1, .ofNat 1, .ofNat 1)], [10], (some (0, .ofNat 1, .ofNat 1)), 3, false)
theorem c_xu_2_0 (hL : L < 2 ^ 31) : ci L xs 121 k_xu_2_0 :=
  mi_ok (fc := 9000) (f := 9000) (cuts := []) (xk := jx) cl_lok cl_hrf (cl_hro L xs) hL jx_ok (by decide +kernel)
def k_xu_2_1 : ct_C := ([(2, .ofNat 8, .ofNat 8)], [(10, 210, .ofNat 0, .ofNat 29), (32, 1, .ofNat 2, .ofNat 2), (32, 2, .ofNat 2, .ofNat 40), (33, 4, .ofNat 5, .ofNat 5), (33, 5, .ofNat 0, .ofNat 29), (33, 6, .negSucc 0, .ofNat 143)], [(10, 210, .ofNat 0, .ofNat 29), (32, 1, .ofNat 1, .ofNat 1)], [10], (some (0, .ofNat 1, .ofNat 1)), 3, false)
theorem c_xu_2_1 (hL : L < 2 ^ 31) : ci L xs 121 k_xu_2_1 :=
  mi_ok (fc := 9000) (f := 9000) (cuts := []) (xk := jx) cl_lok cl_hrf (cl_hro L xs) hL jx_ok (by decide +kernel)
def k_xu_2_2 : ct_C := ([(2, .ofNat 8, .ofNat 8)], [(10, 210, .ofNat 0, .ofNat 29), (32, 1, .ofNat 2, .ofNat 2), (32, 2, .ofNat 2, .ofNat 40), (33, 4, .ofNat 6, .ofNat 6), (33, 5, .ofNat 0, .ofNat 11), (33, 6, .negSucc 0, .ofNat 143)], [(10, 210, .ofNat 0, .ofNat 29), (32, 1, .ofNat 1, .ofNat 1)], [10], (some (0, .ofNat 1, .ofNat 1)), 3, false)
theorem c_xu_2_2 (hL : L < 2 ^ 31) : ci L xs 121 k_xu_2_2 :=
  mi_ok (fc := 9000) (f := 9000) (cuts := []) (xk := jx) cl_lok cl_hrf (cl_hro L xs) hL jx_ok (by decide +kernel)
def k_xu_2_3 : ct_C := ([(2, .ofNat 8, .ofNat 8)], [(10, 210, .ofNat 0, .ofNat 29), (32, 1, .ofNat 2, .ofNat 2), (32, 2, .ofNat 2, .ofNat 40), (33, 4, .ofNat 7, .ofNat 7), (33, 5, .ofNat 0, .ofNat 0), (33, 6, .ofNat 0, .ofNat 29)], [(10, 210, .ofNat 0, .ofNat 29), (32, 1, .ofNat 1, .ofNat 1)], [10], (some (0, .ofNat 1, .ofNat 1)), 3, false)
theorem c_xu_2_3 (hL : L < 2 ^ 31) : ci L xs 121 k_xu_2_3 :=
  mi_ok (fc := 9000) (f := 9000) (cuts := []) (xk := jx) cl_lok cl_hrf (cl_hro L xs) hL jx_ok (by decide +kernel)
def k_xu_2 : ct_C := ([(2, .ofNat 8, .ofNat 8)], [(10, 210, .ofNat 0, .ofNat 29), (32, 1, .ofNat 2, .ofNat 2)], [(10, 210, .ofNat 0, .ofNat 29), (32, 1, .ofNat 0, .ofNat 40)], [10], (some (0, .ofNat 1, .ofNat 1)), 3, false)
theorem s_xu_2 (M : Nat → Nat → Int) (hm : sx_mok cl_ly M) (hJ : JJ M) (hg : ct_g k_xu_2.2.1 M) : ∃ m ∈ [k_xu_2_0, k_xu_2_1, k_xu_2_2, k_xu_2_3], ct_g m.2.1 M := by
  have hv : M 32 1 = 2 := by
    have h := hg (32, 1, .ofNat 2, .ofNat 2) (List.mem_cons_of_mem _ List.mem_cons_self)
    exact Int.le_antisymm h.2 h.1
  have hk := jr_kn hm
  have hu := jr_un hm
  have hd := hJ.2.2.1
  have he := hJ.2.2.2
  have h8 : jp (M 33 4) (M 33 5) (M 33 6) (M 33 7) := hJ.1 1 (by decide)
  obtain ⟨⟨b1, b2, b3, b4⟩, h8⟩ := h8
  rcases h8 with h8 | h8 | h8 | h8
  · exact ⟨k_xu_2_0, List.mem_cons_self, (jh (hg (10, 210, .ofNat 0, .ofNat 29) List.mem_cons_self) (jc (by show (2 : Int) ≤ M 32 1; omega) (by show M 32 1 ≤ (2 : Int); omega) (jc (by show (2 : Int) ≤ M 32 2; omega) (by show M 32 2 ≤ (40 : Int); omega) (jc (by show (0 : Int) ≤ M 33 4; omega) (by show M 33 4 ≤ (4 : Int); omega) (jc (by show (0 : Int) ≤ M 33 5; omega) (by show M 33 5 ≤ (5 : Int); omega) (jc (by show (-1 : Int) ≤ M 33 6; omega) (by show M 33 6 ≤ (143 : Int); omega) jn))))))⟩
  · exact ⟨k_xu_2_1, (List.mem_cons_of_mem _ List.mem_cons_self), (jh (hg (10, 210, .ofNat 0, .ofNat 29) List.mem_cons_self) (jc (by show (2 : Int) ≤ M 32 1; omega) (by show M 32 1 ≤ (2 : Int); omega) (jc (by show (2 : Int) ≤ M 32 2; omega) (by show M 32 2 ≤ (40 : Int); omega) (jc (by show (5 : Int) ≤ M 33 4; omega) (by show M 33 4 ≤ (5 : Int); omega) (jc (by show (0 : Int) ≤ M 33 5; omega) (by show M 33 5 ≤ (29 : Int); omega) (jc (by show (-1 : Int) ≤ M 33 6; omega) (by show M 33 6 ≤ (143 : Int); omega) jn))))))⟩
  · exact ⟨k_xu_2_2, (List.mem_cons_of_mem _ (List.mem_cons_of_mem _ List.mem_cons_self)), (jh (hg (10, 210, .ofNat 0, .ofNat 29) List.mem_cons_self) (jc (by show (2 : Int) ≤ M 32 1; omega) (by show M 32 1 ≤ (2 : Int); omega) (jc (by show (2 : Int) ≤ M 32 2; omega) (by show M 32 2 ≤ (40 : Int); omega) (jc (by show (6 : Int) ≤ M 33 4; omega) (by show M 33 4 ≤ (6 : Int); omega) (jc (by show (0 : Int) ≤ M 33 5; omega) (by show M 33 5 ≤ (11 : Int); omega) (jc (by show (-1 : Int) ≤ M 33 6; omega) (by show M 33 6 ≤ (143 : Int); omega) jn))))))⟩
  · exact ⟨k_xu_2_3, (List.mem_cons_of_mem _ (List.mem_cons_of_mem _ (List.mem_cons_of_mem _ List.mem_cons_self))), (jh (hg (10, 210, .ofNat 0, .ofNat 29) List.mem_cons_self) (jc (by show (2 : Int) ≤ M 32 1; omega) (by show M 32 1 ≤ (2 : Int); omega) (jc (by show (2 : Int) ≤ M 32 2; omega) (by show M 32 2 ≤ (40 : Int); omega) (jc (by show (7 : Int) ≤ M 33 4; omega) (by show M 33 4 ≤ (7 : Int); omega) (jc (by show (0 : Int) ≤ M 33 5; omega) (by show M 33 5 ≤ (0 : Int); omega) (jc (by show (0 : Int) ≤ M 33 6; omega) (by show M 33 6 ≤ (29 : Int); omega) jn))))))⟩
theorem c_xu_2 (hL : L < 2 ^ 31) : ci L xs 121 k_xu_2 :=
  ci_j_ok (ms := [k_xu_2_0, k_xu_2_1, k_xu_2_2, k_xu_2_3]) (jl_cons (c_xu_2_0 hL) (jl_cons (c_xu_2_1 hL) (jl_cons (c_xu_2_2 hL) (jl_cons (c_xu_2_3 hL) jl_nil)))) s_xu_2 (by decide +kernel)
def k_xu_3_0 : ct_C := ([(2, .ofNat 8, .ofNat 8)], [(10, 210, .ofNat 0, .ofNat 29), (32, 1, .ofNat 3, .ofNat 3), (32, 2, .ofNat 3, .ofNat 40), (33, 8, .ofNat 0, .ofNat 4), (33, 9, .ofNat 0, .ofNat 5), (33, 10, .negSucc 0, .ofNat 143)], [(10, 210, .ofNat 0, .ofNat 29), (32, 1, .ofNat 2, .ofNat 2)], [10], (some (0, .ofNat 2, .ofNat 2)), 3, false)
theorem c_xu_3_0 (hL : L < 2 ^ 31) : ci L xs 121 k_xu_3_0 :=
  mi_ok (fc := 9000) (f := 9000) (cuts := []) (xk := jx) cl_lok cl_hrf (cl_hro L xs) hL jx_ok (by decide +kernel)
def k_xu_3_1 : ct_C := ([(2, .ofNat 8, .ofNat 8)], [(10, 210, .ofNat 0, .ofNat 29), (32, 1, .ofNat 3, .ofNat 3), (32, 2, .ofNat 3, .ofNat 40), (33, 8, .ofNat 5, .ofNat 5), (33, 9, .ofNat 0, .ofNat 29), (33, 10, .negSucc 0, .ofNat 143)], [(10, 210, .ofNat 0, .ofNat 29), (32, 1, .ofNat 2, .ofNat 2)], [10], (some (0, .ofNat 2, .ofNat 2)), 3, false)
theorem c_xu_3_1 (hL : L < 2 ^ 31) : ci L xs 121 k_xu_3_1 :=
  mi_ok (fc := 9000) (f := 9000) (cuts := []) (xk := jx) cl_lok cl_hrf (cl_hro L xs) hL jx_ok (by decide +kernel)
def k_xu_3_2 : ct_C := ([(2, .ofNat 8, .ofNat 8)], [(10, 210, .ofNat 0, .ofNat 29), (32, 1, .ofNat 3, .ofNat 3), (32, 2, .ofNat 3, .ofNat 40), (33, 8, .ofNat 6, .ofNat 6), (33, 9, .ofNat 0, .ofNat 11), (33, 10, .negSucc 0, .ofNat 143)], [(10, 210, .ofNat 0, .ofNat 29), (32, 1, .ofNat 2, .ofNat 2)], [10], (some (0, .ofNat 2, .ofNat 2)), 3, false)
theorem c_xu_3_2 (hL : L < 2 ^ 31) : ci L xs 121 k_xu_3_2 :=
  mi_ok (fc := 9000) (f := 9000) (cuts := []) (xk := jx) cl_lok cl_hrf (cl_hro L xs) hL jx_ok (by decide +kernel)
def k_xu_3_3 : ct_C := ([(2, .ofNat 8, .ofNat 8)], [(10, 210, .ofNat 0, .ofNat 29), (32, 1, .ofNat 3, .ofNat 3), (32, 2, .ofNat 3, .ofNat 40), (33, 8, .ofNat 7, .ofNat 7), (33, 9, .ofNat 0, .ofNat 0), (33, 10, .ofNat 0, .ofNat 29)], [(10, 210, .ofNat 0, .ofNat 29), (32, 1, .ofNat 2, .ofNat 2)], [10], (some (0, .ofNat 2, .ofNat 2)), 3, false)
theorem c_xu_3_3 (hL : L < 2 ^ 31) : ci L xs 121 k_xu_3_3 :=
  mi_ok (fc := 9000) (f := 9000) (cuts := []) (xk := jx) cl_lok cl_hrf (cl_hro L xs) hL jx_ok (by decide +kernel)
def k_xu_3 : ct_C := ([(2, .ofNat 8, .ofNat 8)], [(10, 210, .ofNat 0, .ofNat 29), (32, 1, .ofNat 3, .ofNat 3)], [(10, 210, .ofNat 0, .ofNat 29), (32, 1, .ofNat 0, .ofNat 40)], [10], (some (0, .ofNat 2, .ofNat 2)), 3, false)
theorem s_xu_3 (M : Nat → Nat → Int) (hm : sx_mok cl_ly M) (hJ : JJ M) (hg : ct_g k_xu_3.2.1 M) : ∃ m ∈ [k_xu_3_0, k_xu_3_1, k_xu_3_2, k_xu_3_3], ct_g m.2.1 M := by
  have hv : M 32 1 = 3 := by
    have h := hg (32, 1, .ofNat 3, .ofNat 3) (List.mem_cons_of_mem _ List.mem_cons_self)
    exact Int.le_antisymm h.2 h.1
  have hk := jr_kn hm
  have hu := jr_un hm
  have hd := hJ.2.2.1
  have he := hJ.2.2.2
  have h8 : jp (M 33 8) (M 33 9) (M 33 10) (M 33 11) := hJ.1 2 (by decide)
  obtain ⟨⟨b1, b2, b3, b4⟩, h8⟩ := h8
  rcases h8 with h8 | h8 | h8 | h8
  · exact ⟨k_xu_3_0, List.mem_cons_self, (jh (hg (10, 210, .ofNat 0, .ofNat 29) List.mem_cons_self) (jc (by show (3 : Int) ≤ M 32 1; omega) (by show M 32 1 ≤ (3 : Int); omega) (jc (by show (3 : Int) ≤ M 32 2; omega) (by show M 32 2 ≤ (40 : Int); omega) (jc (by show (0 : Int) ≤ M 33 8; omega) (by show M 33 8 ≤ (4 : Int); omega) (jc (by show (0 : Int) ≤ M 33 9; omega) (by show M 33 9 ≤ (5 : Int); omega) (jc (by show (-1 : Int) ≤ M 33 10; omega) (by show M 33 10 ≤ (143 : Int); omega) jn))))))⟩
  · exact ⟨k_xu_3_1, (List.mem_cons_of_mem _ List.mem_cons_self), (jh (hg (10, 210, .ofNat 0, .ofNat 29) List.mem_cons_self) (jc (by show (3 : Int) ≤ M 32 1; omega) (by show M 32 1 ≤ (3 : Int); omega) (jc (by show (3 : Int) ≤ M 32 2; omega) (by show M 32 2 ≤ (40 : Int); omega) (jc (by show (5 : Int) ≤ M 33 8; omega) (by show M 33 8 ≤ (5 : Int); omega) (jc (by show (0 : Int) ≤ M 33 9; omega) (by show M 33 9 ≤ (29 : Int); omega) (jc (by show (-1 : Int) ≤ M 33 10; omega) (by show M 33 10 ≤ (143 : Int); omega) jn))))))⟩
  · exact ⟨k_xu_3_2, (List.mem_cons_of_mem _ (List.mem_cons_of_mem _ List.mem_cons_self)), (jh (hg (10, 210, .ofNat 0, .ofNat 29) List.mem_cons_self) (jc (by show (3 : Int) ≤ M 32 1; omega) (by show M 32 1 ≤ (3 : Int); omega) (jc (by show (3 : Int) ≤ M 32 2; omega) (by show M 32 2 ≤ (40 : Int); omega) (jc (by show (6 : Int) ≤ M 33 8; omega) (by show M 33 8 ≤ (6 : Int); omega) (jc (by show (0 : Int) ≤ M 33 9; omega) (by show M 33 9 ≤ (11 : Int); omega) (jc (by show (-1 : Int) ≤ M 33 10; omega) (by show M 33 10 ≤ (143 : Int); omega) jn))))))⟩
  · exact ⟨k_xu_3_3, (List.mem_cons_of_mem _ (List.mem_cons_of_mem _ (List.mem_cons_of_mem _ List.mem_cons_self))), (jh (hg (10, 210, .ofNat 0, .ofNat 29) List.mem_cons_self) (jc (by show (3 : Int) ≤ M 32 1; omega) (by show M 32 1 ≤ (3 : Int); omega) (jc (by show (3 : Int) ≤ M 32 2; omega) (by show M 32 2 ≤ (40 : Int); omega) (jc (by show (7 : Int) ≤ M 33 8; omega) (by show M 33 8 ≤ (7 : Int); omega) (jc (by show (0 : Int) ≤ M 33 9; omega) (by show M 33 9 ≤ (0 : Int); omega) (jc (by show (0 : Int) ≤ M 33 10; omega) (by show M 33 10 ≤ (29 : Int); omega) jn))))))⟩
theorem c_xu_3 (hL : L < 2 ^ 31) : ci L xs 121 k_xu_3 :=
  ci_j_ok (ms := [k_xu_3_0, k_xu_3_1, k_xu_3_2, k_xu_3_3]) (jl_cons (c_xu_3_0 hL) (jl_cons (c_xu_3_1 hL) (jl_cons (c_xu_3_2 hL) (jl_cons (c_xu_3_3 hL) jl_nil)))) s_xu_3 (by decide +kernel)
def k_xu_4_0 : ct_C := ([(2, .ofNat 8, .ofNat 8)], [(10, 210, .ofNat 0, .ofNat 29), (32, 1, .ofNat 4, .ofNat 4), (32, 2, .ofNat 4, .ofNat 40), (33, 12, .ofNat 0, .ofNat 4), (33, 13, .ofNat 0, .ofNat 5), (33, 14, .negSucc 0, .ofNat 143)], [(10, 210, .ofNat 0, .ofNat 29), (32, 1, .ofNat 3, .ofNat 3)], [10], (some (0, .ofNat 3, .ofNat 3)), 3, false)
theorem c_xu_4_0 (hL : L < 2 ^ 31) : ci L xs 121 k_xu_4_0 :=
  mi_ok (fc := 9000) (f := 9000) (cuts := []) (xk := jx) cl_lok cl_hrf (cl_hro L xs) hL jx_ok (by decide +kernel)
def k_xu_4_1 : ct_C := ([(2, .ofNat 8, .ofNat 8)], [(10, 210, .ofNat 0, .ofNat 29), (32, 1, .ofNat 4, .ofNat 4), (32, 2, .ofNat 4, .ofNat 40), (33, 12, .ofNat 5, .ofNat 5), (33, 13, .ofNat 0, .ofNat 29), (33, 14, .negSucc 0, .ofNat 143)], [(10, 210, .ofNat 0, .ofNat 29), (32, 1, .ofNat 3, .ofNat 3)], [10], (some (0, .ofNat 3, .ofNat 3)), 3, false)
theorem c_xu_4_1 (hL : L < 2 ^ 31) : ci L xs 121 k_xu_4_1 :=
  mi_ok (fc := 9000) (f := 9000) (cuts := []) (xk := jx) cl_lok cl_hrf (cl_hro L xs) hL jx_ok (by decide +kernel)
def k_xu_4_2 : ct_C := ([(2, .ofNat 8, .ofNat 8)], [(10, 210, .ofNat 0, .ofNat 29), (32, 1, .ofNat 4, .ofNat 4), (32, 2, .ofNat 4, .ofNat 40), (33, 12, .ofNat 6, .ofNat 6), (33, 13, .ofNat 0, .ofNat 11), (33, 14, .negSucc 0, .ofNat 143)], [(10, 210, .ofNat 0, .ofNat 29), (32, 1, .ofNat 3, .ofNat 3)], [10], (some (0, .ofNat 3, .ofNat 3)), 3, false)
theorem c_xu_4_2 (hL : L < 2 ^ 31) : ci L xs 121 k_xu_4_2 :=
  mi_ok (fc := 9000) (f := 9000) (cuts := []) (xk := jx) cl_lok cl_hrf (cl_hro L xs) hL jx_ok (by decide +kernel)
def k_xu_4_3 : ct_C := ([(2, .ofNat 8, .ofNat 8)], [(10, 210, .ofNat 0, .ofNat 29), (32, 1, .ofNat 4, .ofNat 4), (32, 2, .ofNat 4, .ofNat 40), (33, 12, .ofNat 7, .ofNat 7), (33, 13, .ofNat 0, .ofNat 0), (33, 14, .ofNat 0, .ofNat 29)], [(10, 210, .ofNat 0, .ofNat 29), (32, 1, .ofNat 3, .ofNat 3)], [10], (some (0, .ofNat 3, .ofNat 3)), 3, false)
theorem c_xu_4_3 (hL : L < 2 ^ 31) : ci L xs 121 k_xu_4_3 :=
  mi_ok (fc := 9000) (f := 9000) (cuts := []) (xk := jx) cl_lok cl_hrf (cl_hro L xs) hL jx_ok (by decide +kernel)
def k_xu_4 : ct_C := ([(2, .ofNat 8, .ofNat 8)], [(10, 210, .ofNat 0, .ofNat 29), (32, 1, .ofNat 4, .ofNat 4)], [(10, 210, .ofNat 0, .ofNat 29), (32, 1, .ofNat 0, .ofNat 40)], [10], (some (0, .ofNat 3, .ofNat 3)), 3, false)
theorem s_xu_4 (M : Nat → Nat → Int) (hm : sx_mok cl_ly M) (hJ : JJ M) (hg : ct_g k_xu_4.2.1 M) : ∃ m ∈ [k_xu_4_0, k_xu_4_1, k_xu_4_2, k_xu_4_3], ct_g m.2.1 M := by
  have hv : M 32 1 = 4 := by
    have h := hg (32, 1, .ofNat 4, .ofNat 4) (List.mem_cons_of_mem _ List.mem_cons_self)
    exact Int.le_antisymm h.2 h.1
  have hk := jr_kn hm
  have hu := jr_un hm
  have hd := hJ.2.2.1
  have he := hJ.2.2.2
  have h8 : jp (M 33 12) (M 33 13) (M 33 14) (M 33 15) := hJ.1 3 (by decide)
  obtain ⟨⟨b1, b2, b3, b4⟩, h8⟩ := h8
  rcases h8 with h8 | h8 | h8 | h8
  · exact ⟨k_xu_4_0, List.mem_cons_self, (jh (hg (10, 210, .ofNat 0, .ofNat 29) List.mem_cons_self) (jc (by show (4 : Int) ≤ M 32 1; omega) (by show M 32 1 ≤ (4 : Int); omega) (jc (by show (4 : Int) ≤ M 32 2; omega) (by show M 32 2 ≤ (40 : Int); omega) (jc (by show (0 : Int) ≤ M 33 12; omega) (by show M 33 12 ≤ (4 : Int); omega) (jc (by show (0 : Int) ≤ M 33 13; omega) (by show M 33 13 ≤ (5 : Int); omega) (jc (by show (-1 : Int) ≤ M 33 14; omega) (by show M 33 14 ≤ (143 : Int); omega) jn))))))⟩
  · exact ⟨k_xu_4_1, (List.mem_cons_of_mem _ List.mem_cons_self), (jh (hg (10, 210, .ofNat 0, .ofNat 29) List.mem_cons_self) (jc (by show (4 : Int) ≤ M 32 1; omega) (by show M 32 1 ≤ (4 : Int); omega) (jc (by show (4 : Int) ≤ M 32 2; omega) (by show M 32 2 ≤ (40 : Int); omega) (jc (by show (5 : Int) ≤ M 33 12; omega) (by show M 33 12 ≤ (5 : Int); omega) (jc (by show (0 : Int) ≤ M 33 13; omega) (by show M 33 13 ≤ (29 : Int); omega) (jc (by show (-1 : Int) ≤ M 33 14; omega) (by show M 33 14 ≤ (143 : Int); omega) jn))))))⟩
  · exact ⟨k_xu_4_2, (List.mem_cons_of_mem _ (List.mem_cons_of_mem _ List.mem_cons_self)), (jh (hg (10, 210, .ofNat 0, .ofNat 29) List.mem_cons_self) (jc (by show (4 : Int) ≤ M 32 1; omega) (by show M 32 1 ≤ (4 : Int); omega) (jc (by show (4 : Int) ≤ M 32 2; omega) (by show M 32 2 ≤ (40 : Int); omega) (jc (by show (6 : Int) ≤ M 33 12; omega) (by show M 33 12 ≤ (6 : Int); omega) (jc (by show (0 : Int) ≤ M 33 13; omega) (by show M 33 13 ≤ (11 : Int); omega) (jc (by show (-1 : Int) ≤ M 33 14; omega) (by show M 33 14 ≤ (143 : Int); omega) jn))))))⟩
  · exact ⟨k_xu_4_3, (List.mem_cons_of_mem _ (List.mem_cons_of_mem _ (List.mem_cons_of_mem _ List.mem_cons_self))), (jh (hg (10, 210, .ofNat 0, .ofNat 29) List.mem_cons_self) (jc (by show (4 : Int) ≤ M 32 1; omega) (by show M 32 1 ≤ (4 : Int); omega) (jc (by show (4 : Int) ≤ M 32 2; omega) (by show M 32 2 ≤ (40 : Int); omega) (jc (by show (7 : Int) ≤ M 33 12; omega) (by show M 33 12 ≤ (7 : Int); omega) (jc (by show (0 : Int) ≤ M 33 13; omega) (by show M 33 13 ≤ (0 : Int); omega) (jc (by show (0 : Int) ≤ M 33 14; omega) (by show M 33 14 ≤ (29 : Int); omega) jn))))))⟩
theorem c_xu_4 (hL : L < 2 ^ 31) : ci L xs 121 k_xu_4 :=
  ci_j_ok (ms := [k_xu_4_0, k_xu_4_1, k_xu_4_2, k_xu_4_3]) (jl_cons (c_xu_4_0 hL) (jl_cons (c_xu_4_1 hL) (jl_cons (c_xu_4_2 hL) (jl_cons (c_xu_4_3 hL) jl_nil)))) s_xu_4 (by decide +kernel)
def k_xu_5_0 : ct_C := ([(2, .ofNat 8, .ofNat 8)], [(10, 210, .ofNat 0, .ofNat 29), (32, 1, .ofNat 5, .ofNat 5), (32, 2, .ofNat 5, .ofNat 40), (33, 16, .ofNat 0, .ofNat 4), (33, 17, .ofNat 0, .ofNat 5), (33, 18, .negSucc 0, .ofNat 143)], [(10, 210, .ofNat 0, .ofNat 29), (32, 1, .ofNat 4, .ofNat 4)], [10], (some (0, .ofNat 4, .ofNat 4)), 3, false)
theorem c_xu_5_0 (hL : L < 2 ^ 31) : ci L xs 121 k_xu_5_0 :=
  mi_ok (fc := 9000) (f := 9000) (cuts := []) (xk := jx) cl_lok cl_hrf (cl_hro L xs) hL jx_ok (by decide +kernel)
def k_xu_5_1 : ct_C := ([(2, .ofNat 8, .ofNat 8)], [(10, 210, .ofNat 0, .ofNat 29), (32, 1, .ofNat 5, .ofNat 5), (32, 2, .ofNat 5, .ofNat 40), (33, 16, .ofNat 5, .ofNat 5), (33, 17, .ofNat 0, .ofNat 29), (33, 18, .negSucc 0, .ofNat 143)], [(10, 210, .ofNat 0, .ofNat 29), (32, 1, .ofNat 4, .ofNat 4)], [10], (some (0, .ofNat 4, .ofNat 4)), 3, false)
theorem c_xu_5_1 (hL : L < 2 ^ 31) : ci L xs 121 k_xu_5_1 :=
  mi_ok (fc := 9000) (f := 9000) (cuts := []) (xk := jx) cl_lok cl_hrf (cl_hro L xs) hL jx_ok (by decide +kernel)
def k_xu_5_2 : ct_C := ([(2, .ofNat 8, .ofNat 8)], [(10, 210, .ofNat 0, .ofNat 29), (32, 1, .ofNat 5, .ofNat 5), (32, 2, .ofNat 5, .ofNat 40), (33, 16, .ofNat 6, .ofNat 6), (33, 17, .ofNat 0, .ofNat 11), (33, 18, .negSucc 0, .ofNat 143)], [(10, 210, .ofNat 0, .ofNat 29), (32, 1, .ofNat 4, .ofNat 4)], [10], (some (0, .ofNat 4, .ofNat 4)), 3, false)
theorem c_xu_5_2 (hL : L < 2 ^ 31) : ci L xs 121 k_xu_5_2 :=
  mi_ok (fc := 9000) (f := 9000) (cuts := []) (xk := jx) cl_lok cl_hrf (cl_hro L xs) hL jx_ok (by decide +kernel)
def k_xu_5_3 : ct_C := ([(2, .ofNat 8, .ofNat 8)], [(10, 210, .ofNat 0, .ofNat 29), (32, 1, .ofNat 5, .ofNat 5), (32, 2, .ofNat 5, .ofNat 40), (33, 16, .ofNat 7, .ofNat 7), (33, 17, .ofNat 0, .ofNat 0), (33, 18, .ofNat 0, .ofNat 29)], [(10, 210, .ofNat 0, .ofNat 29), (32, 1, .ofNat 4, .ofNat 4)], [10], (some (0, .ofNat 4, .ofNat 4)), 3, false)
theorem c_xu_5_3 (hL : L < 2 ^ 31) : ci L xs 121 k_xu_5_3 :=
  mi_ok (fc := 9000) (f := 9000) (cuts := []) (xk := jx) cl_lok cl_hrf (cl_hro L xs) hL jx_ok (by decide +kernel)
def k_xu_5 : ct_C := ([(2, .ofNat 8, .ofNat 8)], [(10, 210, .ofNat 0, .ofNat 29), (32, 1, .ofNat 5, .ofNat 5)], [(10, 210, .ofNat 0, .ofNat 29), (32, 1, .ofNat 0, .ofNat 40)], [10], (some (0, .ofNat 4, .ofNat 4)), 3, false)
theorem s_xu_5 (M : Nat → Nat → Int) (hm : sx_mok cl_ly M) (hJ : JJ M) (hg : ct_g k_xu_5.2.1 M) : ∃ m ∈ [k_xu_5_0, k_xu_5_1, k_xu_5_2, k_xu_5_3], ct_g m.2.1 M := by
  have hv : M 32 1 = 5 := by
    have h := hg (32, 1, .ofNat 5, .ofNat 5) (List.mem_cons_of_mem _ List.mem_cons_self)
    exact Int.le_antisymm h.2 h.1
  have hk := jr_kn hm
  have hu := jr_un hm
  have hd := hJ.2.2.1
  have he := hJ.2.2.2
  have h8 : jp (M 33 16) (M 33 17) (M 33 18) (M 33 19) := hJ.1 4 (by decide)
  obtain ⟨⟨b1, b2, b3, b4⟩, h8⟩ := h8
  rcases h8 with h8 | h8 | h8 | h8
  · exact ⟨k_xu_5_0, List.mem_cons_self, (jh (hg (10, 210, .ofNat 0, .ofNat 29) List.mem_cons_self) (jc (by show (5 : Int) ≤ M 32 1; omega) (by show M 32 1 ≤ (5 : Int); omega) (jc (by show (5 : Int) ≤ M 32 2; omega) (by show M 32 2 ≤ (40 : Int); omega) (jc (by show (0 : Int) ≤ M 33 16; omega) (by show M 33 16 ≤ (4 : Int); omega) (jc (by show (0 : Int) ≤ M 33 17; omega) (by show M 33 17 ≤ (5 : Int); omega) (jc (by show (-1 : Int) ≤ M 33 18; omega) (by show M 33 18 ≤ (143 : Int); omega) jn))))))⟩
  · exact ⟨k_xu_5_1, (List.mem_cons_of_mem _ List.mem_cons_self), (jh (hg (10, 210, .ofNat 0, .ofNat 29) List.mem_cons_self) (jc (by show (5 : Int) ≤ M 32 1; omega) (by show M 32 1 ≤ (5 : Int); omega) (jc (by show (5 : Int) ≤ M 32 2; omega) (by show M 32 2 ≤ (40 : Int); omega) (jc (by show (5 : Int) ≤ M 33 16; omega) (by show M 33 16 ≤ (5 : Int); omega) (jc (by show (0 : Int) ≤ M 33 17; omega) (by show M 33 17 ≤ (29 : Int); omega) (jc (by show (-1 : Int) ≤ M 33 18; omega) (by show M 33 18 ≤ (143 : Int); omega) jn))))))⟩
  · exact ⟨k_xu_5_2, (List.mem_cons_of_mem _ (List.mem_cons_of_mem _ List.mem_cons_self)), (jh (hg (10, 210, .ofNat 0, .ofNat 29) List.mem_cons_self) (jc (by show (5 : Int) ≤ M 32 1; omega) (by show M 32 1 ≤ (5 : Int); omega) (jc (by show (5 : Int) ≤ M 32 2; omega) (by show M 32 2 ≤ (40 : Int); omega) (jc (by show (6 : Int) ≤ M 33 16; omega) (by show M 33 16 ≤ (6 : Int); omega) (jc (by show (0 : Int) ≤ M 33 17; omega) (by show M 33 17 ≤ (11 : Int); omega) (jc (by show (-1 : Int) ≤ M 33 18; omega) (by show M 33 18 ≤ (143 : Int); omega) jn))))))⟩
  · exact ⟨k_xu_5_3, (List.mem_cons_of_mem _ (List.mem_cons_of_mem _ (List.mem_cons_of_mem _ List.mem_cons_self))), (jh (hg (10, 210, .ofNat 0, .ofNat 29) List.mem_cons_self) (jc (by show (5 : Int) ≤ M 32 1; omega) (by show M 32 1 ≤ (5 : Int); omega) (jc (by show (5 : Int) ≤ M 32 2; omega) (by show M 32 2 ≤ (40 : Int); omega) (jc (by show (7 : Int) ≤ M 33 16; omega) (by show M 33 16 ≤ (7 : Int); omega) (jc (by show (0 : Int) ≤ M 33 17; omega) (by show M 33 17 ≤ (0 : Int); omega) (jc (by show (0 : Int) ≤ M 33 18; omega) (by show M 33 18 ≤ (29 : Int); omega) jn))))))⟩
theorem c_xu_5 (hL : L < 2 ^ 31) : ci L xs 121 k_xu_5 :=
  ci_j_ok (ms := [k_xu_5_0, k_xu_5_1, k_xu_5_2, k_xu_5_3]) (jl_cons (c_xu_5_0 hL) (jl_cons (c_xu_5_1 hL) (jl_cons (c_xu_5_2 hL) (jl_cons (c_xu_5_3 hL) jl_nil)))) s_xu_5 (by decide +kernel)
def k_xu_6_0 : ct_C := ([(2, .ofNat 8, .ofNat 8)], [(10, 210, .ofNat 0, .ofNat 29), (32, 1, .ofNat 6, .ofNat 6), (32, 2, .ofNat 6, .ofNat 40), (33, 20, .ofNat 0, .ofNat 4), (33, 21, .ofNat 0, .ofNat 5), (33, 22, .negSucc 0, .ofNat 143)], [(10, 210, .ofNat 0, .ofNat 29), (32, 1, .ofNat 5, .ofNat 5)], [10], (some (0, .ofNat 5, .ofNat 5)), 3, false)
theorem c_xu_6_0 (hL : L < 2 ^ 31) : ci L xs 121 k_xu_6_0 :=
  mi_ok (fc := 9000) (f := 9000) (cuts := []) (xk := jx) cl_lok cl_hrf (cl_hro L xs) hL jx_ok (by decide +kernel)
def k_xu_6_1 : ct_C := ([(2, .ofNat 8, .ofNat 8)], [(10, 210, .ofNat 0, .ofNat 29), (32, 1, .ofNat 6, .ofNat 6), (32, 2, .ofNat 6, .ofNat 40), (33, 20, .ofNat 5, .ofNat 5), (33, 21, .ofNat 0, .ofNat 29), (33, 22, .negSucc 0, .ofNat 143)], [(10, 210, .ofNat 0, .ofNat 29), (32, 1, .ofNat 5, .ofNat 5)], [10], (some (0, .ofNat 5, .ofNat 5)), 3, false)
theorem c_xu_6_1 (hL : L < 2 ^ 31) : ci L xs 121 k_xu_6_1 :=
  mi_ok (fc := 9000) (f := 9000) (cuts := []) (xk := jx) cl_lok cl_hrf (cl_hro L xs) hL jx_ok (by decide +kernel)
def k_xu_6_2 : ct_C := ([(2, .ofNat 8, .ofNat 8)], [(10, 210, .ofNat 0, .ofNat 29), (32, 1, .ofNat 6, .ofNat 6), (32, 2, .ofNat 6, .ofNat 40), (33, 20, .ofNat 6, .ofNat 6), (33, 21, .ofNat 0, .ofNat 11), (33, 22, .negSucc 0, .ofNat 143)], [(10, 210, .ofNat 0, .ofNat 29), (32, 1, .ofNat 5, .ofNat 5)], [10], (some (0, .ofNat 5, .ofNat 5)), 3, false)
theorem c_xu_6_2 (hL : L < 2 ^ 31) : ci L xs 121 k_xu_6_2 :=
  mi_ok (fc := 9000) (f := 9000) (cuts := []) (xk := jx) cl_lok cl_hrf (cl_hro L xs) hL jx_ok (by decide +kernel)
def k_xu_6_3 : ct_C := ([(2, .ofNat 8, .ofNat 8)], [(10, 210, .ofNat 0, .ofNat 29), (32, 1, .ofNat 6, .ofNat 6), (32, 2, .ofNat 6, .ofNat 40), (33, 20, .ofNat 7, .ofNat 7), (33, 21, .ofNat 0, .ofNat 0), (33, 22, .ofNat 0, .ofNat 29)], [(10, 210, .ofNat 0, .ofNat 29), (32, 1, .ofNat 5, .ofNat 5)], [10], (some (0, .ofNat 5, .ofNat 5)), 3, false)
theorem c_xu_6_3 (hL : L < 2 ^ 31) : ci L xs 121 k_xu_6_3 :=
  mi_ok (fc := 9000) (f := 9000) (cuts := []) (xk := jx) cl_lok cl_hrf (cl_hro L xs) hL jx_ok (by decide +kernel)
def k_xu_6 : ct_C := ([(2, .ofNat 8, .ofNat 8)], [(10, 210, .ofNat 0, .ofNat 29), (32, 1, .ofNat 6, .ofNat 6)], [(10, 210, .ofNat 0, .ofNat 29), (32, 1, .ofNat 0, .ofNat 40)], [10], (some (0, .ofNat 5, .ofNat 5)), 3, false)
theorem s_xu_6 (M : Nat → Nat → Int) (hm : sx_mok cl_ly M) (hJ : JJ M) (hg : ct_g k_xu_6.2.1 M) : ∃ m ∈ [k_xu_6_0, k_xu_6_1, k_xu_6_2, k_xu_6_3], ct_g m.2.1 M := by
  have hv : M 32 1 = 6 := by
    have h := hg (32, 1, .ofNat 6, .ofNat 6) (List.mem_cons_of_mem _ List.mem_cons_self)
    exact Int.le_antisymm h.2 h.1
  have hk := jr_kn hm
  have hu := jr_un hm
  have hd := hJ.2.2.1
  have he := hJ.2.2.2
  have h8 : jp (M 33 20) (M 33 21) (M 33 22) (M 33 23) := hJ.1 5 (by decide)
  obtain ⟨⟨b1, b2, b3, b4⟩, h8⟩ := h8
  rcases h8 with h8 | h8 | h8 | h8
  · exact ⟨k_xu_6_0, List.mem_cons_self, (jh (hg (10, 210, .ofNat 0, .ofNat 29) List.mem_cons_self) (jc (by show (6 : Int) ≤ M 32 1; omega) (by show M 32 1 ≤ (6 : Int); omega) (jc (by show (6 : Int) ≤ M 32 2; omega) (by show M 32 2 ≤ (40 : Int); omega) (jc (by show (0 : Int) ≤ M 33 20; omega) (by show M 33 20 ≤ (4 : Int); omega) (jc (by show (0 : Int) ≤ M 33 21; omega) (by show M 33 21 ≤ (5 : Int); omega) (jc (by show (-1 : Int) ≤ M 33 22; omega) (by show M 33 22 ≤ (143 : Int); omega) jn))))))⟩
  · exact ⟨k_xu_6_1, (List.mem_cons_of_mem _ List.mem_cons_self), (jh (hg (10, 210, .ofNat 0, .ofNat 29) List.mem_cons_self) (jc (by show (6 : Int) ≤ M 32 1; omega) (by show M 32 1 ≤ (6 : Int); omega) (jc (by show (6 : Int) ≤ M 32 2; omega) (by show M 32 2 ≤ (40 : Int); omega) (jc (by show (5 : Int) ≤ M 33 20; omega) (by show M 33 20 ≤ (5 : Int); omega) (jc (by show (0 : Int) ≤ M 33 21; omega) (by show M 33 21 ≤ (29 : Int); omega) (jc (by show (-1 : Int) ≤ M 33 22; omega) (by show M 33 22 ≤ (143 : Int); omega) jn))))))⟩
  · exact ⟨k_xu_6_2, (List.mem_cons_of_mem _ (List.mem_cons_of_mem _ List.mem_cons_self)), (jh (hg (10, 210, .ofNat 0, .ofNat 29) List.mem_cons_self) (jc (by show (6 : Int) ≤ M 32 1; omega) (by show M 32 1 ≤ (6 : Int); omega) (jc (by show (6 : Int) ≤ M 32 2; omega) (by show M 32 2 ≤ (40 : Int); omega) (jc (by show (6 : Int) ≤ M 33 20; omega) (by show M 33 20 ≤ (6 : Int); omega) (jc (by show (0 : Int) ≤ M 33 21; omega) (by show M 33 21 ≤ (11 : Int); omega) (jc (by show (-1 : Int) ≤ M 33 22; omega) (by show M 33 22 ≤ (143 : Int); omega) jn))))))⟩
  · exact ⟨k_xu_6_3, (List.mem_cons_of_mem _ (List.mem_cons_of_mem _ (List.mem_cons_of_mem _ List.mem_cons_self))), (jh (hg (10, 210, .ofNat 0, .ofNat 29) List.mem_cons_self) (jc (by show (6 : Int) ≤ M 32 1; omega) (by show M 32 1 ≤ (6 : Int); omega) (jc (by show (6 : Int) ≤ M 32 2; omega) (by show M 32 2 ≤ (40 : Int); omega) (jc (by show (7 : Int) ≤ M 33 20; omega) (by show M 33 20 ≤ (7 : Int); omega) (jc (by show (0 : Int) ≤ M 33 21; omega) (by show M 33 21 ≤ (0 : Int); omega) (jc (by show (0 : Int) ≤ M 33 22; omega) (by show M 33 22 ≤ (29 : Int); omega) jn))))))⟩
theorem c_xu_6 (hL : L < 2 ^ 31) : ci L xs 121 k_xu_6 :=
  ci_j_ok (ms := [k_xu_6_0, k_xu_6_1, k_xu_6_2, k_xu_6_3]) (jl_cons (c_xu_6_0 hL) (jl_cons (c_xu_6_1 hL) (jl_cons (c_xu_6_2 hL) (jl_cons (c_xu_6_3 hL) jl_nil)))) s_xu_6 (by decide +kernel)
def k_xu_7_0 : ct_C := ([(2, .ofNat 8, .ofNat 8)], [(10, 210, .ofNat 0, .ofNat 29), (32, 1, .ofNat 7, .ofNat 7), (32, 2, .ofNat 7, .ofNat 40), (33, 24, .ofNat 0, .ofNat 4), (33, 25, .ofNat 0, .ofNat 5), (33, 26, .negSucc 0, .ofNat 143)], [(10, 210, .ofNat 0, .ofNat 29), (32, 1, .ofNat 6, .ofNat 6)], [10], (some (0, .ofNat 6, .ofNat 6)), 3, false)
theorem c_xu_7_0 (hL : L < 2 ^ 31) : ci L xs 121 k_xu_7_0 :=
  mi_ok (fc := 9000) (f := 9000) (cuts := []) (xk := jx) cl_lok cl_hrf (cl_hro L xs) hL jx_ok (by decide +kernel)
def k_xu_7_1 : ct_C := ([(2, .ofNat 8, .ofNat 8)], [(10, 210, .ofNat 0, .ofNat 29), (32, 1, .ofNat 7, .ofNat 7), (32, 2, .ofNat 7, .ofNat 40), (33, 24, .ofNat 5, .ofNat 5), (33, 25, .ofNat 0, .ofNat 29), (33, 26, .negSucc 0, .ofNat 143)], [(10, 210, .ofNat 0, .ofNat 29), (32, 1, .ofNat 6, .ofNat 6)], [10], (some (0, .ofNat 6, .ofNat 6)), 3, false)
theorem c_xu_7_1 (hL : L < 2 ^ 31) : ci L xs 121 k_xu_7_1 :=
  mi_ok (fc := 9000) (f := 9000) (cuts := []) (xk := jx) cl_lok cl_hrf (cl_hro L xs) hL jx_ok (by decide +kernel)
def k_xu_7_2 : ct_C := ([(2, .ofNat 8, .ofNat 8)], [(10, 210, .ofNat 0, .ofNat 29), (32, 1, .ofNat 7, .ofNat 7), (32, 2, .ofNat 7, .ofNat 40), (33, 24, .ofNat 6, .ofNat 6), (33, 25, .ofNat 0, .ofNat 11), (33, 26, .negSucc 0, .ofNat 143)], [(10, 210, .ofNat 0, .ofNat 29), (32, 1, .ofNat 6, .ofNat 6)], [10], (some (0, .ofNat 6, .ofNat 6)), 3, false)
theorem c_xu_7_2 (hL : L < 2 ^ 31) : ci L xs 121 k_xu_7_2 :=
  mi_ok (fc := 9000) (f := 9000) (cuts := []) (xk := jx) cl_lok cl_hrf (cl_hro L xs) hL jx_ok (by decide +kernel)
def k_xu_7_3 : ct_C := ([(2, .ofNat 8, .ofNat 8)], [(10, 210, .ofNat 0, .ofNat 29), (32, 1, .ofNat 7, .ofNat 7), (32, 2, .ofNat 7, .ofNat 40), (33, 24, .ofNat 7, .ofNat 7), (33, 25, .ofNat 0, .ofNat 0), (33, 26, .ofNat 0, .ofNat 29)], [(10, 210, .ofNat 0, .ofNat 29), (32, 1, .ofNat 6, .ofNat 6)], [10], (some (0, .ofNat 6, .ofNat 6)), 3, false)
theorem c_xu_7_3 (hL : L < 2 ^ 31) : ci L xs 121 k_xu_7_3 :=
  mi_ok (fc := 9000) (f := 9000) (cuts := []) (xk := jx) cl_lok cl_hrf (cl_hro L xs) hL jx_ok (by decide +kernel)
def k_xu_7 : ct_C := ([(2, .ofNat 8, .ofNat 8)], [(10, 210, .ofNat 0, .ofNat 29), (32, 1, .ofNat 7, .ofNat 7)], [(10, 210, .ofNat 0, .ofNat 29), (32, 1, .ofNat 0, .ofNat 40)], [10], (some (0, .ofNat 6, .ofNat 6)), 3, false)
theorem s_xu_7 (M : Nat → Nat → Int) (hm : sx_mok cl_ly M) (hJ : JJ M) (hg : ct_g k_xu_7.2.1 M) : ∃ m ∈ [k_xu_7_0, k_xu_7_1, k_xu_7_2, k_xu_7_3], ct_g m.2.1 M := by
  have hv : M 32 1 = 7 := by
    have h := hg (32, 1, .ofNat 7, .ofNat 7) (List.mem_cons_of_mem _ List.mem_cons_self)
    exact Int.le_antisymm h.2 h.1
  have hk := jr_kn hm
  have hu := jr_un hm
  have hd := hJ.2.2.1
  have he := hJ.2.2.2
  have h8 : jp (M 33 24) (M 33 25) (M 33 26) (M 33 27) := hJ.1 6 (by decide)
  obtain ⟨⟨b1, b2, b3, b4⟩, h8⟩ := h8
  rcases h8 with h8 | h8 | h8 | h8
  · exact ⟨k_xu_7_0, List.mem_cons_self, (jh (hg (10, 210, .ofNat 0, .ofNat 29) List.mem_cons_self) (jc (by show (7 : Int) ≤ M 32 1; omega) (by show M 32 1 ≤ (7 : Int); omega) (jc (by show (7 : Int) ≤ M 32 2; omega) (by show M 32 2 ≤ (40 : Int); omega) (jc (by show (0 : Int) ≤ M 33 24; omega) (by show M 33 24 ≤ (4 : Int); omega) (jc (by show (0 : Int) ≤ M 33 25; omega) (by show M 33 25 ≤ (5 : Int); omega) (jc (by show (-1 : Int) ≤ M 33 26; omega) (by show M 33 26 ≤ (143 : Int); omega) jn))))))⟩
  · exact ⟨k_xu_7_1, (List.mem_cons_of_mem _ List.mem_cons_self), (jh (hg (10, 210, .ofNat 0, .ofNat 29) List.mem_cons_self) (jc (by show (7 : Int) ≤ M 32 1; omega) (by show M 32 1 ≤ (7 : Int); omega) (jc (by show (7 : Int) ≤ M 32 2; omega) (by show M 32 2 ≤ (40 : Int); omega) (jc (by show (5 : Int) ≤ M 33 24; omega) (by show M 33 24 ≤ (5 : Int); omega) (jc (by show (0 : Int) ≤ M 33 25; omega) (by show M 33 25 ≤ (29 : Int); omega) (jc (by show (-1 : Int) ≤ M 33 26; omega) (by show M 33 26 ≤ (143 : Int); omega) jn))))))⟩
  · exact ⟨k_xu_7_2, (List.mem_cons_of_mem _ (List.mem_cons_of_mem _ List.mem_cons_self)), (jh (hg (10, 210, .ofNat 0, .ofNat 29) List.mem_cons_self) (jc (by show (7 : Int) ≤ M 32 1; omega) (by show M 32 1 ≤ (7 : Int); omega) (jc (by show (7 : Int) ≤ M 32 2; omega) (by show M 32 2 ≤ (40 : Int); omega) (jc (by show (6 : Int) ≤ M 33 24; omega) (by show M 33 24 ≤ (6 : Int); omega) (jc (by show (0 : Int) ≤ M 33 25; omega) (by show M 33 25 ≤ (11 : Int); omega) (jc (by show (-1 : Int) ≤ M 33 26; omega) (by show M 33 26 ≤ (143 : Int); omega) jn))))))⟩
  · exact ⟨k_xu_7_3, (List.mem_cons_of_mem _ (List.mem_cons_of_mem _ (List.mem_cons_of_mem _ List.mem_cons_self))), (jh (hg (10, 210, .ofNat 0, .ofNat 29) List.mem_cons_self) (jc (by show (7 : Int) ≤ M 32 1; omega) (by show M 32 1 ≤ (7 : Int); omega) (jc (by show (7 : Int) ≤ M 32 2; omega) (by show M 32 2 ≤ (40 : Int); omega) (jc (by show (7 : Int) ≤ M 33 24; omega) (by show M 33 24 ≤ (7 : Int); omega) (jc (by show (0 : Int) ≤ M 33 25; omega) (by show M 33 25 ≤ (0 : Int); omega) (jc (by show (0 : Int) ≤ M 33 26; omega) (by show M 33 26 ≤ (29 : Int); omega) jn))))))⟩
theorem c_xu_7 (hL : L < 2 ^ 31) : ci L xs 121 k_xu_7 :=
  ci_j_ok (ms := [k_xu_7_0, k_xu_7_1, k_xu_7_2, k_xu_7_3]) (jl_cons (c_xu_7_0 hL) (jl_cons (c_xu_7_1 hL) (jl_cons (c_xu_7_2 hL) (jl_cons (c_xu_7_3 hL) jl_nil)))) s_xu_7 (by decide +kernel)
def k_xu_8_0 : ct_C := ([(2, .ofNat 8, .ofNat 8)], [(10, 210, .ofNat 0, .ofNat 29), (32, 1, .ofNat 8, .ofNat 8), (32, 2, .ofNat 8, .ofNat 40), (33, 28, .ofNat 0, .ofNat 4), (33, 29, .ofNat 0, .ofNat 5), (33, 30, .negSucc 0, .ofNat 143)], [(10, 210, .ofNat 0, .ofNat 29), (32, 1, .ofNat 7, .ofNat 7)], [10], (some (0, .ofNat 7, .ofNat 7)), 3, false)
theorem c_xu_8_0 (hL : L < 2 ^ 31) : ci L xs 121 k_xu_8_0 :=
  mi_ok (fc := 9000) (f := 9000) (cuts := []) (xk := jx) cl_lok cl_hrf (cl_hro L xs) hL jx_ok (by decide +kernel)
def k_xu_8_1 : ct_C := ([(2, .ofNat 8, .ofNat 8)], [(10, 210, .ofNat 0, .ofNat 29), (32, 1, .ofNat 8, .ofNat 8), (32, 2, .ofNat 8, .ofNat 40), (33, 28, .ofNat 5, .ofNat 5), (33, 29, .ofNat 0, .ofNat 29), (33, 30, .negSucc 0, .ofNat 143)], [(10, 210, .ofNat 0, .ofNat 29), (32, 1, .ofNat 7, .ofNat 7)], [10], (some (0, .ofNat 7, .ofNat 7)), 3, false)
theorem c_xu_8_1 (hL : L < 2 ^ 31) : ci L xs 121 k_xu_8_1 :=
  mi_ok (fc := 9000) (f := 9000) (cuts := []) (xk := jx) cl_lok cl_hrf (cl_hro L xs) hL jx_ok (by decide +kernel)
def k_xu_8_2 : ct_C := ([(2, .ofNat 8, .ofNat 8)], [(10, 210, .ofNat 0, .ofNat 29), (32, 1, .ofNat 8, .ofNat 8), (32, 2, .ofNat 8, .ofNat 40), (33, 28, .ofNat 6, .ofNat 6), (33, 29, .ofNat 0, .ofNat 11), (33, 30, .negSucc 0, .ofNat 143)], [(10, 210, .ofNat 0, .ofNat 29), (32, 1, .ofNat 7, .ofNat 7)], [10], (some (0, .ofNat 7, .ofNat 7)), 3, false)
theorem c_xu_8_2 (hL : L < 2 ^ 31) : ci L xs 121 k_xu_8_2 :=
  mi_ok (fc := 9000) (f := 9000) (cuts := []) (xk := jx) cl_lok cl_hrf (cl_hro L xs) hL jx_ok (by decide +kernel)
def k_xu_8_3 : ct_C := ([(2, .ofNat 8, .ofNat 8)], [(10, 210, .ofNat 0, .ofNat 29), (32, 1, .ofNat 8, .ofNat 8), (32, 2, .ofNat 8, .ofNat 40), (33, 28, .ofNat 7, .ofNat 7), (33, 29, .ofNat 0, .ofNat 0), (33, 30, .ofNat 0, .ofNat 29)], [(10, 210, .ofNat 0, .ofNat 29), (32, 1, .ofNat 7, .ofNat 7)], [10], (some (0, .ofNat 7, .ofNat 7)), 3, false)
theorem c_xu_8_3 (hL : L < 2 ^ 31) : ci L xs 121 k_xu_8_3 :=
  mi_ok (fc := 9000) (f := 9000) (cuts := []) (xk := jx) cl_lok cl_hrf (cl_hro L xs) hL jx_ok (by decide +kernel)
def k_xu_8 : ct_C := ([(2, .ofNat 8, .ofNat 8)], [(10, 210, .ofNat 0, .ofNat 29), (32, 1, .ofNat 8, .ofNat 8)], [(10, 210, .ofNat 0, .ofNat 29), (32, 1, .ofNat 0, .ofNat 40)], [10], (some (0, .ofNat 7, .ofNat 7)), 3, false)
theorem s_xu_8 (M : Nat → Nat → Int) (hm : sx_mok cl_ly M) (hJ : JJ M) (hg : ct_g k_xu_8.2.1 M) : ∃ m ∈ [k_xu_8_0, k_xu_8_1, k_xu_8_2, k_xu_8_3], ct_g m.2.1 M := by
  have hv : M 32 1 = 8 := by
    have h := hg (32, 1, .ofNat 8, .ofNat 8) (List.mem_cons_of_mem _ List.mem_cons_self)
    exact Int.le_antisymm h.2 h.1
  have hk := jr_kn hm
  have hu := jr_un hm
  have hd := hJ.2.2.1
  have he := hJ.2.2.2
  have h8 : jp (M 33 28) (M 33 29) (M 33 30) (M 33 31) := hJ.1 7 (by decide)
  obtain ⟨⟨b1, b2, b3, b4⟩, h8⟩ := h8
  rcases h8 with h8 | h8 | h8 | h8
  · exact ⟨k_xu_8_0, List.mem_cons_self, (jh (hg (10, 210, .ofNat 0, .ofNat 29) List.mem_cons_self) (jc (by show (8 : Int) ≤ M 32 1; omega) (by show M 32 1 ≤ (8 : Int); omega) (jc (by show (8 : Int) ≤ M 32 2; omega) (by show M 32 2 ≤ (40 : Int); omega) (jc (by show (0 : Int) ≤ M 33 28; omega) (by show M 33 28 ≤ (4 : Int); omega) (jc (by show (0 : Int) ≤ M 33 29; omega) (by show M 33 29 ≤ (5 : Int); omega) (jc (by show (-1 : Int) ≤ M 33 30; omega) (by show M 33 30 ≤ (143 : Int); omega) jn))))))⟩
  · exact ⟨k_xu_8_1, (List.mem_cons_of_mem _ List.mem_cons_self), (jh (hg (10, 210, .ofNat 0, .ofNat 29) List.mem_cons_self) (jc (by show (8 : Int) ≤ M 32 1; omega) (by show M 32 1 ≤ (8 : Int); omega) (jc (by show (8 : Int) ≤ M 32 2; omega) (by show M 32 2 ≤ (40 : Int); omega) (jc (by show (5 : Int) ≤ M 33 28; omega) (by show M 33 28 ≤ (5 : Int); omega) (jc (by show (0 : Int) ≤ M 33 29; omega) (by show M 33 29 ≤ (29 : Int); omega) (jc (by show (-1 : Int) ≤ M 33 30; omega) (by show M 33 30 ≤ (143 : Int); omega) jn))))))⟩
  · exact ⟨k_xu_8_2, (List.mem_cons_of_mem _ (List.mem_cons_of_mem _ List.mem_cons_self)), (jh (hg (10, 210, .ofNat 0, .ofNat 29) List.mem_cons_self) (jc (by show (8 : Int) ≤ M 32 1; omega) (by show M 32 1 ≤ (8 : Int); omega) (jc (by show (8 : Int) ≤ M 32 2; omega) (by show M 32 2 ≤ (40 : Int); omega) (jc (by show (6 : Int) ≤ M 33 28; omega) (by show M 33 28 ≤ (6 : Int); omega) (jc (by show (0 : Int) ≤ M 33 29; omega) (by show M 33 29 ≤ (11 : Int); omega) (jc (by show (-1 : Int) ≤ M 33 30; omega) (by show M 33 30 ≤ (143 : Int); omega) jn))))))⟩
  · exact ⟨k_xu_8_3, (List.mem_cons_of_mem _ (List.mem_cons_of_mem _ (List.mem_cons_of_mem _ List.mem_cons_self))), (jh (hg (10, 210, .ofNat 0, .ofNat 29) List.mem_cons_self) (jc (by show (8 : Int) ≤ M 32 1; omega) (by show M 32 1 ≤ (8 : Int); omega) (jc (by show (8 : Int) ≤ M 32 2; omega) (by show M 32 2 ≤ (40 : Int); omega) (jc (by show (7 : Int) ≤ M 33 28; omega) (by show M 33 28 ≤ (7 : Int); omega) (jc (by show (0 : Int) ≤ M 33 29; omega) (by show M 33 29 ≤ (0 : Int); omega) (jc (by show (0 : Int) ≤ M 33 30; omega) (by show M 33 30 ≤ (29 : Int); omega) jn))))))⟩
theorem c_xu_8 (hL : L < 2 ^ 31) : ci L xs 121 k_xu_8 :=
  ci_j_ok (ms := [k_xu_8_0, k_xu_8_1, k_xu_8_2, k_xu_8_3]) (jl_cons (c_xu_8_0 hL) (jl_cons (c_xu_8_1 hL) (jl_cons (c_xu_8_2 hL) (jl_cons (c_xu_8_3 hL) jl_nil)))) s_xu_8 (by decide +kernel)
def k_xu_9_0 : ct_C := ([(2, .ofNat 8, .ofNat 8)], [(10, 210, .ofNat 0, .ofNat 29), (32, 1, .ofNat 9, .ofNat 9), (32, 2, .ofNat 9, .ofNat 40), (33, 32, .ofNat 0, .ofNat 4), (33, 33, .ofNat 0, .ofNat 5), (33, 34, .negSucc 0, .ofNat 143)], [(10, 210, .ofNat 0, .ofNat 29), (32, 1, .ofNat 8, .ofNat 8)], [10], (some (0, .ofNat 8, .ofNat 8)), 3, false)
theorem c_xu_9_0 (hL : L < 2 ^ 31) : ci L xs 121 k_xu_9_0 :=
  mi_ok (fc := 9000) (f := 9000) (cuts := []) (xk := jx) cl_lok cl_hrf (cl_hro L xs) hL jx_ok (by decide +kernel)
def k_xu_9_1 : ct_C := ([(2, .ofNat 8, .ofNat 8)], [(10, 210, .ofNat 0, .ofNat 29), (32, 1, .ofNat 9, .ofNat 9), (32, 2, .ofNat 9, .ofNat 40), (33, 32, .ofNat 5, .ofNat 5), (33, 33, .ofNat 0, .ofNat 29), (33, 34, .negSucc 0, .ofNat 143)], [(10, 210, .ofNat 0, .ofNat 29), (32, 1, .ofNat 8, .ofNat 8)], [10], (some (0, .ofNat 8, .ofNat 8)), 3, false)
theorem c_xu_9_1 (hL : L < 2 ^ 31) : ci L xs 121 k_xu_9_1 :=
  mi_ok (fc := 9000) (f := 9000) (cuts := []) (xk := jx) cl_lok cl_hrf (cl_hro L xs) hL jx_ok (by decide +kernel)
def k_xu_9_2 : ct_C := ([(2, .ofNat 8, .ofNat 8)], [(10, 210, .ofNat 0, .ofNat 29), (32, 1, .ofNat 9, .ofNat 9), (32, 2, .ofNat 9, .ofNat 40), (33, 32, .ofNat 6, .ofNat 6), (33, 33, .ofNat 0, .ofNat 11), (33, 34, .negSucc 0, .ofNat 143)], [(10, 210, .ofNat 0, .ofNat 29), (32, 1, .ofNat 8, .ofNat 8)], [10], (some (0, .ofNat 8, .ofNat 8)), 3, false)
theorem c_xu_9_2 (hL : L < 2 ^ 31) : ci L xs 121 k_xu_9_2 :=
  mi_ok (fc := 9000) (f := 9000) (cuts := []) (xk := jx) cl_lok cl_hrf (cl_hro L xs) hL jx_ok (by decide +kernel)
def k_xu_9_3 : ct_C := ([(2, .ofNat 8, .ofNat 8)], [(10, 210, .ofNat 0, .ofNat 29), (32, 1, .ofNat 9, .ofNat 9), (32, 2, .ofNat 9, .ofNat 40), (33, 32, .ofNat 7, .ofNat 7), (33, 33, .ofNat 0, .ofNat 0), (33, 34, .ofNat 0, .ofNat 29)], [(10, 210, .ofNat 0, .ofNat 29), (32, 1, .ofNat 8, .ofNat 8)], [10], (some (0, .ofNat 8, .ofNat 8)), 3, false)
theorem c_xu_9_3 (hL : L < 2 ^ 31) : ci L xs 121 k_xu_9_3 :=
  mi_ok (fc := 9000) (f := 9000) (cuts := []) (xk := jx) cl_lok cl_hrf (cl_hro L xs) hL jx_ok (by decide +kernel)
def k_xu_9 : ct_C := ([(2, .ofNat 8, .ofNat 8)], [(10, 210, .ofNat 0, .ofNat 29), (32, 1, .ofNat 9, .ofNat 9)], [(10, 210, .ofNat 0, .ofNat 29), (32, 1, .ofNat 0, .ofNat 40)], [10], (some (0, .ofNat 8, .ofNat 8)), 3, false)
theorem s_xu_9 (M : Nat → Nat → Int) (hm : sx_mok cl_ly M) (hJ : JJ M) (hg : ct_g k_xu_9.2.1 M) : ∃ m ∈ [k_xu_9_0, k_xu_9_1, k_xu_9_2, k_xu_9_3], ct_g m.2.1 M := by
  have hv : M 32 1 = 9 := by
    have h := hg (32, 1, .ofNat 9, .ofNat 9) (List.mem_cons_of_mem _ List.mem_cons_self)
    exact Int.le_antisymm h.2 h.1
  have hk := jr_kn hm
  have hu := jr_un hm
  have hd := hJ.2.2.1
  have he := hJ.2.2.2
  have h8 : jp (M 33 32) (M 33 33) (M 33 34) (M 33 35) := hJ.1 8 (by decide)
  obtain ⟨⟨b1, b2, b3, b4⟩, h8⟩ := h8
  rcases h8 with h8 | h8 | h8 | h8
  · exact ⟨k_xu_9_0, List.mem_cons_self, (jh (hg (10, 210, .ofNat 0, .ofNat 29) List.mem_cons_self) (jc (by show (9 : Int) ≤ M 32 1; omega) (by show M 32 1 ≤ (9 : Int); omega) (jc (by show (9 : Int) ≤ M 32 2; omega) (by show M 32 2 ≤ (40 : Int); omega) (jc (by show (0 : Int) ≤ M 33 32; omega) (by show M 33 32 ≤ (4 : Int); omega) (jc (by show (0 : Int) ≤ M 33 33; omega) (by show M 33 33 ≤ (5 : Int); omega) (jc (by show (-1 : Int) ≤ M 33 34; omega) (by show M 33 34 ≤ (143 : Int); omega) jn))))))⟩
  · exact ⟨k_xu_9_1, (List.mem_cons_of_mem _ List.mem_cons_self), (jh (hg (10, 210, .ofNat 0, .ofNat 29) List.mem_cons_self) (jc (by show (9 : Int) ≤ M 32 1; omega) (by show M 32 1 ≤ (9 : Int); omega) (jc (by show (9 : Int) ≤ M 32 2; omega) (by show M 32 2 ≤ (40 : Int); omega) (jc (by show (5 : Int) ≤ M 33 32; omega) (by show M 33 32 ≤ (5 : Int); omega) (jc (by show (0 : Int) ≤ M 33 33; omega) (by show M 33 33 ≤ (29 : Int); omega) (jc (by show (-1 : Int) ≤ M 33 34; omega) (by show M 33 34 ≤ (143 : Int); omega) jn))))))⟩
  · exact ⟨k_xu_9_2, (List.mem_cons_of_mem _ (List.mem_cons_of_mem _ List.mem_cons_self)), (jh (hg (10, 210, .ofNat 0, .ofNat 29) List.mem_cons_self) (jc (by show (9 : Int) ≤ M 32 1; omega) (by show M 32 1 ≤ (9 : Int); omega) (jc (by show (9 : Int) ≤ M 32 2; omega) (by show M 32 2 ≤ (40 : Int); omega) (jc (by show (6 : Int) ≤ M 33 32; omega) (by show M 33 32 ≤ (6 : Int); omega) (jc (by show (0 : Int) ≤ M 33 33; omega) (by show M 33 33 ≤ (11 : Int); omega) (jc (by show (-1 : Int) ≤ M 33 34; omega) (by show M 33 34 ≤ (143 : Int); omega) jn))))))⟩
  · exact ⟨k_xu_9_3, (List.mem_cons_of_mem _ (List.mem_cons_of_mem _ (List.mem_cons_of_mem _ List.mem_cons_self))), (jh (hg (10, 210, .ofNat 0, .ofNat 29) List.mem_cons_self) (jc (by show (9 : Int) ≤ M 32 1; omega) (by show M 32 1 ≤ (9 : Int); omega) (jc (by show (9 : Int) ≤ M 32 2; omega) (by show M 32 2 ≤ (40 : Int); omega) (jc (by show (7 : Int) ≤ M 33 32; omega) (by show M 33 32 ≤ (7 : Int); omega) (jc (by show (0 : Int) ≤ M 33 33; omega) (by show M 33 33 ≤ (0 : Int); omega) (jc (by show (0 : Int) ≤ M 33 34; omega) (by show M 33 34 ≤ (29 : Int); omega) jn))))))⟩
theorem c_xu_9 (hL : L < 2 ^ 31) : ci L xs 121 k_xu_9 :=
  ci_j_ok (ms := [k_xu_9_0, k_xu_9_1, k_xu_9_2, k_xu_9_3]) (jl_cons (c_xu_9_0 hL) (jl_cons (c_xu_9_1 hL) (jl_cons (c_xu_9_2 hL) (jl_cons (c_xu_9_3 hL) jl_nil)))) s_xu_9 (by decide +kernel)
def k_xu_10_0 : ct_C := ([(2, .ofNat 8, .ofNat 8)], [(10, 210, .ofNat 0, .ofNat 29), (32, 1, .ofNat 10, .ofNat 10), (32, 2, .ofNat 10, .ofNat 40), (33, 36, .ofNat 0, .ofNat 4), (33, 37, .ofNat 0, .ofNat 5), (33, 38, .negSucc 0, .ofNat 143)], [(10, 210, .ofNat 0, .ofNat 29), (32, 1, .ofNat 9, .ofNat 9)], [10], (some (0, .ofNat 9, .ofNat 9)), 3, false)
theorem c_xu_10_0 (hL : L < 2 ^ 31) : ci L xs 121 k_xu_10_0 :=
  mi_ok (fc := 9000) (f := 9000) (cuts := []) (xk := jx) cl_lok cl_hrf (cl_hro L xs) hL jx_ok (by decide +kernel)
def k_xu_10_1 : ct_C := ([(2, .ofNat 8, .ofNat 8)], [(10, 210, .ofNat 0, .ofNat 29), (32, 1, .ofNat 10, .ofNat 10), (32, 2, .ofNat 10, .ofNat 40), (33, 36, .ofNat 5, .ofNat 5), (33, 37, .ofNat 0, .ofNat 29), (33, 38, .negSucc 0, .ofNat 143)], [(10, 210, .ofNat 0, .ofNat 29), (32, 1, .ofNat 9, .ofNat 9)], [10], (some (0, .ofNat 9, .ofNat 9)), 3, false)
theorem c_xu_10_1 (hL : L < 2 ^ 31) : ci L xs 121 k_xu_10_1 :=
  mi_ok (fc := 9000) (f := 9000) (cuts := []) (xk := jx) cl_lok cl_hrf (cl_hro L xs) hL jx_ok (by decide +kernel)
def k_xu_10_2 : ct_C := ([(2, .ofNat 8, .ofNat 8)], [(10, 210, .ofNat 0, .ofNat 29), (32, 1, .ofNat 10, .ofNat 10), (32, 2, .ofNat 10, .ofNat 40), (33, 36, .ofNat 6, .ofNat 6), (33, 37, .ofNat 0, .ofNat 11), (33, 38, .negSucc 0, .ofNat 143)], [(10, 210, .ofNat 0, .ofNat 29), (32, 1, .ofNat 9, .ofNat 9)], [10], (some (0, .ofNat 9, .ofNat 9)), 3, false)
theorem c_xu_10_2 (hL : L < 2 ^ 31) : ci L xs 121 k_xu_10_2 :=
  mi_ok (fc := 9000) (f := 9000) (cuts := []) (xk := jx) cl_lok cl_hrf (cl_hro L xs) hL jx_ok (by decide +kernel)
def k_xu_10_3 : ct_C := ([(2, .ofNat 8, .ofNat 8)], [(10, 210, .ofNat 0, .ofNat 29), (32, 1, .ofNat 10, .ofNat 10), (32, 2, .ofNat 10, .ofNat 40), (33, 36, .ofNat 7, .ofNat 7), (33, 37, .ofNat 0, .ofNat 0), (33, 38, .ofNat 0, .ofNat 29)], [(10, 210, .ofNat 0, .ofNat 29), (32, 1, .ofNat 9, .ofNat 9)], [10], (some (0, .ofNat 9, .ofNat 9)), 3, false)
theorem c_xu_10_3 (hL : L < 2 ^ 31) : ci L xs 121 k_xu_10_3 :=
  mi_ok (fc := 9000) (f := 9000) (cuts := []) (xk := jx) cl_lok cl_hrf (cl_hro L xs) hL jx_ok (by decide +kernel)
def k_xu_10 : ct_C := ([(2, .ofNat 8, .ofNat 8)], [(10, 210, .ofNat 0, .ofNat 29), (32, 1, .ofNat 10, .ofNat 10)], [(10, 210, .ofNat 0, .ofNat 29), (32, 1, .ofNat 0, .ofNat 40)], [10], (some (0, .ofNat 9, .ofNat 9)), 3, false)
theorem s_xu_10 (M : Nat → Nat → Int) (hm : sx_mok cl_ly M) (hJ : JJ M) (hg : ct_g k_xu_10.2.1 M) : ∃ m ∈ [k_xu_10_0, k_xu_10_1, k_xu_10_2, k_xu_10_3], ct_g m.2.1 M := by
  have hv : M 32 1 = 10 := by
    have h := hg (32, 1, .ofNat 10, .ofNat 10) (List.mem_cons_of_mem _ List.mem_cons_self)
    exact Int.le_antisymm h.2 h.1
  have hk := jr_kn hm
  have hu := jr_un hm
  have hd := hJ.2.2.1
  have he := hJ.2.2.2
  have h8 : jp (M 33 36) (M 33 37) (M 33 38) (M 33 39) := hJ.1 9 (by decide)
  obtain ⟨⟨b1, b2, b3, b4⟩, h8⟩ := h8
  rcases h8 with h8 | h8 | h8 | h8
  · exact ⟨k_xu_10_0, List.mem_cons_self, (jh (hg (10, 210, .ofNat 0, .ofNat 29) List.mem_cons_self) (jc (by show (10 : Int) ≤ M 32 1; omega) (by show M 32 1 ≤ (10 : Int); omega) (jc (by show (10 : Int) ≤ M 32 2; omega) (by show M 32 2 ≤ (40 : Int); omega) (jc (by show (0 : Int) ≤ M 33 36; omega) (by show M 33 36 ≤ (4 : Int); omega) (jc (by show (0 : Int) ≤ M 33 37; omega) (by show M 33 37 ≤ (5 : Int); omega) (jc (by show (-1 : Int) ≤ M 33 38; omega) (by show M 33 38 ≤ (143 : Int); omega) jn))))))⟩
  · exact ⟨k_xu_10_1, (List.mem_cons_of_mem _ List.mem_cons_self), (jh (hg (10, 210, .ofNat 0, .ofNat 29) List.mem_cons_self) (jc (by show (10 : Int) ≤ M 32 1; omega) (by show M 32 1 ≤ (10 : Int); omega) (jc (by show (10 : Int) ≤ M 32 2; omega) (by show M 32 2 ≤ (40 : Int); omega) (jc (by show (5 : Int) ≤ M 33 36; omega) (by show M 33 36 ≤ (5 : Int); omega) (jc (by show (0 : Int) ≤ M 33 37; omega) (by show M 33 37 ≤ (29 : Int); omega) (jc (by show (-1 : Int) ≤ M 33 38; omega) (by show M 33 38 ≤ (143 : Int); omega) jn))))))⟩
  · exact ⟨k_xu_10_2, (List.mem_cons_of_mem _ (List.mem_cons_of_mem _ List.mem_cons_self)), (jh (hg (10, 210, .ofNat 0, .ofNat 29) List.mem_cons_self) (jc (by show (10 : Int) ≤ M 32 1; omega) (by show M 32 1 ≤ (10 : Int); omega) (jc (by show (10 : Int) ≤ M 32 2; omega) (by show M 32 2 ≤ (40 : Int); omega) (jc (by show (6 : Int) ≤ M 33 36; omega) (by show M 33 36 ≤ (6 : Int); omega) (jc (by show (0 : Int) ≤ M 33 37; omega) (by show M 33 37 ≤ (11 : Int); omega) (jc (by show (-1 : Int) ≤ M 33 38; omega) (by show M 33 38 ≤ (143 : Int); omega) jn))))))⟩
  · exact ⟨k_xu_10_3, (List.mem_cons_of_mem _ (List.mem_cons_of_mem _ (List.mem_cons_of_mem _ List.mem_cons_self))), (jh (hg (10, 210, .ofNat 0, .ofNat 29) List.mem_cons_self) (jc (by show (10 : Int) ≤ M 32 1; omega) (by show M 32 1 ≤ (10 : Int); omega) (jc (by show (10 : Int) ≤ M 32 2; omega) (by show M 32 2 ≤ (40 : Int); omega) (jc (by show (7 : Int) ≤ M 33 36; omega) (by show M 33 36 ≤ (7 : Int); omega) (jc (by show (0 : Int) ≤ M 33 37; omega) (by show M 33 37 ≤ (0 : Int); omega) (jc (by show (0 : Int) ≤ M 33 38; omega) (by show M 33 38 ≤ (29 : Int); omega) jn))))))⟩
theorem c_xu_10 (hL : L < 2 ^ 31) : ci L xs 121 k_xu_10 :=
  ci_j_ok (ms := [k_xu_10_0, k_xu_10_1, k_xu_10_2, k_xu_10_3]) (jl_cons (c_xu_10_0 hL) (jl_cons (c_xu_10_1 hL) (jl_cons (c_xu_10_2 hL) (jl_cons (c_xu_10_3 hL) jl_nil)))) s_xu_10 (by decide +kernel)
def k_xu_11_0 : ct_C := ([(2, .ofNat 8, .ofNat 8)], [(10, 210, .ofNat 0, .ofNat 29), (32, 1, .ofNat 11, .ofNat 11), (32, 2, .ofNat 11, .ofNat 40), (33, 40, .ofNat 0, .ofNat 4), (33, 41, .ofNat 0, .ofNat 5), (33, 42, .negSucc 0, .ofNat 143)], [(10, 210, .ofNat 0, .ofNat 29), (32, 1, .ofNat 10, .ofNat 10)], [10], (some (0, .ofNat 10, .ofNat 10)), 3, false)
theorem c_xu_11_0 (hL : L < 2 ^ 31) : ci L xs 121 k_xu_11_0 :=
  mi_ok (fc := 9000) (f := 9000) (cuts := []) (xk := jx) cl_lok cl_hrf (cl_hro L xs) hL jx_ok (by decide +kernel)
def k_xu_11_1 : ct_C := ([(2, .ofNat 8, .ofNat 8)], [(10, 210, .ofNat 0, .ofNat 29), (32, 1, .ofNat 11, .ofNat 11), (32, 2, .ofNat 11, .ofNat 40), (33, 40, .ofNat 5, .ofNat 5), (33, 41, .ofNat 0, .ofNat 29), (33, 42, .negSucc 0, .ofNat 143)], [(10, 210, .ofNat 0, .ofNat 29), (32, 1, .ofNat 10, .ofNat 10)], [10], (some (0, .ofNat 10, .ofNat 10)), 3, false)
theorem c_xu_11_1 (hL : L < 2 ^ 31) : ci L xs 121 k_xu_11_1 :=
  mi_ok (fc := 9000) (f := 9000) (cuts := []) (xk := jx) cl_lok cl_hrf (cl_hro L xs) hL jx_ok (by decide +kernel)
def k_xu_11_2 : ct_C := ([(2, .ofNat 8, .ofNat 8)], [(10, 210, .ofNat 0, .ofNat 29), (32, 1, .ofNat 11, .ofNat 11), (32, 2, .ofNat 11, .ofNat 40), (33, 40, .ofNat 6, .ofNat 6), (33, 41, .ofNat 0, .ofNat 11), (33, 42, .negSucc 0, .ofNat 143)], [(10, 210, .ofNat 0, .ofNat 29), (32, 1, .ofNat 10, .ofNat 10)], [10], (some (0, .ofNat 10, .ofNat 10)), 3, false)
theorem c_xu_11_2 (hL : L < 2 ^ 31) : ci L xs 121 k_xu_11_2 :=
  mi_ok (fc := 9000) (f := 9000) (cuts := []) (xk := jx) cl_lok cl_hrf (cl_hro L xs) hL jx_ok (by decide +kernel)
def k_xu_11_3 : ct_C := ([(2, .ofNat 8, .ofNat 8)], [(10, 210, .ofNat 0, .ofNat 29), (32, 1, .ofNat 11, .ofNat 11), (32, 2, .ofNat 11, .ofNat 40), (33, 40, .ofNat 7, .ofNat 7), (33, 41, .ofNat 0, .ofNat 0), (33, 42, .ofNat 0, .ofNat 29)], [(10, 210, .ofNat 0, .ofNat 29), (32, 1, .ofNat 10, .ofNat 10)], [10], (some (0, .ofNat 10, .ofNat 10)), 3, false)
theorem c_xu_11_3 (hL : L < 2 ^ 31) : ci L xs 121 k_xu_11_3 :=
  mi_ok (fc := 9000) (f := 9000) (cuts := []) (xk := jx) cl_lok cl_hrf (cl_hro L xs) hL jx_ok (by decide +kernel)
def k_xu_11 : ct_C := ([(2, .ofNat 8, .ofNat 8)], [(10, 210, .ofNat 0, .ofNat 29), (32, 1, .ofNat 11, .ofNat 11)], [(10, 210, .ofNat 0, .ofNat 29), (32, 1, .ofNat 0, .ofNat 40)], [10], (some (0, .ofNat 10, .ofNat 10)), 3, false)
theorem s_xu_11 (M : Nat → Nat → Int) (hm : sx_mok cl_ly M) (hJ : JJ M) (hg : ct_g k_xu_11.2.1 M) : ∃ m ∈ [k_xu_11_0, k_xu_11_1, k_xu_11_2, k_xu_11_3], ct_g m.2.1 M := by
  have hv : M 32 1 = 11 := by
    have h := hg (32, 1, .ofNat 11, .ofNat 11) (List.mem_cons_of_mem _ List.mem_cons_self)
    exact Int.le_antisymm h.2 h.1
  have hk := jr_kn hm
  have hu := jr_un hm
  have hd := hJ.2.2.1
  have he := hJ.2.2.2
  have h8 : jp (M 33 40) (M 33 41) (M 33 42) (M 33 43) := hJ.1 10 (by decide)
  obtain ⟨⟨b1, b2, b3, b4⟩, h8⟩ := h8
  rcases h8 with h8 | h8 | h8 | h8
  · exact ⟨k_xu_11_0, List.mem_cons_self, (jh (hg (10, 210, .ofNat 0, .ofNat 29) List.mem_cons_self) (jc (by show (11 : Int) ≤ M 32 1; omega) (by show M 32 1 ≤ (11 : Int); omega) (jc (by show (11 : Int) ≤ M 32 2; omega) (by show M 32 2 ≤ (40 : Int); omega) (jc (by show (0 : Int) ≤ M 33 40; omega) (by show M 33 40 ≤ (4 : Int); omega) (jc (by show (0 : Int) ≤ M 33 41; omega) (by show M 33 41 ≤ (5 : Int); omega) (jc (by show (-1 : Int) ≤ M 33 42; omega) (by show M 33 42 ≤ (143 : Int); omega) jn))))))⟩
  · exact ⟨k_xu_11_1, (List.mem_cons_of_mem _ List.mem_cons_self), (jh (hg (10, 210, .ofNat 0, .ofNat 29) List.mem_cons_self) (jc (by show (11 : Int) ≤ M 32 1; omega) (by show M 32 1 ≤ (11 : Int); omega) (jc (by show (11 : Int) ≤ M 32 2; omega) (by show M 32 2 ≤ (40 : Int); omega) (jc (by show (5 : Int) ≤ M 33 40; omega) (by show M 33 40 ≤ (5 : Int); omega) (jc (by show (0 : Int) ≤ M 33 41; omega) (by show M 33 41 ≤ (29 : Int); omega) (jc (by show (-1 : Int) ≤ M 33 42; omega) (by show M 33 42 ≤ (143 : Int); omega) jn))))))⟩
  · exact ⟨k_xu_11_2, (List.mem_cons_of_mem _ (List.mem_cons_of_mem _ List.mem_cons_self)), (jh (hg (10, 210, .ofNat 0, .ofNat 29) List.mem_cons_self) (jc (by show (11 : Int) ≤ M 32 1; omega) (by show M 32 1 ≤ (11 : Int); omega) (jc (by show (11 : Int) ≤ M 32 2; omega) (by show M 32 2 ≤ (40 : Int); omega) (jc (by show (6 : Int) ≤ M 33 40; omega) (by show M 33 40 ≤ (6 : Int); omega) (jc (by show (0 : Int) ≤ M 33 41; omega) (by show M 33 41 ≤ (11 : Int); omega) (jc (by show (-1 : Int) ≤ M 33 42; omega) (by show M 33 42 ≤ (143 : Int); omega) jn))))))⟩
  · exact ⟨k_xu_11_3, (List.mem_cons_of_mem _ (List.mem_cons_of_mem _ (List.mem_cons_of_mem _ List.mem_cons_self))), (jh (hg (10, 210, .ofNat 0, .ofNat 29) List.mem_cons_self) (jc (by show (11 : Int) ≤ M 32 1; omega) (by show M 32 1 ≤ (11 : Int); omega) (jc (by show (11 : Int) ≤ M 32 2; omega) (by show M 32 2 ≤ (40 : Int); omega) (jc (by show (7 : Int) ≤ M 33 40; omega) (by show M 33 40 ≤ (7 : Int); omega) (jc (by show (0 : Int) ≤ M 33 41; omega) (by show M 33 41 ≤ (0 : Int); omega) (jc (by show (0 : Int) ≤ M 33 42; omega) (by show M 33 42 ≤ (29 : Int); omega) jn))))))⟩
theorem c_xu_11 (hL : L < 2 ^ 31) : ci L xs 121 k_xu_11 :=
  ci_j_ok (ms := [k_xu_11_0, k_xu_11_1, k_xu_11_2, k_xu_11_3]) (jl_cons (c_xu_11_0 hL) (jl_cons (c_xu_11_1 hL) (jl_cons (c_xu_11_2 hL) (jl_cons (c_xu_11_3 hL) jl_nil)))) s_xu_11 (by decide +kernel)
def k_xu_12_0 : ct_C := ([(2, .ofNat 8, .ofNat 8)], [(10, 210, .ofNat 0, .ofNat 29), (32, 1, .ofNat 12, .ofNat 12), (32, 2, .ofNat 12, .ofNat 40), (33, 44, .ofNat 0, .ofNat 4), (33, 45, .ofNat 0, .ofNat 5), (33, 46, .negSucc 0, .ofNat 143)], [(10, 210, .ofNat 0, .ofNat 29), (32, 1, .ofNat 11, .ofNat 11)], [10], (some (0, .ofNat 11, .ofNat 11)), 3, false)
theorem c_xu_12_0 (hL : L < 2 ^ 31) : ci L xs 121 k_xu_12_0 :=
  mi_ok (fc := 9000) (f := 9000) (cuts := []) (xk := jx) cl_lok cl_hrf (cl_hro L xs) hL jx_ok (by decide +kernel)
def k_xu_12_1 : ct_C := ([(2, .ofNat 8, .ofNat 8)], [(10, 210, .ofNat 0, .ofNat 29), (32, 1, .ofNat 12, .ofNat 12), (32, 2, .ofNat 12, .ofNat 40), (33, 44, .ofNat 5, .ofNat 5), (33, 45, .ofNat 0, .ofNat 29), (33, 46, .negSucc 0, .ofNat 143)], [(10, 210, .ofNat 0, .ofNat 29), (32, 1, .ofNat 11, .ofNat 11)], [10], (some (0, .ofNat 11, .ofNat 11)), 3, false)
theorem c_xu_12_1 (hL : L < 2 ^ 31) : ci L xs 121 k_xu_12_1 :=
  mi_ok (fc := 9000) (f := 9000) (cuts := []) (xk := jx) cl_lok cl_hrf (cl_hro L xs) hL jx_ok (by decide +kernel)
def k_xu_12_2 : ct_C := ([(2, .ofNat 8, .ofNat 8)], [(10, 210, .ofNat 0, .ofNat 29), (32, 1, .ofNat 12, .ofNat 12), (32, 2, .ofNat 12, .ofNat 40), (33, 44, .ofNat 6, .ofNat 6), (33, 45, .ofNat 0, .ofNat 11), (33, 46, .negSucc 0, .ofNat 143)], [(10, 210, .ofNat 0, .ofNat 29), (32, 1, .ofNat 11, .ofNat 11)], [10], (some (0, .ofNat 11, .ofNat 11)), 3, false)
theorem c_xu_12_2 (hL : L < 2 ^ 31) : ci L xs 121 k_xu_12_2 :=
  mi_ok (fc := 9000) (f := 9000) (cuts := []) (xk := jx) cl_lok cl_hrf (cl_hro L xs) hL jx_ok (by decide +kernel)
def k_xu_12_3 : ct_C := ([(2, .ofNat 8, .ofNat 8)], [(10, 210, .ofNat 0, .ofNat 29), (32, 1, .ofNat 12, .ofNat 12), (32, 2, .ofNat 12, .ofNat 40), (33, 44, .ofNat 7, .ofNat 7), (33, 45, .ofNat 0, .ofNat 0), (33, 46, .ofNat 0, .ofNat 29)], [(10, 210, .ofNat 0, .ofNat 29), (32, 1, .ofNat 11, .ofNat 11)], [10], (some (0, .ofNat 11, .ofNat 11)), 3, false)
theorem c_xu_12_3 (hL : L < 2 ^ 31) : ci L xs 121 k_xu_12_3 :=
  mi_ok (fc := 9000) (f := 9000) (cuts := []) (xk := jx) cl_lok cl_hrf (cl_hro L xs) hL jx_ok (by decide +kernel)
end
