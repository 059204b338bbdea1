/-! mend, undo, redo, 1. -/
section
variable {L : Nat} {xs : Nat → Int32}
def k_xu_12 : ct_C := ([(2, .ofNat 8, .ofNat 8)], [(10, 210, .ofNat 0, .ofNat 29), (32, 1, .ofNat 12, .ofNat 12)], [(10, 210, .ofNat 0, .ofNat 29), (32, 1, .ofNat 0, .ofNat 40)], [10], (some (0, .ofNat 11, .ofNat 11)), 3, false)
theorem s_xu_12 (M : Nat → Nat → Int) (hm : sx_mok cl_ly M) (hJ : JJ M) (hg : ct_g k_xu_12.2.1 M) : ∃ m ∈ [k_xu_12_0, k_xu_12_1, k_xu_12_2, k_xu_12_3], ct_g m.2.1 M := by
  have hv : M 32 1 = 12 := by
    have h := hg (32, 1, .ofNat 12, .ofNat 12) (List.mem_cons_of_mem _ List.mem_cons_self)
    exact Int.le_antisymm h.2 h.1
  have hk := jr_kn hm
  have hu := jr_un hm
  have hd := hJ.2.2.1
  have he := hJ.2.2.2
  have h8 : jp (M 33 44) (M 33 45) (M 33 46) (M 33 47) := hJ.1 11 (by decide)
  obtain ⟨⟨b1, b2, b3, b4⟩, h8⟩ := h8
  rcases h8 with h8 | h8 | h8 | h8
  · exact ⟨k_xu_12_0, List.mem_cons_self, (jh (hg (10, 210, .ofNat 0, .ofNat 29) List.mem_cons_self) (jc (by show (12 : Int) ≤ M 32 1; omega) (by show M 32 1 ≤ (12 : Int); omega) (jc (by show (12 : Int) ≤ M 32 2; omega) (by show M 32 2 ≤ (40 : Int); omega) (jc (by show (0 : Int) ≤ M 33 44; omega) (by show M 33 44 ≤ (4 : Int); omega) (jc (by show (0 : Int) ≤ M 33 45; omega) (by show M 33 45 ≤ (5 : Int); omega) (jc (by show (-1 : Int) ≤ M 33 46; omega) (by show M 33 46 ≤ (143 : Int); omega) jn))))))⟩
  · exact ⟨k_xu_12_1, (List.mem_cons_of_mem _ List.mem_cons_self), (jh (hg (10, 210, .ofNat 0, .ofNat 29) List.mem_cons_self) (jc (by show (12 : Int) ≤ M 32 1; omega) (by show M 32 1 ≤ (12 : Int); omega) (jc (by show (12 : Int) ≤ M 32 2; omega) (by show M 32 2 ≤ (40 : Int); omega) (jc (by show (5 : Int) ≤ M 33 44; omega) (by show M 33 44 ≤ (5 : Int); omega) (jc (by show (0 : Int) ≤ M 33 45; omega) (by show M 33 45 ≤ (29 : Int); omega) (jc (by show (-1 : Int) ≤ M 33 46; omega) (by show M 33 46 ≤ (143 : Int); omega) jn))))))⟩
  · exact ⟨k_xu_12_2, (List.mem_cons_of_mem _ (List.mem_cons_of_mem _ List.mem_cons_self)), (jh (hg (10, 210, .ofNat 0, .ofNat 29) List.mem_cons_self) (jc (by show (12 : Int) ≤ M 32 1; omega) (by show M 32 1 ≤ (12 : Int); omega) (jc (by show (12 : Int) ≤ M 32 2; omega) (by show M 32 2 ≤ (40 : Int); omega) (jc (by show (6 : Int) ≤ M 33 44; omega) (by show M 33 44 ≤ (6 : Int); omega) (jc (by show (0 : Int) ≤ M 33 45; omega) (by show M 33 45 ≤ (11 : Int); omega) (jc (by show (-1 : Int) ≤ M 33 46; omega) (by show M 33 46 ≤ (143 : Int); omega) jn))))))⟩
  · exact ⟨k_xu_12_3, (List.mem_cons_of_mem _ (List.mem_cons_of_mem _ (List.mem_cons_of_mem _ List.mem_cons_self))), (jh (hg (10, 210, .ofNat 0, .ofNat 29) List.mem_cons_self) (jc (by show (12 : Int) ≤ M 32 1; omega) (by show M 32 1 ≤ (12 : Int); omega) (jc (by show (12 : Int) ≤ M 32 2; omega) (by show M 32 2 ≤ (40 : Int); omega) (jc (by show (7 : Int) ≤ M 33 44; omega) (by show M 33 44 ≤ (7 : Int); omega) (jc (by show (0 : Int) ≤ M 33 45; omega) (by show M 33 45 ≤ (0 : Int); omega) (jc (by show (0 : Int) ≤ M 33 46; omega) (by show M 33 46 ≤ (29 : Int); omega) jn))))))⟩
theorem c_xu_12 (hL : L < 2 ^ 31) : ci L xs 121 k_xu_12 :=
  ci_j_ok (ms := [k_xu_12_0, k_xu_12_1, k_xu_12_2, k_xu_12_3]) (jl_cons (c_xu_12_0 hL) (jl_cons (c_xu_12_1 hL) (jl_cons (c_xu_12_2 hL) (jl_cons (c_xu_12_3 hL) jl_nil)))) s_xu_12 (by decide +kernel)
def k_xu_13_0 : ct_C := ([(2, .ofNat 8, .ofNat 8)], [(10, 210, .ofNat 0, .ofNat 29), (32, 1, .ofNat 13, .ofNat 13), (32, 2, .ofNat 13, .ofNat 40), (33, 48, .ofNat 0, .ofNat 4), (33, 49, .ofNat 0, .ofNat 5), (33, 50, .negSucc 0, .ofNat 143)], [(10, 210, .ofNat 0, .ofNat 29), (32, 1, .ofNat 12, .ofNat 12)], [10], (some (0, .ofNat 12, .ofNat 12)), 3, false)
theorem c_xu_13_0 (hL : L < 2 ^ 31) : ci L xs 121 k_xu_13_0 :=
  mi_ok (fc := 9000) (f := 9000) (cuts := []) (xk := jx) cl_lok cl_hrf (cl_hro L xs) hL jx_ok (by decide +kernel)
def k_xu_13_1 : ct_C := ([(2, .ofNat 8, .ofNat 8)], [(10, 210, .ofNat 0, .ofNat 29), (32, 1, .ofNat 13, .ofNat 13), (32, 2, .ofNat 13, .ofNat 40), (33, 48, .ofNat 5, .ofNat 5), (33, 49, .ofNat 0, .ofNat 29), (33, 50, .negSucc 0, .ofNat 143)], [(10, 210, .ofNat 0, .ofNat 29), (32, 1, .ofNat 12, .ofNat 12)], [10], (some (0, .ofNat 12, .ofNat 12)), 3, false)
theorem c_xu_13_1 (hL : L < 2 ^ 31) : ci L xs 121 k_xu_13_1 :=
  mi_ok (fc := 9000) (f := 9000) (cuts := []) (xk := jx) cl_lok cl_hrf (cl_hro L xs) hL jx_ok (by decide +kernel)
def k_xu_13_2 : ct_C := ([(2, .ofNat 8, .ofNat 8)], [(10, 210, .ofNat 0, .ofNat 29), (32, 1, .ofNat 13, .ofNat 13), (32, 2, .ofNat 13, .ofNat 40), (33, 48, .ofNat 6, .ofNat 6), (33, 49, .ofNat 0, .ofNat 11), (33, 50, .negSucc 0, .ofNat 143)], [(10, 210, .ofNat 0, .ofNat 29), (32, 1, .ofNat 12, .ofNat 12)], [10], (some (0, .ofNat 12, .ofNat 12)), 3, false)
theorem c_xu_13_2 (hL : L < 2 ^ 31) : ci L xs 121 k_xu_13_2 :=
  mi_ok (fc := 9000) (f := 9000) (cuts := []) (xk := jx) cl_lok cl_hrf (cl_hro L xs) hL jx_ok (by decide +kernel)
def k_xu_13_3 : ct_C := ([(2, .ofNat 8, .ofNat 8)], [(10, 210, .ofNat 0, .ofNat 29), (32, 1, .ofNat 13, .ofNat 13), (32, 2, .ofNat 13, .ofNat 40), (33, 48, .ofNat 7, .ofNat 7), (33, 49, .ofNat 0, .ofNat 0), (33, 50, .ofNat 0, .ofNat 29)], [(10, 210, .ofNat 0, .ofNat 29), (32, 1, .ofNat 12, .ofNat 12)], [10], (some (0, .ofNat 12, .ofNat 12)), 3, false)
theorem c_xu_13_3 (hL : L < 2 ^ 31) : ci L xs 121 k_xu_13_3 :=
  mi_ok (fc := 9000) (f := 9000) (cuts := []) (xk := jx) cl_lok cl_hrf (cl_hro L xs) hL jx_ok (by decide +kernel)
def k_xu_13 : ct_C := ([(2, .ofNat 8, .ofNat 8)], [(10, 210, .ofNat 0, .ofNat 29), (32, 1, .ofNat 13, .ofNat 13)], [(10, 210, .ofNat 0, .ofNat 29), (32, 1, .ofNat 0, .ofNat 40)], [10], (some (0, .ofNat 12, .ofNat 12)), 3, false)
theorem s_xu_13 (M : Nat → Nat → Int) (hm : sx_mok cl_ly M) (hJ : JJ M) (hg : ct_g k_xu_13.2.1 M) : ∃ m ∈ [k_xu_13_0, k_xu_13_1, k_xu_13_2, k_xu_13_3], ct_g m.2.1 M := by
  have hv : M 32 1 = 13 := by
    have h := hg (32, 1, .ofNat 13, .ofNat 13) (List.mem_cons_of_mem _ List.mem_cons_self)
    exact Int.le_antisymm h.2 h.1
  have hk := jr_kn hm
  have hu := jr_un hm
  have hd := hJ.2.2.1
  have he := hJ.2.2.2
  have h8 : jp (M 33 48) (M 33 49) (M 33 50) (M 33 51) := hJ.1 12 (by decide)
  obtain ⟨⟨b1, b2, b3, b4⟩, h8⟩ := h8
  rcases h8 with h8 | h8 | h8 | h8
  · exact ⟨k_xu_13_0, List.mem_cons_self, (jh (hg (10, 210, .ofNat 0, .ofNat 29) List.mem_cons_self) (jc (by show (13 : Int) ≤ M 32 1; omega) (by show M 32 1 ≤ (13 : Int); omega) (jc (by show (13 : Int) ≤ M 32 2; omega) (by show M 32 2 ≤ (40 : Int); omega) (jc (by show (0 : Int) ≤ M 33 48; omega) (by show M 33 48 ≤ (4 : Int); omega) (jc (by show (0 : Int) ≤ M 33 49; omega) (by show M 33 49 ≤ (5 : Int); omega) (jc (by show (-1 : Int) ≤ M 33 50; omega) (by show M 33 50 ≤ (143 : Int); omega) jn))))))⟩
  · exact ⟨k_xu_13_1, (List.mem_cons_of_mem _ List.mem_cons_self), (jh (hg (10, 210, .ofNat 0, .ofNat 29) List.mem_cons_self) (jc (by show (13 : Int) ≤ M 32 1; omega) (by show M 32 1 ≤ (13 : Int); omega) (jc (by show (13 : Int) ≤ M 32 2; omega) (by show M 32 2 ≤ (40 : Int); omega) (jc (by show (5 : Int) ≤ M 33 48; omega) (by show M 33 48 ≤ (5 : Int); omega) (jc (by show (0 : Int) ≤ M 33 49; omega) (by show M 33 49 ≤ (29 : Int); omega) (jc (by show (-1 : Int) ≤ M 33 50; omega) (by show M 33 50 ≤ (143 : Int); omega) jn))))))⟩
  · exact ⟨k_xu_13_2, (List.mem_cons_of_mem _ (List.mem_cons_of_mem _ List.mem_cons_self)), (jh (hg (10, 210, .ofNat 0, .ofNat 29) List.mem_cons_self) (jc (by show (13 : Int) ≤ M 32 1; omega) (by show M 32 1 ≤ (13 : Int); omega) (jc (by show (13 : Int) ≤ M 32 2; omega) (by show M 32 2 ≤ (40 : Int); omega) (jc (by show (6 : Int) ≤ M 33 48; omega) (by show M 33 48 ≤ (6 : Int); omega) (jc (by show (0 : Int) ≤ M 33 49; omega) (by show M 33 49 ≤ (11 : Int); omega) (jc (by show (-1 : Int) ≤ M 33 50; omega) (by show M 33 50 ≤ (143 : Int); omega) jn))))))⟩
  · exact ⟨k_xu_13_3, (List.mem_cons_of_mem _ (List.mem_cons_of_mem _ (List.mem_cons_of_mem _ List.mem_cons_self))), (jh (hg (10, 210, .ofNat 0, .ofNat 29) List.mem_cons_self) (jc (by show (13 : Int) ≤ M 32 1; omega) (by show M 32 1 ≤ (13 : Int); omega) (jc (by show (13 : Int) ≤ M 32 2; omega) (by show M 32 2 ≤ (40 : Int); omega) (jc (by show (7 : Int) ≤ M 33 48; omega) (by show M 33 48 ≤ (7 : Int); omega) (jc (by show (0 : Int) ≤ M 33 49; omega) (by show M 33 49 ≤ (0 : Int); omega) (jc (by show (0 : Int) ≤ M 33 50; omega) (by show M 33 50 ≤ (29 : Int); omega) jn))))))⟩
theorem c_xu_13 (hL : L < 2 ^ 31) : ci L xs 121 k_xu_13 :=
  ci_j_ok (ms := [k_xu_13_0, k_xu_13_1, k_xu_13_2, k_xu_13_3]) (jl_cons (c_xu_13_0 hL) (jl_cons (c_xu_13_1 hL) (jl_cons (c_xu_13_2 hL) (jl_cons (c_xu_13_3 hL) jl_nil)))) s_xu_13 (by decide +kernel)
def k_xu_14_0 : ct_C := ([(2, .ofNat 8, .ofNat 8)], [(10, 210, .ofNat 0, .ofNat 29), (32, 1, .ofNat 14, .ofNat 14), (32, 2, .ofNat 14, .ofNat 40), (33, 52, .ofNat 0, .ofNat 4), (33, 53, .ofNat 0, .ofNat 5), (33, 54, .negSucc 0, .ofNat 143)], [(10, 210, .ofNat 0, .ofNat 29), (32, 1, .ofNat 13, .ofNat 13)], [10], (some (0, .ofNat 13, .ofNat 13)), 3, false)
theorem c_xu_14_0 (hL : L < 2 ^ 31) : ci L xs 121 k_xu_14_0 :=
  mi_ok (fc := 9000) (f := 9000) (cuts := []) (xk := jx) cl_lok cl_hrf (cl_hro L xs) hL jx_ok (by decide +kernel)
def k_xu_14_1 : ct_C := ([(2, .ofNat 8, .ofNat 8)], [(10, 210, .ofNat 0, .ofNat 29), (32, 1, .ofNat 14, .ofNat 14), (32, 2, .ofNat 14, .ofNat 40), (33, 52, .ofNat 5, .ofNat 5), (33, 53, .ofNat 0, .ofNat 29), (33, 54, .negSucc 0, .ofNat 143)], [(10, 210, .ofNat 0, .ofNat 29), (32, 1, .ofNat 13, .ofNat 13)], [10], (some (0, .ofNat 13, .ofNat 13)), 3, false)
theorem c_xu_14_1 (hL : L < 2 ^ 31) : ci L xs 121 k_xu_14_1 :=
  mi_ok (fc := 9000) (f := 9000) (cuts := []) (xk := jx) cl_lok cl_hrf (cl_hro L xs) hL jx_ok (by decide +kernel)
def k_xu_14_2 : ct_C := ([(2, .ofNat 8, .ofNat 8)], [(10, 210, .ofNat 0, .ofNat 29), (32, 1, .ofNat 14, .ofNat 14), (32, 2, .ofNat 14, .ofNat 40), (33, 52, .ofNat 6, .ofNat 6), (33, 53, .ofNat 0, .ofNat 11), (33, 54, .negSucc 0, .ofNat 143)], [(10, 210, .ofNat 0, .ofNat 29), (32, 1, .ofNat 13, .ofNat 13)], [10], (some (0, .ofNat 13, .ofNat 13)), 3, false)
theorem c_xu_14_2 (hL : L < 2 ^ 31) : ci L xs 121 k_xu_14_2 :=
  mi_ok (fc := 9000) (f := 9000) (cuts := []) (xk := jx) cl_lok cl_hrf (cl_hro L xs) hL jx_ok (by decide +kernel)
def k_xu_14_3 : ct_C := ([(2, .ofNat 8, .ofNat 8)], [(10, 210, .ofNat 0, .ofNat 29), (32, 1, .ofNat 14, .ofNat 14), (32, 2, .ofNat 14, .ofNat 40), (33, 52, .ofNat 7, .ofNat 7), (33, 53, .ofNat 0, .ofNat 0), (33, 54, .ofNat 0, .ofNat 29)], [(10, 210, .ofNat 0, .ofNat 29), (32, 1, .ofNat 13, .ofNat 13)], [10], (some (0, .ofNat 13, .ofNat 13)), 3, false)
theorem c_xu_14_3 (hL : L < 2 ^ 31) : ci L xs 121 k_xu_14_3 :=
  mi_ok (fc := 9000) (f := 9000) (cuts := []) (xk := jx) cl_lok cl_hrf (cl_hro L xs) hL jx_ok (by decide +kernel)
def k_xu_14 : ct_C := ([(2, .ofNat 8, .ofNat 8)], [(10, 210, .ofNat 0, .ofNat 29), (32, 1, .ofNat 14, .ofNat 14)], [(10, 210, .ofNat 0, .ofNat 29), (32, 1, .ofNat 0, .ofNat 40)], [10], (some (0, .ofNat 13, .ofNat 13)), 3, false)
theorem s_xu_14 (M : Nat → Nat → Int) (hm : sx_mok cl_ly M) (hJ : JJ M) (hg : ct_g k_xu_14.2.1 M) : ∃ m ∈ [k_xu_14_0, k_xu_14_1, k_xu_14_2, k_xu_14_3], ct_g m.2.1 M := by
  have hv : M 32 1 = 14 := by
    have h := hg (32, 1, .ofNat 14, .ofNat 14) (List.mem_cons_of_mem _ List.mem_cons_self)
    exact Int.le_antisymm h.2 h.1
  have hk := jr_kn hm
  have hu := jr_un hm
  have hd := hJ.2.2.1
  have he := hJ.2.2.2
  have h8 : jp (M 33 52) (M 33 53) (M 33 54) (M 33 55) := hJ.1 13 (by decide)
  obtain ⟨⟨b1, b2, b3, b4⟩, h8⟩ := h8
  rcases h8 with h8 | h8 | h8 | h8
  · exact ⟨k_xu_14_0, List.mem_cons_self, (jh (hg (10, 210, .ofNat 0, .ofNat 29) List.mem_cons_self) (jc (by show (14 : Int) ≤ M 32 1; omega) (by show M 32 1 ≤ (14 : Int); omega) (jc (by show (14 : Int) ≤ M 32 2; omega) (by show M 32 2 ≤ (40 : Int); omega) (jc (by show (0 : Int) ≤ M 33 52; omega) (by show M 33 52 ≤ (4 : Int); omega) (jc (by show (0 : Int) ≤ M 33 53; omega) (by show M 33 53 ≤ (5 : Int); omega) (jc (by show (-1 : Int) ≤ M 33 54; omega) (by show M 33 54 ≤ (143 : Int); omega) jn))))))⟩
  · exact ⟨k_xu_14_1, (List.mem_cons_of_mem _ List.mem_cons_self), (jh (hg (10, 210, .ofNat 0, .ofNat 29) List.mem_cons_self) (jc (by show (14 : Int) ≤ M 32 1; omega) (by show M 32 1 ≤ (14 : Int); omega) (jc (by show (14 : Int) ≤ M 32 2; omega) (by show M 32 2 ≤ (40 : Int); omega) (jc (by show (5 : Int) ≤ M 33 52; omega) (by show M 33 52 ≤ (5 : Int); omega) (jc (by show (0 : Int) ≤ M 33 53; omega) (by show M 33 53 ≤ (29 : Int); omega) (jc (by show (-1 : Int) ≤ M 33 54; omega) (by show M 33 54 ≤ (143 : Int); omega) jn))))))⟩
  · exact ⟨k_xu_14_2, (List.mem_cons_of_mem _ (List.mem_cons_of_mem _ List.mem_cons_self)), (jh (hg (10, 210, .ofNat 0, .ofNat 29) List.mem_cons_self) (jc (by show (14 : Int) ≤ M 32 1; omega) (by show M 32 1 ≤ (14 : Int); omega) (jc (by show (14 : Int) ≤ M 32 2; omega) (by show M 32 2 ≤ (40 : Int); omega) (jc (by show (6 : Int) ≤ M 33 52; omega) (by show M 33 52 ≤ (6 : Int); omega) (jc (by show (0 : Int) ≤ M 33 53; omega) (by show M 33 53 ≤ (11 : Int); omega) (jc (by show (-1 : Int) ≤ M 33 54; omega) (by show M 33 54 ≤ (143 : Int); omega) jn))))))⟩
  · exact ⟨k_xu_14_3, (List.mem_cons_of_mem _ (List.mem_cons_of_mem _ (List.mem_cons_of_mem _ List.mem_cons_self))), (jh (hg (10, 210, .ofNat 0, .ofNat 29) List.mem_cons_self) (jc (by show (14 : Int) ≤ M 32 1; omega) (by show M 32 1 ≤ (14 : Int); omega) (jc (by show (14 : Int) ≤ M 32 2; omega) (by show M 32 2 ≤ (40 : Int); omega) (jc (by show (7 : Int) ≤ M 33 52; omega) (by show M 33 52 ≤ (7 : Int); omega) (jc (by show (0 : Int) ≤ M 33 53; omega) (by show M 33 53 ≤ (0 : Int); omega) (jc (by show (0 : Int) ≤ M 33 54; omega) (by show M 33 54 ≤ (29 : Int); omega) jn))))))⟩
theorem c_xu_14 (hL : L < 2 ^ 31) : ci L xs 121 k_xu_14 :=
  ci_j_ok (ms := [k_xu_14_0, k_xu_14_1, k_xu_14_2, k_xu_14_3]) (jl_cons (c_xu_14_0 hL) (jl_cons (c_xu_14_1 hL) (jl_cons (c_xu_14_2 hL) (jl_cons (c_xu_14_3 hL) jl_nil)))) s_xu_14 (by decide +kernel)
def k_xu_15_0 : ct_C := ([(2, .ofNat 8, .ofNat 8)], [(10, 210, .ofNat 0, .ofNat 29), (32, 1, .ofNat 15, .ofNat 15), (32, 2, .ofNat 15, .ofNat 40), (33, 56, .ofNat 0, .ofNat 4), (33, 57, .ofNat 0, .ofNat 5), (33, 58, .negSucc 0, .ofNat 143)], [(10, 210, .ofNat 0, .ofNat 29), (32, 1, .ofNat 14, .ofNat 14)], [10], (some (0, .ofNat 14, .ofNat 14)), 3, false)
theorem c_xu_15_0 (hL : L < 2 ^ 31) : ci L xs 121 k_xu_15_0 :=
  mi_ok (fc := 9000) (f := 9000) (cuts := []) (xk := jx) cl_lok cl_hrf (cl_hro L xs) hL jx_ok (by decide +kernel)
def k_xu_15_1 : ct_C := ([(2, .ofNat 8, .ofNat 8)], [(10, 210, .ofNat 0, .ofNat 29), (32, 1, .ofNat 15, .ofNat 15), (32, 2, .ofNat 15, .ofNat 40), (33, 56, .ofNat 5, .ofNat 5), (33, 57, .ofNat 0, .ofNat 29), (33, 58, .negSucc 0, .ofNat 143)], [(10, 210, .ofNat 0, .ofNat 29), (32, 1, .ofNat 14, .ofNat 14)], [10], (some (0, .ofNat 14, .ofNat 14)), 3, false)
theorem c_xu_15_1 (hL : L < 2 ^ 31) : ci L xs 121 k_xu_15_1 :=
  mi_ok (fc := 9000) (f := 9000) (cuts := []) (xk := jx) cl_lok cl_hrf (cl_hro L xs) hL jx_ok (by decide +kernel)
def k_xu_15_2 : ct_C := ([(2, .ofNat 8, .ofNat 8)], [(10, 210, .ofNat 0, .ofNat 29), (32, 1, .ofNat 15, .ofNat 15), (32, 2, .ofNat 15, .ofNat 40), (33, 56, .ofNat 6, .ofNat 6), (33, 57, .ofNat 0, .ofNat 11), (33, 58, .negSucc 0, .ofNat 143)], [(10, 210, .ofNat 0, .ofNat 29), (32, 1, .ofNat 14, .ofNat 14)], [10], (some (0, .ofNat 14, .ofNat 14)), 3, false)
theorem c_xu_15_2 (hL : L < 2 ^ 31) : ci L xs 121 k_xu_15_2 :=
  mi_ok (fc := 9000) (f := 9000) (cuts := []) (xk := jx) cl_lok cl_hrf (cl_hro L xs) hL jx_ok (by decide +kernel)
def k_xu_15_3 : ct_C := ([(2, .ofNat 8, .ofNat 8)], [(10, 210, .ofNat 0, .ofNat 29), (32, 1, .ofNat 15, .ofNat 15), (32, 2, .ofNat 15, .ofNat 40), (33, 56, .ofNat 7, .ofNat 7), (33, 57, .ofNat 0, .ofNat 0), (33, 58, .ofNat 0, .ofNat 29)], [(10, 210, .ofNat 0, .ofNat 29), (32, 1, .ofNat 14, .ofNat 14)], [10], (some (0, .ofNat 14, .ofNat 14)), 3, false)
theorem c_xu_15_3 (hL : L < 2 ^ 31) : ci L xs 121 k_xu_15_3 :=
  mi_ok (fc := 9000) (f := 9000) (cuts := []) (xk := jx) cl_lok cl_hrf (cl_hro L xs) hL jx_ok (by decide +kernel)
def k_xu_15 : ct_C := ([(2, .ofNat 8, .ofNat 8)], [(10, 210, .ofNat 0, .ofNat 29), (32, 1, .ofNat 15, .ofNat 15)], [(10, 210, .ofNat 0, .ofNat 29), (32, 1, .ofNat 0, .ofNat 40)], [10], (some (0, .ofNat 14, .ofNat 14)), 3, false)
theorem s_xu_15 (M : Nat → Nat → Int) (hm : sx_mok cl_ly M) (hJ : JJ M) (hg : ct_g k_xu_15.2.1 M) : ∃ m ∈ [k_xu_15_0, k_xu_15_1, k_xu_15_2, k_xu_15_3], ct_g m.2.1 M := by
  have hv : M 32 1 = 15 := by
    have h := hg (32, 1, .ofNat 15, .ofNat 15) (List.mem_cons_of_mem _ List.mem_cons_self)
    exact Int.le_antisymm h.2 h.1
  have hk := jr_kn hm
  have hu := jr_un hm
  have hd := hJ.2.2.1
  have he := hJ.2.2.2
  have h8 : jp (M 33 56) (M 33 57) (M 33 58) (M 33 59) := hJ.1 14 (by decide)
  obtain ⟨⟨b1, b2, b3, b4⟩, h8⟩ := h8
  rcases h8 with h8 | h8 | h8 | h8
  · exact ⟨k_xu_15_0, List.mem_cons_self, (jh (hg (10, 210, .ofNat 0, .ofNat 29) List.mem_cons_self) (jc (by show (15 : Int) ≤ M 32 1; omega) (by show M 32 1 ≤ (15 : Int); omega) (jc (by show (15 : Int) ≤ M 32 2; omega) (by show M 32 2 ≤ (40 : Int); omega) (jc (by show (0 : Int) ≤ M 33 56; omega) (by show M 33 56 ≤ (4 : Int); omega) (jc (by show (0 : Int) ≤ M 33 57; omega) (by show M 33 57 ≤ (5 : Int); omega) (jc (by show (-1 : Int) ≤ M 33 58; omega) (by show M 33 58 ≤ (143 : Int); omega) jn))))))⟩
  · exact ⟨k_xu_15_1, (List.mem_cons_of_mem _ List.mem_cons_self), (jh (hg (10, 210, .ofNat 0, .ofNat 29) List.mem_cons_self) (jc (by show (15 : Int) ≤ M 32 1; omega) (by show M 32 1 ≤ (15 : Int); omega) (jc (by show (15 : Int) ≤ M 32 2; omega) (by show M 32 2 ≤ (40 : Int); omega) (jc (by show (5 : Int) ≤ M 33 56; omega) (by show M 33 56 ≤ (5 : Int); omega) (jc (by show (0 : Int) ≤ M 33 57; omega) (by show M 33 57 ≤ (29 : Int); omega) (jc (by show (-1 : Int) ≤ M 33 58; omega) (by show M 33 58 ≤ (143 : Int); omega) jn))))))⟩
  · exact ⟨k_xu_15_2, (List.mem_cons_of_mem _ (List.mem_cons_of_mem _ List.mem_cons_self)), (jh (hg (10, 210, .ofNat 0, .ofNat 29) List.mem_cons_self) (jc (by show (15 : Int) ≤ M 32 1; omega) (by show M 32 1 ≤ (15 : Int); omega) (jc (by show (15 : Int) ≤ M 32 2; omega) (by show M 32 2 ≤ (40 : Int); omega) (jc (by show (6 : Int) ≤ M 33 56; omega) (by show M 33 56 ≤ (6 : Int); omega) (jc (by show (0 : Int) ≤ M 33 57; omega) (by show M 33 57 ≤ (11 : Int); omega) (jc (by show (-1 : Int) ≤ M 33 58; omega) (by show M 33 58 ≤ (143 : Int); omega) jn))))))⟩
  · exact ⟨k_xu_15_3, (List.mem_cons_of_mem _ (List.mem_cons_of_mem _ (List.mem_cons_of_mem _ List.mem_cons_self))), (jh (hg (10, 210, .ofNat 0, .ofNat 29) List.mem_cons_self) (jc (by show (15 : Int) ≤ M 32 1; omega) (by show M 32 1 ≤ (15 : Int); omega) (jc (by show (15 : Int) ≤ M 32 2; omega) (by show M 32 2 ≤ (40 : Int); omega) (jc (by show (7 : Int) ≤ M 33 56; omega) (by show M 33 56 ≤ (7 : Int); omega) (jc (by show (0 : Int) ≤ M 33 57; omega) (by show M 33 57 ≤ (0 : Int); omega) (jc (by show (0 : Int) ≤ M 33 58; omega) (by show M 33 58 ≤ (29 : Int); omega) jn))))))⟩
theorem c_xu_15 (hL : L < 2 ^ 31) : ci L xs 121 k_xu_15 :=
  ci_j_ok (ms := [k_xu_15_0, k_xu_15_1, k_xu_15_2, k_xu_15_3]) (jl_cons (c_xu_15_0 hL) (jl_cons (c_xu_15_1 hL) (jl_cons (c_xu_15_2 hL) (jl_cons (c_xu_15_3 hL) jl_nil)))) s_xu_15 (by decide +kernel)
def k_xu_16_0 : ct_C := ([(2, .ofNat 8, .ofNat 8)], [(10, 210, .ofNat 0, .ofNat 29), (32, 1, .ofNat 16, .ofNat 16), (32, 2, .ofNat 16, .ofNat 40), (33, 60, .ofNat 0, .ofNat 4), (33, 61, .ofNat 0, .ofNat 5), (33, 62, .negSucc 0, .ofNat 143)], [(10, 210, .ofNat 0, .ofNat 29), (32, 1, .ofNat 15, .ofNat 15)], [10], (some (0, .ofNat 15, .ofNat 15)), 3, false)
theorem c_xu_16_0 (hL : L < 2 ^ 31) : ci L xs 121 k_xu_16_0 :=
  mi_ok (fc := 9000) (f := 9000) (cuts := []) (xk := jx) cl_lok cl_hrf (cl_hro L xs) hL jx_ok (by decide +kernel)
def k_xu_16_1 : ct_C := ([(2, .ofNat 8, .ofNat 8)], [(10, 210, .ofNat 0, .ofNat 29), (32, 1, .ofNat 16, .ofNat 16), (32, 2, .ofNat 16, .ofNat 40), (33, 60, .ofNat 5, .ofNat 5), (33, 61, .ofNat 0, .ofNat 29), (33, 62, .negSucc 0, .ofNat 143)], [(10, 210, .ofNat 0, .ofNat 29), (32, 1, .ofNat 15, .ofNat 15)], [10], (some (0, .ofNat 15, .ofNat 15)), 3, false)
theorem c_xu_16_1 (hL : L < 2 ^ 31) : ci L xs 121 k_xu_16_1 :=
  mi_ok (fc := 9000) (f := 9000) (cuts := []) (xk := jx) cl_lok cl_hrf (cl_hro L xs) hL jx_ok (by decide +kernel)
def k_xu_16_2 : ct_C := ([(2, .ofNat 8, .ofNat 8)], [(10, 210, .ofNat 0, .ofNat 29), (32, 1, .ofNat 16, .ofNat 16), (32, 2, .ofNat 16, .ofNat 40), (33, 60, .ofNat 6, .ofNat 6), (33, 61, .ofNat 0, .ofNat 11), (33, 62, .negSucc 0, .ofNat 143)], [(10, 210, .ofNat 0, .ofNat 29), (32, 1, .ofNat 15, .ofNat 15)], [10], (some (0, .ofNat 15, .ofNat 15)), 3, false)
theorem c_xu_16_2 (hL : L < 2 ^ 31) : ci L xs 121 k_xu_16_2 :=
  mi_ok (fc := 9000) (f := 9000) (cuts := []) (xk := jx) cl_lok cl_hrf (cl_hro L xs) hL jx_ok (by decide +kernel)
def k_xu_16_3 : ct_C := ([(2, .ofNat 8, .ofNat 8)], [(10, 210, .ofNat 0, .ofNat 29), (32, 1, .ofNat 16, .ofNat 16), (32, 2, .ofNat 16, .ofNat 40), (33, 60, .ofNat 7, .ofNat 7), (33, 61, .ofNat 0, .ofNat 0), (33, 62, .ofNat 0, .ofNat 29)], [(10, 210, .ofNat 0, .ofNat 29), (32, 1, .ofNat 15, .ofNat 15)], [10], (some (0, .ofNat 15, .ofNat 15)), 3, false)
theorem c_xu_16_3 (hL : L < 2 ^ 31) : ci L xs 121 k_xu_16_3 :=
  mi_ok (fc := 9000) (f := 9000) (cuts := []) (xk := jx) cl_lok cl_hrf (cl_hro L xs) hL jx_ok (by decide +kernel)
def k_xu_16 : ct_C := ([(2, .ofNat 8, .ofNat 8)], [(10, 210, .ofNat 0, .ofNat 29), (32, 1, .ofNat 16, .ofNat 16)], [(10, 210, .ofNat 0, .ofNat 29), (32, 1, .ofNat 0, .ofNat 40)], [10], (some (0, .ofNat 15, .ofNat 15)), 3, false)
theorem s_xu_16 (M : Nat → Nat → Int) (hm : sx_mok cl_ly M) (hJ : JJ M) (hg : ct_g k_xu_16.2.1 M) : ∃ m ∈ [k_xu_16_0, k_xu_16_1, k_xu_16_2, k_xu_16_3], ct_g m.2.1 M := by
  have hv : M 32 1 = 16 := by
    have h := hg (32, 1, .ofNat 16, .ofNat 16) (List.mem_cons_of_mem _ List.mem_cons_self)
    exact Int.le_antisymm h.2 h.1
  have hk := jr_kn hm
  have hu := jr_un hm
  have hd := hJ.2.2.1
  have he := hJ.2.2.2
  have h8 : jp (M 33 60) (M 33 61) (M 33 62) (M 33 63) := hJ.1 15 (by decide)
  obtain ⟨⟨b1, b2, b3, b4⟩, h8⟩ := h8
  rcases h8 with h8 | h8 | h8 | h8
  · exact ⟨k_xu_16_0, List.mem_cons_self, (jh (hg (10, 210, .ofNat 0, .ofNat 29) List.mem_cons_self) (jc (by show (16 : Int) ≤ M 32 1; omega) (by show M 32 1 ≤ (16 : Int); omega) (jc (by show (16 : Int) ≤ M 32 2; omega) (by show M 32 2 ≤ (40 : Int); omega) (jc (by show (0 : Int) ≤ M 33 60; omega) (by show M 33 60 ≤ (4 : Int); omega) (jc (by show (0 : Int) ≤ M 33 61; omega) (by show M 33 61 ≤ (5 : Int); omega) (jc (by show (-1 : Int) ≤ M 33 62; omega) (by show M 33 62 ≤ (143 : Int); omega) jn))))))⟩
  · exact ⟨k_xu_16_1, (List.mem_cons_of_mem _ List.mem_cons_self), (jh (hg (10, 210, .ofNat 0, .ofNat 29) List.mem_cons_self) (jc (by show (16 : Int) ≤ M 32 1; omega) (by show M 32 1 ≤ (16 : Int); omega) (jc (by show (16 : Int) ≤ M 32 2; omega) (by show M 32 2 ≤ (40 : Int); omega) (jc (by show (5 : Int) ≤ M 33 60; omega) (by show M 33 60 ≤ (5 : Int); omega) (jc (by show (0 : Int) ≤ M 33 61; omega) (by show M 33 61 ≤ (29 : Int); omega) (jc (by show (-1 : Int) ≤ M 33 62; omega) (by show M 33 62 ≤ (143 : Int); omega) jn))))))⟩
  · exact ⟨k_xu_16_2, (List.mem_cons_of_mem _ (List.mem_cons_of_mem _ List.mem_cons_self)), (jh (hg (10, 210, .ofNat 0, .ofNat 29) List.mem_cons_self) (jc (by show (16 : Int) ≤ M 32 1; omega) (by show M 32 1 ≤ (16 : Int); omega) (jc (by show (16 : Int) ≤ M 32 2; omega) (by show M 32 2 ≤ (40 : Int); omega) (jc (by show (6 : Int) ≤ M 33 60; omega) (by show M 33 60 ≤ (6 : Int); omega) (jc (by show (0 : Int) ≤ M 33 61; omega) (by show M 33 61 ≤ (11 : Int); omega) (jc (by show (-1 : Int) ≤ M 33 62; omega) (by show M 33 62 ≤ (143 : Int); omega) jn))))))⟩
  · exact ⟨k_xu_16_3, (List.mem_cons_of_mem _ (List.mem_cons_of_mem _ (List.mem_cons_of_mem _ List.mem_cons_self))), (jh (hg (10, 210, .ofNat 0, .ofNat 29) List.mem_cons_self) (jc (by show (16 : Int) ≤ M 32 1; omega) (by show M 32 1 ≤ (16 : Int); omega) (jc (by show (16 : Int) ≤ M 32 2; omega) (by show M 32 2 ≤ (40 : Int); omega) (jc (by show (7 : Int) ≤ M 33 60; omega) (by show M 33 60 ≤ (7 : Int); omega) (jc (by show (0 : Int) ≤ M 33 61; omega) (by show M 33 61 ≤ (0 : Int); omega) (jc (by show (0 : Int) ≤ M 33 62; omega) (by show M 33 62 ≤ (29 : Int); omega) jn))))))⟩
theorem c_xu_16 (hL : L < 2 ^ 31) : ci L xs 121 k_xu_16 :=
  ci_j_ok (ms := [k_xu_16_0, k_xu_16_1, k_xu_16_2, k_xu_16_3]) (jl_cons (c_xu_16_0 hL) (jl_cons (c_xu_16_1 hL) (jl_cons (c_xu_16_2 hL) (jl_cons (c_xu_16_3 hL) jl_nil)))) s_xu_16 (by decide +kernel)
def k_xu_17_0 : ct_C := ([(2, .ofNat 8, .ofNat 8)], [(10, 210, .ofNat 0, .ofNat 29), (32, 1, .ofNat 17, .ofNat 17), (32, 2, .ofNat 17, .ofNat 40), (33, 64, .ofNat 0, .ofNat 4), (33, 65, .ofNat 0, .ofNat 5), (33, 66, .negSucc 0, .ofNat 143)], [(10, 210, .ofNat 0, .ofNat 29), (32, 1, .ofNat 16, .ofNat 16)], [10], (some (0, .ofNat 16, .ofNat 16)), 3, false)
theorem c_xu_17_0 (hL : L < 2 ^ 31) : ci L xs 121 k_xu_17_0 :=
  mi_ok (fc := 9000) (f := 9000) (cuts := []) (xk := jx) cl_lok cl_hrf (cl_hro L xs) hL jx_ok (by decide +kernel)
def k_xu_17_1 : ct_C := ([(2, .ofNat 8, .ofNat 8)], [(10, 210, .ofNat 0, .ofNat 29), (32, 1, .ofNat 17, .ofNat 17), (32, 2, .ofNat 17, .ofNat 40), (33, 64, .ofNat 5, .ofNat 5), (33, 65, .ofNat 0, .ofNat 29), (33, 66, .negSucc 0, .ofNat 143)], [(10, 210, .ofNat 0, .ofNat 29), (32, 1, .ofNat 16, .ofNat 16)], [10], (some (0, .ofNat 16, .ofNat 16)), 3, false)
theorem c_xu_17_1 (hL : L < 2 ^ 31) : ci L xs 121 k_xu_17_1 :=
  mi_ok (fc := 9000) (f := 9000) (cuts := []) (xk := jx) cl_lok cl_hrf (cl_hro L xs) hL jx_ok (by decide +kernel)
def k_xu_17_2 : ct_C := ([(2, .ofNat 8, .ofNat 8)], [(10, 210, .ofNat 0, .ofNat 29), (32, 1, .ofNat 17, .ofNat 17), (32, 2, .ofNat 17, .ofNat 40), (33, 64, .ofNat 6, .ofNat 6), (33, 65, .ofNat 0, .ofNat 11), (33, 66, .negSucc 0, .ofNat 143)], [(10, 210, .ofNat 0, .ofNat 29), (32, 1, .ofNat 16, .ofNat 16)], [10], (some (0, .ofNat 16, .ofNat 16)), 3, false)
theorem c_xu_17_2 (hL : L < 2 ^ 31) : ci L xs 121 k_xu_17_2 :=
  mi_ok (fc := 9000) (f := 9000) (cuts := []) (xk := jx) cl_lok cl_hrf (cl_hro L xs) hL jx_ok (by decide +kernel)
def k_xu_17_3 : ct_C := ([(2, .ofNat 8, .ofNat 8)], [(10, 210, .ofNat 0, .ofNat 29), (32, 1, .ofNat 17, .ofNat 17), (32, 2, .ofNat 17, .ofNat 40), (33, 64, .ofNat 7, .ofNat 7), (33, 65, .ofNat 0, .ofNat 0), (33, 66, .ofNat 0, .ofNat 29)], [(10, 210, .ofNat 0, .ofNat 29), (32, 1, .ofNat 16, .ofNat 16)], [10], (some (0, .ofNat 16, .ofNat 16)), 3, false)
theorem c_xu_17_3 (hL : L < 2 ^ 31) : ci L xs 121 k_xu_17_3 :=
  mi_ok (fc := 9000) (f := 9000) (cuts := []) (xk := jx) cl_lok cl_hrf (cl_hro L xs) hL jx_ok (by decide +kernel)
def k_xu_17 : ct_C := ([(2, .ofNat 8, .ofNat 8)], [(10, 210, .ofNat 0, .ofNat 29), (32, 1, .ofNat 17, .ofNat 17)], [(10, 210, .ofNat 0, .ofNat 29), (32, 1, .ofNat 0, .ofNat 40)], [10], (some (0, .ofNat 16, .ofNat 16)), 3, false)
theorem s_xu_17 (M : Nat → Nat → Int) (hm : sx_mok cl_ly M) (hJ : JJ M) (hg : ct_g k_xu_17.2.1 M) : ∃ m ∈ [k_xu_17_0, k_xu_17_1, k_xu_17_2, k_xu_17_3], ct_g m.2.1 M := by
  have hv : M 32 1 = 17 := by
    have h := hg (32, 1, .ofNat 17, .ofNat 17) (List.mem_cons_of_mem _ List.mem_cons_self)
    exact Int.le_antisymm h.2 h.1
  have hk := jr_kn hm
  have hu := jr_un hm
  have hd := hJ.2.2.1
  have he := hJ.2.2.2
  have h8 : jp (M 33 64) (M 33 65) (M 33 66) (M 33 67) := hJ.1 16 (by decide)
  obtain ⟨⟨b1, b2, b3, b4⟩, h8⟩ := h8
  rcases h8 with h8 | h8 | h8 | h8
  · exact ⟨k_xu_17_0, List.mem_cons_self, (jh (hg (10, 210, .ofNat 0, .ofNat 29) List.mem_cons_self) (jc (by show (17 : Int) ≤ M 32 1; omega) (by show M 32 1 ≤ (17 : Int); omega) (jc (by show (17 : Int) ≤ M 32 2; omega) (by show M 32 2 ≤ (40 : Int); omega) (jc (by show (0 : Int) ≤ M 33 64; omega) (by show M 33 64 ≤ (4 : Int); omega) (jc (by show (0 : Int) ≤ M 33 65; omega) (by show M 33 65 ≤ (5 : Int); omega) (jc (by show (-1 : Int) ≤ M 33 66; omega) (by show M 33 66 ≤ (143 : Int); omega) jn))))))⟩
  · exact ⟨k_xu_17_1, (List.mem_cons_of_mem _ List.mem_cons_self), (jh (hg (10, 210, .ofNat 0, .ofNat 29) List.mem_cons_self) (jc (by show (17 : Int) ≤ M 32 1; omega) (by show M 32 1 ≤ (17 : Int); omega) (jc (by show (17 : Int) ≤ M 32 2; omega) (by show M 32 2 ≤ (40 : Int); omega) (jc (by show (5 : Int) ≤ M 33 64; omega) (by show M 33 64 ≤ (5 : Int); omega) (jc (by show (0 : Int) ≤ M 33 65; omega) (by show M 33 65 ≤ (29 : Int); omega) (jc (by show (-1 : Int) ≤ M 33 66; omega) (by show M 33 66 ≤ (143 : Int); omega) jn))))))⟩
  · exact ⟨k_xu_17_2, (List.mem_cons_of_mem _ (List.mem_cons_of_mem _ List.mem_cons_self)), (jh (hg (10, 210, .ofNat 0, .ofNat 29) List.mem_cons_self) (jc (by show (17 : Int) ≤ M 32 1; omega) (by show M 32 1 ≤ (17 : Int); omega) (jc (by show (17 : Int) ≤ M 32 2; omega) (by show M 32 2 ≤ (40 : Int); omega) (jc (by show (6 : Int) ≤ M 33 64; omega) (by show M 33 64 ≤ (6 : Int); omega) (jc (by show (0 : Int) ≤ M 33 65; omega) (by show M 33 65 ≤ (11 : Int); omega) (jc (by show (-1 : Int) ≤ M 33 66; omega) (by show M 33 66 ≤ (143 : Int); omega) jn))))))⟩
  · exact ⟨k_xu_17_3, (List.mem_cons_of_mem _ (List.mem_cons_of_mem _ (List.mem_cons_of_mem _ List.mem_cons_self))), (jh (hg (10, 210, .ofNat 0, .ofNat 29) List.mem_cons_self) (jc (by show (17 : Int) ≤ M 32 1; omega) (by show M 32 1 ≤ (17 : Int); omega) (jc (by show (17 : Int) ≤ M 32 2; omega) (by show M 32 2 ≤ (40 : Int); omega) (jc (by show (7 : Int) ≤ M 33 64; omega) (by show M 33 64 ≤ (7 : Int); omega) (jc (by show (0 : Int) ≤ M 33 65; omega) (by show M 33 65 ≤ (0 : Int); omega) (jc (by show (0 : Int) ≤ M 33 66; omega) (by show M 33 66 ≤ (29 : Int); omega) jn))))))⟩
theorem c_xu_17 (hL : L < 2 ^ 31) : ci L xs 121 k_xu_17 :=
  ci_j_ok (ms := [k_xu_17_0, k_xu_17_1, k_xu_17_2, k_xu_17_3]) (jl_cons (c_xu_17_0 hL) (jl_cons (c_xu_17_1 hL) (jl_cons (c_xu_17_2 hL) (jl_cons (c_xu_17_3 hL) jl_nil)))) s_xu_17 (by decide +kernel)
def k_xu_18_0 : ct_C := ([(2, .ofNat 8, .ofNat 8)], [(10, 210, .ofNat 0, .ofNat 29), (32, 1, .ofNat 18, .ofNat 18), (32, 2, .ofNat 18, .ofNat 40), (33, 68, .ofNat 0, .ofNat 4), (33, 69, .ofNat 0, .ofNat 5), (33, 70, .negSucc 0, .ofNat 143)], [(10, 210, .ofNat 0, .ofNat 29), (32, 1, .ofNat 17, .ofNat 17)], [10], (some (0, .ofNat 17, .ofNat 17)), 3, false)
theorem c_xu_18_0 (hL : L < 2 ^ 31) : ci L xs 121 k_xu_18_0 :=
  mi_ok (fc := 9000) (f := 9000) (cuts := []) (xk := jx) cl_lok cl_hrf (cl_hro L xs) hL jx_ok (by decide +kernel)
def k_xu_18_1 : ct_C := ([(2, .ofNat 8, .ofNat 8)], [(10, 210, .ofNat 0, .ofNat 29), (32, 1, .ofNat 18, .ofNat 18), (32, 2, .ofNat 18, .ofNat 40), (33, 68, .ofNat 5, .ofNat 5), (33, 69, .ofNat 0, .ofNat 29), (33, 70, .negSucc 0, .ofNat 143)], [(10, 210, .ofNat 0, .ofNat 29), (32, 1, .ofNat 17, .ofNat 17)], [10], (some (0, .ofNat 17, .ofNat 17)), 3, false)
theorem c_xu_18_1 (hL : L < 2 ^ 31) : ci L xs 121 k_xu_18_1 :=
  mi_ok (fc := 9000) (f := 9000) (cuts := []) (xk := jx) cl_lok cl_hrf (cl_hro L xs) hL jx_ok (by decide +kernel)
def k_xu_18_2 : ct_C := ([(2, .ofNat 8, .ofNat 8)], [(10, 210, .ofNat 0, .ofNat 29), (32, 1, .ofNat 18, .ofNat 18), (32, 2, .ofNat 18, .ofNat 40), (33, 68, .ofNat 6, .ofNat 6), (33, 69, .ofNat 0, .ofNat 11), (33, 70, .negSucc 0, .ofNat 143)], [(10, 210, .ofNat 0, .ofNat 29), (32, 1, .ofNat 17, .ofNat 17)], [10], (some (0, .ofNat 17, .ofNat 17)), 3, false)
theorem c_xu_18_2 (hL : L < 2 ^ 31) : ci L xs 121 k_xu_18_2 :=
  mi_ok (fc := 9000) (f := 9000) (cuts := []) (xk := jx) cl_lok cl_hrf (cl_hro L xs) hL jx_ok (by decide +kernel)
def k_xu_18_3 : ct_C := ([(2, .ofNat 8, .ofNat 8)], [(10, 210, .ofNat 0, .ofNat 29), (32, 1, .ofNat 18, .ofNat 18), (32, 2, .ofNat 18, .ofNat 40), (33, 68, .ofNat 7, .ofNat 7), (33, 69, .ofNat 0, .ofNat 0), (33, 70, .ofNat 0, .ofNat 29)], [(10, 210, .ofNat 0, .ofNat 29), (32, 1, .ofNat 17, .ofNat 17)], [10], (some (0, .ofNat 17, .ofNat 17)), 3, false)
theorem c_xu_18_3 (hL : L < 2 ^ 31) : ci L xs 121 k_xu_18_3 :=
  mi_ok (fc := 9000) (f := 9000) (cuts := []) (xk := jx) cl_lok cl_hrf (cl_hro L xs) hL jx_ok (by decide +kernel)
def k_xu_18 : ct_C := ([(2, .ofNat 8, .ofNat 8)], [(10, 210, .ofNat 0, .ofNat 29), (32, 1, .ofNat 18, .ofNat 18)], [(10, 210, .ofNat 0, .ofNat 29), (32, 1, .ofNat 0, .ofNat 40)], [10], (some (0, .ofNat 17, .ofNat 17)), 3, false)
theorem s_xu_18 (M : Nat → Nat → Int) (hm : sx_mok cl_ly M) (hJ : JJ M) (hg : ct_g k_xu_18.2.1 M) : ∃ m ∈ [k_xu_18_0, k_xu_18_1, k_xu_18_2, k_xu_18_3], ct_g m.2.1 M := by
  have hv : M 32 1 = 18 := by
    have h := hg (32, 1, .ofNat 18, .ofNat 18) (List.mem_cons_of_mem _ List.mem_cons_self)
    exact Int.le_antisymm h.2 h.1
  have hk := jr_kn hm
  have hu := jr_un hm
  have hd := hJ.2.2.1
  have he := hJ.2.2.2
  have h8 : jp (M 33 68) (M 33 69) (M 33 70) (M 33 71) := hJ.1 17 (by decide)
  obtain ⟨⟨b1, b2, b3, b4⟩, h8⟩ := h8
  rcases h8 with h8 | h8 | h8 | h8
  · exact ⟨k_xu_18_0, List.mem_cons_self, (jh (hg (10, 210, .ofNat 0, .ofNat 29) List.mem_cons_self) (jc (by show (18 : Int) ≤ M 32 1; omega) (by show M 32 1 ≤ (18 : Int); omega) (jc (by show (18 : Int) ≤ M 32 2; omega) (by show M 32 2 ≤ (40 : Int); omega) (jc (by show (0 : Int) ≤ M 33 68; omega) (by show M 33 68 ≤ (4 : Int); omega) (jc (by show (0 : Int) ≤ M 33 69; omega) (by show M 33 69 ≤ (5 : Int); omega) (jc (by show (-1 : Int) ≤ M 33 70; omega) (by show M 33 70 ≤ (143 : Int); omega) jn))))))⟩
  · exact ⟨k_xu_18_1, (List.mem_cons_of_mem _ List.mem_cons_self), (jh (hg (10, 210, .ofNat 0, .ofNat 29) List.mem_cons_self) (jc (by show (18 : Int) ≤ M 32 1; omega) (by show M 32 1 ≤ (18 : Int); omega) (jc (by show (18 : Int) ≤ M 32 2; omega) (by show M 32 2 ≤ (40 : Int); omega) (jc (by show (5 : Int) ≤ M 33 68; omega) (by show M 33 68 ≤ (5 : Int); omega) (jc (by show (0 : Int) ≤ M 33 69; omega) (by show M 33 69 ≤ (29 : Int); omega) (jc (by show (-1 : Int) ≤ M 33 70; omega) (by show M 33 70 ≤ (143 : Int); omega) jn))))))⟩
  · exact ⟨k_xu_18_2, (List.mem_cons_of_mem _ (List.mem_cons_of_mem _ List.mem_cons_self)), (jh (hg (10, 210, .ofNat 0, .ofNat 29) List.mem_cons_self) (jc (by show (18 : Int) ≤ M 32 1; omega) (by show M 32 1 ≤ (18 : Int); omega) (jc (by show (18 : Int) ≤ M 32 2; omega) (by show M 32 2 ≤ (40 : Int); omega) (jc (by show (6 : Int) ≤ M 33 68; omega) (by show M 33 68 ≤ (6 : Int); omega) (jc (by show (0 : Int) ≤ M 33 69; omega) (by show M 33 69 ≤ (11 : Int); omega) (jc (by show (-1 : Int) ≤ M 33 70; omega) (by show M 33 70 ≤ (143 : Int); omega) jn))))))⟩
  · exact ⟨k_xu_18_3, (List.mem_cons_of_mem _ (List.mem_cons_of_mem _ (List.mem_cons_of_mem _ List.mem_cons_self))), (jh (hg (10, 210, .ofNat 0, .ofNat 29) List.mem_cons_self) (jc (by show (18 : Int) ≤ M 32 1; omega) (by show M 32 1 ≤ (18 : Int); omega) (jc (by show (18 : Int) ≤ M 32 2; omega) (by show M 32 2 ≤ (40 : Int); omega) (jc (by show (7 : Int) ≤ M 33 68; omega) (by show M 33 68 ≤ (7 : Int); omega) (jc (by show (0 : Int) ≤ M 33 69; omega) (by show M 33 69 ≤ (0 : Int); omega) (jc (by show (0 : Int) ≤ M 33 70; omega) (by show M 33 70 ≤ (29 : Int); omega) jn))))))⟩
theorem c_xu_18 (hL : L < 2 ^ 31) : ci L xs 121 k_xu_18 :=
  ci_j_ok (ms := [k_xu_18_0, k_xu_18_1, k_xu_18_2, k_xu_18_3]) (jl_cons (c_xu_18_0 hL) (jl_cons (c_xu_18_1 hL) (jl_cons (c_xu_18_2 hL) (jl_cons (c_xu_18_3 hL) jl_nil)))) s_xu_18 (by decide +kernel)
def k_xu_19_0 : ct_C := ([(2, .ofNat 8, .ofNat 8)], [(10, 210, .ofNat 0, .ofNat 29), (32, 1, .ofNat 19, .ofNat 19), (32, 2, .ofNat 19, .ofNat 40), (33, 72, .ofNat 0, .ofNat 4), (33, 73, .ofNat 0, .ofNat 5), (33, 74, .negSucc 0, .ofNat 143)], [(10, 210, .ofNat 0, .ofNat 29), (32, 1, .ofNat 18, .ofNat 18)], [10], (some (0, .ofNat 18, .ofNat 18)), 3, false)
theorem c_xu_19_0 (hL : L < 2 ^ 31) : ci L xs 121 k_xu_19_0 :=
  mi_ok (fc := 9000) (f := 9000) (cuts := []) (xk := jx) cl_lok cl_hrf (cl_hro L xs) hL jx_ok (by decide +kernel)
def k_xu_19_1 : ct_C := ([(2, .ofNat 8, .ofNat 8)], [(10, 210, .ofNat 0, .ofNat 29), (32, 1, .ofNat 19, .ofNat 19), (32, 2, .ofNat 19, .ofNat 40), (33, 72, .ofNat 5, .ofNat 5), (33, 73, .ofNat 0, .ofNat 29), (33, 74, .negSucc 0, .ofNat 143)], [(10, 210, .ofNat 0, .ofNat 29), (32, 1, .ofNat 18, .ofNat 18)], [10], (some (0, .ofNat 18, .ofNat 18)), 3, false)
theorem c_xu_19_1 (hL : L < 2 ^ 31) : ci L xs 121 k_xu_19_1 :=
  mi_ok (fc := 9000) (f := 9000) (cuts := []) (xk := jx) cl_lok cl_hrf (cl_hro L xs) hL jx_ok (by decide +kernel)
def k_xu_19_2 : ct_C := ([(2, .ofNat 8, .ofNat 8)], [(10, 210, .ofNat 0, .ofNat 29), (32, 1, .ofNat 19, .ofNat 19), (32, 2, .ofNat 19, .ofNat 40), (33, 72, .ofNat 6, .ofNat 6), (33, 73, .ofNat 0, .ofNat 11), (33, 74, .negSucc 0, .ofNat 143)], [(10, 210, .ofNat 0, .ofNat 29), (32, 1, .ofNat 18, .ofNat 18)], [10], (some (0, .ofNat 18, .ofNat 18)), 3, false)
theorem c_xu_19_2 (hL : L < 2 ^ 31) : ci L xs 121 k_xu_19_2 :=
  mi_ok (fc := 9000) (f := 9000) (cuts := []) (xk := jx) cl_lok cl_hrf (cl_hro L xs) hL jx_ok (by decide +kernel)
def k_xu_19_3 : ct_C := ([(2, .ofNat 8, .ofNat 8)], [(10, 210, .ofNat 0, .ofNat 29), (32, 1, .ofNat 19, .ofNat 19), (32, 2, .ofNat 19, .ofNat 40), (33, 72, .ofNat 7, .ofNat 7), (33, 73, .ofNat 0, .ofNat 0), (33, 74, .ofNat 0, .ofNat 29)], [(10, 210, .ofNat 0, .ofNat 29), (32, 1, .ofNat 18, .ofNat 18)], [10], (some (0, .ofNat 18, .ofNat 18)), 3, false)
theorem c_xu_19_3 (hL : L < 2 ^ 31) : ci L xs 121 k_xu_19_3 :=
  mi_ok (fc := 9000) (f := 9000) (cuts := []) (xk := jx) cl_lok cl_hrf (cl_hro L xs) hL jx_ok (by decide +kernel)
def k_xu_19 : ct_C := ([(2, .ofNat 8, .ofNat 8)], [(10, 210, .ofNat 0, .ofNat 29), (32, 1, .ofNat 19, .ofNat 19)], [(10, 210, .ofNat 0, .ofNat 29), (32, 1, .ofNat 0, .ofNat 40)], [10], (some (0, .ofNat 18, .ofNat 18)), 3, false)
theorem s_xu_19 (M : Nat → Nat → Int) (hm : sx_mok cl_ly M) (hJ : JJ M) (hg : ct_g k_xu_19.2.1 M) : ∃ m ∈ [k_xu_19_0, k_xu_19_1, k_xu_19_2, k_xu_19_3], ct_g m.2.1 M := by
  have hv : M 32 1 = 19 := by
    have h := hg (32, 1, .ofNat 19, .ofNat 19) (List.mem_cons_of_mem _ List.mem_cons_self)
    exact Int.le_antisymm h.2 h.1
  have hk := jr_kn hm
  have hu := jr_un hm
  have hd := hJ.2.2.1
  have he := hJ.2.2.2
  have h8 : jp (M 33 72) (M 33 73) (M 33 74) (M 33 75) := hJ.1 18 (by decide)
  obtain ⟨⟨b1, b2, b3, b4⟩, h8⟩ := h8
  rcases h8 with h8 | h8 | h8 | h8
  · exact ⟨k_xu_19_0, List.mem_cons_self, (jh (hg (10, 210, .ofNat 0, .ofNat 29) List.mem_cons_self) (jc (by show (19 : Int) ≤ M 32 1; omega) (by show M 32 1 ≤ (19 : Int); omega) (jc (by show (19 : Int) ≤ M 32 2; omega) (by show M 32 2 ≤ (40 : Int); omega) (jc (by show (0 : Int) ≤ M 33 72; omega) (by show M 33 72 ≤ (4 : Int); omega) (jc (by show (0 : Int) ≤ M 33 73; omega) (by show M 33 73 ≤ (5 : Int); omega) (jc (by show (-1 : Int) ≤ M 33 74; omega) (by show M 33 74 ≤ (143 : Int); omega) jn))))))⟩
  · exact ⟨k_xu_19_1, (List.mem_cons_of_mem _ List.mem_cons_self), (jh (hg (10, 210, .ofNat 0, .ofNat 29) List.mem_cons_self) (jc (by show (19 : Int) ≤ M 32 1; omega) (by show M 32 1 ≤ (19 : Int); omega) (jc (by show (19 : Int) ≤ M 32 2; omega) (by show M 32 2 ≤ (40 : Int); omega) (jc (by show (5 : Int) ≤ M 33 72; omega) (by show M 33 72 ≤ (5 : Int); omega) (jc (by show (0 : Int) ≤ M 33 73; omega) (by show M 33 73 ≤ (29 : Int); omega) (jc (by show (-1 : Int) ≤ M 33 74; omega) (by show M 33 74 ≤ (143 : Int); omega) jn))))))⟩
  · exact ⟨k_xu_19_2, (List.mem_cons_of_mem _ (List.mem_cons_of_mem _ List.mem_cons_self)), (jh (hg (10, 210, .ofNat 0, .ofNat 29) List.mem_cons_self) (jc (by show (19 : Int) ≤ M 32 1; omega) (by show M 32 1 ≤ (19 : Int); omega) (jc (by show (19 : Int) ≤ M 32 2; omega) (by show M 32 2 ≤ (40 : Int); omega) (jc (by show (6 : Int) ≤ M 33 72; omega) (by show M 33 72 ≤ (6 : Int); omega) (jc (by show (0 : Int) ≤ M 33 73; omega) (by show M 33 73 ≤ (11 : Int); omega) (jc (by show (-1 : Int) ≤ M 33 74; omega) (by show M 33 74 ≤ (143 : Int); omega) jn))))))⟩
  · exact ⟨k_xu_19_3, (List.mem_cons_of_mem _ (List.mem_cons_of_mem _ (List.mem_cons_of_mem _ List.mem_cons_self))), (jh (hg (10, 210, .ofNat 0, .ofNat 29) List.mem_cons_self) (jc (by show (19 : Int) ≤ M 32 1; omega) (by show M 32 1 ≤ (19 : Int); omega) (jc (by show (19 : Int) ≤ M 32 2; omega) (by show M 32 2 ≤ (40 : Int); omega) (jc (by show (7 : Int) ≤ M 33 72; omega) (by show M 33 72 ≤ (7 : Int); omega) (jc (by show (0 : Int) ≤ M 33 73; omega) (by show M 33 73 ≤ (0 : Int); omega) (jc (by show (0 : Int) ≤ M 33 74; omega) (by show M 33 74 ≤ (29 : Int); omega) jn))))))⟩
theorem c_xu_19 (hL : L < 2 ^ 31) : ci L xs 121 k_xu_19 :=
  ci_j_ok (ms := [k_xu_19_0, k_xu_19_1, k_xu_19_2, k_xu_19_3]) (jl_cons (c_xu_19_0 hL) (jl_cons (c_xu_19_1 hL) (jl_cons (c_xu_19_2 hL) (jl_cons (c_xu_19_3 hL) jl_nil)))) s_xu_19 (by decide +kernel)
def k_xu_20_0 : ct_C := ([(2, .ofNat 8, .ofNat 8)], [(10, 210, .ofNat 0, .ofNat 29), (32, 1, .ofNat 20, .ofNat 20), (32, 2, .ofNat 20, .ofNat 40), (33, 76, .ofNat 0, .ofNat 4), (33, 77, .ofNat 0, .ofNat 5), (33, 78, .negSucc 0, .ofNat 143)], [(10, 210, .ofNat 0, .ofNat 29), (32, 1, .ofNat 19, .ofNat 19)], [10], (some (0, .ofNat 19, .ofNat 19)), 3, false)
theorem c_xu_20_0 (hL : L < 2 ^ 31) : ci L xs 121 k_xu_20_0 :=
  mi_ok (fc := 9000) (f := 9000) (cuts := []) (xk := jx) cl_lok cl_hrf (cl_hro L xs) hL jx_ok (by decide +kernel)
def k_xu_20_1 : ct_C := ([(2, .ofNat 8, .ofNat 8)], [(10, 210, .ofNat 0, .ofNat 29), (32, 1, .ofNat 20, .ofNat 20), (32, 2, .ofNat 20, .ofNat 40), (33, 76, .ofNat 5, .ofNat 5), (33, 77, .ofNat 0, .ofNat 29), (33, 78, .negSucc 0, .ofNat 143)], [(10, 210, .ofNat 0, .ofNat 29), (32, 1, .ofNat 19, .ofNat 19)], [10], (some (0, .ofNat 19, .ofNat 19)), 3, false)
theorem c_xu_20_1 (hL : L < 2 ^ 31) : ci L xs 121 k_xu_20_1 :=
  mi_ok (fc := 9000) (f := 9000) (cuts := []) (xk := jx) cl_lok cl_hrf (cl_hro L xs) hL jx_ok (by decide +kernel)
def k_xu_20_2 : ct_C := ([(2, .ofNat 8, .ofNat 8)], [(10, 210, .ofNat 0, .ofNat 29), (32, 1, .ofNat 20, .ofNat 20), (32, 2, .ofNat 20, .ofNat 40), (33, 76, .ofNat 6, .ofNat 6), (33, 77, .ofNat 0, .ofNat 11), (33, 78, .negSucc 0, .ofNat 143)], [(10, 210, .ofNat 0, .ofNat 29), (32, 1, .ofNat 19, .ofNat 19)], [10], (some (0, .ofNat 19, .ofNat 19)), 3, false)
theorem c_xu_20_2 (hL : L < 2 ^ 31) : ci L xs 121 k_xu_20_2 :=
  mi_ok (fc := 9000) (f := 9000) (cuts := []) (xk := jx) cl_lok cl_hrf (cl_hro L xs) hL jx_ok (by decide +kernel)
def k_xu_20_3 : ct_C := ([(2, .ofNat 8, .ofNat 8)], [(10, 210, .ofNat 0, .ofNat 29), (32, 1, .ofNat 20, .ofNat 20), (32, 2, .ofNat 20, .ofNat 40), (33, 76, .ofNat 7, .ofNat 7), (33, 77, .ofNat 0, .ofNat 0), (33, 78, .ofNat 0, .ofNat 29)], [(10, 210, .ofNat 0, .ofNat 29), (32, 1, .ofNat 19, .ofNat 19)], [10], (some (0, .ofNat 19, .ofNat 19)), 3, false)
theorem c_xu_20_3 (hL : L < 2 ^ 31) : ci L xs 121 k_xu_20_3 :=
  mi_ok (fc := 9000) (f := 9000) (cuts := []) (xk := jx) cl_lok cl_hrf (cl_hro L xs) hL jx_ok (by decide +kernel)
def k_xu_20 : ct_C := ([(2, .ofNat 8, .ofNat 8)], [(10, 210, .ofNat 0, .ofNat 29), (32, 1, .ofNat 20, .ofNat 20)], [(10, 210, .ofNat 0, .ofNat 29), (32, 1, .ofNat 0, .ofNat 40)], [10], (some (0, .ofNat 19, .ofNat 19)), 3, false)
theorem s_xu_20 (M : Nat → Nat → Int) (hm : sx_mok cl_ly M) (hJ : JJ M) (hg : ct_g k_xu_20.2.1 M) : ∃ m ∈ [k_xu_20_0, k_xu_20_1, k_xu_20_2, k_xu_20_3], ct_g m.2.1 M := by
  have hv : M 32 1 = 20 := by
    have h := hg (32, 1, .ofNat 20, .ofNat 20) (List.mem_cons_of_mem _ List.mem_cons_self)
    exact Int.le_antisymm h.2 h.1
  have hk := jr_kn hm
  have hu := jr_un hm
  have hd := hJ.2.2.1
  have he := hJ.2.2.2
  have h8 : jp (M 33 76) (M 33 77) (M 33 78) (M 33 79) := hJ.1 19 (by decide)
  obtain ⟨⟨b1, b2, b3, b4⟩, h8⟩ := h8
  rcases h8 with h8 | h8 | h8 | h8
  · exact ⟨k_xu_20_0, List.mem_cons_self, (jh (hg (10, 210, .ofNat 0, .ofNat 29) List.mem_cons_self) (jc (by show (20 : Int) ≤ M 32 1; omega) (by show M 32 1 ≤ (20 : Int); omega) (jc (by show (20 : Int) ≤ M 32 2; omega) (by show M 32 2 ≤ (40 : Int); omega) (jc (by show (0 : Int) ≤ M 33 76; omega) (by show M 33 76 ≤ (4 : Int); omega) (jc (by show (0 : Int) ≤ M 33 77; omega) (by show M 33 77 ≤ (5 : Int); omega) (jc (by show (-1 : Int) ≤ M 33 78; omega) (by show M 33 78 ≤ (143 : Int); omega) jn))))))⟩
  · exact ⟨k_xu_20_1, (List.mem_cons_of_mem _ List.mem_cons_self), (jh (hg (10, 210, .ofNat 0, .ofNat 29) List.mem_cons_self) (jc (by show (20 : Int) ≤ M 32 1; omega) (by show M 32 1 ≤ (20 : Int); omega) (jc (by show (20 : Int) ≤ M 32 2; omega) (by show M 32 2 ≤ (40 : Int); omega) (jc (by show (5 : Int) ≤ M 33 76; omega) (by show M 33 76 ≤ (5 : Int); omega) (jc (by show (0 : Int) ≤ M 33 77; omega) (by show M 33 77 ≤ (29 : Int); omega) (jc (by show (-1 : Int) ≤ M 33 78; omega) (by show M 33 78 ≤ (143 : Int); omega) jn))))))⟩
  · exact ⟨k_xu_20_2, (List.mem_cons_of_mem _ (List.mem_cons_of_mem _ List.mem_cons_self)), (jh (hg (10, 210, .ofNat 0, .ofNat 29) List.mem_cons_self) (jc (by show (20 : Int) ≤ M 32 1; omega) (by show M 32 1 ≤ (20 : Int); omega) (jc (by show (20 : Int) ≤ M 32 2; omega) (by show M 32 2 ≤ (40 : Int); omega) (jc (by show (6 : Int) ≤ M 33 76; omega) (by show M 33 76 ≤ (6 : Int); omega) (jc (by show (0 : Int) ≤ M 33 77; omega) (by show M 33 77 ≤ (11 : Int); omega) (jc (by show (-1 : Int) ≤ M 33 78; omega) (by show M 33 78 ≤ (143 : Int); omega) jn))))))⟩
  · exact ⟨k_xu_20_3, (List.mem_cons_of_mem _ (List.mem_cons_of_mem _ (List.mem_cons_of_mem _ List.mem_cons_self))), (jh (hg (10, 210, .ofNat 0, .ofNat 29) List.mem_cons_self) (jc (by show (20 : Int) ≤ M 32 1; omega) (by show M 32 1 ≤ (20 : Int); omega) (jc (by show (20 : Int) ≤ M 32 2; omega) (by show M 32 2 ≤ (40 : Int); omega) (jc (by show (7 : Int) ≤ M 33 76; omega) (by show M 33 76 ≤ (7 : Int); omega) (jc (by show (0 : Int) ≤ M 33 77; omega) (by show M 33 77 ≤ (0 : Int); omega) (jc (by show (0 : Int) ≤ M 33 78; omega) (by show M 33 78 ≤ (29 : Int); omega) jn))))))⟩
theorem c_xu_20 (hL : L < 2 ^ 31) : ci L xs 121 k_xu_20 :=
  ci_j_ok (ms := [k_xu_20_0, k_xu_20_1, k_xu_20_2, k_xu_20_3]) (jl_cons (c_xu_20_0 hL) (jl_cons (c_xu_20_1 hL) (jl_cons (c_xu_20_2 hL) (jl_cons (c_xu_20_3 hL) jl_nil)))) s_xu_20 (by decide +kernel)
def k_xu_21_0 : ct_C := ([(2, .ofNat 8, .ofNat 8)], [(10, 210, .ofNat 0, .ofNat 29), (32, 1, .ofNat 21, .ofNat 21), (32, 2, .ofNat 21, .ofNat 40), (33, 80, .ofNat 0, .ofNat 4), (33, 81, .ofNat 0, .ofNat 5), (33, 82, .negSucc 0, .ofNat 143)], [(10, 210, .ofNat 0, .ofNat 29), (32, 1, .ofNat 20, .ofNat 20)], [10], (some (0, .ofNat 20, .ofNat 20)), 3, false)
theorem c_xu_21_0 (hL : L < 2 ^ 31) : ci L xs 121 k_xu_21_0 :=
  mi_ok (fc := 9000) (f := 9000) (cuts := []) (xk := jx) cl_lok cl_hrf (cl_hro L xs) hL jx_ok (by decide +kernel)
def k_xu_21_1 : ct_C := ([(2, .ofNat 8, .ofNat 8)], [(10, 210, .ofNat 0, .ofNat 29), (32, 1, .ofNat 21, .ofNat 21), (32, 2, .ofNat 21, .ofNat 40), (33, 80, .ofNat 5, .ofNat 5), (33, 81, .ofNat 0, .ofNat 29), (33, 82, .negSucc 0, .ofNat 143)], [(10, 210, .ofNat 0, .ofNat 29), (32, 1, .ofNat 20, .ofNat 20)], [10], (some (0, .ofNat 20, .ofNat 20)), 3, false)
theorem c_xu_21_1 (hL : L < 2 ^ 31) : ci L xs 121 k_xu_21_1 :=
  mi_ok (fc := 9000) (f := 9000) (cuts := []) (xk := jx) cl_lok cl_hrf (cl_hro L xs) hL jx_ok (by decide +kernel)
def k_xu_21_2 : ct_C := ([(2, .ofNat 8, .ofNat 8)], [(10, 210, .ofNat 0, .ofNat 29), (32, 1, .ofNat 21, .ofNat 21), (32, 2, .ofNat 21, .ofNat 40), (33, 80, .ofNat 6, .ofNat 6), (33, 81, .ofNat 0, .ofNat 11), (33, 82, .negSucc 0, .ofNat 143)], [(10, 210, .ofNat 0, .ofNat 29), (32, 1, .ofNat 20, .ofNat 20)], [10], (some (0, .ofNat 20, .ofNat 20)), 3, false)
theorem c_xu_21_2 (hL : L < 2 ^ 31) : ci L xs 121 k_xu_21_2 :=
  mi_ok (fc := 9000) (f := 9000) (cuts := []) (xk := jx) cl_lok cl_hrf (cl_hro L xs) hL jx_ok (by decide +kernel)
def k_xu_21_3 : ct_C := ([(2, .ofNat 8, .ofNat 8)], [(10, 210, .ofNat 0, .ofNat 29), (32, 1, .ofNat 21, .ofNat 21), (32, 2, .ofNat 21, .ofNat 40), (33, 80, .ofNat 7, .ofNat 7), (33, 81, .ofNat 0, .ofNat 0), (33, 82, .ofNat 0, .ofNat 29)], [(10, 210, .ofNat 0, .ofNat 29), (32, 1, .ofNat 20, .ofNat 20)], [10], (some (0, .ofNat 20, .ofNat 20)), 3, false)
theorem c_xu_21_3 (hL : L < 2 ^ 31) : ci L xs 121 k_xu_21_3 :=
  mi_ok (fc := 9000) (f := 9000) (cuts := []) (xk := jx) cl_lok cl_hrf (cl_hro L xs) hL jx_ok (by decide +kernel)
def k_xu_21 : ct_C := ([(2, .ofNat 8, .ofNat 8)], [(10, 210, .ofNat 0, .ofNat 29), (32, 1, .ofNat 21, .ofNat 21)], [(10, 210, .ofNat 0, .ofNat 29), (32, 1, .ofNat 0, .ofNat 40)], [10], (some (0, .ofNat 20, .ofNat 20)), 3, false)
theorem s_xu_21 (M : Nat → Nat → Int) (hm : sx_mok cl_ly M) (hJ : JJ M) (hg : ct_g k_xu_21.2.1 M) : ∃ m ∈ [k_xu_21_0, k_xu_21_1, k_xu_21_2, k_xu_21_3], ct_g m.2.1 M := by
  have hv : M 32 1 = 21 := by
    have h := hg (32, 1, .ofNat 21, .ofNat 21) (List.mem_cons_of_mem _ List.mem_cons_self)
    exact Int.le_antisymm h.2 h.1
  have hk := jr_kn hm
  have hu := jr_un hm
  have hd := hJ.2.2.1
  have he := hJ.2.2.2
  have h8 : jp (M 33 80) (M 33 81) (M 33 82) (M 33 83) := hJ.1 20 (by decide)
  obtain ⟨⟨b1, b2, b3, b4⟩, h8⟩ := h8
  rcases h8 with h8 | h8 | h8 | h8
  · exact ⟨k_xu_21_0, List.mem_cons_self, (jh (hg (10, 210, .ofNat 0, .ofNat 29) List.mem_cons_self) (jc (by show (21 : Int) ≤ M 32 1; omega) (by show M 32 1 ≤ (21 : Int); omega) (jc (by show (21 : Int) ≤ M 32 2; omega) (by show M 32 2 ≤ (40 : Int); omega) (jc (by show (0 : Int) ≤ M 33 80; omega) (by show M 33 80 ≤ (4 : Int); omega) (jc (by show (0 : Int) ≤ M 33 81; omega) (by show M 33 81 ≤ (5 : Int); omega) (jc (by show (-1 : Int) ≤ M 33 82; omega) (by show M 33 82 ≤ (143 : Int); omega) jn))))))⟩
  · exact ⟨k_xu_21_1, (List.mem_cons_of_mem _ List.mem_cons_self), (jh (hg (10, 210, .ofNat 0, .ofNat 29) List.mem_cons_self) (jc (by show (21 : Int) ≤ M 32 1; omega) (by show M 32 1 ≤ (21 : Int); omega) (jc (by show (21 : Int) ≤ M 32 2; omega) (by show M 32 2 ≤ (40 : Int); omega) (jc (by show (5 : Int) ≤ M 33 80; omega) (by show M 33 80 ≤ (5 : Int); omega) (jc (by show (0 : Int) ≤ M 33 81; omega) (by show M 33 81 ≤ (29 : Int); omega) (jc (by show (-1 : Int) ≤ M 33 82; omega) (by show M 33 82 ≤ (143 : Int); omega) jn))))))⟩
  · exact ⟨k_xu_21_2, (List.mem_cons_of_mem _ (List.mem_cons_of_mem _ List.mem_cons_self)), (jh (hg (10, 210, .ofNat 0, .ofNat 29) List.mem_cons_self) (jc (by show (21 : Int) ≤ M 32 1; omega) (by show M 32 1 ≤ (21 : Int); omega) (jc (by show (21 : Int) ≤ M 32 2; omega) (by show M 32 2 ≤ (40 : Int); omega) (jc (by show (6 : Int) ≤ M 33 80; omega) (by show M 33 80 ≤ (6 : Int); omega) (jc (by show (0 : Int) ≤ M 33 81; omega) (by show M 33 81 ≤ (11 : Int); omega) (jc (by show (-1 : Int) ≤ M 33 82; omega) (by show M 33 82 ≤ (143 : Int); omega) jn))))))⟩
  · exact ⟨k_xu_21_3, (List.mem_cons_of_mem _ (List.mem_cons_of_mem _ (List.mem_cons_of_mem _ List.mem_cons_self))), (jh (hg (10, 210, .ofNat 0, .ofNat 29) List.mem_cons_self) (jc (by show (21 : Int) ≤ M 32 1; omega) (by show M 32 1 ≤ (21 : Int); omega) (jc (by show (21 : Int) ≤ M 32 2; omega) (by show M 32 2 ≤ (40 : Int); omega) (jc (by show (7 : Int) ≤ M 33 80; omega) (by show M 33 80 ≤ (7 : Int); omega) (jc (by show (0 : Int) ≤ M 33 81; omega) (by show M 33 81 ≤ (0 : Int); omega) (jc (by show (0 : Int) ≤ M 33 82; omega) (by show M 33 82 ≤ (29 : Int); omega) jn))))))⟩
theorem c_xu_21 (hL : L < 2 ^ 31) : ci L xs 121 k_xu_21 :=
  ci_j_ok (ms := [k_xu_21_0, k_xu_21_1, k_xu_21_2, k_xu_21_3]) (jl_cons (c_xu_21_0 hL) (jl_cons (c_xu_21_1 hL) (jl_cons (c_xu_21_2 hL) (jl_cons (c_xu_21_3 hL) jl_nil)))) s_xu_21 (by decide +kernel)
def k_xu_22_0 : ct_C := ([(2, .ofNat 8, .ofNat 8)], [(10, 210, .ofNat 0, .ofNat 29), (32, 1, .ofNat 22, .ofNat 22), (32, 2, .ofNat 22, .ofNat 40), (33, 84, .ofNat 0, .ofNat 4), (33, 85, .ofNat 0, .ofNat 5), (33, 86, .negSucc 0, .ofNat 143)], [(10, 210, .ofNat 0, .ofNat 29), (32, 1, .ofNat 21, .ofNat 21)], [10], (some (0, .ofNat 21, .ofNat 21)), 3, false)
theorem c_xu_22_0 (hL : L < 2 ^ 31) : ci L xs 121 k_xu_22_0 :=
  mi_ok (fc := 9000) (f := 9000) (cuts := []) (xk := jx) cl_lok cl_hrf (cl_hro L xs) hL jx_ok (by decide +kernel)
def k_xu_22_1 : ct_C := ([(2, .ofNat 8, .ofNat 8)], [(10, 210, .ofNat 0, .ofNat 29), (32, 1, .ofNat 22, .ofNat 22), (32, 2, .ofNat 22, .ofNat 40), (33, 84, .ofNat 5, .ofNat 5), (33, 85, .ofNat 0, .ofNat 29), (33, 86, .negSucc 0, .ofNat 143)], [(10, 210, .ofNat 0, .ofNat 29), (32, 1, .ofNat 21, .ofNat 21)], [10], (some (0, .ofNat 21, .ofNat 21)), 3, false)
theorem c_xu_22_1 (hL : L < 2 ^ 31) : ci L xs 121 k_xu_22_1 :=
  mi_ok (fc := 9000) (f := 9000) (cuts := []) (xk := jx) cl_lok cl_hrf (cl_hro L xs) hL jx_ok (by decide +kernel)
def k_xu_22_2 : ct_C := ([(2, .ofNat 8, .ofNat 8)], [(10, 210, .ofNat 0, .ofNat 29), (32, 1, .ofNat 22, .ofNat 22), (32, 2, .ofNat 22, .ofNat 40), (33, 84, .ofNat 6, .ofNat 6), (33, 85, .ofNat 0, .ofNat 11), (33, 86, .negSucc 0, .ofNat 143)], [(10, 210, .ofNat 0, .ofNat 29), (32, 1, .ofNat 21, .ofNat 21)], [10], (some (0, .ofNat 21, .ofNat 21)), 3, false)
theorem c_xu_22_2 (hL : L < 2 ^ 31) : ci L xs 121 k_xu_22_2 :=
  mi_ok (fc := 9000) (f := 9000) (cuts := []) (xk := jx) cl_lok cl_hrf (cl_hro L xs) hL jx_ok (by decide +kernel)
def k_xu_22_3 : ct_C := ([(2, .ofNat 8, .ofNat 8)], [(10, 210, .ofNat 0, .ofNat 29), (32, 1, .ofNat 22, .ofNat 22), (32, 2, .ofNat 22, .ofNat 40), (33, 84, .ofNat 7, .ofNat 7), (33, 85, .ofNat 0, .ofNat 0), (33, 86, .ofNat 0, .ofNat 29)], [(10, 210, .ofNat 0, .ofNat 29), (32, 1, .ofNat 21, .ofNat 21)], [10], (some (0, .ofNat 21, .ofNat 21)), 3, false)
theorem c_xu_22_3 (hL : L < 2 ^ 31) : ci L xs 121 k_xu_22_3 :=
  mi_ok (fc := 9000) (f := 9000) (cuts := []) (xk := jx) cl_lok cl_hrf (cl_hro L xs) hL jx_ok (by decide +kernel)
def k_xu_22 : ct_C := ([(2, .ofNat 8, .ofNat 8)], [(10, 210, .ofNat 0, .ofNat 29), (32, 1, .ofNat 22, .ofNat 22)], [(10, 210, .ofNat 0, .ofNat 29), (32, 1, .ofNat 0, .ofNat 40)], [10], (some (0, .ofNat 21, .ofNat 21)), 3, false)
theorem s_xu_22 (M : Nat → Nat → Int) (hm : sx_mok cl_ly M) (hJ : JJ M) (hg : ct_g k_xu_22.2.1 M) : ∃ m ∈ [k_xu_22_0, k_xu_22_1, k_xu_22_2, k_xu_22_3], ct_g m.2.1 M := by
  have hv : M 32 1 = 22 := by
    have h := hg (32, 1, .ofNat 22, .ofNat 22) (List.mem_cons_of_mem _ List.mem_cons_self)
    exact Int.le_antisymm h.2 h.1
  have hk := jr_kn hm
  have hu := jr_un hm
  have hd := hJ.2.2.1
  have he := hJ.2.2.2
  have h8 : jp (M 33 84) (M 33 85) (M 33 86) (M 33 87) := hJ.1 21 (by decide)
  obtain ⟨⟨b1, b2, b3, b4⟩, h8⟩ := h8
  rcases h8 with h8 | h8 | h8 | h8
  · exact ⟨k_xu_22_0, List.mem_cons_self, (jh (hg (10, 210, .ofNat 0, .ofNat 29) List.mem_cons_self) (jc (by show (22 : Int) ≤ M 32 1; omega) (by show M 32 1 ≤ (22 : Int); omega) (jc (by show (22 : Int) ≤ M 32 2; omega) (by show M 32 2 ≤ (40 : Int); omega) (jc (by show (0 : Int) ≤ M 33 84; omega) (by show M 33 84 ≤ (4 : Int); omega) (jc (by show (0 : Int) ≤ M 33 85; omega) (by show M 33 85 ≤ (5 : Int); omega) (jc (by show (-1 : Int) ≤ M 33 86; omega) (by show M 33 86 ≤ (143 : Int); omega) jn))))))⟩
  · exact ⟨k_xu_22_1, (List.mem_cons_of_mem _ List.mem_cons_self), (jh (hg (10, 210, .ofNat 0, .ofNat 29) List.mem_cons_self) (jc (by show (22 : Int) ≤ M 32 1; omega) (by show M 32 1 ≤ (22 : Int); omega) (jc (by show (22 : Int) ≤ M 32 2; omega) (by show M 32 2 ≤ (40 : Int); omega) (jc (by show (5 : Int) ≤ M 33 84; omega) (by show M 33 84 ≤ (5 : Int); omega) (jc (by show (0 : Int) ≤ M 33 85; omega) (by show M 33 85 ≤ (29 : Int); omega) (jc (by show (-1 : Int) ≤ M 33 86; omega) (by show M 33 86 ≤ (143 : Int); omega) jn))))))⟩
  · exact ⟨k_xu_22_2, (List.mem_cons_of_mem _ (List.mem_cons_of_mem _ List.mem_cons_self)), (jh (hg (10, 210, .ofNat 0, .ofNat 29) List.mem_cons_self) (jc (by show (22 : Int) ≤ M 32 1; omega) (by show M 32 1 ≤ (22 : Int); omega) (jc (by show (22 : Int) ≤ M 32 2; omega) (by show M 32 2 ≤ (40 : Int); omega) (jc (by show (6 : Int) ≤ M 33 84; omega) (by show M 33 84 ≤ (6 : Int); omega) (jc (by show (0 : Int) ≤ M 33 85; omega) (by show M 33 85 ≤ (11 : Int); omega) (jc (by show (-1 : Int) ≤ M 33 86; omega) (by show M 33 86 ≤ (143 : Int); omega) jn))))))⟩
  · exact ⟨k_xu_22_3, (List.mem_cons_of_mem _ (List.mem_cons_of_mem _ (List.mem_cons_of_mem _ List.mem_cons_self))), (jh (hg (10, 210, .ofNat 0, .ofNat 29) List.mem_cons_self) (jc (by show (22 : Int) ≤ M 32 1; omega) (by show M 32 1 ≤ (22 : Int); omega) (jc (by show (22 : Int) ≤ M 32 2; omega) (by show M 32 2 ≤ (40 : Int); omega) (jc (by show (7 : Int) ≤ M 33 84; omega) (by show M 33 84 ≤ (7 : Int); omega) (jc (by show (0 : Int) ≤ M 33 85; omega) (by show M 33 85 ≤ (0 : Int); omega) (jc (by show (0 : Int) ≤ M 33 86; omega) (by show M 33 86 ≤ (29 : Int); omega) jn))))))⟩
theorem c_xu_22 (hL : L < 2 ^ 31) : ci L xs 121 k_xu_22 :=
  ci_j_ok (ms := [k_xu_22_0, k_xu_22_1, k_xu_22_2, k_xu_22_3]) (jl_cons (c_xu_22_0 hL) (jl_cons (c_xu_22_1 hL) (jl_cons (c_xu_22_2 hL) (jl_cons (c_xu_22_3 hL) jl_nil)))) s_xu_22 (by decide +kernel)
def k_xu_23_0 : ct_C := ([(2, .ofNat 8, .ofNat 8)], [(10, 210, .ofNat 0, .ofNat 29), (32, 1, .ofNat 23, .ofNat 23), (32, 2, .ofNat 23, .ofNat 40), (33, 88, .ofNat 0, .ofNat 4), (33, 89, .ofNat 0, .ofNat 5), (33, 90, .negSucc 0, .ofNat 143)], [(10, 210, .ofNat 0, .ofNat 29), (32, 1, .ofNat 22, .ofNat 22)], [10], (some (0, .ofNat 22, .ofNat 22)), 3, false)
theorem c_xu_23_0 (hL : L < 2 ^ 31) : ci L xs 121 k_xu_23_0 :=
  mi_ok (fc := 9000) (f := 9000) (cuts := []) (xk := jx) cl_lok cl_hrf (cl_hro L xs) hL jx_ok (by decide +kernel)
def k_xu_23_1 : ct_C := ([(2, .ofNat 8, .ofNat 8)], [(10, 210, .ofNat 0, .ofNat 29), (32, 1, .ofNat 23, .ofNat 23), (32, 2, .ofNat 23, .ofNat 40), (33, 88, .ofNat 5, .ofNat 5), (33, 89, .ofNat 0, .ofNat 29), (33, 90, .negSucc 0, .ofNat 143)], [(10, 210, .ofNat 0, .ofNat 29), (32, 1, .ofNat 22, .ofNat 22)], [10], (some (0, .ofNat 22, .ofNat 22)), 3, false)
theorem c_xu_23_1 (hL : L < 2 ^ 31) : ci L xs 121 k_xu_23_1 :=
  mi_ok (fc := 9000) (f := 9000) (cuts := []) (xk := jx) cl_lok cl_hrf (cl_hro L xs) hL jx_ok (by decide +kernel)
def k_xu_23_2 : ct_C := ([(2, .ofNat 8, .ofNat 8)], [(10, 210, .ofNat 0, .ofNat 29), (32, 1, .ofNat 23, .ofNat 23), (32, 2, .ofNat 23, .ofNat 40), (33, 88, .ofNat 6, .ofNat 6), (33, 89, .ofNat 0, .ofNat 11), (33, 90, .negSucc 0, .ofNat 143)], [(10, 210, .ofNat 0, .ofNat 29), (32, 1, .ofNat 22, .ofNat 22)], [10], (some (0, .ofNat 22, .ofNat 22)), 3, false)
theorem c_xu_23_2 (hL : L < 2 ^ 31) : ci L xs 121 k_xu_23_2 :=
  mi_ok (fc := 9000) (f := 9000) (cuts := []) (xk := jx) cl_lok cl_hrf (cl_hro L xs) hL jx_ok (by decide +kernel)
def k_xu_23_3 : ct_C := ([(2, .ofNat 8, .ofNat 8)], [(10, 210, .ofNat 0, .ofNat 29), (32, 1, .ofNat 23, .ofNat 23), (32, 2, .ofNat 23, .ofNat 40), (33, 88, .ofNat 7, .ofNat 7), (33, 89, .ofNat 0, .ofNat 0), (33, 90, .ofNat 0, .ofNat 29)], [(10, 210, .ofNat 0, .ofNat 29), (32, 1, .ofNat 22, .ofNat 22)], [10], (some (0, .ofNat 22, .ofNat 22)), 3, false)
theorem c_xu_23_3 (hL : L < 2 ^ 31) : ci L xs 121 k_xu_23_3 :=
  mi_ok (fc := 9000) (f := 9000) (cuts := []) (xk := jx) cl_lok cl_hrf (cl_hro L xs) hL jx_ok (by decide +kernel)
def k_xu_23 : ct_C := ([(2, .ofNat 8, .ofNat 8)], [(10, 210, .ofNat 0, .ofNat 29), (32, 1, .ofNat 23, .ofNat 23)], [(10, 210, .ofNat 0, .ofNat 29), (32, 1, .ofNat 0, .ofNat 40)], [10], (some (0, .ofNat 22, .ofNat 22)), 3, false)
theorem s_xu_23 (M : Nat → Nat → Int) (hm : sx_mok cl_ly M) (hJ : JJ M) (hg : ct_g k_xu_23.2.1 M) : ∃ m ∈ [k_xu_23_0, k_xu_23_1, k_xu_23_2, k_xu_23_3], ct_g m.2.1 M := by
  have hv : M 32 1 = 23 := by
    have h := hg (32, 1, .ofNat 23, .ofNat 23) (List.mem_cons_of_mem _ List.mem_cons_self)
    exact Int.le_antisymm h.2 h.1
  have hk := jr_kn hm
  have hu := jr_un hm
  have hd := hJ.2.2.1
  have he := hJ.2.2.2
  have h8 : jp (M 33 88) (M 33 89) (M 33 90) (M 33 91) := hJ.1 22 (by decide)
  obtain ⟨⟨b1, b2, b3, b4⟩, h8⟩ := h8
  rcases h8 with h8 | h8 | h8 | h8
  · exact ⟨k_xu_23_0, List.mem_cons_self, (jh (hg (10, 210, .ofNat 0, .ofNat 29) List.mem_cons_self) (jc (by show (23 : Int) ≤ M 32 1; omega) (by show M 32 1 ≤ (23 : Int); omega) (jc (by show (23 : Int) ≤ M 32 2; omega) (by show M 32 2 ≤ (40 : Int); omega) (jc (by show (0 : Int) ≤ M 33 88; omega) (by show M 33 88 ≤ (4 : Int); omega) (jc (by show (0 : Int) ≤ M 33 89; omega) (by show M 33 89 ≤ (5 : Int); omega) (jc (by show (-1 : Int) ≤ M 33 90; omega) (by show M 33 90 ≤ (143 : Int); omega) jn))))))⟩
  · exact ⟨k_xu_23_1, (List.mem_cons_of_mem _ List.mem_cons_self), (jh (hg (10, 210, .ofNat 0, .ofNat 29) List.mem_cons_self) (jc (by show (23 : Int) ≤ M 32 1; omega) (by show M 32 1 ≤ (23 : Int); omega) (jc (by show (23 : Int) ≤ M 32 2; omega) (by show M 32 2 ≤ (40 : Int); omega) (jc (by show (5 : Int) ≤ M 33 88; omega) (by show M 33 88 ≤ (5 : Int); omega) (jc (by show (0 : Int) ≤ M 33 89; omega) (by show M 33 89 ≤ (29 : Int); omega) (jc (by show (-1 : Int) ≤ M 33 90; omega) (by show M 33 90 ≤ (143 : Int); omega) jn))))))⟩
  · exact ⟨k_xu_23_2, (List.mem_cons_of_mem _ (List.mem_cons_of_mem _ List.mem_cons_self)), (jh (hg (10, 210, .ofNat 0, .ofNat 29) List.mem_cons_self) (jc (by show (23 : Int) ≤ M 32 1; omega) (by show M 32 1 ≤ (23 : Int); omega) (jc (by show (23 : Int) ≤ M 32 2; omega) (by show M 32 2 ≤ (40 : Int); omega) (jc (by show (6 : Int) ≤ M 33 88; omega) (by show M 33 88 ≤ (6 : Int); omega) (jc (by show (0 : Int) ≤ M 33 89; omega) (by show M 33 89 ≤ (11 : Int); omega) (jc (by show (-1 : Int) ≤ M 33 90; omega) (by show M 33 90 ≤ (143 : Int); omega) jn))))))⟩
  · exact ⟨k_xu_23_3, (List.mem_cons_of_mem _ (List.mem_cons_of_mem _ (List.mem_cons_of_mem _ List.mem_cons_self))), (jh (hg (10, 210, .ofNat 0, .ofNat 29) List.mem_cons_self) (jc (by show (23 : Int) ≤ M 32 1; omega) (by show M 32 1 ≤ (23 : Int); omega) (jc (by show (23 : Int) ≤ M 32 2; omega) (by show M 32 2 ≤ (40 : Int); omega) (jc (by show (7 : Int) ≤ M 33 88; omega) (by show M 33 88 ≤ (7 : Int); omega) (jc (by show (0 : Int) ≤ M 33 89; omega) (by show M 33 89 ≤ (0 : Int); omega) (jc (by show (0 : Int) ≤ M 33 90; omega) (by show M 33 90 ≤ (29 : Int); omega) jn))))))⟩
theorem c_xu_23 (hL : L < 2 ^ 31) : ci L xs 121 k_xu_23 :=
  ci_j_ok (ms := [k_xu_23_0, k_xu_23_1, k_xu_23_2, k_xu_23_3]) (jl_cons (c_xu_23_0 hL) (jl_cons (c_xu_23_1 hL) (jl_cons (c_xu_23_2 hL) (jl_cons (c_xu_23_3 hL) jl_nil)))) s_xu_23 (by decide +kernel)
def k_xu_24_0 : ct_C := ([(2, .ofNat 8, .ofNat 8)], [(10, 210, .ofNat 0, .ofNat 29), (32, 1, .ofNat 24, .ofNat 24), (32, 2, .ofNat 24, .ofNat 40), (33, 92, .ofNat 0, .ofNat 4), (33, 93, .ofNat 0, .ofNat 5), (33, 94, .negSucc 0, .ofNat 143)], [(10, 210, .ofNat 0, .ofNat 29), (32, 1, .ofNat 23, .ofNat 23)], [10], (some (0, .ofNat 23, .ofNat 23)), 3, false)
theorem c_xu_24_0 (hL : L < 2 ^ 31) : ci L xs 121 k_xu_24_0 :=
  mi_ok (fc := 9000) (f := 9000) (cuts := []) (xk := jx) cl_lok cl_hrf (cl_hro L xs) hL jx_ok (by decide +kernel)
def k_xu_24_1 : ct_C := ([(2, .ofNat 8, .ofNat 8)], [(10, 210, .ofNat 0, .ofNat 29), (32, 1, .ofNat 24, .ofNat 24), (32, 2, .ofNat 24, .ofNat 40), (33, 92, .ofNat 5, .ofNat 5), (33, 93, .ofNat 0, .ofNat 29), (33, 94, .negSucc 0, .ofNat 143)], [(10, 210, .ofNat 0, .ofNat 29), (32, 1, .ofNat 23, .ofNat 23)], [10], (some (0, .ofNat 23, .ofNat 23)), 3, false)
theorem c_xu_24_1 (hL : L < 2 ^ 31) : ci L xs 121 k_xu_24_1 :=
  mi_ok (fc := 9000) (f := 9000) (cuts := []) (xk := jx) cl_lok cl_hrf (cl_hro L xs) hL jx_ok (by decide +kernel)
def k_xu_24_2 : ct_C := ([(2, .ofNat 8, .ofNat 8)], [(10, 210, .ofNat 0, .ofNat 29), (32, 1, .ofNat 24, .ofNat 24), (32, 2, .ofNat 24, .ofNat 40), (33, 92, .ofNat 6, .ofNat 6), (33, 93, .ofNat 0, .ofNat 11), (33, 94, .negSucc 0, .ofNat 143)], [(10, 210, .ofNat 0, .ofNat 29), (32, 1, .ofNat 23, .ofNat 23)], [10], (some (0, .ofNat 23, .ofNat 23)), 3, false)
theorem c_xu_24_2 (hL : L < 2 ^ 31) : ci L xs 121 k_xu_24_2 :=
  mi_ok (fc := 9000) (f := 9000) (cuts := []) (xk := jx) cl_lok cl_hrf (cl_hro L xs) hL jx_ok (by decide +kernel)
def k_xu_24_3 : ct_C := ([(2, .ofNat 8, .ofNat 8)], [(10, 210, .ofNat 0, .ofNat 29), (32, 1, .ofNat 24, .ofNat 24), (32, 2, .ofNat 24, .ofNat 40), (33, 92, .ofNat 7, .ofNat 7), (33, 93, .ofNat 0, .ofNat 0), (33, 94, .ofNat 0, .ofNat 29)], [(10, 210, .ofNat 0, .ofNat 29), (32, 1, .ofNat 23, .ofNat 23)], [10], (some (0, .ofNat 23, .ofNat 23)), 3, false)
theorem c_xu_24_3 (hL : L < 2 ^ 31) : ci L xs 121 k_xu_24_3 :=
  mi_ok (fc := 9000) (f := 9000) (cuts := []) (xk := jx) cl_lok cl_hrf (cl_hro L xs) hL jx_ok (by decide +kernel)
end
