/-! mend, undo, redo, 5. -/
section
variable {L : Nat} {xs : Nat → Int32}
def k_xr_16_1 : ct_C := ([(2, .ofNat 8, .ofNat 8)], [(10, 210, .ofNat 0, .ofNat 29), (32, 1, .ofNat 16, .ofNat 16), (32, 2, .ofNat 17, .ofNat 40), (33, 64, .ofNat 5, .ofNat 5), (33, 65, .ofNat 0, .ofNat 29), (33, 67, .negSucc 0, .ofNat 143)], [(10, 210, .ofNat 0, .ofNat 29), (32, 1, .ofNat 17, .ofNat 17)], [10], (some (0, .ofNat 0, .ofNat 23)), 3, false)
theorem c_xr_16_1 (hL : L < 2 ^ 31) : ci L xs 123 k_xr_16_1 :=
  mi_ok (fc := 9000) (f := 9000) (cuts := []) (xk := jx) cl_lok cl_hrf (cl_hro L xs) hL jx_ok (by decide +kernel)
def k_xr_16_2 : ct_C := ([(2, .ofNat 8, .ofNat 8)], [(10, 210, .ofNat 0, .ofNat 29), (32, 1, .ofNat 16, .ofNat 16), (32, 2, .ofNat 17, .ofNat 40), (33, 64, .ofNat 6, .ofNat 6), (33, 65, .ofNat 0, .ofNat 11), (33, 67, .negSucc 0, .ofNat 143)], [(10, 210, .ofNat 0, .ofNat 29), (32, 1, .ofNat 17, .ofNat 17)], [10], (some (0, .ofNat 0, .ofNat 23)), 3, false)
theorem c_xr_16_2 (hL : L < 2 ^ 31) : ci L xs 123 k_xr_16_2 :=
  mi_ok (fc := 9000) (f := 9000) (cuts := []) (xk := jx) cl_lok cl_hrf (cl_hro L xs) hL jx_ok (by decide +kernel)
def k_xr_16_3 : ct_C := ([(2, .ofNat 8, .ofNat 8)], [(10, 210, .ofNat 0, .ofNat 29), (32, 1, .ofNat 16, .ofNat 16), (32, 2, .ofNat 17, .ofNat 40), (33, 64, .ofNat 7, .ofNat 7), (33, 65, .ofNat 0, .ofNat 0), (33, 67, .ofNat 0, .ofNat 29)], [(10, 210, .ofNat 0, .ofNat 29), (32, 1, .ofNat 17, .ofNat 17)], [10], (some (0, .ofNat 0, .ofNat 23)), 3, false)
theorem c_xr_16_3 (hL : L < 2 ^ 31) : ci L xs 123 k_xr_16_3 :=
  mi_ok (fc := 9000) (f := 9000) (cuts := []) (xk := jx) cl_lok cl_hrf (cl_hro L xs) hL jx_ok (by decide +kernel)
def k_xr_16 : ct_C := ([(2, .ofNat 8, .ofNat 8)], [(10, 210, .ofNat 0, .ofNat 29), (32, 1, .ofNat 16, .ofNat 16)], [(10, 210, .ofNat 0, .ofNat 29), (32, 1, .ofNat 0, .ofNat 40)], [10], (some (0, .negSucc 4, .ofNat 23)), 3, false)
theorem s_xr_16 (M : Nat → Nat → Int) (hm : sx_mok cl_ly M) (hJ : JJ M) (hg : ct_g k_xr_16.2.1 M) : ∃ m ∈ [k_xr_16_e, k_xr_16_0, k_xr_16_1, k_xr_16_2, k_xr_16_3], ct_g m.2.1 M := by
  have hv : M 32 1 = 16 := by
    have h := hg (32, 1, .ofNat 16, .ofNat 16) (List.mem_cons_of_mem _ List.mem_cons_self)
    exact Int.le_antisymm h.2 h.1
  have hk := jr_kn hm
  have hu := jr_un hm
  have hd := hJ.2.2.1
  have he := hJ.2.2.2
  by_cases h0 : M 32 2 = 16
  · exact ⟨k_xr_16_e, List.mem_cons_self, (jc (by show (16 : Int) ≤ M 32 1; omega) (by show M 32 1 ≤ (16 : Int); omega) (jc (by show (16 : Int) ≤ M 32 2; omega) (by show M 32 2 ≤ (16 : Int); omega) jn))⟩
  · have h8 : jp (M 33 64) (M 33 65) (M 33 66) (M 33 67) := hJ.1 16 (by decide)
    obtain ⟨⟨b1, b2, b3, b4⟩, h8⟩ := h8
    rcases h8 with h8 | h8 | h8 | h8
    · exact ⟨k_xr_16_0, (List.mem_cons_of_mem _ List.mem_cons_self), (jh (hg (10, 210, .ofNat 0, .ofNat 29) List.mem_cons_self) (jc (by show (16 : Int) ≤ M 32 1; omega) (by show M 32 1 ≤ (16 : Int); omega) (jc (by show (17 : Int) ≤ M 32 2; omega) (by show M 32 2 ≤ (40 : Int); omega) (jc (by show (0 : Int) ≤ M 33 64; omega) (by show M 33 64 ≤ (4 : Int); omega) (jc (by show (0 : Int) ≤ M 33 65; omega) (by show M 33 65 ≤ (5 : Int); omega) (jc (by show (-1 : Int) ≤ M 33 67; omega) (by show M 33 67 ≤ (143 : Int); omega) jn))))))⟩
    · exact ⟨k_xr_16_1, (List.mem_cons_of_mem _ (List.mem_cons_of_mem _ List.mem_cons_self)), (jh (hg (10, 210, .ofNat 0, .ofNat 29) List.mem_cons_self) (jc (by show (16 : Int) ≤ M 32 1; omega) (by show M 32 1 ≤ (16 : Int); omega) (jc (by show (17 : Int) ≤ M 32 2; omega) (by show M 32 2 ≤ (40 : Int); omega) (jc (by show (5 : Int) ≤ M 33 64; omega) (by show M 33 64 ≤ (5 : Int); omega) (jc (by show (0 : Int) ≤ M 33 65; omega) (by show M 33 65 ≤ (29 : Int); omega) (jc (by show (-1 : Int) ≤ M 33 67; omega) (by show M 33 67 ≤ (143 : Int); omega) jn))))))⟩
    · exact ⟨k_xr_16_2, (List.mem_cons_of_mem _ (List.mem_cons_of_mem _ (List.mem_cons_of_mem _ List.mem_cons_self))), (jh (hg (10, 210, .ofNat 0, .ofNat 29) List.mem_cons_self) (jc (by show (16 : Int) ≤ M 32 1; omega) (by show M 32 1 ≤ (16 : Int); omega) (jc (by show (17 : Int) ≤ M 32 2; omega) (by show M 32 2 ≤ (40 : Int); omega) (jc (by show (6 : Int) ≤ M 33 64; omega) (by show M 33 64 ≤ (6 : Int); omega) (jc (by show (0 : Int) ≤ M 33 65; omega) (by show M 33 65 ≤ (11 : Int); omega) (jc (by show (-1 : Int) ≤ M 33 67; omega) (by show M 33 67 ≤ (143 : Int); omega) jn))))))⟩
    · exact ⟨k_xr_16_3, (List.mem_cons_of_mem _ (List.mem_cons_of_mem _ (List.mem_cons_of_mem _ (List.mem_cons_of_mem _ List.mem_cons_self)))), (jh (hg (10, 210, .ofNat 0, .ofNat 29) List.mem_cons_self) (jc (by show (16 : Int) ≤ M 32 1; omega) (by show M 32 1 ≤ (16 : Int); omega) (jc (by show (17 : Int) ≤ M 32 2; omega) (by show M 32 2 ≤ (40 : Int); omega) (jc (by show (7 : Int) ≤ M 33 64; omega) (by show M 33 64 ≤ (7 : Int); omega) (jc (by show (0 : Int) ≤ M 33 65; omega) (by show M 33 65 ≤ (0 : Int); omega) (jc (by show (0 : Int) ≤ M 33 67; omega) (by show M 33 67 ≤ (29 : Int); omega) jn))))))⟩
theorem c_xr_16 (hL : L < 2 ^ 31) : ci L xs 123 k_xr_16 :=
  ci_j_ok (ms := [k_xr_16_e, k_xr_16_0, k_xr_16_1, k_xr_16_2, k_xr_16_3]) (jl_cons (c_xr_16_e hL) (jl_cons (c_xr_16_0 hL) (jl_cons (c_xr_16_1 hL) (jl_cons (c_xr_16_2 hL) (jl_cons (c_xr_16_3 hL) jl_nil))))) s_xr_16 (by decide +kernel)
def k_xr_17_e : ct_C := ([(2, .ofNat 8, .ofNat 8)], [(32, 1, .ofNat 17, .ofNat 17), (32, 2, .ofNat 17, .ofNat 17)], [], [], (some (0, .negSucc 4, .negSucc 4)), 1, false)
theorem c_xr_17_e (hL : L < 2 ^ 31) : ci L xs 123 k_xr_17_e :=
  mi_ok (fc := 9000) (f := 9000) (cuts := []) (xk := jx) cl_lok cl_hrf (cl_hro L xs) hL jx_ok (by decide +kernel)
def k_xr_17_0 : ct_C := ([(2, .ofNat 8, .ofNat 8)], [(10, 210, .ofNat 0, .ofNat 29), (32, 1, .ofNat 17, .ofNat 17), (32, 2, .ofNat 18, .ofNat 40), (33, 68, .ofNat 0, .ofNat 4), (33, 69, .ofNat 0, .ofNat 5), (33, 71, .negSucc 0, .ofNat 143)], [(10, 210, .ofNat 0, .ofNat 29), (32, 1, .ofNat 18, .ofNat 18)], [10], (some (0, .ofNat 0, .ofNat 22)), 3, false)
theorem c_xr_17_0 (hL : L < 2 ^ 31) : ci L xs 123 k_xr_17_0 :=
  mi_ok (fc := 9000) (f := 9000) (cuts := []) (xk := jx) cl_lok cl_hrf (cl_hro L xs) hL jx_ok (by decide +kernel)
def k_xr_17_1 : ct_C := ([(2, .ofNat 8, .ofNat 8)], [(10, 210, .ofNat 0, .ofNat 29), (32, 1, .ofNat 17, .ofNat 17), (32, 2, .ofNat 18, .ofNat 40), (33, 68, .ofNat 5, .ofNat 5), (33, 69, .ofNat 0, .ofNat 29), (33, 71, .negSucc 0, .ofNat 143)], [(10, 210, .ofNat 0, .ofNat 29), (32, 1, .ofNat 18, .ofNat 18)], [10], (some (0, .ofNat 0, .ofNat 22)), 3, false)
theorem c_xr_17_1 (hL : L < 2 ^ 31) : ci L xs 123 k_xr_17_1 :=
  mi_ok (fc := 9000) (f := 9000) (cuts := []) (xk := jx) cl_lok cl_hrf (cl_hro L xs) hL jx_ok (by decide +kernel)
def k_xr_17_2 : ct_C := ([(2, .ofNat 8, .ofNat 8)], [(10, 210, .ofNat 0, .ofNat 29), (32, 1, .ofNat 17, .ofNat 17), (32, 2, .ofNat 18, .ofNat 40), (33, 68, .ofNat 6, .ofNat 6), (33, 69, .ofNat 0, .ofNat 11), (33, 71, .negSucc 0, .ofNat 143)], [(10, 210, .ofNat 0, .ofNat 29), (32, 1, .ofNat 18, .ofNat 18)], [10], (some (0, .ofNat 0, .ofNat 22)), 3, false)
theorem c_xr_17_2 (hL : L < 2 ^ 31) : ci L xs 123 k_xr_17_2 :=
  mi_ok (fc := 9000) (f := 9000) (cuts := []) (xk := jx) cl_lok cl_hrf (cl_hro L xs) hL jx_ok (by decide +kernel)
def k_xr_17_3 : ct_C := ([(2, .ofNat 8, .ofNat 8)], [(10, 210, .ofNat 0, .ofNat 29), (32, 1, .ofNat 17, .ofNat 17), (32, 2, .ofNat 18, .ofNat 40), (33, 68, .ofNat 7, .ofNat 7), (33, 69, .ofNat 0, .ofNat 0), (33, 71, .ofNat 0, .ofNat 29)], [(10, 210, .ofNat 0, .ofNat 29), (32, 1, .ofNat 18, .ofNat 18)], [10], (some (0, .ofNat 0, .ofNat 22)), 3, false)
theorem c_xr_17_3 (hL : L < 2 ^ 31) : ci L xs 123 k_xr_17_3 :=
  mi_ok (fc := 9000) (f := 9000) (cuts := []) (xk := jx) cl_lok cl_hrf (cl_hro L xs) hL jx_ok (by decide +kernel)
def k_xr_17 : ct_C := ([(2, .ofNat 8, .ofNat 8)], [(10, 210, .ofNat 0, .ofNat 29), (32, 1, .ofNat 17, .ofNat 17)], [(10, 210, .ofNat 0, .ofNat 29), (32, 1, .ofNat 0, .ofNat 40)], [10], (some (0, .negSucc 4, .ofNat 22)), 3, false)
theorem s_xr_17 (M : Nat → Nat → Int) (hm : sx_mok cl_ly M) (hJ : JJ M) (hg : ct_g k_xr_17.2.1 M) : ∃ m ∈ [k_xr_17_e, k_xr_17_0, k_xr_17_1, k_xr_17_2, k_xr_17_3], ct_g m.2.1 M := by
  have hv : M 32 1 = 17 := by
    have h := hg (32, 1, .ofNat 17, .ofNat 17) (List.mem_cons_of_mem _ List.mem_cons_self)
    exact Int.le_antisymm h.2 h.1
  have hk := jr_kn hm
  have hu := jr_un hm
  have hd := hJ.2.2.1
  have he := hJ.2.2.2
  by_cases h0 : M 32 2 = 17
  · exact ⟨k_xr_17_e, List.mem_cons_self, (jc (by show (17 : Int) ≤ M 32 1; omega) (by show M 32 1 ≤ (17 : Int); omega) (jc (by show (17 : Int) ≤ M 32 2; omega) (by show M 32 2 ≤ (17 : Int); omega) jn))⟩
  · have h8 : jp (M 33 68) (M 33 69) (M 33 70) (M 33 71) := hJ.1 17 (by decide)
    obtain ⟨⟨b1, b2, b3, b4⟩, h8⟩ := h8
    rcases h8 with h8 | h8 | h8 | h8
    · exact ⟨k_xr_17_0, (List.mem_cons_of_mem _ List.mem_cons_self), (jh (hg (10, 210, .ofNat 0, .ofNat 29) List.mem_cons_self) (jc (by show (17 : Int) ≤ M 32 1; omega) (by show M 32 1 ≤ (17 : Int); omega) (jc (by show (18 : Int) ≤ M 32 2; omega) (by show M 32 2 ≤ (40 : Int); omega) (jc (by show (0 : Int) ≤ M 33 68; omega) (by show M 33 68 ≤ (4 : Int); omega) (jc (by show (0 : Int) ≤ M 33 69; omega) (by show M 33 69 ≤ (5 : Int); omega) (jc (by show (-1 : Int) ≤ M 33 71; omega) (by show M 33 71 ≤ (143 : Int); omega) jn))))))⟩
    · exact ⟨k_xr_17_1, (List.mem_cons_of_mem _ (List.mem_cons_of_mem _ List.mem_cons_self)), (jh (hg (10, 210, .ofNat 0, .ofNat 29) List.mem_cons_self) (jc (by show (17 : Int) ≤ M 32 1; omega) (by show M 32 1 ≤ (17 : Int); omega) (jc (by show (18 : Int) ≤ M 32 2; omega) (by show M 32 2 ≤ (40 : Int); omega) (jc (by show (5 : Int) ≤ M 33 68; omega) (by show M 33 68 ≤ (5 : Int); omega) (jc (by show (0 : Int) ≤ M 33 69; omega) (by show M 33 69 ≤ (29 : Int); omega) (jc (by show (-1 : Int) ≤ M 33 71; omega) (by show M 33 71 ≤ (143 : Int); omega) jn))))))⟩
    · exact ⟨k_xr_17_2, (List.mem_cons_of_mem _ (List.mem_cons_of_mem _ (List.mem_cons_of_mem _ List.mem_cons_self))), (jh (hg (10, 210, .ofNat 0, .ofNat 29) List.mem_cons_self) (jc (by show (17 : Int) ≤ M 32 1; omega) (by show M 32 1 ≤ (17 : Int); omega) (jc (by show (18 : Int) ≤ M 32 2; omega) (by show M 32 2 ≤ (40 : Int); omega) (jc (by show (6 : Int) ≤ M 33 68; omega) (by show M 33 68 ≤ (6 : Int); omega) (jc (by show (0 : Int) ≤ M 33 69; omega) (by show M 33 69 ≤ (11 : Int); omega) (jc (by show (-1 : Int) ≤ M 33 71; omega) (by show M 33 71 ≤ (143 : Int); omega) jn))))))⟩
    · exact ⟨k_xr_17_3, (List.mem_cons_of_mem _ (List.mem_cons_of_mem _ (List.mem_cons_of_mem _ (List.mem_cons_of_mem _ List.mem_cons_self)))), (jh (hg (10, 210, .ofNat 0, .ofNat 29) List.mem_cons_self) (jc (by show (17 : Int) ≤ M 32 1; omega) (by show M 32 1 ≤ (17 : Int); omega) (jc (by show (18 : Int) ≤ M 32 2; omega) (by show M 32 2 ≤ (40 : Int); omega) (jc (by show (7 : Int) ≤ M 33 68; omega) (by show M 33 68 ≤ (7 : Int); omega) (jc (by show (0 : Int) ≤ M 33 69; omega) (by show M 33 69 ≤ (0 : Int); omega) (jc (by show (0 : Int) ≤ M 33 71; omega) (by show M 33 71 ≤ (29 : Int); omega) jn))))))⟩
theorem c_xr_17 (hL : L < 2 ^ 31) : ci L xs 123 k_xr_17 :=
  ci_j_ok (ms := [k_xr_17_e, k_xr_17_0, k_xr_17_1, k_xr_17_2, k_xr_17_3]) (jl_cons (c_xr_17_e hL) (jl_cons (c_xr_17_0 hL) (jl_cons (c_xr_17_1 hL) (jl_cons (c_xr_17_2 hL) (jl_cons (c_xr_17_3 hL) jl_nil))))) s_xr_17 (by decide +kernel)
def k_xr_18_e : ct_C := ([(2, .ofNat 8, .ofNat 8)], [(32, 1, .ofNat 18, .ofNat 18), (32, 2, .ofNat 18, .ofNat 18)], [], [], (some (0, .negSucc 4, .negSucc 4)), 1, false)
theorem c_xr_18_e (hL : L < 2 ^ 31) : ci L xs 123 k_xr_18_e :=
  mi_ok (fc := 9000) (f := 9000) (cuts := []) (xk := jx) cl_lok cl_hrf (cl_hro L xs) hL jx_ok (by decide +kernel)
def k_xr_18_0 : ct_C := ([(2, .ofNat 8, .ofNat 8)], [(10, 210, .ofNat 0, .ofNat 29), (32, 1, .ofNat 18, .ofNat 18), (32, 2, .ofNat 19, .ofNat 40), (33, 72, .ofNat 0, .ofNat 4), (33, 73, .ofNat 0, .ofNat 5), (33, 75, .negSucc 0, .ofNat 143)], [(10, 210, .ofNat 0, .ofNat 29), (32, 1, .ofNat 19, .ofNat 19)], [10], (some (0, .ofNat 0, .ofNat 21)), 3, false)
theorem c_xr_18_0 (hL : L < 2 ^ 31) : ci L xs 123 k_xr_18_0 :=
  mi_ok (fc := 9000) (f := 9000) (cuts := []) (xk := jx) cl_lok cl_hrf (cl_hro L xs) hL jx_ok (by decide +kernel)
def k_xr_18_1 : ct_C := ([(2, .ofNat 8, .ofNat 8)], [(10, 210, .ofNat 0, .ofNat 29), (32, 1, .ofNat 18, .ofNat 18), (32, 2, .ofNat 19, .ofNat 40), (33, 72, .ofNat 5, .ofNat 5), (33, 73, .ofNat 0, .ofNat 29), (33, 75, .negSucc 0, .ofNat 143)], [(10, 210, .ofNat 0, .ofNat 29), (32, 1, .ofNat 19, .ofNat 19)], [10], (some (0, .ofNat 0, .ofNat 21)), 3, false)
theorem c_xr_18_1 (hL : L < 2 ^ 31) : ci L xs 123 k_xr_18_1 :=
  mi_ok (fc := 9000) (f := 9000) (cuts := []) (xk := jx) cl_lok cl_hrf (cl_hro L xs) hL jx_ok (by decide +kernel)
def k_xr_18_2 : ct_C := ([(2, .ofNat 8, .ofNat 8)], [(10, 210, .ofNat 0, .ofNat 29), (32, 1, .ofNat 18, .ofNat 18), (32, 2, .ofNat 19, .ofNat 40), (33, 72, .ofNat 6, .ofNat 6), (33, 73, .ofNat 0, .ofNat 11), (33, 75, .negSucc 0, .ofNat 143)], [(10, 210, .ofNat 0, .ofNat 29), (32, 1, .ofNat 19, .ofNat 19)], [10], (some (0, .ofNat 0, .ofNat 21)), 3, false)
theorem c_xr_18_2 (hL : L < 2 ^ 31) : ci L xs 123 k_xr_18_2 :=
  mi_ok (fc := 9000) (f := 9000) (cuts := []) (xk := jx) cl_lok cl_hrf (cl_hro L xs) hL jx_ok (by decide +kernel)
def k_xr_18_3 : ct_C := ([(2, .ofNat 8, .ofNat 8)], [(10, 210, .ofNat 0, .ofNat 29), (32, 1, .ofNat 18, .ofNat 18), (32, 2, .ofNat 19, .ofNat 40), (33, 72, .ofNat 7, .ofNat 7), (33, 73, .ofNat 0, .ofNat 0), (33, 75, .ofNat 0, .ofNat 29)], [(10, 210, .ofNat 0, .ofNat 29), (32, 1, .ofNat 19, .ofNat 19)], [10], (some (0, .ofNat 0, .ofNat 21)), 3, false)
theorem c_xr_18_3 (hL : L < 2 ^ 31) : ci L xs 123 k_xr_18_3 :=
  mi_ok (fc := 9000) (f := 9000) (cuts := []) (xk := jx) cl_lok cl_hrf (cl_hro L xs) hL jx_ok (by decide +kernel)
def k_xr_18 : ct_C := ([(2, .ofNat 8, .ofNat 8)], [(10, 210, .ofNat 0, .ofNat 29), (32, 1, .ofNat 18, .ofNat 18)], [(10, 210, .ofNat 0, .ofNat 29), (32, 1, .ofNat 0, .ofNat 40)], [10], (some (0, .negSucc 4, .ofNat 21)), 3, false)
theorem s_xr_18 (M : Nat → Nat → Int) (hm : sx_mok cl_ly M) (hJ : JJ M) (hg : ct_g k_xr_18.2.1 M) : ∃ m ∈ [k_xr_18_e, k_xr_18_0, k_xr_18_1, k_xr_18_2, k_xr_18_3], ct_g m.2.1 M := by
  have hv : M 32 1 = 18 := by
    have h := hg (32, 1, .ofNat 18, .ofNat 18) (List.mem_cons_of_mem _ List.mem_cons_self)
    exact Int.le_antisymm h.2 h.1
  have hk := jr_kn hm
  have hu := jr_un hm
  have hd := hJ.2.2.1
  have he := hJ.2.2.2
  by_cases h0 : M 32 2 = 18
  · exact ⟨k_xr_18_e, List.mem_cons_self, (jc (by show (18 : Int) ≤ M 32 1; omega) (by show M 32 1 ≤ (18 : Int); omega) (jc (by show (18 : Int) ≤ M 32 2; omega) (by show M 32 2 ≤ (18 : Int); omega) jn))⟩
  · have h8 : jp (M 33 72) (M 33 73) (M 33 74) (M 33 75) := hJ.1 18 (by decide)
    obtain ⟨⟨b1, b2, b3, b4⟩, h8⟩ := h8
    rcases h8 with h8 | h8 | h8 | h8
    · exact ⟨k_xr_18_0, (List.mem_cons_of_mem _ List.mem_cons_self), (jh (hg (10, 210, .ofNat 0, .ofNat 29) List.mem_cons_self) (jc (by show (18 : Int) ≤ M 32 1; omega) (by show M 32 1 ≤ (18 : Int); omega) (jc (by show (19 : Int) ≤ M 32 2; omega) (by show M 32 2 ≤ (40 : Int); omega) (jc (by show (0 : Int) ≤ M 33 72; omega) (by show M 33 72 ≤ (4 : Int); omega) (jc (by show (0 : Int) ≤ M 33 73; omega) (by show M 33 73 ≤ (5 : Int); omega) (jc (by show (-1 : Int) ≤ M 33 75; omega) (by show M 33 75 ≤ (143 : Int); omega) jn))))))⟩
    · exact ⟨k_xr_18_1, (List.mem_cons_of_mem _ (List.mem_cons_of_mem _ List.mem_cons_self)), (jh (hg (10, 210, .ofNat 0, .ofNat 29) List.mem_cons_self) (jc (by show (18 : Int) ≤ M 32 1; omega) (by show M 32 1 ≤ (18 : Int); omega) (jc (by show (19 : Int) ≤ M 32 2; omega) (by show M 32 2 ≤ (40 : Int); omega) (jc (by show (5 : Int) ≤ M 33 72; omega) (by show M 33 72 ≤ (5 : Int); omega) (jc (by show (0 : Int) ≤ M 33 73; omega) (by show M 33 73 ≤ (29 : Int); omega) (jc (by show (-1 : Int) ≤ M 33 75; omega) (by show M 33 75 ≤ (143 : Int); omega) jn))))))⟩
    · exact ⟨k_xr_18_2, (List.mem_cons_of_mem _ (List.mem_cons_of_mem _ (List.mem_cons_of_mem _ List.mem_cons_self))), (jh (hg (10, 210, .ofNat 0, .ofNat 29) List.mem_cons_self) (jc (by show (18 : Int) ≤ M 32 1; omega) (by show M 32 1 ≤ (18 : Int); omega) (jc (by show (19 : Int) ≤ M 32 2; omega) (by show M 32 2 ≤ (40 : Int); omega) (jc (by show (6 : Int) ≤ M 33 72; omega) (by show M 33 72 ≤ (6 : Int); omega) (jc (by show (0 : Int) ≤ M 33 73; omega) (by show M 33 73 ≤ (11 : Int); omega) (jc (by show (-1 : Int) ≤ M 33 75; omega) (by show M 33 75 ≤ (143 : Int); omega) jn))))))⟩
    · exact ⟨k_xr_18_3, (List.mem_cons_of_mem _ (List.mem_cons_of_mem _ (List.mem_cons_of_mem _ (List.mem_cons_of_mem _ List.mem_cons_self)))), (jh (hg (10, 210, .ofNat 0, .ofNat 29) List.mem_cons_self) (jc (by show (18 : Int) ≤ M 32 1; omega) (by show M 32 1 ≤ (18 : Int); omega) (jc (by show (19 : Int) ≤ M 32 2; omega) (by show M 32 2 ≤ (40 : Int); omega) (jc (by show (7 : Int) ≤ M 33 72; omega) (by show M 33 72 ≤ (7 : Int); omega) (jc (by show (0 : Int) ≤ M 33 73; omega) (by show M 33 73 ≤ (0 : Int); omega) (jc (by show (0 : Int) ≤ M 33 75; omega) (by show M 33 75 ≤ (29 : Int); omega) jn))))))⟩
theorem c_xr_18 (hL : L < 2 ^ 31) : ci L xs 123 k_xr_18 :=
  ci_j_ok (ms := [k_xr_18_e, k_xr_18_0, k_xr_18_1, k_xr_18_2, k_xr_18_3]) (jl_cons (c_xr_18_e hL) (jl_cons (c_xr_18_0 hL) (jl_cons (c_xr_18_1 hL) (jl_cons (c_xr_18_2 hL) (jl_cons (c_xr_18_3 hL) jl_nil))))) s_xr_18 (by decide +kernel)
def k_xr_19_e : ct_C := ([(2, .ofNat 8, .ofNat 8)], [(32, 1, .ofNat 19, .ofNat 19), (32, 2, .ofNat 19, .ofNat 19)], [], [], (some (0, .negSucc 4, .negSucc 4)), 1, false)
theorem c_xr_19_e (hL : L < 2 ^ 31) : ci L xs 123 k_xr_19_e :=
  mi_ok (fc := 9000) (f := 9000) (cuts := []) (xk := jx) cl_lok cl_hrf (cl_hro L xs) hL jx_ok (by decide +kernel)
def k_xr_19_0 : ct_C := ([(2, .ofNat 8, .ofNat 8)], [(10, 210, .ofNat 0, .ofNat 29), (32, 1, .ofNat 19, .ofNat 19), (32, 2, .ofNat 20, .ofNat 40), (33, 76, .ofNat 0, .ofNat 4), (33, 77, .ofNat 0, .ofNat 5), (33, 79, .negSucc 0, .ofNat 143)], [(10, 210, .ofNat 0, .ofNat 29), (32, 1, .ofNat 20, .ofNat 20)], [10], (some (0, .ofNat 0, .ofNat 20)), 3, false)
theorem c_xr_19_0 (hL : L < 2 ^ 31) : ci L xs 123 k_xr_19_0 :=
  mi_ok (fc := 9000) (f := 9000) (cuts := []) (xk := jx) cl_lok cl_hrf (cl_hro L xs) hL jx_ok (by decide +kernel)
def k_xr_19_1 : ct_C := ([(2, .ofNat 8, .ofNat 8)], [(10, 210, .ofNat 0, .ofNat 29), (32, 1, .ofNat 19, .ofNat 19), (32, 2, .ofNat 20, .ofNat 40), (33, 76, .ofNat 5, .ofNat 5), (33, 77, .ofNat 0, .ofNat 29), (33, 79, .negSucc 0, .ofNat 143)], [(10, 210, .ofNat 0, .ofNat 29), (32, 1, .ofNat 20, .ofNat 20)], [10], (some (0, .ofNat 0, .ofNat 20)), 3, false)
theorem c_xr_19_1 (hL : L < 2 ^ 31) : ci L xs 123 k_xr_19_1 :=
  mi_ok (fc := 9000) (f := 9000) (cuts := []) (xk := jx) cl_lok cl_hrf (cl_hro L xs) hL jx_ok (by decide +kernel)
def k_xr_19_2 : ct_C := ([(2, .ofNat 8, .ofNat 8)], [(10, 210, .ofNat 0, .ofNat 29), (32, 1, .ofNat 19, .ofNat 19), (32, 2, .ofNat 20, .ofNat 40), (33, 76, .ofNat 6, .ofNat 6), (33, 77, .ofNat 0, .ofNat 11), (33, 79, .negSucc 0, .ofNat 143)], [(10, 210, .ofNat 0, .ofNat 29), (32, 1, .ofNat 20, .ofNat 20)], [10], (some (0, .ofNat 0, .ofNat 20)), 3, false)
theorem c_xr_19_2 (hL : L < 2 ^ 31) : ci L xs 123 k_xr_19_2 :=
  mi_ok (fc := 9000) (f := 9000) (cuts := []) (xk := jx) cl_lok cl_hrf (cl_hro L xs) hL jx_ok (by decide +kernel)
def k_xr_19_3 : ct_C := ([(2, .ofNat 8, .ofNat 8)], [(10, 210, .ofNat 0, .ofNat 29), (32, 1, .ofNat 19, .ofNat 19), (32, 2, .ofNat 20, .ofNat 40), (33, 76, .ofNat 7, .ofNat 7), (33, 77, .ofNat 0, .ofNat 0), (33, 79, .ofNat 0, .ofNat 29)], [(10, 210, .ofNat 0, .ofNat 29), (32, 1, .ofNat 20, .ofNat 20)], [10], (some (0, .ofNat 0, .ofNat 20)), 3, false)
theorem c_xr_19_3 (hL : L < 2 ^ 31) : ci L xs 123 k_xr_19_3 :=
  mi_ok (fc := 9000) (f := 9000) (cuts := []) (xk := jx) cl_lok cl_hrf (cl_hro L xs) hL jx_ok (by decide +kernel)
def k_xr_19 : ct_C := ([(2, .ofNat 8, .ofNat 8)], [(10, 210, .ofNat 0, .ofNat 29), (32, 1, .ofNat 19, .ofNat 19)], [(10, 210, .ofNat 0, .ofNat 29), (32, 1, .ofNat 0, .ofNat 40)], [10], (some (0, .negSucc 4, .ofNat 20)), 3, false)
theorem s_xr_19 (M : Nat → Nat → Int) (hm : sx_mok cl_ly M) (hJ : JJ M) (hg : ct_g k_xr_19.2.1 M) : ∃ m ∈ [k_xr_19_e, k_xr_19_0, k_xr_19_1, k_xr_19_2, k_xr_19_3], ct_g m.2.1 M := by
  have hv : M 32 1 = 19 := by
    have h := hg (32, 1, .ofNat 19, .ofNat 19) (List.mem_cons_of_mem _ List.mem_cons_self)
    exact Int.le_antisymm h.2 h.1
  have hk := jr_kn hm
  have hu := jr_un hm
  have hd := hJ.2.2.1
  have he := hJ.2.2.2
  by_cases h0 : M 32 2 = 19
  · exact ⟨k_xr_19_e, List.mem_cons_self, (jc (by show (19 : Int) ≤ M 32 1; omega) (by show M 32 1 ≤ (19 : Int); omega) (jc (by show (19 : Int) ≤ M 32 2; omega) (by show M 32 2 ≤ (19 : Int); omega) jn))⟩
  · have h8 : jp (M 33 76) (M 33 77) (M 33 78) (M 33 79) := hJ.1 19 (by decide)
    obtain ⟨⟨b1, b2, b3, b4⟩, h8⟩ := h8
    rcases h8 with h8 | h8 | h8 | h8
    · exact ⟨k_xr_19_0, (List.mem_cons_of_mem _ List.mem_cons_self), (jh (hg (10, 210, .ofNat 0, .ofNat 29) List.mem_cons_self) (jc (by show (19 : Int) ≤ M 32 1; omega) (by show M 32 1 ≤ (19 : Int); omega) (jc (by show (20 : Int) ≤ M 32 2; omega) (by show M 32 2 ≤ (40 : Int); omega) (jc (by show (0 : Int) ≤ M 33 76; omega) (by show M 33 76 ≤ (4 : Int); omega) (jc (by show (0 : Int) ≤ M 33 77; omega) (by show M 33 77 ≤ (5 : Int); omega) (jc (by show (-1 : Int) ≤ M 33 79; omega) (by show M 33 79 ≤ (143 : Int); omega) jn))))))⟩
    · exact ⟨k_xr_19_1, (List.mem_cons_of_mem _ (List.mem_cons_of_mem _ List.mem_cons_self)), (jh (hg (10, 210, .ofNat 0, .ofNat 29) List.mem_cons_self) (jc (by show (19 : Int) ≤ M 32 1; omega) (by show M 32 1 ≤ (19 : Int); omega) (jc (by show (20 : Int) ≤ M 32 2; omega) (by show M 32 2 ≤ (40 : Int); omega) (jc (by show (5 : Int) ≤ M 33 76; omega) (by show M 33 76 ≤ (5 : Int); omega) (jc (by show (0 : Int) ≤ M 33 77; omega) (by show M 33 77 ≤ (29 : Int); omega) (jc (by show (-1 : Int) ≤ M 33 79; omega) (by show M 33 79 ≤ (143 : Int); omega) jn))))))⟩
    · exact ⟨k_xr_19_2, (List.mem_cons_of_mem _ (List.mem_cons_of_mem _ (List.mem_cons_of_mem _ List.mem_cons_self))), (jh (hg (10, 210, .ofNat 0, .ofNat 29) List.mem_cons_self) (jc (by show (19 : Int) ≤ M 32 1; omega) (by show M 32 1 ≤ (19 : Int); omega) (jc (by show (20 : Int) ≤ M 32 2; omega) (by show M 32 2 ≤ (40 : Int); omega) (jc (by show (6 : Int) ≤ M 33 76; omega) (by show M 33 76 ≤ (6 : Int); omega) (jc (by show (0 : Int) ≤ M 33 77; omega) (by show M 33 77 ≤ (11 : Int); omega) (jc (by show (-1 : Int) ≤ M 33 79; omega) (by show M 33 79 ≤ (143 : Int); omega) jn))))))⟩
    · exact ⟨k_xr_19_3, (List.mem_cons_of_mem _ (List.mem_cons_of_mem _ (List.mem_cons_of_mem _ (List.mem_cons_of_mem _ List.mem_cons_self)))), (jh (hg (10, 210, .ofNat 0, .ofNat 29) List.mem_cons_self) (jc (by show (19 : Int) ≤ M 32 1; omega) (by show M 32 1 ≤ (19 : Int); omega) (jc (by show (20 : Int) ≤ M 32 2; omega) (by show M 32 2 ≤ (40 : Int); omega) (jc (by show (7 : Int) ≤ M 33 76; omega) (by show M 33 76 ≤ (7 : Int); omega) (jc (by show (0 : Int) ≤ M 33 77; omega) (by show M 33 77 ≤ (0 : Int); omega) (jc (by show (0 : Int) ≤ M 33 79; omega) (by show M 33 79 ≤ (29 : Int); omega) jn))))))⟩
theorem c_xr_19 (hL : L < 2 ^ 31) : ci L xs 123 k_xr_19 :=
  ci_j_ok (ms := [k_xr_19_e, k_xr_19_0, k_xr_19_1, k_xr_19_2, k_xr_19_3]) (jl_cons (c_xr_19_e hL) (jl_cons (c_xr_19_0 hL) (jl_cons (c_xr_19_1 hL) (jl_cons (c_xr_19_2 hL) (jl_cons (c_xr_19_3 hL) jl_nil))))) s_xr_19 (by decide +kernel)
def k_xr_20_e : ct_C := ([(2, .ofNat 8, .ofNat 8)], [(32, 1, .ofNat 20, .ofNat 20), (32, 2, .ofNat 20, .ofNat 20)], [], [], (some (0, .negSucc 4, .negSucc 4)), 1, false)
theorem c_xr_20_e (hL : L < 2 ^ 31) : ci L xs 123 k_xr_20_e :=
  mi_ok (fc := 9000) (f := 9000) (cuts := []) (xk := jx) cl_lok cl_hrf (cl_hro L xs) hL jx_ok (by decide +kernel)
def k_xr_20_0 : ct_C := ([(2, .ofNat 8, .ofNat 8)], [(10, 210, .ofNat 0, .ofNat 29), (32, 1, .ofNat 20, .ofNat 20), (32, 2, .ofNat 21, .ofNat 40), (33, 80, .ofNat 0, .ofNat 4), (33, 81, .ofNat 0, .ofNat 5), (33, 83, .negSucc 0, .ofNat 143)], [(10, 210, .ofNat 0, .ofNat 29), (32, 1, .ofNat 21, .ofNat 21)], [10], (some (0, .ofNat 0, .ofNat 19)), 3, false)
theorem c_xr_20_0 (hL : L < 2 ^ 31) : ci L xs 123 k_xr_20_0 :=
  mi_ok (fc := 9000) (f := 9000) (cuts := []) (xk := jx) cl_lok cl_hrf (cl_hro L xs) hL jx_ok (by decide +kernel)
def k_xr_20_1 : ct_C := ([(2, .ofNat 8, .ofNat 8)], [(10, 210, .ofNat 0, .ofNat 29), (32, 1, .ofNat 20, .ofNat 20), (32, 2, .ofNat 21, .ofNat 40), (33, 80, .ofNat 5, .ofNat 5), (33, 81, .ofNat 0, .ofNat 29), (33, 83, .negSucc 0, .ofNat 143)], [(10, 210, .ofNat 0, .ofNat 29), (32, 1, .ofNat 21, .ofNat 21)], [10], (some (0, .ofNat 0, .ofNat 19)), 3, false)
theorem c_xr_20_1 (hL : L < 2 ^ 31) : ci L xs 123 k_xr_20_1 :=
  mi_ok (fc := 9000) (f := 9000) (cuts := []) (xk := jx) cl_lok cl_hrf (cl_hro L xs) hL jx_ok (by decide +kernel)
def k_xr_20_2 : ct_C := ([(2, .ofNat 8, .ofNat 8)], [(10, 210, .ofNat 0, .ofNat 29), (32, 1, .ofNat 20, .ofNat 20), (32, 2, .ofNat 21, .ofNat 40), (33, 80, .ofNat 6, .ofNat 6), (33, 81, .ofNat 0, .ofNat 11), (33, 83, .negSucc 0, .ofNat 143)], [(10, 210, .ofNat 0, .ofNat 29), (32, 1, .ofNat 21, .ofNat 21)], [10], (some (0, .ofNat 0, .ofNat 19)), 3, false)
theorem c_xr_20_2 (hL : L < 2 ^ 31) : ci L xs 123 k_xr_20_2 :=
  mi_ok (fc := 9000) (f := 9000) (cuts := []) (xk := jx) cl_lok cl_hrf (cl_hro L xs) hL jx_ok (by decide +kernel)
def k_xr_20_3 : ct_C := ([(2, .ofNat 8, .ofNat 8)], [(10, 210, .ofNat 0, .ofNat 29), (32, 1, .ofNat 20, .ofNat 20), (32, 2, .ofNat 21, .ofNat 40), (33, 80, .ofNat 7, .ofNat 7), (33, 81, .ofNat 0, .ofNat 0), (33, 83, .ofNat 0, .ofNat 29)], [(10, 210, .ofNat 0, .ofNat 29), (32, 1, .ofNat 21, .ofNat 21)], [10], (some (0, .ofNat 0, .ofNat 19)), 3, false)
theorem c_xr_20_3 (hL : L < 2 ^ 31) : ci L xs 123 k_xr_20_3 :=
  mi_ok (fc := 9000) (f := 9000) (cuts := []) (xk := jx) cl_lok cl_hrf (cl_hro L xs) hL jx_ok (by decide +kernel)
def k_xr_20 : ct_C := ([(2, .ofNat 8, .ofNat 8)], [(10, 210, .ofNat 0, .ofNat 29), (32, 1, .ofNat 20, .ofNat 20)], [(10, 210, .ofNat 0, .ofNat 29), (32, 1, .ofNat 0, .ofNat 40)], [10], (some (0, .negSucc 4, .ofNat 19)), 3, false)
theorem s_xr_20 (M : Nat → Nat → Int) (hm : sx_mok cl_ly M) (hJ : JJ M) (hg : ct_g k_xr_20.2.1 M) : ∃ m ∈ [k_xr_20_e, k_xr_20_0, k_xr_20_1, k_xr_20_2, k_xr_20_3], ct_g m.2.1 M := by
  have hv : M 32 1 = 20 := by
    have h := hg (32, 1, .ofNat 20, .ofNat 20) (List.mem_cons_of_mem _ List.mem_cons_self)
    exact Int.le_antisymm h.2 h.1
  have hk := jr_kn hm
  have hu := jr_un hm
  have hd := hJ.2.2.1
  have he := hJ.2.2.2
  by_cases h0 : M 32 2 = 20
  · exact ⟨k_xr_20_e, List.mem_cons_self, (jc (by show (20 : Int) ≤ M 32 1; omega) (by show M 32 1 ≤ (20 : Int); omega) (jc (by show (20 : Int) ≤ M 32 2; omega) (by show M 32 2 ≤ (20 : Int); omega) jn))⟩
  · have h8 : jp (M 33 80) (M 33 81) (M 33 82) (M 33 83) := hJ.1 20 (by decide)
    obtain ⟨⟨b1, b2, b3, b4⟩, h8⟩ := h8
    rcases h8 with h8 | h8 | h8 | h8
    · exact ⟨k_xr_20_0, (List.mem_cons_of_mem _ List.mem_cons_self), (jh (hg (10, 210, .ofNat 0, .ofNat 29) List.mem_cons_self) (jc (by show (20 : Int) ≤ M 32 1; omega) (by show M 32 1 ≤ (20 : Int); omega) (jc (by show (21 : Int) ≤ M 32 2; omega) (by show M 32 2 ≤ (40 : Int); omega) (jc (by show (0 : Int) ≤ M 33 80; omega) (by show M 33 80 ≤ (4 : Int); omega) (jc (by show (0 : Int) ≤ M 33 81; omega) (by show M 33 81 ≤ (5 : Int); omega) (jc (by show (-1 : Int) ≤ M 33 83; omega) (by show M 33 83 ≤ (143 : Int); omega) jn))))))⟩
    · exact ⟨k_xr_20_1, (List.mem_cons_of_mem _ (List.mem_cons_of_mem _ List.mem_cons_self)), (jh (hg (10, 210, .ofNat 0, .ofNat 29) List.mem_cons_self) (jc (by show (20 : Int) ≤ M 32 1; omega) (by show M 32 1 ≤ (20 : Int); omega) (jc (by show (21 : Int) ≤ M 32 2; omega) (by show M 32 2 ≤ (40 : Int); omega) (jc (by show (5 : Int) ≤ M 33 80; omega) (by show M 33 80 ≤ (5 : Int); omega) (jc (by show (0 : Int) ≤ M 33 81; omega) (by show M 33 81 ≤ (29 : Int); omega) (jc (by show (-1 : Int) ≤ M 33 83; omega) (by show M 33 83 ≤ (143 : Int); omega) jn))))))⟩
    · exact ⟨k_xr_20_2, (List.mem_cons_of_mem _ (List.mem_cons_of_mem _ (List.mem_cons_of_mem _ List.mem_cons_self))), (jh (hg (10, 210, .ofNat 0, .ofNat 29) List.mem_cons_self) (jc (by show (20 : Int) ≤ M 32 1; omega) (by show M 32 1 ≤ (20 : Int); omega) (jc (by show (21 : Int) ≤ M 32 2; omega) (by show M 32 2 ≤ (40 : Int); omega) (jc (by show (6 : Int) ≤ M 33 80; omega) (by show M 33 80 ≤ (6 : Int); omega) (jc (by show (0 : Int) ≤ M 33 81; omega) (by show M 33 81 ≤ (11 : Int); omega) (jc (by show (-1 : Int) ≤ M 33 83; omega) (by show M 33 83 ≤ (143 : Int); omega) jn))))))⟩
    · exact ⟨k_xr_20_3, (List.mem_cons_of_mem _ (List.mem_cons_of_mem _ (List.mem_cons_of_mem _ (List.mem_cons_of_mem _ List.mem_cons_self)))), (jh (hg (10, 210, .ofNat 0, .ofNat 29) List.mem_cons_self) (jc (by show (20 : Int) ≤ M 32 1; omega) (by show M 32 1 ≤ (20 : Int); omega) (jc (by show (21 : Int) ≤ M 32 2; omega) (by show M 32 2 ≤ (40 : Int); omega) (jc (by show (7 : Int) ≤ M 33 80; omega) (by show M 33 80 ≤ (7 : Int); omega) (jc (by show (0 : Int) ≤ M 33 81; omega) (by show M 33 81 ≤ (0 : Int); omega) (jc (by show (0 : Int) ≤ M 33 83; omega) (by show M 33 83 ≤ (29 : Int); omega) jn))))))⟩
theorem c_xr_20 (hL : L < 2 ^ 31) : ci L xs 123 k_xr_20 :=
  ci_j_ok (ms := [k_xr_20_e, k_xr_20_0, k_xr_20_1, k_xr_20_2, k_xr_20_3]) (jl_cons (c_xr_20_e hL) (jl_cons (c_xr_20_0 hL) (jl_cons (c_xr_20_1 hL) (jl_cons (c_xr_20_2 hL) (jl_cons (c_xr_20_3 hL) jl_nil))))) s_xr_20 (by decide +kernel)
def k_xr_21_e : ct_C := ([(2, .ofNat 8, .ofNat 8)], [(32, 1, .ofNat 21, .ofNat 21), (32, 2, .ofNat 21, .ofNat 21)], [], [], (some (0, .negSucc 4, .negSucc 4)), 1, false)
theorem c_xr_21_e (hL : L < 2 ^ 31) : ci L xs 123 k_xr_21_e :=
  mi_ok (fc := 9000) (f := 9000) (cuts := []) (xk := jx) cl_lok cl_hrf (cl_hro L xs) hL jx_ok (by decide +kernel)
def k_xr_21_0 : ct_C := ([(2, .ofNat 8, .ofNat 8)], [(10, 210, .ofNat 0, .ofNat 29), (32, 1, .ofNat 21, .ofNat 21), (32, 2, .ofNat 22, .ofNat 40), (33, 84, .ofNat 0, .ofNat 4), (33, 85, .ofNat 0, .ofNat 5), (33, 87, .negSucc 0, .ofNat 143)], [(10, 210, .ofNat 0, .ofNat 29), (32, 1, .ofNat 22, .ofNat 22)], [10], (some (0, .ofNat 0, .ofNat 18)), 3, false)
theorem c_xr_21_0 (hL : L < 2 ^ 31) : ci L xs 123 k_xr_21_0 :=
  mi_ok (fc := 9000) (f := 9000) (cuts := []) (xk := jx) cl_lok cl_hrf (cl_hro L xs) hL jx_ok (by decide +kernel)
def k_xr_21_1 : ct_C := ([(2, .ofNat 8, .ofNat 8)], [(10, 210, .ofNat 0, .ofNat 29), (32, 1, .ofNat 21, .ofNat 21), (32, 2, .ofNat 22, .ofNat 40), (33, 84, .ofNat 5, .ofNat 5), (33, 85, .ofNat 0, .ofNat 29), (33, 87, .negSucc 0, .ofNat 143)], [(10, 210, .ofNat 0, .ofNat 29), (32, 1, .ofNat 22, .ofNat 22)], [10], (some (0, .ofNat 0, .ofNat 18)), 3, false)
theorem c_xr_21_1 (hL : L < 2 ^ 31) : ci L xs 123 k_xr_21_1 :=
  mi_ok (fc := 9000) (f := 9000) (cuts := []) (xk := jx) cl_lok cl_hrf (cl_hro L xs) hL jx_ok (by decide +kernel)
def k_xr_21_2 : ct_C := ([(2, .ofNat 8, .ofNat 8)], [(10, 210, .ofNat 0, .ofNat 29), (32, 1, .ofNat 21, .ofNat 21), (32, 2, .ofNat 22, .ofNat 40), (33, 84, .ofNat 6, .ofNat 6), (33, 85, .ofNat 0, .ofNat 11), (33, 87, .negSucc 0, .ofNat 143)], [(10, 210, .ofNat 0, .ofNat 29), (32, 1, .ofNat 22, .ofNat 22)], [10], (some (0, .ofNat 0, .ofNat 18)), 3, false)
theorem c_xr_21_2 (hL : L < 2 ^ 31) : ci L xs 123 k_xr_21_2 :=
  mi_ok (fc := 9000) (f := 9000) (cuts := []) (xk := jx) cl_lok cl_hrf (cl_hro L xs) hL jx_ok (by decide +kernel)
def k_xr_21_3 : ct_C := ([(2, .ofNat 8, .ofNat 8)], [(10, 210, .ofNat 0, .ofNat 29), (32, 1, .ofNat 21, .ofNat 21), (32, 2, .ofNat 22, .ofNat 40), (33, 84, .ofNat 7, .ofNat 7), (33, 85, .ofNat 0, .ofNat 0), (33, 87, .ofNat 0, .ofNat 29)], [(10, 210, .ofNat 0, .ofNat 29), (32, 1, .ofNat 22, .ofNat 22)], [10], (some (0, .ofNat 0, .ofNat 18)), 3, false)
theorem c_xr_21_3 (hL : L < 2 ^ 31) : ci L xs 123 k_xr_21_3 :=
  mi_ok (fc := 9000) (f := 9000) (cuts := []) (xk := jx) cl_lok cl_hrf (cl_hro L xs) hL jx_ok (by decide +kernel)
def k_xr_21 : ct_C := ([(2, .ofNat 8, .ofNat 8)], [(10, 210, .ofNat 0, .ofNat 29), (32, 1, .ofNat 21, .ofNat 21)], [(10, 210, .ofNat 0, .ofNat 29), (32, 1, .ofNat 0, .ofNat 40)], [10], (some (0, .negSucc 4, .ofNat 18)), 3, false)
theorem s_xr_21 (M : Nat → Nat → Int) (hm : sx_mok cl_ly M) (hJ : JJ M) (hg : ct_g k_xr_21.2.1 M) : ∃ m ∈ [k_xr_21_e, k_xr_21_0, k_xr_21_1, k_xr_21_2, k_xr_21_3], ct_g m.2.1 M := by
  have hv : M 32 1 = 21 := by
    have h := hg (32, 1, .ofNat 21, .ofNat 21) (List.mem_cons_of_mem _ List.mem_cons_self)
    exact Int.le_antisymm h.2 h.1
  have hk := jr_kn hm
  have hu := jr_un hm
  have hd := hJ.2.2.1
  have he := hJ.2.2.2
  by_cases h0 : M 32 2 = 21
  · exact ⟨k_xr_21_e, List.mem_cons_self, (jc (by show (21 : Int) ≤ M 32 1; omega) (by show M 32 1 ≤ (21 : Int); omega) (jc (by show (21 : Int) ≤ M 32 2; omega) (by show M 32 2 ≤ (21 : Int); omega) jn))⟩
  · have h8 : jp (M 33 84) (M 33 85) (M 33 86) (M 33 87) := hJ.1 21 (by decide)
    obtain ⟨⟨b1, b2, b3, b4⟩, h8⟩ := h8
    rcases h8 with h8 | h8 | h8 | h8
    · exact ⟨k_xr_21_0, (List.mem_cons_of_mem _ List.mem_cons_self), (jh (hg (10, 210, .ofNat 0, .ofNat 29) List.mem_cons_self) (jc (by show (21 : Int) ≤ M 32 1; omega) (by show M 32 1 ≤ (21 : Int); omega) (jc (by show (22 : Int) ≤ M 32 2; omega) (by show M 32 2 ≤ (40 : Int); omega) (jc (by show (0 : Int) ≤ M 33 84; omega) (by show M 33 84 ≤ (4 : Int); omega) (jc (by show (0 : Int) ≤ M 33 85; omega) (by show M 33 85 ≤ (5 : Int); omega) (jc (by show (-1 : Int) ≤ M 33 87; omega) (by show M 33 87 ≤ (143 : Int); omega) jn))))))⟩
    · exact ⟨k_xr_21_1, (List.mem_cons_of_mem _ (List.mem_cons_of_mem _ List.mem_cons_self)), (jh (hg (10, 210, .ofNat 0, .ofNat 29) List.mem_cons_self) (jc (by show (21 : Int) ≤ M 32 1; omega) (by show M 32 1 ≤ (21 : Int); omega) (jc (by show (22 : Int) ≤ M 32 2; omega) (by show M 32 2 ≤ (40 : Int); omega) (jc (by show (5 : Int) ≤ M 33 84; omega) (by show M 33 84 ≤ (5 : Int); omega) (jc (by show (0 : Int) ≤ M 33 85; omega) (by show M 33 85 ≤ (29 : Int); omega) (jc (by show (-1 : Int) ≤ M 33 87; omega) (by show M 33 87 ≤ (143 : Int); omega) jn))))))⟩
    · exact ⟨k_xr_21_2, (List.mem_cons_of_mem _ (List.mem_cons_of_mem _ (List.mem_cons_of_mem _ List.mem_cons_self))), (jh (hg (10, 210, .ofNat 0, .ofNat 29) List.mem_cons_self) (jc (by show (21 : Int) ≤ M 32 1; omega) (by show M 32 1 ≤ (21 : Int); omega) (jc (by show (22 : Int) ≤ M 32 2; omega) (by show M 32 2 ≤ (40 : Int); omega) (jc (by show (6 : Int) ≤ M 33 84; omega) (by show M 33 84 ≤ (6 : Int); omega) (jc (by show (0 : Int) ≤ M 33 85; omega) (by show M 33 85 ≤ (11 : Int); omega) (jc (by show (-1 : Int) ≤ M 33 87; omega) (by show M 33 87 ≤ (143 : Int); omega) jn))))))⟩
    · exact ⟨k_xr_21_3, (List.mem_cons_of_mem _ (List.mem_cons_of_mem _ (List.mem_cons_of_mem _ (List.mem_cons_of_mem _ List.mem_cons_self)))), (jh (hg (10, 210, .ofNat 0, .ofNat 29) List.mem_cons_self) (jc (by show (21 : Int) ≤ M 32 1; omega) (by show M 32 1 ≤ (21 : Int); omega) (jc (by show (22 : Int) ≤ M 32 2; omega) (by show M 32 2 ≤ (40 : Int); omega) (jc (by show (7 : Int) ≤ M 33 84; omega) (by show M 33 84 ≤ (7 : Int); omega) (jc (by show (0 : Int) ≤ M 33 85; omega) (by show M 33 85 ≤ (0 : Int); omega) (jc (by show (0 : Int) ≤ M 33 87; omega) (by show M 33 87 ≤ (29 : Int); omega) jn))))))⟩
theorem c_xr_21 (hL : L < 2 ^ 31) : ci L xs 123 k_xr_21 :=
  ci_j_ok (ms := [k_xr_21_e, k_xr_21_0, k_xr_21_1, k_xr_21_2, k_xr_21_3]) (jl_cons (c_xr_21_e hL) (jl_cons (c_xr_21_0 hL) (jl_cons (c_xr_21_1 hL) (jl_cons (c_xr_21_2 hL) (jl_cons (c_xr_21_3 hL) jl_nil))))) s_xr_21 (by decide +kernel)
def k_xr_22_e : ct_C := ([(2, .ofNat 8, .ofNat 8)], [(32, 1, .ofNat 22, .ofNat 22), (32, 2, .ofNat 22, .ofNat 22)], [], [], (some (0, .negSucc 4, .negSucc 4)), 1, false)
theorem c_xr_22_e (hL : L < 2 ^ 31) : ci L xs 123 k_xr_22_e :=
  mi_ok (fc := 9000) (f := 9000) (cuts := []) (xk := jx) cl_lok cl_hrf (cl_hro L xs) hL jx_ok (by decide +kernel)
def k_xr_22_0 : ct_C := ([(2, .ofNat 8, .ofNat 8)], [(10, 210, .ofNat 0, .ofNat 29), (32, 1, .ofNat 22, .ofNat 22), (32, 2, .ofNat 23, .ofNat 40), (33, 88, .ofNat 0, .ofNat 4), (33, 89, .ofNat 0, .ofNat 5), (33, 91, .negSucc 0, .ofNat 143)], [(10, 210, .ofNat 0, .ofNat 29), (32, 1, .ofNat 23, .ofNat 23)], [10], (some (0, .ofNat 0, .ofNat 17)), 3, false)
theorem c_xr_22_0 (hL : L < 2 ^ 31) : ci L xs 123 k_xr_22_0 :=
  mi_ok (fc := 9000) (f := 9000) (cuts := []) (xk := jx) cl_lok cl_hrf (cl_hro L xs) hL jx_ok (by decide +kernel)
def k_xr_22_1 : ct_C := ([(2, .ofNat 8, .ofNat 8)], [(10, 210, .ofNat 0, .ofNat 29), (32, 1, .ofNat 22, .ofNat 22), (32, 2, .ofNat 23, .ofNat 40), (33, 88, .ofNat 5, .ofNat 5), (33, 89, .ofNat 0, .ofNat 29), (33, 91, .negSucc 0, .ofNat 143)], [(10, 210, .ofNat 0, .ofNat 29), (32, 1, .ofNat 23, .ofNat 23)], [10], (some (0, .ofNat 0, .ofNat 17)), 3, false)
theorem c_xr_22_1 (hL : L < 2 ^ 31) : ci L xs 123 k_xr_22_1 :=
  mi_ok (fc := 9000) (f := 9000) (cuts := []) (xk := jx) cl_lok cl_hrf (cl_hro L xs) hL jx_ok (by decide +kernel)
def k_xr_22_2 : ct_C := ([(2, .ofNat 8, .ofNat 8)], [(10, 210, .ofNat 0, .ofNat 29), (32, 1, .ofNat 22, .ofNat 22), (32, 2, .ofNat 23, .ofNat 40), (33, 88, .ofNat 6, .ofNat 6), (33, 89, .ofNat 0, .ofNat 11), (33, 91, .negSucc 0, .ofNat 143)], [(10, 210, .ofNat 0, .ofNat 29), (32, 1, .ofNat 23, .ofNat 23)], [10], (some (0, .ofNat 0, .ofNat 17)), 3, false)
theorem c_xr_22_2 (hL : L < 2 ^ 31) : ci L xs 123 k_xr_22_2 :=
  mi_ok (fc := 9000) (f := 9000) (cuts := []) (xk := jx) cl_lok cl_hrf (cl_hro L xs) hL jx_ok (by decide +kernel)
def k_xr_22_3 : ct_C := ([(2, .ofNat 8, .ofNat 8)], [(10, 210, .ofNat 0, .ofNat 29), (32, 1, .ofNat 22, .ofNat 22), (32, 2, .ofNat 23, .ofNat 40), (33, 88, .ofNat 7, .ofNat 7), (33, 89, .ofNat 0, .ofNat 0), (33, 91, .ofNat 0, .ofNat 29)], [(10, 210, .ofNat 0, .ofNat 29), (32, 1, .ofNat 23, .ofNat 23)], [10], (some (0, .ofNat 0, .ofNat 17)), 3, false)
theorem c_xr_22_3 (hL : L < 2 ^ 31) : ci L xs 123 k_xr_22_3 :=
  mi_ok (fc := 9000) (f := 9000) (cuts := []) (xk := jx) cl_lok cl_hrf (cl_hro L xs) hL jx_ok (by decide +kernel)
def k_xr_22 : ct_C := ([(2, .ofNat 8, .ofNat 8)], [(10, 210, .ofNat 0, .ofNat 29), (32, 1, .ofNat 22, .ofNat 22)], [(10, 210, .ofNat 0, .ofNat 29), (32, 1, .ofNat 0, .ofNat 40)], [10], (some (0, .negSucc 4, .ofNat 17)), 3, false)
theorem s_xr_22 (M : Nat → Nat → Int) (hm : sx_mok cl_ly M) (hJ : JJ M) (hg : ct_g k_xr_22.2.1 M) : ∃ m ∈ [k_xr_22_e, k_xr_22_0, k_xr_22_1, k_xr_22_2, k_xr_22_3], ct_g m.2.1 M := by
  have hv : M 32 1 = 22 := by
    have h := hg (32, 1, .ofNat 22, .ofNat 22) (List.mem_cons_of_mem _ List.mem_cons_self)
    exact Int.le_antisymm h.2 h.1
  have hk := jr_kn hm
  have hu := jr_un hm
  have hd := hJ.2.2.1
  have he := hJ.2.2.2
  by_cases h0 : M 32 2 = 22
  · exact ⟨k_xr_22_e, List.mem_cons_self, (jc (by show (22 : Int) ≤ M 32 1; omega) (by show M 32 1 ≤ (22 : Int); omega) (jc (by show (22 : Int) ≤ M 32 2; omega) (by show M 32 2 ≤ (22 : Int); omega) jn))⟩
  · have h8 : jp (M 33 88) (M 33 89) (M 33 90) (M 33 91) := hJ.1 22 (by decide)
    obtain ⟨⟨b1, b2, b3, b4⟩, h8⟩ := h8
    rcases h8 with h8 | h8 | h8 | h8
    · exact ⟨k_xr_22_0, (List.mem_cons_of_mem _ List.mem_cons_self), (jh (hg (10, 210, .ofNat 0, .ofNat 29) List.mem_cons_self) (jc (by show (22 : Int) ≤ M 32 1; omega) (by show M 32 1 ≤ (22 : Int); omega) (jc (by show (23 : Int) ≤ M 32 2; omega) (by show M 32 2 ≤ (40 : Int); omega) (jc (by show (0 : Int) ≤ M 33 88; omega) (by show M 33 88 ≤ (4 : Int); omega) (jc (by show (0 : Int) ≤ M 33 89; omega) (by show M 33 89 ≤ (5 : Int); omega) (jc (by show (-1 : Int) ≤ M 33 91; omega) (by show M 33 91 ≤ (143 : Int); omega) jn))))))⟩
    · exact ⟨k_xr_22_1, (List.mem_cons_of_mem _ (List.mem_cons_of_mem _ List.mem_cons_self)), (jh (hg (10, 210, .ofNat 0, .ofNat 29) List.mem_cons_self) (jc (by show (22 : Int) ≤ M 32 1; omega) (by show M 32 1 ≤ (22 : Int); omega) (jc (by show (23 : Int) ≤ M 32 2; omega) (by show M 32 2 ≤ (40 : Int); omega) (jc (by show (5 : Int) ≤ M 33 88; omega) (by show M 33 88 ≤ (5 : Int); omega) (jc (by show (0 : Int) ≤ M 33 89; omega) (by show M 33 89 ≤ (29 : Int); omega) (jc (by show (-1 : Int) ≤ M 33 91; omega) (by show M 33 91 ≤ (143 : Int); omega) jn))))))⟩
    · exact ⟨k_xr_22_2, (List.mem_cons_of_mem _ (List.mem_cons_of_mem _ (List.mem_cons_of_mem _ List.mem_cons_self))), (jh (hg (10, 210, .ofNat 0, .ofNat 29) List.mem_cons_self) (jc (by show (22 : Int) ≤ M 32 1; omega) (by show M 32 1 ≤ (22 : Int); omega) (jc (by show (23 : Int) ≤ M 32 2; omega) (by show M 32 2 ≤ (40 : Int); omega) (jc (by show (6 : Int) ≤ M 33 88; omega) (by show M 33 88 ≤ (6 : Int); omega) (jc (by show (0 : Int) ≤ M 33 89; omega) (by show M 33 89 ≤ (11 : Int); omega) (jc (by show (-1 : Int) ≤ M 33 91; omega) (by show M 33 91 ≤ (143 : Int); omega) jn))))))⟩
    · exact ⟨k_xr_22_3, (List.mem_cons_of_mem _ (List.mem_cons_of_mem _ (List.mem_cons_of_mem _ (List.mem_cons_of_mem _ List.mem_cons_self)))), (jh (hg (10, 210, .ofNat 0, .ofNat 29) List.mem_cons_self) (jc (by show (22 : Int) ≤ M 32 1; omega) (by show M 32 1 ≤ (22 : Int); omega) (jc (by show (23 : Int) ≤ M 32 2; omega) (by show M 32 2 ≤ (40 : Int); omega) (jc (by show (7 : Int) ≤ M 33 88; omega) (by show M 33 88 ≤ (7 : Int); omega) (jc (by show (0 : Int) ≤ M 33 89; omega) (by show M 33 89 ≤ (0 : Int); omega) (jc (by show (0 : Int) ≤ M 33 91; omega) (by show M 33 91 ≤ (29 : Int); omega) jn))))))⟩
theorem c_xr_22 (hL : L < 2 ^ 31) : ci L xs 123 k_xr_22 :=
  ci_j_ok (ms := [k_xr_22_e, k_xr_22_0, k_xr_22_1, k_xr_22_2, k_xr_22_3]) (jl_cons (c_xr_22_e hL) (jl_cons (c_xr_22_0 hL) (jl_cons (c_xr_22_1 hL) (jl_cons (c_xr_22_2 hL) (jl_cons (c_xr_22_3 hL) jl_nil))))) s_xr_22 (by decide +kernel)
def k_xr_23_e : ct_C := ([(2, .ofNat 8, .ofNat 8)], [(32, 1, .ofNat 23, .ofNat 23), (32, 2, .ofNat 23, .ofNat 23)], [], [], (some (0, .negSucc 4, .negSucc 4)), 1, false)
theorem c_xr_23_e (hL : L < 2 ^ 31) : ci L xs 123 k_xr_23_e :=
  mi_ok (fc := 9000) (f := 9000) (cuts := []) (xk := jx) cl_lok cl_hrf (cl_hro L xs) hL jx_ok (by decide +kernel)
def k_xr_23_0 : ct_C := ([(2, .ofNat 8, .ofNat 8)], [(10, 210, .ofNat 0, .ofNat 29), (32, 1, .ofNat 23, .ofNat 23), (32, 2, .ofNat 24, .ofNat 40), (33, 92, .ofNat 0, .ofNat 4), (33, 93, .ofNat 0, .ofNat 5), (33, 95, .negSucc 0, .ofNat 143)], [(10, 210, .ofNat 0, .ofNat 29), (32, 1, .ofNat 24, .ofNat 24)], [10], (some (0, .ofNat 0, .ofNat 16)), 3, false)
theorem c_xr_23_0 (hL : L < 2 ^ 31) : ci L xs 123 k_xr_23_0 :=
  mi_ok (fc := 9000) (f := 9000) (cuts := []) (xk := jx) cl_lok cl_hrf (cl_hro L xs) hL jx_ok (by decide +kernel)
def k_xr_23_1 : ct_C := ([(2, .ofNat 8, .ofNat 8)], [(10, 210, .ofNat 0, .ofNat 29), (32, 1, .ofNat 23, .ofNat 23), (32, 2, .ofNat 24, .ofNat 40), (33, 92, .ofNat 5, .ofNat 5), (33, 93, .ofNat 0, .ofNat 29), (33, 95, .negSucc 0, .ofNat 143)], [(10, 210, .ofNat 0, .ofNat 29), (32, 1, .ofNat 24, .ofNat 24)], [10], (some (0, .ofNat 0, .ofNat 16)), 3, false)
theorem c_xr_23_1 (hL : L < 2 ^ 31) : ci L xs 123 k_xr_23_1 :=
  mi_ok (fc := 9000) (f := 9000) (cuts := []) (xk := jx) cl_lok cl_hrf (cl_hro L xs) hL jx_ok (by decide +kernel)
def k_xr_23_2 : ct_C := ([(2, .ofNat 8, .ofNat 8)], [(10, 210, .ofNat 0, .ofNat 29), (32, 1, .ofNat 23, .ofNat 23), (32, 2, .ofNat 24, .ofNat 40), (33, 92, .ofNat 6, .ofNat 6), (33, 93, .ofNat 0, .ofNat 11), (33, 95, .negSucc 0, .ofNat 143)], [(10, 210, .ofNat 0, .ofNat 29), (32, 1, .ofNat 24, .ofNat 24)], [10], (some (0, .ofNat 0, .ofNat 16)), 3, false)
theorem c_xr_23_2 (hL : L < 2 ^ 31) : ci L xs 123 k_xr_23_2 :=
  mi_ok (fc := 9000) (f := 9000) (cuts := []) (xk := jx) cl_lok cl_hrf (cl_hro L xs) hL jx_ok (by decide +kernel)
def k_xr_23_3 : ct_C := ([(2, .ofNat 8, .ofNat 8)], [(10, 210, .ofNat 0, .ofNat 29), (32, 1, .ofNat 23, .ofNat 23), (32, 2, .ofNat 24, .ofNat 40), (33, 92, .ofNat 7, .ofNat 7), (33, 93, .ofNat 0, .ofNat 0), (33, 95, .ofNat 0, .ofNat 29)], [(10, 210, .ofNat 0, .ofNat 29), (32, 1, .ofNat 24, .ofNat 24)], [10], (some (0, .ofNat 0, .ofNat 16)), 3, false)
theorem c_xr_23_3 (hL : L < 2 ^ 31) : ci L xs 123 k_xr_23_3 :=
  mi_ok (fc := 9000) (f := 9000) (cuts := []) (xk := jx) cl_lok cl_hrf (cl_hro L xs) hL jx_ok (by decide +kernel)
def k_xr_23 : ct_C := ([(2, .ofNat 8, .ofNat 8)], [(10, 210, .ofNat 0, .ofNat 29), (32, 1, .ofNat 23, .ofNat 23)], [(10, 210, .ofNat 0, .ofNat 29), (32, 1, .ofNat 0, .ofNat 40)], [10], (some (0, .negSucc 4, .ofNat 16)), 3, false)
theorem s_xr_23 (M : Nat → Nat → Int) (hm : sx_mok cl_ly M) (hJ : JJ M) (hg : ct_g k_xr_23.2.1 M) : ∃ m ∈ [k_xr_23_e, k_xr_23_0, k_xr_23_1, k_xr_23_2, k_xr_23_3], ct_g m.2.1 M := by
  have hv : M 32 1 = 23 := by
    have h := hg (32, 1, .ofNat 23, .ofNat 23) (List.mem_cons_of_mem _ List.mem_cons_self)
    exact Int.le_antisymm h.2 h.1
  have hk := jr_kn hm
  have hu := jr_un hm
  have hd := hJ.2.2.1
  have he := hJ.2.2.2
  by_cases h0 : M 32 2 = 23
  · exact ⟨k_xr_23_e, List.mem_cons_self, (jc (by show (23 : Int) ≤ M 32 1; omega) (by show M 32 1 ≤ (23 : Int); omega) (jc (by show (23 : Int) ≤ M 32 2; omega) (by show M 32 2 ≤ (23 : Int); omega) jn))⟩
  · have h8 : jp (M 33 92) (M 33 93) (M 33 94) (M 33 95) := hJ.1 23 (by decide)
    obtain ⟨⟨b1, b2, b3, b4⟩, h8⟩ := h8
    rcases h8 with h8 | h8 | h8 | h8
    · exact ⟨k_xr_23_0, (List.mem_cons_of_mem _ List.mem_cons_self), (jh (hg (10, 210, .ofNat 0, .ofNat 29) List.mem_cons_self) (jc (by show (23 : Int) ≤ M 32 1; omega) (by show M 32 1 ≤ (23 : Int); omega) (jc (by show (24 : Int) ≤ M 32 2; omega) (by show M 32 2 ≤ (40 : Int); omega) (jc (by show (0 : Int) ≤ M 33 92; omega) (by show M 33 92 ≤ (4 : Int); omega) (jc (by show (0 : Int) ≤ M 33 93; omega) (by show M 33 93 ≤ (5 : Int); omega) (jc (by show (-1 : Int) ≤ M 33 95; omega) (by show M 33 95 ≤ (143 : Int); omega) jn))))))⟩
    · exact ⟨k_xr_23_1, (List.mem_cons_of_mem _ (List.mem_cons_of_mem _ List.mem_cons_self)), (jh (hg (10, 210, .ofNat 0, .ofNat 29) List.mem_cons_self) (jc (by show (23 : Int) ≤ M 32 1; omega) (by show M 32 1 ≤ (23 : Int); omega) (jc (by show (24 : Int) ≤ M 32 2; omega) (by show M 32 2 ≤ (40 : Int); omega) (jc (by show (5 : Int) ≤ M 33 92; omega) (by show M 33 92 ≤ (5 : Int); omega) (jc (by show (0 : Int) ≤ M 33 93; omega) (by show M 33 93 ≤ (29 : Int); omega) (jc (by show (-1 : Int) ≤ M 33 95; omega) (by show M 33 95 ≤ (143 : Int); omega) jn))))))⟩
    · exact ⟨k_xr_23_2, (List.mem_cons_of_mem _ (List.mem_cons_of_mem _ (List.mem_cons_of_mem _ List.mem_cons_self))), (jh (hg (10, 210, .ofNat 0, .ofNat 29) List.mem_cons_self) (jc (by show (23 : Int) ≤ M 32 1; omega) (by show M 32 1 ≤ (23 : Int); omega) (jc (by show (24 : Int) ≤ M 32 2; omega) (by show M 32 2 ≤ (40 : Int); omega) (jc (by show (6 : Int) ≤ M 33 92; omega) (by show M 33 92 ≤ (6 : Int); omega) (jc (by show (0 : Int) ≤ M 33 93; omega) (by show M 33 93 ≤ (11 : Int); omega) (jc (by show (-1 : Int) ≤ M 33 95; omega) (by show M 33 95 ≤ (143 : Int); omega) jn))))))⟩
    · exact ⟨k_xr_23_3, (List.mem_cons_of_mem _ (List.mem_cons_of_mem _ (List.mem_cons_of_mem _ (List.mem_cons_of_mem _ List.mem_cons_self)))), (jh (hg (10, 210, .ofNat 0, .ofNat 29) List.mem_cons_self) (jc (by show (23 : Int) ≤ M 32 1; omega) (by show M 32 1 ≤ (23 : Int); omega) (jc (by show (24 : Int) ≤ M 32 2; omega) (by show M 32 2 ≤ (40 : Int); omega) (jc (by show (7 : Int) ≤ M 33 92; omega) (by show M 33 92 ≤ (7 : Int); omega) (jc (by show (0 : Int) ≤ M 33 93; omega) (by show M 33 93 ≤ (0 : Int); omega) (jc (by show (0 : Int) ≤ M 33 95; omega) (by show M 33 95 ≤ (29 : Int); omega) jn))))))⟩
theorem c_xr_23 (hL : L < 2 ^ 31) : ci L xs 123 k_xr_23 :=
  ci_j_ok (ms := [k_xr_23_e, k_xr_23_0, k_xr_23_1, k_xr_23_2, k_xr_23_3]) (jl_cons (c_xr_23_e hL) (jl_cons (c_xr_23_0 hL) (jl_cons (c_xr_23_1 hL) (jl_cons (c_xr_23_2 hL) (jl_cons (c_xr_23_3 hL) jl_nil))))) s_xr_23 (by decide +kernel)
def k_xr_24_e : ct_C := ([(2, .ofNat 8, .ofNat 8)], [(32, 1, .ofNat 24, .ofNat 24), (32, 2, .ofNat 24, .ofNat 24)], [], [], (some (0, .negSucc 4, .negSucc 4)), 1, false)
theorem c_xr_24_e (hL : L < 2 ^ 31) : ci L xs 123 k_xr_24_e :=
  mi_ok (fc := 9000) (f := 9000) (cuts := []) (xk := jx) cl_lok cl_hrf (cl_hro L xs) hL jx_ok (by decide +kernel)
def k_xr_24_0 : ct_C := ([(2, .ofNat 8, .ofNat 8)], [(10, 210, .ofNat 0, .ofNat 29), (32, 1, .ofNat 24, .ofNat 24), (32, 2, .ofNat 25, .ofNat 40), (33, 96, .ofNat 0, .ofNat 4), (33, 97, .ofNat 0, .ofNat 5), (33, 99, .negSucc 0, .ofNat 143)], [(10, 210, .ofNat 0, .ofNat 29), (32, 1, .ofNat 25, .ofNat 25)], [10], (some (0, .ofNat 0, .ofNat 15)), 3, false)
theorem c_xr_24_0 (hL : L < 2 ^ 31) : ci L xs 123 k_xr_24_0 :=
  mi_ok (fc := 9000) (f := 9000) (cuts := []) (xk := jx) cl_lok cl_hrf (cl_hro L xs) hL jx_ok (by decide +kernel)
def k_xr_24_1 : ct_C := ([(2, .ofNat 8, .ofNat 8)], [(10, 210, .ofNat 0, .ofNat 29), (32, 1, .ofNat 24, .ofNat 24), (32, 2, .ofNat 25, .ofNat 40), (33, 96, .ofNat 5, .ofNat 5), (33, 97, .ofNat 0, .ofNat 29), (33, 99, .negSucc 0, .ofNat 143)], [(10, 210, .ofNat 0, .ofNat 29), (32, 1, .ofNat 25, .ofNat 25)], [10], (some (0, .ofNat 0, .ofNat 15)), 3, false)
theorem c_xr_24_1 (hL : L < 2 ^ 31) : ci L xs 123 k_xr_24_1 :=
  mi_ok (fc := 9000) (f := 9000) (cuts := []) (xk := jx) cl_lok cl_hrf (cl_hro L xs) hL jx_ok (by decide +kernel)
def k_xr_24_2 : ct_C := ([(2, .ofNat 8, .ofNat 8)], [(10, 210, .ofNat 0, .ofNat 29), (32, 1, .ofNat 24, .ofNat 24), (32, 2, .ofNat 25, .ofNat 40), (33, 96, .ofNat 6, .ofNat 6), (33, 97, .ofNat 0, .ofNat 11), (33, 99, .negSucc 0, .ofNat 143)], [(10, 210, .ofNat 0, .ofNat 29), (32, 1, .ofNat 25, .ofNat 25)], [10], (some (0, .ofNat 0, .ofNat 15)), 3, false)
theorem c_xr_24_2 (hL : L < 2 ^ 31) : ci L xs 123 k_xr_24_2 :=
  mi_ok (fc := 9000) (f := 9000) (cuts := []) (xk := jx) cl_lok cl_hrf (cl_hro L xs) hL jx_ok (by decide +kernel)
def k_xr_24_3 : ct_C := ([(2, .ofNat 8, .ofNat 8)], [(10, 210, .ofNat 0, .ofNat 29), (32, 1, .ofNat 24, .ofNat 24), (32, 2, .ofNat 25, .ofNat 40), (33, 96, .ofNat 7, .ofNat 7), (33, 97, .ofNat 0, .ofNat 0), (33, 99, .ofNat 0, .ofNat 29)], [(10, 210, .ofNat 0, .ofNat 29), (32, 1, .ofNat 25, .ofNat 25)], [10], (some (0, .ofNat 0, .ofNat 15)), 3, false)
theorem c_xr_24_3 (hL : L < 2 ^ 31) : ci L xs 123 k_xr_24_3 :=
  mi_ok (fc := 9000) (f := 9000) (cuts := []) (xk := jx) cl_lok cl_hrf (cl_hro L xs) hL jx_ok (by decide +kernel)
def k_xr_24 : ct_C := ([(2, .ofNat 8, .ofNat 8)], [(10, 210, .ofNat 0, .ofNat 29), (32, 1, .ofNat 24, .ofNat 24)], [(10, 210, .ofNat 0, .ofNat 29), (32, 1, .ofNat 0, .ofNat 40)], [10], (some (0, .negSucc 4, .ofNat 15)), 3, false)
theorem s_xr_24 (M : Nat → Nat → Int) (hm : sx_mok cl_ly M) (hJ : JJ M) (hg : ct_g k_xr_24.2.1 M) : ∃ m ∈ [k_xr_24_e, k_xr_24_0, k_xr_24_1, k_xr_24_2, k_xr_24_3], ct_g m.2.1 M := by
  have hv : M 32 1 = 24 := by
    have h := hg (32, 1, .ofNat 24, .ofNat 24) (List.mem_cons_of_mem _ List.mem_cons_self)
    exact Int.le_antisymm h.2 h.1
  have hk := jr_kn hm
  have hu := jr_un hm
  have hd := hJ.2.2.1
  have he := hJ.2.2.2
  by_cases h0 : M 32 2 = 24
  · exact ⟨k_xr_24_e, List.mem_cons_self, (jc (by show (24 : Int) ≤ M 32 1; omega) (by show M 32 1 ≤ (24 : Int); omega) (jc (by show (24 : Int) ≤ M 32 2; omega) (by show M 32 2 ≤ (24 : Int); omega) jn))⟩
  · have h8 : jp (M 33 96) (M 33 97) (M 33 98) (M 33 99) := hJ.1 24 (by decide)
    obtain ⟨⟨b1, b2, b3, b4⟩, h8⟩ := h8
    rcases h8 with h8 | h8 | h8 | h8
    · exact ⟨k_xr_24_0, (List.mem_cons_of_mem _ List.mem_cons_self), (jh (hg (10, 210, .ofNat 0, .ofNat 29) List.mem_cons_self) (jc (by show (24 : Int) ≤ M 32 1; omega) (by show M 32 1 ≤ (24 : Int); omega) (jc (by show (25 : Int) ≤ M 32 2; omega) (by show M 32 2 ≤ (40 : Int); omega) (jc (by show (0 : Int) ≤ M 33 96; omega) (by show M 33 96 ≤ (4 : Int); omega) (jc (by show (0 : Int) ≤ M 33 97; omega) (by show M 33 97 ≤ (5 : Int); omega) (jc (by show (-1 : Int) ≤ M 33 99; omega) (by show M 33 99 ≤ (143 : Int); omega) jn))))))⟩
    · exact ⟨k_xr_24_1, (List.mem_cons_of_mem _ (List.mem_cons_of_mem _ List.mem_cons_self)), (jh (hg (10, 210, .ofNat 0, .ofNat 29) List.mem_cons_self) (jc (by show (24 : Int) ≤ M 32 1; omega) (by show M 32 1 ≤ (24 : Int); omega) (jc (by show (25 : Int) ≤ M 32 2; omega) (by show M 32 2 ≤ (40 : Int); omega) (jc (by show (5 : Int) ≤ M 33 96; omega) (by show M 33 96 ≤ (5 : Int); omega) (jc (by show (0 : Int) ≤ M 33 97; omega) (by show M 33 97 ≤ (29 : Int); omega) (jc (by show (-1 : Int) ≤ M 33 99; omega) (by show M 33 99 ≤ (143 : Int); omega) jn))))))⟩
    · exact ⟨k_xr_24_2, (List.mem_cons_of_mem _ (List.mem_cons_of_mem _ (List.mem_cons_of_mem _ List.mem_cons_self))), (jh (hg (10, 210, .ofNat 0, .ofNat 29) List.mem_cons_self) (jc (by show (24 : Int) ≤ M 32 1; omega) (by show M 32 1 ≤ (24 : Int); omega) (jc (by show (25 : Int) ≤ M 32 2; omega) (by show M 32 2 ≤ (40 : Int); omega) (jc (by show (6 : Int) ≤ M 33 96; omega) (by show M 33 96 ≤ (6 : Int); omega) (jc (by show (0 : Int) ≤ M 33 97; omega) (by show M 33 97 ≤ (11 : Int); omega) (jc (by show (-1 : Int) ≤ M 33 99; omega) (by show M 33 99 ≤ (143 : Int); omega) jn))))))⟩
    · exact ⟨k_xr_24_3, (List.mem_cons_of_mem _ (List.mem_cons_of_mem _ (List.mem_cons_of_mem _ (List.mem_cons_of_mem _ List.mem_cons_self)))), (jh (hg (10, 210, .ofNat 0, .ofNat 29) List.mem_cons_self) (jc (by show (24 : Int) ≤ M 32 1; omega) (by show M 32 1 ≤ (24 : Int); omega) (jc (by show (25 : Int) ≤ M 32 2; omega) (by show M 32 2 ≤ (40 : Int); omega) (jc (by show (7 : Int) ≤ M 33 96; omega) (by show M 33 96 ≤ (7 : Int); omega) (jc (by show (0 : Int) ≤ M 33 97; omega) (by show M 33 97 ≤ (0 : Int); omega) (jc (by show (0 : Int) ≤ M 33 99; omega) (by show M 33 99 ≤ (29 : Int); omega) jn))))))⟩
theorem c_xr_24 (hL : L < 2 ^ 31) : ci L xs 123 k_xr_24 :=
  ci_j_ok (ms := [k_xr_24_e, k_xr_24_0, k_xr_24_1, k_xr_24_2, k_xr_24_3]) (jl_cons (c_xr_24_e hL) (jl_cons (c_xr_24_0 hL) (jl_cons (c_xr_24_1 hL) (jl_cons (c_xr_24_2 hL) (jl_cons (c_xr_24_3 hL) jl_nil))))) s_xr_24 (by decide +kernel)
def k_xr_25_e : ct_C := ([(2, .ofNat 8, .ofNat 8)], [(32, 1, .ofNat 25, .ofNat 25), (32, 2, .ofNat 25, .ofNat 25)], [], [], (some (0, .negSucc 4, .negSucc 4)), 1, false)
theorem c_xr_25_e (hL : L < 2 ^ 31) : ci L xs 123 k_xr_25_e :=
  mi_ok (fc := 9000) (f := 9000) (cuts := []) (xk := jx) cl_lok cl_hrf (cl_hro L xs) hL jx_ok (by decide +kernel)
def k_xr_25_0 : ct_C := ([(2, .ofNat 8, .ofNat 8)], [(10, 210, .ofNat 0, .ofNat 29), (32, 1, .ofNat 25, .ofNat 25), (32, 2, .ofNat 26, .ofNat 40), (33, 100, .ofNat 0, .ofNat 4), (33, 101, .ofNat 0, .ofNat 5), (33, 103, .negSucc 0, .ofNat 143)], [(10, 210, .ofNat 0, .ofNat 29), (32, 1, .ofNat 26, .ofNat 26)], [10], (some (0, .ofNat 0, .ofNat 14)), 3, false)
theorem c_xr_25_0 (hL : L < 2 ^ 31) : ci L xs 123 k_xr_25_0 :=
  mi_ok (fc := 9000) (f := 9000) (cuts := []) (xk := jx) cl_lok cl_hrf (cl_hro L xs) hL jx_ok (by decide +kernel)
def k_xr_25_1 : ct_C := ([(2, .ofNat 8, .ofNat 8)], [(10, 210, .ofNat 0, .ofNat 29), (32, 1, .ofNat 25, .ofNat 25), (32, 2, .ofNat 26, .ofNat 40), (33, 100, .ofNat 5, .ofNat 5), (33, 101, .ofNat 0, .ofNat 29), (33, 103, .negSucc 0, .ofNat 143)], [(10, 210, .ofNat 0, .ofNat 29), (32, 1, .ofNat 26, .ofNat 26)], [10], (some (0, .ofNat 0, .ofNat 14)), 3, false)
theorem c_xr_25_1 (hL : L < 2 ^ 31) : ci L xs 123 k_xr_25_1 :=
  mi_ok (fc := 9000) (f := 9000) (cuts := []) (xk := jx) cl_lok cl_hrf (cl_hro L xs) hL jx_ok (by decide +kernel)
def k_xr_25_2 : ct_C := ([(2, .ofNat 8, .ofNat 8)], [(10, 210, .ofNat 0, .ofNat 29), (32, 1, .ofNat 25, .ofNat 25), (32, 2, .ofNat 26, .ofNat 40), (33, 100, .ofNat 6, .ofNat 6), (33, 101, .ofNat 0, .ofNat 11), (33, 103, .negSucc 0, .ofNat 143)], [(10, 210, .ofNat 0, .ofNat 29), (32, 1, .ofNat 26, .ofNat 26)], [10], (some (0, .ofNat 0, .ofNat 14)), 3, false)
theorem c_xr_25_2 (hL : L < 2 ^ 31) : ci L xs 123 k_xr_25_2 :=
  mi_ok (fc := 9000) (f := 9000) (cuts := []) (xk := jx) cl_lok cl_hrf (cl_hro L xs) hL jx_ok (by decide +kernel)
def k_xr_25_3 : ct_C := ([(2, .ofNat 8, .ofNat 8)], [(10, 210, .ofNat 0, .ofNat 29), (32, 1, .ofNat 25, .ofNat 25), (32, 2, .ofNat 26, .ofNat 40), (33, 100, .ofNat 7, .ofNat 7), (33, 101, .ofNat 0, .ofNat 0), (33, 103, .ofNat 0, .ofNat 29)], [(10, 210, .ofNat 0, .ofNat 29), (32, 1, .ofNat 26, .ofNat 26)], [10], (some (0, .ofNat 0, .ofNat 14)), 3, false)
theorem c_xr_25_3 (hL : L < 2 ^ 31) : ci L xs 123 k_xr_25_3 :=
  mi_ok (fc := 9000) (f := 9000) (cuts := []) (xk := jx) cl_lok cl_hrf (cl_hro L xs) hL jx_ok (by decide +kernel)
def k_xr_25 : ct_C := ([(2, .ofNat 8, .ofNat 8)], [(10, 210, .ofNat 0, .ofNat 29), (32, 1, .ofNat 25, .ofNat 25)], [(10, 210, .ofNat 0, .ofNat 29), (32, 1, .ofNat 0, .ofNat 40)], [10], (some (0, .negSucc 4, .ofNat 14)), 3, false)
theorem s_xr_25 (M : Nat → Nat → Int) (hm : sx_mok cl_ly M) (hJ : JJ M) (hg : ct_g k_xr_25.2.1 M) : ∃ m ∈ [k_xr_25_e, k_xr_25_0, k_xr_25_1, k_xr_25_2, k_xr_25_3], ct_g m.2.1 M := by
  have hv : M 32 1 = 25 := by
    have h := hg (32, 1, .ofNat 25, .ofNat 25) (List.mem_cons_of_mem _ List.mem_cons_self)
    exact Int.le_antisymm h.2 h.1
  have hk := jr_kn hm
  have hu := jr_un hm
  have hd := hJ.2.2.1
  have he := hJ.2.2.2
  by_cases h0 : M 32 2 = 25
  · exact ⟨k_xr_25_e, List.mem_cons_self, (jc (by show (25 : Int) ≤ M 32 1; omega) (by show M 32 1 ≤ (25 : Int); omega) (jc (by show (25 : Int) ≤ M 32 2; omega) (by show M 32 2 ≤ (25 : Int); omega) jn))⟩
  · have h8 : jp (M 33 100) (M 33 101) (M 33 102) (M 33 103) := hJ.1 25 (by decide)
    obtain ⟨⟨b1, b2, b3, b4⟩, h8⟩ := h8
    rcases h8 with h8 | h8 | h8 | h8
    · exact ⟨k_xr_25_0, (List.mem_cons_of_mem _ List.mem_cons_self), (jh (hg (10, 210, .ofNat 0, .ofNat 29) List.mem_cons_self) (jc (by show (25 : Int) ≤ M 32 1; omega) (by show M 32 1 ≤ (25 : Int); omega) (jc (by show (26 : Int) ≤ M 32 2; omega) (by show M 32 2 ≤ (40 : Int); omega) (jc (by show (0 : Int) ≤ M 33 100; omega) (by show M 33 100 ≤ (4 : Int); omega) (jc (by show (0 : Int) ≤ M 33 101; omega) (by show M 33 101 ≤ (5 : Int); omega) (jc (by show (-1 : Int) ≤ M 33 103; omega) (by show M 33 103 ≤ (143 : Int); omega) jn))))))⟩
    · exact ⟨k_xr_25_1, (List.mem_cons_of_mem _ (List.mem_cons_of_mem _ List.mem_cons_self)), (jh (hg (10, 210, .ofNat 0, .ofNat 29) List.mem_cons_self) (jc (by show (25 : Int) ≤ M 32 1; omega) (by show M 32 1 ≤ (25 : Int); omega) (jc (by show (26 : Int) ≤ M 32 2; omega) (by show M 32 2 ≤ (40 : Int); omega) (jc (by show (5 : Int) ≤ M 33 100; omega) (by show M 33 100 ≤ (5 : Int); omega) (jc (by show (0 : Int) ≤ M 33 101; omega) (by show M 33 101 ≤ (29 : Int); omega) (jc (by show (-1 : Int) ≤ M 33 103; omega) (by show M 33 103 ≤ (143 : Int); omega) jn))))))⟩
    · exact ⟨k_xr_25_2, (List.mem_cons_of_mem _ (List.mem_cons_of_mem _ (List.mem_cons_of_mem _ List.mem_cons_self))), (jh (hg (10, 210, .ofNat 0, .ofNat 29) List.mem_cons_self) (jc (by show (25 : Int) ≤ M 32 1; omega) (by show M 32 1 ≤ (25 : Int); omega) (jc (by show (26 : Int) ≤ M 32 2; omega) (by show M 32 2 ≤ (40 : Int); omega) (jc (by show (6 : Int) ≤ M 33 100; omega) (by show M 33 100 ≤ (6 : Int); omega) (jc (by show (0 : Int) ≤ M 33 101; omega) (by show M 33 101 ≤ (11 : Int); omega) (jc (by show (-1 : Int) ≤ M 33 103; omega) (by show M 33 103 ≤ (143 : Int); omega) jn))))))⟩
    · exact ⟨k_xr_25_3, (List.mem_cons_of_mem _ (List.mem_cons_of_mem _ (List.mem_cons_of_mem _ (List.mem_cons_of_mem _ List.mem_cons_self)))), (jh (hg (10, 210, .ofNat 0, .ofNat 29) List.mem_cons_self) (jc (by show (25 : Int) ≤ M 32 1; omega) (by show M 32 1 ≤ (25 : Int); omega) (jc (by show (26 : Int) ≤ M 32 2; omega) (by show M 32 2 ≤ (40 : Int); omega) (jc (by show (7 : Int) ≤ M 33 100; omega) (by show M 33 100 ≤ (7 : Int); omega) (jc (by show (0 : Int) ≤ M 33 101; omega) (by show M 33 101 ≤ (0 : Int); omega) (jc (by show (0 : Int) ≤ M 33 103; omega) (by show M 33 103 ≤ (29 : Int); omega) jn))))))⟩
theorem c_xr_25 (hL : L < 2 ^ 31) : ci L xs 123 k_xr_25 :=
  ci_j_ok (ms := [k_xr_25_e, k_xr_25_0, k_xr_25_1, k_xr_25_2, k_xr_25_3]) (jl_cons (c_xr_25_e hL) (jl_cons (c_xr_25_0 hL) (jl_cons (c_xr_25_1 hL) (jl_cons (c_xr_25_2 hL) (jl_cons (c_xr_25_3 hL) jl_nil))))) s_xr_25 (by decide +kernel)
def k_xr_26_e : ct_C := ([(2, .ofNat 8, .ofNat 8)], [(32, 1, .ofNat 26, .ofNat 26), (32, 2, .ofNat 26, .ofNat 26)], [], [], (some (0, .negSucc 4, .negSucc 4)), 1, false)
theorem c_xr_26_e (hL : L < 2 ^ 31) : ci L xs 123 k_xr_26_e :=
  mi_ok (fc := 9000) (f := 9000) (cuts := []) (xk := jx) cl_lok cl_hrf (cl_hro L xs) hL jx_ok (by decide +kernel)
def k_xr_26_0 : ct_C := ([(2, .ofNat 8, .ofNat 8)], [(10, 210, .ofNat 0, .ofNat 29), (32, 1, .ofNat 26, .ofNat 26), (32, 2, .ofNat 27, .ofNat 40), (33, 104, .ofNat 0, .ofNat 4), (33, 105, .ofNat 0, .ofNat 5), (33, 107, .negSucc 0, .ofNat 143)], [(10, 210, .ofNat 0, .ofNat 29), (32, 1, .ofNat 27, .ofNat 27)], [10], (some (0, .ofNat 0, .ofNat 13)), 3, false)
theorem c_xr_26_0 (hL : L < 2 ^ 31) : ci L xs 123 k_xr_26_0 :=
  mi_ok (fc := 9000) (f := 9000) (cuts := []) (xk := jx) cl_lok cl_hrf (cl_hro L xs) hL jx_ok (by decide +kernel)
end
