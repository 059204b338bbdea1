/-! mend, undo, redo, 22. -/
section
variable {L : Nat} {xs : Nat → Int32}
def k_mu_12_1 : ct_C := ([(2, .ofNat 53, .ofNat 53)], [(53, 14, .ofNat 12, .ofNat 12), (53, 15, .ofNat 0, .ofNat 28), (62, 11, .ofNat 5, .ofNat 5), (63, 11, .ofNat 0, .ofNat 29), (64, 11, .negSucc 0, .ofNat 143)], [(53, 14, .ofNat 11, .ofNat 11), (53, 15, .ofNat 1, .ofNat 29)], [61], (some (0, .ofNat 11, .ofNat 11)), 2, false)
theorem c_mu_12_1 (hL : L < 2 ^ 31) : ci L xs 160 k_mu_12_1 :=
  mi_ok (fc := 9000) (f := 9000) (cuts := []) (xk := jx) cl_lok cl_hrf (cl_hro L xs) hL jx_ok (by decide +kernel)
def k_mu_12_2 : ct_C := ([(2, .ofNat 53, .ofNat 53)], [(53, 14, .ofNat 12, .ofNat 12), (53, 15, .ofNat 0, .ofNat 28), (62, 11, .ofNat 6, .ofNat 6), (63, 11, .ofNat 0, .ofNat 11), (64, 11, .negSucc 0, .ofNat 143)], [(53, 14, .ofNat 11, .ofNat 11), (53, 15, .ofNat 1, .ofNat 29)], [60], (some (0, .ofNat 11, .ofNat 11)), 2, false)
theorem c_mu_12_2 (hL : L < 2 ^ 31) : ci L xs 160 k_mu_12_2 :=
  mi_ok (fc := 9000) (f := 9000) (cuts := []) (xk := jx) cl_lok cl_hrf (cl_hro L xs) hL jx_ok (by decide +kernel)
def k_mu_12_3 : ct_C := ([(2, .ofNat 53, .ofNat 53)], [(53, 14, .ofNat 12, .ofNat 12), (53, 15, .ofNat 0, .ofNat 28), (62, 11, .ofNat 7, .ofNat 7), (63, 11, .ofNat 0, .ofNat 0), (64, 11, .ofNat 0, .ofNat 29)], [(53, 13, .ofNat 0, .ofNat 29), (53, 14, .ofNat 11, .ofNat 11), (53, 15, .ofNat 1, .ofNat 29)], [], (some (0, .ofNat 11, .ofNat 11)), 2, false)
theorem c_mu_12_3 (hL : L < 2 ^ 31) : ci L xs 160 k_mu_12_3 :=
  mi_ok (fc := 9000) (f := 9000) (cuts := []) (xk := jx) cl_lok cl_hrf (cl_hro L xs) hL jx_ok (by decide +kernel)
def k_mu_12 : ct_C := ([(2, .ofNat 53, .ofNat 53)], [(53, 14, .ofNat 12, .ofNat 12)], [(53, 13, .ofNat 0, .ofNat 29), (53, 14, .ofNat 0, .ofNat 40), (53, 15, .ofNat 0, .ofNat 40)], [54, 55, 56, 57, 58, 60, 61], (some (0, .ofNat 11, .ofNat 11)), 2, false)
theorem s_mu_12 (M : Nat → Nat → Int) (hm : sx_mok cl_ly M) (hJ : JJ M) (hg : ct_g k_mu_12.2.1 M) : ∃ m ∈ [k_mu_12_0, k_mu_12_1, k_mu_12_2, k_mu_12_3], ct_g m.2.1 M := by
  have hv : M 53 14 = 12 := by
    have h := hg (53, 14, .ofNat 12, .ofNat 12) List.mem_cons_self
    exact Int.le_antisymm h.2 h.1
  have hk := jr_kn hm
  have hu := jr_un hm
  have hd := hJ.2.2.1
  have he := hJ.2.2.2
  have h8 : jp (M 62 11) (M 63 11) (M 64 11) (M 65 11) := hJ.2.1 11 (by decide)
  obtain ⟨⟨b1, b2, b3, b4⟩, h8⟩ := h8
  rcases h8 with h8 | h8 | h8 | h8
  · exact ⟨k_mu_12_0, List.mem_cons_self, (jc (by show (12 : Int) ≤ M 53 14; omega) (by show M 53 14 ≤ (12 : Int); omega) (jc (by show (0 : Int) ≤ M 53 15; omega) (by show M 53 15 ≤ (28 : Int); omega) (jc (by show (0 : Int) ≤ M 62 11; omega) (by show M 62 11 ≤ (4 : Int); omega) (jc (by show (0 : Int) ≤ M 63 11; omega) (by show M 63 11 ≤ (5 : Int); omega) (jc (by show (-1 : Int) ≤ M 64 11; omega) (by show M 64 11 ≤ (143 : Int); omega) jn)))))⟩
  · exact ⟨k_mu_12_1, (List.mem_cons_of_mem _ List.mem_cons_self), (jc (by show (12 : Int) ≤ M 53 14; omega) (by show M 53 14 ≤ (12 : Int); omega) (jc (by show (0 : Int) ≤ M 53 15; omega) (by show M 53 15 ≤ (28 : Int); omega) (jc (by show (5 : Int) ≤ M 62 11; omega) (by show M 62 11 ≤ (5 : Int); omega) (jc (by show (0 : Int) ≤ M 63 11; omega) (by show M 63 11 ≤ (29 : Int); omega) (jc (by show (-1 : Int) ≤ M 64 11; omega) (by show M 64 11 ≤ (143 : Int); omega) jn)))))⟩
  · exact ⟨k_mu_12_2, (List.mem_cons_of_mem _ (List.mem_cons_of_mem _ List.mem_cons_self)), (jc (by show (12 : Int) ≤ M 53 14; omega) (by show M 53 14 ≤ (12 : Int); omega) (jc (by show (0 : Int) ≤ M 53 15; omega) (by show M 53 15 ≤ (28 : Int); omega) (jc (by show (6 : Int) ≤ M 62 11; omega) (by show M 62 11 ≤ (6 : Int); omega) (jc (by show (0 : Int) ≤ M 63 11; omega) (by show M 63 11 ≤ (11 : Int); omega) (jc (by show (-1 : Int) ≤ M 64 11; omega) (by show M 64 11 ≤ (143 : Int); omega) jn)))))⟩
  · exact ⟨k_mu_12_3, (List.mem_cons_of_mem _ (List.mem_cons_of_mem _ (List.mem_cons_of_mem _ List.mem_cons_self))), (jc (by show (12 : Int) ≤ M 53 14; omega) (by show M 53 14 ≤ (12 : Int); omega) (jc (by show (0 : Int) ≤ M 53 15; omega) (by show M 53 15 ≤ (28 : Int); omega) (jc (by show (7 : Int) ≤ M 62 11; omega) (by show M 62 11 ≤ (7 : Int); omega) (jc (by show (0 : Int) ≤ M 63 11; omega) (by show M 63 11 ≤ (0 : Int); omega) (jc (by show (0 : Int) ≤ M 64 11; omega) (by show M 64 11 ≤ (29 : Int); omega) jn)))))⟩
theorem c_mu_12 (hL : L < 2 ^ 31) : ci L xs 160 k_mu_12 :=
  ci_j_ok (ms := [k_mu_12_0, k_mu_12_1, k_mu_12_2, k_mu_12_3]) (jl_cons (c_mu_12_0 hL) (jl_cons (c_mu_12_1 hL) (jl_cons (c_mu_12_2 hL) (jl_cons (c_mu_12_3 hL) jl_nil)))) s_mu_12 (by decide +kernel)
def k_mu_13_0 : ct_C := ([(2, .ofNat 53, .ofNat 53)], [(53, 14, .ofNat 13, .ofNat 13), (53, 15, .ofNat 0, .ofNat 27), (62, 12, .ofNat 0, .ofNat 4), (63, 12, .ofNat 0, .ofNat 5), (64, 12, .negSucc 0, .ofNat 143)], [(53, 14, .ofNat 12, .ofNat 12), (53, 15, .ofNat 1, .ofNat 28)], [54, 55, 56, 57, 58], (some (0, .ofNat 12, .ofNat 12)), 2, false)
theorem c_mu_13_0 (hL : L < 2 ^ 31) : ci L xs 160 k_mu_13_0 :=
  mi_ok (fc := 9000) (f := 9000) (cuts := []) (xk := jx) cl_lok cl_hrf (cl_hro L xs) hL jx_ok (by decide +kernel)
def k_mu_13_1 : ct_C := ([(2, .ofNat 53, .ofNat 53)], [(53, 14, .ofNat 13, .ofNat 13), (53, 15, .ofNat 0, .ofNat 27), (62, 12, .ofNat 5, .ofNat 5), (63, 12, .ofNat 0, .ofNat 29), (64, 12, .negSucc 0, .ofNat 143)], [(53, 14, .ofNat 12, .ofNat 12), (53, 15, .ofNat 1, .ofNat 28)], [61], (some (0, .ofNat 12, .ofNat 12)), 2, false)
theorem c_mu_13_1 (hL : L < 2 ^ 31) : ci L xs 160 k_mu_13_1 :=
  mi_ok (fc := 9000) (f := 9000) (cuts := []) (xk := jx) cl_lok cl_hrf (cl_hro L xs) hL jx_ok (by decide +kernel)
def k_mu_13_2 : ct_C := ([(2, .ofNat 53, .ofNat 53)], [(53, 14, .ofNat 13, .ofNat 13), (53, 15, .ofNat 0, .ofNat 27), (62, 12, .ofNat 6, .ofNat 6), (63, 12, .ofNat 0, .ofNat 11), (64, 12, .negSucc 0, .ofNat 143)], [(53, 14, .ofNat 12, .ofNat 12), (53, 15, .ofNat 1, .ofNat 28)], [60], (some (0, .ofNat 12, .ofNat 12)), 2, false)
theorem c_mu_13_2 (hL : L < 2 ^ 31) : ci L xs 160 k_mu_13_2 :=
  mi_ok (fc := 9000) (f := 9000) (cuts := []) (xk := jx) cl_lok cl_hrf (cl_hro L xs) hL jx_ok (by decide +kernel)
def k_mu_13_3 : ct_C := ([(2, .ofNat 53, .ofNat 53)], [(53, 14, .ofNat 13, .ofNat 13), (53, 15, .ofNat 0, .ofNat 27), (62, 12, .ofNat 7, .ofNat 7), (63, 12, .ofNat 0, .ofNat 0), (64, 12, .ofNat 0, .ofNat 29)], [(53, 13, .ofNat 0, .ofNat 29), (53, 14, .ofNat 12, .ofNat 12), (53, 15, .ofNat 1, .ofNat 28)], [], (some (0, .ofNat 12, .ofNat 12)), 2, false)
theorem c_mu_13_3 (hL : L < 2 ^ 31) : ci L xs 160 k_mu_13_3 :=
  mi_ok (fc := 9000) (f := 9000) (cuts := []) (xk := jx) cl_lok cl_hrf (cl_hro L xs) hL jx_ok (by decide +kernel)
def k_mu_13 : ct_C := ([(2, .ofNat 53, .ofNat 53)], [(53, 14, .ofNat 13, .ofNat 13)], [(53, 13, .ofNat 0, .ofNat 29), (53, 14, .ofNat 0, .ofNat 40), (53, 15, .ofNat 0, .ofNat 40)], [54, 55, 56, 57, 58, 60, 61], (some (0, .ofNat 12, .ofNat 12)), 2, false)
theorem s_mu_13 (M : Nat → Nat → Int) (hm : sx_mok cl_ly M) (hJ : JJ M) (hg : ct_g k_mu_13.2.1 M) : ∃ m ∈ [k_mu_13_0, k_mu_13_1, k_mu_13_2, k_mu_13_3], ct_g m.2.1 M := by
  have hv : M 53 14 = 13 := by
    have h := hg (53, 14, .ofNat 13, .ofNat 13) List.mem_cons_self
    exact Int.le_antisymm h.2 h.1
  have hk := jr_kn hm
  have hu := jr_un hm
  have hd := hJ.2.2.1
  have he := hJ.2.2.2
  have h8 : jp (M 62 12) (M 63 12) (M 64 12) (M 65 12) := hJ.2.1 12 (by decide)
  obtain ⟨⟨b1, b2, b3, b4⟩, h8⟩ := h8
  rcases h8 with h8 | h8 | h8 | h8
  · exact ⟨k_mu_13_0, List.mem_cons_self, (jc (by show (13 : Int) ≤ M 53 14; omega) (by show M 53 14 ≤ (13 : Int); omega) (jc (by show (0 : Int) ≤ M 53 15; omega) (by show M 53 15 ≤ (27 : Int); omega) (jc (by show (0 : Int) ≤ M 62 12; omega) (by show M 62 12 ≤ (4 : Int); omega) (jc (by show (0 : Int) ≤ M 63 12; omega) (by show M 63 12 ≤ (5 : Int); omega) (jc (by show (-1 : Int) ≤ M 64 12; omega) (by show M 64 12 ≤ (143 : Int); omega) jn)))))⟩
  · exact ⟨k_mu_13_1, (List.mem_cons_of_mem _ List.mem_cons_self), (jc (by show (13 : Int) ≤ M 53 14; omega) (by show M 53 14 ≤ (13 : Int); omega) (jc (by show (0 : Int) ≤ M 53 15; omega) (by show M 53 15 ≤ (27 : Int); omega) (jc (by show (5 : Int) ≤ M 62 12; omega) (by show M 62 12 ≤ (5 : Int); omega) (jc (by show (0 : Int) ≤ M 63 12; omega) (by show M 63 12 ≤ (29 : Int); omega) (jc (by show (-1 : Int) ≤ M 64 12; omega) (by show M 64 12 ≤ (143 : Int); omega) jn)))))⟩
  · exact ⟨k_mu_13_2, (List.mem_cons_of_mem _ (List.mem_cons_of_mem _ List.mem_cons_self)), (jc (by show (13 : Int) ≤ M 53 14; omega) (by show M 53 14 ≤ (13 : Int); omega) (jc (by show (0 : Int) ≤ M 53 15; omega) (by show M 53 15 ≤ (27 : Int); omega) (jc (by show (6 : Int) ≤ M 62 12; omega) (by show M 62 12 ≤ (6 : Int); omega) (jc (by show (0 : Int) ≤ M 63 12; omega) (by show M 63 12 ≤ (11 : Int); omega) (jc (by show (-1 : Int) ≤ M 64 12; omega) (by show M 64 12 ≤ (143 : Int); omega) jn)))))⟩
  · exact ⟨k_mu_13_3, (List.mem_cons_of_mem _ (List.mem_cons_of_mem _ (List.mem_cons_of_mem _ List.mem_cons_self))), (jc (by show (13 : Int) ≤ M 53 14; omega) (by show M 53 14 ≤ (13 : Int); omega) (jc (by show (0 : Int) ≤ M 53 15; omega) (by show M 53 15 ≤ (27 : Int); omega) (jc (by show (7 : Int) ≤ M 62 12; omega) (by show M 62 12 ≤ (7 : Int); omega) (jc (by show (0 : Int) ≤ M 63 12; omega) (by show M 63 12 ≤ (0 : Int); omega) (jc (by show (0 : Int) ≤ M 64 12; omega) (by show M 64 12 ≤ (29 : Int); omega) jn)))))⟩
theorem c_mu_13 (hL : L < 2 ^ 31) : ci L xs 160 k_mu_13 :=
  ci_j_ok (ms := [k_mu_13_0, k_mu_13_1, k_mu_13_2, k_mu_13_3]) (jl_cons (c_mu_13_0 hL) (jl_cons (c_mu_13_1 hL) (jl_cons (c_mu_13_2 hL) (jl_cons (c_mu_13_3 hL) jl_nil)))) s_mu_13 (by decide +kernel)
def k_mu_14_0 : ct_C := ([(2, .ofNat 53, .ofNat 53)], [(53, 14, .ofNat 14, .ofNat 14), (53, 15, .ofNat 0, .ofNat 26), (62, 13, .ofNat 0, .ofNat 4), (63, 13, .ofNat 0, .ofNat 5), (64, 13, .negSucc 0, .ofNat 143)], [(53, 14, .ofNat 13, .ofNat 13), (53, 15, .ofNat 1, .ofNat 27)], [54, 55, 56, 57, 58], (some (0, .ofNat 13, .ofNat 13)), 2, false)
theorem c_mu_14_0 (hL : L < 2 ^ 31) : ci L xs 160 k_mu_14_0 :=
  mi_ok (fc := 9000) (f := 9000) (cuts := []) (xk := jx) cl_lok cl_hrf (cl_hro L xs) hL jx_ok (by decide +kernel)
def k_mu_14_1 : ct_C := ([(2, .ofNat 53, .ofNat 53)], [(53, 14, .ofNat 14, .ofNat 14), (53, 15, .ofNat 0, .ofNat 26), (62, 13, .ofNat 5, .ofNat 5), (63, 13, .ofNat 0, .ofNat 29), (64, 13, .negSucc 0, .ofNat 143)], [(53, 14, .ofNat 13, .ofNat 13), (53, 15, .ofNat 1, .ofNat 27)], [61], (some (0, .ofNat 13, .ofNat 13)), 2, false)
theorem c_mu_14_1 (hL : L < 2 ^ 31) : ci L xs 160 k_mu_14_1 :=
  mi_ok (fc := 9000) (f := 9000) (cuts := []) (xk := jx) cl_lok cl_hrf (cl_hro L xs) hL jx_ok (by decide +kernel)
def k_mu_14_2 : ct_C := ([(2, .ofNat 53, .ofNat 53)], [(53, 14, .ofNat 14, .ofNat 14), (53, 15, .ofNat 0, .ofNat 26), (62, 13, .ofNat 6, .ofNat 6), (63, 13, .ofNat 0, .ofNat 11), (64, 13, .negSucc 0, .ofNat 143)], [(53, 14, .ofNat 13, .ofNat 13), (53, 15, .ofNat 1, .ofNat 27)], [60], (some (0, .ofNat 13, .ofNat 13)), 2, false)
theorem c_mu_14_2 (hL : L < 2 ^ 31) : ci L xs 160 k_mu_14_2 :=
  mi_ok (fc := 9000) (f := 9000) (cuts := []) (xk := jx) cl_lok cl_hrf (cl_hro L xs) hL jx_ok (by decide +kernel)
def k_mu_14_3 : ct_C := ([(2, .ofNat 53, .ofNat 53)], [(53, 14, .ofNat 14, .ofNat 14), (53, 15, .ofNat 0, .ofNat 26), (62, 13, .ofNat 7, .ofNat 7), (63, 13, .ofNat 0, .ofNat 0), (64, 13, .ofNat 0, .ofNat 29)], [(53, 13, .ofNat 0, .ofNat 29), (53, 14, .ofNat 13, .ofNat 13), (53, 15, .ofNat 1, .ofNat 27)], [], (some (0, .ofNat 13, .ofNat 13)), 2, false)
theorem c_mu_14_3 (hL : L < 2 ^ 31) : ci L xs 160 k_mu_14_3 :=
  mi_ok (fc := 9000) (f := 9000) (cuts := []) (xk := jx) cl_lok cl_hrf (cl_hro L xs) hL jx_ok (by decide +kernel)
def k_mu_14 : ct_C := ([(2, .ofNat 53, .ofNat 53)], [(53, 14, .ofNat 14, .ofNat 14)], [(53, 13, .ofNat 0, .ofNat 29), (53, 14, .ofNat 0, .ofNat 40), (53, 15, .ofNat 0, .ofNat 40)], [54, 55, 56, 57, 58, 60, 61], (some (0, .ofNat 13, .ofNat 13)), 2, false)
theorem s_mu_14 (M : Nat → Nat → Int) (hm : sx_mok cl_ly M) (hJ : JJ M) (hg : ct_g k_mu_14.2.1 M) : ∃ m ∈ [k_mu_14_0, k_mu_14_1, k_mu_14_2, k_mu_14_3], ct_g m.2.1 M := by
  have hv : M 53 14 = 14 := by
    have h := hg (53, 14, .ofNat 14, .ofNat 14) List.mem_cons_self
    exact Int.le_antisymm h.2 h.1
  have hk := jr_kn hm
  have hu := jr_un hm
  have hd := hJ.2.2.1
  have he := hJ.2.2.2
  have h8 : jp (M 62 13) (M 63 13) (M 64 13) (M 65 13) := hJ.2.1 13 (by decide)
  obtain ⟨⟨b1, b2, b3, b4⟩, h8⟩ := h8
  rcases h8 with h8 | h8 | h8 | h8
  · exact ⟨k_mu_14_0, List.mem_cons_self, (jc (by show (14 : Int) ≤ M 53 14; omega) (by show M 53 14 ≤ (14 : Int); omega) (jc (by show (0 : Int) ≤ M 53 15; omega) (by show M 53 15 ≤ (26 : Int); omega) (jc (by show (0 : Int) ≤ M 62 13; omega) (by show M 62 13 ≤ (4 : Int); omega) (jc (by show (0 : Int) ≤ M 63 13; omega) (by show M 63 13 ≤ (5 : Int); omega) (jc (by show (-1 : Int) ≤ M 64 13; omega) (by show M 64 13 ≤ (143 : Int); omega) jn)))))⟩
  · exact ⟨k_mu_14_1, (List.mem_cons_of_mem _ List.mem_cons_self), (jc (by show (14 : Int) ≤ M 53 14; omega) (by show M 53 14 ≤ (14 : Int); omega) (jc (by show (0 : Int) ≤ M 53 15; omega) (by show M 53 15 ≤ (26 : Int); omega) (jc (by show (5 : Int) ≤ M 62 13; omega) (by show M 62 13 ≤ (5 : Int); omega) (jc (by show (0 : Int) ≤ M 63 13; omega) (by show M 63 13 ≤ (29 : Int); omega) (jc (by show (-1 : Int) ≤ M 64 13; omega) (by show M 64 13 ≤ (143 : Int); omega) jn)))))⟩
  · exact ⟨k_mu_14_2, (List.mem_cons_of_mem _ (List.mem_cons_of_mem _ List.mem_cons_self)), (jc (by show (14 : Int) ≤ M 53 14; omega) (by show M 53 14 ≤ (14 : Int); omega) (jc (by show (0 : Int) ≤ M 53 15; omega) (by show M 53 15 ≤ (26 : Int); omega) (jc (by show (6 : Int) ≤ M 62 13; omega) (by show M 62 13 ≤ (6 : Int); omega) (jc (by show (0 : Int) ≤ M 63 13; omega) (by show M 63 13 ≤ (11 : Int); omega) (jc (by show (-1 : Int) ≤ M 64 13; omega) (by show M 64 13 ≤ (143 : Int); omega) jn)))))⟩
  · exact ⟨k_mu_14_3, (List.mem_cons_of_mem _ (List.mem_cons_of_mem _ (List.mem_cons_of_mem _ List.mem_cons_self))), (jc (by show (14 : Int) ≤ M 53 14; omega) (by show M 53 14 ≤ (14 : Int); omega) (jc (by show (0 : Int) ≤ M 53 15; omega) (by show M 53 15 ≤ (26 : Int); omega) (jc (by show (7 : Int) ≤ M 62 13; omega) (by show M 62 13 ≤ (7 : Int); omega) (jc (by show (0 : Int) ≤ M 63 13; omega) (by show M 63 13 ≤ (0 : Int); omega) (jc (by show (0 : Int) ≤ M 64 13; omega) (by show M 64 13 ≤ (29 : Int); omega) jn)))))⟩
theorem c_mu_14 (hL : L < 2 ^ 31) : ci L xs 160 k_mu_14 :=
  ci_j_ok (ms := [k_mu_14_0, k_mu_14_1, k_mu_14_2, k_mu_14_3]) (jl_cons (c_mu_14_0 hL) (jl_cons (c_mu_14_1 hL) (jl_cons (c_mu_14_2 hL) (jl_cons (c_mu_14_3 hL) jl_nil)))) s_mu_14 (by decide +kernel)
def k_mu_15_0 : ct_C := ([(2, .ofNat 53, .ofNat 53)], [(53, 14, .ofNat 15, .ofNat 15), (53, 15, .ofNat 0, .ofNat 25), (62, 14, .ofNat 0, .ofNat 4), (63, 14, .ofNat 0, .ofNat 5), (64, 14, .negSucc 0, .ofNat 143)], [(53, 14, .ofNat 14, .ofNat 14), (53, 15, .ofNat 1, .ofNat 26)], [54, 55, 56, 57, 58], (some (0, .ofNat 14, .ofNat 14)), 2, false)
theorem c_mu_15_0 (hL : L < 2 ^ 31) : ci L xs 160 k_mu_15_0 :=
  mi_ok (fc := 9000) (f := 9000) (cuts := []) (xk := jx) cl_lok cl_hrf (cl_hro L xs) hL jx_ok (by decide +kernel)
def k_mu_15_1 : ct_C := ([(2, .ofNat 53, .ofNat 53)], [(53, 14, .ofNat 15, .ofNat 15), (53, 15, .ofNat 0, .ofNat 25), (62, 14, .ofNat 5, .ofNat 5), (63, 14, .ofNat 0, .ofNat 29), (64, 14, .negSucc 0, .ofNat 143)], [(53, 14, .ofNat 14, .ofNat 14), (53, 15, .ofNat 1, .ofNat 26)], [61], (some (0, .ofNat 14, .ofNat 14)), 2, false)
theorem c_mu_15_1 (hL : L < 2 ^ 31) : ci L xs 160 k_mu_15_1 :=
  mi_ok (fc := 9000) (f := 9000) (cuts := []) (xk := jx) cl_lok cl_hrf (cl_hro L xs) hL jx_ok (by decide +kernel)
def k_mu_15_2 : ct_C := ([(2, .ofNat 53, .ofNat 53)], [(53, 14, .ofNat 15, .ofNat 15), (53, 15, .ofNat 0, .ofNat 25), (62, 14, .ofNat 6, .ofNat 6), (63, 14, .ofNat 0, .ofNat 11), (64, 14, .negSucc 0, .ofNat 143)], [(53, 14, .ofNat 14, .ofNat 14), (53, 15, .ofNat 1, .ofNat 26)], [60], (some (0, .ofNat 14, .ofNat 14)), 2, false)
theorem c_mu_15_2 (hL : L < 2 ^ 31) : ci L xs 160 k_mu_15_2 :=
  mi_ok (fc := 9000) (f := 9000) (cuts := []) (xk := jx) cl_lok cl_hrf (cl_hro L xs) hL jx_ok (by decide +kernel)
def k_mu_15_3 : ct_C := ([(2, .ofNat 53, .ofNat 53)], [(53, 14, .ofNat 15, .ofNat 15), (53, 15, .ofNat 0, .ofNat 25), (62, 14, .ofNat 7, .ofNat 7), (63, 14, .ofNat 0, .ofNat 0), (64, 14, .ofNat 0, .ofNat 29)], [(53, 13, .ofNat 0, .ofNat 29), (53, 14, .ofNat 14, .ofNat 14), (53, 15, .ofNat 1, .ofNat 26)], [], (some (0, .ofNat 14, .ofNat 14)), 2, false)
theorem c_mu_15_3 (hL : L < 2 ^ 31) : ci L xs 160 k_mu_15_3 :=
  mi_ok (fc := 9000) (f := 9000) (cuts := []) (xk := jx) cl_lok cl_hrf (cl_hro L xs) hL jx_ok (by decide +kernel)
def k_mu_15 : ct_C := ([(2, .ofNat 53, .ofNat 53)], [(53, 14, .ofNat 15, .ofNat 15)], [(53, 13, .ofNat 0, .ofNat 29), (53, 14, .ofNat 0, .ofNat 40), (53, 15, .ofNat 0, .ofNat 40)], [54, 55, 56, 57, 58, 60, 61], (some (0, .ofNat 14, .ofNat 14)), 2, false)
theorem s_mu_15 (M : Nat → Nat → Int) (hm : sx_mok cl_ly M) (hJ : JJ M) (hg : ct_g k_mu_15.2.1 M) : ∃ m ∈ [k_mu_15_0, k_mu_15_1, k_mu_15_2, k_mu_15_3], ct_g m.2.1 M := by
  have hv : M 53 14 = 15 := by
    have h := hg (53, 14, .ofNat 15, .ofNat 15) List.mem_cons_self
    exact Int.le_antisymm h.2 h.1
  have hk := jr_kn hm
  have hu := jr_un hm
  have hd := hJ.2.2.1
  have he := hJ.2.2.2
  have h8 : jp (M 62 14) (M 63 14) (M 64 14) (M 65 14) := hJ.2.1 14 (by decide)
  obtain ⟨⟨b1, b2, b3, b4⟩, h8⟩ := h8
  rcases h8 with h8 | h8 | h8 | h8
  · exact ⟨k_mu_15_0, List.mem_cons_self, (jc (by show (15 : Int) ≤ M 53 14; omega) (by show M 53 14 ≤ (15 : Int); omega) (jc (by show (0 : Int) ≤ M 53 15; omega) (by show M 53 15 ≤ (25 : Int); omega) (jc (by show (0 : Int) ≤ M 62 14; omega) (by show M 62 14 ≤ (4 : Int); omega) (jc (by show (0 : Int) ≤ M 63 14; omega) (by show M 63 14 ≤ (5 : Int); omega) (jc (by show (-1 : Int) ≤ M 64 14; omega) (by show M 64 14 ≤ (143 : Int); omega) jn)))))⟩
  · exact ⟨k_mu_15_1, (List.mem_cons_of_mem _ List.mem_cons_self), (jc (by show (15 : Int) ≤ M 53 14; omega) (by show M 53 14 ≤ (15 : Int); omega) (jc (by show (0 : Int) ≤ M 53 15; omega) (by show M 53 15 ≤ (25 : Int); omega) (jc (by show (5 : Int) ≤ M 62 14; omega) (by show M 62 14 ≤ (5 : Int); omega) (jc (by show (0 : Int) ≤ M 63 14; omega) (by show M 63 14 ≤ (29 : Int); omega) (jc (by show (-1 : Int) ≤ M 64 14; omega) (by show M 64 14 ≤ (143 : Int); omega) jn)))))⟩
  · exact ⟨k_mu_15_2, (List.mem_cons_of_mem _ (List.mem_cons_of_mem _ List.mem_cons_self)), (jc (by show (15 : Int) ≤ M 53 14; omega) (by show M 53 14 ≤ (15 : Int); omega) (jc (by show (0 : Int) ≤ M 53 15; omega) (by show M 53 15 ≤ (25 : Int); omega) (jc (by show (6 : Int) ≤ M 62 14; omega) (by show M 62 14 ≤ (6 : Int); omega) (jc (by show (0 : Int) ≤ M 63 14; omega) (by show M 63 14 ≤ (11 : Int); omega) (jc (by show (-1 : Int) ≤ M 64 14; omega) (by show M 64 14 ≤ (143 : Int); omega) jn)))))⟩
  · exact ⟨k_mu_15_3, (List.mem_cons_of_mem _ (List.mem_cons_of_mem _ (List.mem_cons_of_mem _ List.mem_cons_self))), (jc (by show (15 : Int) ≤ M 53 14; omega) (by show M 53 14 ≤ (15 : Int); omega) (jc (by show (0 : Int) ≤ M 53 15; omega) (by show M 53 15 ≤ (25 : Int); omega) (jc (by show (7 : Int) ≤ M 62 14; omega) (by show M 62 14 ≤ (7 : Int); omega) (jc (by show (0 : Int) ≤ M 63 14; omega) (by show M 63 14 ≤ (0 : Int); omega) (jc (by show (0 : Int) ≤ M 64 14; omega) (by show M 64 14 ≤ (29 : Int); omega) jn)))))⟩
theorem c_mu_15 (hL : L < 2 ^ 31) : ci L xs 160 k_mu_15 :=
  ci_j_ok (ms := [k_mu_15_0, k_mu_15_1, k_mu_15_2, k_mu_15_3]) (jl_cons (c_mu_15_0 hL) (jl_cons (c_mu_15_1 hL) (jl_cons (c_mu_15_2 hL) (jl_cons (c_mu_15_3 hL) jl_nil)))) s_mu_15 (by decide +kernel)
def k_mu_16_0 : ct_C := ([(2, .ofNat 53, .ofNat 53)], [(53, 14, .ofNat 16, .ofNat 16), (53, 15, .ofNat 0, .ofNat 24), (62, 15, .ofNat 0, .ofNat 4), (63, 15, .ofNat 0, .ofNat 5), (64, 15, .negSucc 0, .ofNat 143)], [(53, 14, .ofNat 15, .ofNat 15), (53, 15, .ofNat 1, .ofNat 25)], [54, 55, 56, 57, 58], (some (0, .ofNat 15, .ofNat 15)), 2, false)
theorem c_mu_16_0 (hL : L < 2 ^ 31) : ci L xs 160 k_mu_16_0 :=
  mi_ok (fc := 9000) (f := 9000) (cuts := []) (xk := jx) cl_lok cl_hrf (cl_hro L xs) hL jx_ok (by decide +kernel)
def k_mu_16_1 : ct_C := ([(2, .ofNat 53, .ofNat 53)], [(53, 14, .ofNat 16, .ofNat 16), (53, 15, .ofNat 0, .ofNat 24), (62, 15, .ofNat 5, .ofNat 5), (63, 15, .ofNat 0, .ofNat 29), (64, 15, .negSucc 0, .ofNat 143)], [(53, 14, .ofNat 15, .ofNat 15), (53, 15, .ofNat 1, .ofNat 25)], [61], (some (0, .ofNat 15, .ofNat 15)), 2, false)
theorem c_mu_16_1 (hL : L < 2 ^ 31) : ci L xs 160 k_mu_16_1 :=
  mi_ok (fc := 9000) (f := 9000) (cuts := []) (xk := jx) cl_lok cl_hrf (cl_hro L xs) hL jx_ok (by decide +kernel)
def k_mu_16_2 : ct_C := ([(2, .ofNat 53, .ofNat 53)], [(53, 14, .ofNat 16, .ofNat 16), (53, 15, .ofNat 0, .ofNat 24), (62, 15, .ofNat 6, .ofNat 6), (63, 15, .ofNat 0, .ofNat 11), (64, 15, .negSucc 0, .ofNat 143)], [(53, 14, .ofNat 15, .ofNat 15), (53, 15, .ofNat 1, .ofNat 25)], [60], (some (0, .ofNat 15, .ofNat 15)), 2, false)
theorem c_mu_16_2 (hL : L < 2 ^ 31) : ci L xs 160 k_mu_16_2 :=
  mi_ok (fc := 9000) (f := 9000) (cuts := []) (xk := jx) cl_lok cl_hrf (cl_hro L xs) hL jx_ok (by decide +kernel)
def k_mu_16_3 : ct_C := ([(2, .ofNat 53, .ofNat 53)], [(53, 14, .ofNat 16, .ofNat 16), (53, 15, .ofNat 0, .ofNat 24), (62, 15, .ofNat 7, .ofNat 7), (63, 15, .ofNat 0, .ofNat 0), (64, 15, .ofNat 0, .ofNat 29)], [(53, 13, .ofNat 0, .ofNat 29), (53, 14, .ofNat 15, .ofNat 15), (53, 15, .ofNat 1, .ofNat 25)], [], (some (0, .ofNat 15, .ofNat 15)), 2, false)
theorem c_mu_16_3 (hL : L < 2 ^ 31) : ci L xs 160 k_mu_16_3 :=
  mi_ok (fc := 9000) (f := 9000) (cuts := []) (xk := jx) cl_lok cl_hrf (cl_hro L xs) hL jx_ok (by decide +kernel)
def k_mu_16 : ct_C := ([(2, .ofNat 53, .ofNat 53)], [(53, 14, .ofNat 16, .ofNat 16)], [(53, 13, .ofNat 0, .ofNat 29), (53, 14, .ofNat 0, .ofNat 40), (53, 15, .ofNat 0, .ofNat 40)], [54, 55, 56, 57, 58, 60, 61], (some (0, .ofNat 15, .ofNat 15)), 2, false)
theorem s_mu_16 (M : Nat → Nat → Int) (hm : sx_mok cl_ly M) (hJ : JJ M) (hg : ct_g k_mu_16.2.1 M) : ∃ m ∈ [k_mu_16_0, k_mu_16_1, k_mu_16_2, k_mu_16_3], ct_g m.2.1 M := by
  have hv : M 53 14 = 16 := by
    have h := hg (53, 14, .ofNat 16, .ofNat 16) List.mem_cons_self
    exact Int.le_antisymm h.2 h.1
  have hk := jr_kn hm
  have hu := jr_un hm
  have hd := hJ.2.2.1
  have he := hJ.2.2.2
  have h8 : jp (M 62 15) (M 63 15) (M 64 15) (M 65 15) := hJ.2.1 15 (by decide)
  obtain ⟨⟨b1, b2, b3, b4⟩, h8⟩ := h8
  rcases h8 with h8 | h8 | h8 | h8
  · exact ⟨k_mu_16_0, List.mem_cons_self, (jc (by show (16 : Int) ≤ M 53 14; omega) (by show M 53 14 ≤ (16 : Int); omega) (jc (by show (0 : Int) ≤ M 53 15; omega) (by show M 53 15 ≤ (24 : Int); omega) (jc (by show (0 : Int) ≤ M 62 15; omega) (by show M 62 15 ≤ (4 : Int); omega) (jc (by show (0 : Int) ≤ M 63 15; omega) (by show M 63 15 ≤ (5 : Int); omega) (jc (by show (-1 : Int) ≤ M 64 15; omega) (by show M 64 15 ≤ (143 : Int); omega) jn)))))⟩
  · exact ⟨k_mu_16_1, (List.mem_cons_of_mem _ List.mem_cons_self), (jc (by show (16 : Int) ≤ M 53 14; omega) (by show M 53 14 ≤ (16 : Int); omega) (jc (by show (0 : Int) ≤ M 53 15; omega) (by show M 53 15 ≤ (24 : Int); omega) (jc (by show (5 : Int) ≤ M 62 15; omega) (by show M 62 15 ≤ (5 : Int); omega) (jc (by show (0 : Int) ≤ M 63 15; omega) (by show M 63 15 ≤ (29 : Int); omega) (jc (by show (-1 : Int) ≤ M 64 15; omega) (by show M 64 15 ≤ (143 : Int); omega) jn)))))⟩
  · exact ⟨k_mu_16_2, (List.mem_cons_of_mem _ (List.mem_cons_of_mem _ List.mem_cons_self)), (jc (by show (16 : Int) ≤ M 53 14; omega) (by show M 53 14 ≤ (16 : Int); omega) (jc (by show (0 : Int) ≤ M 53 15; omega) (by show M 53 15 ≤ (24 : Int); omega) (jc (by show (6 : Int) ≤ M 62 15; omega) (by show M 62 15 ≤ (6 : Int); omega) (jc (by show (0 : Int) ≤ M 63 15; omega) (by show M 63 15 ≤ (11 : Int); omega) (jc (by show (-1 : Int) ≤ M 64 15; omega) (by show M 64 15 ≤ (143 : Int); omega) jn)))))⟩
  · exact ⟨k_mu_16_3, (List.mem_cons_of_mem _ (List.mem_cons_of_mem _ (List.mem_cons_of_mem _ List.mem_cons_self))), (jc (by show (16 : Int) ≤ M 53 14; omega) (by show M 53 14 ≤ (16 : Int); omega) (jc (by show (0 : Int) ≤ M 53 15; omega) (by show M 53 15 ≤ (24 : Int); omega) (jc (by show (7 : Int) ≤ M 62 15; omega) (by show M 62 15 ≤ (7 : Int); omega) (jc (by show (0 : Int) ≤ M 63 15; omega) (by show M 63 15 ≤ (0 : Int); omega) (jc (by show (0 : Int) ≤ M 64 15; omega) (by show M 64 15 ≤ (29 : Int); omega) jn)))))⟩
theorem c_mu_16 (hL : L < 2 ^ 31) : ci L xs 160 k_mu_16 :=
  ci_j_ok (ms := [k_mu_16_0, k_mu_16_1, k_mu_16_2, k_mu_16_3]) (jl_cons (c_mu_16_0 hL) (jl_cons (c_mu_16_1 hL) (jl_cons (c_mu_16_2 hL) (jl_cons (c_mu_16_3 hL) jl_nil)))) s_mu_16 (by decide +kernel)
def k_mu_17_0 : ct_C := ([(2, .ofNat 53, .ofNat 53)], [(53, 14, .ofNat 17, .ofNat 17), (53, 15, .ofNat 0, .ofNat 23), (62, 16, .ofNat 0, .ofNat 4), (63, 16, .ofNat 0, .ofNat 5), (64, 16, .negSucc 0, .ofNat 143)], [(53, 14, .ofNat 16, .ofNat 16), (53, 15, .ofNat 1, .ofNat 24)], [54, 55, 56, 57, 58], (some (0, .ofNat 16, .ofNat 16)), 2, false)
theorem c_mu_17_0 (hL : L < 2 ^ 31) : ci L xs 160 k_mu_17_0 :=
  mi_ok (fc := 9000) (f := 9000) (cuts := []) (xk := jx) cl_lok cl_hrf (cl_hro L xs) hL jx_ok (by decide +kernel)
def k_mu_17_1 : ct_C := ([(2, .ofNat 53, .ofNat 53)], [(53, 14, .ofNat 17, .ofNat 17), (53, 15, .ofNat 0, .ofNat 23), (62, 16, .ofNat 5, .ofNat 5), (63, 16, .ofNat 0, .ofNat 29), (64, 16, .negSucc 0, .ofNat 143)], [(53, 14, .ofNat 16, .ofNat 16), (53, 15, .ofNat 1, .ofNat 24)], [61], (some (0, .ofNat 16, .ofNat 16)), 2, false)
theorem c_mu_17_1 (hL : L < 2 ^ 31) : ci L xs 160 k_mu_17_1 :=
  mi_ok (fc := 9000) (f := 9000) (cuts := []) (xk := jx) cl_lok cl_hrf (cl_hro L xs) hL jx_ok (by decide +kernel)
def k_mu_17_2 : ct_C := ([(2, .ofNat 53, .ofNat 53)], [(53, 14, .ofNat 17, .ofNat 17), (53, 15, .ofNat 0, .ofNat 23), (62, 16, .ofNat 6, .ofNat 6), (63, 16, .ofNat 0, .ofNat 11), (64, 16, .negSucc 0, .ofNat 143)], [(53, 14, .ofNat 16, .ofNat 16), (53, 15, .ofNat 1, .ofNat 24)], [60], (some (0, .ofNat 16, .ofNat 16)), 2, false)
theorem c_mu_17_2 (hL : L < 2 ^ 31) : ci L xs 160 k_mu_17_2 :=
  mi_ok (fc := 9000) (f := 9000) (cuts := []) (xk := jx) cl_lok cl_hrf (cl_hro L xs) hL jx_ok (by decide +kernel)
def k_mu_17_3 : ct_C := ([(2, .ofNat 53, .ofNat 53)], [(53, 14, .ofNat 17, .ofNat 17), (53, 15, .ofNat 0, .ofNat 23), (62, 16, .ofNat 7, .ofNat 7), (63, 16, .ofNat 0, .ofNat 0), (64, 16, .ofNat 0, .ofNat 29)], [(53, 13, .ofNat 0, .ofNat 29), (53, 14, .ofNat 16, .ofNat 16), (53, 15, .ofNat 1, .ofNat 24)], [], (some (0, .ofNat 16, .ofNat 16)), 2, false)
theorem c_mu_17_3 (hL : L < 2 ^ 31) : ci L xs 160 k_mu_17_3 :=
  mi_ok (fc := 9000) (f := 9000) (cuts := []) (xk := jx) cl_lok cl_hrf (cl_hro L xs) hL jx_ok (by decide +kernel)
def k_mu_17 : ct_C := ([(2, .ofNat 53, .ofNat 53)], [(53, 14, .ofNat 17, .ofNat 17)], [(53, 13, .ofNat 0, .ofNat 29), (53, 14, .ofNat 0, .ofNat 40), (53, 15, .ofNat 0, .ofNat 40)], [54, 55, 56, 57, 58, 60, 61], (some (0, .ofNat 16, .ofNat 16)), 2, false)
theorem s_mu_17 (M : Nat → Nat → Int) (hm : sx_mok cl_ly M) (hJ : JJ M) (hg : ct_g k_mu_17.2.1 M) : ∃ m ∈ [k_mu_17_0, k_mu_17_1, k_mu_17_2, k_mu_17_3], ct_g m.2.1 M := by
  have hv : M 53 14 = 17 := by
    have h := hg (53, 14, .ofNat 17, .ofNat 17) List.mem_cons_self
    exact Int.le_antisymm h.2 h.1
  have hk := jr_kn hm
  have hu := jr_un hm
  have hd := hJ.2.2.1
  have he := hJ.2.2.2
  have h8 : jp (M 62 16) (M 63 16) (M 64 16) (M 65 16) := hJ.2.1 16 (by decide)
  obtain ⟨⟨b1, b2, b3, b4⟩, h8⟩ := h8
  rcases h8 with h8 | h8 | h8 | h8
  · exact ⟨k_mu_17_0, List.mem_cons_self, (jc (by show (17 : Int) ≤ M 53 14; omega) (by show M 53 14 ≤ (17 : Int); omega) (jc (by show (0 : Int) ≤ M 53 15; omega) (by show M 53 15 ≤ (23 : Int); omega) (jc (by show (0 : Int) ≤ M 62 16; omega) (by show M 62 16 ≤ (4 : Int); omega) (jc (by show (0 : Int) ≤ M 63 16; omega) (by show M 63 16 ≤ (5 : Int); omega) (jc (by show (-1 : Int) ≤ M 64 16; omega) (by show M 64 16 ≤ (143 : Int); omega) jn)))))⟩
  · exact ⟨k_mu_17_1, (List.mem_cons_of_mem _ List.mem_cons_self), (jc (by show (17 : Int) ≤ M 53 14; omega) (by show M 53 14 ≤ (17 : Int); omega) (jc (by show (0 : Int) ≤ M 53 15; omega) (by show M 53 15 ≤ (23 : Int); omega) (jc (by show (5 : Int) ≤ M 62 16; omega) (by show M 62 16 ≤ (5 : Int); omega) (jc (by show (0 : Int) ≤ M 63 16; omega) (by show M 63 16 ≤ (29 : Int); omega) (jc (by show (-1 : Int) ≤ M 64 16; omega) (by show M 64 16 ≤ (143 : Int); omega) jn)))))⟩
  · exact ⟨k_mu_17_2, (List.mem_cons_of_mem _ (List.mem_cons_of_mem _ List.mem_cons_self)), (jc (by show (17 : Int) ≤ M 53 14; omega) (by show M 53 14 ≤ (17 : Int); omega) (jc (by show (0 : Int) ≤ M 53 15; omega) (by show M 53 15 ≤ (23 : Int); omega) (jc (by show (6 : Int) ≤ M 62 16; omega) (by show M 62 16 ≤ (6 : Int); omega) (jc (by show (0 : Int) ≤ M 63 16; omega) (by show M 63 16 ≤ (11 : Int); omega) (jc (by show (-1 : Int) ≤ M 64 16; omega) (by show M 64 16 ≤ (143 : Int); omega) jn)))))⟩
  · exact ⟨k_mu_17_3, (List.mem_cons_of_mem _ (List.mem_cons_of_mem _ (List.mem_cons_of_mem _ List.mem_cons_self))), (jc (by show (17 : Int) ≤ M 53 14; omega) (by show M 53 14 ≤ (17 : Int); omega) (jc (by show (0 : Int) ≤ M 53 15; omega) (by show M 53 15 ≤ (23 : Int); omega) (jc (by show (7 : Int) ≤ M 62 16; omega) (by show M 62 16 ≤ (7 : Int); omega) (jc (by show (0 : Int) ≤ M 63 16; omega) (by show M 63 16 ≤ (0 : Int); omega) (jc (by show (0 : Int) ≤ M 64 16; omega) (by show M 64 16 ≤ (29 : Int); omega) jn)))))⟩
theorem c_mu_17 (hL : L < 2 ^ 31) : ci L xs 160 k_mu_17 :=
  ci_j_ok (ms := [k_mu_17_0, k_mu_17_1, k_mu_17_2, k_mu_17_3]) (jl_cons (c_mu_17_0 hL) (jl_cons (c_mu_17_1 hL) (jl_cons (c_mu_17_2 hL) (jl_cons (c_mu_17_3 hL) jl_nil)))) s_mu_17 (by decide +kernel)
def k_mu_18_0 : ct_C := ([(2, .ofNat 53, .ofNat 53)], [(53, 14, .ofNat 18, .ofNat 18), (53, 15, .ofNat 0, .ofNat 22), (62, 17, .ofNat 0, .ofNat 4), (63, 17, .ofNat 0, .ofNat 5), (64, 17, .negSucc 0, .ofNat 143)], [(53, 14, .ofNat 17, .ofNat 17), (53, 15, .ofNat 1, .ofNat 23)], [54, 55, 56, 57, 58], (some (0, .ofNat 17, .ofNat 17)), 2, false)
theorem c_mu_18_0 (hL : L < 2 ^ 31) : ci L xs 160 k_mu_18_0 :=
  mi_ok (fc := 9000) (f := 9000) (cuts := []) (xk := jx) cl_lok cl_hrf (cl_hro L xs) hL jx_ok (by decide +kernel)
def k_mu_18_1 : ct_C := ([(2, .ofNat 53, .ofNat 53)], [(53, 14, .ofNat 18, .ofNat 18), (53, 15, .ofNat 0, .ofNat 22), (62, 17, .ofNat 5, .ofNat 5), (63, 17, .ofNat 0, .ofNat 29), (64, 17, .negSucc 0, .ofNat 143)], [(53, 14, .ofNat 17, .ofNat 17), (53, 15, .ofNat 1, .ofNat 23)], [61], (some (0, .ofNat 17, .ofNat 17)), 2, false)
theorem c_mu_18_1 (hL : L < 2 ^ 31) : ci L xs 160 k_mu_18_1 :=
  mi_ok (fc := 9000) (f := 9000) (cuts := []) (xk := jx) cl_lok cl_hrf (cl_hro L xs) hL jx_ok (by decide +kernel)
def k_mu_18_2 : ct_C := ([(2, .ofNat 53, .ofNat 53)], [(53, 14, .ofNat 18, .ofNat 18), (53, 15, .ofNat 0, .ofNat 22), (62, 17, .ofNat 6, .ofNat 6), (63, 17, .ofNat 0, .ofNat 11), (64, 17, .negSucc 0, .ofNat 143)], [(53, 14, .ofNat 17, .ofNat 17), (53, 15, .ofNat 1, .ofNat 23)], [60], (some (0, .ofNat 17, .ofNat 17)), 2, false)
theorem c_mu_18_2 (hL : L < 2 ^ 31) : ci L xs 160 k_mu_18_2 :=
  mi_ok (fc := 9000) (f := 9000) (cuts := []) (xk := jx) cl_lok cl_hrf (cl_hro L xs) hL jx_ok (by decide +kernel)
def k_mu_18_3 : ct_C := ([(2, .ofNat 53, .ofNat 53)], [(53, 14, .ofNat 18, .ofNat 18), (53, 15, .ofNat 0, .ofNat 22), (62, 17, .ofNat 7, .ofNat 7), (63, 17, .ofNat 0, .ofNat 0), (64, 17, .ofNat 0, .ofNat 29)], [(53, 13, .ofNat 0, .ofNat 29), (53, 14, .ofNat 17, .ofNat 17), (53, 15, .ofNat 1, .ofNat 23)], [], (some (0, .ofNat 17, .ofNat 17)), 2, false)
theorem c_mu_18_3 (hL : L < 2 ^ 31) : ci L xs 160 k_mu_18_3 :=
  mi_ok (fc := 9000) (f := 9000) (cuts := []) (xk := jx) cl_lok cl_hrf (cl_hro L xs) hL jx_ok (by decide +kernel)
def k_mu_18 : ct_C := ([(2, .ofNat 53, .ofNat 53)], [(53, 14, .ofNat 18, .ofNat 18)], [(53, 13, .ofNat 0, .ofNat 29), (53, 14, .ofNat 0, .ofNat 40), (53, 15, .ofNat 0, .ofNat 40)], [54, 55, 56, 57, 58, 60, 61], (some (0, .ofNat 17, .ofNat 17)), 2, false)
theorem s_mu_18 (M : Nat → Nat → Int) (hm : sx_mok cl_ly M) (hJ : JJ M) (hg : ct_g k_mu_18.2.1 M) : ∃ m ∈ [k_mu_18_0, k_mu_18_1, k_mu_18_2, k_mu_18_3], ct_g m.2.1 M := by
  have hv : M 53 14 = 18 := by
    have h := hg (53, 14, .ofNat 18, .ofNat 18) List.mem_cons_self
    exact Int.le_antisymm h.2 h.1
  have hk := jr_kn hm
  have hu := jr_un hm
  have hd := hJ.2.2.1
  have he := hJ.2.2.2
  have h8 : jp (M 62 17) (M 63 17) (M 64 17) (M 65 17) := hJ.2.1 17 (by decide)
  obtain ⟨⟨b1, b2, b3, b4⟩, h8⟩ := h8
  rcases h8 with h8 | h8 | h8 | h8
  · exact ⟨k_mu_18_0, List.mem_cons_self, (jc (by show (18 : Int) ≤ M 53 14; omega) (by show M 53 14 ≤ (18 : Int); omega) (jc (by show (0 : Int) ≤ M 53 15; omega) (by show M 53 15 ≤ (22 : Int); omega) (jc (by show (0 : Int) ≤ M 62 17; omega) (by show M 62 17 ≤ (4 : Int); omega) (jc (by show (0 : Int) ≤ M 63 17; omega) (by show M 63 17 ≤ (5 : Int); omega) (jc (by show (-1 : Int) ≤ M 64 17; omega) (by show M 64 17 ≤ (143 : Int); omega) jn)))))⟩
  · exact ⟨k_mu_18_1, (List.mem_cons_of_mem _ List.mem_cons_self), (jc (by show (18 : Int) ≤ M 53 14; omega) (by show M 53 14 ≤ (18 : Int); omega) (jc (by show (0 : Int) ≤ M 53 15; omega) (by show M 53 15 ≤ (22 : Int); omega) (jc (by show (5 : Int) ≤ M 62 17; omega) (by show M 62 17 ≤ (5 : Int); omega) (jc (by show (0 : Int) ≤ M 63 17; omega) (by show M 63 17 ≤ (29 : Int); omega) (jc (by show (-1 : Int) ≤ M 64 17; omega) (by show M 64 17 ≤ (143 : Int); omega) jn)))))⟩
  · exact ⟨k_mu_18_2, (List.mem_cons_of_mem _ (List.mem_cons_of_mem _ List.mem_cons_self)), (jc (by show (18 : Int) ≤ M 53 14; omega) (by show M 53 14 ≤ (18 : Int); omega) (jc (by show (0 : Int) ≤ M 53 15; omega) (by show M 53 15 ≤ (22 : Int); omega) (jc (by show (6 : Int) ≤ M 62 17; omega) (by show M 62 17 ≤ (6 : Int); omega) (jc (by show (0 : Int) ≤ M 63 17; omega) (by show M 63 17 ≤ (11 : Int); omega) (jc (by show (-1 : Int) ≤ M 64 17; omega) (by show M 64 17 ≤ (143 : Int); omega) jn)))))⟩
  · exact ⟨k_mu_18_3, (List.mem_cons_of_mem _ (List.mem_cons_of_mem _ (List.mem_cons_of_mem _ List.mem_cons_self))), (jc (by show (18 : Int) ≤ M 53 14; omega) (by show M 53 14 ≤ (18 : Int); omega) (jc (by show (0 : Int) ≤ M 53 15; omega) (by show M 53 15 ≤ (22 : Int); omega) (jc (by show (7 : Int) ≤ M 62 17; omega) (by show M 62 17 ≤ (7 : Int); omega) (jc (by show (0 : Int) ≤ M 63 17; omega) (by show M 63 17 ≤ (0 : Int); omega) (jc (by show (0 : Int) ≤ M 64 17; omega) (by show M 64 17 ≤ (29 : Int); omega) jn)))))⟩
theorem c_mu_18 (hL : L < 2 ^ 31) : ci L xs 160 k_mu_18 :=
  ci_j_ok (ms := [k_mu_18_0, k_mu_18_1, k_mu_18_2, k_mu_18_3]) (jl_cons (c_mu_18_0 hL) (jl_cons (c_mu_18_1 hL) (jl_cons (c_mu_18_2 hL) (jl_cons (c_mu_18_3 hL) jl_nil)))) s_mu_18 (by decide +kernel)
def k_mu_19_0 : ct_C := ([(2, .ofNat 53, .ofNat 53)], [(53, 14, .ofNat 19, .ofNat 19), (53, 15, .ofNat 0, .ofNat 21), (62, 18, .ofNat 0, .ofNat 4), (63, 18, .ofNat 0, .ofNat 5), (64, 18, .negSucc 0, .ofNat 143)], [(53, 14, .ofNat 18, .ofNat 18), (53, 15, .ofNat 1, .ofNat 22)], [54, 55, 56, 57, 58], (some (0, .ofNat 18, .ofNat 18)), 2, false)
theorem c_mu_19_0 (hL : L < 2 ^ 31) : ci L xs 160 k_mu_19_0 :=
  mi_ok (fc := 9000) (f := 9000) (cuts := []) (xk := jx) cl_lok cl_hrf (cl_hro L xs) hL jx_ok (by decide +kernel)
def k_mu_19_1 : ct_C := ([(2, .ofNat 53, .ofNat 53)], [(53, 14, .ofNat 19, .ofNat 19), (53, 15, .ofNat 0, .ofNat 21), (62, 18, .ofNat 5, .ofNat 5), (63, 18, .ofNat 0, .ofNat 29), (64, 18, .negSucc 0, .ofNat 143)], [(53, 14, .ofNat 18, .ofNat 18), (53, 15, .ofNat 1, .ofNat 22)], [61], (some (0, .ofNat 18, .ofNat 18)), 2, false)
theorem c_mu_19_1 (hL : L < 2 ^ 31) : ci L xs 160 k_mu_19_1 :=
  mi_ok (fc := 9000) (f := 9000) (cuts := []) (xk := jx) cl_lok cl_hrf (cl_hro L xs) hL jx_ok (by decide +kernel)
def k_mu_19_2 : ct_C := ([(2, .ofNat 53, .ofNat 53)], [(53, 14, .ofNat 19, .ofNat 19), (53, 15, .ofNat 0, .ofNat 21), (62, 18, .ofNat 6, .ofNat 6), (63, 18, .ofNat 0, .ofNat 11), (64, 18, .negSucc 0, .ofNat 143)], [(53, 14, .ofNat 18, .ofNat 18), (53, 15, .ofNat 1, .ofNat 22)], [60], (some (0, .ofNat 18, .ofNat 18)), 2, false)
theorem c_mu_19_2 (hL : L < 2 ^ 31) : ci L xs 160 k_mu_19_2 :=
  mi_ok (fc := 9000) (f := 9000) (cuts := []) (xk := jx) cl_lok cl_hrf (cl_hro L xs) hL jx_ok (by decide +kernel)
def k_mu_19_3 : ct_C := ([(2, .ofNat 53, .ofNat 53)], [(53, 14, .ofNat 19, .ofNat 19), (53, 15, .ofNat 0, .ofNat 21), (62, 18, .ofNat 7, .ofNat 7), (63, 18, .ofNat 0, .ofNat 0), (64, 18, .ofNat 0, .ofNat 29)], [(53, 13, .ofNat 0, .ofNat 29), (53, 14, .ofNat 18, .ofNat 18), (53, 15, .ofNat 1, .ofNat 22)], [], (some (0, .ofNat 18, .ofNat 18)), 2, false)
theorem c_mu_19_3 (hL : L < 2 ^ 31) : ci L xs 160 k_mu_19_3 :=
  mi_ok (fc := 9000) (f := 9000) (cuts := []) (xk := jx) cl_lok cl_hrf (cl_hro L xs) hL jx_ok (by decide +kernel)
def k_mu_19 : ct_C := ([(2, .ofNat 53, .ofNat 53)], [(53, 14, .ofNat 19, .ofNat 19)], [(53, 13, .ofNat 0, .ofNat 29), (53, 14, .ofNat 0, .ofNat 40), (53, 15, .ofNat 0, .ofNat 40)], [54, 55, 56, 57, 58, 60, 61], (some (0, .ofNat 18, .ofNat 18)), 2, false)
theorem s_mu_19 (M : Nat → Nat → Int) (hm : sx_mok cl_ly M) (hJ : JJ M) (hg : ct_g k_mu_19.2.1 M) : ∃ m ∈ [k_mu_19_0, k_mu_19_1, k_mu_19_2, k_mu_19_3], ct_g m.2.1 M := by
  have hv : M 53 14 = 19 := by
    have h := hg (53, 14, .ofNat 19, .ofNat 19) List.mem_cons_self
    exact Int.le_antisymm h.2 h.1
  have hk := jr_kn hm
  have hu := jr_un hm
  have hd := hJ.2.2.1
  have he := hJ.2.2.2
  have h8 : jp (M 62 18) (M 63 18) (M 64 18) (M 65 18) := hJ.2.1 18 (by decide)
  obtain ⟨⟨b1, b2, b3, b4⟩, h8⟩ := h8
  rcases h8 with h8 | h8 | h8 | h8
  · exact ⟨k_mu_19_0, List.mem_cons_self, (jc (by show (19 : Int) ≤ M 53 14; omega) (by show M 53 14 ≤ (19 : Int); omega) (jc (by show (0 : Int) ≤ M 53 15; omega) (by show M 53 15 ≤ (21 : Int); omega) (jc (by show (0 : Int) ≤ M 62 18; omega) (by show M 62 18 ≤ (4 : Int); omega) (jc (by show (0 : Int) ≤ M 63 18; omega) (by show M 63 18 ≤ (5 : Int); omega) (jc (by show (-1 : Int) ≤ M 64 18; omega) (by show M 64 18 ≤ (143 : Int); omega) jn)))))⟩
  · exact ⟨k_mu_19_1, (List.mem_cons_of_mem _ List.mem_cons_self), (jc (by show (19 : Int) ≤ M 53 14; omega) (by show M 53 14 ≤ (19 : Int); omega) (jc (by show (0 : Int) ≤ M 53 15; omega) (by show M 53 15 ≤ (21 : Int); omega) (jc (by show (5 : Int) ≤ M 62 18; omega) (by show M 62 18 ≤ (5 : Int); omega) (jc (by show (0 : Int) ≤ M 63 18; omega) (by show M 63 18 ≤ (29 : Int); omega) (jc (by show (-1 : Int) ≤ M 64 18; omega) (by show M 64 18 ≤ (143 : Int); omega) jn)))))⟩
  · exact ⟨k_mu_19_2, (List.mem_cons_of_mem _ (List.mem_cons_of_mem _ List.mem_cons_self)), (jc (by show (19 : Int) ≤ M 53 14; omega) (by show M 53 14 ≤ (19 : Int); omega) (jc (by show (0 : Int) ≤ M 53 15; omega) (by show M 53 15 ≤ (21 : Int); omega) (jc (by show (6 : Int) ≤ M 62 18; omega) (by show M 62 18 ≤ (6 : Int); omega) (jc (by show (0 : Int) ≤ M 63 18; omega) (by show M 63 18 ≤ (11 : Int); omega) (jc (by show (-1 : Int) ≤ M 64 18; omega) (by show M 64 18 ≤ (143 : Int); omega) jn)))))⟩
  · exact ⟨k_mu_19_3, (List.mem_cons_of_mem _ (List.mem_cons_of_mem _ (List.mem_cons_of_mem _ List.mem_cons_self))), (jc (by show (19 : Int) ≤ M 53 14; omega) (by show M 53 14 ≤ (19 : Int); omega) (jc (by show (0 : Int) ≤ M 53 15; omega) (by show M 53 15 ≤ (21 : Int); omega) (jc (by show (7 : Int) ≤ M 62 18; omega) (by show M 62 18 ≤ (7 : Int); omega) (jc (by show (0 : Int) ≤ M 63 18; omega) (by show M 63 18 ≤ (0 : Int); omega) (jc (by show (0 : Int) ≤ M 64 18; omega) (by show M 64 18 ≤ (29 : Int); omega) jn)))))⟩
theorem c_mu_19 (hL : L < 2 ^ 31) : ci L xs 160 k_mu_19 :=
  ci_j_ok (ms := [k_mu_19_0, k_mu_19_1, k_mu_19_2, k_mu_19_3]) (jl_cons (c_mu_19_0 hL) (jl_cons (c_mu_19_1 hL) (jl_cons (c_mu_19_2 hL) (jl_cons (c_mu_19_3 hL) jl_nil)))) s_mu_19 (by decide +kernel)
def k_mu_20_0 : ct_C := ([(2, .ofNat 53, .ofNat 53)], [(53, 14, .ofNat 20, .ofNat 20), (53, 15, .ofNat 0, .ofNat 20), (62, 19, .ofNat 0, .ofNat 4), (63, 19, .ofNat 0, .ofNat 5), (64, 19, .negSucc 0, .ofNat 143)], [(53, 14, .ofNat 19, .ofNat 19), (53, 15, .ofNat 1, .ofNat 21)], [54, 55, 56, 57, 58], (some (0, .ofNat 19, .ofNat 19)), 2, false)
theorem c_mu_20_0 (hL : L < 2 ^ 31) : ci L xs 160 k_mu_20_0 :=
  mi_ok (fc := 9000) (f := 9000) (cuts := []) (xk := jx) cl_lok cl_hrf (cl_hro L xs) hL jx_ok (by decide +kernel)
def k_mu_20_1 : ct_C := ([(2, .ofNat 53, .ofNat 53)], [(53, 14, .ofNat 20, .ofNat 20), (53, 15, .ofNat 0, .ofNat 20), (62, 19, .ofNat 5, .ofNat 5), (63, 19, .ofNat 0, .ofNat 29), (64, 19, .negSucc 0, .ofNat 143)], [(53, 14, .ofNat 19, .ofNat 19), (53, 15, .ofNat 1, .ofNat 21)], [61], (some (0, .ofNat 19, .ofNat 19)), 2, false)
theorem c_mu_20_1 (hL : L < 2 ^ 31) : ci L xs 160 k_mu_20_1 :=
  mi_ok (fc := 9000) (f := 9000) (cuts := []) (xk := jx) cl_lok cl_hrf (cl_hro L xs) hL jx_ok (by decide +kernel)
def k_mu_20_2 : ct_C := ([(2, .ofNat 53, .ofNat 53)], [(53, 14, .ofNat 20, .ofNat 20), (53, 15, .ofNat 0, .ofNat 20), (62, 19, .ofNat 6, .ofNat 6), (63, 19, .ofNat 0, .ofNat 11), (64, 19, .negSucc 0, .ofNat 143)], [(53, 14, .ofNat 19, .ofNat 19), (53, 15, .ofNat 1, .ofNat 21)], [60], (some (0, .ofNat 19, .ofNat 19)), 2, false)
theorem c_mu_20_2 (hL : L < 2 ^ 31) : ci L xs 160 k_mu_20_2 :=
  mi_ok (fc := 9000) (f := 9000) (cuts := []) (xk := jx) cl_lok cl_hrf (cl_hro L xs) hL jx_ok (by decide +kernel)
def k_mu_20_3 : ct_C := ([(2, .ofNat 53, .ofNat 53)], [(53, 14, .ofNat 20, .ofNat 20), (53, 15, .ofNat 0, .ofNat 20), (62, 19, .ofNat 7, .ofNat 7), (63, 19, .ofNat 0, .ofNat 0), (64, 19, .ofNat 0, .ofNat 29)], [(53, 13, .ofNat 0, .ofNat 29), (53, 14, .ofNat 19, .ofNat 19), (53, 15, .ofNat 1, .ofNat 21)], [], (some (0, .ofNat 19, .ofNat 19)), 2, false)
theorem c_mu_20_3 (hL : L < 2 ^ 31) : ci L xs 160 k_mu_20_3 :=
  mi_ok (fc := 9000) (f := 9000) (cuts := []) (xk := jx) cl_lok cl_hrf (cl_hro L xs) hL jx_ok (by decide +kernel)
def k_mu_20 : ct_C := ([(2, .ofNat 53, .ofNat 53)], [(53, 14, .ofNat 20, .ofNat 20)], [(53, 13, .ofNat 0, .ofNat 29), (53, 14, .ofNat 0, .ofNat 40), (53, 15, .ofNat 0, .ofNat 40)], [54, 55, 56, 57, 58, 60, 61], (some (0, .ofNat 19, .ofNat 19)), 2, false)
theorem s_mu_20 (M : Nat → Nat → Int) (hm : sx_mok cl_ly M) (hJ : JJ M) (hg : ct_g k_mu_20.2.1 M) : ∃ m ∈ [k_mu_20_0, k_mu_20_1, k_mu_20_2, k_mu_20_3], ct_g m.2.1 M := by
  have hv : M 53 14 = 20 := by
    have h := hg (53, 14, .ofNat 20, .ofNat 20) List.mem_cons_self
    exact Int.le_antisymm h.2 h.1
  have hk := jr_kn hm
  have hu := jr_un hm
  have hd := hJ.2.2.1
  have he := hJ.2.2.2
  have h8 : jp (M 62 19) (M 63 19) (M 64 19) (M 65 19) := hJ.2.1 19 (by decide)
  obtain ⟨⟨b1, b2, b3, b4⟩, h8⟩ := h8
  rcases h8 with h8 | h8 | h8 | h8
  · exact ⟨k_mu_20_0, List.mem_cons_self, (jc (by show (20 : Int) ≤ M 53 14; omega) (by show M 53 14 ≤ (20 : Int); omega) (jc (by show (0 : Int) ≤ M 53 15; omega) (by show M 53 15 ≤ (20 : Int); omega) (jc (by show (0 : Int) ≤ M 62 19; omega) (by show M 62 19 ≤ (4 : Int); omega) (jc (by show (0 : Int) ≤ M 63 19; omega) (by show M 63 19 ≤ (5 : Int); omega) (jc (by show (-1 : Int) ≤ M 64 19; omega) (by show M 64 19 ≤ (143 : Int); omega) jn)))))⟩
  · exact ⟨k_mu_20_1, (List.mem_cons_of_mem _ List.mem_cons_self), (jc (by show (20 : Int) ≤ M 53 14; omega) (by show M 53 14 ≤ (20 : Int); omega) (jc (by show (0 : Int) ≤ M 53 15; omega) (by show M 53 15 ≤ (20 : Int); omega) (jc (by show (5 : Int) ≤ M 62 19; omega) (by show M 62 19 ≤ (5 : Int); omega) (jc (by show (0 : Int) ≤ M 63 19; omega) (by show M 63 19 ≤ (29 : Int); omega) (jc (by show (-1 : Int) ≤ M 64 19; omega) (by show M 64 19 ≤ (143 : Int); omega) jn)))))⟩
  · exact ⟨k_mu_20_2, (List.mem_cons_of_mem _ (List.mem_cons_of_mem _ List.mem_cons_self)), (jc (by show (20 : Int) ≤ M 53 14; omega) (by show M 53 14 ≤ (20 : Int); omega) (jc (by show (0 : Int) ≤ M 53 15; omega) (by show M 53 15 ≤ (20 : Int); omega) (jc (by show (6 : Int) ≤ M 62 19; omega) (by show M 62 19 ≤ (6 : Int); omega) (jc (by show (0 : Int) ≤ M 63 19; omega) (by show M 63 19 ≤ (11 : Int); omega) (jc (by show (-1 : Int) ≤ M 64 19; omega) (by show M 64 19 ≤ (143 : Int); omega) jn)))))⟩
  · exact ⟨k_mu_20_3, (List.mem_cons_of_mem _ (List.mem_cons_of_mem _ (List.mem_cons_of_mem _ List.mem_cons_self))), (jc (by show (20 : Int) ≤ M 53 14; omega) (by show M 53 14 ≤ (20 : Int); omega) (jc (by show (0 : Int) ≤ M 53 15; omega) (by show M 53 15 ≤ (20 : Int); omega) (jc (by show (7 : Int) ≤ M 62 19; omega) (by show M 62 19 ≤ (7 : Int); omega) (jc (by show (0 : Int) ≤ M 63 19; omega) (by show M 63 19 ≤ (0 : Int); omega) (jc (by show (0 : Int) ≤ M 64 19; omega) (by show M 64 19 ≤ (29 : Int); omega) jn)))))⟩
theorem c_mu_20 (hL : L < 2 ^ 31) : ci L xs 160 k_mu_20 :=
  ci_j_ok (ms := [k_mu_20_0, k_mu_20_1, k_mu_20_2, k_mu_20_3]) (jl_cons (c_mu_20_0 hL) (jl_cons (c_mu_20_1 hL) (jl_cons (c_mu_20_2 hL) (jl_cons (c_mu_20_3 hL) jl_nil)))) s_mu_20 (by decide +kernel)
def k_mu_21_0 : ct_C := ([(2, .ofNat 53, .ofNat 53)], [(53, 14, .ofNat 21, .ofNat 21), (53, 15, .ofNat 0, .ofNat 19), (62, 20, .ofNat 0, .ofNat 4), (63, 20, .ofNat 0, .ofNat 5), (64, 20, .negSucc 0, .ofNat 143)], [(53, 14, .ofNat 20, .ofNat 20), (53, 15, .ofNat 1, .ofNat 20)], [54, 55, 56, 57, 58], (some (0, .ofNat 20, .ofNat 20)), 2, false)
theorem c_mu_21_0 (hL : L < 2 ^ 31) : ci L xs 160 k_mu_21_0 :=
  mi_ok (fc := 9000) (f := 9000) (cuts := []) (xk := jx) cl_lok cl_hrf (cl_hro L xs) hL jx_ok (by decide +kernel)
def k_mu_21_1 : ct_C := ([(2, .ofNat 53, .ofNat 53)], [(53, 14, .ofNat 21, .ofNat 21), (53, 15, .ofNat 0, .ofNat 19), (62, 20, .ofNat 5, .ofNat 5), (63, 20, .ofNat 0, .ofNat 29), (64, 20, .negSucc 0, .ofNat 143)], [(53, 14, .ofNat 20, .ofNat 20), (53, 15, .ofNat 1, .ofNat 20)], [61], (some (0, .ofNat 20, .ofNat 20)), 2, false)
theorem c_mu_21_1 (hL : L < 2 ^ 31) : ci L xs 160 k_mu_21_1 :=
  mi_ok (fc := 9000) (f := 9000) (cuts := []) (xk := jx) cl_lok cl_hrf (cl_hro L xs) hL jx_ok (by decide +kernel)
def k_mu_21_2 : ct_C := ([(2, .ofNat 53, .ofNat 53)], [(53, 14, .ofNat 21, .ofNat 21), (53, 15, .ofNat 0, .ofNat 19), (62, 20, .ofNat 6, .ofNat 6), (63, 20, .ofNat 0, .ofNat 11), (64, 20, .negSucc 0, .ofNat 143)], [(53, 14, .ofNat 20, .ofNat 20), (53, 15, .ofNat 1, .ofNat 20)], [60], (some (0, .ofNat 20, .ofNat 20)), 2, false)
theorem c_mu_21_2 (hL : L < 2 ^ 31) : ci L xs 160 k_mu_21_2 :=
  mi_ok (fc := 9000) (f := 9000) (cuts := []) (xk := jx) cl_lok cl_hrf (cl_hro L xs) hL jx_ok (by decide +kernel)
def k_mu_21_3 : ct_C := ([(2, .ofNat 53, .ofNat 53)], [(53, 14, .ofNat 21, .ofNat 21), (53, 15, .ofNat 0, .ofNat 19), (62, 20, .ofNat 7, .ofNat 7), (63, 20, .ofNat 0, .ofNat 0), (64, 20, .ofNat 0, .ofNat 29)], [(53, 13, .ofNat 0, .ofNat 29), (53, 14, .ofNat 20, .ofNat 20), (53, 15, .ofNat 1, .ofNat 20)], [], (some (0, .ofNat 20, .ofNat 20)), 2, false)
theorem c_mu_21_3 (hL : L < 2 ^ 31) : ci L xs 160 k_mu_21_3 :=
  mi_ok (fc := 9000) (f := 9000) (cuts := []) (xk := jx) cl_lok cl_hrf (cl_hro L xs) hL jx_ok (by decide +kernel)
def k_mu_21 : ct_C := ([(2, .ofNat 53, .ofNat 53)], [(53, 14, .ofNat 21, .ofNat 21)], [(53, 13, .ofNat 0, .ofNat 29), (53, 14, .ofNat 0, .ofNat 40), (53, 15, .ofNat 0, .ofNat 40)], [54, 55, 56, 57, 58, 60, 61], (some (0, .ofNat 20, .ofNat 20)), 2, false)
theorem s_mu_21 (M : Nat → Nat → Int) (hm : sx_mok cl_ly M) (hJ : JJ M) (hg : ct_g k_mu_21.2.1 M) : ∃ m ∈ [k_mu_21_0, k_mu_21_1, k_mu_21_2, k_mu_21_3], ct_g m.2.1 M := by
  have hv : M 53 14 = 21 := by
    have h := hg (53, 14, .ofNat 21, .ofNat 21) List.mem_cons_self
    exact Int.le_antisymm h.2 h.1
  have hk := jr_kn hm
  have hu := jr_un hm
  have hd := hJ.2.2.1
  have he := hJ.2.2.2
  have h8 : jp (M 62 20) (M 63 20) (M 64 20) (M 65 20) := hJ.2.1 20 (by decide)
  obtain ⟨⟨b1, b2, b3, b4⟩, h8⟩ := h8
  rcases h8 with h8 | h8 | h8 | h8
  · exact ⟨k_mu_21_0, List.mem_cons_self, (jc (by show (21 : Int) ≤ M 53 14; omega) (by show M 53 14 ≤ (21 : Int); omega) (jc (by show (0 : Int) ≤ M 53 15; omega) (by show M 53 15 ≤ (19 : Int); omega) (jc (by show (0 : Int) ≤ M 62 20; omega) (by show M 62 20 ≤ (4 : Int); omega) (jc (by show (0 : Int) ≤ M 63 20; omega) (by show M 63 20 ≤ (5 : Int); omega) (jc (by show (-1 : Int) ≤ M 64 20; omega) (by show M 64 20 ≤ (143 : Int); omega) jn)))))⟩
  · exact ⟨k_mu_21_1, (List.mem_cons_of_mem _ List.mem_cons_self), (jc (by show (21 : Int) ≤ M 53 14; omega) (by show M 53 14 ≤ (21 : Int); omega) (jc (by show (0 : Int) ≤ M 53 15; omega) (by show M 53 15 ≤ (19 : Int); omega) (jc (by show (5 : Int) ≤ M 62 20; omega) (by show M 62 20 ≤ (5 : Int); omega) (jc (by show (0 : Int) ≤ M 63 20; omega) (by show M 63 20 ≤ (29 : Int); omega) (jc (by show (-1 : Int) ≤ M 64 20; omega) (by show M 64 20 ≤ (143 : Int); omega) jn)))))⟩
  · exact ⟨k_mu_21_2, (List.mem_cons_of_mem _ (List.mem_cons_of_mem _ List.mem_cons_self)), (jc (by show (21 : Int) ≤ M 53 14; omega) (by show M 53 14 ≤ (21 : Int); omega) (jc (by show (0 : Int) ≤ M 53 15; omega) (by show M 53 15 ≤ (19 : Int); omega) (jc (by show (6 : Int) ≤ M 62 20; omega) (by show M 62 20 ≤ (6 : Int); omega) (jc (by show (0 : Int) ≤ M 63 20; omega) (by show M 63 20 ≤ (11 : Int); omega) (jc (by show (-1 : Int) ≤ M 64 20; omega) (by show M 64 20 ≤ (143 : Int); omega) jn)))))⟩
  · exact ⟨k_mu_21_3, (List.mem_cons_of_mem _ (List.mem_cons_of_mem _ (List.mem_cons_of_mem _ List.mem_cons_self))), (jc (by show (21 : Int) ≤ M 53 14; omega) (by show M 53 14 ≤ (21 : Int); omega) (jc (by show (0 : Int) ≤ M 53 15; omega) (by show M 53 15 ≤ (19 : Int); omega) (jc (by show (7 : Int) ≤ M 62 20; omega) (by show M 62 20 ≤ (7 : Int); omega) (jc (by show (0 : Int) ≤ M 63 20; omega) (by show M 63 20 ≤ (0 : Int); omega) (jc (by show (0 : Int) ≤ M 64 20; omega) (by show M 64 20 ≤ (29 : Int); omega) jn)))))⟩
theorem c_mu_21 (hL : L < 2 ^ 31) : ci L xs 160 k_mu_21 :=
  ci_j_ok (ms := [k_mu_21_0, k_mu_21_1, k_mu_21_2, k_mu_21_3]) (jl_cons (c_mu_21_0 hL) (jl_cons (c_mu_21_1 hL) (jl_cons (c_mu_21_2 hL) (jl_cons (c_mu_21_3 hL) jl_nil)))) s_mu_21 (by decide +kernel)
def k_mu_22_0 : ct_C := ([(2, .ofNat 53, .ofNat 53)], [(53, 14, .ofNat 22, .ofNat 22), (53, 15, .ofNat 0, .ofNat 18), (62, 21, .ofNat 0, .ofNat 4), (63, 21, .ofNat 0, .ofNat 5), (64, 21, .negSucc 0, .ofNat 143)], [(53, 14, .ofNat 21, .ofNat 21), (53, 15, .ofNat 1, .ofNat 19)], [54, 55, 56, 57, 58], (some (0, .ofNat 21, .ofNat 21)), 2, false)
theorem c_mu_22_0 (hL : L < 2 ^ 31) : ci L xs 160 k_mu_22_0 :=
  mi_ok (fc := 9000) (f := 9000) (cuts := []) (xk := jx) cl_lok cl_hrf (cl_hro L xs) hL jx_ok (by decide +kernel)
def k_mu_22_1 : ct_C := ([(2, .ofNat 53, .ofNat 53)], [(53, 14, .ofNat 22, .ofNat 22), (53, 15, .ofNat 0, .ofNat 18), (62, 21, .ofNat 5, .ofNat 5), (63, 21, .ofNat 0, .ofNat 29), (64, 21, .negSucc 0, .ofNat 143)], [(53, 14, .ofNat 21, .ofNat 21), (53, 15, .ofNat 1, .ofNat 19)], [61], (some (0, .ofNat 21, .ofNat 21)), 2, false)
theorem c_mu_22_1 (hL : L < 2 ^ 31) : ci L xs 160 k_mu_22_1 :=
  mi_ok (fc := 9000) (f := 9000) (cuts := []) (xk := jx) cl_lok cl_hrf (cl_hro L xs) hL jx_ok (by decide +kernel)
def k_mu_22_2 : ct_C := ([(2, .ofNat 53, .ofNat 53)], [(53, 14, .ofNat 22, .ofNat 22), (53, 15, .ofNat 0, .ofNat 18), (62, 21, .ofNat 6, .ofNat 6), (63, 21, .ofNat 0, .ofNat 11), (64, 21, .negSucc 0, .ofNat 143)], [(53, 14, .ofNat 21, .ofNat 21), (53, 15, .ofNat 1, .ofNat 19)], [60], (some (0, .ofNat 21, .ofNat 21)), 2, false)
theorem c_mu_22_2 (hL : L < 2 ^ 31) : ci L xs 160 k_mu_22_2 :=
  mi_ok (fc := 9000) (f := 9000) (cuts := []) (xk := jx) cl_lok cl_hrf (cl_hro L xs) hL jx_ok (by decide +kernel)
def k_mu_22_3 : ct_C := ([(2, .ofNat 53, .ofNat 53)], [(53, 14, .ofNat 22, .ofNat 22), (53, 15, .ofNat 0, .ofNat 18), (62, 21, .ofNat 7, .ofNat 7), (63, 21, .ofNat 0, .ofNat 0), (64, 21, .ofNat 0, .ofNat 29)], [(53, 13, .ofNat 0, .ofNat 29), (53, 14, .ofNat 21, .ofNat 21), (53, 15, .ofNat 1, .ofNat 19)], [], (some (0, .ofNat 21, .ofNat 21)), 2, false)
theorem c_mu_22_3 (hL : L < 2 ^ 31) : ci L xs 160 k_mu_22_3 :=
  mi_ok (fc := 9000) (f := 9000) (cuts := []) (xk := jx) cl_lok cl_hrf (cl_hro L xs) hL jx_ok (by decide +kernel)
def k_mu_22 : ct_C := ([(2, .ofNat 53, .ofNat 53)], [(53, 14, .ofNat 22, .ofNat 22)], [(53, 13, .ofNat 0, .ofNat 29), (53, 14, .ofNat 0, .ofNat 40), (53, 15, .ofNat 0, .ofNat 40)], [54, 55, 56, 57, 58, 60, 61], (some (0, .ofNat 21, .ofNat 21)), 2, false)
theorem s_mu_22 (M : Nat → Nat → Int) (hm : sx_mok cl_ly M) (hJ : JJ M) (hg : ct_g k_mu_22.2.1 M) : ∃ m ∈ [k_mu_22_0, k_mu_22_1, k_mu_22_2, k_mu_22_3], ct_g m.2.1 M := by
  have hv : M 53 14 = 22 := by
    have h := hg (53, 14, .ofNat 22, .ofNat 22) List.mem_cons_self
    exact Int.le_antisymm h.2 h.1
  have hk := jr_kn hm
  have hu := jr_un hm
  have hd := hJ.2.2.1
  have he := hJ.2.2.2
  have h8 : jp (M 62 21) (M 63 21) (M 64 21) (M 65 21) := hJ.2.1 21 (by decide)
  obtain ⟨⟨b1, b2, b3, b4⟩, h8⟩ := h8
  rcases h8 with h8 | h8 | h8 | h8
  · exact ⟨k_mu_22_0, List.mem_cons_self, (jc (by show (22 : Int) ≤ M 53 14; omega) (by show M 53 14 ≤ (22 : Int); omega) (jc (by show (0 : Int) ≤ M 53 15; omega) (by show M 53 15 ≤ (18 : Int); omega) (jc (by show (0 : Int) ≤ M 62 21; omega) (by show M 62 21 ≤ (4 : Int); omega) (jc (by show (0 : Int) ≤ M 63 21; omega) (by show M 63 21 ≤ (5 : Int); omega) (jc (by show (-1 : Int) ≤ M 64 21; omega) (by show M 64 21 ≤ (143 : Int); omega) jn)))))⟩
  · exact ⟨k_mu_22_1, (List.mem_cons_of_mem _ List.mem_cons_self), (jc (by show (22 : Int) ≤ M 53 14; omega) (by show M 53 14 ≤ (22 : Int); omega) (jc (by show (0 : Int) ≤ M 53 15; omega) (by show M 53 15 ≤ (18 : Int); omega) (jc (by show (5 : Int) ≤ M 62 21; omega) (by show M 62 21 ≤ (5 : Int); omega) (jc (by show (0 : Int) ≤ M 63 21; omega) (by show M 63 21 ≤ (29 : Int); omega) (jc (by show (-1 : Int) ≤ M 64 21; omega) (by show M 64 21 ≤ (143 : Int); omega) jn)))))⟩
  · exact ⟨k_mu_22_2, (List.mem_cons_of_mem _ (List.mem_cons_of_mem _ List.mem_cons_self)), (jc (by show (22 : Int) ≤ M 53 14; omega) (by show M 53 14 ≤ (22 : Int); omega) (jc (by show (0 : Int) ≤ M 53 15; omega) (by show M 53 15 ≤ (18 : Int); omega) (jc (by show (6 : Int) ≤ M 62 21; omega) (by show M 62 21 ≤ (6 : Int); omega) (jc (by show (0 : Int) ≤ M 63 21; omega) (by show M 63 21 ≤ (11 : Int); omega) (jc (by show (-1 : Int) ≤ M 64 21; omega) (by show M 64 21 ≤ (143 : Int); omega) jn)))))⟩
  · exact ⟨k_mu_22_3, (List.mem_cons_of_mem _ (List.mem_cons_of_mem _ (List.mem_cons_of_mem _ List.mem_cons_self))), (jc (by show (22 : Int) ≤ M 53 14; omega) (by show M 53 14 ≤ (22 : Int); omega) (jc (by show (0 : Int) ≤ M 53 15; omega) (by show M 53 15 ≤ (18 : Int); omega) (jc (by show (7 : Int) ≤ M 62 21; omega) (by show M 62 21 ≤ (7 : Int); omega) (jc (by show (0 : Int) ≤ M 63 21; omega) (by show M 63 21 ≤ (0 : Int); omega) (jc (by show (0 : Int) ≤ M 64 21; omega) (by show M 64 21 ≤ (29 : Int); omega) jn)))))⟩
theorem c_mu_22 (hL : L < 2 ^ 31) : ci L xs 160 k_mu_22 :=
  ci_j_ok (ms := [k_mu_22_0, k_mu_22_1, k_mu_22_2, k_mu_22_3]) (jl_cons (c_mu_22_0 hL) (jl_cons (c_mu_22_1 hL) (jl_cons (c_mu_22_2 hL) (jl_cons (c_mu_22_3 hL) jl_nil)))) s_mu_22 (by decide +kernel)
def k_mu_23_0 : ct_C := ([(2, .ofNat 53, .ofNat 53)], [(53, 14, .ofNat 23, .ofNat 23), (53, 15, .ofNat 0, .ofNat 17), (62, 22, .ofNat 0, .ofNat 4), (63, 22, .ofNat 0, .ofNat 5), (64, 22, .negSucc 0, .ofNat 143)], [(53, 14, .ofNat 22, .ofNat 22), (53, 15, .ofNat 1, .ofNat 18)], [54, 55, 56, 57, 58], (some (0, .ofNat 22, .ofNat 22)), 2, false)
theorem c_mu_23_0 (hL : L < 2 ^ 31) : ci L xs 160 k_mu_23_0 :=
  mi_ok (fc := 9000) (f := 9000) (cuts := []) (xk := jx) cl_lok cl_hrf (cl_hro L xs) hL jx_ok (by decide +kernel)
def k_mu_23_1 : ct_C := ([(2, .ofNat 53, .ofNat 53)], [(53, 14, .ofNat 23, .ofNat 23), (53, 15, .ofNat 0, .ofNat 17), (62, 22, .ofNat 5, .ofNat 5), (63, 22, .ofNat 0, .ofNat 29), (64, 22, .negSucc 0, .ofNat 143)], [(53, 14, .ofNat 22, .ofNat 22), (53, 15, .ofNat 1, .ofNat 18)], [61], (some (0, .ofNat 22, .ofNat 22)), 2, false)
theorem c_mu_23_1 (hL : L < 2 ^ 31) : ci L xs 160 k_mu_23_1 :=
  mi_ok (fc := 9000) (f := 9000) (cuts := []) (xk := jx) cl_lok cl_hrf (cl_hro L xs) hL jx_ok (by decide +kernel)
def k_mu_23_2 : ct_C := ([(2, .ofNat 53, .ofNat 53)], [(53, 14, .ofNat 23, .ofNat 23), (53, 15, .ofNat 0, .ofNat 17), (62, 22, .ofNat 6, .ofNat 6), (63, 22, .ofNat 0, .ofNat 11), (64, 22, .negSucc 0, .ofNat 143)], [(53, 14, .ofNat 22, .ofNat 22), (53, 15, .ofNat 1, .ofNat 18)], [60], (some (0, .ofNat 22, .ofNat 22)), 2, false)
theorem c_mu_23_2 (hL : L < 2 ^ 31) : ci L xs 160 k_mu_23_2 :=
  mi_ok (fc := 9000) (f := 9000) (cuts := []) (xk := jx) cl_lok cl_hrf (cl_hro L xs) hL jx_ok (by decide +kernel)
def k_mu_23_3 : ct_C := ([(2, .ofNat 53, .ofNat 53)], [(53, 14, .ofNat 23, .ofNat 23), (53, 15, .ofNat 0, .ofNat 17), (62, 22, .ofNat 7, .ofNat 7), (63, 22, .ofNat 0, .ofNat 0), (64, 22, .ofNat 0, .ofNat 29)], [(53, 13, .ofNat 0, .ofNat 29), (53, 14, .ofNat 22, .ofNat 22), (53, 15, .ofNat 1, .ofNat 18)], [], (some (0, .ofNat 22, .ofNat 22)), 2, false)
theorem c_mu_23_3 (hL : L < 2 ^ 31) : ci L xs 160 k_mu_23_3 :=
  mi_ok (fc := 9000) (f := 9000) (cuts := []) (xk := jx) cl_lok cl_hrf (cl_hro L xs) hL jx_ok (by decide +kernel)
def k_mu_23 : ct_C := ([(2, .ofNat 53, .ofNat 53)], [(53, 14, .ofNat 23, .ofNat 23)], [(53, 13, .ofNat 0, .ofNat 29), (53, 14, .ofNat 0, .ofNat 40), (53, 15, .ofNat 0, .ofNat 40)], [54, 55, 56, 57, 58, 60, 61], (some (0, .ofNat 22, .ofNat 22)), 2, false)
theorem s_mu_23 (M : Nat → Nat → Int) (hm : sx_mok cl_ly M) (hJ : JJ M) (hg : ct_g k_mu_23.2.1 M) : ∃ m ∈ [k_mu_23_0, k_mu_23_1, k_mu_23_2, k_mu_23_3], ct_g m.2.1 M := by
  have hv : M 53 14 = 23 := by
    have h := hg (53, 14, .ofNat 23, .ofNat 23) List.mem_cons_self
    exact Int.le_antisymm h.2 h.1
  have hk := jr_kn hm
  have hu := jr_un hm
  have hd := hJ.2.2.1
  have he := hJ.2.2.2
  have h8 : jp (M 62 22) (M 63 22) (M 64 22) (M 65 22) := hJ.2.1 22 (by decide)
  obtain ⟨⟨b1, b2, b3, b4⟩, h8⟩ := h8
  rcases h8 with h8 | h8 | h8 | h8
  · exact ⟨k_mu_23_0, List.mem_cons_self, (jc (by show (23 : Int) ≤ M 53 14; omega) (by show M 53 14 ≤ (23 : Int); omega) (jc (by show (0 : Int) ≤ M 53 15; omega) (by show M 53 15 ≤ (17 : Int); omega) (jc (by show (0 : Int) ≤ M 62 22; omega) (by show M 62 22 ≤ (4 : Int); omega) (jc (by show (0 : Int) ≤ M 63 22; omega) (by show M 63 22 ≤ (5 : Int); omega) (jc (by show (-1 : Int) ≤ M 64 22; omega) (by show M 64 22 ≤ (143 : Int); omega) jn)))))⟩
  · exact ⟨k_mu_23_1, (List.mem_cons_of_mem _ List.mem_cons_self), (jc (by show (23 : Int) ≤ M 53 14; omega) (by show M 53 14 ≤ (23 : Int); omega) (jc (by show (0 : Int) ≤ M 53 15; omega) (by show M 53 15 ≤ (17 : Int); omega) (jc (by show (5 : Int) ≤ M 62 22; omega) (by show M 62 22 ≤ (5 : Int); omega) (jc (by show (0 : Int) ≤ M 63 22; omega) (by show M 63 22 ≤ (29 : Int); omega) (jc (by show (-1 : Int) ≤ M 64 22; omega) (by show M 64 22 ≤ (143 : Int); omega) jn)))))⟩
  · exact ⟨k_mu_23_2, (List.mem_cons_of_mem _ (List.mem_cons_of_mem _ List.mem_cons_self)), (jc (by show (23 : Int) ≤ M 53 14; omega) (by show M 53 14 ≤ (23 : Int); omega) (jc (by show (0 : Int) ≤ M 53 15; omega) (by show M 53 15 ≤ (17 : Int); omega) (jc (by show (6 : Int) ≤ M 62 22; omega) (by show M 62 22 ≤ (6 : Int); omega) (jc (by show (0 : Int) ≤ M 63 22; omega) (by show M 63 22 ≤ (11 : Int); omega) (jc (by show (-1 : Int) ≤ M 64 22; omega) (by show M 64 22 ≤ (143 : Int); omega) jn)))))⟩
  · exact ⟨k_mu_23_3, (List.mem_cons_of_mem _ (List.mem_cons_of_mem _ (List.mem_cons_of_mem _ List.mem_cons_self))), (jc (by show (23 : Int) ≤ M 53 14; omega) (by show M 53 14 ≤ (23 : Int); omega) (jc (by show (0 : Int) ≤ M 53 15; omega) (by show M 53 15 ≤ (17 : Int); omega) (jc (by show (7 : Int) ≤ M 62 22; omega) (by show M 62 22 ≤ (7 : Int); omega) (jc (by show (0 : Int) ≤ M 63 22; omega) (by show M 63 22 ≤ (0 : Int); omega) (jc (by show (0 : Int) ≤ M 64 22; omega) (by show M 64 22 ≤ (29 : Int); omega) jn)))))⟩
theorem c_mu_23 (hL : L < 2 ^ 31) : ci L xs 160 k_mu_23 :=
  ci_j_ok (ms := [k_mu_23_0, k_mu_23_1, k_mu_23_2, k_mu_23_3]) (jl_cons (c_mu_23_0 hL) (jl_cons (c_mu_23_1 hL) (jl_cons (c_mu_23_2 hL) (jl_cons (c_mu_23_3 hL) jl_nil)))) s_mu_23 (by decide +kernel)
def k_mu_24_0 : ct_C := ([(2, .ofNat 53, .ofNat 53)], [(53, 14, .ofNat 24, .ofNat 24), (53, 15, .ofNat 0, .ofNat 16), (62, 23, .ofNat 0, .ofNat 4), (63, 23, .ofNat 0, .ofNat 5), (64, 23, .negSucc 0, .ofNat 143)], [(53, 14, .ofNat 23, .ofNat 23), (53, 15, .ofNat 1, .ofNat 17)], [54, 55, 56, 57, 58], (some (0, .ofNat 23, .ofNat 23)), 2, false)
theorem c_mu_24_0 (hL : L < 2 ^ 31) : ci L xs 160 k_mu_24_0 :=
  mi_ok (fc := 9000) (f := 9000) (cuts := []) (xk := jx) cl_lok cl_hrf (cl_hro L xs) hL jx_ok (by decide +kernel)
end
