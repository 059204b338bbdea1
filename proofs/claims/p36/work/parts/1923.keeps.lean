/-! mend, undo, redo, 23. -/
section
variable {L : Nat} {xs : Nat → Int32}
def k_mu_24_1 : ct_C := ([(2, .ofNat 53, .ofNat 53)], [(53, 14, .ofNat 24, .ofNat 24), (53, 15, .ofNat 0, .ofNat 16), (62, 23, .ofNat 5, .ofNat 5), (63, 23, .ofNat 0, .ofNat 29), (64, 23, .negSucc 0, .ofNat 143)], [(53, 14, .ofNat 23, .ofNat 23), (53, 15, .ofNat 1, .ofNat 17)], [61], (some (0, .ofNat 23, .ofNat 23)), 2, false)
theorem c_mu_24_1 (hL : L < 2 ^ 31) : ci L xs 160 k_mu_24_1 :=
  mi_ok (fc := 9000) (f := 9000) (cuts := []) (xk := jx) cl_lok cl_hrf (cl_hro L xs) hL jx_ok (by decide +kernel)
def k_mu_24_2 : ct_C := ([(2, .ofNat 53, .ofNat 53)], [(53, 14, .ofNat 24, .ofNat 24), (53, 15, .ofNat 0, .ofNat 16), (62, 23, .ofNat 6, .ofNat 6), (63, 23, .ofNat 0, .ofNat 11), (64, 23, .negSucc 0, .ofNat 143)], [(53, 14, .ofNat 23, .ofNat 23), (53, 15, .ofNat 1, .ofNat 17)], [60], (some (0, .ofNat 23, .ofNat 23)), 2, false)
theorem c_mu_24_2 (hL : L < 2 ^ 31) : ci L xs 160 k_mu_24_2 :=
  mi_ok (fc := 9000) (f := 9000) (cuts := []) (xk := jx) cl_lok cl_hrf (cl_hro L xs) hL jx_ok (by decide +kernel)
def k_mu_24_3 : ct_C := ([(2, .ofNat 53, .ofNat 53)], [(53, 14, .ofNat 24, .ofNat 24), (53, 15, .ofNat 0, .ofNat 16), (62, 23, .ofNat 7, .ofNat 7), (63, 23, .ofNat 0, .ofNat 0), (64, 23, .ofNat 0, .ofNat 29)], [(53, 13, .ofNat 0, .ofNat 29), (53, 14, .ofNat 23, .ofNat 23), (53, 15, .ofNat 1, .ofNat 17)], [], (some (0, .ofNat 23, .ofNat 23)), 2, false)
theorem c_mu_24_3 (hL : L < 2 ^ 31) : ci L xs 160 k_mu_24_3 :=
  mi_ok (fc := 9000) (f := 9000) (cuts := []) (xk := jx) cl_lok cl_hrf (cl_hro L xs) hL jx_ok (by decide +kernel)
def k_mu_24 : ct_C := ([(2, .ofNat 53, .ofNat 53)], [(53, 14, .ofNat 24, .ofNat 24)], [(53, 13, .ofNat 0, .ofNat 29), (53, 14, .ofNat 0, .ofNat 40), (53, 15, .ofNat 0, .ofNat 40)], [54, 55, 56, 57, 58, 60, 61], (some (0, .ofNat 23, .ofNat 23)), 2, false)
theorem s_mu_24 (M : Nat → Nat → Int) (hm : sx_mok cl_ly M) (hJ : JJ M) (hg : ct_g k_mu_24.2.1 M) : ∃ m ∈ [k_mu_24_0, k_mu_24_1, k_mu_24_2, k_mu_24_3], ct_g m.2.1 M := by
  have hv : M 53 14 = 24 := by
    have h := hg (53, 14, .ofNat 24, .ofNat 24) List.mem_cons_self
    exact Int.le_antisymm h.2 h.1
  have hk := jr_kn hm
  have hu := jr_un hm
  have hd := hJ.2.2.1
  have he := hJ.2.2.2
  have h8 : jp (M 62 23) (M 63 23) (M 64 23) (M 65 23) := hJ.2.1 23 (by decide)
  obtain ⟨⟨b1, b2, b3, b4⟩, h8⟩ := h8
  rcases h8 with h8 | h8 | h8 | h8
  · exact ⟨k_mu_24_0, List.mem_cons_self, (jc (by show (24 : Int) ≤ M 53 14; omega) (by show M 53 14 ≤ (24 : Int); omega) (jc (by show (0 : Int) ≤ M 53 15; omega) (by show M 53 15 ≤ (16 : Int); omega) (jc (by show (0 : Int) ≤ M 62 23; omega) (by show M 62 23 ≤ (4 : Int); omega) (jc (by show (0 : Int) ≤ M 63 23; omega) (by show M 63 23 ≤ (5 : Int); omega) (jc (by show (-1 : Int) ≤ M 64 23; omega) (by show M 64 23 ≤ (143 : Int); omega) jn)))))⟩
  · exact ⟨k_mu_24_1, (List.mem_cons_of_mem _ List.mem_cons_self), (jc (by show (24 : Int) ≤ M 53 14; omega) (by show M 53 14 ≤ (24 : Int); omega) (jc (by show (0 : Int) ≤ M 53 15; omega) (by show M 53 15 ≤ (16 : Int); omega) (jc (by show (5 : Int) ≤ M 62 23; omega) (by show M 62 23 ≤ (5 : Int); omega) (jc (by show (0 : Int) ≤ M 63 23; omega) (by show M 63 23 ≤ (29 : Int); omega) (jc (by show (-1 : Int) ≤ M 64 23; omega) (by show M 64 23 ≤ (143 : Int); omega) jn)))))⟩
  · exact ⟨k_mu_24_2, (List.mem_cons_of_mem _ (List.mem_cons_of_mem _ List.mem_cons_self)), (jc (by show (24 : Int) ≤ M 53 14; omega) (by show M 53 14 ≤ (24 : Int); omega) (jc (by show (0 : Int) ≤ M 53 15; omega) (by show M 53 15 ≤ (16 : Int); omega) (jc (by show (6 : Int) ≤ M 62 23; omega) (by show M 62 23 ≤ (6 : Int); omega) (jc (by show (0 : Int) ≤ M 63 23; omega) (by show M 63 23 ≤ (11 : Int); omega) (jc (by show (-1 : Int) ≤ M 64 23; omega) (by show M 64 23 ≤ (143 : Int); omega) jn)))))⟩
  · exact ⟨k_mu_24_3, (List.mem_cons_of_mem _ (List.mem_cons_of_mem _ (List.mem_cons_of_mem _ List.mem_cons_self))), (jc (by show (24 : Int) ≤ M 53 14; omega) (by show M 53 14 ≤ (24 : Int); omega) (jc (by show (0 : Int) ≤ M 53 15; omega) (by show M 53 15 ≤ (16 : Int); omega) (jc (by show (7 : Int) ≤ M 62 23; omega) (by show M 62 23 ≤ (7 : Int); omega) (jc (by show (0 : Int) ≤ M 63 23; omega) (by show M 63 23 ≤ (0 : Int); omega) (jc (by show (0 : Int) ≤ M 64 23; omega) (by show M 64 23 ≤ (29 : Int); omega) jn)))))⟩
theorem c_mu_24 (hL : L < 2 ^ 31) : ci L xs 160 k_mu_24 :=
  ci_j_ok (ms := [k_mu_24_0, k_mu_24_1, k_mu_24_2, k_mu_24_3]) (jl_cons (c_mu_24_0 hL) (jl_cons (c_mu_24_1 hL) (jl_cons (c_mu_24_2 hL) (jl_cons (c_mu_24_3 hL) jl_nil)))) s_mu_24 (by decide +kernel)
def k_mu_25_0 : ct_C := ([(2, .ofNat 53, .ofNat 53)], [(53, 14, .ofNat 25, .ofNat 25), (53, 15, .ofNat 0, .ofNat 15), (62, 24, .ofNat 0, .ofNat 4), (63, 24, .ofNat 0, .ofNat 5), (64, 24, .negSucc 0, .ofNat 143)], [(53, 14, .ofNat 24, .ofNat 24), (53, 15, .ofNat 1, .ofNat 16)], [54, 55, 56, 57, 58], (some (0, .ofNat 24, .ofNat 24)), 2, false)
theorem c_mu_25_0 (hL : L < 2 ^ 31) : ci L xs 160 k_mu_25_0 :=
  mi_ok (fc := 9000) (f := 9000) (cuts := []) (xk := jx) cl_lok cl_hrf (cl_hro L xs) hL jx_ok (by decide +kernel)
def k_mu_25_1 : ct_C := ([(2, .ofNat 53, .ofNat 53)], [(53, 14, .ofNat 25, .ofNat 25), (53, 15, .ofNat 0, .ofNat 15), (62, 24, .ofNat 5, .ofNat 5), (63, 24, .ofNat 0, .ofNat 29), (64, 24, .negSucc 0, .ofNat 143)], [(53, 14, .ofNat 24, .ofNat 24), (53, 15, .ofNat 1, .ofNat 16)], [61], (some (0, .ofNat 24, .ofNat 24)), 2, false)
theorem c_mu_25_1 (hL : L < 2 ^ 31) : ci L xs 160 k_mu_25_1 :=
  mi_ok (fc := 9000) (f := 9000) (cuts := []) (xk := jx) cl_lok cl_hrf (cl_hro L xs) hL jx_ok (by decide +kernel)
def k_mu_25_2 : ct_C := ([(2, .ofNat 53, .ofNat 53)], [(53, 14, .ofNat 25, .ofNat 25), (53, 15, .ofNat 0, .ofNat 15), (62, 24, .ofNat 6, .ofNat 6), (63, 24, .ofNat 0, .ofNat 11), (64, 24, .negSucc 0, .ofNat 143)], [(53, 14, .ofNat 24, .ofNat 24), (53, 15, .ofNat 1, .ofNat 16)], [60], (some (0, .ofNat 24, .ofNat 24)), 2, false)
theorem c_mu_25_2 (hL : L < 2 ^ 31) : ci L xs 160 k_mu_25_2 :=
  mi_ok (fc := 9000) (f := 9000) (cuts := []) (xk := jx) cl_lok cl_hrf (cl_hro L xs) hL jx_ok (by decide +kernel)
def k_mu_25_3 : ct_C := ([(2, .ofNat 53, .ofNat 53)], [(53, 14, .ofNat 25, .ofNat 25), (53, 15, .ofNat 0, .ofNat 15), (62, 24, .ofNat 7, .ofNat 7), (63, 24, .ofNat 0, .ofNat 0), (64, 24, .ofNat 0, .ofNat 29)], [(53, 13, .ofNat 0, .ofNat 29), (53, 14, .ofNat 24, .ofNat 24), (53, 15, .ofNat 1, .ofNat 16)], [], (some (0, .ofNat 24, .ofNat 24)), 2, false)
theorem c_mu_25_3 (hL : L < 2 ^ 31) : ci L xs 160 k_mu_25_3 :=
  mi_ok (fc := 9000) (f := 9000) (cuts := []) (xk := jx) cl_lok cl_hrf (cl_hro L xs) hL jx_ok (by decide +kernel)
def k_mu_25 : ct_C := ([(2, .ofNat 53, .ofNat 53)], [(53, 14, .ofNat 25, .ofNat 25)], [(53, 13, .ofNat 0, .ofNat 29), (53, 14, .ofNat 0, .ofNat 40), (53, 15, .ofNat 0, .ofNat 40)], [54, 55, 56, 57, 58, 60, 61], (some (0, .ofNat 24, .ofNat 24)), 2, false)
theorem s_mu_25 (M : Nat → Nat → Int) (hm : sx_mok cl_ly M) (hJ : JJ M) (hg : ct_g k_mu_25.2.1 M) : ∃ m ∈ [k_mu_25_0, k_mu_25_1, k_mu_25_2, k_mu_25_3], ct_g m.2.1 M := by
  have hv : M 53 14 = 25 := by
    have h := hg (53, 14, .ofNat 25, .ofNat 25) List.mem_cons_self
    exact Int.le_antisymm h.2 h.1
  have hk := jr_kn hm
  have hu := jr_un hm
  have hd := hJ.2.2.1
  have he := hJ.2.2.2
  have h8 : jp (M 62 24) (M 63 24) (M 64 24) (M 65 24) := hJ.2.1 24 (by decide)
  obtain ⟨⟨b1, b2, b3, b4⟩, h8⟩ := h8
  rcases h8 with h8 | h8 | h8 | h8
  · exact ⟨k_mu_25_0, List.mem_cons_self, (jc (by show (25 : Int) ≤ M 53 14; omega) (by show M 53 14 ≤ (25 : Int); omega) (jc (by show (0 : Int) ≤ M 53 15; omega) (by show M 53 15 ≤ (15 : Int); omega) (jc (by show (0 : Int) ≤ M 62 24; omega) (by show M 62 24 ≤ (4 : Int); omega) (jc (by show (0 : Int) ≤ M 63 24; omega) (by show M 63 24 ≤ (5 : Int); omega) (jc (by show (-1 : Int) ≤ M 64 24; omega) (by show M 64 24 ≤ (143 : Int); omega) jn)))))⟩
  · exact ⟨k_mu_25_1, (List.mem_cons_of_mem _ List.mem_cons_self), (jc (by show (25 : Int) ≤ M 53 14; omega) (by show M 53 14 ≤ (25 : Int); omega) (jc (by show (0 : Int) ≤ M 53 15; omega) (by show M 53 15 ≤ (15 : Int); omega) (jc (by show (5 : Int) ≤ M 62 24; omega) (by show M 62 24 ≤ (5 : Int); omega) (jc (by show (0 : Int) ≤ M 63 24; omega) (by show M 63 24 ≤ (29 : Int); omega) (jc (by show (-1 : Int) ≤ M 64 24; omega) (by show M 64 24 ≤ (143 : Int); omega) jn)))))⟩
  · exact ⟨k_mu_25_2, (List.mem_cons_of_mem _ (List.mem_cons_of_mem _ List.mem_cons_self)), (jc (by show (25 : Int) ≤ M 53 14; omega) (by show M 53 14 ≤ (25 : Int); omega) (jc (by show (0 : Int) ≤ M 53 15; omega) (by show M 53 15 ≤ (15 : Int); omega) (jc (by show (6 : Int) ≤ M 62 24; omega) (by show M 62 24 ≤ (6 : Int); omega) (jc (by show (0 : Int) ≤ M 63 24; omega) (by show M 63 24 ≤ (11 : Int); omega) (jc (by show (-1 : Int) ≤ M 64 24; omega) (by show M 64 24 ≤ (143 : Int); omega) jn)))))⟩
  · exact ⟨k_mu_25_3, (List.mem_cons_of_mem _ (List.mem_cons_of_mem _ (List.mem_cons_of_mem _ List.mem_cons_self))), (jc (by show (25 : Int) ≤ M 53 14; omega) (by show M 53 14 ≤ (25 : Int); omega) (jc (by show (0 : Int) ≤ M 53 15; omega) (by show M 53 15 ≤ (15 : Int); omega) (jc (by show (7 : Int) ≤ M 62 24; omega) (by show M 62 24 ≤ (7 : Int); omega) (jc (by show (0 : Int) ≤ M 63 24; omega) (by show M 63 24 ≤ (0 : Int); omega) (jc (by show (0 : Int) ≤ M 64 24; omega) (by show M 64 24 ≤ (29 : Int); omega) jn)))))⟩
theorem c_mu_25 (hL : L < 2 ^ 31) : ci L xs 160 k_mu_25 :=
  ci_j_ok (ms := [k_mu_25_0, k_mu_25_1, k_mu_25_2, k_mu_25_3]) (jl_cons (c_mu_25_0 hL) (jl_cons (c_mu_25_1 hL) (jl_cons (c_mu_25_2 hL) (jl_cons (c_mu_25_3 hL) jl_nil)))) s_mu_25 (by decide +kernel)
def k_mu_26_0 : ct_C := ([(2, .ofNat 53, .ofNat 53)], [(53, 14, .ofNat 26, .ofNat 26), (53, 15, .ofNat 0, .ofNat 14), (62, 25, .ofNat 0, .ofNat 4), (63, 25, .ofNat 0, .ofNat 5), (64, 25, .negSucc 0, .ofNat 143)], [(53, 14, .ofNat 25, .ofNat 25), (53, 15, .ofNat 1, .ofNat 15)], [54, 55, 56, 57, 58], (some (0, .ofNat 25, .ofNat 25)), 2, false)
theorem c_mu_26_0 (hL : L < 2 ^ 31) : ci L xs 160 k_mu_26_0 :=
  mi_ok (fc := 9000) (f := 9000) (cuts := []) (xk := jx) cl_lok cl_hrf (cl_hro L xs) hL jx_ok (by decide +kernel)
def k_mu_26_1 : ct_C := ([(2, .ofNat 53, .ofNat 53)], [(53, 14, .ofNat 26, .ofNat 26), (53, 15, .ofNat 0, .ofNat 14), (62, 25, .ofNat 5, .ofNat 5), (63, 25, .ofNat 0, .ofNat 29), (64, 25, .negSucc 0, .ofNat 143)], [(53, 14, .ofNat 25, .ofNat 25), (53, 15, .ofNat 1, .ofNat 15)], [61], (some (0, .ofNat 25, .ofNat 25)), 2, false)
theorem c_mu_26_1 (hL : L < 2 ^ 31) : ci L xs 160 k_mu_26_1 :=
  mi_ok (fc := 9000) (f := 9000) (cuts := []) (xk := jx) cl_lok cl_hrf (cl_hro L xs) hL jx_ok (by decide +kernel)
def k_mu_26_2 : ct_C := ([(2, .ofNat 53, .ofNat 53)], [(53, 14, .ofNat 26, .ofNat 26), (53, 15, .ofNat 0, .ofNat 14), (62, 25, .ofNat 6, .ofNat 6), (63, 25, .ofNat 0, .ofNat 11), (64, 25, .negSucc 0, .ofNat 143)], [(53, 14, .ofNat 25, .ofNat 25), (53, 15, .ofNat 1, .ofNat 15)], [60], (some (0, .ofNat 25, .ofNat 25)), 2, false)
theorem c_mu_26_2 (hL : L < 2 ^ 31) : ci L xs 160 k_mu_26_2 :=
  mi_ok (fc := 9000) (f := 9000) (cuts := []) (xk := jx) cl_lok cl_hrf (cl_hro L xs) hL jx_ok (by decide +kernel)
def k_mu_26_3 : ct_C := ([(2, .ofNat 53, .ofNat 53)], [(53, 14, .ofNat 26, .ofNat 26), (53, 15, .ofNat 0, .ofNat 14), (62, 25, .ofNat 7, .ofNat 7), (63, 25, .ofNat 0, .ofNat 0), (64, 25, .ofNat 0, .ofNat 29)], [(53, 13, .ofNat 0, .ofNat 29), (53, 14, .ofNat 25, .ofNat 25), (53, 15, .ofNat 1, .ofNat 15)], [], (some (0, .ofNat 25, .ofNat 25)), 2, false)
theorem c_mu_26_3 (hL : L < 2 ^ 31) : ci L xs 160 k_mu_26_3 :=
  mi_ok (fc := 9000) (f := 9000) (cuts := []) (xk := jx) cl_lok cl_hrf (cl_hro L xs) hL jx_ok (by decide +kernel)
def k_mu_26 : ct_C := ([(2, .ofNat 53, .ofNat 53)], [(53, 14, .ofNat 26, .ofNat 26)], [(53, 13, .ofNat 0, .ofNat 29), (53, 14, .ofNat 0, .ofNat 40), (53, 15, .ofNat 0, .ofNat 40)], [54, 55, 56, 57, 58, 60, 61], (some (0, .ofNat 25, .ofNat 25)), 2, false)
theorem s_mu_26 (M : Nat → Nat → Int) (hm : sx_mok cl_ly M) (hJ : JJ M) (hg : ct_g k_mu_26.2.1 M) : ∃ m ∈ [k_mu_26_0, k_mu_26_1, k_mu_26_2, k_mu_26_3], ct_g m.2.1 M := by
  have hv : M 53 14 = 26 := by
    have h := hg (53, 14, .ofNat 26, .ofNat 26) List.mem_cons_self
    exact Int.le_antisymm h.2 h.1
  have hk := jr_kn hm
  have hu := jr_un hm
  have hd := hJ.2.2.1
  have he := hJ.2.2.2
  have h8 : jp (M 62 25) (M 63 25) (M 64 25) (M 65 25) := hJ.2.1 25 (by decide)
  obtain ⟨⟨b1, b2, b3, b4⟩, h8⟩ := h8
  rcases h8 with h8 | h8 | h8 | h8
  · exact ⟨k_mu_26_0, List.mem_cons_self, (jc (by show (26 : Int) ≤ M 53 14; omega) (by show M 53 14 ≤ (26 : Int); omega) (jc (by show (0 : Int) ≤ M 53 15; omega) (by show M 53 15 ≤ (14 : Int); omega) (jc (by show (0 : Int) ≤ M 62 25; omega) (by show M 62 25 ≤ (4 : Int); omega) (jc (by show (0 : Int) ≤ M 63 25; omega) (by show M 63 25 ≤ (5 : Int); omega) (jc (by show (-1 : Int) ≤ M 64 25; omega) (by show M 64 25 ≤ (143 : Int); omega) jn)))))⟩
  · exact ⟨k_mu_26_1, (List.mem_cons_of_mem _ List.mem_cons_self), (jc (by show (26 : Int) ≤ M 53 14; omega) (by show M 53 14 ≤ (26 : Int); omega) (jc (by show (0 : Int) ≤ M 53 15; omega) (by show M 53 15 ≤ (14 : Int); omega) (jc (by show (5 : Int) ≤ M 62 25; omega) (by show M 62 25 ≤ (5 : Int); omega) (jc (by show (0 : Int) ≤ M 63 25; omega) (by show M 63 25 ≤ (29 : Int); omega) (jc (by show (-1 : Int) ≤ M 64 25; omega) (by show M 64 25 ≤ (143 : Int); omega) jn)))))⟩
  · exact ⟨k_mu_26_2, (List.mem_cons_of_mem _ (List.mem_cons_of_mem _ List.mem_cons_self)), (jc (by show (26 : Int) ≤ M 53 14; omega) (by show M 53 14 ≤ (26 : Int); omega) (jc (by show (0 : Int) ≤ M 53 15; omega) (by show M 53 15 ≤ (14 : Int); omega) (jc (by show (6 : Int) ≤ M 62 25; omega) (by show M 62 25 ≤ (6 : Int); omega) (jc (by show (0 : Int) ≤ M 63 25; omega) (by show M 63 25 ≤ (11 : Int); omega) (jc (by show (-1 : Int) ≤ M 64 25; omega) (by show M 64 25 ≤ (143 : Int); omega) jn)))))⟩
  · exact ⟨k_mu_26_3, (List.mem_cons_of_mem _ (List.mem_cons_of_mem _ (List.mem_cons_of_mem _ List.mem_cons_self))), (jc (by show (26 : Int) ≤ M 53 14; omega) (by show M 53 14 ≤ (26 : Int); omega) (jc (by show (0 : Int) ≤ M 53 15; omega) (by show M 53 15 ≤ (14 : Int); omega) (jc (by show (7 : Int) ≤ M 62 25; omega) (by show M 62 25 ≤ (7 : Int); omega) (jc (by show (0 : Int) ≤ M 63 25; omega) (by show M 63 25 ≤ (0 : Int); omega) (jc (by show (0 : Int) ≤ M 64 25; omega) (by show M 64 25 ≤ (29 : Int); omega) jn)))))⟩
theorem c_mu_26 (hL : L < 2 ^ 31) : ci L xs 160 k_mu_26 :=
  ci_j_ok (ms := [k_mu_26_0, k_mu_26_1, k_mu_26_2, k_mu_26_3]) (jl_cons (c_mu_26_0 hL) (jl_cons (c_mu_26_1 hL) (jl_cons (c_mu_26_2 hL) (jl_cons (c_mu_26_3 hL) jl_nil)))) s_mu_26 (by decide +kernel)
def k_mu_27_0 : ct_C := ([(2, .ofNat 53, .ofNat 53)], [(53, 14, .ofNat 27, .ofNat 27), (53, 15, .ofNat 0, .ofNat 13), (62, 26, .ofNat 0, .ofNat 4), (63, 26, .ofNat 0, .ofNat 5), (64, 26, .negSucc 0, .ofNat 143)], [(53, 14, .ofNat 26, .ofNat 26), (53, 15, .ofNat 1, .ofNat 14)], [54, 55, 56, 57, 58], (some (0, .ofNat 26, .ofNat 26)), 2, false)
theorem c_mu_27_0 (hL : L < 2 ^ 31) : ci L xs 160 k_mu_27_0 :=
  mi_ok (fc := 9000) (f := 9000) (cuts := []) (xk := jx) cl_lok cl_hrf (cl_hro L xs) hL jx_ok (by decide +kernel)
def k_mu_27_1 : ct_C := ([(2, .ofNat 53, .ofNat 53)], [(53, 14, .ofNat 27, .ofNat 27), (53, 15, .ofNat 0, .ofNat 13), (62, 26, .ofNat 5, .ofNat 5), (63, 26, .ofNat 0, .ofNat 29), (64, 26, .negSucc 0, .ofNat 143)], [(53, 14, .ofNat 26, .ofNat 26), (53, 15, .ofNat 1, .ofNat 14)], [61], (some (0, .ofNat 26, .ofNat 26)), 2, false)
theorem c_mu_27_1 (hL : L < 2 ^ 31) : ci L xs 160 k_mu_27_1 :=
  mi_ok (fc := 9000) (f := 9000) (cuts := []) (xk := jx) cl_lok cl_hrf (cl_hro L xs) hL jx_ok (by decide +kernel)
def k_mu_27_2 : ct_C := ([(2, .ofNat 53, .ofNat 53)], [(53, 14, .ofNat 27, .ofNat 27), (53, 15, .ofNat 0, .ofNat 13), (62, 26, .ofNat 6, .ofNat 6), (63, 26, .ofNat 0, .ofNat 11), (64, 26, .negSucc 0, .ofNat 143)], [(53, 14, .ofNat 26, .ofNat 26), (53, 15, .ofNat 1, .ofNat 14)], [60], (some (0, .ofNat 26, .ofNat 26)), 2, false)
theorem c_mu_27_2 (hL : L < 2 ^ 31) : ci L xs 160 k_mu_27_2 :=
  mi_ok (fc := 9000) (f := 9000) (cuts := []) (xk := jx) cl_lok cl_hrf (cl_hro L xs) hL jx_ok (by decide +kernel)
def k_mu_27_3 : ct_C := ([(2, .ofNat 53, .ofNat 53)], [(53, 14, .ofNat 27, .ofNat 27), (53, 15, .ofNat 0, .ofNat 13), (62, 26, .ofNat 7, .ofNat 7), (63, 26, .ofNat 0, .ofNat 0), (64, 26, .ofNat 0, .ofNat 29)], [(53, 13, .ofNat 0, .ofNat 29), (53, 14, .ofNat 26, .ofNat 26), (53, 15, .ofNat 1, .ofNat 14)], [], (some (0, .ofNat 26, .ofNat 26)), 2, false)
theorem c_mu_27_3 (hL : L < 2 ^ 31) : ci L xs 160 k_mu_27_3 :=
  mi_ok (fc := 9000) (f := 9000) (cuts := []) (xk := jx) cl_lok cl_hrf (cl_hro L xs) hL jx_ok (by decide +kernel)
def k_mu_27 : ct_C := ([(2, .ofNat 53, .ofNat 53)], [(53, 14, .ofNat 27, .ofNat 27)], [(53, 13, .ofNat 0, .ofNat 29), (53, 14, .ofNat 0, .ofNat 40), (53, 15, .ofNat 0, .ofNat 40)], [54, 55, 56, 57, 58, 60, 61], (some (0, .ofNat 26, .ofNat 26)), 2, false)
theorem s_mu_27 (M : Nat → Nat → Int) (hm : sx_mok cl_ly M) (hJ : JJ M) (hg : ct_g k_mu_27.2.1 M) : ∃ m ∈ [k_mu_27_0, k_mu_27_1, k_mu_27_2, k_mu_27_3], ct_g m.2.1 M := by
  have hv : M 53 14 = 27 := by
    have h := hg (53, 14, .ofNat 27, .ofNat 27) List.mem_cons_self
    exact Int.le_antisymm h.2 h.1
  have hk := jr_kn hm
  have hu := jr_un hm
  have hd := hJ.2.2.1
  have he := hJ.2.2.2
  have h8 : jp (M 62 26) (M 63 26) (M 64 26) (M 65 26) := hJ.2.1 26 (by decide)
  obtain ⟨⟨b1, b2, b3, b4⟩, h8⟩ := h8
  rcases h8 with h8 | h8 | h8 | h8
  · exact ⟨k_mu_27_0, List.mem_cons_self, (jc (by show (27 : Int) ≤ M 53 14; omega) (by show M 53 14 ≤ (27 : Int); omega) (jc (by show (0 : Int) ≤ M 53 15; omega) (by show M 53 15 ≤ (13 : Int); omega) (jc (by show (0 : Int) ≤ M 62 26; omega) (by show M 62 26 ≤ (4 : Int); omega) (jc (by show (0 : Int) ≤ M 63 26; omega) (by show M 63 26 ≤ (5 : Int); omega) (jc (by show (-1 : Int) ≤ M 64 26; omega) (by show M 64 26 ≤ (143 : Int); omega) jn)))))⟩
  · exact ⟨k_mu_27_1, (List.mem_cons_of_mem _ List.mem_cons_self), (jc (by show (27 : Int) ≤ M 53 14; omega) (by show M 53 14 ≤ (27 : Int); omega) (jc (by show (0 : Int) ≤ M 53 15; omega) (by show M 53 15 ≤ (13 : Int); omega) (jc (by show (5 : Int) ≤ M 62 26; omega) (by show M 62 26 ≤ (5 : Int); omega) (jc (by show (0 : Int) ≤ M 63 26; omega) (by show M 63 26 ≤ (29 : Int); omega) (jc (by show (-1 : Int) ≤ M 64 26; omega) (by show M 64 26 ≤ (143 : Int); omega) jn)))))⟩
  · exact ⟨k_mu_27_2, (List.mem_cons_of_mem _ (List.mem_cons_of_mem _ List.mem_cons_self)), (jc (by show (27 : Int) ≤ M 53 14; omega) (by show M 53 14 ≤ (27 : Int); omega) (jc (by show (0 : Int) ≤ M 53 15; omega) (by show M 53 15 ≤ (13 : Int); omega) (jc (by show (6 : Int) ≤ M 62 26; omega) (by show M 62 26 ≤ (6 : Int); omega) (jc (by show (0 : Int) ≤ M 63 26; omega) (by show M 63 26 ≤ (11 : Int); omega) (jc (by show (-1 : Int) ≤ M 64 26; omega) (by show M 64 26 ≤ (143 : Int); omega) jn)))))⟩
  · exact ⟨k_mu_27_3, (List.mem_cons_of_mem _ (List.mem_cons_of_mem _ (List.mem_cons_of_mem _ List.mem_cons_self))), (jc (by show (27 : Int) ≤ M 53 14; omega) (by show M 53 14 ≤ (27 : Int); omega) (jc (by show (0 : Int) ≤ M 53 15; omega) (by show M 53 15 ≤ (13 : Int); omega) (jc (by show (7 : Int) ≤ M 62 26; omega) (by show M 62 26 ≤ (7 : Int); omega) (jc (by show (0 : Int) ≤ M 63 26; omega) (by show M 63 26 ≤ (0 : Int); omega) (jc (by show (0 : Int) ≤ M 64 26; omega) (by show M 64 26 ≤ (29 : Int); omega) jn)))))⟩
theorem c_mu_27 (hL : L < 2 ^ 31) : ci L xs 160 k_mu_27 :=
  ci_j_ok (ms := [k_mu_27_0, k_mu_27_1, k_mu_27_2, k_mu_27_3]) (jl_cons (c_mu_27_0 hL) (jl_cons (c_mu_27_1 hL) (jl_cons (c_mu_27_2 hL) (jl_cons (c_mu_27_3 hL) jl_nil)))) s_mu_27 (by decide +kernel)
def k_mu_28_0 : ct_C := ([(2, .ofNat 53, .ofNat 53)], [(53, 14, .ofNat 28, .ofNat 28), (53, 15, .ofNat 0, .ofNat 12), (62, 27, .ofNat 0, .ofNat 4), (63, 27, .ofNat 0, .ofNat 5), (64, 27, .negSucc 0, .ofNat 143)], [(53, 14, .ofNat 27, .ofNat 27), (53, 15, .ofNat 1, .ofNat 13)], [54, 55, 56, 57, 58], (some (0, .ofNat 27, .ofNat 27)), 2, false)
theorem c_mu_28_0 (hL : L < 2 ^ 31) : ci L xs 160 k_mu_28_0 :=
  mi_ok (fc := 9000) (f := 9000) (cuts := []) (xk := jx) cl_lok cl_hrf (cl_hro L xs) hL jx_ok (by decide +kernel)
def k_mu_28_1 : ct_C := ([(2, .ofNat 53, .ofNat 53)], [(53, 14, .ofNat 28, .ofNat 28), (53, 15, .ofNat 0, .ofNat 12), (62, 27, .ofNat 5, .ofNat 5), (63, 27, .ofNat 0, .ofNat 29), (64, 27, .negSucc 0, .ofNat 143)], [(53, 14, .ofNat 27, .ofNat 27), (53, 15, .ofNat 1, .ofNat 13)], [61], (some (0, .ofNat 27, .ofNat 27)), 2, false)
theorem c_mu_28_1 (hL : L < 2 ^ 31) : ci L xs 160 k_mu_28_1 :=
  mi_ok (fc := 9000) (f := 9000) (cuts := []) (xk := jx) cl_lok cl_hrf (cl_hro L xs) hL jx_ok (by decide +kernel)
def k_mu_28_2 : ct_C := ([(2, .ofNat 53, .ofNat 53)], [(53, 14, .ofNat 28, .ofNat 28), (53, 15, .ofNat 0, .ofNat 12), (62, 27, .ofNat 6, .ofNat 6), (63, 27, .ofNat 0, .ofNat 11), (64, 27, .negSucc 0, .ofNat 143)], [(53, 14, .ofNat 27, .ofNat 27), (53, 15, .ofNat 1, .ofNat 13)], [60], (some (0, .ofNat 27, .ofNat 27)), 2, false)
theorem c_mu_28_2 (hL : L < 2 ^ 31) : ci L xs 160 k_mu_28_2 :=
  mi_ok (fc := 9000) (f := 9000) (cuts := []) (xk := jx) cl_lok cl_hrf (cl_hro L xs) hL jx_ok (by decide +kernel)
def k_mu_28_3 : ct_C := ([(2, .ofNat 53, .ofNat 53)], [(53, 14, .ofNat 28, .ofNat 28), (53, 15, .ofNat 0, .ofNat 12), (62, 27, .ofNat 7, .ofNat 7), (63, 27, .ofNat 0, .ofNat 0), (64, 27, .ofNat 0, .ofNat 29)], [(53, 13, .ofNat 0, .ofNat 29), (53, 14, .ofNat 27, .ofNat 27), (53, 15, .ofNat 1, .ofNat 13)], [], (some (0, .ofNat 27, .ofNat 27)), 2, false)
theorem c_mu_28_3 (hL : L < 2 ^ 31) : ci L xs 160 k_mu_28_3 :=
  mi_ok (fc := 9000) (f := 9000) (cuts := []) (xk := jx) cl_lok cl_hrf (cl_hro L xs) hL jx_ok (by decide +kernel)
def k_mu_28 : ct_C := ([(2, .ofNat 53, .ofNat 53)], [(53, 14, .ofNat 28, .ofNat 28)], [(53, 13, .ofNat 0, .ofNat 29), (53, 14, .ofNat 0, .ofNat 40), (53, 15, .ofNat 0, .ofNat 40)], [54, 55, 56, 57, 58, 60, 61], (some (0, .ofNat 27, .ofNat 27)), 2, false)
theorem s_mu_28 (M : Nat → Nat → Int) (hm : sx_mok cl_ly M) (hJ : JJ M) (hg : ct_g k_mu_28.2.1 M) : ∃ m ∈ [k_mu_28_0, k_mu_28_1, k_mu_28_2, k_mu_28_3], ct_g m.2.1 M := by
  have hv : M 53 14 = 28 := by
    have h := hg (53, 14, .ofNat 28, .ofNat 28) List.mem_cons_self
    exact Int.le_antisymm h.2 h.1
  have hk := jr_kn hm
  have hu := jr_un hm
  have hd := hJ.2.2.1
  have he := hJ.2.2.2
  have h8 : jp (M 62 27) (M 63 27) (M 64 27) (M 65 27) := hJ.2.1 27 (by decide)
  obtain ⟨⟨b1, b2, b3, b4⟩, h8⟩ := h8
  rcases h8 with h8 | h8 | h8 | h8
  · exact ⟨k_mu_28_0, List.mem_cons_self, (jc (by show (28 : Int) ≤ M 53 14; omega) (by show M 53 14 ≤ (28 : Int); omega) (jc (by show (0 : Int) ≤ M 53 15; omega) (by show M 53 15 ≤ (12 : Int); omega) (jc (by show (0 : Int) ≤ M 62 27; omega) (by show M 62 27 ≤ (4 : Int); omega) (jc (by show (0 : Int) ≤ M 63 27; omega) (by show M 63 27 ≤ (5 : Int); omega) (jc (by show (-1 : Int) ≤ M 64 27; omega) (by show M 64 27 ≤ (143 : Int); omega) jn)))))⟩
  · exact ⟨k_mu_28_1, (List.mem_cons_of_mem _ List.mem_cons_self), (jc (by show (28 : Int) ≤ M 53 14; omega) (by show M 53 14 ≤ (28 : Int); omega) (jc (by show (0 : Int) ≤ M 53 15; omega) (by show M 53 15 ≤ (12 : Int); omega) (jc (by show (5 : Int) ≤ M 62 27; omega) (by show M 62 27 ≤ (5 : Int); omega) (jc (by show (0 : Int) ≤ M 63 27; omega) (by show M 63 27 ≤ (29 : Int); omega) (jc (by show (-1 : Int) ≤ M 64 27; omega) (by show M 64 27 ≤ (143 : Int); omega) jn)))))⟩
  · exact ⟨k_mu_28_2, (List.mem_cons_of_mem _ (List.mem_cons_of_mem _ List.mem_cons_self)), (jc (by show (28 : Int) ≤ M 53 14; omega) (by show M 53 14 ≤ (28 : Int); omega) (jc (by show (0 : Int) ≤ M 53 15; omega) (by show M 53 15 ≤ (12 : Int); omega) (jc (by show (6 : Int) ≤ M 62 27; omega) (by show M 62 27 ≤ (6 : Int); omega) (jc (by show (0 : Int) ≤ M 63 27; omega) (by show M 63 27 ≤ (11 : Int); omega) (jc (by show (-1 : Int) ≤ M 64 27; omega) (by show M 64 27 ≤ (143 : Int); omega) jn)))))⟩
  · exact ⟨k_mu_28_3, (List.mem_cons_of_mem _ (List.mem_cons_of_mem _ (List.mem_cons_of_mem _ List.mem_cons_self))), (jc (by show (28 : Int) ≤ M 53 14; omega) (by show M 53 14 ≤ (28 : Int); omega) (jc (by show (0 : Int) ≤ M 53 15; omega) (by show M 53 15 ≤ (12 : Int); omega) (jc (by show (7 : Int) ≤ M 62 27; omega) (by show M 62 27 ≤ (7 : Int); omega) (jc (by show (0 : Int) ≤ M 63 27; omega) (by show M 63 27 ≤ (0 : Int); omega) (jc (by show (0 : Int) ≤ M 64 27; omega) (by show M 64 27 ≤ (29 : Int); omega) jn)))))⟩
theorem c_mu_28 (hL : L < 2 ^ 31) : ci L xs 160 k_mu_28 :=
  ci_j_ok (ms := [k_mu_28_0, k_mu_28_1, k_mu_28_2, k_mu_28_3]) (jl_cons (c_mu_28_0 hL) (jl_cons (c_mu_28_1 hL) (jl_cons (c_mu_28_2 hL) (jl_cons (c_mu_28_3 hL) jl_nil)))) s_mu_28 (by decide +kernel)
def k_mu_29_0 : ct_C := ([(2, .ofNat 53, .ofNat 53)], [(53, 14, .ofNat 29, .ofNat 29), (53, 15, .ofNat 0, .ofNat 11), (62, 28, .ofNat 0, .ofNat 4), (63, 28, .ofNat 0, .ofNat 5), (64, 28, .negSucc 0, .ofNat 143)], [(53, 14, .ofNat 28, .ofNat 28), (53, 15, .ofNat 1, .ofNat 12)], [54, 55, 56, 57, 58], (some (0, .ofNat 28, .ofNat 28)), 2, false)
theorem c_mu_29_0 (hL : L < 2 ^ 31) : ci L xs 160 k_mu_29_0 :=
  mi_ok (fc := 9000) (f := 9000) (cuts := []) (xk := jx) cl_lok cl_hrf (cl_hro L xs) hL jx_ok (by decide +kernel)
def k_mu_29_1 : ct_C := ([(2, .ofNat 53, .ofNat 53)], [(53, 14, .ofNat 29, .ofNat 29), (53, 15, .ofNat 0, .ofNat 11), (62, 28, .ofNat 5, .ofNat 5), (63, 28, .ofNat 0, .ofNat 29), (64, 28, .negSucc 0, .ofNat 143)], [(53, 14, .ofNat 28, .ofNat 28), (53, 15, .ofNat 1, .ofNat 12)], [61], (some (0, .ofNat 28, .ofNat 28)), 2, false)
theorem c_mu_29_1 (hL : L < 2 ^ 31) : ci L xs 160 k_mu_29_1 :=
  mi_ok (fc := 9000) (f := 9000) (cuts := []) (xk := jx) cl_lok cl_hrf (cl_hro L xs) hL jx_ok (by decide +kernel)
def k_mu_29_2 : ct_C := ([(2, .ofNat 53, .ofNat 53)], [(53, 14, .ofNat 29, .ofNat 29), (53, 15, .ofNat 0, .ofNat 11), (62, 28, .ofNat 6, .ofNat 6), (63, 28, .ofNat 0, .ofNat 11), (64, 28, .negSucc 0, .ofNat 143)], [(53, 14, .ofNat 28, .ofNat 28), (53, 15, .ofNat 1, .ofNat 12)], [60], (some (0, .ofNat 28, .ofNat 28)), 2, false)
theorem c_mu_29_2 (hL : L < 2 ^ 31) : ci L xs 160 k_mu_29_2 :=
  mi_ok (fc := 9000) (f := 9000) (cuts := []) (xk := jx) cl_lok cl_hrf (cl_hro L xs) hL jx_ok (by decide +kernel)
def k_mu_29_3 : ct_C := ([(2, .ofNat 53, .ofNat 53)], [(53, 14, .ofNat 29, .ofNat 29), (53, 15, .ofNat 0, .ofNat 11), (62, 28, .ofNat 7, .ofNat 7), (63, 28, .ofNat 0, .ofNat 0), (64, 28, .ofNat 0, .ofNat 29)], [(53, 13, .ofNat 0, .ofNat 29), (53, 14, .ofNat 28, .ofNat 28), (53, 15, .ofNat 1, .ofNat 12)], [], (some (0, .ofNat 28, .ofNat 28)), 2, false)
theorem c_mu_29_3 (hL : L < 2 ^ 31) : ci L xs 160 k_mu_29_3 :=
  mi_ok (fc := 9000) (f := 9000) (cuts := []) (xk := jx) cl_lok cl_hrf (cl_hro L xs) hL jx_ok (by decide +kernel)
def k_mu_29 : ct_C := ([(2, .ofNat 53, .ofNat 53)], [(53, 14, .ofNat 29, .ofNat 29)], [(53, 13, .ofNat 0, .ofNat 29), (53, 14, .ofNat 0, .ofNat 40), (53, 15, .ofNat 0, .ofNat 40)], [54, 55, 56, 57, 58, 60, 61], (some (0, .ofNat 28, .ofNat 28)), 2, false)
theorem s_mu_29 (M : Nat → Nat → Int) (hm : sx_mok cl_ly M) (hJ : JJ M) (hg : ct_g k_mu_29.2.1 M) : ∃ m ∈ [k_mu_29_0, k_mu_29_1, k_mu_29_2, k_mu_29_3], ct_g m.2.1 M := by
  have hv : M 53 14 = 29 := by
    have h := hg (53, 14, .ofNat 29, .ofNat 29) List.mem_cons_self
    exact Int.le_antisymm h.2 h.1
  have hk := jr_kn hm
  have hu := jr_un hm
  have hd := hJ.2.2.1
  have he := hJ.2.2.2
  have h8 : jp (M 62 28) (M 63 28) (M 64 28) (M 65 28) := hJ.2.1 28 (by decide)
  obtain ⟨⟨b1, b2, b3, b4⟩, h8⟩ := h8
  rcases h8 with h8 | h8 | h8 | h8
  · exact ⟨k_mu_29_0, List.mem_cons_self, (jc (by show (29 : Int) ≤ M 53 14; omega) (by show M 53 14 ≤ (29 : Int); omega) (jc (by show (0 : Int) ≤ M 53 15; omega) (by show M 53 15 ≤ (11 : Int); omega) (jc (by show (0 : Int) ≤ M 62 28; omega) (by show M 62 28 ≤ (4 : Int); omega) (jc (by show (0 : Int) ≤ M 63 28; omega) (by show M 63 28 ≤ (5 : Int); omega) (jc (by show (-1 : Int) ≤ M 64 28; omega) (by show M 64 28 ≤ (143 : Int); omega) jn)))))⟩
  · exact ⟨k_mu_29_1, (List.mem_cons_of_mem _ List.mem_cons_self), (jc (by show (29 : Int) ≤ M 53 14; omega) (by show M 53 14 ≤ (29 : Int); omega) (jc (by show (0 : Int) ≤ M 53 15; omega) (by show M 53 15 ≤ (11 : Int); omega) (jc (by show (5 : Int) ≤ M 62 28; omega) (by show M 62 28 ≤ (5 : Int); omega) (jc (by show (0 : Int) ≤ M 63 28; omega) (by show M 63 28 ≤ (29 : Int); omega) (jc (by show (-1 : Int) ≤ M 64 28; omega) (by show M 64 28 ≤ (143 : Int); omega) jn)))))⟩
  · exact ⟨k_mu_29_2, (List.mem_cons_of_mem _ (List.mem_cons_of_mem _ List.mem_cons_self)), (jc (by show (29 : Int) ≤ M 53 14; omega) (by show M 53 14 ≤ (29 : Int); omega) (jc (by show (0 : Int) ≤ M 53 15; omega) (by show M 53 15 ≤ (11 : Int); omega) (jc (by show (6 : Int) ≤ M 62 28; omega) (by show M 62 28 ≤ (6 : Int); omega) (jc (by show (0 : Int) ≤ M 63 28; omega) (by show M 63 28 ≤ (11 : Int); omega) (jc (by show (-1 : Int) ≤ M 64 28; omega) (by show M 64 28 ≤ (143 : Int); omega) jn)))))⟩
  · exact ⟨k_mu_29_3, (List.mem_cons_of_mem _ (List.mem_cons_of_mem _ (List.mem_cons_of_mem _ List.mem_cons_self))), (jc (by show (29 : Int) ≤ M 53 14; omega) (by show M 53 14 ≤ (29 : Int); omega) (jc (by show (0 : Int) ≤ M 53 15; omega) (by show M 53 15 ≤ (11 : Int); omega) (jc (by show (7 : Int) ≤ M 62 28; omega) (by show M 62 28 ≤ (7 : Int); omega) (jc (by show (0 : Int) ≤ M 63 28; omega) (by show M 63 28 ≤ (0 : Int); omega) (jc (by show (0 : Int) ≤ M 64 28; omega) (by show M 64 28 ≤ (29 : Int); omega) jn)))))⟩
theorem c_mu_29 (hL : L < 2 ^ 31) : ci L xs 160 k_mu_29 :=
  ci_j_ok (ms := [k_mu_29_0, k_mu_29_1, k_mu_29_2, k_mu_29_3]) (jl_cons (c_mu_29_0 hL) (jl_cons (c_mu_29_1 hL) (jl_cons (c_mu_29_2 hL) (jl_cons (c_mu_29_3 hL) jl_nil)))) s_mu_29 (by decide +kernel)
def k_mu_30_0 : ct_C := ([(2, .ofNat 53, .ofNat 53)], [(53, 14, .ofNat 30, .ofNat 30), (53, 15, .ofNat 0, .ofNat 10), (62, 29, .ofNat 0, .ofNat 4), (63, 29, .ofNat 0, .ofNat 5), (64, 29, .negSucc 0, .ofNat 143)], [(53, 14, .ofNat 29, .ofNat 29), (53, 15, .ofNat 1, .ofNat 11)], [54, 55, 56, 57, 58], (some (0, .ofNat 29, .ofNat 29)), 2, false)
theorem c_mu_30_0 (hL : L < 2 ^ 31) : ci L xs 160 k_mu_30_0 :=
  mi_ok (fc := 9000) (f := 9000) (cuts := []) (xk := jx) cl_lok cl_hrf (cl_hro L xs) hL jx_ok (by decide +kernel)
def k_mu_30_1 : ct_C := ([(2, .ofNat 53, .ofNat 53)], [(53, 14, .ofNat 30, .ofNat 30), (53, 15, .ofNat 0, .ofNat 10), (62, 29, .ofNat 5, .ofNat 5), (63, 29, .ofNat 0, .ofNat 29), (64, 29, .negSucc 0, .ofNat 143)], [(53, 14, .ofNat 29, .ofNat 29), (53, 15, .ofNat 1, .ofNat 11)], [61], (some (0, .ofNat 29, .ofNat 29)), 2, false)
theorem c_mu_30_1 (hL : L < 2 ^ 31) : ci L xs 160 k_mu_30_1 :=
  mi_ok (fc := 9000) (f := 9000) (cuts := []) (xk := jx) cl_lok cl_hrf (cl_hro L xs) hL jx_ok (by decide +kernel)
def k_mu_30_2 : ct_C := ([(2, .ofNat 53, .ofNat 53)], [(53, 14, .ofNat 30, .ofNat 30), (53, 15, .ofNat 0, .ofNat 10), (62, 29, .ofNat 6, .ofNat 6), (63, 29, .ofNat 0, .ofNat 11), (64, 29, .negSucc 0, .ofNat 143)], [(53, 14, .ofNat 29, .ofNat 29), (53, 15, .ofNat 1, .ofNat 11)], [60], (some (0, .ofNat 29, .ofNat 29)), 2, false)
theorem c_mu_30_2 (hL : L < 2 ^ 31) : ci L xs 160 k_mu_30_2 :=
  mi_ok (fc := 9000) (f := 9000) (cuts := []) (xk := jx) cl_lok cl_hrf (cl_hro L xs) hL jx_ok (by decide +kernel)
def k_mu_30_3 : ct_C := ([(2, .ofNat 53, .ofNat 53)], [(53, 14, .ofNat 30, .ofNat 30), (53, 15, .ofNat 0, .ofNat 10), (62, 29, .ofNat 7, .ofNat 7), (63, 29, .ofNat 0, .ofNat 0), (64, 29, .ofNat 0, .ofNat 29)], [(53, 13, .ofNat 0, .ofNat 29), (53, 14, .ofNat 29, .ofNat 29), (53, 15, .ofNat 1, .ofNat 11)], [], (some (0, .ofNat 29, .ofNat 29)), 2, false)
theorem c_mu_30_3 (hL : L < 2 ^ 31) : ci L xs 160 k_mu_30_3 :=
  mi_ok (fc := 9000) (f := 9000) (cuts := []) (xk := jx) cl_lok cl_hrf (cl_hro L xs) hL jx_ok (by decide +kernel)
def k_mu_30 : ct_C := ([(2, .ofNat 53, .ofNat 53)], [(53, 14, .ofNat 30, .ofNat 30)], [(53, 13, .ofNat 0, .ofNat 29), (53, 14, .ofNat 0, .ofNat 40), (53, 15, .ofNat 0, .ofNat 40)], [54, 55, 56, 57, 58, 60, 61], (some (0, .ofNat 29, .ofNat 29)), 2, false)
theorem s_mu_30 (M : Nat → Nat → Int) (hm : sx_mok cl_ly M) (hJ : JJ M) (hg : ct_g k_mu_30.2.1 M) : ∃ m ∈ [k_mu_30_0, k_mu_30_1, k_mu_30_2, k_mu_30_3], ct_g m.2.1 M := by
  have hv : M 53 14 = 30 := by
    have h := hg (53, 14, .ofNat 30, .ofNat 30) List.mem_cons_self
    exact Int.le_antisymm h.2 h.1
  have hk := jr_kn hm
  have hu := jr_un hm
  have hd := hJ.2.2.1
  have he := hJ.2.2.2
  have h8 : jp (M 62 29) (M 63 29) (M 64 29) (M 65 29) := hJ.2.1 29 (by decide)
  obtain ⟨⟨b1, b2, b3, b4⟩, h8⟩ := h8
  rcases h8 with h8 | h8 | h8 | h8
  · exact ⟨k_mu_30_0, List.mem_cons_self, (jc (by show (30 : Int) ≤ M 53 14; omega) (by show M 53 14 ≤ (30 : Int); omega) (jc (by show (0 : Int) ≤ M 53 15; omega) (by show M 53 15 ≤ (10 : Int); omega) (jc (by show (0 : Int) ≤ M 62 29; omega) (by show M 62 29 ≤ (4 : Int); omega) (jc (by show (0 : Int) ≤ M 63 29; omega) (by show M 63 29 ≤ (5 : Int); omega) (jc (by show (-1 : Int) ≤ M 64 29; omega) (by show M 64 29 ≤ (143 : Int); omega) jn)))))⟩
  · exact ⟨k_mu_30_1, (List.mem_cons_of_mem _ List.mem_cons_self), (jc (by show (30 : Int) ≤ M 53 14; omega) (by show M 53 14 ≤ (30 : Int); omega) (jc (by show (0 : Int) ≤ M 53 15; omega) (by show M 53 15 ≤ (10 : Int); omega) (jc (by show (5 : Int) ≤ M 62 29; omega) (by show M 62 29 ≤ (5 : Int); omega) (jc (by show (0 : Int) ≤ M 63 29; omega) (by show M 63 29 ≤ (29 : Int); omega) (jc (by show (-1 : Int) ≤ M 64 29; omega) (by show M 64 29 ≤ (143 : Int); omega) jn)))))⟩
  · exact ⟨k_mu_30_2, (List.mem_cons_of_mem _ (List.mem_cons_of_mem _ List.mem_cons_self)), (jc (by show (30 : Int) ≤ M 53 14; omega) (by show M 53 14 ≤ (30 : Int); omega) (jc (by show (0 : Int) ≤ M 53 15; omega) (by show M 53 15 ≤ (10 : Int); omega) (jc (by show (6 : Int) ≤ M 62 29; omega) (by show M 62 29 ≤ (6 : Int); omega) (jc (by show (0 : Int) ≤ M 63 29; omega) (by show M 63 29 ≤ (11 : Int); omega) (jc (by show (-1 : Int) ≤ M 64 29; omega) (by show M 64 29 ≤ (143 : Int); omega) jn)))))⟩
  · exact ⟨k_mu_30_3, (List.mem_cons_of_mem _ (List.mem_cons_of_mem _ (List.mem_cons_of_mem _ List.mem_cons_self))), (jc (by show (30 : Int) ≤ M 53 14; omega) (by show M 53 14 ≤ (30 : Int); omega) (jc (by show (0 : Int) ≤ M 53 15; omega) (by show M 53 15 ≤ (10 : Int); omega) (jc (by show (7 : Int) ≤ M 62 29; omega) (by show M 62 29 ≤ (7 : Int); omega) (jc (by show (0 : Int) ≤ M 63 29; omega) (by show M 63 29 ≤ (0 : Int); omega) (jc (by show (0 : Int) ≤ M 64 29; omega) (by show M 64 29 ≤ (29 : Int); omega) jn)))))⟩
theorem c_mu_30 (hL : L < 2 ^ 31) : ci L xs 160 k_mu_30 :=
  ci_j_ok (ms := [k_mu_30_0, k_mu_30_1, k_mu_30_2, k_mu_30_3]) (jl_cons (c_mu_30_0 hL) (jl_cons (c_mu_30_1 hL) (jl_cons (c_mu_30_2 hL) (jl_cons (c_mu_30_3 hL) jl_nil)))) s_mu_30 (by decide +kernel)
def k_mu_31_0 : ct_C := ([(2, .ofNat 53, .ofNat 53)], [(53, 14, .ofNat 31, .ofNat 31), (53, 15, .ofNat 0, .ofNat 9), (62, 30, .ofNat 0, .ofNat 4), (63, 30, .ofNat 0, .ofNat 5), (64, 30, .negSucc 0, .ofNat 143)], [(53, 14, .ofNat 30, .ofNat 30), (53, 15, .ofNat 1, .ofNat 10)], [54, 55, 56, 57, 58], (some (0, .ofNat 30, .ofNat 30)), 2, false)
theorem c_mu_31_0 (hL : L < 2 ^ 31) : ci L xs 160 k_mu_31_0 :=
  mi_ok (fc := 9000) (f := 9000) (cuts := []) (xk := jx) cl_lok cl_hrf (cl_hro L xs) hL jx_ok (by decide +kernel)
def k_mu_31_1 : ct_C := ([(2, .ofNat 53, .ofNat 53)], [(53, 14, .ofNat 31, .ofNat 31), (53, 15, .ofNat 0, .ofNat 9), (62, 30, .ofNat 5, .ofNat 5), (63, 30, .ofNat 0, .ofNat 29), (64, 30, .negSucc 0, .ofNat 143)], [(53, 14, .ofNat 30, .ofNat 30), (53, 15, .ofNat 1, .ofNat 10)], [61], (some (0, .ofNat 30, .ofNat 30)), 2, false)
theorem c_mu_31_1 (hL : L < 2 ^ 31) : ci L xs 160 k_mu_31_1 :=
  mi_ok (fc := 9000) (f := 9000) (cuts := []) (xk := jx) cl_lok cl_hrf (cl_hro L xs) hL jx_ok (by decide +kernel)
def k_mu_31_2 : ct_C := ([(2, .ofNat 53, .ofNat 53)], [(53, 14, .ofNat 31, .ofNat 31), (53, 15, .ofNat 0, .ofNat 9), (62, 30, .ofNat 6, .ofNat 6), (63, 30, .ofNat 0, .ofNat 11), (64, 30, .negSucc 0, .ofNat 143)], [(53, 14, .ofNat 30, .ofNat 30), (53, 15, .ofNat 1, .ofNat 10)], [60], (some (0, .ofNat 30, .ofNat 30)), 2, false)
theorem c_mu_31_2 (hL : L < 2 ^ 31) : ci L xs 160 k_mu_31_2 :=
  mi_ok (fc := 9000) (f := 9000) (cuts := []) (xk := jx) cl_lok cl_hrf (cl_hro L xs) hL jx_ok (by decide +kernel)
def k_mu_31_3 : ct_C := ([(2, .ofNat 53, .ofNat 53)], [(53, 14, .ofNat 31, .ofNat 31), (53, 15, .ofNat 0, .ofNat 9), (62, 30, .ofNat 7, .ofNat 7), (63, 30, .ofNat 0, .ofNat 0), (64, 30, .ofNat 0, .ofNat 29)], [(53, 13, .ofNat 0, .ofNat 29), (53, 14, .ofNat 30, .ofNat 30), (53, 15, .ofNat 1, .ofNat 10)], [], (some (0, .ofNat 30, .ofNat 30)), 2, false)
theorem c_mu_31_3 (hL : L < 2 ^ 31) : ci L xs 160 k_mu_31_3 :=
  mi_ok (fc := 9000) (f := 9000) (cuts := []) (xk := jx) cl_lok cl_hrf (cl_hro L xs) hL jx_ok (by decide +kernel)
def k_mu_31 : ct_C := ([(2, .ofNat 53, .ofNat 53)], [(53, 14, .ofNat 31, .ofNat 31)], [(53, 13, .ofNat 0, .ofNat 29), (53, 14, .ofNat 0, .ofNat 40), (53, 15, .ofNat 0, .ofNat 40)], [54, 55, 56, 57, 58, 60, 61], (some (0, .ofNat 30, .ofNat 30)), 2, false)
theorem s_mu_31 (M : Nat → Nat → Int) (hm : sx_mok cl_ly M) (hJ : JJ M) (hg : ct_g k_mu_31.2.1 M) : ∃ m ∈ [k_mu_31_0, k_mu_31_1, k_mu_31_2, k_mu_31_3], ct_g m.2.1 M := by
  have hv : M 53 14 = 31 := by
    have h := hg (53, 14, .ofNat 31, .ofNat 31) List.mem_cons_self
    exact Int.le_antisymm h.2 h.1
  have hk := jr_kn hm
  have hu := jr_un hm
  have hd := hJ.2.2.1
  have he := hJ.2.2.2
  have h8 : jp (M 62 30) (M 63 30) (M 64 30) (M 65 30) := hJ.2.1 30 (by decide)
  obtain ⟨⟨b1, b2, b3, b4⟩, h8⟩ := h8
  rcases h8 with h8 | h8 | h8 | h8
  · exact ⟨k_mu_31_0, List.mem_cons_self, (jc (by show (31 : Int) ≤ M 53 14; omega) (by show M 53 14 ≤ (31 : Int); omega) (jc (by show (0 : Int) ≤ M 53 15; omega) (by show M 53 15 ≤ (9 : Int); omega) (jc (by show (0 : Int) ≤ M 62 30; omega) (by show M 62 30 ≤ (4 : Int); omega) (jc (by show (0 : Int) ≤ M 63 30; omega) (by show M 63 30 ≤ (5 : Int); omega) (jc (by show (-1 : Int) ≤ M 64 30; omega) (by show M 64 30 ≤ (143 : Int); omega) jn)))))⟩
  · exact ⟨k_mu_31_1, (List.mem_cons_of_mem _ List.mem_cons_self), (jc (by show (31 : Int) ≤ M 53 14; omega) (by show M 53 14 ≤ (31 : Int); omega) (jc (by show (0 : Int) ≤ M 53 15; omega) (by show M 53 15 ≤ (9 : Int); omega) (jc (by show (5 : Int) ≤ M 62 30; omega) (by show M 62 30 ≤ (5 : Int); omega) (jc (by show (0 : Int) ≤ M 63 30; omega) (by show M 63 30 ≤ (29 : Int); omega) (jc (by show (-1 : Int) ≤ M 64 30; omega) (by show M 64 30 ≤ (143 : Int); omega) jn)))))⟩
  · exact ⟨k_mu_31_2, (List.mem_cons_of_mem _ (List.mem_cons_of_mem _ List.mem_cons_self)), (jc (by show (31 : Int) ≤ M 53 14; omega) (by show M 53 14 ≤ (31 : Int); omega) (jc (by show (0 : Int) ≤ M 53 15; omega) (by show M 53 15 ≤ (9 : Int); omega) (jc (by show (6 : Int) ≤ M 62 30; omega) (by show M 62 30 ≤ (6 : Int); omega) (jc (by show (0 : Int) ≤ M 63 30; omega) (by show M 63 30 ≤ (11 : Int); omega) (jc (by show (-1 : Int) ≤ M 64 30; omega) (by show M 64 30 ≤ (143 : Int); omega) jn)))))⟩
  · exact ⟨k_mu_31_3, (List.mem_cons_of_mem _ (List.mem_cons_of_mem _ (List.mem_cons_of_mem _ List.mem_cons_self))), (jc (by show (31 : Int) ≤ M 53 14; omega) (by show M 53 14 ≤ (31 : Int); omega) (jc (by show (0 : Int) ≤ M 53 15; omega) (by show M 53 15 ≤ (9 : Int); omega) (jc (by show (7 : Int) ≤ M 62 30; omega) (by show M 62 30 ≤ (7 : Int); omega) (jc (by show (0 : Int) ≤ M 63 30; omega) (by show M 63 30 ≤ (0 : Int); omega) (jc (by show (0 : Int) ≤ M 64 30; omega) (by show M 64 30 ≤ (29 : Int); omega) jn)))))⟩
theorem c_mu_31 (hL : L < 2 ^ 31) : ci L xs 160 k_mu_31 :=
  ci_j_ok (ms := [k_mu_31_0, k_mu_31_1, k_mu_31_2, k_mu_31_3]) (jl_cons (c_mu_31_0 hL) (jl_cons (c_mu_31_1 hL) (jl_cons (c_mu_31_2 hL) (jl_cons (c_mu_31_3 hL) jl_nil)))) s_mu_31 (by decide +kernel)
def k_mu_32_0 : ct_C := ([(2, .ofNat 53, .ofNat 53)], [(53, 14, .ofNat 32, .ofNat 32), (53, 15, .ofNat 0, .ofNat 8), (62, 31, .ofNat 0, .ofNat 4), (63, 31, .ofNat 0, .ofNat 5), (64, 31, .negSucc 0, .ofNat 143)], [(53, 14, .ofNat 31, .ofNat 31), (53, 15, .ofNat 1, .ofNat 9)], [54, 55, 56, 57, 58], (some (0, .ofNat 31, .ofNat 31)), 2, false)
theorem c_mu_32_0 (hL : L < 2 ^ 31) : ci L xs 160 k_mu_32_0 :=
  mi_ok (fc := 9000) (f := 9000) (cuts := []) (xk := jx) cl_lok cl_hrf (cl_hro L xs) hL jx_ok (by decide +kernel)
def k_mu_32_1 : ct_C := ([(2, .ofNat 53, .ofNat 53)], [(53, 14, .ofNat 32, .ofNat 32), (53, 15, .ofNat 0, .ofNat 8), (62, 31, .ofNat 5, .ofNat 5), (63, 31, .ofNat 0, .ofNat 29), (64, 31, .negSucc 0, .ofNat 143)], [(53, 14, .ofNat 31, .ofNat 31), (53, 15, .ofNat 1, .ofNat 9)], [61], (some (0, .ofNat 31, .ofNat 31)), 2, false)
theorem c_mu_32_1 (hL : L < 2 ^ 31) : ci L xs 160 k_mu_32_1 :=
  mi_ok (fc := 9000) (f := 9000) (cuts := []) (xk := jx) cl_lok cl_hrf (cl_hro L xs) hL jx_ok (by decide +kernel)
def k_mu_32_2 : ct_C := ([(2, .ofNat 53, .ofNat 53)], [(53, 14, .ofNat 32, .ofNat 32), (53, 15, .ofNat 0, .ofNat 8), (62, 31, .ofNat 6, .ofNat 6), (63, 31, .ofNat 0, .ofNat 11), (64, 31, .negSucc 0, .ofNat 143)], [(53, 14, .ofNat 31, .ofNat 31), (53, 15, .ofNat 1, .ofNat 9)], [60], (some (0, .ofNat 31, .ofNat 31)), 2, false)
theorem c_mu_32_2 (hL : L < 2 ^ 31) : ci L xs 160 k_mu_32_2 :=
  mi_ok (fc := 9000) (f := 9000) (cuts := []) (xk := jx) cl_lok cl_hrf (cl_hro L xs) hL jx_ok (by decide +kernel)
def k_mu_32_3 : ct_C := ([(2, .ofNat 53, .ofNat 53)], [(53, 14, .ofNat 32, .ofNat 32), (53, 15, .ofNat 0, .ofNat 8), (62, 31, .ofNat 7, .ofNat 7), (63, 31, .ofNat 0, .ofNat 0), (64, 31, .ofNat 0, .ofNat 29)], [(53, 13, .ofNat 0, .ofNat 29), (53, 14, .ofNat 31, .ofNat 31), (53, 15, .ofNat 1, .ofNat 9)], [], (some (0, .ofNat 31, .ofNat 31)), 2, false)
theorem c_mu_32_3 (hL : L < 2 ^ 31) : ci L xs 160 k_mu_32_3 :=
  mi_ok (fc := 9000) (f := 9000) (cuts := []) (xk := jx) cl_lok cl_hrf (cl_hro L xs) hL jx_ok (by decide +kernel)
def k_mu_32 : ct_C := ([(2, .ofNat 53, .ofNat 53)], [(53, 14, .ofNat 32, .ofNat 32)], [(53, 13, .ofNat 0, .ofNat 29), (53, 14, .ofNat 0, .ofNat 40), (53, 15, .ofNat 0, .ofNat 40)], [54, 55, 56, 57, 58, 60, 61], (some (0, .ofNat 31, .ofNat 31)), 2, false)
theorem s_mu_32 (M : Nat → Nat → Int) (hm : sx_mok cl_ly M) (hJ : JJ M) (hg : ct_g k_mu_32.2.1 M) : ∃ m ∈ [k_mu_32_0, k_mu_32_1, k_mu_32_2, k_mu_32_3], ct_g m.2.1 M := by
  have hv : M 53 14 = 32 := by
    have h := hg (53, 14, .ofNat 32, .ofNat 32) List.mem_cons_self
    exact Int.le_antisymm h.2 h.1
  have hk := jr_kn hm
  have hu := jr_un hm
  have hd := hJ.2.2.1
  have he := hJ.2.2.2
  have h8 : jp (M 62 31) (M 63 31) (M 64 31) (M 65 31) := hJ.2.1 31 (by decide)
  obtain ⟨⟨b1, b2, b3, b4⟩, h8⟩ := h8
  rcases h8 with h8 | h8 | h8 | h8
  · exact ⟨k_mu_32_0, List.mem_cons_self, (jc (by show (32 : Int) ≤ M 53 14; omega) (by show M 53 14 ≤ (32 : Int); omega) (jc (by show (0 : Int) ≤ M 53 15; omega) (by show M 53 15 ≤ (8 : Int); omega) (jc (by show (0 : Int) ≤ M 62 31; omega) (by show M 62 31 ≤ (4 : Int); omega) (jc (by show (0 : Int) ≤ M 63 31; omega) (by show M 63 31 ≤ (5 : Int); omega) (jc (by show (-1 : Int) ≤ M 64 31; omega) (by show M 64 31 ≤ (143 : Int); omega) jn)))))⟩
  · exact ⟨k_mu_32_1, (List.mem_cons_of_mem _ List.mem_cons_self), (jc (by show (32 : Int) ≤ M 53 14; omega) (by show M 53 14 ≤ (32 : Int); omega) (jc (by show (0 : Int) ≤ M 53 15; omega) (by show M 53 15 ≤ (8 : Int); omega) (jc (by show (5 : Int) ≤ M 62 31; omega) (by show M 62 31 ≤ (5 : Int); omega) (jc (by show (0 : Int) ≤ M 63 31; omega) (by show M 63 31 ≤ (29 : Int); omega) (jc (by show (-1 : Int) ≤ M 64 31; omega) (by show M 64 31 ≤ (143 : Int); omega) jn)))))⟩
  · exact ⟨k_mu_32_2, (List.mem_cons_of_mem _ (List.mem_cons_of_mem _ List.mem_cons_self)), (jc (by show (32 : Int) ≤ M 53 14; omega) (by show M 53 14 ≤ (32 : Int); omega) (jc (by show (0 : Int) ≤ M 53 15; omega) (by show M 53 15 ≤ (8 : Int); omega) (jc (by show (6 : Int) ≤ M 62 31; omega) (by show M 62 31 ≤ (6 : Int); omega) (jc (by show (0 : Int) ≤ M 63 31; omega) (by show M 63 31 ≤ (11 : Int); omega) (jc (by show (-1 : Int) ≤ M 64 31; omega) (by show M 64 31 ≤ (143 : Int); omega) jn)))))⟩
  · exact ⟨k_mu_32_3, (List.mem_cons_of_mem _ (List.mem_cons_of_mem _ (List.mem_cons_of_mem _ List.mem_cons_self))), (jc (by show (32 : Int) ≤ M 53 14; omega) (by show M 53 14 ≤ (32 : Int); omega) (jc (by show (0 : Int) ≤ M 53 15; omega) (by show M 53 15 ≤ (8 : Int); omega) (jc (by show (7 : Int) ≤ M 62 31; omega) (by show M 62 31 ≤ (7 : Int); omega) (jc (by show (0 : Int) ≤ M 63 31; omega) (by show M 63 31 ≤ (0 : Int); omega) (jc (by show (0 : Int) ≤ M 64 31; omega) (by show M 64 31 ≤ (29 : Int); omega) jn)))))⟩
theorem c_mu_32 (hL : L < 2 ^ 31) : ci L xs 160 k_mu_32 :=
  ci_j_ok (ms := [k_mu_32_0, k_mu_32_1, k_mu_32_2, k_mu_32_3]) (jl_cons (c_mu_32_0 hL) (jl_cons (c_mu_32_1 hL) (jl_cons (c_mu_32_2 hL) (jl_cons (c_mu_32_3 hL) jl_nil)))) s_mu_32 (by decide +kernel)
def k_mu_33_0 : ct_C := ([(2, .ofNat 53, .ofNat 53)], [(53, 14, .ofNat 33, .ofNat 33), (53, 15, .ofNat 0, .ofNat 7), (62, 32, .ofNat 0, .ofNat 4), (63, 32, .ofNat 0, .ofNat 5), (64, 32, .negSucc 0, .ofNat 143)], [(53, 14, .ofNat 32, .ofNat 32), (53, 15, .ofNat 1, .ofNat 8)], [54, 55, 56, 57, 58], (some (0, .ofNat 32, .ofNat 32)), 2, false)
theorem c_mu_33_0 (hL : L < 2 ^ 31) : ci L xs 160 k_mu_33_0 :=
  mi_ok (fc := 9000) (f := 9000) (cuts := []) (xk := jx) cl_lok cl_hrf (cl_hro L xs) hL jx_ok (by decide +kernel)
def k_mu_33_1 : ct_C := ([(2, .ofNat 53, .ofNat 53)], [(53, 14, .ofNat 33, .ofNat 33), (53, 15, .ofNat 0, .ofNat 7), (62, 32, .ofNat 5, .ofNat 5), (63, 32, .ofNat 0, .ofNat 29), (64, 32, .negSucc 0, .ofNat 143)], [(53, 14, .ofNat 32, .ofNat 32), (53, 15, .ofNat 1, .ofNat 8)], [61], (some (0, .ofNat 32, .ofNat 32)), 2, false)
theorem c_mu_33_1 (hL : L < 2 ^ 31) : ci L xs 160 k_mu_33_1 :=
  mi_ok (fc := 9000) (f := 9000) (cuts := []) (xk := jx) cl_lok cl_hrf (cl_hro L xs) hL jx_ok (by decide +kernel)
def k_mu_33_2 : ct_C := ([(2, .ofNat 53, .ofNat 53)], [(53, 14, .ofNat 33, .ofNat 33), (53, 15, .ofNat 0, .ofNat 7), (62, 32, .ofNat 6, .ofNat 6), (63, 32, .ofNat 0, .ofNat 11), (64, 32, .negSucc 0, .ofNat 143)], [(53, 14, .ofNat 32, .ofNat 32), (53, 15, .ofNat 1, .ofNat 8)], [60], (some (0, .ofNat 32, .ofNat 32)), 2, false)
theorem c_mu_33_2 (hL : L < 2 ^ 31) : ci L xs 160 k_mu_33_2 :=
  mi_ok (fc := 9000) (f := 9000) (cuts := []) (xk := jx) cl_lok cl_hrf (cl_hro L xs) hL jx_ok (by decide +kernel)
def k_mu_33_3 : ct_C := ([(2, .ofNat 53, .ofNat 53)], [(53, 14, .ofNat 33, .ofNat 33), (53, 15, .ofNat 0, .ofNat 7), (62, 32, .ofNat 7, .ofNat 7), (63, 32, .ofNat 0, .ofNat 0), (64, 32, .ofNat 0, .ofNat 29)], [(53, 13, .ofNat 0, .ofNat 29), (53, 14, .ofNat 32, .ofNat 32), (53, 15, .ofNat 1, .ofNat 8)], [], (some (0, .ofNat 32, .ofNat 32)), 2, false)
theorem c_mu_33_3 (hL : L < 2 ^ 31) : ci L xs 160 k_mu_33_3 :=
  mi_ok (fc := 9000) (f := 9000) (cuts := []) (xk := jx) cl_lok cl_hrf (cl_hro L xs) hL jx_ok (by decide +kernel)
def k_mu_33 : ct_C := ([(2, .ofNat 53, .ofNat 53)], [(53, 14, .ofNat 33, .ofNat 33)], [(53, 13, .ofNat 0, .ofNat 29), (53, 14, .ofNat 0, .ofNat 40), (53, 15, .ofNat 0, .ofNat 40)], [54, 55, 56, 57, 58, 60, 61], (some (0, .ofNat 32, .ofNat 32)), 2, false)
theorem s_mu_33 (M : Nat → Nat → Int) (hm : sx_mok cl_ly M) (hJ : JJ M) (hg : ct_g k_mu_33.2.1 M) : ∃ m ∈ [k_mu_33_0, k_mu_33_1, k_mu_33_2, k_mu_33_3], ct_g m.2.1 M := by
  have hv : M 53 14 = 33 := by
    have h := hg (53, 14, .ofNat 33, .ofNat 33) List.mem_cons_self
    exact Int.le_antisymm h.2 h.1
  have hk := jr_kn hm
  have hu := jr_un hm
  have hd := hJ.2.2.1
  have he := hJ.2.2.2
  have h8 : jp (M 62 32) (M 63 32) (M 64 32) (M 65 32) := hJ.2.1 32 (by decide)
  obtain ⟨⟨b1, b2, b3, b4⟩, h8⟩ := h8
  rcases h8 with h8 | h8 | h8 | h8
  · exact ⟨k_mu_33_0, List.mem_cons_self, (jc (by show (33 : Int) ≤ M 53 14; omega) (by show M 53 14 ≤ (33 : Int); omega) (jc (by show (0 : Int) ≤ M 53 15; omega) (by show M 53 15 ≤ (7 : Int); omega) (jc (by show (0 : Int) ≤ M 62 32; omega) (by show M 62 32 ≤ (4 : Int); omega) (jc (by show (0 : Int) ≤ M 63 32; omega) (by show M 63 32 ≤ (5 : Int); omega) (jc (by show (-1 : Int) ≤ M 64 32; omega) (by show M 64 32 ≤ (143 : Int); omega) jn)))))⟩
  · exact ⟨k_mu_33_1, (List.mem_cons_of_mem _ List.mem_cons_self), (jc (by show (33 : Int) ≤ M 53 14; omega) (by show M 53 14 ≤ (33 : Int); omega) (jc (by show (0 : Int) ≤ M 53 15; omega) (by show M 53 15 ≤ (7 : Int); omega) (jc (by show (5 : Int) ≤ M 62 32; omega) (by show M 62 32 ≤ (5 : Int); omega) (jc (by show (0 : Int) ≤ M 63 32; omega) (by show M 63 32 ≤ (29 : Int); omega) (jc (by show (-1 : Int) ≤ M 64 32; omega) (by show M 64 32 ≤ (143 : Int); omega) jn)))))⟩
  · exact ⟨k_mu_33_2, (List.mem_cons_of_mem _ (List.mem_cons_of_mem _ List.mem_cons_self)), (jc (by show (33 : Int) ≤ M 53 14; omega) (by show M 53 14 ≤ (33 : Int); omega) (jc (by show (0 : Int) ≤ M 53 15; omega) (by show M 53 15 ≤ (7 : Int); omega) (jc (by show (6 : Int) ≤ M 62 32; omega) (by show M 62 32 ≤ (6 : Int); omega) (jc (by show (0 : Int) ≤ M 63 32; omega) (by show M 63 32 ≤ (11 : Int); omega) (jc (by show (-1 : Int) ≤ M 64 32; omega) (by show M 64 32 ≤ (143 : Int); omega) jn)))))⟩
  · exact ⟨k_mu_33_3, (List.mem_cons_of_mem _ (List.mem_cons_of_mem _ (List.mem_cons_of_mem _ List.mem_cons_self))), (jc (by show (33 : Int) ≤ M 53 14; omega) (by show M 53 14 ≤ (33 : Int); omega) (jc (by show (0 : Int) ≤ M 53 15; omega) (by show M 53 15 ≤ (7 : Int); omega) (jc (by show (7 : Int) ≤ M 62 32; omega) (by show M 62 32 ≤ (7 : Int); omega) (jc (by show (0 : Int) ≤ M 63 32; omega) (by show M 63 32 ≤ (0 : Int); omega) (jc (by show (0 : Int) ≤ M 64 32; omega) (by show M 64 32 ≤ (29 : Int); omega) jn)))))⟩
theorem c_mu_33 (hL : L < 2 ^ 31) : ci L xs 160 k_mu_33 :=
  ci_j_ok (ms := [k_mu_33_0, k_mu_33_1, k_mu_33_2, k_mu_33_3]) (jl_cons (c_mu_33_0 hL) (jl_cons (c_mu_33_1 hL) (jl_cons (c_mu_33_2 hL) (jl_cons (c_mu_33_3 hL) jl_nil)))) s_mu_33 (by decide +kernel)
def k_mu_34_0 : ct_C := ([(2, .ofNat 53, .ofNat 53)], [(53, 14, .ofNat 34, .ofNat 34), (53, 15, .ofNat 0, .ofNat 6), (62, 33, .ofNat 0, .ofNat 4), (63, 33, .ofNat 0, .ofNat 5), (64, 33, .negSucc 0, .ofNat 143)], [(53, 14, .ofNat 33, .ofNat 33), (53, 15, .ofNat 1, .ofNat 7)], [54, 55, 56, 57, 58], (some (0, .ofNat 33, .ofNat 33)), 2, false)
theorem c_mu_34_0 (hL : L < 2 ^ 31) : ci L xs 160 k_mu_34_0 :=
  mi_ok (fc := 9000) (f := 9000) (cuts := []) (xk := jx) cl_lok cl_hrf (cl_hro L xs) hL jx_ok (by decide +kernel)
def k_mu_34_1 : ct_C := ([(2, .ofNat 53, .ofNat 53)], [(53, 14, .ofNat 34, .ofNat 34), (53, 15, .ofNat 0, .ofNat 6), (62, 33, .ofNat 5, .ofNat 5), (63, 33, .ofNat 0, .ofNat 29), (64, 33, .negSucc 0, .ofNat 143)], [(53, 14, .ofNat 33, .ofNat 33), (53, 15, .ofNat 1, .ofNat 7)], [61], (some (0, .ofNat 33, .ofNat 33)), 2, false)
theorem c_mu_34_1 (hL : L < 2 ^ 31) : ci L xs 160 k_mu_34_1 :=
  mi_ok (fc := 9000) (f := 9000) (cuts := []) (xk := jx) cl_lok cl_hrf (cl_hro L xs) hL jx_ok (by decide +kernel)
def k_mu_34_2 : ct_C := ([(2, .ofNat 53, .ofNat 53)], [(53, 14, .ofNat 34, .ofNat 34), (53, 15, .ofNat 0, .ofNat 6), (62, 33, .ofNat 6, .ofNat 6), (63, 33, .ofNat 0, .ofNat 11), (64, 33, .negSucc 0, .ofNat 143)], [(53, 14, .ofNat 33, .ofNat 33), (53, 15, .ofNat 1, .ofNat 7)], [60], (some (0, .ofNat 33, .ofNat 33)), 2, false)
theorem c_mu_34_2 (hL : L < 2 ^ 31) : ci L xs 160 k_mu_34_2 :=
  mi_ok (fc := 9000) (f := 9000) (cuts := []) (xk := jx) cl_lok cl_hrf (cl_hro L xs) hL jx_ok (by decide +kernel)
def k_mu_34_3 : ct_C := ([(2, .ofNat 53, .ofNat 53)], [(53, 14, .ofNat 34, .ofNat 34), (53, 15, .ofNat 0, .ofNat 6), (62, 33, .ofNat 7, .ofNat 7), (63, 33, .ofNat 0, .ofNat 0), (64, 33, .ofNat 0, .ofNat 29)], [(53, 13, .ofNat 0, .ofNat 29), (53, 14, .ofNat 33, .ofNat 33), (53, 15, .ofNat 1, .ofNat 7)], [], (some (0, .ofNat 33, .ofNat 33)), 2, false)
theorem c_mu_34_3 (hL : L < 2 ^ 31) : ci L xs 160 k_mu_34_3 :=
  mi_ok (fc := 9000) (f := 9000) (cuts := []) (xk := jx) cl_lok cl_hrf (cl_hro L xs) hL jx_ok (by decide +kernel)
def k_mu_34 : ct_C := ([(2, .ofNat 53, .ofNat 53)], [(53, 14, .ofNat 34, .ofNat 34)], [(53, 13, .ofNat 0, .ofNat 29), (53, 14, .ofNat 0, .ofNat 40), (53, 15, .ofNat 0, .ofNat 40)], [54, 55, 56, 57, 58, 60, 61], (some (0, .ofNat 33, .ofNat 33)), 2, false)
theorem s_mu_34 (M : Nat → Nat → Int) (hm : sx_mok cl_ly M) (hJ : JJ M) (hg : ct_g k_mu_34.2.1 M) : ∃ m ∈ [k_mu_34_0, k_mu_34_1, k_mu_34_2, k_mu_34_3], ct_g m.2.1 M := by
  have hv : M 53 14 = 34 := by
    have h := hg (53, 14, .ofNat 34, .ofNat 34) List.mem_cons_self
    exact Int.le_antisymm h.2 h.1
  have hk := jr_kn hm
  have hu := jr_un hm
  have hd := hJ.2.2.1
  have he := hJ.2.2.2
  have h8 : jp (M 62 33) (M 63 33) (M 64 33) (M 65 33) := hJ.2.1 33 (by decide)
  obtain ⟨⟨b1, b2, b3, b4⟩, h8⟩ := h8
  rcases h8 with h8 | h8 | h8 | h8
  · exact ⟨k_mu_34_0, List.mem_cons_self, (jc (by show (34 : Int) ≤ M 53 14; omega) (by show M 53 14 ≤ (34 : Int); omega) (jc (by show (0 : Int) ≤ M 53 15; omega) (by show M 53 15 ≤ (6 : Int); omega) (jc (by show (0 : Int) ≤ M 62 33; omega) (by show M 62 33 ≤ (4 : Int); omega) (jc (by show (0 : Int) ≤ M 63 33; omega) (by show M 63 33 ≤ (5 : Int); omega) (jc (by show (-1 : Int) ≤ M 64 33; omega) (by show M 64 33 ≤ (143 : Int); omega) jn)))))⟩
  · exact ⟨k_mu_34_1, (List.mem_cons_of_mem _ List.mem_cons_self), (jc (by show (34 : Int) ≤ M 53 14; omega) (by show M 53 14 ≤ (34 : Int); omega) (jc (by show (0 : Int) ≤ M 53 15; omega) (by show M 53 15 ≤ (6 : Int); omega) (jc (by show (5 : Int) ≤ M 62 33; omega) (by show M 62 33 ≤ (5 : Int); omega) (jc (by show (0 : Int) ≤ M 63 33; omega) (by show M 63 33 ≤ (29 : Int); omega) (jc (by show (-1 : Int) ≤ M 64 33; omega) (by show M 64 33 ≤ (143 : Int); omega) jn)))))⟩
  · exact ⟨k_mu_34_2, (List.mem_cons_of_mem _ (List.mem_cons_of_mem _ List.mem_cons_self)), (jc (by show (34 : Int) ≤ M 53 14; omega) (by show M 53 14 ≤ (34 : Int); omega) (jc (by show (0 : Int) ≤ M 53 15; omega) (by show M 53 15 ≤ (6 : Int); omega) (jc (by show (6 : Int) ≤ M 62 33; omega) (by show M 62 33 ≤ (6 : Int); omega) (jc (by show (0 : Int) ≤ M 63 33; omega) (by show M 63 33 ≤ (11 : Int); omega) (jc (by show (-1 : Int) ≤ M 64 33; omega) (by show M 64 33 ≤ (143 : Int); omega) jn)))))⟩
  · exact ⟨k_mu_34_3, (List.mem_cons_of_mem _ (List.mem_cons_of_mem _ (List.mem_cons_of_mem _ List.mem_cons_self))), (jc (by show (34 : Int) ≤ M 53 14; omega) (by show M 53 14 ≤ (34 : Int); omega) (jc (by show (0 : Int) ≤ M 53 15; omega) (by show M 53 15 ≤ (6 : Int); omega) (jc (by show (7 : Int) ≤ M 62 33; omega) (by show M 62 33 ≤ (7 : Int); omega) (jc (by show (0 : Int) ≤ M 63 33; omega) (by show M 63 33 ≤ (0 : Int); omega) (jc (by show (0 : Int) ≤ M 64 33; omega) (by show M 64 33 ≤ (29 : Int); omega) jn)))))⟩
theorem c_mu_34 (hL : L < 2 ^ 31) : ci L xs 160 k_mu_34 :=
  ci_j_ok (ms := [k_mu_34_0, k_mu_34_1, k_mu_34_2, k_mu_34_3]) (jl_cons (c_mu_34_0 hL) (jl_cons (c_mu_34_1 hL) (jl_cons (c_mu_34_2 hL) (jl_cons (c_mu_34_3 hL) jl_nil)))) s_mu_34 (by decide +kernel)
def k_mu_35_0 : ct_C := ([(2, .ofNat 53, .ofNat 53)], [(53, 14, .ofNat 35, .ofNat 35), (53, 15, .ofNat 0, .ofNat 5), (62, 34, .ofNat 0, .ofNat 4), (63, 34, .ofNat 0, .ofNat 5), (64, 34, .negSucc 0, .ofNat 143)], [(53, 14, .ofNat 34, .ofNat 34), (53, 15, .ofNat 1, .ofNat 6)], [54, 55, 56, 57, 58], (some (0, .ofNat 34, .ofNat 34)), 2, false)
theorem c_mu_35_0 (hL : L < 2 ^ 31) : ci L xs 160 k_mu_35_0 :=
  mi_ok (fc := 9000) (f := 9000) (cuts := []) (xk := jx) cl_lok cl_hrf (cl_hro L xs) hL jx_ok (by decide +kernel)
def k_mu_35_1 : ct_C := ([(2, .ofNat 53, .ofNat 53)], [(53, 14, .ofNat 35, .ofNat 35), (53, 15, .ofNat 0, .ofNat 5), (62, 34, .ofNat 5, .ofNat 5), (63, 34, .ofNat 0, .ofNat 29), (64, 34, .negSucc 0, .ofNat 143)], [(53, 14, .ofNat 34, .ofNat 34), (53, 15, .ofNat 1, .ofNat 6)], [61], (some (0, .ofNat 34, .ofNat 34)), 2, false)
theorem c_mu_35_1 (hL : L < 2 ^ 31) : ci L xs 160 k_mu_35_1 :=
  mi_ok (fc := 9000) (f := 9000) (cuts := []) (xk := jx) cl_lok cl_hrf (cl_hro L xs) hL jx_ok (by decide +kernel)
def k_mu_35_2 : ct_C := ([(2, .ofNat 53, .ofNat 53)], [(53, 14, .ofNat 35, .ofNat 35), (53, 15, .ofNat 0, .ofNat 5), (62, 34, .ofNat 6, .ofNat 6), (63, 34, .ofNat 0, .ofNat 11), (64, 34, .negSucc 0, .ofNat 143)], [(53, 14, .ofNat 34, .ofNat 34), (53, 15, .ofNat 1, .ofNat 6)], [60], (some (0, .ofNat 34, .ofNat 34)), 2, false)
theorem c_mu_35_2 (hL : L < 2 ^ 31) : ci L xs 160 k_mu_35_2 :=
  mi_ok (fc := 9000) (f := 9000) (cuts := []) (xk := jx) cl_lok cl_hrf (cl_hro L xs) hL jx_ok (by decide +kernel)
def k_mu_35_3 : ct_C := ([(2, .ofNat 53, .ofNat 53)], [(53, 14, .ofNat 35, .ofNat 35), (53, 15, .ofNat 0, .ofNat 5), (62, 34, .ofNat 7, .ofNat 7), (63, 34, .ofNat 0, .ofNat 0), (64, 34, .ofNat 0, .ofNat 29)], [(53, 13, .ofNat 0, .ofNat 29), (53, 14, .ofNat 34, .ofNat 34), (53, 15, .ofNat 1, .ofNat 6)], [], (some (0, .ofNat 34, .ofNat 34)), 2, false)
theorem c_mu_35_3 (hL : L < 2 ^ 31) : ci L xs 160 k_mu_35_3 :=
  mi_ok (fc := 9000) (f := 9000) (cuts := []) (xk := jx) cl_lok cl_hrf (cl_hro L xs) hL jx_ok (by decide +kernel)
def k_mu_35 : ct_C := ([(2, .ofNat 53, .ofNat 53)], [(53, 14, .ofNat 35, .ofNat 35)], [(53, 13, .ofNat 0, .ofNat 29), (53, 14, .ofNat 0, .ofNat 40), (53, 15, .ofNat 0, .ofNat 40)], [54, 55, 56, 57, 58, 60, 61], (some (0, .ofNat 34, .ofNat 34)), 2, false)
theorem s_mu_35 (M : Nat → Nat → Int) (hm : sx_mok cl_ly M) (hJ : JJ M) (hg : ct_g k_mu_35.2.1 M) : ∃ m ∈ [k_mu_35_0, k_mu_35_1, k_mu_35_2, k_mu_35_3], ct_g m.2.1 M := by
  have hv : M 53 14 = 35 := by
    have h := hg (53, 14, .ofNat 35, .ofNat 35) List.mem_cons_self
    exact Int.le_antisymm h.2 h.1
  have hk := jr_kn hm
  have hu := jr_un hm
  have hd := hJ.2.2.1
  have he := hJ.2.2.2
  have h8 : jp (M 62 34) (M 63 34) (M 64 34) (M 65 34) := hJ.2.1 34 (by decide)
  obtain ⟨⟨b1, b2, b3, b4⟩, h8⟩ := h8
  rcases h8 with h8 | h8 | h8 | h8
  · exact ⟨k_mu_35_0, List.mem_cons_self, (jc (by show (35 : Int) ≤ M 53 14; omega) (by show M 53 14 ≤ (35 : Int); omega) (jc (by show (0 : Int) ≤ M 53 15; omega) (by show M 53 15 ≤ (5 : Int); omega) (jc (by show (0 : Int) ≤ M 62 34; omega) (by show M 62 34 ≤ (4 : Int); omega) (jc (by show (0 : Int) ≤ M 63 34; omega) (by show M 63 34 ≤ (5 : Int); omega) (jc (by show (-1 : Int) ≤ M 64 34; omega) (by show M 64 34 ≤ (143 : Int); omega) jn)))))⟩
  · exact ⟨k_mu_35_1, (List.mem_cons_of_mem _ List.mem_cons_self), (jc (by show (35 : Int) ≤ M 53 14; omega) (by show M 53 14 ≤ (35 : Int); omega) (jc (by show (0 : Int) ≤ M 53 15; omega) (by show M 53 15 ≤ (5 : Int); omega) (jc (by show (5 : Int) ≤ M 62 34; omega) (by show M 62 34 ≤ (5 : Int); omega) (jc (by show (0 : Int) ≤ M 63 34; omega) (by show M 63 34 ≤ (29 : Int); omega) (jc (by show (-1 : Int) ≤ M 64 34; omega) (by show M 64 34 ≤ (143 : Int); omega) jn)))))⟩
  · exact ⟨k_mu_35_2, (List.mem_cons_of_mem _ (List.mem_cons_of_mem _ List.mem_cons_self)), (jc (by show (35 : Int) ≤ M 53 14; omega) (by show M 53 14 ≤ (35 : Int); omega) (jc (by show (0 : Int) ≤ M 53 15; omega) (by show M 53 15 ≤ (5 : Int); omega) (jc (by show (6 : Int) ≤ M 62 34; omega) (by show M 62 34 ≤ (6 : Int); omega) (jc (by show (0 : Int) ≤ M 63 34; omega) (by show M 63 34 ≤ (11 : Int); omega) (jc (by show (-1 : Int) ≤ M 64 34; omega) (by show M 64 34 ≤ (143 : Int); omega) jn)))))⟩
  · exact ⟨k_mu_35_3, (List.mem_cons_of_mem _ (List.mem_cons_of_mem _ (List.mem_cons_of_mem _ List.mem_cons_self))), (jc (by show (35 : Int) ≤ M 53 14; omega) (by show M 53 14 ≤ (35 : Int); omega) (jc (by show (0 : Int) ≤ M 53 15; omega) (by show M 53 15 ≤ (5 : Int); omega) (jc (by show (7 : Int) ≤ M 62 34; omega) (by show M 62 34 ≤ (7 : Int); omega) (jc (by show (0 : Int) ≤ M 63 34; omega) (by show M 63 34 ≤ (0 : Int); omega) (jc (by show (0 : Int) ≤ M 64 34; omega) (by show M 64 34 ≤ (29 : Int); omega) jn)))))⟩
theorem c_mu_35 (hL : L < 2 ^ 31) : ci L xs 160 k_mu_35 :=
  ci_j_ok (ms := [k_mu_35_0, k_mu_35_1, k_mu_35_2, k_mu_35_3]) (jl_cons (c_mu_35_0 hL) (jl_cons (c_mu_35_1 hL) (jl_cons (c_mu_35_2 hL) (jl_cons (c_mu_35_3 hL) jl_nil)))) s_mu_35 (by decide +kernel)
def k_mu_36_0 : ct_C := ([(2, .ofNat 53, .ofNat 53)], [(53, 14, .ofNat 36, .ofNat 36), (53, 15, .ofNat 0, .ofNat 4), (62, 35, .ofNat 0, .ofNat 4), (63, 35, .ofNat 0, .ofNat 5), (64, 35, .negSucc 0, .ofNat 143)], [(53, 14, .ofNat 35, .ofNat 35), (53, 15, .ofNat 1, .ofNat 5)], [54, 55, 56, 57, 58], (some (0, .ofNat 35, .ofNat 35)), 2, false)
theorem c_mu_36_0 (hL : L < 2 ^ 31) : ci L xs 160 k_mu_36_0 :=
  mi_ok (fc := 9000) (f := 9000) (cuts := []) (xk := jx) cl_lok cl_hrf (cl_hro L xs) hL jx_ok (by decide +kernel)
end
