/-! mend, undo, redo, 24. -/
section
variable {L : Nat} {xs : Nat → Int32}
def k_mu_36_1 : ct_C := ([(2, .ofNat 53, .ofNat 53)], [(53, 14, .ofNat 36, .ofNat 36), (53, 15, .ofNat 0, .ofNat 4), (62, 35, .ofNat 5, .ofNat 5), (63, 35, .ofNat 0, .ofNat 29), (64, 35, .negSucc 0, .ofNat 143)], [(53, 14, .ofNat 35, .ofNat 35), (53, 15, .ofNat 1, .ofNat 5)], [61], (some (0, .ofNat 35, .ofNat 35)), 2, false)
theorem c_mu_36_1 (hL : L < 2 ^ 31) : ci L xs 160 k_mu_36_1 :=
  mi_ok (fc := 9000) (f := 9000) (cuts := []) (xk := jx) cl_lok cl_hrf (cl_hro L xs) hL jx_ok (by decide +kernel)
def k_mu_36_2 : ct_C := ([(2, .ofNat 53, .ofNat 53)], [(53, 14, .ofNat 36, .ofNat 36), (53, 15, .ofNat 0, .ofNat 4), (62, 35, .ofNat 6, .ofNat 6), (63, 35, .ofNat 0, .ofNat 11), (64, 35, .negSucc 0, .ofNat 143)], [(53, 14, .ofNat 35, .ofNat 35), (53, 15, .ofNat 1, .ofNat 5)], [60], (some (0, .ofNat 35, .ofNat 35)), 2, false)
theorem c_mu_36_2 (hL : L < 2 ^ 31) : ci L xs 160 k_mu_36_2 :=
  mi_ok (fc := 9000) (f := 9000) (cuts := []) (xk := jx) cl_lok cl_hrf (cl_hro L xs) hL jx_ok (by decide +kernel)
def k_mu_36_3 : ct_C := ([(2, .ofNat 53, .ofNat 53)], [(53, 14, .ofNat 36, .ofNat 36), (53, 15, .ofNat 0, .ofNat 4), (62, 35, .ofNat 7, .ofNat 7), (63, 35, .ofNat 0, .ofNat 0), (64, 35, .ofNat 0, .ofNat 29)], [(53, 13, .ofNat 0, .ofNat 29), (53, 14, .ofNat 35, .ofNat 35), (53, 15, .ofNat 1, .ofNat 5)], [], (some (0, .ofNat 35, .ofNat 35)), 2, false)
theorem c_mu_36_3 (hL : L < 2 ^ 31) : ci L xs 160 k_mu_36_3 :=
  mi_ok (fc := 9000) (f := 9000) (cuts := []) (xk := jx) cl_lok cl_hrf (cl_hro L xs) hL jx_ok (by decide +kernel)
def k_mu_36 : ct_C := ([(2, .ofNat 53, .ofNat 53)], [(53, 14, .ofNat 36, .ofNat 36)], [(53, 13, .ofNat 0, .ofNat 29), (53, 14, .ofNat 0, .ofNat 40), (53, 15, .ofNat 0, .ofNat 40)], [54, 55, 56, 57, 58, 60, 61], (some (0, .ofNat 35, .ofNat 35)), 2, false)
theorem s_mu_36 (M : Nat → Nat → Int) (hm : sx_mok cl_ly M) (hJ : JJ M) (hg : ct_g k_mu_36.2.1 M) : ∃ m ∈ [k_mu_36_0, k_mu_36_1, k_mu_36_2, k_mu_36_3], ct_g m.2.1 M := by
  have hv : M 53 14 = 36 := by
    have h := hg (53, 14, .ofNat 36, .ofNat 36) List.mem_cons_self
    exact Int.le_antisymm h.2 h.1
  have hk := jr_kn hm
  have hu := jr_un hm
  have hd := hJ.2.2.1
  have he := hJ.2.2.2
  have h8 : jp (M 62 35) (M 63 35) (M 64 35) (M 65 35) := hJ.2.1 35 (by decide)
  obtain ⟨⟨b1, b2, b3, b4⟩, h8⟩ := h8
  rcases h8 with h8 | h8 | h8 | h8
  · exact ⟨k_mu_36_0, List.mem_cons_self, (jc (by show (36 : Int) ≤ M 53 14; omega) (by show M 53 14 ≤ (36 : Int); omega) (jc (by show (0 : Int) ≤ M 53 15; omega) (by show M 53 15 ≤ (4 : Int); omega) (jc (by show (0 : Int) ≤ M 62 35; omega) (by show M 62 35 ≤ (4 : Int); omega) (jc (by show (0 : Int) ≤ M 63 35; omega) (by show M 63 35 ≤ (5 : Int); omega) (jc (by show (-1 : Int) ≤ M 64 35; omega) (by show M 64 35 ≤ (143 : Int); omega) jn)))))⟩
  · exact ⟨k_mu_36_1, (List.mem_cons_of_mem _ List.mem_cons_self), (jc (by show (36 : Int) ≤ M 53 14; omega) (by show M 53 14 ≤ (36 : Int); omega) (jc (by show (0 : Int) ≤ M 53 15; omega) (by show M 53 15 ≤ (4 : Int); omega) (jc (by show (5 : Int) ≤ M 62 35; omega) (by show M 62 35 ≤ (5 : Int); omega) (jc (by show (0 : Int) ≤ M 63 35; omega) (by show M 63 35 ≤ (29 : Int); omega) (jc (by show (-1 : Int) ≤ M 64 35; omega) (by show M 64 35 ≤ (143 : Int); omega) jn)))))⟩
  · exact ⟨k_mu_36_2, (List.mem_cons_of_mem _ (List.mem_cons_of_mem _ List.mem_cons_self)), (jc (by show (36 : Int) ≤ M 53 14; omega) (by show M 53 14 ≤ (36 : Int); omega) (jc (by show (0 : Int) ≤ M 53 15; omega) (by show M 53 15 ≤ (4 : Int); omega) (jc (by show (6 : Int) ≤ M 62 35; omega) (by show M 62 35 ≤ (6 : Int); omega) (jc (by show (0 : Int) ≤ M 63 35; omega) (by show M 63 35 ≤ (11 : Int); omega) (jc (by show (-1 : Int) ≤ M 64 35; omega) (by show M 64 35 ≤ (143 : Int); omega) jn)))))⟩
  · exact ⟨k_mu_36_3, (List.mem_cons_of_mem _ (List.mem_cons_of_mem _ (List.mem_cons_of_mem _ List.mem_cons_self))), (jc (by show (36 : Int) ≤ M 53 14; omega) (by show M 53 14 ≤ (36 : Int); omega) (jc (by show (0 : Int) ≤ M 53 15; omega) (by show M 53 15 ≤ (4 : Int); omega) (jc (by show (7 : Int) ≤ M 62 35; omega) (by show M 62 35 ≤ (7 : Int); omega) (jc (by show (0 : Int) ≤ M 63 35; omega) (by show M 63 35 ≤ (0 : Int); omega) (jc (by show (0 : Int) ≤ M 64 35; omega) (by show M 64 35 ≤ (29 : Int); omega) jn)))))⟩
theorem c_mu_36 (hL : L < 2 ^ 31) : ci L xs 160 k_mu_36 :=
  ci_j_ok (ms := [k_mu_36_0, k_mu_36_1, k_mu_36_2, k_mu_36_3]) (jl_cons (c_mu_36_0 hL) (jl_cons (c_mu_36_1 hL) (jl_cons (c_mu_36_2 hL) (jl_cons (c_mu_36_3 hL) jl_nil)))) s_mu_36 (by decide +kernel)
def k_mu_37_0 : ct_C := ([(2, .ofNat 53, .ofNat 53)], [(53, 14, .ofNat 37, .ofNat 37), (53, 15, .ofNat 0, .ofNat 3), (62, 36, .ofNat 0, .ofNat 4), (63, 36, .ofNat 0, .ofNat 5), (64, 36, .negSucc 0, .ofNat 143)], [(53, 14, .ofNat 36, .ofNat 36), (53, 15, .ofNat 1, .ofNat 4)], [54, 55, 56, 57, 58], (some (0, .ofNat 36, .ofNat 36)), 2, false)
theorem c_mu_37_0 (hL : L < 2 ^ 31) : ci L xs 160 k_mu_37_0 :=
  mi_ok (fc := 9000) (f := 9000) (cuts := []) (xk := jx) cl_lok cl_hrf (cl_hro L xs) hL jx_ok (by decide +kernel)
def k_mu_37_1 : ct_C := ([(2, .ofNat 53, .ofNat 53)], [(53, 14, .ofNat 37, .ofNat 37), (53, 15, .ofNat 0, .ofNat 3), (62, 36, .ofNat 5, .ofNat 5), (63, 36, .ofNat 0, .ofNat 29), (64, 36, .negSucc 0, .ofNat 143)], [(53, 14, .ofNat 36, .ofNat 36), (53, 15, .ofNat 1, .ofNat 4)], [61], (some (0, .ofNat 36, .ofNat 36)), 2, false)
theorem c_mu_37_1 (hL : L < 2 ^ 31) : ci L xs 160 k_mu_37_1 :=
  mi_ok (fc := 9000) (f := 9000) (cuts := []) (xk := jx) cl_lok cl_hrf (cl_hro L xs) hL jx_ok (by decide +kernel)
def k_mu_37_2 : ct_C := ([(2, .ofNat 53, .ofNat 53)], [(53, 14, .ofNat 37, .ofNat 37), (53, 15, .ofNat 0, .ofNat 3), (62, 36, .ofNat 6, .ofNat 6), (63, 36, .ofNat 0, .ofNat 11), (64, 36, .negSucc 0, .ofNat 143)], [(53, 14, .ofNat 36, .ofNat 36), (53, 15, .ofNat 1, .ofNat 4)], [60], (some (0, .ofNat 36, .ofNat 36)), 2, false)
theorem c_mu_37_2 (hL : L < 2 ^ 31) : ci L xs 160 k_mu_37_2 :=
  mi_ok (fc := 9000) (f := 9000) (cuts := []) (xk := jx) cl_lok cl_hrf (cl_hro L xs) hL jx_ok (by decide +kernel)
def k_mu_37_3 : ct_C := ([(2, .ofNat 53, .ofNat 53)], [(53, 14, .ofNat 37, .ofNat 37), (53, 15, .ofNat 0, .ofNat 3), (62, 36, .ofNat 7, .ofNat 7), (63, 36, .ofNat 0, .ofNat 0), (64, 36, .ofNat 0, .ofNat 29)], [(53, 13, .ofNat 0, .ofNat 29), (53, 14, .ofNat 36, .ofNat 36), (53, 15, .ofNat 1, .ofNat 4)], [], (some (0, .ofNat 36, .ofNat 36)), 2, false)
theorem c_mu_37_3 (hL : L < 2 ^ 31) : ci L xs 160 k_mu_37_3 :=
  mi_ok (fc := 9000) (f := 9000) (cuts := []) (xk := jx) cl_lok cl_hrf (cl_hro L xs) hL jx_ok (by decide +kernel)
def k_mu_37 : ct_C := ([(2, .ofNat 53, .ofNat 53)], [(53, 14, .ofNat 37, .ofNat 37)], [(53, 13, .ofNat 0, .ofNat 29), (53, 14, .ofNat 0, .ofNat 40), (53, 15, .ofNat 0, .ofNat 40)], [54, 55, 56, 57, 58, 60, 61], (some (0, .ofNat 36, .ofNat 36)), 2, false)
theorem s_mu_37 (M : Nat → Nat → Int) (hm : sx_mok cl_ly M) (hJ : JJ M) (hg : ct_g k_mu_37.2.1 M) : ∃ m ∈ [k_mu_37_0, k_mu_37_1, k_mu_37_2, k_mu_37_3], ct_g m.2.1 M := by
  have hv : M 53 14 = 37 := by
    have h := hg (53, 14, .ofNat 37, .ofNat 37) List.mem_cons_self
    exact Int.le_antisymm h.2 h.1
  have hk := jr_kn hm
  have hu := jr_un hm
  have hd := hJ.2.2.1
  have he := hJ.2.2.2
  have h8 : jp (M 62 36) (M 63 36) (M 64 36) (M 65 36) := hJ.2.1 36 (by decide)
  obtain ⟨⟨b1, b2, b3, b4⟩, h8⟩ := h8
  rcases h8 with h8 | h8 | h8 | h8
  · exact ⟨k_mu_37_0, List.mem_cons_self, (jc (by show (37 : Int) ≤ M 53 14; omega) (by show M 53 14 ≤ (37 : Int); omega) (jc (by show (0 : Int) ≤ M 53 15; omega) (by show M 53 15 ≤ (3 : Int); omega) (jc (by show (0 : Int) ≤ M 62 36; omega) (by show M 62 36 ≤ (4 : Int); omega) (jc (by show (0 : Int) ≤ M 63 36; omega) (by show M 63 36 ≤ (5 : Int); omega) (jc (by show (-1 : Int) ≤ M 64 36; omega) (by show M 64 36 ≤ (143 : Int); omega) jn)))))⟩
  · exact ⟨k_mu_37_1, (List.mem_cons_of_mem _ List.mem_cons_self), (jc (by show (37 : Int) ≤ M 53 14; omega) (by show M 53 14 ≤ (37 : Int); omega) (jc (by show (0 : Int) ≤ M 53 15; omega) (by show M 53 15 ≤ (3 : Int); omega) (jc (by show (5 : Int) ≤ M 62 36; omega) (by show M 62 36 ≤ (5 : Int); omega) (jc (by show (0 : Int) ≤ M 63 36; omega) (by show M 63 36 ≤ (29 : Int); omega) (jc (by show (-1 : Int) ≤ M 64 36; omega) (by show M 64 36 ≤ (143 : Int); omega) jn)))))⟩
  · exact ⟨k_mu_37_2, (List.mem_cons_of_mem _ (List.mem_cons_of_mem _ List.mem_cons_self)), (jc (by show (37 : Int) ≤ M 53 14; omega) (by show M 53 14 ≤ (37 : Int); omega) (jc (by show (0 : Int) ≤ M 53 15; omega) (by show M 53 15 ≤ (3 : Int); omega) (jc (by show (6 : Int) ≤ M 62 36; omega) (by show M 62 36 ≤ (6 : Int); omega) (jc (by show (0 : Int) ≤ M 63 36; omega) (by show M 63 36 ≤ (11 : Int); omega) (jc (by show (-1 : Int) ≤ M 64 36; omega) (by show M 64 36 ≤ (143 : Int); omega) jn)))))⟩
  · exact ⟨k_mu_37_3, (List.mem_cons_of_mem _ (List.mem_cons_of_mem _ (List.mem_cons_of_mem _ List.mem_cons_self))), (jc (by show (37 : Int) ≤ M 53 14; omega) (by show M 53 14 ≤ (37 : Int); omega) (jc (by show (0 : Int) ≤ M 53 15; omega) (by show M 53 15 ≤ (3 : Int); omega) (jc (by show (7 : Int) ≤ M 62 36; omega) (by show M 62 36 ≤ (7 : Int); omega) (jc (by show (0 : Int) ≤ M 63 36; omega) (by show M 63 36 ≤ (0 : Int); omega) (jc (by show (0 : Int) ≤ M 64 36; omega) (by show M 64 36 ≤ (29 : Int); omega) jn)))))⟩
theorem c_mu_37 (hL : L < 2 ^ 31) : ci L xs 160 k_mu_37 :=
  ci_j_ok (ms := [k_mu_37_0, k_mu_37_1, k_mu_37_2, k_mu_37_3]) (jl_cons (c_mu_37_0 hL) (jl_cons (c_mu_37_1 hL) (jl_cons (c_mu_37_2 hL) (jl_cons (c_mu_37_3 hL) jl_nil)))) s_mu_37 (by decide +kernel)
def k_mu_38_0 : ct_C := ([(2, .ofNat 53, .ofNat 53)], [(53, 14, .ofNat 38, .ofNat 38), (53, 15, .ofNat 0, .ofNat 2), (62, 37, .ofNat 0, .ofNat 4), (63, 37, .ofNat 0, .ofNat 5), (64, 37, .negSucc 0, .ofNat 143)], [(53, 14, .ofNat 37, .ofNat 37), (53, 15, .ofNat 1, .ofNat 3)], [54, 55, 56, 57, 58], (some (0, .ofNat 37, .ofNat 37)), 2, false)
theorem c_mu_38_0 (hL : L < 2 ^ 31) : ci L xs 160 k_mu_38_0 :=
  mi_ok (fc := 9000) (f := 9000) (cuts := []) (xk := jx) cl_lok cl_hrf (cl_hro L xs) hL jx_ok (by decide +kernel)
def k_mu_38_1 : ct_C := ([(2, .ofNat 53, .ofNat 53)], [(53, 14, .ofNat 38, .ofNat 38), (53, 15, .ofNat 0, .ofNat 2), (62, 37, .ofNat 5, .ofNat 5), (63, 37, .ofNat 0, .ofNat 29), (64, 37, .negSucc 0, .ofNat 143)], [(53, 14, .ofNat 37, .ofNat 37), (53, 15, .ofNat 1, .ofNat 3)], [61], (some (0, .ofNat 37, .ofNat 37)), 2, false)
theorem c_mu_38_1 (hL : L < 2 ^ 31) : ci L xs 160 k_mu_38_1 :=
  mi_ok (fc := 9000) (f := 9000) (cuts := []) (xk := jx) cl_lok cl_hrf (cl_hro L xs) hL jx_ok (by decide +kernel)
def k_mu_38_2 : ct_C := ([(2, .ofNat 53, .ofNat 53)], [(53, 14, .ofNat 38, .ofNat 38), (53, 15, .ofNat 0, .ofNat 2), (62, 37, .ofNat 6, .ofNat 6), (63, 37, .ofNat 0, .ofNat 11), (64, 37, .negSucc 0, .ofNat 143)], [(53, 14, .ofNat 37, .ofNat 37), (53, 15, .ofNat 1, .ofNat 3)], [60], (some (0, .ofNat 37, .ofNat 37)), 2, false)
theorem c_mu_38_2 (hL : L < 2 ^ 31) : ci L xs 160 k_mu_38_2 :=
  mi_ok (fc := 9000) (f := 9000) (cuts := []) (xk := jx) cl_lok cl_hrf (cl_hro L xs) hL jx_ok (by decide +kernel)
def k_mu_38_3 : ct_C := ([(2, .ofNat 53, .ofNat 53)], [(53, 14, .ofNat 38, .ofNat 38), (53, 15, .ofNat 0, .ofNat 2), (62, 37, .ofNat 7, .ofNat 7), (63, 37, .ofNat 0, .ofNat 0), (64, 37, .ofNat 0, .ofNat 29)], [(53, 13, .ofNat 0, .ofNat 29), (53, 14, .ofNat 37, .ofNat 37), (53, 15, .ofNat 1, .ofNat 3)], [], (some (0, .ofNat 37, .ofNat 37)), 2, false)
theorem c_mu_38_3 (hL : L < 2 ^ 31) : ci L xs 160 k_mu_38_3 :=
  mi_ok (fc := 9000) (f := 9000) (cuts := []) (xk := jx) cl_lok cl_hrf (cl_hro L xs) hL jx_ok (by decide +kernel)
def k_mu_38 : ct_C := ([(2, .ofNat 53, .ofNat 53)], [(53, 14, .ofNat 38, .ofNat 38)], [(53, 13, .ofNat 0, .ofNat 29), (53, 14, .ofNat 0, .ofNat 40), (53, 15, .ofNat 0, .ofNat 40)], [54, 55, 56, 57, 58, 60, 61], (some (0, .ofNat 37, .ofNat 37)), 2, false)
theorem s_mu_38 (M : Nat → Nat → Int) (hm : sx_mok cl_ly M) (hJ : JJ M) (hg : ct_g k_mu_38.2.1 M) : ∃ m ∈ [k_mu_38_0, k_mu_38_1, k_mu_38_2, k_mu_38_3], ct_g m.2.1 M := by
  have hv : M 53 14 = 38 := by
    have h := hg (53, 14, .ofNat 38, .ofNat 38) List.mem_cons_self
    exact Int.le_antisymm h.2 h.1
  have hk := jr_kn hm
  have hu := jr_un hm
  have hd := hJ.2.2.1
  have he := hJ.2.2.2
  have h8 : jp (M 62 37) (M 63 37) (M 64 37) (M 65 37) := hJ.2.1 37 (by decide)
  obtain ⟨⟨b1, b2, b3, b4⟩, h8⟩ := h8
  rcases h8 with h8 | h8 | h8 | h8
  · exact ⟨k_mu_38_0, List.mem_cons_self, (jc (by show (38 : Int) ≤ M 53 14; omega) (by show M 53 14 ≤ (38 : Int); omega) (jc (by show (0 : Int) ≤ M 53 15; omega) (by show M 53 15 ≤ (2 : Int); omega) (jc (by show (0 : Int) ≤ M 62 37; omega) (by show M 62 37 ≤ (4 : Int); omega) (jc (by show (0 : Int) ≤ M 63 37; omega) (by show M 63 37 ≤ (5 : Int); omega) (jc (by show (-1 : Int) ≤ M 64 37; omega) (by show M 64 37 ≤ (143 : Int); omega) jn)))))⟩
  · exact ⟨k_mu_38_1, (List.mem_cons_of_mem _ List.mem_cons_self), (jc (by show (38 : Int) ≤ M 53 14; omega) (by show M 53 14 ≤ (38 : Int); omega) (jc (by show (0 : Int) ≤ M 53 15; omega) (by show M 53 15 ≤ (2 : Int); omega) (jc (by show (5 : Int) ≤ M 62 37; omega) (by show M 62 37 ≤ (5 : Int); omega) (jc (by show (0 : Int) ≤ M 63 37; omega) (by show M 63 37 ≤ (29 : Int); omega) (jc (by show (-1 : Int) ≤ M 64 37; omega) (by show M 64 37 ≤ (143 : Int); omega) jn)))))⟩
  · exact ⟨k_mu_38_2, (List.mem_cons_of_mem _ (List.mem_cons_of_mem _ List.mem_cons_self)), (jc (by show (38 : Int) ≤ M 53 14; omega) (by show M 53 14 ≤ (38 : Int); omega) (jc (by show (0 : Int) ≤ M 53 15; omega) (by show M 53 15 ≤ (2 : Int); omega) (jc (by show (6 : Int) ≤ M 62 37; omega) (by show M 62 37 ≤ (6 : Int); omega) (jc (by show (0 : Int) ≤ M 63 37; omega) (by show M 63 37 ≤ (11 : Int); omega) (jc (by show (-1 : Int) ≤ M 64 37; omega) (by show M 64 37 ≤ (143 : Int); omega) jn)))))⟩
  · exact ⟨k_mu_38_3, (List.mem_cons_of_mem _ (List.mem_cons_of_mem _ (List.mem_cons_of_mem _ List.mem_cons_self))), (jc (by show (38 : Int) ≤ M 53 14; omega) (by show M 53 14 ≤ (38 : Int); omega) (jc (by show (0 : Int) ≤ M 53 15; omega) (by show M 53 15 ≤ (2 : Int); omega) (jc (by show (7 : Int) ≤ M 62 37; omega) (by show M 62 37 ≤ (7 : Int); omega) (jc (by show (0 : Int) ≤ M 63 37; omega) (by show M 63 37 ≤ (0 : Int); omega) (jc (by show (0 : Int) ≤ M 64 37; omega) (by show M 64 37 ≤ (29 : Int); omega) jn)))))⟩
theorem c_mu_38 (hL : L < 2 ^ 31) : ci L xs 160 k_mu_38 :=
  ci_j_ok (ms := [k_mu_38_0, k_mu_38_1, k_mu_38_2, k_mu_38_3]) (jl_cons (c_mu_38_0 hL) (jl_cons (c_mu_38_1 hL) (jl_cons (c_mu_38_2 hL) (jl_cons (c_mu_38_3 hL) jl_nil)))) s_mu_38 (by decide +kernel)
def k_mu_39_0 : ct_C := ([(2, .ofNat 53, .ofNat 53)], [(53, 14, .ofNat 39, .ofNat 39), (53, 15, .ofNat 0, .ofNat 1), (62, 38, .ofNat 0, .ofNat 4), (63, 38, .ofNat 0, .ofNat 5), (64, 38, .negSucc 0, .ofNat 143)], [(53, 14, .ofNat 38, .ofNat 38), (53, 15, .ofNat 1, .ofNat 2)], [54, 55, 56, 57, 58], (some (0, .ofNat 38, .ofNat 38)), 2, false)
theorem c_mu_39_0 (hL : L < 2 ^ 31) : ci L xs 160 k_mu_39_0 :=
  mi_ok (fc := 9000) (f := 9000) (cuts := []) (xk := jx) cl_lok cl_hrf (cl_hro L xs) hL jx_ok (by decide +kernel)
def k_mu_39_1 : ct_C := ([(2, .ofNat 53, .ofNat 53)], [(53, 14, .ofNat 39, .ofNat 39), (53, 15, .ofNat 0, .ofNat 1), (62, 38, .ofNat 5, .ofNat 5), (63, 38, .ofNat 0, .ofNat 29), (64, 38, .negSucc 0, .ofNat 143)], [(53, 14, .ofNat 38, .ofNat 38), (53, 15, .ofNat 1, .ofNat 2)], [61], (some (0, .ofNat 38, .ofNat 38)), 2, false)
theorem c_mu_39_1 (hL : L < 2 ^ 31) : ci L xs 160 k_mu_39_1 :=
  mi_ok (fc := 9000) (f := 9000) (cuts := []) (xk := jx) cl_lok cl_hrf (cl_hro L xs) hL jx_ok (by decide +kernel)
def k_mu_39_2 : ct_C := ([(2, .ofNat 53, .ofNat 53)], [(53, 14, .ofNat 39, .ofNat 39), (53, 15, .ofNat 0, .ofNat 1), (62, 38, .ofNat 6, .ofNat 6), (63, 38, .ofNat 0, .ofNat 11), (64, 38, .negSucc 0, .ofNat 143)], [(53, 14, .ofNat 38, .ofNat 38), (53, 15, .ofNat 1, .ofNat 2)], [60], (some (0, .ofNat 38, .ofNat 38)), 2, false)
theorem c_mu_39_2 (hL : L < 2 ^ 31) : ci L xs 160 k_mu_39_2 :=
  mi_ok (fc := 9000) (f := 9000) (cuts := []) (xk := jx) cl_lok cl_hrf (cl_hro L xs) hL jx_ok (by decide +kernel)
def k_mu_39_3 : ct_C := ([(2, .ofNat 53, .ofNat 53)], [(53, 14, .ofNat 39, .ofNat 39), (53, 15, .ofNat 0, .ofNat 1), (62, 38, .ofNat 7, .ofNat 7), (63, 38, .ofNat 0, .ofNat 0), (64, 38, .ofNat 0, .ofNat 29)], [(53, 13, .ofNat 0, .ofNat 29), (53, 14, .ofNat 38, .ofNat 38), (53, 15, .ofNat 1, .ofNat 2)], [], (some (0, .ofNat 38, .ofNat 38)), 2, false)
theorem c_mu_39_3 (hL : L < 2 ^ 31) : ci L xs 160 k_mu_39_3 :=
  mi_ok (fc := 9000) (f := 9000) (cuts := []) (xk := jx) cl_lok cl_hrf (cl_hro L xs) hL jx_ok (by decide +kernel)
def k_mu_39 : ct_C := ([(2, .ofNat 53, .ofNat 53)], [(53, 14, .ofNat 39, .ofNat 39)], [(53, 13, .ofNat 0, .ofNat 29), (53, 14, .ofNat 0, .ofNat 40), (53, 15, .ofNat 0, .ofNat 40)], [54, 55, 56, 57, 58, 60, 61], (some (0, .ofNat 38, .ofNat 38)), 2, false)
theorem s_mu_39 (M : Nat → Nat → Int) (hm : sx_mok cl_ly M) (hJ : JJ M) (hg : ct_g k_mu_39.2.1 M) : ∃ m ∈ [k_mu_39_0, k_mu_39_1, k_mu_39_2, k_mu_39_3], ct_g m.2.1 M := by
  have hv : M 53 14 = 39 := by
    have h := hg (53, 14, .ofNat 39, .ofNat 39) List.mem_cons_self
    exact Int.le_antisymm h.2 h.1
  have hk := jr_kn hm
  have hu := jr_un hm
  have hd := hJ.2.2.1
  have he := hJ.2.2.2
  have h8 : jp (M 62 38) (M 63 38) (M 64 38) (M 65 38) := hJ.2.1 38 (by decide)
  obtain ⟨⟨b1, b2, b3, b4⟩, h8⟩ := h8
  rcases h8 with h8 | h8 | h8 | h8
  · exact ⟨k_mu_39_0, List.mem_cons_self, (jc (by show (39 : Int) ≤ M 53 14; omega) (by show M 53 14 ≤ (39 : Int); omega) (jc (by show (0 : Int) ≤ M 53 15; omega) (by show M 53 15 ≤ (1 : Int); omega) (jc (by show (0 : Int) ≤ M 62 38; omega) (by show M 62 38 ≤ (4 : Int); omega) (jc (by show (0 : Int) ≤ M 63 38; omega) (by show M 63 38 ≤ (5 : Int); omega) (jc (by show (-1 : Int) ≤ M 64 38; omega) (by show M 64 38 ≤ (143 : Int); omega) jn)))))⟩
  · exact ⟨k_mu_39_1, (List.mem_cons_of_mem _ List.mem_cons_self), (jc (by show (39 : Int) ≤ M 53 14; omega) (by show M 53 14 ≤ (39 : Int); omega) (jc (by show (0 : Int) ≤ M 53 15; omega) (by show M 53 15 ≤ (1 : Int); omega) (jc (by show (5 : Int) ≤ M 62 38; omega) (by show M 62 38 ≤ (5 : Int); omega) (jc (by show (0 : Int) ≤ M 63 38; omega) (by show M 63 38 ≤ (29 : Int); omega) (jc (by show (-1 : Int) ≤ M 64 38; omega) (by show M 64 38 ≤ (143 : Int); omega) jn)))))⟩
  · exact ⟨k_mu_39_2, (List.mem_cons_of_mem _ (List.mem_cons_of_mem _ List.mem_cons_self)), (jc (by show (39 : Int) ≤ M 53 14; omega) (by show M 53 14 ≤ (39 : Int); omega) (jc (by show (0 : Int) ≤ M 53 15; omega) (by show M 53 15 ≤ (1 : Int); omega) (jc (by show (6 : Int) ≤ M 62 38; omega) (by show M 62 38 ≤ (6 : Int); omega) (jc (by show (0 : Int) ≤ M 63 38; omega) (by show M 63 38 ≤ (11 : Int); omega) (jc (by show (-1 : Int) ≤ M 64 38; omega) (by show M 64 38 ≤ (143 : Int); omega) jn)))))⟩
  · exact ⟨k_mu_39_3, (List.mem_cons_of_mem _ (List.mem_cons_of_mem _ (List.mem_cons_of_mem _ List.mem_cons_self))), (jc (by show (39 : Int) ≤ M 53 14; omega) (by show M 53 14 ≤ (39 : Int); omega) (jc (by show (0 : Int) ≤ M 53 15; omega) (by show M 53 15 ≤ (1 : Int); omega) (jc (by show (7 : Int) ≤ M 62 38; omega) (by show M 62 38 ≤ (7 : Int); omega) (jc (by show (0 : Int) ≤ M 63 38; omega) (by show M 63 38 ≤ (0 : Int); omega) (jc (by show (0 : Int) ≤ M 64 38; omega) (by show M 64 38 ≤ (29 : Int); omega) jn)))))⟩
theorem c_mu_39 (hL : L < 2 ^ 31) : ci L xs 160 k_mu_39 :=
  ci_j_ok (ms := [k_mu_39_0, k_mu_39_1, k_mu_39_2, k_mu_39_3]) (jl_cons (c_mu_39_0 hL) (jl_cons (c_mu_39_1 hL) (jl_cons (c_mu_39_2 hL) (jl_cons (c_mu_39_3 hL) jl_nil)))) s_mu_39 (by decide +kernel)
def k_mu_40_0 : ct_C := ([(2, .ofNat 53, .ofNat 53)], [(53, 14, .ofNat 40, .ofNat 40), (53, 15, .ofNat 0, .ofNat 0), (62, 39, .ofNat 0, .ofNat 4), (63, 39, .ofNat 0, .ofNat 5), (64, 39, .negSucc 0, .ofNat 143)], [(53, 14, .ofNat 39, .ofNat 39), (53, 15, .ofNat 1, .ofNat 1)], [54, 55, 56, 57, 58], (some (0, .ofNat 39, .ofNat 39)), 2, false)
theorem c_mu_40_0 (hL : L < 2 ^ 31) : ci L xs 160 k_mu_40_0 :=
  mi_ok (fc := 9000) (f := 9000) (cuts := []) (xk := jx) cl_lok cl_hrf (cl_hro L xs) hL jx_ok (by decide +kernel)
def k_mu_40_1 : ct_C := ([(2, .ofNat 53, .ofNat 53)], [(53, 14, .ofNat 40, .ofNat 40), (53, 15, .ofNat 0, .ofNat 0), (62, 39, .ofNat 5, .ofNat 5), (63, 39, .ofNat 0, .ofNat 29), (64, 39, .negSucc 0, .ofNat 143)], [(53, 14, .ofNat 39, .ofNat 39), (53, 15, .ofNat 1, .ofNat 1)], [61], (some (0, .ofNat 39, .ofNat 39)), 2, false)
theorem c_mu_40_1 (hL : L < 2 ^ 31) : ci L xs 160 k_mu_40_1 :=
  mi_ok (fc := 9000) (f := 9000) (cuts := []) (xk := jx) cl_lok cl_hrf (cl_hro L xs) hL jx_ok (by decide +kernel)
def k_mu_40_2 : ct_C := ([(2, .ofNat 53, .ofNat 53)], [(53, 14, .ofNat 40, .ofNat 40), (53, 15, .ofNat 0, .ofNat 0), (62, 39, .ofNat 6, .ofNat 6), (63, 39, .ofNat 0, .ofNat 11), (64, 39, .negSucc 0, .ofNat 143)], [(53, 14, .ofNat 39, .ofNat 39), (53, 15, .ofNat 1, .ofNat 1)], [60], (some (0, .ofNat 39, .ofNat 39)), 2, false)
theorem c_mu_40_2 (hL : L < 2 ^ 31) : ci L xs 160 k_mu_40_2 :=
  mi_ok (fc := 9000) (f := 9000) (cuts := []) (xk := jx) cl_lok cl_hrf (cl_hro L xs) hL jx_ok (by decide +kernel)
def k_mu_40_3 : ct_C := ([(2, .ofNat 53, .ofNat 53)], [(53, 14, .ofNat 40, .ofNat 40), (53, 15, .ofNat 0, .ofNat 0), (62, 39, .ofNat 7, .ofNat 7), (63, 39, .ofNat 0, .ofNat 0), (64, 39, .ofNat 0, .ofNat 29)], [(53, 13, .ofNat 0, .ofNat 29), (53, 14, .ofNat 39, .ofNat 39), (53, 15, .ofNat 1, .ofNat 1)], [], (some (0, .ofNat 39, .ofNat 39)), 2, false)
theorem c_mu_40_3 (hL : L < 2 ^ 31) : ci L xs 160 k_mu_40_3 :=
  mi_ok (fc := 9000) (f := 9000) (cuts := []) (xk := jx) cl_lok cl_hrf (cl_hro L xs) hL jx_ok (by decide +kernel)
def k_mu_40 : ct_C := ([(2, .ofNat 53, .ofNat 53)], [(53, 14, .ofNat 40, .ofNat 40)], [(53, 13, .ofNat 0, .ofNat 29), (53, 14, .ofNat 0, .ofNat 40), (53, 15, .ofNat 0, .ofNat 40)], [54, 55, 56, 57, 58, 60, 61], (some (0, .ofNat 39, .ofNat 39)), 2, false)
theorem s_mu_40 (M : Nat → Nat → Int) (hm : sx_mok cl_ly M) (hJ : JJ M) (hg : ct_g k_mu_40.2.1 M) : ∃ m ∈ [k_mu_40_0, k_mu_40_1, k_mu_40_2, k_mu_40_3], ct_g m.2.1 M := by
  have hv : M 53 14 = 40 := by
    have h := hg (53, 14, .ofNat 40, .ofNat 40) List.mem_cons_self
    exact Int.le_antisymm h.2 h.1
  have hk := jr_kn hm
  have hu := jr_un hm
  have hd := hJ.2.2.1
  have he := hJ.2.2.2
  have h8 : jp (M 62 39) (M 63 39) (M 64 39) (M 65 39) := hJ.2.1 39 (by decide)
  obtain ⟨⟨b1, b2, b3, b4⟩, h8⟩ := h8
  rcases h8 with h8 | h8 | h8 | h8
  · exact ⟨k_mu_40_0, List.mem_cons_self, (jc (by show (40 : Int) ≤ M 53 14; omega) (by show M 53 14 ≤ (40 : Int); omega) (jc (by show (0 : Int) ≤ M 53 15; omega) (by show M 53 15 ≤ (0 : Int); omega) (jc (by show (0 : Int) ≤ M 62 39; omega) (by show M 62 39 ≤ (4 : Int); omega) (jc (by show (0 : Int) ≤ M 63 39; omega) (by show M 63 39 ≤ (5 : Int); omega) (jc (by show (-1 : Int) ≤ M 64 39; omega) (by show M 64 39 ≤ (143 : Int); omega) jn)))))⟩
  · exact ⟨k_mu_40_1, (List.mem_cons_of_mem _ List.mem_cons_self), (jc (by show (40 : Int) ≤ M 53 14; omega) (by show M 53 14 ≤ (40 : Int); omega) (jc (by show (0 : Int) ≤ M 53 15; omega) (by show M 53 15 ≤ (0 : Int); omega) (jc (by show (5 : Int) ≤ M 62 39; omega) (by show M 62 39 ≤ (5 : Int); omega) (jc (by show (0 : Int) ≤ M 63 39; omega) (by show M 63 39 ≤ (29 : Int); omega) (jc (by show (-1 : Int) ≤ M 64 39; omega) (by show M 64 39 ≤ (143 : Int); omega) jn)))))⟩
  · exact ⟨k_mu_40_2, (List.mem_cons_of_mem _ (List.mem_cons_of_mem _ List.mem_cons_self)), (jc (by show (40 : Int) ≤ M 53 14; omega) (by show M 53 14 ≤ (40 : Int); omega) (jc (by show (0 : Int) ≤ M 53 15; omega) (by show M 53 15 ≤ (0 : Int); omega) (jc (by show (6 : Int) ≤ M 62 39; omega) (by show M 62 39 ≤ (6 : Int); omega) (jc (by show (0 : Int) ≤ M 63 39; omega) (by show M 63 39 ≤ (11 : Int); omega) (jc (by show (-1 : Int) ≤ M 64 39; omega) (by show M 64 39 ≤ (143 : Int); omega) jn)))))⟩
  · exact ⟨k_mu_40_3, (List.mem_cons_of_mem _ (List.mem_cons_of_mem _ (List.mem_cons_of_mem _ List.mem_cons_self))), (jc (by show (40 : Int) ≤ M 53 14; omega) (by show M 53 14 ≤ (40 : Int); omega) (jc (by show (0 : Int) ≤ M 53 15; omega) (by show M 53 15 ≤ (0 : Int); omega) (jc (by show (7 : Int) ≤ M 62 39; omega) (by show M 62 39 ≤ (7 : Int); omega) (jc (by show (0 : Int) ≤ M 63 39; omega) (by show M 63 39 ≤ (0 : Int); omega) (jc (by show (0 : Int) ≤ M 64 39; omega) (by show M 64 39 ≤ (29 : Int); omega) jn)))))⟩
theorem c_mu_40 (hL : L < 2 ^ 31) : ci L xs 160 k_mu_40 :=
  ci_j_ok (ms := [k_mu_40_0, k_mu_40_1, k_mu_40_2, k_mu_40_3]) (jl_cons (c_mu_40_0 hL) (jl_cons (c_mu_40_1 hL) (jl_cons (c_mu_40_2 hL) (jl_cons (c_mu_40_3 hL) jl_nil)))) s_mu_40 (by decide +kernel)
def k_mundo : ct_C := ([(2, .ofNat 53, .ofNat 53)], [(53, 14, .ofNat 0, .ofNat 40)], [(53, 13, .ofNat 0, .ofNat 29), (53, 14, .ofNat 0, .ofNat 40), (53, 15, .ofNat 0, .ofNat 40)], [54, 55, 56, 57, 58, 60, 61], (some (0, .negSucc 4, .ofNat 39)), 2, false)
theorem c_mundo (hL : L < 2 ^ 31) : ci L xs 160 k_mundo :=
  ci_g_ok (i := 0) (ms := [((.ofNat 0, .ofNat 0), k_mu_0), ((.ofNat 1, .ofNat 1), k_mu_1), ((.ofNat 2, .ofNat 2), k_mu_2), ((.ofNat 3, .ofNat 3), k_mu_3), ((.ofNat 4, .ofNat 4), k_mu_4), ((.ofNat 5, .ofNat 5), k_mu_5), ((.ofNat 6, .ofNat 6), k_mu_6), ((.ofNat 7, .ofNat 7), k_mu_7), ((.ofNat 8, .ofNat 8), k_mu_8), ((.ofNat 9, .ofNat 9), k_mu_9), ((.ofNat 10, .ofNat 10), k_mu_10), ((.ofNat 11, .ofNat 11), k_mu_11), ((.ofNat 12, .ofNat 12), k_mu_12), ((.ofNat 13, .ofNat 13), k_mu_13), ((.ofNat 14, .ofNat 14), k_mu_14), ((.ofNat 15, .ofNat 15), k_mu_15), ((.ofNat 16, .ofNat 16), k_mu_16), ((.ofNat 17, .ofNat 17), k_mu_17), ((.ofNat 18, .ofNat 18), k_mu_18), ((.ofNat 19, .ofNat 19), k_mu_19), ((.ofNat 20, .ofNat 20), k_mu_20), ((.ofNat 21, .ofNat 21), k_mu_21), ((.ofNat 22, .ofNat 22), k_mu_22), ((.ofNat 23, .ofNat 23), k_mu_23), ((.ofNat 24, .ofNat 24), k_mu_24), ((.ofNat 25, .ofNat 25), k_mu_25), ((.ofNat 26, .ofNat 26), k_mu_26), ((.ofNat 27, .ofNat 27), k_mu_27), ((.ofNat 28, .ofNat 28), k_mu_28), ((.ofNat 29, .ofNat 29), k_mu_29), ((.ofNat 30, .ofNat 30), k_mu_30), ((.ofNat 31, .ofNat 31), k_mu_31), ((.ofNat 32, .ofNat 32), k_mu_32), ((.ofNat 33, .ofNat 33), k_mu_33), ((.ofNat 34, .ofNat 34), k_mu_34), ((.ofNat 35, .ofNat 35), k_mu_35), ((.ofNat 36, .ofNat 36), k_mu_36), ((.ofNat 37, .ofNat 37), k_mu_37), ((.ofNat 38, .ofNat 38), k_mu_38), ((.ofNat 39, .ofNat 39), k_mu_39), ((.ofNat 40, .ofNat 40), k_mu_40)]) (jm_cons (r := (.ofNat 0, .ofNat 0)) (c_mu_0 hL) (jm_cons (r := (.ofNat 1, .ofNat 1)) (c_mu_1 hL) (jm_cons (r := (.ofNat 2, .ofNat 2)) (c_mu_2 hL) (jm_cons (r := (.ofNat 3, .ofNat 3)) (c_mu_3 hL) (jm_cons (r := (.ofNat 4, .ofNat 4)) (c_mu_4 hL) (jm_cons (r := (.ofNat 5, .ofNat 5)) (c_mu_5 hL) (jm_cons (r := (.ofNat 6, .ofNat 6)) (c_mu_6 hL) (jm_cons (r := (.ofNat 7, .ofNat 7)) (c_mu_7 hL) (jm_cons (r := (.ofNat 8, .ofNat 8)) (c_mu_8 hL) (jm_cons (r := (.ofNat 9, .ofNat 9)) (c_mu_9 hL) (jm_cons (r := (.ofNat 10, .ofNat 10)) (c_mu_10 hL) (jm_cons (r := (.ofNat 11, .ofNat 11)) (c_mu_11 hL) (jm_cons (r := (.ofNat 12, .ofNat 12)) (c_mu_12 hL) (jm_cons (r := (.ofNat 13, .ofNat 13)) (c_mu_13 hL) (jm_cons (r := (.ofNat 14, .ofNat 14)) (c_mu_14 hL) (jm_cons (r := (.ofNat 15, .ofNat 15)) (c_mu_15 hL) (jm_cons (r := (.ofNat 16, .ofNat 16)) (c_mu_16 hL) (jm_cons (r := (.ofNat 17, .ofNat 17)) (c_mu_17 hL) (jm_cons (r := (.ofNat 18, .ofNat 18)) (c_mu_18 hL) (jm_cons (r := (.ofNat 19, .ofNat 19)) (c_mu_19 hL) (jm_cons (r := (.ofNat 20, .ofNat 20)) (c_mu_20 hL) (jm_cons (r := (.ofNat 21, .ofNat 21)) (c_mu_21 hL) (jm_cons (r := (.ofNat 22, .ofNat 22)) (c_mu_22 hL) (jm_cons (r := (.ofNat 23, .ofNat 23)) (c_mu_23 hL) (jm_cons (r := (.ofNat 24, .ofNat 24)) (c_mu_24 hL) (jm_cons (r := (.ofNat 25, .ofNat 25)) (c_mu_25 hL) (jm_cons (r := (.ofNat 26, .ofNat 26)) (c_mu_26 hL) (jm_cons (r := (.ofNat 27, .ofNat 27)) (c_mu_27 hL) (jm_cons (r := (.ofNat 28, .ofNat 28)) (c_mu_28 hL) (jm_cons (r := (.ofNat 29, .ofNat 29)) (c_mu_29 hL) (jm_cons (r := (.ofNat 30, .ofNat 30)) (c_mu_30 hL) (jm_cons (r := (.ofNat 31, .ofNat 31)) (c_mu_31 hL) (jm_cons (r := (.ofNat 32, .ofNat 32)) (c_mu_32 hL) (jm_cons (r := (.ofNat 33, .ofNat 33)) (c_mu_33 hL) (jm_cons (r := (.ofNat 34, .ofNat 34)) (c_mu_34 hL) (jm_cons (r := (.ofNat 35, .ofNat 35)) (c_mu_35 hL) (jm_cons (r := (.ofNat 36, .ofNat 36)) (c_mu_36 hL) (jm_cons (r := (.ofNat 37, .ofNat 37)) (c_mu_37 hL) (jm_cons (r := (.ofNat 38, .ofNat 38)) (c_mu_38 hL) (jm_cons (r := (.ofNat 39, .ofNat 39)) (c_mu_39 hL) (jm_cons (r := (.ofNat 40, .ofNat 40)) (c_mu_40 hL) jm_nil))))))))))))))))))))))))))))))))))))))))) (by decide +kernel)
def k_mr_0_e : ct_C := ([(2, .ofNat 53, .ofNat 53)], [(53, 14, .ofNat 0, .ofNat 0), (53, 15, .ofNat 0, .ofNat 0)], [], [], (some (0, .negSucc 4, .negSucc 4)), 1, false)
theorem c_mr_0_e (hL : L < 2 ^ 31) : ci L xs 162 k_mr_0_e :=
  mi_ok (fc := 9000) (f := 9000) (cuts := []) (xk := jx) cl_lok cl_hrf (cl_hro L xs) hL jx_ok (by decide +kernel)
def k_mr_0_0 : ct_C := ([(2, .ofNat 53, .ofNat 53)], [(53, 14, .ofNat 0, .ofNat 0), (53, 15, .ofNat 1, .ofNat 40), (62, 0, .ofNat 0, .ofNat 4), (63, 0, .ofNat 0, .ofNat 5), (65, 0, .negSucc 0, .ofNat 143)], [(53, 14, .ofNat 1, .ofNat 1), (53, 15, .ofNat 0, .ofNat 39)], [54, 55, 56, 57, 58], (some (0, .ofNat 0, .ofNat 39)), 2, false)
theorem c_mr_0_0 (hL : L < 2 ^ 31) : ci L xs 162 k_mr_0_0 :=
  mi_ok (fc := 9000) (f := 9000) (cuts := []) (xk := jx) cl_lok cl_hrf (cl_hro L xs) hL jx_ok (by decide +kernel)
def k_mr_0_1 : ct_C := ([(2, .ofNat 53, .ofNat 53)], [(53, 14, .ofNat 0, .ofNat 0), (53, 15, .ofNat 1, .ofNat 40), (62, 0, .ofNat 5, .ofNat 5), (63, 0, .ofNat 0, .ofNat 29), (65, 0, .negSucc 0, .ofNat 143)], [(53, 14, .ofNat 1, .ofNat 1), (53, 15, .ofNat 0, .ofNat 39)], [61], (some (0, .ofNat 0, .ofNat 39)), 2, false)
theorem c_mr_0_1 (hL : L < 2 ^ 31) : ci L xs 162 k_mr_0_1 :=
  mi_ok (fc := 9000) (f := 9000) (cuts := []) (xk := jx) cl_lok cl_hrf (cl_hro L xs) hL jx_ok (by decide +kernel)
def k_mr_0_2 : ct_C := ([(2, .ofNat 53, .ofNat 53)], [(53, 14, .ofNat 0, .ofNat 0), (53, 15, .ofNat 1, .ofNat 40), (62, 0, .ofNat 6, .ofNat 6), (63, 0, .ofNat 0, .ofNat 11), (65, 0, .negSucc 0, .ofNat 143)], [(53, 14, .ofNat 1, .ofNat 1), (53, 15, .ofNat 0, .ofNat 39)], [60], (some (0, .ofNat 0, .ofNat 39)), 2, false)
theorem c_mr_0_2 (hL : L < 2 ^ 31) : ci L xs 162 k_mr_0_2 :=
  mi_ok (fc := 9000) (f := 9000) (cuts := []) (xk := jx) cl_lok cl_hrf (cl_hro L xs) hL jx_ok (by decide +kernel)
def k_mr_0_3 : ct_C := ([(2, .ofNat 53, .ofNat 53)], [(53, 14, .ofNat 0, .ofNat 0), (53, 15, .ofNat 1, .ofNat 40), (62, 0, .ofNat 7, .ofNat 7), (63, 0, .ofNat 0, .ofNat 0), (65, 0, .ofNat 0, .ofNat 29)], [(53, 13, .ofNat 0, .ofNat 29), (53, 14, .ofNat 1, .ofNat 1), (53, 15, .ofNat 0, .ofNat 39)], [], (some (0, .ofNat 0, .ofNat 39)), 2, false)
theorem c_mr_0_3 (hL : L < 2 ^ 31) : ci L xs 162 k_mr_0_3 :=
  mi_ok (fc := 9000) (f := 9000) (cuts := []) (xk := jx) cl_lok cl_hrf (cl_hro L xs) hL jx_ok (by decide +kernel)
def k_mr_0 : ct_C := ([(2, .ofNat 53, .ofNat 53)], [(53, 14, .ofNat 0, .ofNat 0)], [(53, 13, .ofNat 0, .ofNat 29), (53, 14, .ofNat 0, .ofNat 40), (53, 15, .ofNat 0, .ofNat 40)], [54, 55, 56, 57, 58, 60, 61], (some (0, .negSucc 4, .ofNat 39)), 2, false)
theorem s_mr_0 (M : Nat → Nat → Int) (hm : sx_mok cl_ly M) (hJ : JJ M) (hg : ct_g k_mr_0.2.1 M) : ∃ m ∈ [k_mr_0_e, k_mr_0_0, k_mr_0_1, k_mr_0_2, k_mr_0_3], ct_g m.2.1 M := by
  have hv : M 53 14 = 0 := by
    have h := hg (53, 14, .ofNat 0, .ofNat 0) List.mem_cons_self
    exact Int.le_antisymm h.2 h.1
  have hk := jr_kn hm
  have hu := jr_un hm
  have hd := hJ.2.2.1
  have he := hJ.2.2.2
  by_cases h0 : M 53 15 = 0
  · exact ⟨k_mr_0_e, List.mem_cons_self, (jc (by show (0 : Int) ≤ M 53 14; omega) (by show M 53 14 ≤ (0 : Int); omega) (jc (by show (0 : Int) ≤ M 53 15; omega) (by show M 53 15 ≤ (0 : Int); omega) jn))⟩
  · have h8 : jp (M 62 0) (M 63 0) (M 64 0) (M 65 0) := hJ.2.1 0 (by decide)
    obtain ⟨⟨b1, b2, b3, b4⟩, h8⟩ := h8
    rcases h8 with h8 | h8 | h8 | h8
    · exact ⟨k_mr_0_0, (List.mem_cons_of_mem _ List.mem_cons_self), (jc (by show (0 : Int) ≤ M 53 14; omega) (by show M 53 14 ≤ (0 : Int); omega) (jc (by show (1 : Int) ≤ M 53 15; omega) (by show M 53 15 ≤ (40 : Int); omega) (jc (by show (0 : Int) ≤ M 62 0; omega) (by show M 62 0 ≤ (4 : Int); omega) (jc (by show (0 : Int) ≤ M 63 0; omega) (by show M 63 0 ≤ (5 : Int); omega) (jc (by show (-1 : Int) ≤ M 65 0; omega) (by show M 65 0 ≤ (143 : Int); omega) jn)))))⟩
    · exact ⟨k_mr_0_1, (List.mem_cons_of_mem _ (List.mem_cons_of_mem _ List.mem_cons_self)), (jc (by show (0 : Int) ≤ M 53 14; omega) (by show M 53 14 ≤ (0 : Int); omega) (jc (by show (1 : Int) ≤ M 53 15; omega) (by show M 53 15 ≤ (40 : Int); omega) (jc (by show (5 : Int) ≤ M 62 0; omega) (by show M 62 0 ≤ (5 : Int); omega) (jc (by show (0 : Int) ≤ M 63 0; omega) (by show M 63 0 ≤ (29 : Int); omega) (jc (by show (-1 : Int) ≤ M 65 0; omega) (by show M 65 0 ≤ (143 : Int); omega) jn)))))⟩
    · exact ⟨k_mr_0_2, (List.mem_cons_of_mem _ (List.mem_cons_of_mem _ (List.mem_cons_of_mem _ List.mem_cons_self))), (jc (by show (0 : Int) ≤ M 53 14; omega) (by show M 53 14 ≤ (0 : Int); omega) (jc (by show (1 : Int) ≤ M 53 15; omega) (by show M 53 15 ≤ (40 : Int); omega) (jc (by show (6 : Int) ≤ M 62 0; omega) (by show M 62 0 ≤ (6 : Int); omega) (jc (by show (0 : Int) ≤ M 63 0; omega) (by show M 63 0 ≤ (11 : Int); omega) (jc (by show (-1 : Int) ≤ M 65 0; omega) (by show M 65 0 ≤ (143 : Int); omega) jn)))))⟩
    · exact ⟨k_mr_0_3, (List.mem_cons_of_mem _ (List.mem_cons_of_mem _ (List.mem_cons_of_mem _ (List.mem_cons_of_mem _ List.mem_cons_self)))), (jc (by show (0 : Int) ≤ M 53 14; omega) (by show M 53 14 ≤ (0 : Int); omega) (jc (by show (1 : Int) ≤ M 53 15; omega) (by show M 53 15 ≤ (40 : Int); omega) (jc (by show (7 : Int) ≤ M 62 0; omega) (by show M 62 0 ≤ (7 : Int); omega) (jc (by show (0 : Int) ≤ M 63 0; omega) (by show M 63 0 ≤ (0 : Int); omega) (jc (by show (0 : Int) ≤ M 65 0; omega) (by show M 65 0 ≤ (29 : Int); omega) jn)))))⟩
theorem c_mr_0 (hL : L < 2 ^ 31) : ci L xs 162 k_mr_0 :=
  ci_j_ok (ms := [k_mr_0_e, k_mr_0_0, k_mr_0_1, k_mr_0_2, k_mr_0_3]) (jl_cons (c_mr_0_e hL) (jl_cons (c_mr_0_0 hL) (jl_cons (c_mr_0_1 hL) (jl_cons (c_mr_0_2 hL) (jl_cons (c_mr_0_3 hL) jl_nil))))) s_mr_0 (by decide +kernel)
def k_mr_1_e : ct_C := ([(2, .ofNat 53, .ofNat 53)], [(53, 14, .ofNat 1, .ofNat 1), (53, 15, .ofNat 0, .ofNat 0)], [], [], (some (0, .negSucc 4, .negSucc 4)), 1, false)
theorem c_mr_1_e (hL : L < 2 ^ 31) : ci L xs 162 k_mr_1_e :=
  mi_ok (fc := 9000) (f := 9000) (cuts := []) (xk := jx) cl_lok cl_hrf (cl_hro L xs) hL jx_ok (by decide +kernel)
def k_mr_1_0 : ct_C := ([(2, .ofNat 53, .ofNat 53)], [(53, 14, .ofNat 1, .ofNat 1), (53, 15, .ofNat 1, .ofNat 39), (62, 1, .ofNat 0, .ofNat 4), (63, 1, .ofNat 0, .ofNat 5), (65, 1, .negSucc 0, .ofNat 143)], [(53, 14, .ofNat 2, .ofNat 2), (53, 15, .ofNat 0, .ofNat 38)], [54, 55, 56, 57, 58], (some (0, .ofNat 0, .ofNat 38)), 2, false)
theorem c_mr_1_0 (hL : L < 2 ^ 31) : ci L xs 162 k_mr_1_0 :=
  mi_ok (fc := 9000) (f := 9000) (cuts := []) (xk := jx) cl_lok cl_hrf (cl_hro L xs) hL jx_ok (by decide +kernel)
def k_mr_1_1 : ct_C := ([(2, .ofNat 53, .ofNat 53)], [(53, 14, .ofNat 1, .ofNat 1), (53, 15, .ofNat 1, .ofNat 39), (62, 1, .ofNat 5, .ofNat 5), (63, 1, .ofNat 0, .ofNat 29), (65, 1, .negSucc 0, .ofNat 143)], [(53, 14, .ofNat 2, .ofNat 2), (53, 15, .ofNat 0, .ofNat 38)], [61], (some (0, .ofNat 0, .ofNat 38)), 2, false)
theorem c_mr_1_1 (hL : L < 2 ^ 31) : ci L xs 162 k_mr_1_1 :=
  mi_ok (fc := 9000) (f := 9000) (cuts := []) (xk := jx) cl_lok cl_hrf (cl_hro L xs) hL jx_ok (by decide +kernel)
def k_mr_1_2 : ct_C := ([(2, .ofNat 53, .ofNat 53)], [(53, 14, .ofNat 1, .ofNat 1), (53, 15, .ofNat 1, .ofNat 39), (62, 1, .ofNat 6, .ofNat 6), (63, 1, .ofNat 0, .ofNat 11), (65, 1, .negSucc 0, .ofNat 143)], [(53, 14, .ofNat 2, .ofNat 2), (53, 15, .ofNat 0, .ofNat 38)], [60], (some (0, .ofNat 0, .ofNat 38)), 2, false)
theorem c_mr_1_2 (hL : L < 2 ^ 31) : ci L xs 162 k_mr_1_2 :=
  mi_ok (fc := 9000) (f := 9000) (cuts := []) (xk := jx) cl_lok cl_hrf (cl_hro L xs) hL jx_ok (by decide +kernel)
def k_mr_1_3 : ct_C := ([(2, .ofNat 53, .ofNat 53)], [(53, 14, .ofNat 1, .ofNat 1), (53, 15, .ofNat 1, .ofNat 39), (62, 1, .ofNat 7, .ofNat 7), (63, 1, .ofNat 0, .ofNat 0), (65, 1, .ofNat 0, .ofNat 29)], [(53, 13, .ofNat 0, .ofNat 29), (53, 14, .ofNat 2, .ofNat 2), (53, 15, .ofNat 0, .ofNat 38)], [], (some (0, .ofNat 0, .ofNat 38)), 2, false)
theorem c_mr_1_3 (hL : L < 2 ^ 31) : ci L xs 162 k_mr_1_3 :=
  mi_ok (fc := 9000) (f := 9000) (cuts := []) (xk := jx) cl_lok cl_hrf (cl_hro L xs) hL jx_ok (by decide +kernel)
def k_mr_1 : ct_C := ([(2, .ofNat 53, .ofNat 53)], [(53, 14, .ofNat 1, .ofNat 1)], [(53, 13, .ofNat 0, .ofNat 29), (53, 14, .ofNat 0, .ofNat 40), (53, 15, .ofNat 0, .ofNat 40)], [54, 55, 56, 57, 58, 60, 61], (some (0, .negSucc 4, .ofNat 38)), 2, false)
theorem s_mr_1 (M : Nat → Nat → Int) (hm : sx_mok cl_ly M) (hJ : JJ M) (hg : ct_g k_mr_1.2.1 M) : ∃ m ∈ [k_mr_1_e, k_mr_1_0, k_mr_1_1, k_mr_1_2, k_mr_1_3], ct_g m.2.1 M := by
  have hv : M 53 14 = 1 := by
    have h := hg (53, 14, .ofNat 1, .ofNat 1) List.mem_cons_self
    exact Int.le_antisymm h.2 h.1
  have hk := jr_kn hm
  have hu := jr_un hm
  have hd := hJ.2.2.1
  have he := hJ.2.2.2
  by_cases h0 : M 53 15 = 0
  · exact ⟨k_mr_1_e, List.mem_cons_self, (jc (by show (1 : Int) ≤ M 53 14; omega) (by show M 53 14 ≤ (1 : Int); omega) (jc (by show (0 : Int) ≤ M 53 15; omega) (by show M 53 15 ≤ (0 : Int); omega) jn))⟩
  · have h8 : jp (M 62 1) (M 63 1) (M 64 1) (M 65 1) := hJ.2.1 1 (by decide)
    obtain ⟨⟨b1, b2, b3, b4⟩, h8⟩ := h8
    rcases h8 with h8 | h8 | h8 | h8
    · exact ⟨k_mr_1_0, (List.mem_cons_of_mem _ List.mem_cons_self), (jc (by show (1 : Int) ≤ M 53 14; omega) (by show M 53 14 ≤ (1 : Int); omega) (jc (by show (1 : Int) ≤ M 53 15; omega) (by show M 53 15 ≤ (39 : Int); omega) (jc (by show (0 : Int) ≤ M 62 1; omega) (by show M 62 1 ≤ (4 : Int); omega) (jc (by show (0 : Int) ≤ M 63 1; omega) (by show M 63 1 ≤ (5 : Int); omega) (jc (by show (-1 : Int) ≤ M 65 1; omega) (by show M 65 1 ≤ (143 : Int); omega) jn)))))⟩
    · exact ⟨k_mr_1_1, (List.mem_cons_of_mem _ (List.mem_cons_of_mem _ List.mem_cons_self)), (jc (by show (1 : Int) ≤ M 53 14; omega) (by show M 53 14 ≤ (1 : Int); omega) (jc (by show (1 : Int) ≤ M 53 15; omega) (by show M 53 15 ≤ (39 : Int); omega) (jc (by show (5 : Int) ≤ M 62 1; omega) (by show M 62 1 ≤ (5 : Int); omega) (jc (by show (0 : Int) ≤ M 63 1; omega) (by show M 63 1 ≤ (29 : Int); omega) (jc (by show (-1 : Int) ≤ M 65 1; omega) (by show M 65 1 ≤ (143 : Int); omega) jn)))))⟩
    · exact ⟨k_mr_1_2, (List.mem_cons_of_mem _ (List.mem_cons_of_mem _ (List.mem_cons_of_mem _ List.mem_cons_self))), (jc (by show (1 : Int) ≤ M 53 14; omega) (by show M 53 14 ≤ (1 : Int); omega) (jc (by show (1 : Int) ≤ M 53 15; omega) (by show M 53 15 ≤ (39 : Int); omega) (jc (by show (6 : Int) ≤ M 62 1; omega) (by show M 62 1 ≤ (6 : Int); omega) (jc (by show (0 : Int) ≤ M 63 1; omega) (by show M 63 1 ≤ (11 : Int); omega) (jc (by show (-1 : Int) ≤ M 65 1; omega) (by show M 65 1 ≤ (143 : Int); omega) jn)))))⟩
    · exact ⟨k_mr_1_3, (List.mem_cons_of_mem _ (List.mem_cons_of_mem _ (List.mem_cons_of_mem _ (List.mem_cons_of_mem _ List.mem_cons_self)))), (jc (by show (1 : Int) ≤ M 53 14; omega) (by show M 53 14 ≤ (1 : Int); omega) (jc (by show (1 : Int) ≤ M 53 15; omega) (by show M 53 15 ≤ (39 : Int); omega) (jc (by show (7 : Int) ≤ M 62 1; omega) (by show M 62 1 ≤ (7 : Int); omega) (jc (by show (0 : Int) ≤ M 63 1; omega) (by show M 63 1 ≤ (0 : Int); omega) (jc (by show (0 : Int) ≤ M 65 1; omega) (by show M 65 1 ≤ (29 : Int); omega) jn)))))⟩
theorem c_mr_1 (hL : L < 2 ^ 31) : ci L xs 162 k_mr_1 :=
  ci_j_ok (ms := [k_mr_1_e, k_mr_1_0, k_mr_1_1, k_mr_1_2, k_mr_1_3]) (jl_cons (c_mr_1_e hL) (jl_cons (c_mr_1_0 hL) (jl_cons (c_mr_1_1 hL) (jl_cons (c_mr_1_2 hL) (jl_cons (c_mr_1_3 hL) jl_nil))))) s_mr_1 (by decide +kernel)
def k_mr_2_e : ct_C := ([(2, .ofNat 53, .ofNat 53)], [(53, 14, .ofNat 2, .ofNat 2), (53, 15, .ofNat 0, .ofNat 0)], [], [], (some (0, .negSucc 4, .negSucc 4)), 1, false)
theorem c_mr_2_e (hL : L < 2 ^ 31) : ci L xs 162 k_mr_2_e :=
  mi_ok (fc := 9000) (f := 9000) (cuts := []) (xk := jx) cl_lok cl_hrf (cl_hro L xs) hL jx_ok (by decide +kernel)
def k_mr_2_0 : ct_C := ([(2, .ofNat 53, .ofNat 53)], [(53, 14, .ofNat 2, .ofNat 2), (53, 15, .ofNat 1, .ofNat 38), (62, 2, .ofNat 0, .ofNat 4), (63, 2, .ofNat 0, .ofNat 5), (65, 2, .negSucc 0, .ofNat 143)], [(53, 14, .ofNat 3, .ofNat 3), (53, 15, .ofNat 0, .ofNat 37)], [54, 55, 56, 57, 58], (some (0, .ofNat 0, .ofNat 37)), 2, false)
theorem c_mr_2_0 (hL : L < 2 ^ 31) : ci L xs 162 k_mr_2_0 :=
  mi_ok (fc := 9000) (f := 9000) (cuts := []) (xk := jx) cl_lok cl_hrf (cl_hro L xs) hL jx_ok (by decide +kernel)
def k_mr_2_1 : ct_C := ([(2, .ofNat 53, .ofNat 53)], [(53, 14, .ofNat 2, .ofNat 2), (53, 15, .ofNat 1, .ofNat 38), (62, 2, .ofNat 5, .ofNat 5), (63, 2, .ofNat 0, .ofNat 29), (65, 2, .negSucc 0, .ofNat 143)], [(53, 14, .ofNat 3, .ofNat 3), (53, 15, .ofNat 0, .ofNat 37)], [61], (some (0, .ofNat 0, .ofNat 37)), 2, false)
theorem c_mr_2_1 (hL : L < 2 ^ 31) : ci L xs 162 k_mr_2_1 :=
  mi_ok (fc := 9000) (f := 9000) (cuts := []) (xk := jx) cl_lok cl_hrf (cl_hro L xs) hL jx_ok (by decide +kernel)
def k_mr_2_2 : ct_C := ([(2, .ofNat 53, .ofNat 53)], [(53, 14, .ofNat 2, .ofNat 2), (53, 15, .ofNat 1, .ofNat 38), (62, 2, .ofNat 6, .ofNat 6), (63, 2, .ofNat 0, .ofNat 11), (65, 2, .negSucc 0, .ofNat 143)], [(53, 14, .ofNat 3, .ofNat 3), (53, 15, .ofNat 0, .ofNat 37)], [60], (some (0, .ofNat 0, .ofNat 37)), 2, false)
theorem c_mr_2_2 (hL : L < 2 ^ 31) : ci L xs 162 k_mr_2_2 :=
  mi_ok (fc := 9000) (f := 9000) (cuts := []) (xk := jx) cl_lok cl_hrf (cl_hro L xs) hL jx_ok (by decide +kernel)
def k_mr_2_3 : ct_C := ([(2, .ofNat 53, .ofNat 53)], [(53, 14, .ofNat 2, .ofNat 2), (53, 15, .ofNat 1, .ofNat 38), (62, 2, .ofNat 7, .ofNat 7), (63, 2, .ofNat 0, .ofNat 0), (65, 2, .ofNat 0, .ofNat 29)], [(53, 13, .ofNat 0, .ofNat 29), (53, 14, .ofNat 3, .ofNat 3), (53, 15, .ofNat 0, .ofNat 37)], [], (some (0, .ofNat 0, .ofNat 37)), 2, false)
theorem c_mr_2_3 (hL : L < 2 ^ 31) : ci L xs 162 k_mr_2_3 :=
  mi_ok (fc := 9000) (f := 9000) (cuts := []) (xk := jx) cl_lok cl_hrf (cl_hro L xs) hL jx_ok (by decide +kernel)
def k_mr_2 : ct_C := ([(2, .ofNat 53, .ofNat 53)], [(53, 14, .ofNat 2, .ofNat 2)], [(53, 13, .ofNat 0, .ofNat 29), (53, 14, .ofNat 0, .ofNat 40), (53, 15, .ofNat 0, .ofNat 40)], [54, 55, 56, 57, 58, 60, 61], (some (0, .negSucc 4, .ofNat 37)), 2, false)
theorem s_mr_2 (M : Nat → Nat → Int) (hm : sx_mok cl_ly M) (hJ : JJ M) (hg : ct_g k_mr_2.2.1 M) : ∃ m ∈ [k_mr_2_e, k_mr_2_0, k_mr_2_1, k_mr_2_2, k_mr_2_3], ct_g m.2.1 M := by
  have hv : M 53 14 = 2 := by
    have h := hg (53, 14, .ofNat 2, .ofNat 2) List.mem_cons_self
    exact Int.le_antisymm h.2 h.1
  have hk := jr_kn hm
  have hu := jr_un hm
  have hd := hJ.2.2.1
  have he := hJ.2.2.2
  by_cases h0 : M 53 15 = 0
  · exact ⟨k_mr_2_e, List.mem_cons_self, (jc (by show (2 : Int) ≤ M 53 14; omega) (by show M 53 14 ≤ (2 : Int); omega) (jc (by show (0 : Int) ≤ M 53 15; omega) (by show M 53 15 ≤ (0 : Int); omega) jn))⟩
  · have h8 : jp (M 62 2) (M 63 2) (M 64 2) (M 65 2) := hJ.2.1 2 (by decide)
    obtain ⟨⟨b1, b2, b3, b4⟩, h8⟩ := h8
    rcases h8 with h8 | h8 | h8 | h8
    · exact ⟨k_mr_2_0, (List.mem_cons_of_mem _ List.mem_cons_self), (jc (by show (2 : Int) ≤ M 53 14; omega) (by show M 53 14 ≤ (2 : Int); omega) (jc (by show (1 : Int) ≤ M 53 15; omega) (by show M 53 15 ≤ (38 : Int); omega) (jc (by show (0 : Int) ≤ M 62 2; omega) (by show M 62 2 ≤ (4 : Int); omega) (jc (by show (0 : Int) ≤ M 63 2; omega) (by show M 63 2 ≤ (5 : Int); omega) (jc (by show (-1 : Int) ≤ M 65 2; omega) (by show M 65 2 ≤ (143 : Int); omega) jn)))))⟩
    · exact ⟨k_mr_2_1, (List.mem_cons_of_mem _ (List.mem_cons_of_mem _ List.mem_cons_self)), (jc (by show (2 : Int) ≤ M 53 14; omega) (by show M 53 14 ≤ (2 : Int); omega) (jc (by show (1 : Int) ≤ M 53 15; omega) (by show M 53 15 ≤ (38 : Int); omega) (jc (by show (5 : Int) ≤ M 62 2; omega) (by show M 62 2 ≤ (5 : Int); omega) (jc (by show (0 : Int) ≤ M 63 2; omega) (by show M 63 2 ≤ (29 : Int); omega) (jc (by show (-1 : Int) ≤ M 65 2; omega) (by show M 65 2 ≤ (143 : Int); omega) jn)))))⟩
    · exact ⟨k_mr_2_2, (List.mem_cons_of_mem _ (List.mem_cons_of_mem _ (List.mem_cons_of_mem _ List.mem_cons_self))), (jc (by show (2 : Int) ≤ M 53 14; omega) (by show M 53 14 ≤ (2 : Int); omega) (jc (by show (1 : Int) ≤ M 53 15; omega) (by show M 53 15 ≤ (38 : Int); omega) (jc (by show (6 : Int) ≤ M 62 2; omega) (by show M 62 2 ≤ (6 : Int); omega) (jc (by show (0 : Int) ≤ M 63 2; omega) (by show M 63 2 ≤ (11 : Int); omega) (jc (by show (-1 : Int) ≤ M 65 2; omega) (by show M 65 2 ≤ (143 : Int); omega) jn)))))⟩
    · exact ⟨k_mr_2_3, (List.mem_cons_of_mem _ (List.mem_cons_of_mem _ (List.mem_cons_of_mem _ (List.mem_cons_of_mem _ List.mem_cons_self)))), (jc (by show (2 : Int) ≤ M 53 14; omega) (by show M 53 14 ≤ (2 : Int); omega) (jc (by show (1 : Int) ≤ M 53 15; omega) (by show M 53 15 ≤ (38 : Int); omega) (jc (by show (7 : Int) ≤ M 62 2; omega) (by show M 62 2 ≤ (7 : Int); omega) (jc (by show (0 : Int) ≤ M 63 2; omega) (by show M 63 2 ≤ (0 : Int); omega) (jc (by show (0 : Int) ≤ M 65 2; omega) (by show M 65 2 ≤ (29 : Int); omega) jn)))))⟩
theorem c_mr_2 (hL : L < 2 ^ 31) : ci L xs 162 k_mr_2 :=
  ci_j_ok (ms := [k_mr_2_e, k_mr_2_0, k_mr_2_1, k_mr_2_2, k_mr_2_3]) (jl_cons (c_mr_2_e hL) (jl_cons (c_mr_2_0 hL) (jl_cons (c_mr_2_1 hL) (jl_cons (c_mr_2_2 hL) (jl_cons (c_mr_2_3 hL) jl_nil))))) s_mr_2 (by decide +kernel)
def k_mr_3_e : ct_C := ([(2, .ofNat 53, .ofNat 53)], [(53, 14, .ofNat 3, .ofNat 3), (53, 15, .ofNat 0, .ofNat 0)], [], [], (some (0, .negSucc 4, .negSucc 4)), 1, false)
theorem c_mr_3_e (hL : L < 2 ^ 31) : ci L xs 162 k_mr_3_e :=
  mi_ok (fc := 9000) (f := 9000) (cuts := []) (xk := jx) cl_lok cl_hrf (cl_hro L xs) hL jx_ok (by decide +kernel)
def k_mr_3_0 : ct_C := ([(2, .ofNat 53, .ofNat 53)], [(53, 14, .ofNat 3, .ofNat 3), (53, 15, .ofNat 1, .ofNat 37), (62, 3, .ofNat 0, .ofNat 4), (63, 3, .ofNat 0, .ofNat 5), (65, 3, .negSucc 0, .ofNat 143)], [(53, 14, .ofNat 4, .ofNat 4), (53, 15, .ofNat 0, .ofNat 36)], [54, 55, 56, 57, 58], (some (0, .ofNat 0, .ofNat 36)), 2, false)
theorem c_mr_3_0 (hL : L < 2 ^ 31) : ci L xs 162 k_mr_3_0 :=
  mi_ok (fc := 9000) (f := 9000) (cuts := []) (xk := jx) cl_lok cl_hrf (cl_hro L xs) hL jx_ok (by decide +kernel)
def k_mr_3_1 : ct_C := ([(2, .ofNat 53, .ofNat 53)], [(53, 14, .ofNat 3, .ofNat 3), (53, 15, .ofNat 1, .ofNat 37), (62, 3, .ofNat 5, .ofNat 5), (63, 3, .ofNat 0, .ofNat 29), (65, 3, .negSucc 0, .ofNat 143)], [(53, 14, .ofNat 4, .ofNat 4), (53, 15, .ofNat 0, .ofNat 36)], [61], (some (0, .ofNat 0, .ofNat 36)), 2, false)
theorem c_mr_3_1 (hL : L < 2 ^ 31) : ci L xs 162 k_mr_3_1 :=
  mi_ok (fc := 9000) (f := 9000) (cuts := []) (xk := jx) cl_lok cl_hrf (cl_hro L xs) hL jx_ok (by decide +kernel)
def k_mr_3_2 : ct_C := ([(2, .ofNat 53, .ofNat 53)], [(53, 14, .ofNat 3, .ofNat 3), (53, 15, .ofNat 1, .ofNat 37), (62, 3, .ofNat 6, .ofNat 6), (63, 3, .ofNat 0, .ofNat 11), (65, 3, .negSucc 0, .ofNat 143)], [(53, 14, .ofNat 4, .ofNat 4), (53, 15, .ofNat 0, .ofNat 36)], [60], (some (0, .ofNat 0, .ofNat 36)), 2, false)
theorem c_mr_3_2 (hL : L < 2 ^ 31) : ci L xs 162 k_mr_3_2 :=
  mi_ok (fc := 9000) (f := 9000) (cuts := []) (xk := jx) cl_lok cl_hrf (cl_hro L xs) hL jx_ok (by decide +kernel)
def k_mr_3_3 : ct_C := ([(2, .ofNat 53, .ofNat 53)], [(53, 14, .ofNat 3, .ofNat 3), (53, 15, .ofNat 1, .ofNat 37), (62, 3, .ofNat 7, .ofNat 7), (63, 3, .ofNat 0, .ofNat 0), (65, 3, .ofNat 0, .ofNat 29)], [(53, 13, .ofNat 0, .ofNat 29), (53, 14, .ofNat 4, .ofNat 4), (53, 15, .ofNat 0, .ofNat 36)], [], (some (0, .ofNat 0, .ofNat 36)), 2, false)
theorem c_mr_3_3 (hL : L < 2 ^ 31) : ci L xs 162 k_mr_3_3 :=
  mi_ok (fc := 9000) (f := 9000) (cuts := []) (xk := jx) cl_lok cl_hrf (cl_hro L xs) hL jx_ok (by decide +kernel)
def k_mr_3 : ct_C := ([(2, .ofNat 53, .ofNat 53)], [(53, 14, .ofNat 3, .ofNat 3)], [(53, 13, .ofNat 0, .ofNat 29), (53, 14, .ofNat 0, .ofNat 40), (53, 15, .ofNat 0, .ofNat 40)], [54, 55, 56, 57, 58, 60, 61], (some (0, .negSucc 4, .ofNat 36)), 2, false)
theorem s_mr_3 (M : Nat → Nat → Int) (hm : sx_mok cl_ly M) (hJ : JJ M) (hg : ct_g k_mr_3.2.1 M) : ∃ m ∈ [k_mr_3_e, k_mr_3_0, k_mr_3_1, k_mr_3_2, k_mr_3_3], ct_g m.2.1 M := by
  have hv : M 53 14 = 3 := by
    have h := hg (53, 14, .ofNat 3, .ofNat 3) List.mem_cons_self
    exact Int.le_antisymm h.2 h.1
  have hk := jr_kn hm
  have hu := jr_un hm
  have hd := hJ.2.2.1
  have he := hJ.2.2.2
  by_cases h0 : M 53 15 = 0
  · exact ⟨k_mr_3_e, List.mem_cons_self, (jc (by show (3 : Int) ≤ M 53 14; omega) (by show M 53 14 ≤ (3 : Int); omega) (jc (by show (0 : Int) ≤ M 53 15; omega) (by show M 53 15 ≤ (0 : Int); omega) jn))⟩
  · have h8 : jp (M 62 3) (M 63 3) (M 64 3) (M 65 3) := hJ.2.1 3 (by decide)
    obtain ⟨⟨b1, b2, b3, b4⟩, h8⟩ := h8
    rcases h8 with h8 | h8 | h8 | h8
    · exact ⟨k_mr_3_0, (List.mem_cons_of_mem _ List.mem_cons_self), (jc (by show (3 : Int) ≤ M 53 14; omega) (by show M 53 14 ≤ (3 : Int); omega) (jc (by show (1 : Int) ≤ M 53 15; omega) (by show M 53 15 ≤ (37 : Int); omega) (jc (by show (0 : Int) ≤ M 62 3; omega) (by show M 62 3 ≤ (4 : Int); omega) (jc (by show (0 : Int) ≤ M 63 3; omega) (by show M 63 3 ≤ (5 : Int); omega) (jc (by show (-1 : Int) ≤ M 65 3; omega) (by show M 65 3 ≤ (143 : Int); omega) jn)))))⟩
    · exact ⟨k_mr_3_1, (List.mem_cons_of_mem _ (List.mem_cons_of_mem _ List.mem_cons_self)), (jc (by show (3 : Int) ≤ M 53 14; omega) (by show M 53 14 ≤ (3 : Int); omega) (jc (by show (1 : Int) ≤ M 53 15; omega) (by show M 53 15 ≤ (37 : Int); omega) (jc (by show (5 : Int) ≤ M 62 3; omega) (by show M 62 3 ≤ (5 : Int); omega) (jc (by show (0 : Int) ≤ M 63 3; omega) (by show M 63 3 ≤ (29 : Int); omega) (jc (by show (-1 : Int) ≤ M 65 3; omega) (by show M 65 3 ≤ (143 : Int); omega) jn)))))⟩
    · exact ⟨k_mr_3_2, (List.mem_cons_of_mem _ (List.mem_cons_of_mem _ (List.mem_cons_of_mem _ List.mem_cons_self))), (jc (by show (3 : Int) ≤ M 53 14; omega) (by show M 53 14 ≤ (3 : Int); omega) (jc (by show (1 : Int) ≤ M 53 15; omega) (by show M 53 15 ≤ (37 : Int); omega) (jc (by show (6 : Int) ≤ M 62 3; omega) (by show M 62 3 ≤ (6 : Int); omega) (jc (by show (0 : Int) ≤ M 63 3; omega) (by show M 63 3 ≤ (11 : Int); omega) (jc (by show (-1 : Int) ≤ M 65 3; omega) (by show M 65 3 ≤ (143 : Int); omega) jn)))))⟩
    · exact ⟨k_mr_3_3, (List.mem_cons_of_mem _ (List.mem_cons_of_mem _ (List.mem_cons_of_mem _ (List.mem_cons_of_mem _ List.mem_cons_self)))), (jc (by show (3 : Int) ≤ M 53 14; omega) (by show M 53 14 ≤ (3 : Int); omega) (jc (by show (1 : Int) ≤ M 53 15; omega) (by show M 53 15 ≤ (37 : Int); omega) (jc (by show (7 : Int) ≤ M 62 3; omega) (by show M 62 3 ≤ (7 : Int); omega) (jc (by show (0 : Int) ≤ M 63 3; omega) (by show M 63 3 ≤ (0 : Int); omega) (jc (by show (0 : Int) ≤ M 65 3; omega) (by show M 65 3 ≤ (29 : Int); omega) jn)))))⟩
theorem c_mr_3 (hL : L < 2 ^ 31) : ci L xs 162 k_mr_3 :=
  ci_j_ok (ms := [k_mr_3_e, k_mr_3_0, k_mr_3_1, k_mr_3_2, k_mr_3_3]) (jl_cons (c_mr_3_e hL) (jl_cons (c_mr_3_0 hL) (jl_cons (c_mr_3_1 hL) (jl_cons (c_mr_3_2 hL) (jl_cons (c_mr_3_3 hL) jl_nil))))) s_mr_3 (by decide +kernel)
def k_mr_4_e : ct_C := ([(2, .ofNat 53, .ofNat 53)], [(53, 14, .ofNat 4, .ofNat 4), (53, 15, .ofNat 0, .ofNat 0)], [], [], (some (0, .negSucc 4, .negSucc 4)), 1, false)
theorem c_mr_4_e (hL : L < 2 ^ 31) : ci L xs 162 k_mr_4_e :=
  mi_ok (fc := 9000) (f := 9000) (cuts := []) (xk := jx) cl_lok cl_hrf (cl_hro L xs) hL jx_ok (by decide +kernel)
def k_mr_4_0 : ct_C := ([(2, .ofNat 53, .ofNat 53)], [(53, 14, .ofNat 4, .ofNat 4), (53, 15, .ofNat 1, .ofNat 36), (62, 4, .ofNat 0, .ofNat 4), (63, 4, .ofNat 0, .ofNat 5), (65, 4, .negSucc 0, .ofNat 143)], [(53, 14, .ofNat 5, .ofNat 5), (53, 15, .ofNat 0, .ofNat 35)], [54, 55, 56, 57, 58], (some (0, .ofNat 0, .ofNat 35)), 2, false)
theorem c_mr_4_0 (hL : L < 2 ^ 31) : ci L xs 162 k_mr_4_0 :=
  mi_ok (fc := 9000) (f := 9000) (cuts := []) (xk := jx) cl_lok cl_hrf (cl_hro L xs) hL jx_ok (by decide +kernel)
def k_mr_4_1 : ct_C := ([(2, .ofNat 53, .ofNat 53)], [(53, 14, .ofNat 4, .ofNat 4), (53, 15, .ofNat 1, .ofNat 36), (62, 4, .ofNat 5, .ofNat 5), (63, 4, .ofNat 0, .ofNat 29), (65, 4, .negSucc 0, .ofNat 143)], [(53, 14, .ofNat 5, .ofNat 5), (53, 15, .ofNat 0, .ofNat 35)], [61], (some (0, .ofNat 0, .ofNat 35)), 2, false)
theorem c_mr_4_1 (hL : L < 2 ^ 31) : ci L xs 162 k_mr_4_1 :=
  mi_ok (fc := 9000) (f := 9000) (cuts := []) (xk := jx) cl_lok cl_hrf (cl_hro L xs) hL jx_ok (by decide +kernel)
def k_mr_4_2 : ct_C := ([(2, .ofNat 53, .ofNat 53)], [(53, 14, .ofNat 4, .ofNat 4), (53, 15, .ofNat 1, .ofNat 36), (62, 4, .ofNat 6, .ofNat 6), (63, 4, .ofNat 0, .ofNat 11), (65, 4, .negSucc 0, .ofNat 143)], [(53, 14, .ofNat 5, .ofNat 5), (53, 15, .ofNat 0, .ofNat 35)], [60], (some (0, .ofNat 0, .ofNat 35)), 2, false)
theorem c_mr_4_2 (hL : L < 2 ^ 31) : ci L xs 162 k_mr_4_2 :=
  mi_ok (fc := 9000) (f := 9000) (cuts := []) (xk := jx) cl_lok cl_hrf (cl_hro L xs) hL jx_ok (by decide +kernel)
def k_mr_4_3 : ct_C := ([(2, .ofNat 53, .ofNat 53)], [(53, 14, .ofNat 4, .ofNat 4), (53, 15, .ofNat 1, .ofNat 36), (62, 4, .ofNat 7, .ofNat 7), (63, 4, .ofNat 0, .ofNat 0), (65, 4, .ofNat 0, .ofNat 29)], [(53, 13, .ofNat 0, .ofNat 29), (53, 14, .ofNat 5, .ofNat 5), (53, 15, .ofNat 0, .ofNat 35)], [], (some (0, .ofNat 0, .ofNat 35)), 2, false)
theorem c_mr_4_3 (hL : L < 2 ^ 31) : ci L xs 162 k_mr_4_3 :=
  mi_ok (fc := 9000) (f := 9000) (cuts := []) (xk := jx) cl_lok cl_hrf (cl_hro L xs) hL jx_ok (by decide +kernel)
def k_mr_4 : ct_C := ([(2, .ofNat 53, .ofNat 53)], [(53, 14, .ofNat 4, .ofNat 4)], [(53, 13, .ofNat 0, .ofNat 29), (53, 14, .ofNat 0, .ofNat 40), (53, 15, .ofNat 0, .ofNat 40)], [54, 55, 56, 57, 58, 60, 61], (some (0, .negSucc 4, .ofNat 35)), 2, false)
theorem s_mr_4 (M : Nat → Nat → Int) (hm : sx_mok cl_ly M) (hJ : JJ M) (hg : ct_g k_mr_4.2.1 M) : ∃ m ∈ [k_mr_4_e, k_mr_4_0, k_mr_4_1, k_mr_4_2, k_mr_4_3], ct_g m.2.1 M := by
  have hv : M 53 14 = 4 := by
    have h := hg (53, 14, .ofNat 4, .ofNat 4) List.mem_cons_self
    exact Int.le_antisymm h.2 h.1
  have hk := jr_kn hm
  have hu := jr_un hm
  have hd := hJ.2.2.1
  have he := hJ.2.2.2
  by_cases h0 : M 53 15 = 0
  · exact ⟨k_mr_4_e, List.mem_cons_self, (jc (by show (4 : Int) ≤ M 53 14; omega) (by show M 53 14 ≤ (4 : Int); omega) (jc (by show (0 : Int) ≤ M 53 15; omega) (by show M 53 15 ≤ (0 : Int); omega) jn))⟩
  · have h8 : jp (M 62 4) (M 63 4) (M 64 4) (M 65 4) := hJ.2.1 4 (by decide)
    obtain ⟨⟨b1, b2, b3, b4⟩, h8⟩ := h8
    rcases h8 with h8 | h8 | h8 | h8
    · exact ⟨k_mr_4_0, (List.mem_cons_of_mem _ List.mem_cons_self), (jc (by show (4 : Int) ≤ M 53 14; omega) (by show M 53 14 ≤ (4 : Int); omega) (jc (by show (1 : Int) ≤ M 53 15; omega) (by show M 53 15 ≤ (36 : Int); omega) (jc (by show (0 : Int) ≤ M 62 4; omega) (by show M 62 4 ≤ (4 : Int); omega) (jc (by show (0 : Int) ≤ M 63 4; omega) (by show M 63 4 ≤ (5 : Int); omega) (jc (by show (-1 : Int) ≤ M 65 4; omega) (by show M 65 4 ≤ (143 : Int); omega) jn)))))⟩
    · exact ⟨k_mr_4_1, (List.mem_cons_of_mem _ (List.mem_cons_of_mem _ List.mem_cons_self)), (jc (by show (4 : Int) ≤ M 53 14; omega) (by show M 53 14 ≤ (4 : Int); omega) (jc (by show (1 : Int) ≤ M 53 15; omega) (by show M 53 15 ≤ (36 : Int); omega) (jc (by show (5 : Int) ≤ M 62 4; omega) (by show M 62 4 ≤ (5 : Int); omega) (jc (by show (0 : Int) ≤ M 63 4; omega) (by show M 63 4 ≤ (29 : Int); omega) (jc (by show (-1 : Int) ≤ M 65 4; omega) (by show M 65 4 ≤ (143 : Int); omega) jn)))))⟩
    · exact ⟨k_mr_4_2, (List.mem_cons_of_mem _ (List.mem_cons_of_mem _ (List.mem_cons_of_mem _ List.mem_cons_self))), (jc (by show (4 : Int) ≤ M 53 14; omega) (by show M 53 14 ≤ (4 : Int); omega) (jc (by show (1 : Int) ≤ M 53 15; omega) (by show M 53 15 ≤ (36 : Int); omega) (jc (by show (6 : Int) ≤ M 62 4; omega) (by show M 62 4 ≤ (6 : Int); omega) (jc (by show (0 : Int) ≤ M 63 4; omega) (by show M 63 4 ≤ (11 : Int); omega) (jc (by show (-1 : Int) ≤ M 65 4; omega) (by show M 65 4 ≤ (143 : Int); omega) jn)))))⟩
    · exact ⟨k_mr_4_3, (List.mem_cons_of_mem _ (List.mem_cons_of_mem _ (List.mem_cons_of_mem _ (List.mem_cons_of_mem _ List.mem_cons_self)))), (jc (by show (4 : Int) ≤ M 53 14; omega) (by show M 53 14 ≤ (4 : Int); omega) (jc (by show (1 : Int) ≤ M 53 15; omega) (by show M 53 15 ≤ (36 : Int); omega) (jc (by show (7 : Int) ≤ M 62 4; omega) (by show M 62 4 ≤ (7 : Int); omega) (jc (by show (0 : Int) ≤ M 63 4; omega) (by show M 63 4 ≤ (0 : Int); omega) (jc (by show (0 : Int) ≤ M 65 4; omega) (by show M 65 4 ≤ (29 : Int); omega) jn)))))⟩
theorem c_mr_4 (hL : L < 2 ^ 31) : ci L xs 162 k_mr_4 :=
  ci_j_ok (ms := [k_mr_4_e, k_mr_4_0, k_mr_4_1, k_mr_4_2, k_mr_4_3]) (jl_cons (c_mr_4_e hL) (jl_cons (c_mr_4_0 hL) (jl_cons (c_mr_4_1 hL) (jl_cons (c_mr_4_2 hL) (jl_cons (c_mr_4_3 hL) jl_nil))))) s_mr_4 (by decide +kernel)
def k_mr_5_e : ct_C := ([(2, .ofNat 53, .ofNat 53)], [(53, 14, .ofNat 5, .ofNat 5), (53, 15, .ofNat 0, .ofNat 0)], [], [], (some (0, .negSucc 4, .negSucc 4)), 1, false)
theorem c_mr_5_e (hL : L < 2 ^ 31) : ci L xs 162 k_mr_5_e :=
  mi_ok (fc := 9000) (f := 9000) (cuts := []) (xk := jx) cl_lok cl_hrf (cl_hro L xs) hL jx_ok (by decide +kernel)
def k_mr_5_0 : ct_C := ([(2, .ofNat 53, .ofNat 53)], [(53, 14, .ofNat 5, .ofNat 5), (53, 15, .ofNat 1, .ofNat 35), (62, 5, .ofNat 0, .ofNat 4), (63, 5, .ofNat 0, .ofNat 5), (65, 5, .negSucc 0, .ofNat 143)], [(53, 14, .ofNat 6, .ofNat 6), (53, 15, .ofNat 0, .ofNat 34)], [54, 55, 56, 57, 58], (some (0, .ofNat 0, .ofNat 34)), 2, false)
theorem c_mr_5_0 (hL : L < 2 ^ 31) : ci L xs 162 k_mr_5_0 :=
  mi_ok (fc := 9000) (f := 9000) (cuts := []) (xk := jx) cl_lok cl_hrf (cl_hro L xs) hL jx_ok (by decide +kernel)
def k_mr_5_1 : ct_C := ([(2, .ofNat 53, .ofNat 53)], [(53, 14, .ofNat 5, .ofNat 5), (53, 15, .ofNat 1, .ofNat 35), (62, 5, .ofNat 5, .ofNat 5), (63, 5, .ofNat 0, .ofNat 29), (65, 5, .negSucc 0, .ofNat 143)], [(53, 14, .ofNat 6, .ofNat 6), (53, 15, .ofNat 0, .ofNat 34)], [61], (some (0, .ofNat 0, .ofNat 34)), 2, false)
theorem c_mr_5_1 (hL : L < 2 ^ 31) : ci L xs 162 k_mr_5_1 :=
  mi_ok (fc := 9000) (f := 9000) (cuts := []) (xk := jx) cl_lok cl_hrf (cl_hro L xs) hL jx_ok (by decide +kernel)
def k_mr_5_2 : ct_C := ([(2, .ofNat 53, .ofNat 53)], [(53, 14, .ofNat 5, .ofNat 5), (53, 15, .ofNat 1, .ofNat 35), (62, 5, .ofNat 6, .ofNat 6), (63, 5, .ofNat 0, .ofNat 11), (65, 5, .negSucc 0, .ofNat 143)], [(53, 14, .ofNat 6, .ofNat 6), (53, 15, .ofNat 0, .ofNat 34)], [60], (some (0, .ofNat 0, .ofNat 34)), 2, false)
theorem c_mr_5_2 (hL : L < 2 ^ 31) : ci L xs 162 k_mr_5_2 :=
  mi_ok (fc := 9000) (f := 9000) (cuts := []) (xk := jx) cl_lok cl_hrf (cl_hro L xs) hL jx_ok (by decide +kernel)
def k_mr_5_3 : ct_C := ([(2, .ofNat 53, .ofNat 53)], [(53, 14, .ofNat 5, .ofNat 5), (53, 15, .ofNat 1, .ofNat 35), (62, 5, .ofNat 7, .ofNat 7), (63, 5, .ofNat 0, .ofNat 0), (65, 5, .ofNat 0, .ofNat 29)], [(53, 13, .ofNat 0, .ofNat 29), (53, 14, .ofNat 6, .ofNat 6), (53, 15, .ofNat 0, .ofNat 34)], [], (some (0, .ofNat 0, .ofNat 34)), 2, false)
theorem c_mr_5_3 (hL : L < 2 ^ 31) : ci L xs 162 k_mr_5_3 :=
  mi_ok (fc := 9000) (f := 9000) (cuts := []) (xk := jx) cl_lok cl_hrf (cl_hro L xs) hL jx_ok (by decide +kernel)
end
