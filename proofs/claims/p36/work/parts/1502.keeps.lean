/-! mend, undo, redo, 2. -/
section
variable {L : Nat} {xs : Nat → Int32}
def k_xu_24 : ct_C := ([(2, .ofNat 8, .ofNat 8)], [(10, 210, .ofNat 0, .ofNat 29), (32, 1, .ofNat 24, .ofNat 24)], [(10, 210, .ofNat 0, .ofNat 29), (32, 1, .ofNat 0, .ofNat 40)], [10], (some (0, .ofNat 23, .ofNat 23)), 3, false)
theorem s_xu_24 (M : Nat → Nat → Int) (hm : sx_mok cl_ly M) (hJ : JJ M) (hg : ct_g k_xu_24.2.1 M) : ∃ m ∈ [k_xu_24_0, k_xu_24_1, k_xu_24_2, k_xu_24_3], ct_g m.2.1 M := by
  have hv : M 32 1 = 24 := by
    have h := hg (32, 1, .ofNat 24, .ofNat 24) (List.mem_cons_of_mem _ List.mem_cons_self)
    exact Int.le_antisymm h.2 h.1
  have hk := jr_kn hm
  have hu := jr_un hm
  have hd := hJ.2.2.1
  have he := hJ.2.2.2
  have h8 : jp (M 33 92) (M 33 93) (M 33 94) (M 33 95) := hJ.1 23 (by decide)
  obtain ⟨⟨b1, b2, b3, b4⟩, h8⟩ := h8
  rcases h8 with h8 | h8 | h8 | h8
  · exact ⟨k_xu_24_0, List.mem_cons_self, (jh (hg (10, 210, .ofNat 0, .ofNat 29) List.mem_cons_self) (jc (by show (24 : Int) ≤ M 32 1; omega) (by show M 32 1 ≤ (24 : Int); omega) (jc (by show (24 : Int) ≤ M 32 2; omega) (by show M 32 2 ≤ (40 : Int); omega) (jc (by show (0 : Int) ≤ M 33 92; omega) (by show M 33 92 ≤ (4 : Int); omega) (jc (by show (0 : Int) ≤ M 33 93; omega) (by show M 33 93 ≤ (5 : Int); omega) (jc (by show (-1 : Int) ≤ M 33 94; omega) (by show M 33 94 ≤ (143 : Int); omega) jn))))))⟩
  · exact ⟨k_xu_24_1, (List.mem_cons_of_mem _ List.mem_cons_self), (jh (hg (10, 210, .ofNat 0, .ofNat 29) List.mem_cons_self) (jc (by show (24 : Int) ≤ M 32 1; omega) (by show M 32 1 ≤ (24 : Int); omega) (jc (by show (24 : Int) ≤ M 32 2; omega) (by show M 32 2 ≤ (40 : Int); omega) (jc (by show (5 : Int) ≤ M 33 92; omega) (by show M 33 92 ≤ (5 : Int); omega) (jc (by show (0 : Int) ≤ M 33 93; omega) (by show M 33 93 ≤ (29 : Int); omega) (jc (by show (-1 : Int) ≤ M 33 94; omega) (by show M 33 94 ≤ (143 : Int); omega) jn))))))⟩
  · exact ⟨k_xu_24_2, (List.mem_cons_of_mem _ (List.mem_cons_of_mem _ List.mem_cons_self)), (jh (hg (10, 210, .ofNat 0, .ofNat 29) List.mem_cons_self) (jc (by show (24 : Int) ≤ M 32 1; omega) (by show M 32 1 ≤ (24 : Int); omega) (jc (by show (24 : Int) ≤ M 32 2; omega) (by show M 32 2 ≤ (40 : Int); omega) (jc (by show (6 : Int) ≤ M 33 92; omega) (by show M 33 92 ≤ (6 : Int); omega) (jc (by show (0 : Int) ≤ M 33 93; omega) (by show M 33 93 ≤ (11 : Int); omega) (jc (by show (-1 : Int) ≤ M 33 94; omega) (by show M 33 94 ≤ (143 : Int); omega) jn))))))⟩
  · exact ⟨k_xu_24_3, (List.mem_cons_of_mem _ (List.mem_cons_of_mem _ (List.mem_cons_of_mem _ List.mem_cons_self))), (jh (hg (10, 210, .ofNat 0, .ofNat 29) List.mem_cons_self) (jc (by show (24 : Int) ≤ M 32 1; omega) (by show M 32 1 ≤ (24 : Int); omega) (jc (by show (24 : Int) ≤ M 32 2; omega) (by show M 32 2 ≤ (40 : Int); omega) (jc (by show (7 : Int) ≤ M 33 92; omega) (by show M 33 92 ≤ (7 : Int); omega) (jc (by show (0 : Int) ≤ M 33 93; omega) (by show M 33 93 ≤ (0 : Int); omega) (jc (by show (0 : Int) ≤ M 33 94; omega) (by show M 33 94 ≤ (29 : Int); omega) jn))))))⟩
theorem c_xu_24 (hL : L < 2 ^ 31) : ci L xs 121 k_xu_24 :=
  ci_j_ok (ms := [k_xu_24_0, k_xu_24_1, k_xu_24_2, k_xu_24_3]) (jl_cons (c_xu_24_0 hL) (jl_cons (c_xu_24_1 hL) (jl_cons (c_xu_24_2 hL) (jl_cons (c_xu_24_3 hL) jl_nil)))) s_xu_24 (by decide +kernel)
def k_xu_25_0 : ct_C := ([(2, .ofNat 8, .ofNat 8)], [(10, 210, .ofNat 0, .ofNat 29), (32, 1, .ofNat 25, .ofNat 25), (32, 2, .ofNat 25, .ofNat 40), (33, 96, .ofNat 0, .ofNat 4), (33, 97, .ofNat 0, .ofNat 5), (33, 98, .negSucc 0, .ofNat 143)], [(10, 210, .ofNat 0, .ofNat 29), (32, 1, .ofNat 24, .ofNat 24)], [10], (some (0, .ofNat 24, .ofNat 24)), 3, false)
theorem c_xu_25_0 (hL : L < 2 ^ 31) : ci L xs 121 k_xu_25_0 :=
  mi_ok (fc := 9000) (f := 9000) (cuts := []) (xk := jx) cl_lok cl_hrf (cl_hro L xs) hL jx_ok (by decide +kernel)
def k_xu_25_1 : ct_C := ([(2, .ofNat 8, .ofNat 8)], [(10, 210, .ofNat 0, .ofNat 29), (32, 1, .ofNat 25, .ofNat 25), (32, 2, .ofNat 25, .ofNat 40), (33, 96, .ofNat 5, .ofNat 5), (33, 97, .ofNat 0, .ofNat 29), (33, 98, .negSucc 0, .ofNat 143)], [(10, 210, .ofNat 0, .ofNat 29), (32, 1, .ofNat 24, .ofNat 24)], [10], (some (0, .ofNat 24, .ofNat 24)), 3, false)
theorem c_xu_25_1 (hL : L < 2 ^ 31) : ci L xs 121 k_xu_25_1 :=
  mi_ok (fc := 9000) (f := 9000) (cuts := []) (xk := jx) cl_lok cl_hrf (cl_hro L xs) hL jx_ok (by decide +kernel)
def k_xu_25_2 : ct_C := ([(2, .ofNat 8, .ofNat 8)], [(10, 210, .ofNat 0, .ofNat 29), (32, 1, .ofNat 25, .ofNat 25), (32, 2, .ofNat 25, .ofNat 40), (33, 96, .ofNat 6, .ofNat 6), (33, 97, .ofNat 0, .ofNat 11), (33, 98, .negSucc 0, .ofNat 143)], [(10, 210, .ofNat 0, .ofNat 29), (32, 1, .ofNat 24, .ofNat 24)], [10], (some (0, .ofNat 24, .ofNat 24)), 3, false)
theorem c_xu_25_2 (hL : L < 2 ^ 31) : ci L xs 121 k_xu_25_2 :=
  mi_ok (fc := 9000) (f := 9000) (cuts := []) (xk := jx) cl_lok cl_hrf (cl_hro L xs) hL jx_ok (by decide +kernel)
def k_xu_25_3 : ct_C := ([(2, .ofNat 8, .ofNat 8)], [(10, 210, .ofNat 0, .ofNat 29), (32, 1, .ofNat 25, .ofNat 25), (32, 2, .ofNat 25, .ofNat 40), (33, 96, .ofNat 7, .ofNat 7), (33, 97, .ofNat 0, .ofNat 0), (33, 98, .ofNat 0, .ofNat 29)], [(10, 210, .ofNat 0, .ofNat 29), (32, 1, .ofNat 24, .ofNat 24)], [10], (some (0, .ofNat 24, .ofNat 24)), 3, false)
theorem c_xu_25_3 (hL : L < 2 ^ 31) : ci L xs 121 k_xu_25_3 :=
  mi_ok (fc := 9000) (f := 9000) (cuts := []) (xk := jx) cl_lok cl_hrf (cl_hro L xs) hL jx_ok (by decide +kernel)
def k_xu_25 : ct_C := ([(2, .ofNat 8, .ofNat 8)], [(10, 210, .ofNat 0, .ofNat 29), (32, 1, .ofNat 25, .ofNat 25)], [(10, 210, .ofNat 0, .ofNat 29), (32, 1, .ofNat 0, .ofNat 40)], [10], (some (0, .ofNat 24, .ofNat 24)), 3, false)
theorem s_xu_25 (M : Nat → Nat → Int) (hm : sx_mok cl_ly M) (hJ : JJ M) (hg : ct_g k_xu_25.2.1 M) : ∃ m ∈ [k_xu_25_0, k_xu_25_1, k_xu_25_2, k_xu_25_3], ct_g m.2.1 M := by
  have hv : M 32 1 = 25 := by
    have h := hg (32, 1, .ofNat 25, .ofNat 25) (List.mem_cons_of_mem _ List.mem_cons_self)
    exact Int.le_antisymm h.2 h.1
  have hk := jr_kn hm
  have hu := jr_un hm
  have hd := hJ.2.2.1
  have he := hJ.2.2.2
  have h8 : jp (M 33 96) (M 33 97) (M 33 98) (M 33 99) := hJ.1 24 (by decide)
  obtain ⟨⟨b1, b2, b3, b4⟩, h8⟩ := h8
  rcases h8 with h8 | h8 | h8 | h8
  · exact ⟨k_xu_25_0, List.mem_cons_self, (jh (hg (10, 210, .ofNat 0, .ofNat 29) List.mem_cons_self) (jc (by show (25 : Int) ≤ M 32 1; omega) (by show M 32 1 ≤ (25 : Int); omega) (jc (by show (25 : Int) ≤ M 32 2; omega) (by show M 32 2 ≤ (40 : Int); omega) (jc (by show (0 : Int) ≤ M 33 96; omega) (by show M 33 96 ≤ (4 : Int); omega) (jc (by show (0 : Int) ≤ M 33 97; omega) (by show M 33 97 ≤ (5 : Int); omega) (jc (by show (-1 : Int) ≤ M 33 98; omega) (by show M 33 98 ≤ (143 : Int); omega) jn))))))⟩
  · exact ⟨k_xu_25_1, (List.mem_cons_of_mem _ List.mem_cons_self), (jh (hg (10, 210, .ofNat 0, .ofNat 29) List.mem_cons_self) (jc (by show (25 : Int) ≤ M 32 1; omega) (by show M 32 1 ≤ (25 : Int); omega) (jc (by show (25 : Int) ≤ M 32 2; omega) (by show M 32 2 ≤ (40 : Int); omega) (jc (by show (5 : Int) ≤ M 33 96; omega) (by show M 33 96 ≤ (5 : Int); omega) (jc (by show (0 : Int) ≤ M 33 97; omega) (by show M 33 97 ≤ (29 : Int); omega) (jc (by show (-1 : Int) ≤ M 33 98; omega) (by show M 33 98 ≤ (143 : Int); omega) jn))))))⟩
  · exact ⟨k_xu_25_2, (List.mem_cons_of_mem _ (List.mem_cons_of_mem _ List.mem_cons_self)), (jh (hg (10, 210, .ofNat 0, .ofNat 29) List.mem_cons_self) (jc (by show (25 : Int) ≤ M 32 1; omega) (by show M 32 1 ≤ (25 : Int); omega) (jc (by show (25 : Int) ≤ M 32 2; omega) (by show M 32 2 ≤ (40 : Int); omega) (jc (by show (6 : Int) ≤ M 33 96; omega) (by show M 33 96 ≤ (6 : Int); omega) (jc (by show (0 : Int) ≤ M 33 97; omega) (by show M 33 97 ≤ (11 : Int); omega) (jc (by show (-1 : Int) ≤ M 33 98; omega) (by show M 33 98 ≤ (143 : Int); omega) jn))))))⟩
  · exact ⟨k_xu_25_3, (List.mem_cons_of_mem _ (List.mem_cons_of_mem _ (List.mem_cons_of_mem _ List.mem_cons_self))), (jh (hg (10, 210, .ofNat 0, .ofNat 29) List.mem_cons_self) (jc (by show (25 : Int) ≤ M 32 1; omega) (by show M 32 1 ≤ (25 : Int); omega) (jc (by show (25 : Int) ≤ M 32 2; omega) (by show M 32 2 ≤ (40 : Int); omega) (jc (by show (7 : Int) ≤ M 33 96; omega) (by show M 33 96 ≤ (7 : Int); omega) (jc (by show (0 : Int) ≤ M 33 97; omega) (by show M 33 97 ≤ (0 : Int); omega) (jc (by show (0 : Int) ≤ M 33 98; omega) (by show M 33 98 ≤ (29 : Int); omega) jn))))))⟩
theorem c_xu_25 (hL : L < 2 ^ 31) : ci L xs 121 k_xu_25 :=
  ci_j_ok (ms := [k_xu_25_0, k_xu_25_1, k_xu_25_2, k_xu_25_3]) (jl_cons (c_xu_25_0 hL) (jl_cons (c_xu_25_1 hL) (jl_cons (c_xu_25_2 hL) (jl_cons (c_xu_25_3 hL) jl_nil)))) s_xu_25 (by decide +kernel)
def k_xu_26_0 : ct_C := ([(2, .ofNat 8, .ofNat 8)], [(10, 210, .ofNat 0, .ofNat 29), (32, 1, .ofNat 26, .ofNat 26), (32, 2, .ofNat 26, .ofNat 40), (33, 100, .ofNat 0, .ofNat 4), (33, 101, .ofNat 0, .ofNat 5), (33, 102, .negSucc 0, .ofNat 143)], [(10, 210, .ofNat 0, .ofNat 29), (32, 1, .ofNat 25, .ofNat 25)], [10], (some (0, .ofNat 25, .ofNat 25)), 3, false)
theorem c_xu_26_0 (hL : L < 2 ^ 31) : ci L xs 121 k_xu_26_0 :=
  mi_ok (fc := 9000) (f := 9000) (cuts := []) (xk := jx) cl_lok cl_hrf (cl_hro L xs) hL jx_ok (by decide +kernel)
def k_xu_26_1 : ct_C := ([(2, .ofNat 8, .ofNat 8)], [(10, 210, .ofNat 0, .ofNat 29), (32, 1, .ofNat 26, .ofNat 26), (32, 2, .ofNat 26, .ofNat 40), (33, 100, .ofNat 5, .ofNat 5), (33, 101, .ofNat 0, .ofNat 29), (33, 102, .negSucc 0, .ofNat 143)], [(10, 210, .ofNat 0, .ofNat 29), (32, 1, .ofNat 25, .ofNat 25)], [10], (some (0, .ofNat 25, .ofNat 25)), 3, false)
theorem c_xu_26_1 (hL : L < 2 ^ 31) : ci L xs 121 k_xu_26_1 :=
  mi_ok (fc := 9000) (f := 9000) (cuts := []) (xk := jx) cl_lok cl_hrf (cl_hro L xs) hL jx_ok (by decide +kernel)
def k_xu_26_2 : ct_C := ([(2, .ofNat 8, .ofNat 8)], [(10, 210, .ofNat 0, .ofNat 29), (32, 1, .ofNat 26, .ofNat 26), (32, 2, .ofNat 26, .ofNat 40), (33, 100, .ofNat 6, .ofNat 6), (33, 101, .ofNat 0, .ofNat 11), (33, 102, .negSucc 0, .ofNat 143)], [(10, 210, .ofNat 0, .ofNat 29), (32, 1, .ofNat 25, .ofNat 25)], [10], (some (0, .ofNat 25, .ofNat 25)), 3, false)
theorem c_xu_26_2 (hL : L < 2 ^ 31) : ci L xs 121 k_xu_26_2 :=
  mi_ok (fc := 9000) (f := 9000) (cuts := []) (xk := jx) cl_lok cl_hrf (cl_hro L xs) hL jx_ok (by decide +kernel)
def k_xu_26_3 : ct_C := ([(2, .ofNat 8, .ofNat 8)], [(10, 210, .ofNat 0, .ofNat 29), (32, 1, .ofNat 26, .ofNat 26), (32, 2, .ofNat 26, .ofNat 40), (33, 100, .ofNat 7, .ofNat 7), (33, 101, .ofNat 0, .ofNat 0), (33, 102, .ofNat 0, .ofNat 29)], [(10, 210, .ofNat 0, .ofNat 29), (32, 1, .ofNat 25, .ofNat 25)], [10], (some (0, .ofNat 25, .ofNat 25)), 3, false)
theorem c_xu_26_3 (hL : L < 2 ^ 31) : ci L xs 121 k_xu_26_3 :=
  mi_ok (fc := 9000) (f := 9000) (cuts := []) (xk := jx) cl_lok cl_hrf (cl_hro L xs) hL jx_ok (by decide +kernel)
def k_xu_26 : ct_C := ([(2, .ofNat 8, .ofNat 8)], [(10, 210, .ofNat 0, .ofNat 29), (32, 1, .ofNat 26, .ofNat 26)], [(10, 210, .ofNat 0, .ofNat 29), (32, 1, .ofNat 0, .ofNat 40)], [10], (some (0, .ofNat 25, .ofNat 25)), 3, false)
theorem s_xu_26 (M : Nat → Nat → Int) (hm : sx_mok cl_ly M) (hJ : JJ M) (hg : ct_g k_xu_26.2.1 M) : ∃ m ∈ [k_xu_26_0, k_xu_26_1, k_xu_26_2, k_xu_26_3], ct_g m.2.1 M := by
  have hv : M 32 1 = 26 := by
    have h := hg (32, 1, .ofNat 26, .ofNat 26) (List.mem_cons_of_mem _ List.mem_cons_self)
    exact Int.le_antisymm h.2 h.1
  have hk := jr_kn hm
  have hu := jr_un hm
  have hd := hJ.2.2.1
  have he := hJ.2.2.2
  have h8 : jp (M 33 100) (M 33 101) (M 33 102) (M 33 103) := hJ.1 25 (by decide)
  obtain ⟨⟨b1, b2, b3, b4⟩, h8⟩ := h8
  rcases h8 with h8 | h8 | h8 | h8
  · exact ⟨k_xu_26_0, List.mem_cons_self, (jh (hg (10, 210, .ofNat 0, .ofNat 29) List.mem_cons_self) (jc (by show (26 : Int) ≤ M 32 1; omega) (by show M 32 1 ≤ (26 : Int); omega) (jc (by show (26 : Int) ≤ M 32 2; omega) (by show M 32 2 ≤ (40 : Int); omega) (jc (by show (0 : Int) ≤ M 33 100; omega) (by show M 33 100 ≤ (4 : Int); omega) (jc (by show (0 : Int) ≤ M 33 101; omega) (by show M 33 101 ≤ (5 : Int); omega) (jc (by show (-1 : Int) ≤ M 33 102; omega) (by show M 33 102 ≤ (143 : Int); omega) jn))))))⟩
  · exact ⟨k_xu_26_1, (List.mem_cons_of_mem _ List.mem_cons_self), (jh (hg (10, 210, .ofNat 0, .ofNat 29) List.mem_cons_self) (jc (by show (26 : Int) ≤ M 32 1; omega) (by show M 32 1 ≤ (26 : Int); omega) (jc (by show (26 : Int) ≤ M 32 2; omega) (by show M 32 2 ≤ (40 : Int); omega) (jc (by show (5 : Int) ≤ M 33 100; omega) (by show M 33 100 ≤ (5 : Int); omega) (jc (by show (0 : Int) ≤ M 33 101; omega) (by show M 33 101 ≤ (29 : Int); omega) (jc (by show (-1 : Int) ≤ M 33 102; omega) (by show M 33 102 ≤ (143 : Int); omega) jn))))))⟩
  · exact ⟨k_xu_26_2, (List.mem_cons_of_mem _ (List.mem_cons_of_mem _ List.mem_cons_self)), (jh (hg (10, 210, .ofNat 0, .ofNat 29) List.mem_cons_self) (jc (by show (26 : Int) ≤ M 32 1; omega) (by show M 32 1 ≤ (26 : Int); omega) (jc (by show (26 : Int) ≤ M 32 2; omega) (by show M 32 2 ≤ (40 : Int); omega) (jc (by show (6 : Int) ≤ M 33 100; omega) (by show M 33 100 ≤ (6 : Int); omega) (jc (by show (0 : Int) ≤ M 33 101; omega) (by show M 33 101 ≤ (11 : Int); omega) (jc (by show (-1 : Int) ≤ M 33 102; omega) (by show M 33 102 ≤ (143 : Int); omega) jn))))))⟩
  · exact ⟨k_xu_26_3, (List.mem_cons_of_mem _ (List.mem_cons_of_mem _ (List.mem_cons_of_mem _ List.mem_cons_self))), (jh (hg (10, 210, .ofNat 0, .ofNat 29) List.mem_cons_self) (jc (by show (26 : Int) ≤ M 32 1; omega) (by show M 32 1 ≤ (26 : Int); omega) (jc (by show (26 : Int) ≤ M 32 2; omega) (by show M 32 2 ≤ (40 : Int); omega) (jc (by show (7 : Int) ≤ M 33 100; omega) (by show M 33 100 ≤ (7 : Int); omega) (jc (by show (0 : Int) ≤ M 33 101; omega) (by show M 33 101 ≤ (0 : Int); omega) (jc (by show (0 : Int) ≤ M 33 102; omega) (by show M 33 102 ≤ (29 : Int); omega) jn))))))⟩
theorem c_xu_26 (hL : L < 2 ^ 31) : ci L xs 121 k_xu_26 :=
  ci_j_ok (ms := [k_xu_26_0, k_xu_26_1, k_xu_26_2, k_xu_26_3]) (jl_cons (c_xu_26_0 hL) (jl_cons (c_xu_26_1 hL) (jl_cons (c_xu_26_2 hL) (jl_cons (c_xu_26_3 hL) jl_nil)))) s_xu_26 (by decide +kernel)
def k_xu_27_0 : ct_C := ([(2, .ofNat 8, .ofNat 8)], [(10, 210, .ofNat 0, .ofNat 29), (32, 1, .ofNat 27, .ofNat 27), (32, 2, .ofNat 27, .ofNat 40), (33, 104, .ofNat 0, .ofNat 4), (33, 105, .ofNat 0, .ofNat 5), (33, 106, .negSucc 0, .ofNat 143)], [(10, 210, .ofNat 0, .ofNat 29), (32, 1, .ofNat 26, .ofNat 26)], [10], (some (0, .ofNat 26, .ofNat 26)), 3, false)
theorem c_xu_27_0 (hL : L < 2 ^ 31) : ci L xs 121 k_xu_27_0 :=
  mi_ok (fc := 9000) (f := 9000) (cuts := []) (xk := jx) cl_lok cl_hrf (cl_hro L xs) hL jx_ok (by decide +kernel)
def k_xu_27_1 : ct_C := ([(2, .ofNat 8, .ofNat 8)], [(10, 210, .ofNat 0, .ofNat 29), (32, 1, .ofNat 27, .ofNat 27), (32, 2, .ofNat 27, .ofNat 40), (33, 104, .ofNat 5, .ofNat 5), (33, 105, .ofNat 0, .ofNat 29), (33, 106, .negSucc 0, .ofNat 143)], [(10, 210, .ofNat 0, .ofNat 29), (32, 1, .ofNat 26, .ofNat 26)], [10], (some (0, .ofNat 26, .ofNat 26)), 3, false)
theorem c_xu_27_1 (hL : L < 2 ^ 31) : ci L xs 121 k_xu_27_1 :=
  mi_ok (fc := 9000) (f := 9000) (cuts := []) (xk := jx) cl_lok cl_hrf (cl_hro L xs) hL jx_ok (by decide +kernel)
def k_xu_27_2 : ct_C := ([(2, .ofNat 8, .ofNat 8)], [(10, 210, .ofNat 0, .ofNat 29), (32, 1, .ofNat 27, .ofNat 27), (32, 2, .ofNat 27, .ofNat 40), (33, 104, .ofNat 6, .ofNat 6), (33, 105, .ofNat 0, .ofNat 11), (33, 106, .negSucc 0, .ofNat 143)], [(10, 210, .ofNat 0, .ofNat 29), (32, 1, .ofNat 26, .ofNat 26)], [10], (some (0, .ofNat 26, .ofNat 26)), 3, false)
theorem c_xu_27_2 (hL : L < 2 ^ 31) : ci L xs 121 k_xu_27_2 :=
  mi_ok (fc := 9000) (f := 9000) (cuts := []) (xk := jx) cl_lok cl_hrf (cl_hro L xs) hL jx_ok (by decide +kernel)
def k_xu_27_3 : ct_C := ([(2, .ofNat 8, .ofNat 8)], [(10, 210, .ofNat 0, .ofNat 29), (32, 1, .ofNat 27, .ofNat 27), (32, 2, .ofNat 27, .ofNat 40), (33, 104, .ofNat 7, .ofNat 7), (33, 105, .ofNat 0, .ofNat 0), (33, 106, .ofNat 0, .ofNat 29)], [(10, 210, .ofNat 0, .ofNat 29), (32, 1, .ofNat 26, .ofNat 26)], [10], (some (0, .ofNat 26, .ofNat 26)), 3, false)
theorem c_xu_27_3 (hL : L < 2 ^ 31) : ci L xs 121 k_xu_27_3 :=
  mi_ok (fc := 9000) (f := 9000) (cuts := []) (xk := jx) cl_lok cl_hrf (cl_hro L xs) hL jx_ok (by decide +kernel)
def k_xu_27 : ct_C := ([(2, .ofNat 8, .ofNat 8)], [(10, 210, .ofNat 0, .ofNat 29), (32, 1, .ofNat 27, .ofNat 27)], [(10, 210, .ofNat 0, .ofNat 29), (32, 1, .ofNat 0, .ofNat 40)], [10], (some (0, .ofNat 26, .ofNat 26)), 3, false)
theorem s_xu_27 (M : Nat → Nat → Int) (hm : sx_mok cl_ly M) (hJ : JJ M) (hg : ct_g k_xu_27.2.1 M) : ∃ m ∈ [k_xu_27_0, k_xu_27_1, k_xu_27_2, k_xu_27_3], ct_g m.2.1 M := by
  have hv : M 32 1 = 27 := by
    have h := hg (32, 1, .ofNat 27, .ofNat 27) (List.mem_cons_of_mem _ List.mem_cons_self)
    exact Int.le_antisymm h.2 h.1
  have hk := jr_kn hm
  have hu := jr_un hm
  have hd := hJ.2.2.1
  have he := hJ.2.2.2
  have h8 : jp (M 33 104) (M 33 105) (M 33 106) (M 33 107) := hJ.1 26 (by decide)
  obtain ⟨⟨b1, b2, b3, b4⟩, h8⟩ := h8
  rcases h8 with h8 | h8 | h8 | h8
  · exact ⟨k_xu_27_0, List.mem_cons_self, (jh (hg (10, 210, .ofNat 0, .ofNat 29) List.mem_cons_self) (jc (by show (27 : Int) ≤ M 32 1; omega) (by show M 32 1 ≤ (27 : Int); omega) (jc (by show (27 : Int) ≤ M 32 2; omega) (by show M 32 2 ≤ (40 : Int); omega) (jc (by show (0 : Int) ≤ M 33 104; omega) (by show M 33 104 ≤ (4 : Int); omega) (jc (by show (0 : Int) ≤ M 33 105; omega) (by show M 33 105 ≤ (5 : Int); omega) (jc (by show (-1 : Int) ≤ M 33 106; omega) (by show M 33 106 ≤ (143 : Int); omega) jn))))))⟩
  · exact ⟨k_xu_27_1, (List.mem_cons_of_mem _ List.mem_cons_self), (jh (hg (10, 210, .ofNat 0, .ofNat 29) List.mem_cons_self) (jc (by show (27 : Int) ≤ M 32 1; omega) (by show M 32 1 ≤ (27 : Int); omega) (jc (by show (27 : Int) ≤ M 32 2; omega) (by show M 32 2 ≤ (40 : Int); omega) (jc (by show (5 : Int) ≤ M 33 104; omega) (by show M 33 104 ≤ (5 : Int); omega) (jc (by show (0 : Int) ≤ M 33 105; omega) (by show M 33 105 ≤ (29 : Int); omega) (jc (by show (-1 : Int) ≤ M 33 106; omega) (by show M 33 106 ≤ (143 : Int); omega) jn))))))⟩
  · exact ⟨k_xu_27_2, (List.mem_cons_of_mem _ (List.mem_cons_of_mem _ List.mem_cons_self)), (jh (hg (10, 210, .ofNat 0, .ofNat 29) List.mem_cons_self) (jc (by show (27 : Int) ≤ M 32 1; omega) (by show M 32 1 ≤ (27 : Int); omega) (jc (by show (27 : Int) ≤ M 32 2; omega) (by show M 32 2 ≤ (40 : Int); omega) (jc (by show (6 : Int) ≤ M 33 104; omega) (by show M 33 104 ≤ (6 : Int); omega) (jc (by show (0 : Int) ≤ M 33 105; omega) (by show M 33 105 ≤ (11 : Int); omega) (jc (by show (-1 : Int) ≤ M 33 106; omega) (by show M 33 106 ≤ (143 : Int); omega) jn))))))⟩
  · exact ⟨k_xu_27_3, (List.mem_cons_of_mem _ (List.mem_cons_of_mem _ (List.mem_cons_of_mem _ List.mem_cons_self))), (jh (hg (10, 210, .ofNat 0, .ofNat 29) List.mem_cons_self) (jc (by show (27 : Int) ≤ M 32 1; omega) (by show M 32 1 ≤ (27 : Int); omega) (jc (by show (27 : Int) ≤ M 32 2; omega) (by show M 32 2 ≤ (40 : Int); omega) (jc (by show (7 : Int) ≤ M 33 104; omega) (by show M 33 104 ≤ (7 : Int); omega) (jc (by show (0 : Int) ≤ M 33 105; omega) (by show M 33 105 ≤ (0 : Int); omega) (jc (by show (0 : Int) ≤ M 33 106; omega) (by show M 33 106 ≤ (29 : Int); omega) jn))))))⟩
theorem c_xu_27 (hL : L < 2 ^ 31) : ci L xs 121 k_xu_27 :=
  ci_j_ok (ms := [k_xu_27_0, k_xu_27_1, k_xu_27_2, k_xu_27_3]) (jl_cons (c_xu_27_0 hL) (jl_cons (c_xu_27_1 hL) (jl_cons (c_xu_27_2 hL) (jl_cons (c_xu_27_3 hL) jl_nil)))) s_xu_27 (by decide +kernel)
def k_xu_28_0 : ct_C := ([(2, .ofNat 8, .ofNat 8)], [(10, 210, .ofNat 0, .ofNat 29), (32, 1, .ofNat 28, .ofNat 28), (32, 2, .ofNat 28, .ofNat 40), (33, 108, .ofNat 0, .ofNat 4), (33, 109, .ofNat 0, .ofNat 5), (33, 110, .negSucc 0, .ofNat 143)], [(10, 210, .ofNat 0, .ofNat 29), (32, 1, .ofNat 27, .ofNat 27)], [10], (some (0, .ofNat 27, .ofNat 27)), 3, false)
theorem c_xu_28_0 (hL : L < 2 ^ 31) : ci L xs 121 k_xu_28_0 :=
  mi_ok (fc := 9000) (f := 9000) (cuts := []) (xk := jx) cl_lok cl_hrf (cl_hro L xs) hL jx_ok (by decide +kernel)
def k_xu_28_1 : ct_C := ([(2, .ofNat 8, .ofNat 8)], [(10, 210, .ofNat 0, .ofNat 29), (32, 1, .ofNat 28, .ofNat 28), (32, 2, .ofNat 28, .ofNat 40), (33, 108, .ofNat 5, .ofNat 5), (33, 109, .ofNat 0, .ofNat 29), (33, 110, .negSucc 0, .ofNat 143)], [(10, 210, .ofNat 0, .ofNat 29), (32, 1, .ofNat 27, .ofNat 27)], [10], (some (0, .ofNat 27, .ofNat 27)), 3, false)
theorem c_xu_28_1 (hL : L < 2 ^ 31) : ci L xs 121 k_xu_28_1 :=
  mi_ok (fc := 9000) (f := 9000) (cuts := []) (xk := jx) cl_lok cl_hrf (cl_hro L xs) hL jx_ok (by decide +kernel)
def k_xu_28_2 : ct_C := ([(2, .ofNat 8, .ofNat 8)], [(10, 210, .ofNat 0, .ofNat 29), (32, 1, .ofNat 28, .ofNat 28), (32, 2, .ofNat 28, .ofNat 40), (33, 108, .ofNat 6, .ofNat 6), (33, 109, .ofNat 0, .ofNat 11), (33, 110, .negSucc 0, .ofNat 143)], [(10, 210, .ofNat 0, .ofNat 29), (32, 1, .ofNat 27, .ofNat 27)], [10], (some (0, .ofNat 27, .ofNat 27)), 3, false)
theorem c_xu_28_2 (hL : L < 2 ^ 31) : ci L xs 121 k_xu_28_2 :=
  mi_ok (fc := 9000) (f := 9000) (cuts := []) (xk := jx) cl_lok cl_hrf (cl_hro L xs) hL jx_ok (by decide +kernel)
def k_xu_28_3 : ct_C := ([(2, .ofNat 8, .ofNat 8)], [(10, 210, .ofNat 0, .ofNat 29), (32, 1, .ofNat 28, .ofNat 28), (32, 2, .ofNat 28, .ofNat 40), (33, 108, .ofNat 7, .ofNat 7), (33, 109, .ofNat 0, .ofNat 0), (33, 110, .ofNat 0, .ofNat 29)], [(10, 210, .ofNat 0, .ofNat 29), (32, 1, .ofNat 27, .ofNat 27)], [10], (some (0, .ofNat 27, .ofNat 27)), 3, false)
theorem c_xu_28_3 (hL : L < 2 ^ 31) : ci L xs 121 k_xu_28_3 :=
  mi_ok (fc := 9000) (f := 9000) (cuts := []) (xk := jx) cl_lok cl_hrf (cl_hro L xs) hL jx_ok (by decide +kernel)
def k_xu_28 : ct_C := ([(2, .ofNat 8, .ofNat 8)], [(10, 210, .ofNat 0, .ofNat 29), (32, 1, .ofNat 28, .ofNat 28)], [(10, 210, .ofNat 0, .ofNat 29), (32, 1, .ofNat 0, .ofNat 40)], [10], (some (0, .ofNat 27, .ofNat 27)), 3, false)
theorem s_xu_28 (M : Nat → Nat → Int) (hm : sx_mok cl_ly M) (hJ : JJ M) (hg : ct_g k_xu_28.2.1 M) : ∃ m ∈ [k_xu_28_0, k_xu_28_1, k_xu_28_2, k_xu_28_3], ct_g m.2.1 M := by
  have hv : M 32 1 = 28 := by
    have h := hg (32, 1, .ofNat 28, .ofNat 28) (List.mem_cons_of_mem _ List.mem_cons_self)
    exact Int.le_antisymm h.2 h.1
  have hk := jr_kn hm
  have hu := jr_un hm
  have hd := hJ.2.2.1
  have he := hJ.2.2.2
  have h8 : jp (M 33 108) (M 33 109) (M 33 110) (M 33 111) := hJ.1 27 (by decide)
  obtain ⟨⟨b1, b2, b3, b4⟩, h8⟩ := h8
  rcases h8 with h8 | h8 | h8 | h8
  · exact ⟨k_xu_28_0, List.mem_cons_self, (jh (hg (10, 210, .ofNat 0, .ofNat 29) List.mem_cons_self) (jc (by show (28 : Int) ≤ M 32 1; omega) (by show M 32 1 ≤ (28 : Int); omega) (jc (by show (28 : Int) ≤ M 32 2; omega) (by show M 32 2 ≤ (40 : Int); omega) (jc (by show (0 : Int) ≤ M 33 108; omega) (by show M 33 108 ≤ (4 : Int); omega) (jc (by show (0 : Int) ≤ M 33 109; omega) (by show M 33 109 ≤ (5 : Int); omega) (jc (by show (-1 : Int) ≤ M 33 110; omega) (by show M 33 110 ≤ (143 : Int); omega) jn))))))⟩
  · exact ⟨k_xu_28_1, (List.mem_cons_of_mem _ List.mem_cons_self), (jh (hg (10, 210, .ofNat 0, .ofNat 29) List.mem_cons_self) (jc (by show (28 : Int) ≤ M 32 1; omega) (by show M 32 1 ≤ (28 : Int); omega) (jc (by show (28 : Int) ≤ M 32 2; omega) (by show M 32 2 ≤ (40 : Int); omega) (jc (by show (5 : Int) ≤ M 33 108; omega) (by show M 33 108 ≤ (5 : Int); omega) (jc (by show (0 : Int) ≤ M 33 109; omega) (by show M 33 109 ≤ (29 : Int); omega) (jc (by show (-1 : Int) ≤ M 33 110; omega) (by show M 33 110 ≤ (143 : Int); omega) jn))))))⟩
  · exact ⟨k_xu_28_2, (List.mem_cons_of_mem _ (List.mem_cons_of_mem _ List.mem_cons_self)), (jh (hg (10, 210, .ofNat 0, .ofNat 29) List.mem_cons_self) (jc (by show (28 : Int) ≤ M 32 1; omega) (by show M 32 1 ≤ (28 : Int); omega) (jc (by show (28 : Int) ≤ M 32 2; omega) (by show M 32 2 ≤ (40 : Int); omega) (jc (by show (6 : Int) ≤ M 33 108; omega) (by show M 33 108 ≤ (6 : Int); omega) (jc (by show (0 : Int) ≤ M 33 109; omega) (by show M 33 109 ≤ (11 : Int); omega) (jc (by show (-1 : Int) ≤ M 33 110; omega) (by show M 33 110 ≤ (143 : Int); omega) jn))))))⟩
  · exact ⟨k_xu_28_3, (List.mem_cons_of_mem _ (List.mem_cons_of_mem _ (List.mem_cons_of_mem _ List.mem_cons_self))), (jh (hg (10, 210, .ofNat 0, .ofNat 29) List.mem_cons_self) (jc (by show (28 : Int) ≤ M 32 1; omega) (by show M 32 1 ≤ (28 : Int); omega) (jc (by show (28 : Int) ≤ M 32 2; omega) (by show M 32 2 ≤ (40 : Int); omega) (jc (by show (7 : Int) ≤ M 33 108; omega) (by show M 33 108 ≤ (7 : Int); omega) (jc (by show (0 : Int) ≤ M 33 109; omega) (by show M 33 109 ≤ (0 : Int); omega) (jc (by show (0 : Int) ≤ M 33 110; omega) (by show M 33 110 ≤ (29 : Int); omega) jn))))))⟩
theorem c_xu_28 (hL : L < 2 ^ 31) : ci L xs 121 k_xu_28 :=
  ci_j_ok (ms := [k_xu_28_0, k_xu_28_1, k_xu_28_2, k_xu_28_3]) (jl_cons (c_xu_28_0 hL) (jl_cons (c_xu_28_1 hL) (jl_cons (c_xu_28_2 hL) (jl_cons (c_xu_28_3 hL) jl_nil)))) s_xu_28 (by decide +kernel)
def k_xu_29_0 : ct_C := ([(2, .ofNat 8, .ofNat 8)], [(10, 210, .ofNat 0, .ofNat 29), (32, 1, .ofNat 29, .ofNat 29), (32, 2, .ofNat 29, .ofNat 40), (33, 112, .ofNat 0, .ofNat 4), (33, 113, .ofNat 0, .ofNat 5), (33, 114, .negSucc 0, .ofNat 143)], [(10, 210, .ofNat 0, .ofNat 29), (32, 1, .ofNat 28, .ofNat 28)], [10], (some (0, .ofNat 28, .ofNat 28)), 3, false)
theorem c_xu_29_0 (hL : L < 2 ^ 31) : ci L xs 121 k_xu_29_0 :=
  mi_ok (fc := 9000) (f := 9000) (cuts := []) (xk := jx) cl_lok cl_hrf (cl_hro L xs) hL jx_ok (by decide +kernel)
def k_xu_29_1 : ct_C := ([(2, .ofNat 8, .ofNat 8)], [(10, 210, .ofNat 0, .ofNat 29), (32, 1, .ofNat 29, .ofNat 29), (32, 2, .ofNat 29, .ofNat 40), (33, 112, .ofNat 5, .ofNat 5), (33, 113, .ofNat 0, .ofNat 29), (33, 114, .negSucc 0, .ofNat 143)], [(10, 210, .ofNat 0, .ofNat 29), (32, 1, .ofNat 28, .ofNat 28)], [10], (some (0, .ofNat 28, .ofNat 28)), 3, false)
theorem c_xu_29_1 (hL : L < 2 ^ 31) : ci L xs 121 k_xu_29_1 :=
  mi_ok (fc := 9000) (f := 9000) (cuts := []) (xk := jx) cl_lok cl_hrf (cl_hro L xs) hL jx_ok (by decide +kernel)
def k_xu_29_2 : ct_C := ([(2, .ofNat 8, .ofNat 8)], [(10, 210, .ofNat 0, .ofNat 29), (32, 1, .ofNat 29, .ofNat 29), (32, 2, .ofNat 29, .ofNat 40), (33, 112, .ofNat 6, .ofNat 6), (33, 113, .ofNat 0, .ofNat 11), (33, 114, .negSucc 0, .ofNat 143)], [(10, 210, .ofNat 0, .ofNat 29), (32, 1, .ofNat 28, .ofNat 28)], [10], (some (0, .ofNat 28, .ofNat 28)), 3, false)
theorem c_xu_29_2 (hL : L < 2 ^ 31) : ci L xs 121 k_xu_29_2 :=
  mi_ok (fc := 9000) (f := 9000) (cuts := []) (xk := jx) cl_lok cl_hrf (cl_hro L xs) hL jx_ok (by decide +kernel)
def k_xu_29_3 : ct_C := ([(2, .ofNat 8, .ofNat 8)], [(10, 210, .ofNat 0, .ofNat 29), (32, 1, .ofNat 29, .ofNat 29), (32, 2, .ofNat 29, .ofNat 40), (33, 112, .ofNat 7, .ofNat 7), (33, 113, .ofNat 0, .ofNat 0), (33, 114, .ofNat 0, .ofNat 29)], [(10, 210, .ofNat 0, .ofNat 29), (32, 1, .ofNat 28, .ofNat 28)], [10], (some (0, .ofNat 28, .ofNat 28)), 3, false)
theorem c_xu_29_3 (hL : L < 2 ^ 31) : ci L xs 121 k_xu_29_3 :=
  mi_ok (fc := 9000) (f := 9000) (cuts := []) (xk := jx) cl_lok cl_hrf (cl_hro L xs) hL jx_ok (by decide +kernel)
def k_xu_29 : ct_C := ([(2, .ofNat 8, .ofNat 8)], [(10, 210, .ofNat 0, .ofNat 29), (32, 1, .ofNat 29, .ofNat 29)], [(10, 210, .ofNat 0, .ofNat 29), (32, 1, .ofNat 0, .ofNat 40)], [10], (some (0, .ofNat 28, .ofNat 28)), 3, false)
theorem s_xu_29 (M : Nat → Nat → Int) (hm : sx_mok cl_ly M) (hJ : JJ M) (hg : ct_g k_xu_29.2.1 M) : ∃ m ∈ [k_xu_29_0, k_xu_29_1, k_xu_29_2, k_xu_29_3], ct_g m.2.1 M := by
  have hv : M 32 1 = 29 := by
    have h := hg (32, 1, .ofNat 29, .ofNat 29) (List.mem_cons_of_mem _ List.mem_cons_self)
    exact Int.le_antisymm h.2 h.1
  have hk := jr_kn hm
  have hu := jr_un hm
  have hd := hJ.2.2.1
  have he := hJ.2.2.2
  have h8 : jp (M 33 112) (M 33 113) (M 33 114) (M 33 115) := hJ.1 28 (by decide)
  obtain ⟨⟨b1, b2, b3, b4⟩, h8⟩ := h8
  rcases h8 with h8 | h8 | h8 | h8
  · exact ⟨k_xu_29_0, List.mem_cons_self, (jh (hg (10, 210, .ofNat 0, .ofNat 29) List.mem_cons_self) (jc (by show (29 : Int) ≤ M 32 1; omega) (by show M 32 1 ≤ (29 : Int); omega) (jc (by show (29 : Int) ≤ M 32 2; omega) (by show M 32 2 ≤ (40 : Int); omega) (jc (by show (0 : Int) ≤ M 33 112; omega) (by show M 33 112 ≤ (4 : Int); omega) (jc (by show (0 : Int) ≤ M 33 113; omega) (by show M 33 113 ≤ (5 : Int); omega) (jc (by show (-1 : Int) ≤ M 33 114; omega) (by show M 33 114 ≤ (143 : Int); omega) jn))))))⟩
  · exact ⟨k_xu_29_1, (List.mem_cons_of_mem _ List.mem_cons_self), (jh (hg (10, 210, .ofNat 0, .ofNat 29) List.mem_cons_self) (jc (by show (29 : Int) ≤ M 32 1; omega) (by show M 32 1 ≤ (29 : Int); omega) (jc (by show (29 : Int) ≤ M 32 2; omega) (by show M 32 2 ≤ (40 : Int); omega) (jc (by show (5 : Int) ≤ M 33 112; omega) (by show M 33 112 ≤ (5 : Int); omega) (jc (by show (0 : Int) ≤ M 33 113; omega) (by show M 33 113 ≤ (29 : Int); omega) (jc (by show (-1 : Int) ≤ M 33 114; omega) (by show M 33 114 ≤ (143 : Int); omega) jn))))))⟩
  · exact ⟨k_xu_29_2, (List.mem_cons_of_mem _ (List.mem_cons_of_mem _ List.mem_cons_self)), (jh (hg (10, 210, .ofNat 0, .ofNat 29) List.mem_cons_self) (jc (by show (29 : Int) ≤ M 32 1; omega) (by show M 32 1 ≤ (29 : Int); omega) (jc (by show (29 : Int) ≤ M 32 2; omega) (by show M 32 2 ≤ (40 : Int); omega) (jc (by show (6 : Int) ≤ M 33 112; omega) (by show M 33 112 ≤ (6 : Int); omega) (jc (by show (0 : Int) ≤ M 33 113; omega) (by show M 33 113 ≤ (11 : Int); omega) (jc (by show (-1 : Int) ≤ M 33 114; omega) (by show M 33 114 ≤ (143 : Int); omega) jn))))))⟩
  · exact ⟨k_xu_29_3, (List.mem_cons_of_mem _ (List.mem_cons_of_mem _ (List.mem_cons_of_mem _ List.mem_cons_self))), (jh (hg (10, 210, .ofNat 0, .ofNat 29) List.mem_cons_self) (jc (by show (29 : Int) ≤ M 32 1; omega) (by show M 32 1 ≤ (29 : Int); omega) (jc (by show (29 : Int) ≤ M 32 2; omega) (by show M 32 2 ≤ (40 : Int); omega) (jc (by show (7 : Int) ≤ M 33 112; omega) (by show M 33 112 ≤ (7 : Int); omega) (jc (by show (0 : Int) ≤ M 33 113; omega) (by show M 33 113 ≤ (0 : Int); omega) (jc (by show (0 : Int) ≤ M 33 114; omega) (by show M 33 114 ≤ (29 : Int); omega) jn))))))⟩
theorem c_xu_29 (hL : L < 2 ^ 31) : ci L xs 121 k_xu_29 :=
  ci_j_ok (ms := [k_xu_29_0, k_xu_29_1, k_xu_29_2, k_xu_29_3]) (jl_cons (c_xu_29_0 hL) (jl_cons (c_xu_29_1 hL) (jl_cons (c_xu_29_2 hL) (jl_cons (c_xu_29_3 hL) jl_nil)))) s_xu_29 (by decide +kernel)
def k_xu_30_0 : ct_C := ([(2, .ofNat 8, .ofNat 8)], [(10, 210, .ofNat 0, .ofNat 29), (32, 1, .ofNat 30, .ofNat 30), (32, 2, .ofNat 30, .ofNat 40), (33, 116, .ofNat 0, .ofNat 4), (33, 117, .ofNat 0, .ofNat 5), (33, 118, .negSucc 0, .ofNat 143)], [(10, 210, .ofNat 0, .ofNat 29), (32, 1, .ofNat 29, .ofNat 29)], [10], (some (0, .ofNat 29, .ofNat 29)), 3, false)
theorem c_xu_30_0 (hL : L < 2 ^ 31) : ci L xs 121 k_xu_30_0 :=
  mi_ok (fc := 9000) (f := 9000) (cuts := []) (xk := jx) cl_lok cl_hrf (cl_hro L xs) hL jx_ok (by decide +kernel)
def k_xu_30_1 : ct_C := ([(2, .ofNat 8, .ofNat 8)], [(10, 210, .ofNat 0, .ofNat 29), (32, 1, .ofNat 30, .ofNat 30), (32, 2, .ofNat 30, .ofNat 40), (33, 116, .ofNat 5, .ofNat 5), (33, 117, .ofNat 0, .ofNat 29), (33, 118, .negSucc 0, .ofNat 143)], [(10, 210, .ofNat 0, .ofNat 29), (32, 1, .ofNat 29, .ofNat 29)], [10], (some (0, .ofNat 29, .ofNat 29)), 3, false)
theorem c_xu_30_1 (hL : L < 2 ^ 31) : ci L xs 121 k_xu_30_1 :=
  mi_ok (fc := 9000) (f := 9000) (cuts := []) (xk := jx) cl_lok cl_hrf (cl_hro L xs) hL jx_ok (by decide +kernel)
def k_xu_30_2 : ct_C := ([(2, .ofNat 8, .ofNat 8)], [(10, 210, .ofNat 0, .ofNat 29), (32, 1, .ofNat 30, .ofNat 30), (32, 2, .ofNat 30, .ofNat 40), (33, 116, .ofNat 6, .ofNat 6), (33, 117, .ofNat 0, .ofNat 11), (33, 118, .negSucc 0, .ofNat 143)], [(10, 210, .ofNat 0, .ofNat 29), (32, 1, .ofNat 29, .ofNat 29)], [10], (some (0, .ofNat 29, .ofNat 29)), 3, false)
theorem c_xu_30_2 (hL : L < 2 ^ 31) : ci L xs 121 k_xu_30_2 :=
  mi_ok (fc := 9000) (f := 9000) (cuts := []) (xk := jx) cl_lok cl_hrf (cl_hro L xs) hL jx_ok (by decide +kernel)
def k_xu_30_3 : ct_C := ([(2, .ofNat 8, .ofNat 8)], [(10, 210, .ofNat 0, .ofNat 29), (32, 1, .ofNat 30, .ofNat 30), (32, 2, .ofNat 30, .ofNat 40), (33, 116, .ofNat 7, .ofNat 7), (33, 117, .ofNat 0, .ofNat 0), (33, 118, .ofNat 0, .ofNat 29)], [(10, 210, .ofNat 0, .ofNat 29), (32, 1, .ofNat 29, .ofNat 29)], [10], (some (0, .ofNat 29, .ofNat 29)), 3, false)
theorem c_xu_30_3 (hL : L < 2 ^ 31) : ci L xs 121 k_xu_30_3 :=
  mi_ok (fc := 9000) (f := 9000) (cuts := []) (xk := jx) cl_lok cl_hrf (cl_hro L xs) hL jx_ok (by decide +kernel)
def k_xu_30 : ct_C := ([(2, .ofNat 8, .ofNat 8)], [(10, 210, .ofNat 0, .ofNat 29), (32, 1, .ofNat 30, .ofNat 30)], [(10, 210, .ofNat 0, .ofNat 29), (32, 1, .ofNat 0, .ofNat 40)], [10], (some (0, .ofNat 29, .ofNat 29)), 3, false)
theorem s_xu_30 (M : Nat → Nat → Int) (hm : sx_mok cl_ly M) (hJ : JJ M) (hg : ct_g k_xu_30.2.1 M) : ∃ m ∈ [k_xu_30_0, k_xu_30_1, k_xu_30_2, k_xu_30_3], ct_g m.2.1 M := by
  have hv : M 32 1 = 30 := by
    have h := hg (32, 1, .ofNat 30, .ofNat 30) (List.mem_cons_of_mem _ List.mem_cons_self)
    exact Int.le_antisymm h.2 h.1
  have hk := jr_kn hm
  have hu := jr_un hm
  have hd := hJ.2.2.1
  have he := hJ.2.2.2
  have h8 : jp (M 33 116) (M 33 117) (M 33 118) (M 33 119) := hJ.1 29 (by decide)
  obtain ⟨⟨b1, b2, b3, b4⟩, h8⟩ := h8
  rcases h8 with h8 | h8 | h8 | h8
  · exact ⟨k_xu_30_0, List.mem_cons_self, (jh (hg (10, 210, .ofNat 0, .ofNat 29) List.mem_cons_self) (jc (by show (30 : Int) ≤ M 32 1; omega) (by show M 32 1 ≤ (30 : Int); omega) (jc (by show (30 : Int) ≤ M 32 2; omega) (by show M 32 2 ≤ (40 : Int); omega) (jc (by show (0 : Int) ≤ M 33 116; omega) (by show M 33 116 ≤ (4 : Int); omega) (jc (by show (0 : Int) ≤ M 33 117; omega) (by show M 33 117 ≤ (5 : Int); omega) (jc (by show (-1 : Int) ≤ M 33 118; omega) (by show M 33 118 ≤ (143 : Int); omega) jn))))))⟩
  · exact ⟨k_xu_30_1, (List.mem_cons_of_mem _ List.mem_cons_self), (jh (hg (10, 210, .ofNat 0, .ofNat 29) List.mem_cons_self) (jc (by show (30 : Int) ≤ M 32 1; omega) (by show M 32 1 ≤ (30 : Int); omega) (jc (by show (30 : Int) ≤ M 32 2; omega) (by show M 32 2 ≤ (40 : Int); omega) (jc (by show (5 : Int) ≤ M 33 116; omega) (by show M 33 116 ≤ (5 : Int); omega) (jc (by show (0 : Int) ≤ M 33 117; omega) (by show M 33 117 ≤ (29 : Int); omega) (jc (by show (-1 : Int) ≤ M 33 118; omega) (by show M 33 118 ≤ (143 : Int); omega) jn))))))⟩
  · exact ⟨k_xu_30_2, (List.mem_cons_of_mem _ (List.mem_cons_of_mem _ List.mem_cons_self)), (jh (hg (10, 210, .ofNat 0, .ofNat 29) List.mem_cons_self) (jc (by show (30 : Int) ≤ M 32 1; omega) (by show M 32 1 ≤ (30 : Int); omega) (jc (by show (30 : Int) ≤ M 32 2; omega) (by show M 32 2 ≤ (40 : Int); omega) (jc (by show (6 : Int) ≤ M 33 116; omega) (by show M 33 116 ≤ (6 : Int); omega) (jc (by show (0 : Int) ≤ M 33 117; omega) (by show M 33 117 ≤ (11 : Int); omega) (jc (by show (-1 : Int) ≤ M 33 118; omega) (by show M 33 118 ≤ (143 : Int); omega) jn))))))⟩
  · exact ⟨k_xu_30_3, (List.mem_cons_of_mem _ (List.mem_cons_of_mem _ (List.mem_cons_of_mem _ List.mem_cons_self))), (jh (hg (10, 210, .ofNat 0, .ofNat 29) List.mem_cons_self) (jc (by show (30 : Int) ≤ M 32 1; omega) (by show M 32 1 ≤ (30 : Int); omega) (jc (by show (30 : Int) ≤ M 32 2; omega) (by show M 32 2 ≤ (40 : Int); omega) (jc (by show (7 : Int) ≤ M 33 116; omega) (by show M 33 116 ≤ (7 : Int); omega) (jc (by show (0 : Int) ≤ M 33 117; omega) (by show M 33 117 ≤ (0 : Int); omega) (jc (by show (0 : Int) ≤ M 33 118; omega) (by show M 33 118 ≤ (29 : Int); omega) jn))))))⟩
theorem c_xu_30 (hL : L < 2 ^ 31) : ci L xs 121 k_xu_30 :=
  ci_j_ok (ms := [k_xu_30_0, k_xu_30_1, k_xu_30_2, k_xu_30_3]) (jl_cons (c_xu_30_0 hL) (jl_cons (c_xu_30_1 hL) (jl_cons (c_xu_30_2 hL) (jl_cons (c_xu_30_3 hL) jl_nil)))) s_xu_30 (by decide +kernel)
def k_xu_31_0 : ct_C := ([(2, .ofNat 8, .ofNat 8)], [(10, 210, .ofNat 0, .ofNat 29), (32, 1, .ofNat 31, .ofNat 31), (32, 2, .ofNat 31, .ofNat 40), (33, 120, .ofNat 0, .ofNat 4), (33, 121, .ofNat 0, .ofNat 5), (33, 122, .negSucc 0, .ofNat 143)], [(10, 210, .ofNat 0, .ofNat 29), (32, 1, .ofNat 30, .ofNat 30)], [10], (some (0, .ofNat 30, .ofNat 30)), 3, false)
theorem c_xu_31_0 (hL : L < 2 ^ 31) : ci L xs 121 k_xu_31_0 :=
  mi_ok (fc := 9000) (f := 9000) (cuts := []) (xk := jx) cl_lok cl_hrf (cl_hro L xs) hL jx_ok (by decide +kernel)
def k_xu_31_1 : ct_C := ([(2, .ofNat 8, .ofNat 8)], [(10, 210, .ofNat 0, .ofNat 29), (32, 1, .ofNat 31, .ofNat 31), (32, 2, .ofNat 31, .ofNat 40), (33, 120, .ofNat 5, .ofNat 5), (33, 121, .ofNat 0, .ofNat 29), (33, 122, .negSucc 0, .ofNat 143)], [(10, 210, .ofNat 0, .ofNat 29), (32, 1, .ofNat 30, .ofNat 30)], [10], (some (0, .ofNat 30, .ofNat 30)), 3, false)
theorem c_xu_31_1 (hL : L < 2 ^ 31) : ci L xs 121 k_xu_31_1 :=
  mi_ok (fc := 9000) (f := 9000) (cuts := []) (xk := jx) cl_lok cl_hrf (cl_hro L xs) hL jx_ok (by decide +kernel)
def k_xu_31_2 : ct_C := ([(2, .ofNat 8, .ofNat 8)], [(10, 210, .ofNat 0, .ofNat 29), (32, 1, .ofNat 31, .ofNat 31), (32, 2, .ofNat 31, .ofNat 40), (33, 120, .ofNat 6, .ofNat 6), (33, 121, .ofNat 0, .ofNat 11), (33, 122, .negSucc 0, .ofNat 143)], [(10, 210, .ofNat 0, .ofNat 29), (32, 1, .ofNat 30, .ofNat 30)], [10], (some (0, .ofNat 30, .ofNat 30)), 3, false)
theorem c_xu_31_2 (hL : L < 2 ^ 31) : ci L xs 121 k_xu_31_2 :=
  mi_ok (fc := 9000) (f := 9000) (cuts := []) (xk := jx) cl_lok cl_hrf (cl_hro L xs) hL jx_ok (by decide +kernel)
def k_xu_31_3 : ct_C := ([(2, .ofNat 8, .ofNat 8)], [(10, 210, .ofNat 0, .ofNat 29), (32, 1, .ofNat 31, .ofNat 31), (32, 2, .ofNat 31, .ofNat 40), (33, 120, .ofNat 7, .ofNat 7), (33, 121, .ofNat 0, .ofNat 0), (33, 122, .ofNat 0, .ofNat 29)], [(10, 210, .ofNat 0, .ofNat 29), (32, 1, .ofNat 30, .ofNat 30)], [10], (some (0, .ofNat 30, .ofNat 30)), 3, false)
theorem c_xu_31_3 (hL : L < 2 ^ 31) : ci L xs 121 k_xu_31_3 :=
  mi_ok (fc := 9000) (f := 9000) (cuts := []) (xk := jx) cl_lok cl_hrf (cl_hro L xs) hL jx_ok (by decide +kernel)
def k_xu_31 : ct_C := ([(2, .ofNat 8, .ofNat 8)], [(10, 210, .ofNat 0, .ofNat 29), (32, 1, .ofNat 31, .ofNat 31)], [(10, 210, .ofNat 0, .ofNat 29), (32, 1, .ofNat 0, .ofNat 40)], [10], (some (0, .ofNat 30, .ofNat 30)), 3, false)
theorem s_xu_31 (M : Nat → Nat → Int) (hm : sx_mok cl_ly M) (hJ : JJ M) (hg : ct_g k_xu_31.2.1 M) : ∃ m ∈ [k_xu_31_0, k_xu_31_1, k_xu_31_2, k_xu_31_3], ct_g m.2.1 M := by
  have hv : M 32 1 = 31 := by
    have h := hg (32, 1, .ofNat 31, .ofNat 31) (List.mem_cons_of_mem _ List.mem_cons_self)
    exact Int.le_antisymm h.2 h.1
  have hk := jr_kn hm
  have hu := jr_un hm
  have hd := hJ.2.2.1
  have he := hJ.2.2.2
  have h8 : jp (M 33 120) (M 33 121) (M 33 122) (M 33 123) := hJ.1 30 (by decide)
  obtain ⟨⟨b1, b2, b3, b4⟩, h8⟩ := h8
  rcases h8 with h8 | h8 | h8 | h8
  · exact ⟨k_xu_31_0, List.mem_cons_self, (jh (hg (10, 210, .ofNat 0, .ofNat 29) List.mem_cons_self) (jc (by show (31 : Int) ≤ M 32 1; omega) (by show M 32 1 ≤ (31 : Int); omega) (jc (by show (31 : Int) ≤ M 32 2; omega) (by show M 32 2 ≤ (40 : Int); omega) (jc (by show (0 : Int) ≤ M 33 120; omega) (by show M 33 120 ≤ (4 : Int); omega) (jc (by show (0 : Int) ≤ M 33 121; omega) (by show M 33 121 ≤ (5 : Int); omega) (jc (by show (-1 : Int) ≤ M 33 122; omega) (by show M 33 122 ≤ (143 : Int); omega) jn))))))⟩
  · exact ⟨k_xu_31_1, (List.mem_cons_of_mem _ List.mem_cons_self), (jh (hg (10, 210, .ofNat 0, .ofNat 29) List.mem_cons_self) (jc (by show (31 : Int) ≤ M 32 1; omega) (by show M 32 1 ≤ (31 : Int); omega) (jc (by show (31 : Int) ≤ M 32 2; omega) (by show M 32 2 ≤ (40 : Int); omega) (jc (by show (5 : Int) ≤ M 33 120; omega) (by show M 33 120 ≤ (5 : Int); omega) (jc (by show (0 : Int) ≤ M 33 121; omega) (by show M 33 121 ≤ (29 : Int); omega) (jc (by show (-1 : Int) ≤ M 33 122; omega) (by show M 33 122 ≤ (143 : Int); omega) jn))))))⟩
  · exact ⟨k_xu_31_2, (List.mem_cons_of_mem _ (List.mem_cons_of_mem _ List.mem_cons_self)), (jh (hg (10, 210, .ofNat 0, .ofNat 29) List.mem_cons_self) (jc (by show (31 : Int) ≤ M 32 1; omega) (by show M 32 1 ≤ (31 : Int); omega) (jc (by show (31 : Int) ≤ M 32 2; omega) (by show M 32 2 ≤ (40 : Int); omega) (jc (by show (6 : Int) ≤ M 33 120; omega) (by show M 33 120 ≤ (6 : Int); omega) (jc (by show (0 : Int) ≤ M 33 121; omega) (by show M 33 121 ≤ (11 : Int); omega) (jc (by show (-1 : Int) ≤ M 33 122; omega) (by show M 33 122 ≤ (143 : Int); omega) jn))))))⟩
  · exact ⟨k_xu_31_3, (List.mem_cons_of_mem _ (List.mem_cons_of_mem _ (List.mem_cons_of_mem _ List.mem_cons_self))), (jh (hg (10, 210, .ofNat 0, .ofNat 29) List.mem_cons_self) (jc (by show (31 : Int) ≤ M 32 1; omega) (by show M 32 1 ≤ (31 : Int); omega) (jc (by show (31 : Int) ≤ M 32 2; omega) (by show M 32 2 ≤ (40 : Int); omega) (jc (by show (7 : Int) ≤ M 33 120; omega) (by show M 33 120 ≤ (7 : Int); omega) (jc (by show (0 : Int) ≤ M 33 121; omega) (by show M 33 121 ≤ (0 : Int); omega) (jc (by show (0 : Int) ≤ M 33 122; omega) (by show M 33 122 ≤ (29 : Int); omega) jn))))))⟩
theorem c_xu_31 (hL : L < 2 ^ 31) : ci L xs 121 k_xu_31 :=
  ci_j_ok (ms := [k_xu_31_0, k_xu_31_1, k_xu_31_2, k_xu_31_3]) (jl_cons (c_xu_31_0 hL) (jl_cons (c_xu_31_1 hL) (jl_cons (c_xu_31_2 hL) (jl_cons (c_xu_31_3 hL) jl_nil)))) s_xu_31 (by decide +kernel)
def k_xu_32_0 : ct_C := ([(2, .ofNat 8, .ofNat 8)], [(10, 210, .ofNat 0, .ofNat 29), (32, 1, .ofNat 32, .ofNat 32), (32, 2, .ofNat 32, .ofNat 40), (33, 124, .ofNat 0, .ofNat 4), (33, 125, .ofNat 0, .ofNat 5), (33, 126, .negSucc 0, .ofNat 143)], [(10, 210, .ofNat 0, .ofNat 29), (32, 1, .ofNat 31, .ofNat 31)], [10], (some (0, .ofNat 31, .ofNat 31)), 3, false)
theorem c_xu_32_0 (hL : L < 2 ^ 31) : ci L xs 121 k_xu_32_0 :=
  mi_ok (fc := 9000) (f := 9000) (cuts := []) (xk := jx) cl_lok cl_hrf (cl_hro L xs) hL jx_ok (by decide +kernel)
def k_xu_32_1 : ct_C := ([(2, .ofNat 8, .ofNat 8)], [(10, 210, .ofNat 0, .ofNat 29), (32, 1, .ofNat 32, .ofNat 32), (32, 2, .ofNat 32, .ofNat 40), (33, 124, .ofNat 5, .ofNat 5), (33, 125, .ofNat 0, .ofNat 29), (33, 126, .negSucc 0, .ofNat 143)], [(10, 210, .ofNat 0, .ofNat 29), (32, 1, .ofNat 31, .ofNat 31)], [10], (some (0, .ofNat 31, .ofNat 31)), 3, false)
theorem c_xu_32_1 (hL : L < 2 ^ 31) : ci L xs 121 k_xu_32_1 :=
  mi_ok (fc := 9000) (f := 9000) (cuts := []) (xk := jx) cl_lok cl_hrf (cl_hro L xs) hL jx_ok (by decide +kernel)
def k_xu_32_2 : ct_C := ([(2, .ofNat 8, .ofNat 8)], [(10, 210, .ofNat 0, .ofNat 29), (32, 1, .ofNat 32, .ofNat 32), (32, 2, .ofNat 32, .ofNat 40), (33, 124, .ofNat 6, .ofNat 6), (33, 125, .ofNat 0, .ofNat 11), (33, 126, .negSucc 0, .ofNat 143)], [(10, 210, .ofNat 0, .ofNat 29), (32, 1, .ofNat 31, .ofNat 31)], [10], (some (0, .ofNat 31, .ofNat 31)), 3, false)
theorem c_xu_32_2 (hL : L < 2 ^ 31) : ci L xs 121 k_xu_32_2 :=
  mi_ok (fc := 9000) (f := 9000) (cuts := []) (xk := jx) cl_lok cl_hrf (cl_hro L xs) hL jx_ok (by decide +kernel)
def k_xu_32_3 : ct_C := ([(2, .ofNat 8, .ofNat 8)], [(10, 210, .ofNat 0, .ofNat 29), (32, 1, .ofNat 32, .ofNat 32), (32, 2, .ofNat 32, .ofNat 40), (33, 124, .ofNat 7, .ofNat 7), (33, 125, .ofNat 0, .ofNat 0), (33, 126, .ofNat 0, .ofNat 29)], [(10, 210, .ofNat 0, .ofNat 29), (32, 1, .ofNat 31, .ofNat 31)], [10], (some (0, .ofNat 31, .ofNat 31)), 3, false)
theorem c_xu_32_3 (hL : L < 2 ^ 31) : ci L xs 121 k_xu_32_3 :=
  mi_ok (fc := 9000) (f := 9000) (cuts := []) (xk := jx) cl_lok cl_hrf (cl_hro L xs) hL jx_ok (by decide +kernel)
def k_xu_32 : ct_C := ([(2, .ofNat 8, .ofNat 8)], [(10, 210, .ofNat 0, .ofNat 29), (32, 1, .ofNat 32, .ofNat 32)], [(10, 210, .ofNat 0, .ofNat 29), (32, 1, .ofNat 0, .ofNat 40)], [10], (some (0, .ofNat 31, .ofNat 31)), 3, false)
theorem s_xu_32 (M : Nat → Nat → Int) (hm : sx_mok cl_ly M) (hJ : JJ M) (hg : ct_g k_xu_32.2.1 M) : ∃ m ∈ [k_xu_32_0, k_xu_32_1, k_xu_32_2, k_xu_32_3], ct_g m.2.1 M := by
  have hv : M 32 1 = 32 := by
    have h := hg (32, 1, .ofNat 32, .ofNat 32) (List.mem_cons_of_mem _ List.mem_cons_self)
    exact Int.le_antisymm h.2 h.1
  have hk := jr_kn hm
  have hu := jr_un hm
  have hd := hJ.2.2.1
  have he := hJ.2.2.2
  have h8 : jp (M 33 124) (M 33 125) (M 33 126) (M 33 127) := hJ.1 31 (by decide)
  obtain ⟨⟨b1, b2, b3, b4⟩, h8⟩ := h8
  rcases h8 with h8 | h8 | h8 | h8
  · exact ⟨k_xu_32_0, List.mem_cons_self, (jh (hg (10, 210, .ofNat 0, .ofNat 29) List.mem_cons_self) (jc (by show (32 : Int) ≤ M 32 1; omega) (by show M 32 1 ≤ (32 : Int); omega) (jc (by show (32 : Int) ≤ M 32 2; omega) (by show M 32 2 ≤ (40 : Int); omega) (jc (by show (0 : Int) ≤ M 33 124; omega) (by show M 33 124 ≤ (4 : Int); omega) (jc (by show (0 : Int) ≤ M 33 125; omega) (by show M 33 125 ≤ (5 : Int); omega) (jc (by show (-1 : Int) ≤ M 33 126; omega) (by show M 33 126 ≤ (143 : Int); omega) jn))))))⟩
  · exact ⟨k_xu_32_1, (List.mem_cons_of_mem _ List.mem_cons_self), (jh (hg (10, 210, .ofNat 0, .ofNat 29) List.mem_cons_self) (jc (by show (32 : Int) ≤ M 32 1; omega) (by show M 32 1 ≤ (32 : Int); omega) (jc (by show (32 : Int) ≤ M 32 2; omega) (by show M 32 2 ≤ (40 : Int); omega) (jc (by show (5 : Int) ≤ M 33 124; omega) (by show M 33 124 ≤ (5 : Int); omega) (jc (by show (0 : Int) ≤ M 33 125; omega) (by show M 33 125 ≤ (29 : Int); omega) (jc (by show (-1 : Int) ≤ M 33 126; omega) (by show M 33 126 ≤ (143 : Int); omega) jn))))))⟩
  · exact ⟨k_xu_32_2, (List.mem_cons_of_mem _ (List.mem_cons_of_mem _ List.mem_cons_self)), (jh (hg (10, 210, .ofNat 0, .ofNat 29) List.mem_cons_self) (jc (by show (32 : Int) ≤ M 32 1; omega) (by show M 32 1 ≤ (32 : Int); omega) (jc (by show (32 : Int) ≤ M 32 2; omega) (by show M 32 2 ≤ (40 : Int); omega) (jc (by show (6 : Int) ≤ M 33 124; omega) (by show M 33 124 ≤ (6 : Int); omega) (jc (by show (0 : Int) ≤ M 33 125; omega) (by show M 33 125 ≤ (11 : Int); omega) (jc (by show (-1 : Int) ≤ M 33 126; omega) (by show M 33 126 ≤ (143 : Int); omega) jn))))))⟩
  · exact ⟨k_xu_32_3, (List.mem_cons_of_mem _ (List.mem_cons_of_mem _ (List.mem_cons_of_mem _ List.mem_cons_self))), (jh (hg (10, 210, .ofNat 0, .ofNat 29) List.mem_cons_self) (jc (by show (32 : Int) ≤ M 32 1; omega) (by show M 32 1 ≤ (32 : Int); omega) (jc (by show (32 : Int) ≤ M 32 2; omega) (by show M 32 2 ≤ (40 : Int); omega) (jc (by show (7 : Int) ≤ M 33 124; omega) (by show M 33 124 ≤ (7 : Int); omega) (jc (by show (0 : Int) ≤ M 33 125; omega) (by show M 33 125 ≤ (0 : Int); omega) (jc (by show (0 : Int) ≤ M 33 126; omega) (by show M 33 126 ≤ (29 : Int); omega) jn))))))⟩
theorem c_xu_32 (hL : L < 2 ^ 31) : ci L xs 121 k_xu_32 :=
  ci_j_ok (ms := [k_xu_32_0, k_xu_32_1, k_xu_32_2, k_xu_32_3]) (jl_cons (c_xu_32_0 hL) (jl_cons (c_xu_32_1 hL) (jl_cons (c_xu_32_2 hL) (jl_cons (c_xu_32_3 hL) jl_nil)))) s_xu_32 (by decide +kernel)
def k_xu_33_0 : ct_C := ([(2, .ofNat 8, .ofNat 8)], [(10, 210, .ofNat 0, .ofNat 29), (32, 1, .ofNat 33, .ofNat 33), (32, 2, .ofNat 33, .ofNat 40), (33, 128, .ofNat 0, .ofNat 4), (33, 129, .ofNat 0, .ofNat 5), (33, 130, .negSucc 0, .ofNat 143)], [(10, 210, .ofNat 0, .ofNat 29), (32, 1, .ofNat 32, .ofNat 32)], [10], (some (0, .ofNat 32, .ofNat 32)), 3, false)
theorem c_xu_33_0 (hL : L < 2 ^ 31) : ci L xs 121 k_xu_33_0 :=
  mi_ok (fc := 9000) (f := 9000) (cuts := []) (xk := jx) cl_lok cl_hrf (cl_hro L xs) hL jx_ok (by decide +kernel)
def k_xu_33_1 : ct_C := ([(2, .ofNat 8, .ofNat 8)], [(10, 210, .ofNat 0, .ofNat 29), (32, 1, .ofNat 33, .ofNat 33), (32, 2, .ofNat 33, .ofNat 40), (33, 128, .ofNat 5, .ofNat 5), (33, 129, .ofNat 0, .ofNat 29), (33, 130, .negSucc 0, .ofNat 143)], [(10, 210, .ofNat 0, .ofNat 29), (32, 1, .ofNat 32, .ofNat 32)], [10], (some (0, .ofNat 32, .ofNat 32)), 3, false)
theorem c_xu_33_1 (hL : L < 2 ^ 31) : ci L xs 121 k_xu_33_1 :=
  mi_ok (fc := 9000) (f := 9000) (cuts := []) (xk := jx) cl_lok cl_hrf (cl_hro L xs) hL jx_ok (by decide +kernel)
def k_xu_33_2 : ct_C := ([(2, .ofNat 8, .ofNat 8)], [(10, 210, .ofNat 0, .ofNat 29), (32, 1, .ofNat 33, .ofNat 33), (32, 2, .ofNat 33, .ofNat 40), (33, 128, .ofNat 6, .ofNat 6), (33, 129, .ofNat 0, .ofNat 11), (33, 130, .negSucc 0, .ofNat 143)], [(10, 210, .ofNat 0, .ofNat 29), (32, 1, .ofNat 32, .ofNat 32)], [10], (some (0, .ofNat 32, .ofNat 32)), 3, false)
theorem c_xu_33_2 (hL : L < 2 ^ 31) : ci L xs 121 k_xu_33_2 :=
  mi_ok (fc := 9000) (f := 9000) (cuts := []) (xk := jx) cl_lok cl_hrf (cl_hro L xs) hL jx_ok (by decide +kernel)
def k_xu_33_3 : ct_C := ([(2, .ofNat 8, .ofNat 8)], [(10, 210, .ofNat 0, .ofNat 29), (32, 1, .ofNat 33, .ofNat 33), (32, 2, .ofNat 33, .ofNat 40), (33, 128, .ofNat 7, .ofNat 7), (33, 129, .ofNat 0, .ofNat 0), (33, 130, .ofNat 0, .ofNat 29)], [(10, 210, .ofNat 0, .ofNat 29), (32, 1, .ofNat 32, .ofNat 32)], [10], (some (0, .ofNat 32, .ofNat 32)), 3, false)
theorem c_xu_33_3 (hL : L < 2 ^ 31) : ci L xs 121 k_xu_33_3 :=
  mi_ok (fc := 9000) (f := 9000) (cuts := []) (xk := jx) cl_lok cl_hrf (cl_hro L xs) hL jx_ok (by decide +kernel)
def k_xu_33 : ct_C := ([(2, .ofNat 8, .ofNat 8)], [(10, 210, .ofNat 0, .ofNat 29), (32, 1, .ofNat 33, .ofNat 33)], [(10, 210, .ofNat 0, .ofNat 29), (32, 1, .ofNat 0, .ofNat 40)], [10], (some (0, .ofNat 32, .ofNat 32)), 3, false)
theorem s_xu_33 (M : Nat → Nat → Int) (hm : sx_mok cl_ly M) (hJ : JJ M) (hg : ct_g k_xu_33.2.1 M) : ∃ m ∈ [k_xu_33_0, k_xu_33_1, k_xu_33_2, k_xu_33_3], ct_g m.2.1 M := by
  have hv : M 32 1 = 33 := by
    have h := hg (32, 1, .ofNat 33, .ofNat 33) (List.mem_cons_of_mem _ List.mem_cons_self)
    exact Int.le_antisymm h.2 h.1
  have hk := jr_kn hm
  have hu := jr_un hm
  have hd := hJ.2.2.1
  have he := hJ.2.2.2
  have h8 : jp (M 33 128) (M 33 129) (M 33 130) (M 33 131) := hJ.1 32 (by decide)
  obtain ⟨⟨b1, b2, b3, b4⟩, h8⟩ := h8
  rcases h8 with h8 | h8 | h8 | h8
  · exact ⟨k_xu_33_0, List.mem_cons_self, (jh (hg (10, 210, .ofNat 0, .ofNat 29) List.mem_cons_self) (jc (by show (33 : Int) ≤ M 32 1; omega) (by show M 32 1 ≤ (33 : Int); omega) (jc (by show (33 : Int) ≤ M 32 2; omega) (by show M 32 2 ≤ (40 : Int); omega) (jc (by show (0 : Int) ≤ M 33 128; omega) (by show M 33 128 ≤ (4 : Int); omega) (jc (by show (0 : Int) ≤ M 33 129; omega) (by show M 33 129 ≤ (5 : Int); omega) (jc (by show (-1 : Int) ≤ M 33 130; omega) (by show M 33 130 ≤ (143 : Int); omega) jn))))))⟩
  · exact ⟨k_xu_33_1, (List.mem_cons_of_mem _ List.mem_cons_self), (jh (hg (10, 210, .ofNat 0, .ofNat 29) List.mem_cons_self) (jc (by show (33 : Int) ≤ M 32 1; omega) (by show M 32 1 ≤ (33 : Int); omega) (jc (by show (33 : Int) ≤ M 32 2; omega) (by show M 32 2 ≤ (40 : Int); omega) (jc (by show (5 : Int) ≤ M 33 128; omega) (by show M 33 128 ≤ (5 : Int); omega) (jc (by show (0 : Int) ≤ M 33 129; omega) (by show M 33 129 ≤ (29 : Int); omega) (jc (by show (-1 : Int) ≤ M 33 130; omega) (by show M 33 130 ≤ (143 : Int); omega) jn))))))⟩
  · exact ⟨k_xu_33_2, (List.mem_cons_of_mem _ (List.mem_cons_of_mem _ List.mem_cons_self)), (jh (hg (10, 210, .ofNat 0, .ofNat 29) List.mem_cons_self) (jc (by show (33 : Int) ≤ M 32 1; omega) (by show M 32 1 ≤ (33 : Int); omega) (jc (by show (33 : Int) ≤ M 32 2; omega) (by show M 32 2 ≤ (40 : Int); omega) (jc (by show (6 : Int) ≤ M 33 128; omega) (by show M 33 128 ≤ (6 : Int); omega) (jc (by show (0 : Int) ≤ M 33 129; omega) (by show M 33 129 ≤ (11 : Int); omega) (jc (by show (-1 : Int) ≤ M 33 130; omega) (by show M 33 130 ≤ (143 : Int); omega) jn))))))⟩
  · exact ⟨k_xu_33_3, (List.mem_cons_of_mem _ (List.mem_cons_of_mem _ (List.mem_cons_of_mem _ List.mem_cons_self))), (jh (hg (10, 210, .ofNat 0, .ofNat 29) List.mem_cons_self) (jc (by show (33 : Int) ≤ M 32 1; omega) (by show M 32 1 ≤ (33 : Int); omega) (jc (by show (33 : Int) ≤ M 32 2; omega) (by show M 32 2 ≤ (40 : Int); omega) (jc (by show (7 : Int) ≤ M 33 128; omega) (by show M 33 128 ≤ (7 : Int); omega) (jc (by show (0 : Int) ≤ M 33 129; omega) (by show M 33 129 ≤ (0 : Int); omega) (jc (by show (0 : Int) ≤ M 33 130; omega) (by show M 33 130 ≤ (29 : Int); omega) jn))))))⟩
theorem c_xu_33 (hL : L < 2 ^ 31) : ci L xs 121 k_xu_33 :=
  ci_j_ok (ms := [k_xu_33_0, k_xu_33_1, k_xu_33_2, k_xu_33_3]) (jl_cons (c_xu_33_0 hL) (jl_cons (c_xu_33_1 hL) (jl_cons (c_xu_33_2 hL) (jl_cons (c_xu_33_3 hL) jl_nil)))) s_xu_33 (by decide +kernel)
def k_xu_34_0 : ct_C := ([(2, .ofNat 8, .ofNat 8)], [(10, 210, .ofNat 0, .ofNat 29), (32, 1, .ofNat 34, .ofNat 34), (32, 2, .ofNat 34, .ofNat 40), (33, 132, .ofNat 0, .ofNat 4), (33, 133, .ofNat 0, .ofNat 5), (33, 134, .negSucc 0, .ofNat 143)], [(10, 210, .ofNat 0, .ofNat 29), (32, 1, .ofNat 33, .ofNat 33)], [10], (some (0, .ofNat 33, .ofNat 33)), 3, false)
theorem c_xu_34_0 (hL : L < 2 ^ 31) : ci L xs 121 k_xu_34_0 :=
  mi_ok (fc := 9000) (f := 9000) (cuts := []) (xk := jx) cl_lok cl_hrf (cl_hro L xs) hL jx_ok (by decide +kernel)
def k_xu_34_1 : ct_C := ([(2, .ofNat 8, .ofNat 8)], [(10, 210, .ofNat 0, .ofNat 29), (32, 1, .ofNat 34, .ofNat 34), (32, 2, .ofNat 34, .ofNat 40), (33, 132, .ofNat 5, .ofNat 5), (33, 133, .ofNat 0, .ofNat 29), (33, 134, .negSucc 0, .ofNat 143)], [(10, 210, .ofNat 0, .ofNat 29), (32, 1, .ofNat 33, .ofNat 33)], [10], (some (0, .ofNat 33, .ofNat 33)), 3, false)
theorem c_xu_34_1 (hL : L < 2 ^ 31) : ci L xs 121 k_xu_34_1 :=
  mi_ok (fc := 9000) (f := 9000) (cuts := []) (xk := jx) cl_lok cl_hrf (cl_hro L xs) hL jx_ok (by decide +kernel)
def k_xu_34_2 : ct_C := ([(2, .ofNat 8, .ofNat 8)], [(10, 210, .ofNat 0, .ofNat 29), (32, 1, .ofNat 34, .ofNat 34), (32, 2, .ofNat 34, .ofNat 40), (33, 132, .ofNat 6, .ofNat 6), (33, 133, .ofNat 0, .ofNat 11), (33, 134, .negSucc 0, .ofNat 143)], [(10, 210, .ofNat 0, .ofNat 29), (32, 1, .ofNat 33, .ofNat 33)], [10], (some (0, .ofNat 33, .ofNat 33)), 3, false)
theorem c_xu_34_2 (hL : L < 2 ^ 31) : ci L xs 121 k_xu_34_2 :=
  mi_ok (fc := 9000) (f := 9000) (cuts := []) (xk := jx) cl_lok cl_hrf (cl_hro L xs) hL jx_ok (by decide +kernel)
def k_xu_34_3 : ct_C := ([(2, .ofNat 8, .ofNat 8)], [(10, 210, .ofNat 0, .ofNat 29), (32, 1, .ofNat 34, .ofNat 34), (32, 2, .ofNat 34, .ofNat 40), (33, 132, .ofNat 7, .ofNat 7), (33, 133, .ofNat 0, .ofNat 0), (33, 134, .ofNat 0, .ofNat 29)], [(10, 210, .ofNat 0, .ofNat 29), (32, 1, .ofNat 33, .ofNat 33)], [10], (some (0, .ofNat 33, .ofNat 33)), 3, false)
theorem c_xu_34_3 (hL : L < 2 ^ 31) : ci L xs 121 k_xu_34_3 :=
  mi_ok (fc := 9000) (f := 9000) (cuts := []) (xk := jx) cl_lok cl_hrf (cl_hro L xs) hL jx_ok (by decide +kernel)
def k_xu_34 : ct_C := ([(2, .ofNat 8, .ofNat 8)], [(10, 210, .ofNat 0, .ofNat 29), (32, 1, .ofNat 34, .ofNat 34)], [(10, 210, .ofNat 0, .ofNat 29), (32, 1, .ofNat 0, .ofNat 40)], [10], (some (0, .ofNat 33, .ofNat 33)), 3, false)
theorem s_xu_34 (M : Nat → Nat → Int) (hm : sx_mok cl_ly M) (hJ : JJ M) (hg : ct_g k_xu_34.2.1 M) : ∃ m ∈ [k_xu_34_0, k_xu_34_1, k_xu_34_2, k_xu_34_3], ct_g m.2.1 M := by
  have hv : M 32 1 = 34 := by
    have h := hg (32, 1, .ofNat 34, .ofNat 34) (List.mem_cons_of_mem _ List.mem_cons_self)
    exact Int.le_antisymm h.2 h.1
  have hk := jr_kn hm
  have hu := jr_un hm
  have hd := hJ.2.2.1
  have he := hJ.2.2.2
  have h8 : jp (M 33 132) (M 33 133) (M 33 134) (M 33 135) := hJ.1 33 (by decide)
  obtain ⟨⟨b1, b2, b3, b4⟩, h8⟩ := h8
  rcases h8 with h8 | h8 | h8 | h8
  · exact ⟨k_xu_34_0, List.mem_cons_self, (jh (hg (10, 210, .ofNat 0, .ofNat 29) List.mem_cons_self) (jc (by show (34 : Int) ≤ M 32 1; omega) (by show M 32 1 ≤ (34 : Int); omega) (jc (by show (34 : Int) ≤ M 32 2; omega) (by show M 32 2 ≤ (40 : Int); omega) (jc (by show (0 : Int) ≤ M 33 132; omega) (by show M 33 132 ≤ (4 : Int); omega) (jc (by show (0 : Int) ≤ M 33 133; omega) (by show M 33 133 ≤ (5 : Int); omega) (jc (by show (-1 : Int) ≤ M 33 134; omega) (by show M 33 134 ≤ (143 : Int); omega) jn))))))⟩
  · exact ⟨k_xu_34_1, (List.mem_cons_of_mem _ List.mem_cons_self), (jh (hg (10, 210, .ofNat 0, .ofNat 29) List.mem_cons_self) (jc (by show (34 : Int) ≤ M 32 1; omega) (by show M 32 1 ≤ (34 : Int); omega) (jc (by show (34 : Int) ≤ M 32 2; omega) (by show M 32 2 ≤ (40 : Int); omega) (jc (by show (5 : Int) ≤ M 33 132; omega) (by show M 33 132 ≤ (5 : Int); omega) (jc (by show (0 : Int) ≤ M 33 133; omega) (by show M 33 133 ≤ (29 : Int); omega) (jc (by show (-1 : Int) ≤ M 33 134; omega) (by show M 33 134 ≤ (143 : Int); omega) jn))))))⟩
  · exact ⟨k_xu_34_2, (List.mem_cons_of_mem _ (List.mem_cons_of_mem _ List.mem_cons_self)), (jh (hg (10, 210, .ofNat 0, .ofNat 29) List.mem_cons_self) (jc (by show (34 : Int) ≤ M 32 1; omega) (by show M 32 1 ≤ (34 : Int); omega) (jc (by show (34 : Int) ≤ M 32 2; omega) (by show M 32 2 ≤ (40 : Int); omega) (jc (by show (6 : Int) ≤ M 33 132; omega) (by show M 33 132 ≤ (6 : Int); omega) (jc (by show (0 : Int) ≤ M 33 133; omega) (by show M 33 133 ≤ (11 : Int); omega) (jc (by show (-1 : Int) ≤ M 33 134; omega) (by show M 33 134 ≤ (143 : Int); omega) jn))))))⟩
  · exact ⟨k_xu_34_3, (List.mem_cons_of_mem _ (List.mem_cons_of_mem _ (List.mem_cons_of_mem _ List.mem_cons_self))), (jh (hg (10, 210, .ofNat 0, .ofNat 29) List.mem_cons_self) (jc (by show (34 : Int) ≤ M 32 1; omega) (by show M 32 1 ≤ (34 : Int); omega) (jc (by show (34 : Int) ≤ M 32 2; omega) (by show M 32 2 ≤ (40 : Int); omega) (jc (by show (7 : Int) ≤ M 33 132; omega) (by show M 33 132 ≤ (7 : Int); omega) (jc (by show (0 : Int) ≤ M 33 133; omega) (by show M 33 133 ≤ (0 : Int); omega) (jc (by show (0 : Int) ≤ M 33 134; omega) (by show M 33 134 ≤ (29 : Int); omega) jn))))))⟩
theorem c_xu_34 (hL : L < 2 ^ 31) : ci L xs 121 k_xu_34 :=
  ci_j_ok (ms := [k_xu_34_0, k_xu_34_1, k_xu_34_2, k_xu_34_3]) (jl_cons (c_xu_34_0 hL) (jl_cons (c_xu_34_1 hL) (jl_cons (c_xu_34_2 hL) (jl_cons (c_xu_34_3 hL) jl_nil)))) s_xu_34 (by decide +kernel)
def k_xu_35_0 : ct_C := ([(2, .ofNat 8, .ofNat 8)], [(10, 210, .ofNat 0, .ofNat 29), (32, 1, .ofNat 35, .ofNat 35), (32, 2, .ofNat 35, .ofNat 40), (33, 136, .ofNat 0, .ofNat 4), (33, 137, .ofNat 0, .ofNat 5), (33, 138, .negSucc 0, .ofNat 143)], [(10, 210, .ofNat 0, .ofNat 29), (32, 1, .ofNat 34, .ofNat 34)], [10], (some (0, .ofNat 34, .ofNat 34)), 3, false)
theorem c_xu_35_0 (hL : L < 2 ^ 31) : ci L xs 121 k_xu_35_0 :=
  mi_ok (fc := 9000) (f := 9000) (cuts := []) (xk := jx) cl_lok cl_hrf (cl_hro L xs) hL jx_ok (by decide +kernel)
def k_xu_35_1 : ct_C := ([(2, .ofNat 8, .ofNat 8)], [(10, 210, .ofNat 0, .ofNat 29), (32, 1, .ofNat 35, .ofNat 35), (32, 2, .ofNat 35, .ofNat 40), (33, 136, .ofNat 5, .ofNat 5), (33, 137, .ofNat 0, .ofNat 29), (33, 138, .negSucc 0, .ofNat 143)], [(10, 210, .ofNat 0, .ofNat 29), (32, 1, .ofNat 34, .ofNat 34)], [10], (some (0, .ofNat 34, .ofNat 34)), 3, false)
theorem c_xu_35_1 (hL : L < 2 ^ 31) : ci L xs 121 k_xu_35_1 :=
  mi_ok (fc := 9000) (f := 9000) (cuts := []) (xk := jx) cl_lok cl_hrf (cl_hro L xs) hL jx_ok (by decide +kernel)
def k_xu_35_2 : ct_C := ([(2, .ofNat 8, .ofNat 8)], [(10, 210, .ofNat 0, .ofNat 29), (32, 1, .ofNat 35, .ofNat 35), (32, 2, .ofNat 35, .ofNat 40), (33, 136, .ofNat 6, .ofNat 6), (33, 137, .ofNat 0, .ofNat 11), (33, 138, .negSucc 0, .ofNat 143)], [(10, 210, .ofNat 0, .ofNat 29), (32, 1, .ofNat 34, .ofNat 34)], [10], (some (0, .ofNat 34, .ofNat 34)), 3, false)
theorem c_xu_35_2 (hL : L < 2 ^ 31) : ci L xs 121 k_xu_35_2 :=
  mi_ok (fc := 9000) (f := 9000) (cuts := []) (xk := jx) cl_lok cl_hrf (cl_hro L xs) hL jx_ok (by decide +kernel)
def k_xu_35_3 : ct_C := ([(2, .ofNat 8, .ofNat 8)], [(10, 210, .ofNat 0, .ofNat 29), (32, 1, .ofNat 35, .ofNat 35), (32, 2, .ofNat 35, .ofNat 40), (33, 136, .ofNat 7, .ofNat 7), (33, 137, .ofNat 0, .ofNat 0), (33, 138, .ofNat 0, .ofNat 29)], [(10, 210, .ofNat 0, .ofNat 29), (32, 1, .ofNat 34, .ofNat 34)], [10], (some (0, .ofNat 34, .ofNat 34)), 3, false)
theorem c_xu_35_3 (hL : L < 2 ^ 31) : ci L xs 121 k_xu_35_3 :=
  mi_ok (fc := 9000) (f := 9000) (cuts := []) (xk := jx) cl_lok cl_hrf (cl_hro L xs) hL jx_ok (by decide +kernel)
def k_xu_35 : ct_C := ([(2, .ofNat 8, .ofNat 8)], [(10, 210, .ofNat 0, .ofNat 29), (32, 1, .ofNat 35, .ofNat 35)], [(10, 210, .ofNat 0, .ofNat 29), (32, 1, .ofNat 0, .ofNat 40)], [10], (some (0, .ofNat 34, .ofNat 34)), 3, false)
theorem s_xu_35 (M : Nat → Nat → Int) (hm : sx_mok cl_ly M) (hJ : JJ M) (hg : ct_g k_xu_35.2.1 M) : ∃ m ∈ [k_xu_35_0, k_xu_35_1, k_xu_35_2, k_xu_35_3], ct_g m.2.1 M := by
  have hv : M 32 1 = 35 := by
    have h := hg (32, 1, .ofNat 35, .ofNat 35) (List.mem_cons_of_mem _ List.mem_cons_self)
    exact Int.le_antisymm h.2 h.1
  have hk := jr_kn hm
  have hu := jr_un hm
  have hd := hJ.2.2.1
  have he := hJ.2.2.2
  have h8 : jp (M 33 136) (M 33 137) (M 33 138) (M 33 139) := hJ.1 34 (by decide)
  obtain ⟨⟨b1, b2, b3, b4⟩, h8⟩ := h8
  rcases h8 with h8 | h8 | h8 | h8
  · exact ⟨k_xu_35_0, List.mem_cons_self, (jh (hg (10, 210, .ofNat 0, .ofNat 29) List.mem_cons_self) (jc (by show (35 : Int) ≤ M 32 1; omega) (by show M 32 1 ≤ (35 : Int); omega) (jc (by show (35 : Int) ≤ M 32 2; omega) (by show M 32 2 ≤ (40 : Int); omega) (jc (by show (0 : Int) ≤ M 33 136; omega) (by show M 33 136 ≤ (4 : Int); omega) (jc (by show (0 : Int) ≤ M 33 137; omega) (by show M 33 137 ≤ (5 : Int); omega) (jc (by show (-1 : Int) ≤ M 33 138; omega) (by show M 33 138 ≤ (143 : Int); omega) jn))))))⟩
  · exact ⟨k_xu_35_1, (List.mem_cons_of_mem _ List.mem_cons_self), (jh (hg (10, 210, .ofNat 0, .ofNat 29) List.mem_cons_self) (jc (by show (35 : Int) ≤ M 32 1; omega) (by show M 32 1 ≤ (35 : Int); omega) (jc (by show (35 : Int) ≤ M 32 2; omega) (by show M 32 2 ≤ (40 : Int); omega) (jc (by show (5 : Int) ≤ M 33 136; omega) (by show M 33 136 ≤ (5 : Int); omega) (jc (by show (0 : Int) ≤ M 33 137; omega) (by show M 33 137 ≤ (29 : Int); omega) (jc (by show (-1 : Int) ≤ M 33 138; omega) (by show M 33 138 ≤ (143 : Int); omega) jn))))))⟩
  · exact ⟨k_xu_35_2, (List.mem_cons_of_mem _ (List.mem_cons_of_mem _ List.mem_cons_self)), (jh (hg (10, 210, .ofNat 0, .ofNat 29) List.mem_cons_self) (jc (by show (35 : Int) ≤ M 32 1; omega) (by show M 32 1 ≤ (35 : Int); omega) (jc (by show (35 : Int) ≤ M 32 2; omega) (by show M 32 2 ≤ (40 : Int); omega) (jc (by show (6 : Int) ≤ M 33 136; omega) (by show M 33 136 ≤ (6 : Int); omega) (jc (by show (0 : Int) ≤ M 33 137; omega) (by show M 33 137 ≤ (11 : Int); omega) (jc (by show (-1 : Int) ≤ M 33 138; omega) (by show M 33 138 ≤ (143 : Int); omega) jn))))))⟩
  · exact ⟨k_xu_35_3, (List.mem_cons_of_mem _ (List.mem_cons_of_mem _ (List.mem_cons_of_mem _ List.mem_cons_self))), (jh (hg (10, 210, .ofNat 0, .ofNat 29) List.mem_cons_self) (jc (by show (35 : Int) ≤ M 32 1; omega) (by show M 32 1 ≤ (35 : Int); omega) (jc (by show (35 : Int) ≤ M 32 2; omega) (by show M 32 2 ≤ (40 : Int); omega) (jc (by show (7 : Int) ≤ M 33 136; omega) (by show M 33 136 ≤ (7 : Int); omega) (jc (by show (0 : Int) ≤ M 33 137; omega) (by show M 33 137 ≤ (0 : Int); omega) (jc (by show (0 : Int) ≤ M 33 138; omega) (by show M 33 138 ≤ (29 : Int); omega) jn))))))⟩
theorem c_xu_35 (hL : L < 2 ^ 31) : ci L xs 121 k_xu_35 :=
  ci_j_ok (ms := [k_xu_35_0, k_xu_35_1, k_xu_35_2, k_xu_35_3]) (jl_cons (c_xu_35_0 hL) (jl_cons (c_xu_35_1 hL) (jl_cons (c_xu_35_2 hL) (jl_cons (c_xu_35_3 hL) jl_nil)))) s_xu_35 (by decide +kernel)
def k_xu_36_0 : ct_C := ([(2, .ofNat 8, .ofNat 8)], [(10, 210, .ofNat 0, .ofNat 29), (32, 1, .ofNat 36, .ofNat 36), (32, 2, .ofNat 36, .ofNat 40), (33, 140, .ofNat 0, .ofNat 4), (33, 141, .ofNat 0, .ofNat 5), (33, 142, .negSucc 0, .ofNat 143)], [(10, 210, .ofNat 0, .ofNat 29), (32, 1, .ofNat 35, .ofNat 35)], [10], (some (0, .ofNat 35, .ofNat 35)), 3, false)
theorem c_xu_36_0 (hL : L < 2 ^ 31) : ci L xs 121 k_xu_36_0 :=
  mi_ok (fc := 9000) (f := 9000) (cuts := []) (xk := jx) cl_lok cl_hrf (cl_hro L xs) hL jx_ok (by decide +kernel)
def k_xu_36_1 : ct_C := ([(2, .ofNat 8, .ofNat 8)], [(10, 210, .ofNat 0, .ofNat 29), (32, 1, .ofNat 36, .ofNat 36), (32, 2, .ofNat 36, .ofNat 40), (33, 140, .ofNat 5, .ofNat 5), (33, 141, .ofNat 0, .ofNat 29), (33, 142, .negSucc 0, .ofNat 143)], [(10, 210, .ofNat 0, .ofNat 29), (32, 1, .ofNat 35, .ofNat 35)], [10], (some (0, .ofNat 35, .ofNat 35)), 3, false)
theorem c_xu_36_1 (hL : L < 2 ^ 31) : ci L xs 121 k_xu_36_1 :=
  mi_ok (fc := 9000) (f := 9000) (cuts := []) (xk := jx) cl_lok cl_hrf (cl_hro L xs) hL jx_ok (by decide +kernel)
def k_xu_36_2 : ct_C := ([(2, .ofNat 8, .ofNat 8)], [(10, 210, .ofNat 0, .ofNat 29), (32, 1, .ofNat 36, .ofNat 36), (32, 2, .ofNat 36, .ofNat 40), (33, 140, .ofNat 6, .ofNat 6), (33, 141, .ofNat 0, .ofNat 11), (33, 142, .negSucc 0, .ofNat 143)], [(10, 210, .ofNat 0, .ofNat 29), (32, 1, .ofNat 35, .ofNat 35)], [10], (some (0, .ofNat 35, .ofNat 35)), 3, false)
theorem c_xu_36_2 (hL : L < 2 ^ 31) : ci L xs 121 k_xu_36_2 :=
  mi_ok (fc := 9000) (f := 9000) (cuts := []) (xk := jx) cl_lok cl_hrf (cl_hro L xs) hL jx_ok (by decide +kernel)
def k_xu_36_3 : ct_C := ([(2, .ofNat 8, .ofNat 8)], [(10, 210, .ofNat 0, .ofNat 29), (32, 1, .ofNat 36, .ofNat 36), (32, 2, .ofNat 36, .ofNat 40), (33, 140, .ofNat 7, .ofNat 7), (33, 141, .ofNat 0, .ofNat 0), (33, 142, .ofNat 0, .ofNat 29)], [(10, 210, .ofNat 0, .ofNat 29), (32, 1, .ofNat 35, .ofNat 35)], [10], (some (0, .ofNat 35, .ofNat 35)), 3, false)
theorem c_xu_36_3 (hL : L < 2 ^ 31) : ci L xs 121 k_xu_36_3 :=
  mi_ok (fc := 9000) (f := 9000) (cuts := []) (xk := jx) cl_lok cl_hrf (cl_hro L xs) hL jx_ok (by decide +kernel)
end
