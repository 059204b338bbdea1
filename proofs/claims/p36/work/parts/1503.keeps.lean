/-! mend, undo, redo, 3. -/
section
variable {L : Nat} {xs : Nat → Int32}
def k_xu_36 : ct_C := ([(2, .ofNat 8, .ofNat 8)], [(10, 210, .ofNat 0, .ofNat 29), (32, 1, .ofNat 36, .ofNat 36)], [(10, 210, .ofNat 0, .ofNat 29), (32, 1, .ofNat 0, .ofNat 40)], [10], (some (0, .ofNat 35, .ofNat 35)), 3, false)
theorem s_xu_36 (M : Nat → Nat → Int) (hm : sx_mok cl_ly M) (hJ : JJ M) (hg : ct_g k_xu_36.2.1 M) : ∃ m ∈ [k_xu_36_0, k_xu_36_1, k_xu_36_2, k_xu_36_3], ct_g m.2.1 M := by
  have hv : M 32 1 = 36 := by
    have h := hg (32, 1, .ofNat 36, .ofNat 36) (List.mem_cons_of_mem _ List.mem_cons_self)
    exact Int.le_antisymm h.2 h.1
  have hk := jr_kn hm
  have hu := jr_un hm
  have hd := hJ.2.2.1
  have he := hJ.2.2.2
  have h8 : jp (M 33 140) (M 33 141) (M 33 142) (M 33 143) := hJ.1 35 (by decide)
  obtain ⟨⟨b1, b2, b3, b4⟩, h8⟩ := h8
  rcases h8 with h8 | h8 | h8 | h8
  · exact ⟨k_xu_36_0, List.mem_cons_self, (jh (hg (10, 210, .ofNat 0, .ofNat 29) List.mem_cons_self) (jc (by show (36 : Int) ≤ M 32 1; omega) (by show M 32 1 ≤ (36 : Int); omega) (jc (by show (36 : Int) ≤ M 32 2; omega) (by show M 32 2 ≤ (40 : Int); omega) (jc (by show (0 : Int) ≤ M 33 140; omega) (by show M 33 140 ≤ (4 : Int); omega) (jc (by show (0 : Int) ≤ M 33 141; omega) (by show M 33 141 ≤ (5 : Int); omega) (jc (by show (-1 : Int) ≤ M 33 142; omega) (by show M 33 142 ≤ (143 : Int); omega) jn))))))⟩
  · exact ⟨k_xu_36_1, (List.mem_cons_of_mem _ List.mem_cons_self), (jh (hg (10, 210, .ofNat 0, .ofNat 29) List.mem_cons_self) (jc (by show (36 : Int) ≤ M 32 1; omega) (by show M 32 1 ≤ (36 : Int); omega) (jc (by show (36 : Int) ≤ M 32 2; omega) (by show M 32 2 ≤ (40 : Int); omega) (jc (by show (5 : Int) ≤ M 33 140; omega) (by show M 33 140 ≤ (5 : Int); omega) (jc (by show (0 : Int) ≤ M 33 141; omega) (by show M 33 141 ≤ (29 : Int); omega) (jc (by show (-1 : Int) ≤ M 33 142; omega) (by show M 33 142 ≤ (143 : Int); omega) jn))))))⟩
  · exact ⟨k_xu_36_2, (List.mem_cons_of_mem _ (List.mem_cons_of_mem _ List.mem_cons_self)), (jh (hg (10, 210, .ofNat 0, .ofNat 29) List.mem_cons_self) (jc (by show (36 : Int) ≤ M 32 1; omega) (by show M 32 1 ≤ (36 : Int); omega) (jc (by show (36 : Int) ≤ M 32 2; omega) (by show M 32 2 ≤ (40 : Int); omega) (jc (by show (6 : Int) ≤ M 33 140; omega) (by show M 33 140 ≤ (6 : Int); omega) (jc (by show (0 : Int) ≤ M 33 141; omega) (by show M 33 141 ≤ (11 : Int); omega) (jc (by show (-1 : Int) ≤ M 33 142; omega) (by show M 33 142 ≤ (143 : Int); omega) jn))))))⟩
  · exact ⟨k_xu_36_3, (List.mem_cons_of_mem _ (List.mem_cons_of_mem _ (List.mem_cons_of_mem _ List.mem_cons_self))), (jh (hg (10, 210, .ofNat 0, .ofNat 29) List.mem_cons_self) (jc (by show (36 : Int) ≤ M 32 1; omega) (by show M 32 1 ≤ (36 : Int); omega) (jc (by show (36 : Int) ≤ M 32 2; omega) (by show M 32 2 ≤ (40 : Int); omega) (jc (by show (7 : Int) ≤ M 33 140; omega) (by show M 33 140 ≤ (7 : Int); omega) (jc (by show (0 : Int) ≤ M 33 141; omega) (by show M 33 141 ≤ (0 : Int); omega) (jc (by show (0 : Int) ≤ M 33 142; omega) (by show M 33 142 ≤ (29 : Int); omega) jn))))))⟩
theorem c_xu_36 (hL : L < 2 ^ 31) : ci L xs 121 k_xu_36 :=
  ci_j_ok (ms := [k_xu_36_0, k_xu_36_1, k_xu_36_2, k_xu_36_3]) (jl_cons (c_xu_36_0 hL) (jl_cons (c_xu_36_1 hL) (jl_cons (c_xu_36_2 hL) (jl_cons (c_xu_36_3 hL) jl_nil)))) s_xu_36 (by decide +kernel)
def k_xu_37_0 : ct_C := ([(2, .ofNat 8, .ofNat 8)], [(10, 210, .ofNat 0, .ofNat 29), (32, 1, .ofNat 37, .ofNat 37), (32, 2, .ofNat 37, .ofNat 40), (33, 144, .ofNat 0, .ofNat 4), (33, 145, .ofNat 0, .ofNat 5), (33, 146, .negSucc 0, .ofNat 143)], [(10, 210, .ofNat 0, .ofNat 29), (32, 1, .ofNat 36, .ofNat 36)], [10], (some (0, .ofNat 36, .ofNat 36)), 3, false)
theorem c_xu_37_0 (hL : L < 2 ^ 31) : ci L xs 121 k_xu_37_0 :=
  mi_ok (fc := 9000) (f := 9000) (cuts := []) (xk := jx) cl_lok cl_hrf (cl_hro L xs) hL jx_ok (by decide +kernel)
def k_xu_37_1 : ct_C := ([(2, .ofNat 8, .ofNat 8)], [(10, 210, .ofNat 0, .ofNat 29), (32, 1, .ofNat 37, .ofNat 37), (32, 2, .ofNat 37, .ofNat 40), (33, 144, .ofNat 5, .ofNat 5), (33, 145, .ofNat 0, .ofNat 29), (33, 146, .negSucc 0, .ofNat 143)], [(10, 210, .ofNat 0, .ofNat 29), (32, 1, .ofNat 36, .ofNat 36)], [10], (some (0, .ofNat 36, .ofNat 36)), 3, false)
theorem c_xu_37_1 (hL : L < 2 ^ 31) : ci L xs 121 k_xu_37_1 :=
  mi_ok (fc := 9000) (f := 9000) (cuts := []) (xk := jx) cl_lok cl_hrf (cl_hro L xs) hL jx_ok (by decide +kernel)
def k_xu_37_2 : ct_C := ([(2, .ofNat 8, .ofNat 8)], [(10, 210, .ofNat 0, .ofNat 29), (32, 1, .ofNat 37, .ofNat 37), (32, 2, .ofNat 37, .ofNat 40), (33, 144, .ofNat 6, .ofNat 6), (33, 145, .ofNat 0, .ofNat 11), (33, 146, .negSucc 0, .ofNat 143)], [(10, 210, .ofNat 0, .ofNat 29), (32, 1, .ofNat 36, .ofNat 36)], [10], (some (0, .ofNat 36, .ofNat 36)), 3, false)
theorem c_xu_37_2 (hL : L < 2 ^ 31) : ci L xs 121 k_xu_37_2 :=
  mi_ok (fc := 9000) (f := 9000) (cuts := []) (xk := jx) cl_lok cl_hrf (cl_hro L xs) hL jx_ok (by decide +kernel)
def k_xu_37_3 : ct_C := ([(2, .ofNat 8, .ofNat 8)], [(10, 210, .ofNat 0, .ofNat 29), (32, 1, .ofNat 37, .ofNat 37), (32, 2, .ofNat 37, .ofNat 40), (33, 144, .ofNat 7, .ofNat 7), (33, 145, .ofNat 0, .ofNat 0), (33, 146, .ofNat 0, .ofNat 29)], [(10, 210, .ofNat 0, .ofNat 29), (32, 1, .ofNat 36, .ofNat 36)], [10], (some (0, .ofNat 36, .ofNat 36)), 3, false)
theorem c_xu_37_3 (hL : L < 2 ^ 31) : ci L xs 121 k_xu_37_3 :=
  mi_ok (fc := 9000) (f := 9000) (cuts := []) (xk := jx) cl_lok cl_hrf (cl_hro L xs) hL jx_ok (by decide +kernel)
def k_xu_37 : ct_C := ([(2, .ofNat 8, .ofNat 8)], [(10, 210, .ofNat 0, .ofNat 29), (32, 1, .ofNat 37, .ofNat 37)], [(10, 210, .ofNat 0, .ofNat 29), (32, 1, .ofNat 0, .ofNat 40)], [10], (some (0, .ofNat 36, .ofNat 36)), 3, false)
theorem s_xu_37 (M : Nat → Nat → Int) (hm : sx_mok cl_ly M) (hJ : JJ M) (hg : ct_g k_xu_37.2.1 M) : ∃ m ∈ [k_xu_37_0, k_xu_37_1, k_xu_37_2, k_xu_37_3], ct_g m.2.1 M := by
  have hv : M 32 1 = 37 := by
    have h := hg (32, 1, .ofNat 37, .ofNat 37) (List.mem_cons_of_mem _ List.mem_cons_self)
    exact Int.le_antisymm h.2 h.1
  have hk := jr_kn hm
  have hu := jr_un hm
  have hd := hJ.2.2.1
  have he := hJ.2.2.2
  have h8 : jp (M 33 144) (M 33 145) (M 33 146) (M 33 147) := hJ.1 36 (by decide)
  obtain ⟨⟨b1, b2, b3, b4⟩, h8⟩ := h8
  rcases h8 with h8 | h8 | h8 | h8
  · exact ⟨k_xu_37_0, List.mem_cons_self, (jh (hg (10, 210, .ofNat 0, .ofNat 29) List.mem_cons_self) (jc (by show (37 : Int) ≤ M 32 1; omega) (by show M 32 1 ≤ (37 : Int); omega) (jc (by show (37 : Int) ≤ M 32 2; omega) (by show M 32 2 ≤ (40 : Int); omega) (jc (by show (0 : Int) ≤ M 33 144; omega) (by show M 33 144 ≤ (4 : Int); omega) (jc (by show (0 : Int) ≤ M 33 145; omega) (by show M 33 145 ≤ (5 : Int); omega) (jc (by show (-1 : Int) ≤ M 33 146; omega) (by show M 33 146 ≤ (143 : Int); omega) jn))))))⟩
  · exact ⟨k_xu_37_1, (List.mem_cons_of_mem _ List.mem_cons_self), (jh (hg (10, 210, .ofNat 0, .ofNat 29) List.mem_cons_self) (jc (by show (37 : Int) ≤ M 32 1; omega) (by show M 32 1 ≤ (37 : Int); omega) (jc (by show (37 : Int) ≤ M 32 2; omega) (by show M 32 2 ≤ (40 : Int); omega) (jc (by show (5 : Int) ≤ M 33 144; omega) (by show M 33 144 ≤ (5 : Int); omega) (jc (by show (0 : Int) ≤ M 33 145; omega) (by show M 33 145 ≤ (29 : Int); omega) (jc (by show (-1 : Int) ≤ M 33 146; omega) (by show M 33 146 ≤ (143 : Int); omega) jn))))))⟩
  · exact ⟨k_xu_37_2, (List.mem_cons_of_mem _ (List.mem_cons_of_mem _ List.mem_cons_self)), (jh (hg (10, 210, .ofNat 0, .ofNat 29) List.mem_cons_self) (jc (by show (37 : Int) ≤ M 32 1; omega) (by show M 32 1 ≤ (37 : Int); omega) (jc (by show (37 : Int) ≤ M 32 2; omega) (by show M 32 2 ≤ (40 : Int); omega) (jc (by show (6 : Int) ≤ M 33 144; omega) (by show M 33 144 ≤ (6 : Int); omega) (jc (by show (0 : Int) ≤ M 33 145; omega) (by show M 33 145 ≤ (11 : Int); omega) (jc (by show (-1 : Int) ≤ M 33 146; omega) (by show M 33 146 ≤ (143 : Int); omega) jn))))))⟩
  · exact ⟨k_xu_37_3, (List.mem_cons_of_mem _ (List.mem_cons_of_mem _ (List.mem_cons_of_mem _ List.mem_cons_self))), (jh (hg (10, 210, .ofNat 0, .ofNat 29) List.mem_cons_self) (jc (by show (37 : Int) ≤ M 32 1; omega) (by show M 32 1 ≤ (37 : Int); omega) (jc (by show (37 : Int) ≤ M 32 2; omega) (by show M 32 2 ≤ (40 : Int); omega) (jc (by show (7 : Int) ≤ M 33 144; omega) (by show M 33 144 ≤ (7 : Int); omega) (jc (by show (0 : Int) ≤ M 33 145; omega) (by show M 33 145 ≤ (0 : Int); omega) (jc (by show (0 : Int) ≤ M 33 146; omega) (by show M 33 146 ≤ (29 : Int); omega) jn))))))⟩
theorem c_xu_37 (hL : L < 2 ^ 31) : ci L xs 121 k_xu_37 :=
  ci_j_ok (ms := [k_xu_37_0, k_xu_37_1, k_xu_37_2, k_xu_37_3]) (jl_cons (c_xu_37_0 hL) (jl_cons (c_xu_37_1 hL) (jl_cons (c_xu_37_2 hL) (jl_cons (c_xu_37_3 hL) jl_nil)))) s_xu_37 (by decide +kernel)
def k_xu_38_0 : ct_C := ([(2, .ofNat 8, .ofNat 8)], [(10, 210, .ofNat 0, .ofNat 29), (32, 1, .ofNat 38, .ofNat 38), (32, 2, .ofNat 38, .ofNat 40), (33, 148, .ofNat 0, .ofNat 4), (33, 149, .ofNat 0, .ofNat 5), (33, 150, .negSucc 0, .ofNat 143)], [(10, 210, .ofNat 0, .ofNat 29), (32, 1, .ofNat 37, .ofNat 37)], [10], (some (0, .ofNat 37, .ofNat 37)), 3, false)
theorem c_xu_38_0 (hL : L < 2 ^ 31) : ci L xs 121 k_xu_38_0 :=
  mi_ok (fc := 9000) (f := 9000) (cuts := []) (xk := jx) cl_lok cl_hrf (cl_hro L xs) hL jx_ok (by decide +kernel)
def k_xu_38_1 : ct_C := ([(2, .ofNat 8, .ofNat 8)], [(10, 210, .ofNat 0, .ofNat 29), (32, 1, .ofNat 38, .ofNat 38), (32, 2, .ofNat 38, .ofNat 40), (33, 148, .ofNat 5, .ofNat 5), (33, 149, .ofNat 0, .ofNat 29), (33, 150, .negSucc 0, .ofNat 143)], [(10, 210, .ofNat 0, .ofNat 29), (32, 1, .ofNat 37, .ofNat 37)], [10], (some (0, .ofNat 37, .ofNat 37)), 3, false)
theorem c_xu_38_1 (hL : L < 2 ^ 31) : ci L xs 121 k_xu_38_1 :=
  mi_ok (fc := 9000) (f := 9000) (cuts := []) (xk := jx) cl_lok cl_hrf (cl_hro L xs) hL jx_ok (by decide +kernel)
def k_xu_38_2 : ct_C := ([(2, .ofNat 8, .ofNat 8)], [(10, 210, .ofNat 0, .ofNat 29), (32, 1, .ofNat 38, .ofNat 38), (32, 2, .ofNat 38, .ofNat 40), (33, 148, .ofNat 6, .ofNat 6), (33, 149, .ofNat 0, .ofNat 11), (33, 150, .negSucc 0, .ofNat 143)], [(10, 210, .ofNat 0, .ofNat 29), (32, 1, .ofNat 37, .ofNat 37)], [10], (some (0, .ofNat 37, .ofNat 37)), 3, false)
theorem c_xu_38_2 (hL : L < 2 ^ 31) : ci L xs 121 k_xu_38_2 :=
  mi_ok (fc := 9000) (f := 9000) (cuts := []) (xk := jx) cl_lok cl_hrf (cl_hro L xs) hL jx_ok (by decide +kernel)
def k_xu_38_3 : ct_C := ([(2, .ofNat 8, .ofNat 8)], [(10, 210, .ofNat 0, .ofNat 29), (32, 1, .ofNat 38, .ofNat 38), (32, 2, .ofNat 38, .ofNat 40), (33, 148, .ofNat 7, .ofNat 7), (33, 149, .ofNat 0, .ofNat 0), (33, 150, .ofNat 0, .ofNat 29)], [(10, 210, .ofNat 0, .ofNat 29), (32, 1, .ofNat 37, .ofNat 37)], [10], (some (0, .ofNat 37, .ofNat 37)), 3, false)
theorem c_xu_38_3 (hL : L < 2 ^ 31) : ci L xs 121 k_xu_38_3 :=
  mi_ok (fc := 9000) (f := 9000) (cuts := []) (xk := jx) cl_lok cl_hrf (cl_hro L xs) hL jx_ok (by decide +kernel)
def k_xu_38 : ct_C := ([(2, .ofNat 8, .ofNat 8)], [(10, 210, .ofNat 0, .ofNat 29), (32, 1, .ofNat 38, .ofNat 38)], [(10, 210, .ofNat 0, .ofNat 29), (32, 1, .ofNat 0, .ofNat 40)], [10], (some (0, .ofNat 37, .ofNat 37)), 3, false)
theorem s_xu_38 (M : Nat → Nat → Int) (hm : sx_mok cl_ly M) (hJ : JJ M) (hg : ct_g k_xu_38.2.1 M) : ∃ m ∈ [k_xu_38_0, k_xu_38_1, k_xu_38_2, k_xu_38_3], ct_g m.2.1 M := by
  have hv : M 32 1 = 38 := by
    have h := hg (32, 1, .ofNat 38, .ofNat 38) (List.mem_cons_of_mem _ List.mem_cons_self)
    exact Int.le_antisymm h.2 h.1
  have hk := jr_kn hm
  have hu := jr_un hm
  have hd := hJ.2.2.1
  have he := hJ.2.2.2
  have h8 : jp (M 33 148) (M 33 149) (M 33 150) (M 33 151) := hJ.1 37 (by decide)
  obtain ⟨⟨b1, b2, b3, b4⟩, h8⟩ := h8
  rcases h8 with h8 | h8 | h8 | h8
  · exact ⟨k_xu_38_0, List.mem_cons_self, (jh (hg (10, 210, .ofNat 0, .ofNat 29) List.mem_cons_self) (jc (by show (38 : Int) ≤ M 32 1; omega) (by show M 32 1 ≤ (38 : Int); omega) (jc (by show (38 : Int) ≤ M 32 2; omega) (by show M 32 2 ≤ (40 : Int); omega) (jc (by show (0 : Int) ≤ M 33 148; omega) (by show M 33 148 ≤ (4 : Int); omega) (jc (by show (0 : Int) ≤ M 33 149; omega) (by show M 33 149 ≤ (5 : Int); omega) (jc (by show (-1 : Int) ≤ M 33 150; omega) (by show M 33 150 ≤ (143 : Int); omega) jn))))))⟩
  · exact ⟨k_xu_38_1, (List.mem_cons_of_mem _ List.mem_cons_self), (jh (hg (10, 210, .ofNat 0, .ofNat 29) List.mem_cons_self) (jc (by show (38 : Int) ≤ M 32 1; omega) (by show M 32 1 ≤ (38 : Int); omega) (jc (by show (38 : Int) ≤ M 32 2; omega) (by show M 32 2 ≤ (40 : Int); omega) (jc (by show (5 : Int) ≤ M 33 148; omega) (by show M 33 148 ≤ (5 : Int); omega) (jc (by show (0 : Int) ≤ M 33 149; omega) (by show M 33 149 ≤ (29 : Int); omega) (jc (by show (-1 : Int) ≤ M 33 150; omega) (by show M 33 150 ≤ (143 : Int); omega) jn))))))⟩
  · exact ⟨k_xu_38_2, (List.mem_cons_of_mem _ (List.mem_cons_of_mem _ List.mem_cons_self)), (jh (hg (10, 210, .ofNat 0, .ofNat 29) List.mem_cons_self) (jc (by show (38 : Int) ≤ M 32 1; omega) (by show M 32 1 ≤ (38 : Int); omega) (jc (by show (38 : Int) ≤ M 32 2; omega) (by show M 32 2 ≤ (40 : Int); omega) (jc (by show (6 : Int) ≤ M 33 148; omega) (by show M 33 148 ≤ (6 : Int); omega) (jc (by show (0 : Int) ≤ M 33 149; omega) (by show M 33 149 ≤ (11 : Int); omega) (jc (by show (-1 : Int) ≤ M 33 150; omega) (by show M 33 150 ≤ (143 : Int); omega) jn))))))⟩
  · exact ⟨k_xu_38_3, (List.mem_cons_of_mem _ (List.mem_cons_of_mem _ (List.mem_cons_of_mem _ List.mem_cons_self))), (jh (hg (10, 210, .ofNat 0, .ofNat 29) List.mem_cons_self) (jc (by show (38 : Int) ≤ M 32 1; omega) (by show M 32 1 ≤ (38 : Int); omega) (jc (by show (38 : Int) ≤ M 32 2; omega) (by show M 32 2 ≤ (40 : Int); omega) (jc (by show (7 : Int) ≤ M 33 148; omega) (by show M 33 148 ≤ (7 : Int); omega) (jc (by show (0 : Int) ≤ M 33 149; omega) (by show M 33 149 ≤ (0 : Int); omega) (jc (by show (0 : Int) ≤ M 33 150; omega) (by show M 33 150 ≤ (29 : Int); omega) jn))))))⟩
theorem c_xu_38 (hL : L < 2 ^ 31) : ci L xs 121 k_xu_38 :=
  ci_j_ok (ms := [k_xu_38_0, k_xu_38_1, k_xu_38_2, k_xu_38_3]) (jl_cons (c_xu_38_0 hL) (jl_cons (c_xu_38_1 hL) (jl_cons (c_xu_38_2 hL) (jl_cons (c_xu_38_3 hL) jl_nil)))) s_xu_38 (by decide +kernel)
def k_xu_39_0 : ct_C := ([(2, .ofNat 8, .ofNat 8)], [(10, 210, .ofNat 0, .ofNat 29), (32, 1, .ofNat 39, .ofNat 39), (32, 2, .ofNat 39, .ofNat 40), (33, 152, .ofNat 0, .ofNat 4), (33, 153, .ofNat 0, .ofNat 5), (33, 154, .negSucc 0, .ofNat 143)], [(10, 210, .ofNat 0, .ofNat 29), (32, 1, .ofNat 38, .ofNat 38)], [10], (some (0, .ofNat 38, .ofNat 38)), 3, false)
theorem c_xu_39_0 (hL : L < 2 ^ 31) : ci L xs 121 k_xu_39_0 :=
  mi_ok (fc := 9000) (f := 9000) (cuts := []) (xk := jx) cl_lok cl_hrf (cl_hro L xs) hL jx_ok (by decide +kernel)
def k_xu_39_1 : ct_C := ([(2, .ofNat 8, .ofNat 8)], [(10, 210, .ofNat 0, .ofNat 29), (32, 1, .ofNat 39, .ofNat 39), (32, 2, .ofNat 39, .ofNat 40), (33, 152, .ofNat 5, .ofNat 5), (33, 153, .ofNat 0, .ofNat 29), (33, 154, .negSucc 0, .ofNat 143)], [(10, 210, .ofNat 0, .ofNat 29), (32, 1, .ofNat 38, .ofNat 38)], [10], (some (0, .ofNat 38, .ofNat 38)), 3, false)
theorem c_xu_39_1 (hL : L < 2 ^ 31) : ci L xs 121 k_xu_39_1 :=
  mi_ok (fc := 9000) (f := 9000) (cuts := []) (xk := jx) cl_lok cl_hrf (cl_hro L xs) hL jx_ok (by decide +kernel)
def k_xu_39_2 : ct_C := ([(2, .ofNat 8, .ofNat 8)], [(10, 210, .ofNat 0, .ofNat 29), (32, 1, .ofNat 39, .ofNat 39), (32, 2, .ofNat 39, .ofNat 40), (33, 152, .ofNat 6, .ofNat 6), (33, 153, .ofNat 0, .ofNat 11), (33, 154, .negSucc 0, .ofNat 143)], [(10, 210, .ofNat 0, .ofNat 29), (32, 1, .ofNat 38, .ofNat 38)], [10], (some (0, .ofNat 38, .ofNat 38)), 3, false)
theorem c_xu_39_2 (hL : L < 2 ^ 31) : ci L xs 121 k_xu_39_2 :=
  mi_ok (fc := 9000) (f := 9000) (cuts := []) (xk := jx) cl_lok cl_hrf (cl_hro L xs) hL jx_ok (by decide +kernel)
def k_xu_39_3 : ct_C := ([(2, .ofNat 8, .ofNat 8)], [(10, 210, .ofNat 0, .ofNat 29), (32, 1, .ofNat 39, .ofNat 39), (32, 2, .ofNat 39, .ofNat 40), (33, 152, .ofNat 7, .ofNat 7), (33, 153, .ofNat 0, .ofNat 0), (33, 154, .ofNat 0, .ofNat 29)], [(10, 210, .ofNat 0, .ofNat 29), (32, 1, .ofNat 38, .ofNat 38)], [10], (some (0, .ofNat 38, .ofNat 38)), 3, false)
theorem c_xu_39_3 (hL : L < 2 ^ 31) : ci L xs 121 k_xu_39_3 :=
  mi_ok (fc := 9000) (f := 9000) (cuts := []) (xk := jx) cl_lok cl_hrf (cl_hro L xs) hL jx_ok (by decide +kernel)
def k_xu_39 : ct_C := ([(2, .ofNat 8, .ofNat 8)], [(10, 210, .ofNat 0, .ofNat 29), (32, 1, .ofNat 39, .ofNat 39)], [(10, 210, .ofNat 0, .ofNat 29), (32, 1, .ofNat 0, .ofNat 40)], [10], (some (0, .ofNat 38, .ofNat 38)), 3, false)
theorem s_xu_39 (M : Nat → Nat → Int) (hm : sx_mok cl_ly M) (hJ : JJ M) (hg : ct_g k_xu_39.2.1 M) : ∃ m ∈ [k_xu_39_0, k_xu_39_1, k_xu_39_2, k_xu_39_3], ct_g m.2.1 M := by
  have hv : M 32 1 = 39 := by
    have h := hg (32, 1, .ofNat 39, .ofNat 39) (List.mem_cons_of_mem _ List.mem_cons_self)
    exact Int.le_antisymm h.2 h.1
  have hk := jr_kn hm
  have hu := jr_un hm
  have hd := hJ.2.2.1
  have he := hJ.2.2.2
  have h8 : jp (M 33 152) (M 33 153) (M 33 154) (M 33 155) := hJ.1 38 (by decide)
  obtain ⟨⟨b1, b2, b3, b4⟩, h8⟩ := h8
  rcases h8 with h8 | h8 | h8 | h8
  · exact ⟨k_xu_39_0, List.mem_cons_self, (jh (hg (10, 210, .ofNat 0, .ofNat 29) List.mem_cons_self) (jc (by show (39 : Int) ≤ M 32 1; omega) (by show M 32 1 ≤ (39 : Int); omega) (jc (by show (39 : Int) ≤ M 32 2; omega) (by show M 32 2 ≤ (40 : Int); omega) (jc (by show (0 : Int) ≤ M 33 152; omega) (by show M 33 152 ≤ (4 : Int); omega) (jc (by show (0 : Int) ≤ M 33 153; omega) (by show M 33 153 ≤ (5 : Int); omega) (jc (by show (-1 : Int) ≤ M 33 154; omega) (by show M 33 154 ≤ (143 : Int); omega) jn))))))⟩
  · exact ⟨k_xu_39_1, (List.mem_cons_of_mem _ List.mem_cons_self), (jh (hg (10, 210, .ofNat 0, .ofNat 29) List.mem_cons_self) (jc (by show (39 : Int) ≤ M 32 1; omega) (by show M 32 1 ≤ (39 : Int); omega) (jc (by show (39 : Int) ≤ M 32 2; omega) (by show M 32 2 ≤ (40 : Int); omega) (jc (by show (5 : Int) ≤ M 33 152; omega) (by show M 33 152 ≤ (5 : Int); omega) (jc (by show (0 : Int) ≤ M 33 153; omega) (by show M 33 153 ≤ (29 : Int); omega) (jc (by show (-1 : Int) ≤ M 33 154; omega) (by show M 33 154 ≤ (143 : Int); omega) jn))))))⟩
  · exact ⟨k_xu_39_2, (List.mem_cons_of_mem _ (List.mem_cons_of_mem _ List.mem_cons_self)), (jh (hg (10, 210, .ofNat 0, .ofNat 29) List.mem_cons_self) (jc (by show (39 : Int) ≤ M 32 1; omega) (by show M 32 1 ≤ (39 : Int); omega) (jc (by show (39 : Int) ≤ M 32 2; omega) (by show M 32 2 ≤ (40 : Int); omega) (jc (by show (6 : Int) ≤ M 33 152; omega) (by show M 33 152 ≤ (6 : Int); omega) (jc (by show (0 : Int) ≤ M 33 153; omega) (by show M 33 153 ≤ (11 : Int); omega) (jc (by show (-1 : Int) ≤ M 33 154; omega) (by show M 33 154 ≤ (143 : Int); omega) jn))))))⟩
  · exact ⟨k_xu_39_3, (List.mem_cons_of_mem _ (List.mem_cons_of_mem _ (List.mem_cons_of_mem _ List.mem_cons_self))), (jh (hg (10, 210, .ofNat 0, .ofNat 29) List.mem_cons_self) (jc (by show (39 : Int) ≤ M 32 1; omega) (by show M 32 1 ≤ (39 : Int); omega) (jc (by show (39 : Int) ≤ M 32 2; omega) (by show M 32 2 ≤ (40 : Int); omega) (jc (by show (7 : Int) ≤ M 33 152; omega) (by show M 33 152 ≤ (7 : Int); omega) (jc (by show (0 : Int) ≤ M 33 153; omega) (by show M 33 153 ≤ (0 : Int); omega) (jc (by show (0 : Int) ≤ M 33 154; omega) (by show M 33 154 ≤ (29 : Int); omega) jn))))))⟩
theorem c_xu_39 (hL : L < 2 ^ 31) : ci L xs 121 k_xu_39 :=
  ci_j_ok (ms := [k_xu_39_0, k_xu_39_1, k_xu_39_2, k_xu_39_3]) (jl_cons (c_xu_39_0 hL) (jl_cons (c_xu_39_1 hL) (jl_cons (c_xu_39_2 hL) (jl_cons (c_xu_39_3 hL) jl_nil)))) s_xu_39 (by decide +kernel)
def k_xu_40_0 : ct_C := ([(2, .ofNat 8, .ofNat 8)], [(10, 210, .ofNat 0, .ofNat 29), (32, 1, .ofNat 40, .ofNat 40), (32, 2, .ofNat 40, .ofNat 40), (33, 156, .ofNat 0, .ofNat 4), (33, 157, .ofNat 0, .ofNat 5), (33, 158, .negSucc 0, .ofNat 143)], [(10, 210, .ofNat 0, .ofNat 29), (32, 1, .ofNat 39, .ofNat 39)], [10], (some (0, .ofNat 39, .ofNat 39)), 3, false)
theorem c_xu_40_0 (hL : L < 2 ^ 31) : ci L xs 121 k_xu_40_0 :=
  mi_ok (fc := 9000) (f := 9000) (cuts := []) (xk := jx) cl_lok cl_hrf (cl_hro L xs) hL jx_ok (by decide +kernel)
def k_xu_40_1 : ct_C := ([(2, .ofNat 8, .ofNat 8)], [(10, 210, .ofNat 0, .ofNat 29), (32, 1, .ofNat 40, .ofNat 40), (32, 2, .ofNat 40, .ofNat 40), (33, 156, .ofNat 5, .ofNat 5), (33, 157, .ofNat 0, .ofNat 29), (33, 158, .negSucc 0, .ofNat 143)], [(10, 210, .ofNat 0, .ofNat 29), (32, 1, .ofNat 39, .ofNat 39)], [10], (some (0, .ofNat 39, .ofNat 39)), 3, false)
theorem c_xu_40_1 (hL : L < 2 ^ 31) : ci L xs 121 k_xu_40_1 :=
  mi_ok (fc := 9000) (f := 9000) (cuts := []) (xk := jx) cl_lok cl_hrf (cl_hro L xs) hL jx_ok (by decide +kernel)
def k_xu_40_2 : ct_C := ([(2, .ofNat 8, .ofNat 8)], [(10, 210, .ofNat 0, .ofNat 29), (32, 1, .ofNat 40, .ofNat 40), (32, 2, .ofNat 40, .ofNat 40), (33, 156, .ofNat 6, .ofNat 6), (33, 157, .ofNat 0, .ofNat 11), (33, 158, .negSucc 0, .ofNat 143)], [(10, 210, .ofNat 0, .ofNat 29), (32, 1, .ofNat 39, .ofNat 39)], [10], (some (0, .ofNat 39, .ofNat 39)), 3, false)
theorem c_xu_40_2 (hL : L < 2 ^ 31) : ci L xs 121 k_xu_40_2 :=
  mi_ok (fc := 9000) (f := 9000) (cuts := []) (xk := jx) cl_lok cl_hrf (cl_hro L xs) hL jx_ok (by decide +kernel)
def k_xu_40_3 : ct_C := ([(2, .ofNat 8, .ofNat 8)], [(10, 210, .ofNat 0, .ofNat 29), (32, 1, .ofNat 40, .ofNat 40), (32, 2, .ofNat 40, .ofNat 40), (33, 156, .ofNat 7, .ofNat 7), (33, 157, .ofNat 0, .ofNat 0), (33, 158, .ofNat 0, .ofNat 29)], [(10, 210, .ofNat 0, .ofNat 29), (32, 1, .ofNat 39, .ofNat 39)], [10], (some (0, .ofNat 39, .ofNat 39)), 3, false)
theorem c_xu_40_3 (hL : L < 2 ^ 31) : ci L xs 121 k_xu_40_3 :=
  mi_ok (fc := 9000) (f := 9000) (cuts := []) (xk := jx) cl_lok cl_hrf (cl_hro L xs) hL jx_ok (by decide +kernel)
def k_xu_40 : ct_C := ([(2, .ofNat 8, .ofNat 8)], [(10, 210, .ofNat 0, .ofNat 29), (32, 1, .ofNat 40, .ofNat 40)], [(10, 210, .ofNat 0, .ofNat 29), (32, 1, .ofNat 0, .ofNat 40)], [10], (some (0, .ofNat 39, .ofNat 39)), 3, false)
theorem s_xu_40 (M : Nat → Nat → Int) (hm : sx_mok cl_ly M) (hJ : JJ M) (hg : ct_g k_xu_40.2.1 M) : ∃ m ∈ [k_xu_40_0, k_xu_40_1, k_xu_40_2, k_xu_40_3], ct_g m.2.1 M := by
  have hv : M 32 1 = 40 := by
    have h := hg (32, 1, .ofNat 40, .ofNat 40) (List.mem_cons_of_mem _ List.mem_cons_self)
    exact Int.le_antisymm h.2 h.1
  have hk := jr_kn hm
  have hu := jr_un hm
  have hd := hJ.2.2.1
  have he := hJ.2.2.2
  have h8 : jp (M 33 156) (M 33 157) (M 33 158) (M 33 159) := hJ.1 39 (by decide)
  obtain ⟨⟨b1, b2, b3, b4⟩, h8⟩ := h8
  rcases h8 with h8 | h8 | h8 | h8
  · exact ⟨k_xu_40_0, List.mem_cons_self, (jh (hg (10, 210, .ofNat 0, .ofNat 29) List.mem_cons_self) (jc (by show (40 : Int) ≤ M 32 1; omega) (by show M 32 1 ≤ (40 : Int); omega) (jc (by show (40 : Int) ≤ M 32 2; omega) (by show M 32 2 ≤ (40 : Int); omega) (jc (by show (0 : Int) ≤ M 33 156; omega) (by show M 33 156 ≤ (4 : Int); omega) (jc (by show (0 : Int) ≤ M 33 157; omega) (by show M 33 157 ≤ (5 : Int); omega) (jc (by show (-1 : Int) ≤ M 33 158; omega) (by show M 33 158 ≤ (143 : Int); omega) jn))))))⟩
  · exact ⟨k_xu_40_1, (List.mem_cons_of_mem _ List.mem_cons_self), (jh (hg (10, 210, .ofNat 0, .ofNat 29) List.mem_cons_self) (jc (by show (40 : Int) ≤ M 32 1; omega) (by show M 32 1 ≤ (40 : Int); omega) (jc (by show (40 : Int) ≤ M 32 2; omega) (by show M 32 2 ≤ (40 : Int); omega) (jc (by show (5 : Int) ≤ M 33 156; omega) (by show M 33 156 ≤ (5 : Int); omega) (jc (by show (0 : Int) ≤ M 33 157; omega) (by show M 33 157 ≤ (29 : Int); omega) (jc (by show (-1 : Int) ≤ M 33 158; omega) (by show M 33 158 ≤ (143 : Int); omega) jn))))))⟩
  · exact ⟨k_xu_40_2, (List.mem_cons_of_mem _ (List.mem_cons_of_mem _ List.mem_cons_self)), (jh (hg (10, 210, .ofNat 0, .ofNat 29) List.mem_cons_self) (jc (by show (40 : Int) ≤ M 32 1; omega) (by show M 32 1 ≤ (40 : Int); omega) (jc (by show (40 : Int) ≤ M 32 2; omega) (by show M 32 2 ≤ (40 : Int); omega) (jc (by show (6 : Int) ≤ M 33 156; omega) (by show M 33 156 ≤ (6 : Int); omega) (jc (by show (0 : Int) ≤ M 33 157; omega) (by show M 33 157 ≤ (11 : Int); omega) (jc (by show (-1 : Int) ≤ M 33 158; omega) (by show M 33 158 ≤ (143 : Int); omega) jn))))))⟩
  · exact ⟨k_xu_40_3, (List.mem_cons_of_mem _ (List.mem_cons_of_mem _ (List.mem_cons_of_mem _ List.mem_cons_self))), (jh (hg (10, 210, .ofNat 0, .ofNat 29) List.mem_cons_self) (jc (by show (40 : Int) ≤ M 32 1; omega) (by show M 32 1 ≤ (40 : Int); omega) (jc (by show (40 : Int) ≤ M 32 2; omega) (by show M 32 2 ≤ (40 : Int); omega) (jc (by show (7 : Int) ≤ M 33 156; omega) (by show M 33 156 ≤ (7 : Int); omega) (jc (by show (0 : Int) ≤ M 33 157; omega) (by show M 33 157 ≤ (0 : Int); omega) (jc (by show (0 : Int) ≤ M 33 158; omega) (by show M 33 158 ≤ (29 : Int); omega) jn))))))⟩
theorem c_xu_40 (hL : L < 2 ^ 31) : ci L xs 121 k_xu_40 :=
  ci_j_ok (ms := [k_xu_40_0, k_xu_40_1, k_xu_40_2, k_xu_40_3]) (jl_cons (c_xu_40_0 hL) (jl_cons (c_xu_40_1 hL) (jl_cons (c_xu_40_2 hL) (jl_cons (c_xu_40_3 hL) jl_nil)))) s_xu_40 (by decide +kernel)
def k_xundo : ct_C := ([(2, .ofNat 8, .ofNat 8)], [(10, 210, .ofNat 0, .ofNat 29), (32, 1, .ofNat 0, .ofNat 40)], [(10, 210, .ofNat 0, .ofNat 29), (32, 1, .ofNat 0, .ofNat 40)], [10], (some (0, .negSucc 4, .ofNat 39)), 3, false)
theorem c_xundo (hL : L < 2 ^ 31) : ci L xs 121 k_xundo :=
  ci_g_ok (i := 1) (ms := [((.ofNat 0, .ofNat 0), k_xu_0), ((.ofNat 1, .ofNat 1), k_xu_1), ((.ofNat 2, .ofNat 2), k_xu_2), ((.ofNat 3, .ofNat 3), k_xu_3), ((.ofNat 4, .ofNat 4), k_xu_4), ((.ofNat 5, .ofNat 5), k_xu_5), ((.ofNat 6, .ofNat 6), k_xu_6), ((.ofNat 7, .ofNat 7), k_xu_7), ((.ofNat 8, .ofNat 8), k_xu_8), ((.ofNat 9, .ofNat 9), k_xu_9), ((.ofNat 10, .ofNat 10), k_xu_10), ((.ofNat 11, .ofNat 11), k_xu_11), ((.ofNat 12, .ofNat 12), k_xu_12), ((.ofNat 13, .ofNat 13), k_xu_13), ((.ofNat 14, .ofNat 14), k_xu_14), ((.ofNat 15, .ofNat 15), k_xu_15), ((.ofNat 16, .ofNat 16), k_xu_16), ((.ofNat 17, .ofNat 17), k_xu_17), ((.ofNat 18, .ofNat 18), k_xu_18), ((.ofNat 19, .ofNat 19), k_xu_19), ((.ofNat 20, .ofNat 20), k_xu_20), ((.ofNat 21, .ofNat 21), k_xu_21), ((.ofNat 22, .ofNat 22), k_xu_22), ((.ofNat 23, .ofNat 23), k_xu_23), ((.ofNat 24, .ofNat 24), k_xu_24), ((.ofNat 25, .ofNat 25), k_xu_25), ((.ofNat 26, .ofNat 26), k_xu_26), ((.ofNat 27, .ofNat 27), k_xu_27), ((.ofNat 28, .ofNat 28), k_xu_28), ((.ofNat 29, .ofNat 29), k_xu_29), ((.ofNat 30, .ofNat 30), k_xu_30), ((.ofNat 31, .ofNat 31), k_xu_31), ((.ofNat 32, .ofNat 32), k_xu_32), ((.ofNat 33, .ofNat 33), k_xu_33), ((.ofNat 34, .ofNat 34), k_xu_34), ((.ofNat 35, .ofNat 35), k_xu_35), ((.ofNat 36, .ofNat 36), k_xu_36), ((.ofNat 37, .ofNat 37), k_xu_37), ((.ofNat 38, .ofNat 38), k_xu_38), ((.ofNat 39, .ofNat 39), k_xu_39), ((.ofNat 40, .ofNat 40), k_xu_40)]) (jm_cons (r := (.ofNat 0, .ofNat 0)) (c_xu_0 hL) (jm_cons (r := (.ofNat 1, .ofNat 1)) (c_xu_1 hL) (jm_cons (r := (.ofNat 2, .ofNat 2)) (c_xu_2 hL) (jm_cons (r := (.ofNat 3, .ofNat 3)) (c_xu_3 hL) (jm_cons (r := (.ofNat 4, .ofNat 4)) (c_xu_4 hL) (jm_cons (r := (.ofNat 5, .ofNat 5)) (c_xu_5 hL) (jm_cons (r := (.ofNat 6, .ofNat 6)) (c_xu_6 hL) (jm_cons (r := (.ofNat 7, .ofNat 7)) (c_xu_7 hL) (jm_cons (r := (.ofNat 8, .ofNat 8)) (c_xu_8 hL) (jm_cons (r := (.ofNat 9, .ofNat 9)) (c_xu_9 hL) (jm_cons (r := (.ofNat 10, .ofNat 10)) (c_xu_10 hL) (jm_cons (r := (.ofNat 11, .ofNat 11)) (c_xu_11 hL) (jm_cons (r := (.ofNat 12, .ofNat 12)) (c_xu_12 hL) (jm_cons (r := (.ofNat 13, .ofNat 13)) (c_xu_13 hL) (jm_cons (r := (.ofNat 14, .ofNat 14)) (c_xu_14 hL) (jm_cons (r := (.ofNat 15, .ofNat 15)) (c_xu_15 hL) (jm_cons (r := (.ofNat 16, .ofNat 16)) (c_xu_16 hL) (jm_cons (r := (.ofNat 17, .ofNat 17)) (c_xu_17 hL) (jm_cons (r := (.ofNat 18, .ofNat 18)) (c_xu_18 hL) (jm_cons (r := (.ofNat 19, .ofNat 19)) (c_xu_19 hL) (jm_cons (r := (.ofNat 20, .ofNat 20)) (c_xu_20 hL) (jm_cons (r := (.ofNat 21, .ofNat 21)) (c_xu_21 hL) (jm_cons (r := (.ofNat 22, .ofNat 22)) (c_xu_22 hL) (jm_cons (r := (.ofNat 23, .ofNat 23)) (c_xu_23 hL) (jm_cons (r := (.ofNat 24, .ofNat 24)) (c_xu_24 hL) (jm_cons (r := (.ofNat 25, .ofNat 25)) (c_xu_25 hL) (jm_cons (r := (.ofNat 26, .ofNat 26)) (c_xu_26 hL) (jm_cons (r := (.ofNat 27, .ofNat 27)) (c_xu_27 hL) (jm_cons (r := (.ofNat 28, .ofNat 28)) (c_xu_28 hL) (jm_cons (r := (.ofNat 29, .ofNat 29)) (c_xu_29 hL) (jm_cons (r := (.ofNat 30, .ofNat 30)) (c_xu_30 hL) (jm_cons (r := (.ofNat 31, .ofNat 31)) (c_xu_31 hL) (jm_cons (r := (.ofNat 32, .ofNat 32)) (c_xu_32 hL) (jm_cons (r := (.ofNat 33, .ofNat 33)) (c_xu_33 hL) (jm_cons (r := (.ofNat 34, .ofNat 34)) (c_xu_34 hL) (jm_cons (r := (.ofNat 35, .ofNat 35)) (c_xu_35 hL) (jm_cons (r := (.ofNat 36, .ofNat 36)) (c_xu_36 hL) (jm_cons (r := (.ofNat 37, .ofNat 37)) (c_xu_37 hL) (jm_cons (r := (.ofNat 38, .ofNat 38)) (c_xu_38 hL) (jm_cons (r := (.ofNat 39, .ofNat 39)) (c_xu_39 hL) (jm_cons (r := (.ofNat 40, .ofNat 40)) (c_xu_40 hL) jm_nil))))))))))))))))))))))))))))))))))))))))) (by decide +kernel)
def k_xr_0_e : ct_C := ([(2, .ofNat 8, .ofNat 8)], [(32, 1, .ofNat 0, .ofNat 0), (32, 2, .ofNat 0, .ofNat 0)], [], [], (some (0, .negSucc 4, .negSucc 4)), 1, false)
theorem c_xr_0_e (hL : L < 2 ^ 31) : ci L xs 123 k_xr_0_e :=
  mi_ok (fc := 9000) (f := 9000) (cuts := []) (xk := jx) cl_lok cl_hrf (cl_hro L xs) hL jx_ok (by decide +kernel)
def k_xr_0_0 : ct_C := ([(2, .ofNat 8, .ofNat 8)], [(10, 210, .ofNat 0, .ofNat 29), (32, 1, .ofNat 0, .ofNat 0), (32, 2, .ofNat 1, .ofNat 40), (33, 0, .ofNat 0, .ofNat 4), (33, 1, .ofNat 0, .ofNat 5), (33, 3, .negSucc 0, .ofNat 143)], [(10, 210, .ofNat 0, .ofNat 29), (32, 1, .ofNat 1, .ofNat 1)], [10], (some (0, .ofNat 0, .ofNat 39)), 3, false)
theorem c_xr_0_0 (hL : L < 2 ^ 31) : ci L xs 123 k_xr_0_0 :=
  mi_ok (fc := 9000) (f := 9000) (cuts := []) (xk := jx) cl_lok cl_hrf (cl_hro L xs) hL jx_ok (by decide +kernel)
def k_xr_0_1 : ct_C := ([(2, .ofNat 8, .ofNat 8)], [(10, 210, .ofNat 0, .ofNat 29), (32, 1, .ofNat 0, .ofNat 0), (32, 2, .ofNat 1, .ofNat 40), (33, 0, .ofNat 5, .ofNat 5), (33, 1, .ofNat 0, .ofNat 29), (33, 3, .negSucc 0, .ofNat 143)], [(10, 210, .ofNat 0, .ofNat 29), (32, 1, .ofNat 1, .ofNat 1)], [10], (some (0, .ofNat 0, .ofNat 39)), 3, false)
theorem c_xr_0_1 (hL : L < 2 ^ 31) : ci L xs 123 k_xr_0_1 :=
  mi_ok (fc := 9000) (f := 9000) (cuts := []) (xk := jx) cl_lok cl_hrf (cl_hro L xs) hL jx_ok (by decide +kernel)
def k_xr_0_2 : ct_C := ([(2, .ofNat 8, .ofNat 8)], [(10, 210, .ofNat 0, .ofNat 29), (32, 1, .ofNat 0, .ofNat 0), (32, 2, .ofNat 1, .ofNat 40), (33, 0, .ofNat 6, .ofNat 6), (33, 1, .ofNat 0, .ofNat 11), (33, 3, .negSucc 0, .ofNat 143)], [(10, 210, .ofNat 0, .ofNat 29), (32, 1, .ofNat 1, .ofNat 1)], [10], (some (0, .ofNat 0, .ofNat 39)), 3, false)
theorem c_xr_0_2 (hL : L < 2 ^ 31) : ci L xs 123 k_xr_0_2 :=
  mi_ok (fc := 9000) (f := 9000) (cuts := []) (xk := jx) cl_lok cl_hrf (cl_hro L xs) hL jx_ok (by decide +kernel)
def k_xr_0_3 : ct_C := ([(2, .ofNat 8, .ofNat 8)], [(10, 210, .ofNat 0, .ofNat 29), (32, 1, .ofNat 0, .ofNat 0), (32, 2, .ofNat 1, .ofNat 40), (33, 0, .ofNat 7, .ofNat 7), (33, 1, .ofNat 0, .ofNat 0), (33, 3, .ofNat 0, .ofNat 29)], [(10, 210, .ofNat 0, .ofNat 29), (32, 1, .ofNat 1, .ofNat 1)], [10], (some (0, .ofNat 0, .ofNat 39)), 3, false)
theorem c_xr_0_3 (hL : L < 2 ^ 31) : ci L xs 123 k_xr_0_3 :=
  mi_ok (fc := 9000) (f := 9000) (cuts := []) (xk := jx) cl_lok cl_hrf (cl_hro L xs) hL jx_ok (by decide +kernel)
def k_xr_0 : ct_C := ([(2, .ofNat 8, .ofNat 8)], [(10, 210, .ofNat 0, .ofNat 29), (32, 1, .ofNat 0, .ofNat 0)], [(10, 210, .ofNat 0, .ofNat 29), (32, 1, .ofNat 0, .ofNat 40)], [10], (some (0, .negSucc 4, .ofNat 39)), 3, false)
theorem s_xr_0 (M : Nat → Nat → Int) (hm : sx_mok cl_ly M) (hJ : JJ M) (hg : ct_g k_xr_0.2.1 M) : ∃ m ∈ [k_xr_0_e, k_xr_0_0, k_xr_0_1, k_xr_0_2, k_xr_0_3], ct_g m.2.1 M := by
  have hv : M 32 1 = 0 := by
    have h := hg (32, 1, .ofNat 0, .ofNat 0) (List.mem_cons_of_mem _ List.mem_cons_self)
    exact Int.le_antisymm h.2 h.1
  have hk := jr_kn hm
  have hu := jr_un hm
  have hd := hJ.2.2.1
  have he := hJ.2.2.2
  by_cases h0 : M 32 2 = 0
  · exact ⟨k_xr_0_e, List.mem_cons_self, (jc (by show (0 : Int) ≤ M 32 1; omega) (by show M 32 1 ≤ (0 : Int); omega) (jc (by show (0 : Int) ≤ M 32 2; omega) (by show M 32 2 ≤ (0 : Int); omega) jn))⟩
  · have h8 : jp (M 33 0) (M 33 1) (M 33 2) (M 33 3) := hJ.1 0 (by decide)
    obtain ⟨⟨b1, b2, b3, b4⟩, h8⟩ := h8
    rcases h8 with h8 | h8 | h8 | h8
    · exact ⟨k_xr_0_0, (List.mem_cons_of_mem _ List.mem_cons_self), (jh (hg (10, 210, .ofNat 0, .ofNat 29) List.mem_cons_self) (jc (by show (0 : Int) ≤ M 32 1; omega) (by show M 32 1 ≤ (0 : Int); omega) (jc (by show (1 : Int) ≤ M 32 2; omega) (by show M 32 2 ≤ (40 : Int); omega) (jc (by show (0 : Int) ≤ M 33 0; omega) (by show M 33 0 ≤ (4 : Int); omega) (jc (by show (0 : Int) ≤ M 33 1; omega) (by show M 33 1 ≤ (5 : Int); omega) (jc (by show (-1 : Int) ≤ M 33 3; omega) (by show M 33 3 ≤ (143 : Int); omega) jn))))))⟩
    · exact ⟨k_xr_0_1, (List.mem_cons_of_mem _ (List.mem_cons_of_mem _ List.mem_cons_self)), (jh (hg (10, 210, .ofNat 0, .ofNat 29) List.mem_cons_self) (jc (by show (0 : Int) ≤ M 32 1; omega) (by show M 32 1 ≤ (0 : Int); omega) (jc (by show (1 : Int) ≤ M 32 2; omega) (by show M 32 2 ≤ (40 : Int); omega) (jc (by show (5 : Int) ≤ M 33 0; omega) (by show M 33 0 ≤ (5 : Int); omega) (jc (by show (0 : Int) ≤ M 33 1; omega) (by show M 33 1 ≤ (29 : Int); omega) (jc (by show (-1 : Int) ≤ M 33 3; omega) (by show M 33 3 ≤ (143 : Int); omega) jn))))))⟩
    · exact ⟨k_xr_0_2, (List.mem_cons_of_mem _ (List.mem_cons_of_mem _ (List.mem_cons_of_mem _ List.mem_cons_self))), (jh (hg (10, 210, .ofNat 0, .ofNat 29) List.mem_cons_self) (jc (by show (0 : Int) ≤ M 32 1; omega) (by show M 32 1 ≤ (0 : Int); omega) (jc (by show (1 : Int) ≤ M 32 2; omega) (by show M 32 2 ≤ (40 : Int); omega) (jc (by show (6 : Int) ≤ M 33 0; omega) (by show M 33 0 ≤ (6 : Int); omega) (jc (by show (0 : Int) ≤ M 33 1; omega) (by show M 33 1 ≤ (11 : Int); omega) (jc (by show (-1 : Int) ≤ M 33 3; omega) (by show M 33 3 ≤ (143 : Int); omega) jn))))))⟩
    · exact ⟨k_xr_0_3, (List.mem_cons_of_mem _ (List.mem_cons_of_mem _ (List.mem_cons_of_mem _ (List.mem_cons_of_mem _ List.mem_cons_self)))), (jh (hg (10, 210, .ofNat 0, .ofNat 29) List.mem_cons_self) (jc (by show (0 : Int) ≤ M 32 1; omega) (by show M 32 1 ≤ (0 : Int); omega) (jc (by show (1 : Int) ≤ M 32 2; omega) (by show M 32 2 ≤ (40 : Int); omega) (jc (by show (7 : Int) ≤ M 33 0; omega) (by show M 33 0 ≤ (7 : Int); omega) (jc (by show (0 : Int) ≤ M 33 1; omega) (by show M 33 1 ≤ (0 : Int); omega) (jc (by show (0 : Int) ≤ M 33 3; omega) (by show M 33 3 ≤ (29 : Int); omega) jn))))))⟩
theorem c_xr_0 (hL : L < 2 ^ 31) : ci L xs 123 k_xr_0 :=
  ci_j_ok (ms := [k_xr_0_e, k_xr_0_0, k_xr_0_1, k_xr_0_2, k_xr_0_3]) (jl_cons (c_xr_0_e hL) (jl_cons (c_xr_0_0 hL) (jl_cons (c_xr_0_1 hL) (jl_cons (c_xr_0_2 hL) (jl_cons (c_xr_0_3 hL) jl_nil))))) s_xr_0 (by decide +kernel)
def k_xr_1_e : ct_C := ([(2, .ofNat 8, .ofNat 8)], [(32, 1, .ofNat 1, .ofNat 1), (32, 2, .ofNat 1, .ofNat 1)], [], [], (some (0, .negSucc 4, .negSucc 4)), 1, false)
theorem c_xr_1_e (hL : L < 2 ^ 31) : ci L xs 123 k_xr_1_e :=
  mi_ok (fc := 9000) (f := 9000) (cuts := []) (xk := jx) cl_lok cl_hrf (cl_hro L xs) hL jx_ok (by decide +kernel)
def k_xr_1_0 : ct_C := ([(2, .ofNat 8, .ofNat 8)], [(10, 210, .ofNat 0, .ofNat 29), (32, 1, .ofNat 1, .ofNat 1), (32, 2, .ofNat 2, .ofNat 40), (33, 4, .ofNat 0, .ofNat 4), (33, 5, .ofNat 0, .ofNat 5), (33, 7, .negSucc 0, .ofNat 143)], [(10, 210, .ofNat 0, .ofNat 29), (32, 1, .ofNat 2, .ofNat 2)], [10], (some (0, .ofNat 0, .ofNat 38)), 3, false)
theorem c_xr_1_0 (hL : L < 2 ^ 31) : ci L xs 123 k_xr_1_0 :=
  mi_ok (fc := 9000) (f := 9000) (cuts := []) (xk := jx) cl_lok cl_hrf (cl_hro L xs) hL jx_ok (by decide +kernel)
def k_xr_1_1 : ct_C := ([(2, .ofNat 8, .ofNat 8)], [(10, 210, .ofNat 0, .ofNat 29), (32, 1, .ofNat 1, .ofNat 1), (32, 2, .ofNat 2, .ofNat 40), (33, 4, .ofNat 5, .ofNat 5), (33, 5, .ofNat 0, .ofNat 29), (33, 7, .negSucc 0, .ofNat 143)], [(10, 210, .ofNat 0, .ofNat 29), (32, 1, .ofNat 2, .ofNat 2)], [10], (some (0, .ofNat 0, .ofNat 38)), 3, false)
theorem c_xr_1_1 (hL : L < 2 ^ 31) : ci L xs 123 k_xr_1_1 :=
  mi_ok (fc := 9000) (f := 9000) (cuts := []) (xk := jx) cl_lok cl_hrf (cl_hro L xs) hL jx_ok (by decide +kernel)
def k_xr_1_2 : ct_C := ([(2, .ofNat 8, .ofNat 8)], [(10, 210, .ofNat 0, .ofNat 29), (32, 1, .ofNat 1, .ofNat 1), (32, 2, .ofNat 2, .ofNat 40), (33, 4, .ofNat 6, .ofNat 6), (33, 5, .ofNat 0, .ofNat 11), (33, 7, .negSucc 0, .ofNat 143)], [(10, 210, .ofNat 0, .ofNat 29), (32, 1, .ofNat 2, .ofNat 2)], [10], (some (0, .ofNat 0, .ofNat 38)), 3, false)
theorem c_xr_1_2 (hL : L < 2 ^ 31) : ci L xs 123 k_xr_1_2 :=
  mi_ok (fc := 9000) (f := 9000) (cuts := []) (xk := jx) cl_lok cl_hrf (cl_hro L xs) hL jx_ok (by decide +kernel)
def k_xr_1_3 : ct_C := ([(2, .ofNat 8, .ofNat 8)], [(10, 210, .ofNat 0, .ofNat 29), (32, 1, .ofNat 1, .ofNat 1), (32, 2, .ofNat 2, .ofNat 40), (33, 4, .ofNat 7, .ofNat 7), (33, 5, .ofNat 0, .ofNat 0), (33, 7, .ofNat 0, .ofNat 29)], [(10, 210, .ofNat 0, .ofNat 29), (32, 1, .ofNat 2, .ofNat 2)], [10], (some (0, .ofNat 0, .ofNat 38)), 3, false)
theorem c_xr_1_3 (hL : L < 2 ^ 31) : ci L xs 123 k_xr_1_3 :=
  mi_ok (fc := 9000) (f := 9000) (cuts := []) (xk := jx) cl_lok cl_hrf (cl_hro L xs) hL jx_ok (by decide +kernel)
def k_xr_1 : ct_C := ([(2, .ofNat 8, .ofNat 8)], [(10, 210, .ofNat 0, .ofNat 29), (32, 1, .ofNat 1, .ofNat 1)], [(10, 210, .ofNat 0, .ofNat 29), (32, 1, .ofNat 0, .ofNat 40)], [10], (some (0, .negSucc 4, .ofNat 38)), 3, false)
theorem s_xr_1 (M : Nat → Nat → Int) (hm : sx_mok cl_ly M) (hJ : JJ M) (hg : ct_g k_xr_1.2.1 M) : ∃ m ∈ [k_xr_1_e, k_xr_1_0, k_xr_1_1, k_xr_1_2, k_xr_1_3], ct_g m.2.1 M := by
  have hv : M 32 1 = 1 := by
    have h := hg (32, 1, .ofNat 1, .ofNat 1) (List.mem_cons_of_mem _ List.mem_cons_self)
    exact Int.le_antisymm h.2 h.1
  have hk := jr_kn hm
  have hu := jr_un hm
  have hd := hJ.2.2.1
  have he := hJ.2.2.2
  by_cases h0 : M 32 2 = 1
  · exact ⟨k_xr_1_e, List.mem_cons_self, (jc (by show (1 : Int) ≤ M 32 1; omega) (by show M 32 1 ≤ (1 : Int); omega) (jc (by show (1 : Int) ≤ M 32 2; omega) (by show M 32 2 ≤ (1 : Int); omega) jn))⟩
  · have h8 : jp (M 33 4) (M 33 5) (M 33 6) (M 33 7) := hJ.1 1 (by decide)
    obtain ⟨⟨b1, b2, b3, b4⟩, h8⟩ := h8
    rcases h8 with h8 | h8 | h8 | h8
    · exact ⟨k_xr_1_0, (List.mem_cons_of_mem _ List.mem_cons_self), (jh (hg (10, 210, .ofNat 0, .ofNat 29) List.mem_cons_self) (jc (by show (1 : Int) ≤ M 32 1; omega) (by show M 32 1 ≤ (1 : Int); omega) (jc (by show (2 : Int) ≤ M 32 2; omega) (by show M 32 2 ≤ (40 : Int); omega) (jc (by show (0 : Int) ≤ M 33 4; omega) (by show M 33 4 ≤ (4 : Int); omega) (jc (by show (0 : Int) ≤ M 33 5; omega) (by show M 33 5 ≤ (5 : Int); omega) (jc (by show (-1 : Int) ≤ M 33 7; omega) (by show M 33 7 ≤ (143 : Int); omega) jn))))))⟩
    · exact ⟨k_xr_1_1, (List.mem_cons_of_mem _ (List.mem_cons_of_mem _ List.mem_cons_self)), (jh (hg (10, 210, .ofNat 0, .ofNat 29) List.mem_cons_self) (jc (by show (1 : Int) ≤ M 32 1; omega) (by show M 32 1 ≤ (1 : Int); omega) (jc (by show (2 : Int) ≤ M 32 2; omega) (by show M 32 2 ≤ (40 : Int); omega) (jc (by show (5 : Int) ≤ M 33 4; omega) (by show M 33 4 ≤ (5 : Int); omega) (jc (by show (0 : Int) ≤ M 33 5; omega) (by show M 33 5 ≤ (29 : Int); omega) (jc (by show (-1 : Int) ≤ M 33 7; omega) (by show M 33 7 ≤ (143 : Int); omega) jn))))))⟩
    · exact ⟨k_xr_1_2, (List.mem_cons_of_mem _ (List.mem_cons_of_mem _ (List.mem_cons_of_mem _ List.mem_cons_self))), (jh (hg (10, 210, .ofNat 0, .ofNat 29) List.mem_cons_self) (jc (by show (1 : Int) ≤ M 32 1; omega) (by show M 32 1 ≤ (1 : Int); omega) (jc (by show (2 : Int) ≤ M 32 2; omega) (by show M 32 2 ≤ (40 : Int); omega) (jc (by show (6 : Int) ≤ M 33 4; omega) (by show M 33 4 ≤ (6 : Int); omega) (jc (by show (0 : Int) ≤ M 33 5; omega) (by show M 33 5 ≤ (11 : Int); omega) (jc (by show (-1 : Int) ≤ M 33 7; omega) (by show M 33 7 ≤ (143 : Int); omega) jn))))))⟩
    · exact ⟨k_xr_1_3, (List.mem_cons_of_mem _ (List.mem_cons_of_mem _ (List.mem_cons_of_mem _ (List.mem_cons_of_mem _ List.mem_cons_self)))), (jh (hg (10, 210, .ofNat 0, .ofNat 29) List.mem_cons_self) (jc (by show (1 : Int) ≤ M 32 1; omega) (by show M 32 1 ≤ (1 : Int); omega) (jc (by show (2 : Int) ≤ M 32 2; omega) (by show M 32 2 ≤ (40 : Int); omega) (jc (by show (7 : Int) ≤ M 33 4; omega) (by show M 33 4 ≤ (7 : Int); omega) (jc (by show (0 : Int) ≤ M 33 5; omega) (by show M 33 5 ≤ (0 : Int); omega) (jc (by show (0 : Int) ≤ M 33 7; omega) (by show M 33 7 ≤ (29 : Int); omega) jn))))))⟩
theorem c_xr_1 (hL : L < 2 ^ 31) : ci L xs 123 k_xr_1 :=
  ci_j_ok (ms := [k_xr_1_e, k_xr_1_0, k_xr_1_1, k_xr_1_2, k_xr_1_3]) (jl_cons (c_xr_1_e hL) (jl_cons (c_xr_1_0 hL) (jl_cons (c_xr_1_1 hL) (jl_cons (c_xr_1_2 hL) (jl_cons (c_xr_1_3 hL) jl_nil))))) s_xr_1 (by decide +kernel)
def k_xr_2_e : ct_C := ([(2, .ofNat 8, .ofNat 8)], [(32, 1, .ofNat 2, .ofNat 2), (32, 2, .ofNat 2, .ofNat 2)], [], [], (some (0, .negSucc 4, .negSucc 4)), 1, false)
theorem c_xr_2_e (hL : L < 2 ^ 31) : ci L xs 123 k_xr_2_e :=
  mi_ok (fc := 9000) (f := 9000) (cuts := []) (xk := jx) cl_lok cl_hrf (cl_hro L xs) hL jx_ok (by decide +kernel)
def k_xr_2_0 : ct_C := ([(2, .ofNat 8, .ofNat 8)], [(10, 210, .ofNat 0, .ofNat 29), (32, 1, .ofNat 2, .ofNat 2), (32, 2, .ofNat 3, .ofNat 40), (33, 8, .ofNat 0, .ofNat 4), (33, 9, .ofNat 0, .ofNat 5), (33, 11, .negSucc 0, .ofNat 143)], [(10, 210, .ofNat 0, .ofNat 29), (32, 1, .ofNat 3, .ofNat 3)], [10], (some (0, .ofNat 0, .ofNat 37)), 3, false)
theorem c_xr_2_0 (hL : L < 2 ^ 31) : ci L xs 123 k_xr_2_0 :=
  mi_ok (fc := 9000) (f := 9000) (cuts := []) (xk := jx) cl_lok cl_hrf (cl_hro L xs) hL jx_ok (by decide +kernel)
def k_xr_2_1 : ct_C := ([(2, .ofNat 8, .ofNat 8)], [(10, 210, .ofNat 0, .ofNat 29), (32, 1, .ofNat 2, .ofNat 2), (32, 2, .ofNat 3, .ofNat 40), (33, 8, .ofNat 5, .ofNat 5), (33, 9, .ofNat 0, .ofNat 29), (33, 11, .negSucc 0, .ofNat 143)], [(10, 210, .ofNat 0, .ofNat 29), (32, 1, .ofNat 3, .ofNat 3)], [10], (some (0, .ofNat 0, .ofNat 37)), 3, false)
theorem c_xr_2_1 (hL : L < 2 ^ 31) : ci L xs 123 k_xr_2_1 :=
  mi_ok (fc := 9000) (f := 9000) (cuts := []) (xk := jx) cl_lok cl_hrf (cl_hro L xs) hL jx_ok (by decide +kernel)
def k_xr_2_2 : ct_C := ([(2, .ofNat 8, .ofNat 8)], [(10, 210, .ofNat 0, .ofNat 29), (32, 1, .ofNat 2, .ofNat 2), (32, 2, .ofNat 3, .ofNat 40), (33, 8, .ofNat 6, .ofNat 6), (33, 9, .ofNat 0, .ofNat 11), (33, 11, .negSucc 0, .ofNat 143)], [(10, 210, .ofNat 0, .ofNat 29), (32, 1, .ofNat 3, .ofNat 3)], [10], (some (0, .ofNat 0, .ofNat 37)), 3, false)
theorem c_xr_2_2 (hL : L < 2 ^ 31) : ci L xs 123 k_xr_2_2 :=
  mi_ok (fc := 9000) (f := 9000) (cuts := []) (xk := jx) cl_lok cl_hrf (cl_hro L xs) hL jx_ok (by decide +kernel)
def k_xr_2_3 : ct_C := ([(2, .ofNat 8, .ofNat 8)], [(10, 210, .ofNat 0, .ofNat 29), (32, 1, .ofNat 2, .ofNat 2), (32, 2, .ofNat 3, .ofNat 40), (33, 8, .ofNat 7, .ofNat 7), (33, 9, .ofNat 0, .ofNat 0), (33, 11, .ofNat 0, .ofNat 29)], [(10, 210, .ofNat 0, .ofNat 29), (32, 1, .ofNat 3, .ofNat 3)], [10], (some (0, .ofNat 0, .ofNat 37)), 3, false)
theorem c_xr_2_3 (hL : L < 2 ^ 31) : ci L xs 123 k_xr_2_3 :=
  mi_ok (fc := 9000) (f := 9000) (cuts := []) (xk := jx) cl_lok cl_hrf (cl_hro L xs) hL jx_ok (by decide +kernel)
def k_xr_2 : ct_C := ([(2, .ofNat 8, .ofNat 8)], [(10, 210, .ofNat 0, .ofNat 29), (32, 1, .ofNat 2, .ofNat 2)], [(10, 210, .ofNat 0, .ofNat 29), (32, 1, .ofNat 0, .ofNat 40)], [10], (some (0, .negSucc 4, .ofNat 37)), 3, false)
theorem s_xr_2 (M : Nat → Nat → Int) (hm : sx_mok cl_ly M) (hJ : JJ M) (hg : ct_g k_xr_2.2.1 M) : ∃ m ∈ [k_xr_2_e, k_xr_2_0, k_xr_2_1, k_xr_2_2, k_xr_2_3], ct_g m.2.1 M := by
  have hv : M 32 1 = 2 := by
    have h := hg (32, 1, .ofNat 2, .ofNat 2) (List.mem_cons_of_mem _ List.mem_cons_self)
    exact Int.le_antisymm h.2 h.1
  have hk := jr_kn hm
  have hu := jr_un hm
  have hd := hJ.2.2.1
  have he := hJ.2.2.2
  by_cases h0 : M 32 2 = 2
  · exact ⟨k_xr_2_e, List.mem_cons_self, (jc (by show (2 : Int) ≤ M 32 1; omega) (by show M 32 1 ≤ (2 : Int); omega) (jc (by show (2 : Int) ≤ M 32 2; omega) (by show M 32 2 ≤ (2 : Int); omega) jn))⟩
  · have h8 : jp (M 33 8) (M 33 9) (M 33 10) (M 33 11) := hJ.1 2 (by decide)
    obtain ⟨⟨b1, b2, b3, b4⟩, h8⟩ := h8
    rcases h8 with h8 | h8 | h8 | h8
    · exact ⟨k_xr_2_0, (List.mem_cons_of_mem _ List.mem_cons_self), (jh (hg (10, 210, .ofNat 0, .ofNat 29) List.mem_cons_self) (jc (by show (2 : Int) ≤ M 32 1; omega) (by show M 32 1 ≤ (2 : Int); omega) (jc (by show (3 : Int) ≤ M 32 2; omega) (by show M 32 2 ≤ (40 : Int); omega) (jc (by show (0 : Int) ≤ M 33 8; omega) (by show M 33 8 ≤ (4 : Int); omega) (jc (by show (0 : Int) ≤ M 33 9; omega) (by show M 33 9 ≤ (5 : Int); omega) (jc (by show (-1 : Int) ≤ M 33 11; omega) (by show M 33 11 ≤ (143 : Int); omega) jn))))))⟩
    · exact ⟨k_xr_2_1, (List.mem_cons_of_mem _ (List.mem_cons_of_mem _ List.mem_cons_self)), (jh (hg (10, 210, .ofNat 0, .ofNat 29) List.mem_cons_self) (jc (by show (2 : Int) ≤ M 32 1; omega) (by show M 32 1 ≤ (2 : Int); omega) (jc (by show (3 : Int) ≤ M 32 2; omega) (by show M 32 2 ≤ (40 : Int); omega) (jc (by show (5 : Int) ≤ M 33 8; omega) (by show M 33 8 ≤ (5 : Int); omega) (jc (by show (0 : Int) ≤ M 33 9; omega) (by show M 33 9 ≤ (29 : Int); omega) (jc (by show (-1 : Int) ≤ M 33 11; omega) (by show M 33 11 ≤ (143 : Int); omega) jn))))))⟩
    · exact ⟨k_xr_2_2, (List.mem_cons_of_mem _ (List.mem_cons_of_mem _ (List.mem_cons_of_mem _ List.mem_cons_self))), (jh (hg (10, 210, .ofNat 0, .ofNat 29) List.mem_cons_self) (jc (by show (2 : Int) ≤ M 32 1; omega) (by show M 32 1 ≤ (2 : Int); omega) (jc (by show (3 : Int) ≤ M 32 2; omega) (by show M 32 2 ≤ (40 : Int); omega) (jc (by show (6 : Int) ≤ M 33 8; omega) (by show M 33 8 ≤ (6 : Int); omega) (jc (by show (0 : Int) ≤ M 33 9; omega) (by show M 33 9 ≤ (11 : Int); omega) (jc (by show (-1 : Int) ≤ M 33 11; omega) (by show M 33 11 ≤ (143 : Int); omega) jn))))))⟩
    · exact ⟨k_xr_2_3, (List.mem_cons_of_mem _ (List.mem_cons_of_mem _ (List.mem_cons_of_mem _ (List.mem_cons_of_mem _ List.mem_cons_self)))), (jh (hg (10, 210, .ofNat 0, .ofNat 29) List.mem_cons_self) (jc (by show (2 : Int) ≤ M 32 1; omega) (by show M 32 1 ≤ (2 : Int); omega) (jc (by show (3 : Int) ≤ M 32 2; omega) (by show M 32 2 ≤ (40 : Int); omega) (jc (by show (7 : Int) ≤ M 33 8; omega) (by show M 33 8 ≤ (7 : Int); omega) (jc (by show (0 : Int) ≤ M 33 9; omega) (by show M 33 9 ≤ (0 : Int); omega) (jc (by show (0 : Int) ≤ M 33 11; omega) (by show M 33 11 ≤ (29 : Int); omega) jn))))))⟩
theorem c_xr_2 (hL : L < 2 ^ 31) : ci L xs 123 k_xr_2 :=
  ci_j_ok (ms := [k_xr_2_e, k_xr_2_0, k_xr_2_1, k_xr_2_2, k_xr_2_3]) (jl_cons (c_xr_2_e hL) (jl_cons (c_xr_2_0 hL) (jl_cons (c_xr_2_1 hL) (jl_cons (c_xr_2_2 hL) (jl_cons (c_xr_2_3 hL) jl_nil))))) s_xr_2 (by decide +kernel)
def k_xr_3_e : ct_C := ([(2, .ofNat 8, .ofNat 8)], [(32, 1, .ofNat 3, .ofNat 3), (32, 2, .ofNat 3, .ofNat 3)], [], [], (some (0, .negSucc 4, .negSucc 4)), 1, false)
theorem c_xr_3_e (hL : L < 2 ^ 31) : ci L xs 123 k_xr_3_e :=
  mi_ok (fc := 9000) (f := 9000) (cuts := []) (xk := jx) cl_lok cl_hrf (cl_hro L xs) hL jx_ok (by decide +kernel)
def k_xr_3_0 : ct_C := ([(2, .ofNat 8, .ofNat 8)], [(10, 210, .ofNat 0, .ofNat 29), (32, 1, .ofNat 3, .ofNat 3), (32, 2, .ofNat 4, .ofNat 40), (33, 12, .ofNat 0, .ofNat 4), (33, 13, .ofNat 0, .ofNat 5), (33, 15, .negSucc 0, .ofNat 143)], [(10, 210, .ofNat 0, .ofNat 29), (32, 1, .ofNat 4, .ofNat 4)], [10], (some (0, .ofNat 0, .ofNat 36)), 3, false)
theorem c_xr_3_0 (hL : L < 2 ^ 31) : ci L xs 123 k_xr_3_0 :=
  mi_ok (fc := 9000) (f := 9000) (cuts := []) (xk := jx) cl_lok cl_hrf (cl_hro L xs) hL jx_ok (by decide +kernel)
def k_xr_3_1 : ct_C := ([(2, .ofNat 8, .ofNat 8)], [(10, 210, .ofNat 0, .ofNat 29), (32, 1, .ofNat 3, .ofNat 3), (32, 2, .ofNat 4, .ofNat 40), (33, 12, .ofNat 5, .ofNat 5), (33, 13, .ofNat 0, .ofNat 29), (33, 15, .negSucc 0, .ofNat 143)], [(10, 210, .ofNat 0, .ofNat 29), (32, 1, .ofNat 4, .ofNat 4)], [10], (some (0, .ofNat 0, .ofNat 36)), 3, false)
theorem c_xr_3_1 (hL : L < 2 ^ 31) : ci L xs 123 k_xr_3_1 :=
  mi_ok (fc := 9000) (f := 9000) (cuts := []) (xk := jx) cl_lok cl_hrf (cl_hro L xs) hL jx_ok (by decide +kernel)
def k_xr_3_2 : ct_C := ([(2, .ofNat 8, .ofNat 8)], [(10, 210, .ofNat 0, .ofNat 29), (32, 1, .ofNat 3, .ofNat 3), (32, 2, .ofNat 4, .ofNat 40), (33, 12, .ofNat 6, .ofNat 6), (33, 13, .ofNat 0, .ofNat 11), (33, 15, .negSucc 0, .ofNat 143)], [(10, 210, .ofNat 0, .ofNat 29), (32, 1, .ofNat 4, .ofNat 4)], [10], (some (0, .ofNat 0, .ofNat 36)), 3, false)
theorem c_xr_3_2 (hL : L < 2 ^ 31) : ci L xs 123 k_xr_3_2 :=
  mi_ok (fc := 9000) (f := 9000) (cuts := []) (xk := jx) cl_lok cl_hrf (cl_hro L xs) hL jx_ok (by decide +kernel)
def k_xr_3_3 : ct_C := ([(2, .ofNat 8, .ofNat 8)], [(10, 210, .ofNat 0, .ofNat 29), (32, 1, .ofNat 3, .ofNat 3), (32, 2, .ofNat 4, .ofNat 40), (33, 12, .ofNat 7, .ofNat 7), (33, 13, .ofNat 0, .ofNat 0), (33, 15, .ofNat 0, .ofNat 29)], [(10, 210, .ofNat 0, .ofNat 29), (32, 1, .ofNat 4, .ofNat 4)], [10], (some (0, .ofNat 0, .ofNat 36)), 3, false)
theorem c_xr_3_3 (hL : L < 2 ^ 31) : ci L xs 123 k_xr_3_3 :=
  mi_ok (fc := 9000) (f := 9000) (cuts := []) (xk := jx) cl_lok cl_hrf (cl_hro L xs) hL jx_ok (by decide +kernel)
def k_xr_3 : ct_C := ([(2, .ofNat 8, .ofNat 8)], [(10, 210, .ofNat 0, .ofNat 29), (32, 1, .ofNat 3, .ofNat 3)], [(10, 210, .ofNat 0, .ofNat 29), (32, 1, .ofNat 0, .ofNat 40)], [10], (some (0, .negSucc 4, .ofNat 36)), 3, false)
theorem s_xr_3 (M : Nat → Nat → Int) (hm : sx_mok cl_ly M) (hJ : JJ M) (hg : ct_g k_xr_3.2.1 M) : ∃ m ∈ [k_xr_3_e, k_xr_3_0, k_xr_3_1, k_xr_3_2, k_xr_3_3], ct_g m.2.1 M := by
  have hv : M 32 1 = 3 := by
    have h := hg (32, 1, .ofNat 3, .ofNat 3) (List.mem_cons_of_mem _ List.mem_cons_self)
    exact Int.le_antisymm h.2 h.1
  have hk := jr_kn hm
  have hu := jr_un hm
  have hd := hJ.2.2.1
  have he := hJ.2.2.2
  by_cases h0 : M 32 2 = 3
  · exact ⟨k_xr_3_e, List.mem_cons_self, (jc (by show (3 : Int) ≤ M 32 1; omega) (by show M 32 1 ≤ (3 : Int); omega) (jc (by show (3 : Int) ≤ M 32 2; omega) (by show M 32 2 ≤ (3 : Int); omega) jn))⟩
  · have h8 : jp (M 33 12) (M 33 13) (M 33 14) (M 33 15) := hJ.1 3 (by decide)
    obtain ⟨⟨b1, b2, b3, b4⟩, h8⟩ := h8
    rcases h8 with h8 | h8 | h8 | h8
    · exact ⟨k_xr_3_0, (List.mem_cons_of_mem _ List.mem_cons_self), (jh (hg (10, 210, .ofNat 0, .ofNat 29) List.mem_cons_self) (jc (by show (3 : Int) ≤ M 32 1; omega) (by show M 32 1 ≤ (3 : Int); omega) (jc (by show (4 : Int) ≤ M 32 2; omega) (by show M 32 2 ≤ (40 : Int); omega) (jc (by show (0 : Int) ≤ M 33 12; omega) (by show M 33 12 ≤ (4 : Int); omega) (jc (by show (0 : Int) ≤ M 33 13; omega) (by show M 33 13 ≤ (5 : Int); omega) (jc (by show (-1 : Int) ≤ M 33 15; omega) (by show M 33 15 ≤ (143 : Int); omega) jn))))))⟩
    · exact ⟨k_xr_3_1, (List.mem_cons_of_mem _ (List.mem_cons_of_mem _ List.mem_cons_self)), (jh (hg (10, 210, .ofNat 0, .ofNat 29) List.mem_cons_self) (jc (by show (3 : Int) ≤ M 32 1; omega) (by show M 32 1 ≤ (3 : Int); omega) (jc (by show (4 : Int) ≤ M 32 2; omega) (by show M 32 2 ≤ (40 : Int); omega) (jc (by show (5 : Int) ≤ M 33 12; omega) (by show M 33 12 ≤ (5 : Int); omega) (jc (by show (0 : Int) ≤ M 33 13; omega) (by show M 33 13 ≤ (29 : Int); omega) (jc (by show (-1 : Int) ≤ M 33 15; omega) (by show M 33 15 ≤ (143 : Int); omega) jn))))))⟩
    · exact ⟨k_xr_3_2, (List.mem_cons_of_mem _ (List.mem_cons_of_mem _ (List.mem_cons_of_mem _ List.mem_cons_self))), (jh (hg (10, 210, .ofNat 0, .ofNat 29) List.mem_cons_self) (jc (by show (3 : Int) ≤ M 32 1; omega) (by show M 32 1 ≤ (3 : Int); omega) (jc (by show (4 : Int) ≤ M 32 2; omega) (by show M 32 2 ≤ (40 : Int); omega) (jc (by show (6 : Int) ≤ M 33 12; omega) (by show M 33 12 ≤ (6 : Int); omega) (jc (by show (0 : Int) ≤ M 33 13; omega) (by show M 33 13 ≤ (11 : Int); omega) (jc (by show (-1 : Int) ≤ M 33 15; omega) (by show M 33 15 ≤ (143 : Int); omega) jn))))))⟩
    · exact ⟨k_xr_3_3, (List.mem_cons_of_mem _ (List.mem_cons_of_mem _ (List.mem_cons_of_mem _ (List.mem_cons_of_mem _ List.mem_cons_self)))), (jh (hg (10, 210, .ofNat 0, .ofNat 29) List.mem_cons_self) (jc (by show (3 : Int) ≤ M 32 1; omega) (by show M 32 1 ≤ (3 : Int); omega) (jc (by show (4 : Int) ≤ M 32 2; omega) (by show M 32 2 ≤ (40 : Int); omega) (jc (by show (7 : Int) ≤ M 33 12; omega) (by show M 33 12 ≤ (7 : Int); omega) (jc (by show (0 : Int) ≤ M 33 13; omega) (by show M 33 13 ≤ (0 : Int); omega) (jc (by show (0 : Int) ≤ M 33 15; omega) (by show M 33 15 ≤ (29 : Int); omega) jn))))))⟩
theorem c_xr_3 (hL : L < 2 ^ 31) : ci L xs 123 k_xr_3 :=
  ci_j_ok (ms := [k_xr_3_e, k_xr_3_0, k_xr_3_1, k_xr_3_2, k_xr_3_3]) (jl_cons (c_xr_3_e hL) (jl_cons (c_xr_3_0 hL) (jl_cons (c_xr_3_1 hL) (jl_cons (c_xr_3_2 hL) (jl_cons (c_xr_3_3 hL) jl_nil))))) s_xr_3 (by decide +kernel)
def k_xr_4_e : ct_C := ([(2, .ofNat 8, .ofNat 8)], [(32, 1, .ofNat 4, .ofNat 4), (32, 2, .ofNat 4, .ofNat 4)], [], [], (some (0, .negSucc 4, .negSucc 4)), 1, false)
theorem c_xr_4_e (hL : L < 2 ^ 31) : ci L xs 123 k_xr_4_e :=
  mi_ok (fc := 9000) (f := 9000) (cuts := []) (xk := jx) cl_lok cl_hrf (cl_hro L xs) hL jx_ok (by decide +kernel)
def k_xr_4_0 : ct_C := ([(2, .ofNat 8, .ofNat 8)], [(10, 210, .ofNat 0, .ofNat 29), (32, 1, .ofNat 4, .ofNat 4), (32, 2, .ofNat 5, .ofNat 40), (33, 16, .ofNat 0, .ofNat 4), (33, 17, .ofNat 0, .ofNat 5), (33, 19, .negSucc 0, .ofNat 143)], [(10, 210, .ofNat 0, .ofNat 29), (32, 1, .ofNat 5, .ofNat 5)], [10], (some (0, .ofNat 0, .ofNat 35)), 3, false)
theorem c_xr_4_0 (hL : L < 2 ^ 31) : ci L xs 123 k_xr_4_0 :=
  mi_ok (fc := 9000) (f := 9000) (cuts := []) (xk := jx) cl_lok cl_hrf (cl_hro L xs) hL jx_ok (by decide +kernel)
def k_xr_4_1 : ct_C := ([(2, .ofNat 8, .ofNat 8)], [(10, 210, .ofNat 0, .ofNat 29), (32, 1, .ofNat 4, .ofNat 4), (32, 2, .ofNat 5, .ofNat 40), (33, 16, .ofNat 5, .ofNat 5), (33, 17, .ofNat 0, .ofNat 29), (33, 19, .negSucc 0, .ofNat 143)], [(10, 210, .ofNat 0, .ofNat 29), (32, 1, .ofNat 5, .ofNat 5)], [10], (some (0, .ofNat 0, .ofNat 35)), 3, false)
theorem c_xr_4_1 (hL : L < 2 ^ 31) : ci L xs 123 k_xr_4_1 :=
  mi_ok (fc := 9000) (f := 9000) (cuts := []) (xk := jx) cl_lok cl_hrf (cl_hro L xs) hL jx_ok (by decide +kernel)
def k_xr_4_2 : ct_C := ([(2, .ofNat 8, .ofNat 8)], [(10, 210, .ofNat 0, .ofNat 29), (32, 1, .ofNat 4, .ofNat 4), (32, 2, .ofNat 5, .ofNat 40), (33, 16, .ofNat 6, .ofNat 6), (33, 17, .ofNat 0, .ofNat 11), (33, 19, .negSucc 0, .ofNat 143)], [(10, 210, .ofNat 0, .ofNat 29), (32, 1, .ofNat 5, .ofNat 5)], [10], (some (0, .ofNat 0, .ofNat 35)), 3, false)
theorem c_xr_4_2 (hL : L < 2 ^ 31) : ci L xs 123 k_xr_4_2 :=
  mi_ok (fc := 9000) (f := 9000) (cuts := []) (xk := jx) cl_lok cl_hrf (cl_hro L xs) hL jx_ok (by decide +kernel)
def k_xr_4_3 : ct_C := ([(2, .ofNat 8, .ofNat 8)], [(10, 210, .ofNat 0, .ofNat 29), (32, 1, .ofNat 4, .ofNat 4), (32, 2, .ofNat 5, .ofNat 40), (33, 16, .ofNat 7, .ofNat 7), (33, 17, .ofNat 0, .ofNat 0), (33, 19, .ofNat 0, .ofNat 29)], [(10, 210, .ofNat 0, .ofNat 29), (32, 1, .ofNat 5, .ofNat 5)], [10], (some (0, .ofNat 0, .ofNat 35)), 3, false)
theorem c_xr_4_3 (hL : L < 2 ^ 31) : ci L xs 123 k_xr_4_3 :=
  mi_ok (fc := 9000) (f := 9000) (cuts := []) (xk := jx) cl_lok cl_hrf (cl_hro L xs) hL jx_ok (by decide +kernel)
def k_xr_4 : ct_C := ([(2, .ofNat 8, .ofNat 8)], [(10, 210, .ofNat 0, .ofNat 29), (32, 1, .ofNat 4, .ofNat 4)], [(10, 210, .ofNat 0, .ofNat 29), (32, 1, .ofNat 0, .ofNat 40)], [10], (some (0, .negSucc 4, .ofNat 35)), 3, false)
theorem s_xr_4 (M : Nat → Nat → Int) (hm : sx_mok cl_ly M) (hJ : JJ M) (hg : ct_g k_xr_4.2.1 M) : ∃ m ∈ [k_xr_4_e, k_xr_4_0, k_xr_4_1, k_xr_4_2, k_xr_4_3], ct_g m.2.1 M := by
  have hv : M 32 1 = 4 := by
    have h := hg (32, 1, .ofNat 4, .ofNat 4) (List.mem_cons_of_mem _ List.mem_cons_self)
    exact Int.le_antisymm h.2 h.1
  have hk := jr_kn hm
  have hu := jr_un hm
  have hd := hJ.2.2.1
  have he := hJ.2.2.2
  by_cases h0 : M 32 2 = 4
  · exact ⟨k_xr_4_e, List.mem_cons_self, (jc (by show (4 : Int) ≤ M 32 1; omega) (by show M 32 1 ≤ (4 : Int); omega) (jc (by show (4 : Int) ≤ M 32 2; omega) (by show M 32 2 ≤ (4 : Int); omega) jn))⟩
  · have h8 : jp (M 33 16) (M 33 17) (M 33 18) (M 33 19) := hJ.1 4 (by decide)
    obtain ⟨⟨b1, b2, b3, b4⟩, h8⟩ := h8
    rcases h8 with h8 | h8 | h8 | h8
    · exact ⟨k_xr_4_0, (List.mem_cons_of_mem _ List.mem_cons_self), (jh (hg (10, 210, .ofNat 0, .ofNat 29) List.mem_cons_self) (jc (by show (4 : Int) ≤ M 32 1; omega) (by show M 32 1 ≤ (4 : Int); omega) (jc (by show (5 : Int) ≤ M 32 2; omega) (by show M 32 2 ≤ (40 : Int); omega) (jc (by show (0 : Int) ≤ M 33 16; omega) (by show M 33 16 ≤ (4 : Int); omega) (jc (by show (0 : Int) ≤ M 33 17; omega) (by show M 33 17 ≤ (5 : Int); omega) (jc (by show (-1 : Int) ≤ M 33 19; omega) (by show M 33 19 ≤ (143 : Int); omega) jn))))))⟩
    · exact ⟨k_xr_4_1, (List.mem_cons_of_mem _ (List.mem_cons_of_mem _ List.mem_cons_self)), (jh (hg (10, 210, .ofNat 0, .ofNat 29) List.mem_cons_self) (jc (by show (4 : Int) ≤ M 32 1; omega) (by show M 32 1 ≤ (4 : Int); omega) (jc (by show (5 : Int) ≤ M 32 2; omega) (by show M 32 2 ≤ (40 : Int); omega) (jc (by show (5 : Int) ≤ M 33 16; omega) (by show M 33 16 ≤ (5 : Int); omega) (jc (by show (0 : Int) ≤ M 33 17; omega) (by show M 33 17 ≤ (29 : Int); omega) (jc (by show (-1 : Int) ≤ M 33 19; omega) (by show M 33 19 ≤ (143 : Int); omega) jn))))))⟩
    · exact ⟨k_xr_4_2, (List.mem_cons_of_mem _ (List.mem_cons_of_mem _ (List.mem_cons_of_mem _ List.mem_cons_self))), (jh (hg (10, 210, .ofNat 0, .ofNat 29) List.mem_cons_self) (jc (by show (4 : Int) ≤ M 32 1; omega) (by show M 32 1 ≤ (4 : Int); omega) (jc (by show (5 : Int) ≤ M 32 2; omega) (by show M 32 2 ≤ (40 : Int); omega) (jc (by show (6 : Int) ≤ M 33 16; omega) (by show M 33 16 ≤ (6 : Int); omega) (jc (by show (0 : Int) ≤ M 33 17; omega) (by show M 33 17 ≤ (11 : Int); omega) (jc (by show (-1 : Int) ≤ M 33 19; omega) (by show M 33 19 ≤ (143 : Int); omega) jn))))))⟩
    · exact ⟨k_xr_4_3, (List.mem_cons_of_mem _ (List.mem_cons_of_mem _ (List.mem_cons_of_mem _ (List.mem_cons_of_mem _ List.mem_cons_self)))), (jh (hg (10, 210, .ofNat 0, .ofNat 29) List.mem_cons_self) (jc (by show (4 : Int) ≤ M 32 1; omega) (by show M 32 1 ≤ (4 : Int); omega) (jc (by show (5 : Int) ≤ M 32 2; omega) (by show M 32 2 ≤ (40 : Int); omega) (jc (by show (7 : Int) ≤ M 33 16; omega) (by show M 33 16 ≤ (7 : Int); omega) (jc (by show (0 : Int) ≤ M 33 17; omega) (by show M 33 17 ≤ (0 : Int); omega) (jc (by show (0 : Int) ≤ M 33 19; omega) (by show M 33 19 ≤ (29 : Int); omega) jn))))))⟩
theorem c_xr_4 (hL : L < 2 ^ 31) : ci L xs 123 k_xr_4 :=
  ci_j_ok (ms := [k_xr_4_e, k_xr_4_0, k_xr_4_1, k_xr_4_2, k_xr_4_3]) (jl_cons (c_xr_4_e hL) (jl_cons (c_xr_4_0 hL) (jl_cons (c_xr_4_1 hL) (jl_cons (c_xr_4_2 hL) (jl_cons (c_xr_4_3 hL) jl_nil))))) s_xr_4 (by decide +kernel)
def k_xr_5_e : ct_C := ([(2, .ofNat 8, .ofNat 8)], [(32, 1, .ofNat 5, .ofNat 5), (32, 2, .ofNat 5, .ofNat 5)], [], [], (some (0, .negSucc 4, .negSucc 4)), 1, false)
theorem c_xr_5_e (hL : L < 2 ^ 31) : ci L xs 123 k_xr_5_e :=
  mi_ok (fc := 9000) (f := 9000) (cuts := []) (xk := jx) cl_lok cl_hrf (cl_hro L xs) hL jx_ok (by decide +kernel)
def k_xr_5_0 : ct_C := ([(2, .ofNat 8, .ofNat 8)], [(10, 210, .ofNat 0, .ofNat 29), (32, 1, .ofNat 5, .ofNat 5), (32, 2, .ofNat 6, .ofNat 40), (33, 20, .ofNat 0, .ofNat 4), (33, 21, .ofNat 0, .ofNat 5), (33, 23, .negSucc 0, .ofNat 143)], [(10, 210, .ofNat 0, .ofNat 29), (32, 1, .ofNat 6, .ofNat 6)], [10], (some (0, .ofNat 0, .ofNat 34)), 3, false)
theorem c_xr_5_0 (hL : L < 2 ^ 31) : ci L xs 123 k_xr_5_0 :=
  mi_ok (fc := 9000) (f := 9000) (cuts := []) (xk := jx) cl_lok cl_hrf (cl_hro L xs) hL jx_ok (by decide +kernel)
def k_xr_5_1 : ct_C := ([(2, .ofNat 8, .ofNat 8)], [(10, 210, .ofNat 0, .ofNat 29), (32, 1, .ofNat 5, .ofNat 5), (32, 2, .ofNat 6, .ofNat 40), (33, 20, .ofNat 5, .ofNat 5), (33, 21, .ofNat 0, .ofNat 29), (33, 23, .negSucc 0, .ofNat 143)], [(10, 210, .ofNat 0, .ofNat 29), (32, 1, .ofNat 6, .ofNat 6)], [10], (some (0, .ofNat 0, .ofNat 34)), 3, false)
theorem c_xr_5_1 (hL : L < 2 ^ 31) : ci L xs 123 k_xr_5_1 :=
  mi_ok (fc := 9000) (f := 9000) (cuts := []) (xk := jx) cl_lok cl_hrf (cl_hro L xs) hL jx_ok (by decide +kernel)
def k_xr_5_2 : ct_C := ([(2, .ofNat 8, .ofNat 8)], [(10, 210, .ofNat 0, .ofNat 29), (32, 1, .ofNat 5, .ofNat 5), (32, 2, .ofNat 6, .ofNat 40), (33, 20, .ofNat 6, .ofNat 6), (33, 21, .ofNat 0, .ofNat 11), (33, 23, .negSucc 0, .ofNat 143)], [(10, 210, .ofNat 0, .ofNat 29), (32, 1, .ofNat 6, .ofNat 6)], [10], (some (0, .ofNat 0, .ofNat 34)), 3, false)
theorem c_xr_5_2 (hL : L < 2 ^ 31) : ci L xs 123 k_xr_5_2 :=
  mi_ok (fc := 9000) (f := 9000) (cuts := []) (xk := jx) cl_lok cl_hrf (cl_hro L xs) hL jx_ok (by decide +kernel)
def k_xr_5_3 : ct_C := ([(2, .ofNat 8, .ofNat 8)], [(10, 210, .ofNat 0, .ofNat 29), (32, 1, .ofNat 5, .ofNat 5), (32, 2, .ofNat 6, .ofNat 40), (33, 20, .ofNat 7, .ofNat 7), (33, 21, .ofNat 0, .ofNat 0), (33, 23, .ofNat 0, .ofNat 29)], [(10, 210, .ofNat 0, .ofNat 29), (32, 1, .ofNat 6, .ofNat 6)], [10], (some (0, .ofNat 0, .ofNat 34)), 3, false)
theorem c_xr_5_3 (hL : L < 2 ^ 31) : ci L xs 123 k_xr_5_3 :=
  mi_ok (fc := 9000) (f := 9000) (cuts := []) (xk := jx) cl_lok cl_hrf (cl_hro L xs) hL jx_ok (by decide +kernel)
def k_xr_5 : ct_C := ([(2, .ofNat 8, .ofNat 8)], [(10, 210, .ofNat 0, .ofNat 29), (32, 1, .ofNat 5, .ofNat 5)], [(10, 210, .ofNat 0, .ofNat 29), (32, 1, .ofNat 0, .ofNat 40)], [10], (some (0, .negSucc 4, .ofNat 34)), 3, false)
theorem s_xr_5 (M : Nat → Nat → Int) (hm : sx_mok cl_ly M) (hJ : JJ M) (hg : ct_g k_xr_5.2.1 M) : ∃ m ∈ [k_xr_5_e, k_xr_5_0, k_xr_5_1, k_xr_5_2, k_xr_5_3], ct_g m.2.1 M := by
  have hv : M 32 1 = 5 := by
    have h := hg (32, 1, .ofNat 5, .ofNat 5) (List.mem_cons_of_mem _ List.mem_cons_self)
    exact Int.le_antisymm h.2 h.1
  have hk := jr_kn hm
  have hu := jr_un hm
  have hd := hJ.2.2.1
  have he := hJ.2.2.2
  by_cases h0 : M 32 2 = 5
  · exact ⟨k_xr_5_e, List.mem_cons_self, (jc (by show (5 : Int) ≤ M 32 1; omega) (by show M 32 1 ≤ (5 : Int); omega) (jc (by show (5 : Int) ≤ M 32 2; omega) (by show M 32 2 ≤ (5 : Int); omega) jn))⟩
  · have h8 : jp (M 33 20) (M 33 21) (M 33 22) (M 33 23) := hJ.1 5 (by decide)
    obtain ⟨⟨b1, b2, b3, b4⟩, h8⟩ := h8
    rcases h8 with h8 | h8 | h8 | h8
    · exact ⟨k_xr_5_0, (List.mem_cons_of_mem _ List.mem_cons_self), (jh (hg (10, 210, .ofNat 0, .ofNat 29) List.mem_cons_self) (jc (by show (5 : Int) ≤ M 32 1; omega) (by show M 32 1 ≤ (5 : Int); omega) (jc (by show (6 : Int) ≤ M 32 2; omega) (by show M 32 2 ≤ (40 : Int); omega) (jc (by show (0 : Int) ≤ M 33 20; omega) (by show M 33 20 ≤ (4 : Int); omega) (jc (by show (0 : Int) ≤ M 33 21; omega) (by show M 33 21 ≤ (5 : Int); omega) (jc (by show (-1 : Int) ≤ M 33 23; omega) (by show M 33 23 ≤ (143 : Int); omega) jn))))))⟩
    · exact ⟨k_xr_5_1, (List.mem_cons_of_mem _ (List.mem_cons_of_mem _ List.mem_cons_self)), (jh (hg (10, 210, .ofNat 0, .ofNat 29) List.mem_cons_self) (jc (by show (5 : Int) ≤ M 32 1; omega) (by show M 32 1 ≤ (5 : Int); omega) (jc (by show (6 : Int) ≤ M 32 2; omega) (by show M 32 2 ≤ (40 : Int); omega) (jc (by show (5 : Int) ≤ M 33 20; omega) (by show M 33 20 ≤ (5 : Int); omega) (jc (by show (0 : Int) ≤ M 33 21; omega) (by show M 33 21 ≤ (29 : Int); omega) (jc (by show (-1 : Int) ≤ M 33 23; omega) (by show M 33 23 ≤ (143 : Int); omega) jn))))))⟩
    · exact ⟨k_xr_5_2, (List.mem_cons_of_mem _ (List.mem_cons_of_mem _ (List.mem_cons_of_mem _ List.mem_cons_self))), (jh (hg (10, 210, .ofNat 0, .ofNat 29) List.mem_cons_self) (jc (by show (5 : Int) ≤ M 32 1; omega) (by show M 32 1 ≤ (5 : Int); omega) (jc (by show (6 : Int) ≤ M 32 2; omega) (by show M 32 2 ≤ (40 : Int); omega) (jc (by show (6 : Int) ≤ M 33 20; omega) (by show M 33 20 ≤ (6 : Int); omega) (jc (by show (0 : Int) ≤ M 33 21; omega) (by show M 33 21 ≤ (11 : Int); omega) (jc (by show (-1 : Int) ≤ M 33 23; omega) (by show M 33 23 ≤ (143 : Int); omega) jn))))))⟩
    · exact ⟨k_xr_5_3, (List.mem_cons_of_mem _ (List.mem_cons_of_mem _ (List.mem_cons_of_mem _ (List.mem_cons_of_mem _ List.mem_cons_self)))), (jh (hg (10, 210, .ofNat 0, .ofNat 29) List.mem_cons_self) (jc (by show (5 : Int) ≤ M 32 1; omega) (by show M 32 1 ≤ (5 : Int); omega) (jc (by show (6 : Int) ≤ M 32 2; omega) (by show M 32 2 ≤ (40 : Int); omega) (jc (by show (7 : Int) ≤ M 33 20; omega) (by show M 33 20 ≤ (7 : Int); omega) (jc (by show (0 : Int) ≤ M 33 21; omega) (by show M 33 21 ≤ (0 : Int); omega) (jc (by show (0 : Int) ≤ M 33 23; omega) (by show M 33 23 ≤ (29 : Int); omega) jn))))))⟩
theorem c_xr_5 (hL : L < 2 ^ 31) : ci L xs 123 k_xr_5 :=
  ci_j_ok (ms := [k_xr_5_e, k_xr_5_0, k_xr_5_1, k_xr_5_2, k_xr_5_3]) (jl_cons (c_xr_5_e hL) (jl_cons (c_xr_5_0 hL) (jl_cons (c_xr_5_1 hL) (jl_cons (c_xr_5_2 hL) (jl_cons (c_xr_5_3 hL) jl_nil))))) s_xr_5 (by decide +kernel)
def k_xr_6_e : ct_C := ([(2, .ofNat 8, .ofNat 8)], [(32, 1, .ofNat 6, .ofNat 6), (32, 2, .ofNat 6, .ofNat 6)], [], [], (some (0, .negSucc 4, .negSucc 4)), 1, false)
theorem c_xr_6_e (hL : L < 2 ^ 31) : ci L xs 123 k_xr_6_e :=
  mi_ok (fc := 9000) (f := 9000) (cuts := []) (xk := jx) cl_lok cl_hrf (cl_hro L xs) hL jx_ok (by decide +kernel)
def k_xr_6_0 : ct_C := ([(2, .ofNat 8, .ofNat 8)], [(10, 210, .ofNat 0, .ofNat 29), (32, 1, .ofNat 6, .ofNat 6), (32, 2, .ofNat 7, .ofNat 40), (33, 24, .ofNat 0, .ofNat 4), (33, 25, .ofNat 0, .ofNat 5), (33, 27, .negSucc 0, .ofNat 143)], [(10, 210, .ofNat 0, .ofNat 29), (32, 1, .ofNat 7, .ofNat 7)], [10], (some (0, .ofNat 0, .ofNat 33)), 3, false)
theorem c_xr_6_0 (hL : L < 2 ^ 31) : ci L xs 123 k_xr_6_0 :=
  mi_ok (fc := 9000) (f := 9000) (cuts := []) (xk := jx) cl_lok cl_hrf (cl_hro L xs) hL jx_ok (by decide +kernel)
end
