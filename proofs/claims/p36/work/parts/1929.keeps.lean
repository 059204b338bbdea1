/-! mend, undo, redo, 29. -/
section
variable {L : Nat} {xs : Nat → Int32}
def k_mm_4_0 : ct_C := ([(2, .ofNat 53, .ofNat 53), (0, .negSucc 2147483647, .ofNat 2147483647), (0, .negSucc 2147483647, .negSucc 0), (0, .negSucc 2147483647, .ofNat 2147483647)], [(53, 14, .ofNat 4, .ofNat 4), (53, 15, .ofNat 0, .ofNat 36)], [], [], (some (0, .negSucc 1999999999, .negSucc 1999999999)), 3, false)
theorem c_mm_4_0 (hL : L < 2 ^ 31) : ci L xs 163 k_mm_4_0 :=
  mi_ok (fc := 9000) (f := 9000) (cuts := []) (xk := jx) cl_lok cl_hrf (cl_hro L xs) hL jx_ok (by decide +kernel)
def k_mm_4_1 : ct_C := ([(2, .ofNat 53, .ofNat 53), (0, .negSucc 2147483647, .ofNat 2147483647), (0, .ofNat 0, .ofNat 4), (0, .negSucc 2147483647, .ofNat 2147483647)], [(53, 1, .ofNat 0, .ofNat 6), (53, 14, .ofNat 4, .ofNat 4), (53, 15, .ofNat 0, .ofNat 36)], [(53, 14, .ofNat 4, .ofNat 5), (53, 15, .ofNat 0, .ofNat 36), (62, 4, .negSucc 2147483647, .ofNat 2147483647), (63, 4, .negSucc 2147483647, .ofNat 2147483647), (64, 4, .negSucc 2147483647, .ofNat 2147483647), (65, 4, .negSucc 2147483647, .ofNat 2147483647)], [54, 55, 56, 57, 58], (some (0, .negSucc 1999999999, .ofNat 143)), 4, false)
theorem c_mm_4_1 (hL : L < 2 ^ 31) : ci L xs 163 k_mm_4_1 :=
  mi_ok (fc := 9000) (f := 9000) (cuts := []) (xk := jx) cl_lok cl_hrf (cl_hro L xs) hL jx_ok (by decide +kernel)
def k_mm_4_2 : ct_C := ([(2, .ofNat 53, .ofNat 53), (0, .negSucc 2147483647, .ofNat 2147483647), (0, .ofNat 5, .ofNat 5), (0, .negSucc 2147483647, .ofNat 2147483647)], [(53, 14, .ofNat 4, .ofNat 4), (53, 15, .ofNat 0, .ofNat 36)], [(53, 14, .ofNat 4, .ofNat 5), (53, 15, .ofNat 0, .ofNat 36), (62, 4, .negSucc 2147483647, .ofNat 2147483647), (63, 4, .negSucc 2147483647, .ofNat 2147483647), (64, 4, .negSucc 2147483647, .ofNat 2147483647), (65, 4, .negSucc 2147483647, .ofNat 2147483647)], [61], (some (0, .negSucc 1999999999, .ofNat 143)), 4, false)
theorem c_mm_4_2 (hL : L < 2 ^ 31) : ci L xs 163 k_mm_4_2 :=
  mi_ok (fc := 9000) (f := 9000) (cuts := []) (xk := jx) cl_lok cl_hrf (cl_hro L xs) hL jx_ok (by decide +kernel)
def k_mm_4_3 : ct_C := ([(2, .ofNat 53, .ofNat 53), (0, .negSucc 2147483647, .ofNat 2147483647), (0, .ofNat 6, .ofNat 6), (0, .negSucc 2147483647, .ofNat 2147483647)], [(53, 8, .ofNat 0, .ofNat 12), (53, 14, .ofNat 4, .ofNat 4), (53, 15, .ofNat 0, .ofNat 36)], [(53, 14, .ofNat 4, .ofNat 5), (53, 15, .ofNat 0, .ofNat 36), (62, 4, .negSucc 2147483647, .ofNat 2147483647), (63, 4, .negSucc 2147483647, .ofNat 2147483647), (64, 4, .negSucc 2147483647, .ofNat 2147483647), (65, 4, .negSucc 2147483647, .ofNat 2147483647)], [60], (some (0, .negSucc 1999999999, .ofNat 143)), 4, false)
theorem c_mm_4_3 (hL : L < 2 ^ 31) : ci L xs 163 k_mm_4_3 :=
  mi_ok (fc := 9000) (f := 9000) (cuts := []) (xk := jx) cl_lok cl_hrf (cl_hro L xs) hL jx_ok (by decide +kernel)
def k_mm_4_4 : ct_C := ([(2, .ofNat 53, .ofNat 53), (0, .negSucc 2147483647, .ofNat 2147483647), (0, .ofNat 7, .ofNat 7), (0, .negSucc 2147483647, .ofNat 2147483647)], [(53, 13, .ofNat 0, .ofNat 29), (53, 14, .ofNat 4, .ofNat 4), (53, 15, .ofNat 0, .ofNat 36)], [(53, 13, .ofNat 0, .ofNat 29), (53, 14, .ofNat 4, .ofNat 5), (53, 15, .ofNat 0, .ofNat 36), (62, 4, .negSucc 2147483647, .ofNat 2147483647), (63, 4, .negSucc 2147483647, .ofNat 2147483647), (64, 4, .negSucc 2147483647, .ofNat 2147483647), (65, 4, .negSucc 2147483647, .ofNat 2147483647)], [], (some (0, .negSucc 1999999999, .ofNat 29)), 4, false)
theorem c_mm_4_4 (hL : L < 2 ^ 31) : ci L xs 163 k_mm_4_4 :=
  mi_ok (fc := 9000) (f := 9000) (cuts := []) (xk := jx) cl_lok cl_hrf (cl_hro L xs) hL jx_ok (by decide +kernel)
def k_mm_4_5 : ct_C := ([(2, .ofNat 53, .ofNat 53), (0, .negSucc 2147483647, .ofNat 2147483647), (0, .ofNat 8, .ofNat 2147483647), (0, .negSucc 2147483647, .ofNat 2147483647)], [(53, 14, .ofNat 4, .ofNat 4), (53, 15, .ofNat 0, .ofNat 36)], [], [], (some (0, .negSucc 1999999999, .negSucc 1999999999)), 3, false)
theorem c_mm_4_5 (hL : L < 2 ^ 31) : ci L xs 163 k_mm_4_5 :=
  mi_ok (fc := 9000) (f := 9000) (cuts := []) (xk := jx) cl_lok cl_hrf (cl_hro L xs) hL jx_ok (by decide +kernel)
def k_mn_4 : ct_C := ([(2, .ofNat 53, .ofNat 53), (0, .negSucc 2147483647, .ofNat 2147483647), (0, .negSucc 2147483647, .ofNat 2147483647), (0, .negSucc 2147483647, .ofNat 2147483647)], [(53, 14, .ofNat 4, .ofNat 4), (53, 15, .ofNat 0, .ofNat 36)], [(53, 13, .ofNat 0, .ofNat 29), (53, 14, .ofNat 0, .ofNat 40), (53, 15, .ofNat 0, .ofNat 40), (62, 4, .negSucc 2147483647, .ofNat 2147483647), (63, 4, .negSucc 2147483647, .ofNat 2147483647), (64, 4, .negSucc 2147483647, .ofNat 2147483647), (65, 4, .negSucc 2147483647, .ofNat 2147483647)], [54, 55, 56, 57, 58, 60, 61], (some (0, .negSucc 1999999999, .ofNat 143)), 4, false)
theorem c_mn_4 (hL : L < 2 ^ 31) : ci L xs 163 k_mn_4 :=
  ci_a_ok (i := 2) (ms := [((.negSucc 2147483647, .negSucc 0), k_mm_4_0), ((.ofNat 0, .ofNat 4), k_mm_4_1), ((.ofNat 5, .ofNat 5), k_mm_4_2), ((.ofNat 6, .ofNat 6), k_mm_4_3), ((.ofNat 7, .ofNat 7), k_mm_4_4), ((.ofNat 8, .ofNat 2147483647), k_mm_4_5)]) (jm_cons (r := (.negSucc 2147483647, .negSucc 0)) (c_mm_4_0 hL) (jm_cons (r := (.ofNat 0, .ofNat 4)) (c_mm_4_1 hL) (jm_cons (r := (.ofNat 5, .ofNat 5)) (c_mm_4_2 hL) (jm_cons (r := (.ofNat 6, .ofNat 6)) (c_mm_4_3 hL) (jm_cons (r := (.ofNat 7, .ofNat 7)) (c_mm_4_4 hL) (jm_cons (r := (.ofNat 8, .ofNat 2147483647)) (c_mm_4_5 hL) jm_nil)))))) (by decide +kernel)
def k_mm_4 : ct_C := ([(2, .ofNat 53, .ofNat 53), (0, .negSucc 2147483647, .ofNat 2147483647), (0, .negSucc 2147483647, .ofNat 2147483647), (0, .negSucc 2147483647, .ofNat 2147483647)], [(53, 14, .ofNat 4, .ofNat 4)], [(53, 13, .ofNat 0, .ofNat 29), (53, 14, .ofNat 0, .ofNat 40), (53, 15, .ofNat 0, .ofNat 40), (62, 4, .negSucc 2147483647, .ofNat 2147483647), (63, 4, .negSucc 2147483647, .ofNat 2147483647), (64, 4, .negSucc 2147483647, .ofNat 2147483647), (65, 4, .negSucc 2147483647, .ofNat 2147483647)], [54, 55, 56, 57, 58, 60, 61], (some (0, .negSucc 1999999999, .ofNat 143)), 4, false)
theorem s_mm_4 (M : Nat → Nat → Int) (hm : sx_mok cl_ly M) (hJ : JJ M) (hg : ct_g k_mm_4.2.1 M) : ∃ m ∈ [k_mn_4], ct_g m.2.1 M := by
  have hv : M 53 14 = 4 := by
    have h := hg (53, 14, .ofNat 4, .ofNat 4) List.mem_cons_self
    exact Int.le_antisymm h.2 h.1
  have hk := jr_kn hm
  have hu := jr_un hm
  have hd := hJ.2.2.1
  have he := hJ.2.2.2
  exact ⟨k_mn_4, List.mem_cons_self, (jc (by show (4 : Int) ≤ M 53 14; omega) (by show M 53 14 ≤ (4 : Int); omega) (jc (by show (0 : Int) ≤ M 53 15; omega) (by show M 53 15 ≤ (36 : Int); omega) jn))⟩
theorem c_mm_4 (hL : L < 2 ^ 31) : ci L xs 163 k_mm_4 :=
  ci_j_ok (ms := [k_mn_4]) (jl_cons (c_mn_4 hL) jl_nil) s_mm_4 (by decide +kernel)
def k_mm_5_0 : ct_C := ([(2, .ofNat 53, .ofNat 53), (0, .negSucc 2147483647, .ofNat 2147483647), (0, .negSucc 2147483647, .negSucc 0), (0, .negSucc 2147483647, .ofNat 2147483647)], [(53, 14, .ofNat 5, .ofNat 5), (53, 15, .ofNat 0, .ofNat 35)], [], [], (some (0, .negSucc 1999999999, .negSucc 1999999999)), 3, false)
theorem c_mm_5_0 (hL : L < 2 ^ 31) : ci L xs 163 k_mm_5_0 :=
  mi_ok (fc := 9000) (f := 9000) (cuts := []) (xk := jx) cl_lok cl_hrf (cl_hro L xs) hL jx_ok (by decide +kernel)
def k_mm_5_1 : ct_C := ([(2, .ofNat 53, .ofNat 53), (0, .negSucc 2147483647, .ofNat 2147483647), (0, .ofNat 0, .ofNat 4), (0, .negSucc 2147483647, .ofNat 2147483647)], [(53, 1, .ofNat 0, .ofNat 6), (53, 14, .ofNat 5, .ofNat 5), (53, 15, .ofNat 0, .ofNat 35)], [(53, 14, .ofNat 5, .ofNat 6), (53, 15, .ofNat 0, .ofNat 35), (62, 5, .negSucc 2147483647, .ofNat 2147483647), (63, 5, .negSucc 2147483647, .ofNat 2147483647), (64, 5, .negSucc 2147483647, .ofNat 2147483647), (65, 5, .negSucc 2147483647, .ofNat 2147483647)], [54, 55, 56, 57, 58], (some (0, .negSucc 1999999999, .ofNat 143)), 4, false)
theorem c_mm_5_1 (hL : L < 2 ^ 31) : ci L xs 163 k_mm_5_1 :=
  mi_ok (fc := 9000) (f := 9000) (cuts := []) (xk := jx) cl_lok cl_hrf (cl_hro L xs) hL jx_ok (by decide +kernel)
def k_mm_5_2 : ct_C := ([(2, .ofNat 53, .ofNat 53), (0, .negSucc 2147483647, .ofNat 2147483647), (0, .ofNat 5, .ofNat 5), (0, .negSucc 2147483647, .ofNat 2147483647)], [(53, 14, .ofNat 5, .ofNat 5), (53, 15, .ofNat 0, .ofNat 35)], [(53, 14, .ofNat 5, .ofNat 6), (53, 15, .ofNat 0, .ofNat 35), (62, 5, .negSucc 2147483647, .ofNat 2147483647), (63, 5, .negSucc 2147483647, .ofNat 2147483647), (64, 5, .negSucc 2147483647, .ofNat 2147483647), (65, 5, .negSucc 2147483647, .ofNat 2147483647)], [61], (some (0, .negSucc 1999999999, .ofNat 143)), 4, false)
theorem c_mm_5_2 (hL : L < 2 ^ 31) : ci L xs 163 k_mm_5_2 :=
  mi_ok (fc := 9000) (f := 9000) (cuts := []) (xk := jx) cl_lok cl_hrf (cl_hro L xs) hL jx_ok (by decide +kernel)
def k_mm_5_3 : ct_C := ([(2, .ofNat 53, .ofNat 53), (0, .negSucc 2147483647, .ofNat 2147483647), (0, .ofNat 6, .ofNat 6), (0, .negSucc 2147483647, .ofNat 2147483647)], [(53, 8, .ofNat 0, .ofNat 12), (53, 14, .ofNat 5, .ofNat 5), (53, 15, .ofNat 0, .ofNat 35)], [(53, 14, .ofNat 5, .ofNat 6), (53, 15, .ofNat 0, .ofNat 35), (62, 5, .negSucc 2147483647, .ofNat 2147483647), (63, 5, .negSucc 2147483647, .ofNat 2147483647), (64, 5, .negSucc 2147483647, .ofNat 2147483647), (65, 5, .negSucc 2147483647, .ofNat 2147483647)], [60], (some (0, .negSucc 1999999999, .ofNat 143)), 4, false)
theorem c_mm_5_3 (hL : L < 2 ^ 31) : ci L xs 163 k_mm_5_3 :=
  mi_ok (fc := 9000) (f := 9000) (cuts := []) (xk := jx) cl_lok cl_hrf (cl_hro L xs) hL jx_ok (by decide +kernel)
def k_mm_5_4 : ct_C := ([(2, .ofNat 53, .ofNat 53), (0, .negSucc 2147483647, .ofNat 2147483647), (0, .ofNat 7, .ofNat 7), (0, .negSucc 2147483647, .ofNat 2147483647)], [(53, 13, .ofNat 0, .ofNat 29), (53, 14, .ofNat 5, .ofNat 5), (53, 15, .ofNat 0, .ofNat 35)], [(53, 13, .ofNat 0, .ofNat 29), (53, 14, .ofNat 5, .ofNat 6), (53, 15, .ofNat 0, .ofNat 35), (62, 5, .negSucc 2147483647, .ofNat 2147483647), (63, 5, .negSucc 2147483647, .ofNat 2147483647), (64, 5, .negSucc 2147483647, .ofNat 2147483647), (65, 5, .negSucc 2147483647, .ofNat 2147483647)], [], (some (0, .negSucc 1999999999, .ofNat 29)), 4, false)
theorem c_mm_5_4 (hL : L < 2 ^ 31) : ci L xs 163 k_mm_5_4 :=
  mi_ok (fc := 9000) (f := 9000) (cuts := []) (xk := jx) cl_lok cl_hrf (cl_hro L xs) hL jx_ok (by decide +kernel)
def k_mm_5_5 : ct_C := ([(2, .ofNat 53, .ofNat 53), (0, .negSucc 2147483647, .ofNat 2147483647), (0, .ofNat 8, .ofNat 2147483647), (0, .negSucc 2147483647, .ofNat 2147483647)], [(53, 14, .ofNat 5, .ofNat 5), (53, 15, .ofNat 0, .ofNat 35)], [], [], (some (0, .negSucc 1999999999, .negSucc 1999999999)), 3, false)
theorem c_mm_5_5 (hL : L < 2 ^ 31) : ci L xs 163 k_mm_5_5 :=
  mi_ok (fc := 9000) (f := 9000) (cuts := []) (xk := jx) cl_lok cl_hrf (cl_hro L xs) hL jx_ok (by decide +kernel)
def k_mn_5 : ct_C := ([(2, .ofNat 53, .ofNat 53), (0, .negSucc 2147483647, .ofNat 2147483647), (0, .negSucc 2147483647, .ofNat 2147483647), (0, .negSucc 2147483647, .ofNat 2147483647)], [(53, 14, .ofNat 5, .ofNat 5), (53, 15, .ofNat 0, .ofNat 35)], [(53, 13, .ofNat 0, .ofNat 29), (53, 14, .ofNat 0, .ofNat 40), (53, 15, .ofNat 0, .ofNat 40), (62, 5, .negSucc 2147483647, .ofNat 2147483647), (63, 5, .negSucc 2147483647, .ofNat 2147483647), (64, 5, .negSucc 2147483647, .ofNat 2147483647), (65, 5, .negSucc 2147483647, .ofNat 2147483647)], [54, 55, 56, 57, 58, 60, 61], (some (0, .negSucc 1999999999, .ofNat 143)), 4, false)
theorem c_mn_5 (hL : L < 2 ^ 31) : ci L xs 163 k_mn_5 :=
  ci_a_ok (i := 2) (ms := [((.negSucc 2147483647, .negSucc 0), k_mm_5_0), ((.ofNat 0, .ofNat 4), k_mm_5_1), ((.ofNat 5, .ofNat 5), k_mm_5_2), ((.ofNat 6, .ofNat 6), k_mm_5_3), ((.ofNat 7, .ofNat 7), k_mm_5_4), ((.ofNat 8, .ofNat 2147483647), k_mm_5_5)]) (jm_cons (r := (.negSucc 2147483647, .negSucc 0)) (c_mm_5_0 hL) (jm_cons (r := (.ofNat 0, .ofNat 4)) (c_mm_5_1 hL) (jm_cons (r := (.ofNat 5, .ofNat 5)) (c_mm_5_2 hL) (jm_cons (r := (.ofNat 6, .ofNat 6)) (c_mm_5_3 hL) (jm_cons (r := (.ofNat 7, .ofNat 7)) (c_mm_5_4 hL) (jm_cons (r := (.ofNat 8, .ofNat 2147483647)) (c_mm_5_5 hL) jm_nil)))))) (by decide +kernel)
def k_mm_5 : ct_C := ([(2, .ofNat 53, .ofNat 53), (0, .negSucc 2147483647, .ofNat 2147483647), (0, .negSucc 2147483647, .ofNat 2147483647), (0, .negSucc 2147483647, .ofNat 2147483647)], [(53, 14, .ofNat 5, .ofNat 5)], [(53, 13, .ofNat 0, .ofNat 29), (53, 14, .ofNat 0, .ofNat 40), (53, 15, .ofNat 0, .ofNat 40), (62, 5, .negSucc 2147483647, .ofNat 2147483647), (63, 5, .negSucc 2147483647, .ofNat 2147483647), (64, 5, .negSucc 2147483647, .ofNat 2147483647), (65, 5, .negSucc 2147483647, .ofNat 2147483647)], [54, 55, 56, 57, 58, 60, 61], (some (0, .negSucc 1999999999, .ofNat 143)), 4, false)
theorem s_mm_5 (M : Nat → Nat → Int) (hm : sx_mok cl_ly M) (hJ : JJ M) (hg : ct_g k_mm_5.2.1 M) : ∃ m ∈ [k_mn_5], ct_g m.2.1 M := by
  have hv : M 53 14 = 5 := by
    have h := hg (53, 14, .ofNat 5, .ofNat 5) List.mem_cons_self
    exact Int.le_antisymm h.2 h.1
  have hk := jr_kn hm
  have hu := jr_un hm
  have hd := hJ.2.2.1
  have he := hJ.2.2.2
  exact ⟨k_mn_5, List.mem_cons_self, (jc (by show (5 : Int) ≤ M 53 14; omega) (by show M 53 14 ≤ (5 : Int); omega) (jc (by show (0 : Int) ≤ M 53 15; omega) (by show M 53 15 ≤ (35 : Int); omega) jn))⟩
theorem c_mm_5 (hL : L < 2 ^ 31) : ci L xs 163 k_mm_5 :=
  ci_j_ok (ms := [k_mn_5]) (jl_cons (c_mn_5 hL) jl_nil) s_mm_5 (by decide +kernel)
def k_mm_6_0 : ct_C := ([(2, .ofNat 53, .ofNat 53), (0, .negSucc 2147483647, .ofNat 2147483647), (0, .negSucc 2147483647, .negSucc 0), (0, .negSucc 2147483647, .ofNat 2147483647)], [(53, 14, .ofNat 6, .ofNat 6), (53, 15, .ofNat 0, .ofNat 34)], [], [], (some (0, .negSucc 1999999999, .negSucc 1999999999)), 3, false)
theorem c_mm_6_0 (hL : L < 2 ^ 31) : ci L xs 163 k_mm_6_0 :=
  mi_ok (fc := 9000) (f := 9000) (cuts := []) (xk := jx) cl_lok cl_hrf (cl_hro L xs) hL jx_ok (by decide +kernel)
def k_mm_6_1 : ct_C := ([(2, .ofNat 53, .ofNat 53), (0, .negSucc 2147483647, .ofNat 2147483647), (0, .ofNat 0, .ofNat 4), (0, .negSucc 2147483647, .ofNat 2147483647)], [(53, 1, .ofNat 0, .ofNat 6), (53, 14, .ofNat 6, .ofNat 6), (53, 15, .ofNat 0, .ofNat 34)], [(53, 14, .ofNat 6, .ofNat 7), (53, 15, .ofNat 0, .ofNat 34), (62, 6, .negSucc 2147483647, .ofNat 2147483647), (63, 6, .negSucc 2147483647, .ofNat 2147483647), (64, 6, .negSucc 2147483647, .ofNat 2147483647), (65, 6, .negSucc 2147483647, .ofNat 2147483647)], [54, 55, 56, 57, 58], (some (0, .negSucc 1999999999, .ofNat 143)), 4, false)
theorem c_mm_6_1 (hL : L < 2 ^ 31) : ci L xs 163 k_mm_6_1 :=
  mi_ok (fc := 9000) (f := 9000) (cuts := []) (xk := jx) cl_lok cl_hrf (cl_hro L xs) hL jx_ok (by decide +kernel)
def k_mm_6_2 : ct_C := ([(2, .ofNat 53, .ofNat 53), (0, .negSucc 2147483647, .ofNat 2147483647), (0, .ofNat 5, .ofNat 5), (0, .negSucc 2147483647, .ofNat 2147483647)], [(53, 14, .ofNat 6, .ofNat 6), (53, 15, .ofNat 0, .ofNat 34)], [(53, 14, .ofNat 6, .ofNat 7), (53, 15, .ofNat 0, .ofNat 34), (62, 6, .negSucc 2147483647, .ofNat 2147483647), (63, 6, .negSucc 2147483647, .ofNat 2147483647), (64, 6, .negSucc 2147483647, .ofNat 2147483647), (65, 6, .negSucc 2147483647, .ofNat 2147483647)], [61], (some (0, .negSucc 1999999999, .ofNat 143)), 4, false)
theorem c_mm_6_2 (hL : L < 2 ^ 31) : ci L xs 163 k_mm_6_2 :=
  mi_ok (fc := 9000) (f := 9000) (cuts := []) (xk := jx) cl_lok cl_hrf (cl_hro L xs) hL jx_ok (by decide +kernel)
def k_mm_6_3 : ct_C := ([(2, .ofNat 53, .ofNat 53), (0, .negSucc 2147483647, .ofNat 2147483647), (0, .ofNat 6, .ofNat 6), (0, .negSucc 2147483647, .ofNat 2147483647)], [(53, 8, .ofNat 0, .ofNat 12), (53, 14, .ofNat 6, .ofNat 6), (53, 15, .ofNat 0, .ofNat 34)], [(53, 14, .ofNat 6, .ofNat 7), (53, 15, .ofNat 0, .ofNat 34), (62, 6, .negSucc 2147483647, .ofNat 2147483647), (63, 6, .negSucc 2147483647, .ofNat 2147483647), (64, 6, .negSucc 2147483647, .ofNat 2147483647), (65, 6, .negSucc 2147483647, .ofNat 2147483647)], [60], (some (0, .negSucc 1999999999, .ofNat 143)), 4, false)
theorem c_mm_6_3 (hL : L < 2 ^ 31) : ci L xs 163 k_mm_6_3 :=
  mi_ok (fc := 9000) (f := 9000) (cuts := []) (xk := jx) cl_lok cl_hrf (cl_hro L xs) hL jx_ok (by decide +kernel)
def k_mm_6_4 : ct_C := ([(2, .ofNat 53, .ofNat 53), (0, .negSucc 2147483647, .ofNat 2147483647), (0, .ofNat 7, .ofNat 7), (0, .negSucc 2147483647, .ofNat 2147483647)], [(53, 13, .ofNat 0, .ofNat 29), (53, 14, .ofNat 6, .ofNat 6), (53, 15, .ofNat 0, .ofNat 34)], [(53, 13, .ofNat 0, .ofNat 29), (53, 14, .ofNat 6, .ofNat 7), (53, 15, .ofNat 0, .ofNat 34), (62, 6, .negSucc 2147483647, .ofNat 2147483647), (63, 6, .negSucc 2147483647, .ofNat 2147483647), (64, 6, .negSucc 2147483647, .ofNat 2147483647), (65, 6, .negSucc 2147483647, .ofNat 2147483647)], [], (some (0, .negSucc 1999999999, .ofNat 29)), 4, false)
theorem c_mm_6_4 (hL : L < 2 ^ 31) : ci L xs 163 k_mm_6_4 :=
  mi_ok (fc := 9000) (f := 9000) (cuts := []) (xk := jx) cl_lok cl_hrf (cl_hro L xs) hL jx_ok (by decide +kernel)
def k_mm_6_5 : ct_C := ([(2, .ofNat 53, .ofNat 53), (0, .negSucc 2147483647, .ofNat 2147483647), (0, .ofNat 8, .ofNat 2147483647), (0, .negSucc 2147483647, .ofNat 2147483647)], [(53, 14, .ofNat 6, .ofNat 6), (53, 15, .ofNat 0, .ofNat 34)], [], [], (some (0, .negSucc 1999999999, .negSucc 1999999999)), 3, false)
theorem c_mm_6_5 (hL : L < 2 ^ 31) : ci L xs 163 k_mm_6_5 :=
  mi_ok (fc := 9000) (f := 9000) (cuts := []) (xk := jx) cl_lok cl_hrf (cl_hro L xs) hL jx_ok (by decide +kernel)
def k_mn_6 : ct_C := ([(2, .ofNat 53, .ofNat 53), (0, .negSucc 2147483647, .ofNat 2147483647), (0, .negSucc 2147483647, .ofNat 2147483647), (0, .negSucc 2147483647, .ofNat 2147483647)], [(53, 14, .ofNat 6, .ofNat 6), (53, 15, .ofNat 0, .ofNat 34)], [(53, 13, .ofNat 0, .ofNat 29), (53, 14, .ofNat 0, .ofNat 40), (53, 15, .ofNat 0, .ofNat 40), (62, 6, .negSucc 2147483647, .ofNat 2147483647), (63, 6, .negSucc 2147483647, .ofNat 2147483647), (64, 6, .negSucc 2147483647, .ofNat 2147483647), (65, 6, .negSucc 2147483647, .ofNat 2147483647)], [54, 55, 56, 57, 58, 60, 61], (some (0, .negSucc 1999999999, .ofNat 143)), 4, false)
theorem c_mn_6 (hL : L < 2 ^ 31) : ci L xs 163 k_mn_6 :=
  ci_a_ok (i := 2) (ms := [((.negSucc 2147483647, .negSucc 0), k_mm_6_0), ((.ofNat 0, .ofNat 4), k_mm_6_1), ((.ofNat 5, .ofNat 5), k_mm_6_2), ((.ofNat 6, .ofNat 6), k_mm_6_3), ((.ofNat 7, .ofNat 7), k_mm_6_4), ((.ofNat 8, .ofNat 2147483647), k_mm_6_5)]) (jm_cons (r := (.negSucc 2147483647, .negSucc 0)) (c_mm_6_0 hL) (jm_cons (r := (.ofNat 0, .ofNat 4)) (c_mm_6_1 hL) (jm_cons (r := (.ofNat 5, .ofNat 5)) (c_mm_6_2 hL) (jm_cons (r := (.ofNat 6, .ofNat 6)) (c_mm_6_3 hL) (jm_cons (r := (.ofNat 7, .ofNat 7)) (c_mm_6_4 hL) (jm_cons (r := (.ofNat 8, .ofNat 2147483647)) (c_mm_6_5 hL) jm_nil)))))) (by decide +kernel)
def k_mm_6 : ct_C := ([(2, .ofNat 53, .ofNat 53), (0, .negSucc 2147483647, .ofNat 2147483647), (0, .negSucc 2147483647, .ofNat 2147483647), (0, .negSucc 2147483647, .ofNat 2147483647)], [(53, 14, .ofNat 6, .ofNat 6)], [(53, 13, .ofNat 0, .ofNat 29), (53, 14, .ofNat 0, .ofNat 40), (53, 15, .ofNat 0, .ofNat 40), (62, 6, .negSucc 2147483647, .ofNat 2147483647), (63, 6, .negSucc 2147483647, .ofNat 2147483647), (64, 6, .negSucc 2147483647, .ofNat 2147483647), (65, 6, .negSucc 2147483647, .ofNat 2147483647)], [54, 55, 56, 57, 58, 60, 61], (some (0, .negSucc 1999999999, .ofNat 143)), 4, false)
theorem s_mm_6 (M : Nat → Nat → Int) (hm : sx_mok cl_ly M) (hJ : JJ M) (hg : ct_g k_mm_6.2.1 M) : ∃ m ∈ [k_mn_6], ct_g m.2.1 M := by
  have hv : M 53 14 = 6 := by
    have h := hg (53, 14, .ofNat 6, .ofNat 6) List.mem_cons_self
    exact Int.le_antisymm h.2 h.1
  have hk := jr_kn hm
  have hu := jr_un hm
  have hd := hJ.2.2.1
  have he := hJ.2.2.2
  exact ⟨k_mn_6, List.mem_cons_self, (jc (by show (6 : Int) ≤ M 53 14; omega) (by show M 53 14 ≤ (6 : Int); omega) (jc (by show (0 : Int) ≤ M 53 15; omega) (by show M 53 15 ≤ (34 : Int); omega) jn))⟩
theorem c_mm_6 (hL : L < 2 ^ 31) : ci L xs 163 k_mm_6 :=
  ci_j_ok (ms := [k_mn_6]) (jl_cons (c_mn_6 hL) jl_nil) s_mm_6 (by decide +kernel)
def k_mm_7_0 : ct_C := ([(2, .ofNat 53, .ofNat 53), (0, .negSucc 2147483647, .ofNat 2147483647), (0, .negSucc 2147483647, .negSucc 0), (0, .negSucc 2147483647, .ofNat 2147483647)], [(53, 14, .ofNat 7, .ofNat 7), (53, 15, .ofNat 0, .ofNat 33)], [], [], (some (0, .negSucc 1999999999, .negSucc 1999999999)), 3, false)
theorem c_mm_7_0 (hL : L < 2 ^ 31) : ci L xs 163 k_mm_7_0 :=
  mi_ok (fc := 9000) (f := 9000) (cuts := []) (xk := jx) cl_lok cl_hrf (cl_hro L xs) hL jx_ok (by decide +kernel)
def k_mm_7_1 : ct_C := ([(2, .ofNat 53, .ofNat 53), (0, .negSucc 2147483647, .ofNat 2147483647), (0, .ofNat 0, .ofNat 4), (0, .negSucc 2147483647, .ofNat 2147483647)], [(53, 1, .ofNat 0, .ofNat 6), (53, 14, .ofNat 7, .ofNat 7), (53, 15, .ofNat 0, .ofNat 33)], [(53, 14, .ofNat 7, .ofNat 8), (53, 15, .ofNat 0, .ofNat 33), (62, 7, .negSucc 2147483647, .ofNat 2147483647), (63, 7, .negSucc 2147483647, .ofNat 2147483647), (64, 7, .negSucc 2147483647, .ofNat 2147483647), (65, 7, .negSucc 2147483647, .ofNat 2147483647)], [54, 55, 56, 57, 58], (some (0, .negSucc 1999999999, .ofNat 143)), 4, false)
theorem c_mm_7_1 (hL : L < 2 ^ 31) : ci L xs 163 k_mm_7_1 :=
  mi_ok (fc := 9000) (f := 9000) (cuts := []) (xk := jx) cl_lok cl_hrf (cl_hro L xs) hL jx_ok (by decide +kernel)
def k_mm_7_2 : ct_C := ([(2, .ofNat 53, .ofNat 53), (0, .negSucc 2147483647, .ofNat 2147483647), (0, .ofNat 5, .ofNat 5), (0, .negSucc 2147483647, .ofNat 2147483647)], [(53, 14, .ofNat 7, .ofNat 7), (53, 15, .ofNat 0, .ofNat 33)], [(53, 14, .ofNat 7, .ofNat 8), (53, 15, .ofNat 0, .ofNat 33), (62, 7, .negSucc 2147483647, .ofNat 2147483647), (63, 7, .negSucc 2147483647, .ofNat 2147483647), (64, 7, .negSucc 2147483647, .ofNat 2147483647), (65, 7, .negSucc 2147483647, .ofNat 2147483647)], [61], (some (0, .negSucc 1999999999, .ofNat 143)), 4, false)
theorem c_mm_7_2 (hL : L < 2 ^ 31) : ci L xs 163 k_mm_7_2 :=
  mi_ok (fc := 9000) (f := 9000) (cuts := []) (xk := jx) cl_lok cl_hrf (cl_hro L xs) hL jx_ok (by decide +kernel)
def k_mm_7_3 : ct_C := ([(2, .ofNat 53, .ofNat 53), (0, .negSucc 2147483647, .ofNat 2147483647), (0, .ofNat 6, .ofNat 6), (0, .negSucc 2147483647, .ofNat 2147483647)], [(53, 8, .ofNat 0, .ofNat 12), (53, 14, .ofNat 7, .ofNat 7), (53, 15, .ofNat 0, .ofNat 33)], [(53, 14, .ofNat 7, .ofNat 8), (53, 15, .ofNat 0, .ofNat 33), (62, 7, .negSucc 2147483647, .ofNat 2147483647), (63, 7, .negSucc 2147483647, .ofNat 2147483647), (64, 7, .negSucc 2147483647, .ofNat 2147483647), (65, 7, .negSucc 2147483647, .ofNat 2147483647)], [60], (some (0, .negSucc 1999999999, .ofNat 143)), 4, false)
theorem c_mm_7_3 (hL : L < 2 ^ 31) : ci L xs 163 k_mm_7_3 :=
  mi_ok (fc := 9000) (f := 9000) (cuts := []) (xk := jx) cl_lok cl_hrf (cl_hro L xs) hL jx_ok (by decide +kernel)
def k_mm_7_4 : ct_C := ([(2, .ofNat 53, .ofNat 53), (0, .negSucc 2147483647, .ofNat 2147483647), (0, .ofNat 7, .ofNat 7), (0, .negSucc 2147483647, .ofNat 2147483647)], [(53, 13, .ofNat 0, .ofNat 29), (53, 14, .ofNat 7, .ofNat 7), (53, 15, .ofNat 0, .ofNat 33)], [(53, 13, .ofNat 0, .ofNat 29), (53, 14, .ofNat 7, .ofNat 8), (53, 15, .ofNat 0, .ofNat 33), (62, 7, .negSucc 2147483647, .ofNat 2147483647), (63, 7, .negSucc 2147483647, .ofNat 2147483647), (64, 7, .negSucc 2147483647, .ofNat 2147483647), (65, 7, .negSucc 2147483647, .ofNat 2147483647)], [], (some (0, .negSucc 1999999999, .ofNat 29)), 4, false)
theorem c_mm_7_4 (hL : L < 2 ^ 31) : ci L xs 163 k_mm_7_4 :=
  mi_ok (fc := 9000) (f := 9000) (cuts := []) (xk := jx) cl_lok cl_hrf (cl_hro L xs) hL jx_ok (by decide +kernel)
def k_mm_7_5 : ct_C := ([(2, .ofNat 53, .ofNat 53), (0, .negSucc 2147483647, .ofNat 2147483647), (0, .ofNat 8, .ofNat 2147483647), (0, .negSucc 2147483647, .ofNat 2147483647)], [(53, 14, .ofNat 7, .ofNat 7), (53, 15, .ofNat 0, .ofNat 33)], [], [], (some (0, .negSucc 1999999999, .negSucc 1999999999)), 3, false)
theorem c_mm_7_5 (hL : L < 2 ^ 31) : ci L xs 163 k_mm_7_5 :=
  mi_ok (fc := 9000) (f := 9000) (cuts := []) (xk := jx) cl_lok cl_hrf (cl_hro L xs) hL jx_ok (by decide +kernel)
def k_mn_7 : ct_C := ([(2, .ofNat 53, .ofNat 53), (0, .negSucc 2147483647, .ofNat 2147483647), (0, .negSucc 2147483647, .ofNat 2147483647), (0, .negSucc 2147483647, .ofNat 2147483647)], [(53, 14, .ofNat 7, .ofNat 7), (53, 15, .ofNat 0, .ofNat 33)], [(53, 13, .ofNat 0, .ofNat 29), (53, 14, .ofNat 0, .ofNat 40), (53, 15, .ofNat 0, .ofNat 40), (62, 7, .negSucc 2147483647, .ofNat 2147483647), (63, 7, .negSucc 2147483647, .ofNat 2147483647), (64, 7, .negSucc 2147483647, .ofNat 2147483647), (65, 7, .negSucc 2147483647, .ofNat 2147483647)], [54, 55, 56, 57, 58, 60, 61], (some (0, .negSucc 1999999999, .ofNat 143)), 4, false)
theorem c_mn_7 (hL : L < 2 ^ 31) : ci L xs 163 k_mn_7 :=
  ci_a_ok (i := 2) (ms := [((.negSucc 2147483647, .negSucc 0), k_mm_7_0), ((.ofNat 0, .ofNat 4), k_mm_7_1), ((.ofNat 5, .ofNat 5), k_mm_7_2), ((.ofNat 6, .ofNat 6), k_mm_7_3), ((.ofNat 7, .ofNat 7), k_mm_7_4), ((.ofNat 8, .ofNat 2147483647), k_mm_7_5)]) (jm_cons (r := (.negSucc 2147483647, .negSucc 0)) (c_mm_7_0 hL) (jm_cons (r := (.ofNat 0, .ofNat 4)) (c_mm_7_1 hL) (jm_cons (r := (.ofNat 5, .ofNat 5)) (c_mm_7_2 hL) (jm_cons (r := (.ofNat 6, .ofNat 6)) (c_mm_7_3 hL) (jm_cons (r := (.ofNat 7, .ofNat 7)) (c_mm_7_4 hL) (jm_cons (r := (.ofNat 8, .ofNat 2147483647)) (c_mm_7_5 hL) jm_nil)))))) (by decide +kernel)
def k_mm_7 : ct_C := ([(2, .ofNat 53, .ofNat 53), (0, .negSucc 2147483647, .ofNat 2147483647), (0, .negSucc 2147483647, .ofNat 2147483647), (0, .negSucc 2147483647, .ofNat 2147483647)], [(53, 14, .ofNat 7, .ofNat 7)], [(53, 13, .ofNat 0, .ofNat 29), (53, 14, .ofNat 0, .ofNat 40), (53, 15, .ofNat 0, .ofNat 40), (62, 7, .negSucc 2147483647, .ofNat 2147483647), (63, 7, .negSucc 2147483647, .ofNat 2147483647), (64, 7, .negSucc 2147483647, .ofNat 2147483647), (65, 7, .negSucc 2147483647, .ofNat 2147483647)], [54, 55, 56, 57, 58, 60, 61], (some (0, .negSucc 1999999999, .ofNat 143)), 4, false)
theorem s_mm_7 (M : Nat → Nat → Int) (hm : sx_mok cl_ly M) (hJ : JJ M) (hg : ct_g k_mm_7.2.1 M) : ∃ m ∈ [k_mn_7], ct_g m.2.1 M := by
  have hv : M 53 14 = 7 := by
    have h := hg (53, 14, .ofNat 7, .ofNat 7) List.mem_cons_self
    exact Int.le_antisymm h.2 h.1
  have hk := jr_kn hm
  have hu := jr_un hm
  have hd := hJ.2.2.1
  have he := hJ.2.2.2
  exact ⟨k_mn_7, List.mem_cons_self, (jc (by show (7 : Int) ≤ M 53 14; omega) (by show M 53 14 ≤ (7 : Int); omega) (jc (by show (0 : Int) ≤ M 53 15; omega) (by show M 53 15 ≤ (33 : Int); omega) jn))⟩
theorem c_mm_7 (hL : L < 2 ^ 31) : ci L xs 163 k_mm_7 :=
  ci_j_ok (ms := [k_mn_7]) (jl_cons (c_mn_7 hL) jl_nil) s_mm_7 (by decide +kernel)
def k_mm_8_0 : ct_C := ([(2, .ofNat 53, .ofNat 53), (0, .negSucc 2147483647, .ofNat 2147483647), (0, .negSucc 2147483647, .negSucc 0), (0, .negSucc 2147483647, .ofNat 2147483647)], [(53, 14, .ofNat 8, .ofNat 8), (53, 15, .ofNat 0, .ofNat 32)], [], [], (some (0, .negSucc 1999999999, .negSucc 1999999999)), 3, false)
theorem c_mm_8_0 (hL : L < 2 ^ 31) : ci L xs 163 k_mm_8_0 :=
  mi_ok (fc := 9000) (f := 9000) (cuts := []) (xk := jx) cl_lok cl_hrf (cl_hro L xs) hL jx_ok (by decide +kernel)
def k_mm_8_1 : ct_C := ([(2, .ofNat 53, .ofNat 53), (0, .negSucc 2147483647, .ofNat 2147483647), (0, .ofNat 0, .ofNat 4), (0, .negSucc 2147483647, .ofNat 2147483647)], [(53, 1, .ofNat 0, .ofNat 6), (53, 14, .ofNat 8, .ofNat 8), (53, 15, .ofNat 0, .ofNat 32)], [(53, 14, .ofNat 8, .ofNat 9), (53, 15, .ofNat 0, .ofNat 32), (62, 8, .negSucc 2147483647, .ofNat 2147483647), (63, 8, .negSucc 2147483647, .ofNat 2147483647), (64, 8, .negSucc 2147483647, .ofNat 2147483647), (65, 8, .negSucc 2147483647, .ofNat 2147483647)], [54, 55, 56, 57, 58], (some (0, .negSucc 1999999999, .ofNat 143)), 4, false)
theorem c_mm_8_1 (hL : L < 2 ^ 31) : ci L xs 163 k_mm_8_1 :=
  mi_ok (fc := 9000) (f := 9000) (cuts := []) (xk := jx) cl_lok cl_hrf (cl_hro L xs) hL jx_ok (by decide +kernel)
def k_mm_8_2 : ct_C := ([(2, .ofNat 53, .ofNat 53), (0, .negSucc 2147483647, .ofNat 2147483647), (0, .ofNat 5, .ofNat 5), (0, .negSucc 2147483647, .ofNat 2147483647)], [(53, 14, .ofNat 8, .ofNat 8), (53, 15, .ofNat 0, .ofNat 32)], [(53, 14, .ofNat 8, .ofNat 9), (53, 15, .ofNat 0, .ofNat 32), (62, 8, .negSucc 2147483647, .ofNat 2147483647), (63, 8, .negSucc 2147483647, .ofNat 2147483647), (64, 8, .negSucc 2147483647, .ofNat 2147483647), (65, 8, .negSucc 2147483647, .ofNat 2147483647)], [61], (some (0, .negSucc 1999999999, .ofNat 143)), 4, false)
theorem c_mm_8_2 (hL : L < 2 ^ 31) : ci L xs 163 k_mm_8_2 :=
  mi_ok (fc := 9000) (f := 9000) (cuts := []) (xk := jx) cl_lok cl_hrf (cl_hro L xs) hL jx_ok (by decide +kernel)
def k_mm_8_3 : ct_C := ([(2, .ofNat 53, .ofNat 53), (0, .negSucc 2147483647, .ofNat 2147483647), (0, .ofNat 6, .ofNat 6), (0, .negSucc 2147483647, .ofNat 2147483647)], [(53, 8, .ofNat 0, .ofNat 12), (53, 14, .ofNat 8, .ofNat 8), (53, 15, .ofNat 0, .ofNat 32)], [(53, 14, .ofNat 8, .ofNat 9), (53, 15, .ofNat 0, .ofNat 32), (62, 8, .negSucc 2147483647, .ofNat 2147483647), (63, 8, .negSucc 2147483647, .ofNat 2147483647), (64, 8, .negSucc 2147483647, .ofNat 2147483647), (65, 8, .negSucc 2147483647, .ofNat 2147483647)], [60], (some (0, .negSucc 1999999999, .ofNat 143)), 4, false)
theorem c_mm_8_3 (hL : L < 2 ^ 31) : ci L xs 163 k_mm_8_3 :=
  mi_ok (fc := 9000) (f := 9000) (cuts := []) (xk := jx) cl_lok cl_hrf (cl_hro L xs) hL jx_ok (by decide +kernel)
def k_mm_8_4 : ct_C := ([(2, .ofNat 53, .ofNat 53), (0, .negSucc 2147483647, .ofNat 2147483647), (0, .ofNat 7, .ofNat 7), (0, .negSucc 2147483647, .ofNat 2147483647)], [(53, 13, .ofNat 0, .ofNat 29), (53, 14, .ofNat 8, .ofNat 8), (53, 15, .ofNat 0, .ofNat 32)], [(53, 13, .ofNat 0, .ofNat 29), (53, 14, .ofNat 8, .ofNat 9), (53, 15, .ofNat 0, .ofNat 32), (62, 8, .negSucc 2147483647, .ofNat 2147483647), (63, 8, .negSucc 2147483647, .ofNat 2147483647), (64, 8, .negSucc 2147483647, .ofNat 2147483647), (65, 8, .negSucc 2147483647, .ofNat 2147483647)], [], (some (0, .negSucc 1999999999, .ofNat 29)), 4, false)
theorem c_mm_8_4 (hL : L < 2 ^ 31) : ci L xs 163 k_mm_8_4 :=
  mi_ok (fc := 9000) (f := 9000) (cuts := []) (xk := jx) cl_lok cl_hrf (cl_hro L xs) hL jx_ok (by decide +kernel)
def k_mm_8_5 : ct_C := ([(2, .ofNat 53, .ofNat 53), (0, .negSucc 2147483647, .ofNat 2147483647), (0, .ofNat 8, .ofNat 2147483647), (0, .negSucc 2147483647, .ofNat 2147483647)], [(53, 14, .ofNat 8, .ofNat 8), (53, 15, .ofNat 0, .ofNat 32)], [], [], (some (0, .negSucc 1999999999, .negSucc 1999999999)), 3, false)
theorem c_mm_8_5 (hL : L < 2 ^ 31) : ci L xs 163 k_mm_8_5 :=
  mi_ok (fc := 9000) (f := 9000) (cuts := []) (xk := jx) cl_lok cl_hrf (cl_hro L xs) hL jx_ok (by decide +kernel)
def k_mn_8 : ct_C := ([(2, .ofNat 53, .ofNat 53), (0, .negSucc 2147483647, .ofNat 2147483647), (0, .negSucc 2147483647, .ofNat 2147483647), (0, .negSucc 2147483647, .ofNat 2147483647)], [(53, 14, .ofNat 8, .ofNat 8), (53, 15, .ofNat 0, .ofNat 32)], [(53, 13, .ofNat 0, .ofNat 29), (53, 14, .ofNat 0, .ofNat 40), (53, 15, .ofNat 0, .ofNat 40), (62, 8, .negSucc 2147483647, .ofNat 2147483647), (63, 8, .negSucc 2147483647, .ofNat 2147483647), (64, 8, .negSucc 2147483647, .ofNat 2147483647), (65, 8, .negSucc 2147483647, .ofNat 2147483647)], [54, 55, 56, 57, 58, 60, 61], (some (0, .negSucc 1999999999, .ofNat 143)), 4, false)
theorem c_mn_8 (hL : L < 2 ^ 31) : ci L xs 163 k_mn_8 :=
  ci_a_ok (i := 2) (ms := [((.negSucc 2147483647, .negSucc 0), k_mm_8_0), ((.ofNat 0, .ofNat 4), k_mm_8_1), ((.ofNat 5, .ofNat 5), k_mm_8_2), ((.ofNat 6, .ofNat 6), k_mm_8_3), ((.ofNat 7, .ofNat 7), k_mm_8_4), ((.ofNat 8, .ofNat 2147483647), k_mm_8_5)]) (jm_cons (r := (.negSucc 2147483647, .negSucc 0)) (c_mm_8_0 hL) (jm_cons (r := (.ofNat 0, .ofNat 4)) (c_mm_8_1 hL) (jm_cons (r := (.ofNat 5, .ofNat 5)) (c_mm_8_2 hL) (jm_cons (r := (.ofNat 6, .ofNat 6)) (c_mm_8_3 hL) (jm_cons (r := (.ofNat 7, .ofNat 7)) (c_mm_8_4 hL) (jm_cons (r := (.ofNat 8, .ofNat 2147483647)) (c_mm_8_5 hL) jm_nil)))))) (by decide +kernel)
def k_mm_8 : ct_C := ([(2, .ofNat 53, .ofNat 53), (0, .negSucc 2147483647, .ofNat 2147483647), (0, .negSucc 2147483647, .ofNat 2147483647), (0, .negSucc 2147483647, .ofNat 2147483647)], [(53, 14, .ofNat 8, .ofNat 8)], [(53, 13, .ofNat 0, .ofNat 29), (53, 14, .ofNat 0, .ofNat 40), (53, 15, .ofNat 0, .ofNat 40), (62, 8, .negSucc 2147483647, .ofNat 2147483647), (63, 8, .negSucc 2147483647, .ofNat 2147483647), (64, 8, .negSucc 2147483647, .ofNat 2147483647), (65, 8, .negSucc 2147483647, .ofNat 2147483647)], [54, 55, 56, 57, 58, 60, 61], (some (0, .negSucc 1999999999, .ofNat 143)), 4, false)
theorem s_mm_8 (M : Nat → Nat → Int) (hm : sx_mok cl_ly M) (hJ : JJ M) (hg : ct_g k_mm_8.2.1 M) : ∃ m ∈ [k_mn_8], ct_g m.2.1 M := by
  have hv : M 53 14 = 8 := by
    have h := hg (53, 14, .ofNat 8, .ofNat 8) List.mem_cons_self
    exact Int.le_antisymm h.2 h.1
  have hk := jr_kn hm
  have hu := jr_un hm
  have hd := hJ.2.2.1
  have he := hJ.2.2.2
  exact ⟨k_mn_8, List.mem_cons_self, (jc (by show (8 : Int) ≤ M 53 14; omega) (by show M 53 14 ≤ (8 : Int); omega) (jc (by show (0 : Int) ≤ M 53 15; omega) (by show M 53 15 ≤ (32 : Int); omega) jn))⟩
theorem c_mm_8 (hL : L < 2 ^ 31) : ci L xs 163 k_mm_8 :=
  ci_j_ok (ms := [k_mn_8]) (jl_cons (c_mn_8 hL) jl_nil) s_mm_8 (by decide +kernel)
def k_mm_9_0 : ct_C := ([(2, .ofNat 53, .ofNat 53), (0, .negSucc 2147483647, .ofNat 2147483647), (0, .negSucc 2147483647, .negSucc 0), (0, .negSucc 2147483647, .ofNat 2147483647)], [(53, 14, .ofNat 9, .ofNat 9), (53, 15, .ofNat 0, .ofNat 31)], [], [], (some (0, .negSucc 1999999999, .negSucc 1999999999)), 3, false)
theorem c_mm_9_0 (hL : L < 2 ^ 31) : ci L xs 163 k_mm_9_0 :=
  mi_ok (fc := 9000) (f := 9000) (cuts := []) (xk := jx) cl_lok cl_hrf (cl_hro L xs) hL jx_ok (by decide +kernel)
def k_mm_9_1 : ct_C := ([(2, .ofNat 53, .ofNat 53), (0, .negSucc 2147483647, .ofNat 2147483647), (0, .ofNat 0, .ofNat 4), (0, .negSucc 2147483647, .ofNat 2147483647)], [(53, 1, .ofNat 0, .ofNat 6), (53, 14, .ofNat 9, .ofNat 9), (53, 15, .ofNat 0, .ofNat 31)], [(53, 14, .ofNat 9, .ofNat 10), (53, 15, .ofNat 0, .ofNat 31), (62, 9, .negSucc 2147483647, .ofNat 2147483647), (63, 9, .negSucc 2147483647, .ofNat 2147483647), (64, 9, .negSucc 2147483647, .ofNat 2147483647), (65, 9, .negSucc 2147483647, .ofNat 2147483647)], [54, 55, 56, 57, 58], (some (0, .negSucc 1999999999, .ofNat 143)), 4, false)
theorem c_mm_9_1 (hL : L < 2 ^ 31) : ci L xs 163 k_mm_9_1 :=
  mi_ok (fc := 9000) (f := 9000) (cuts := []) (xk := jx) cl_lok cl_hrf (cl_hro L xs) hL jx_ok (by decide +kernel)
def k_mm_9_2 : ct_C := ([(2, .ofNat 53, .ofNat 53), (0, .negSucc 2147483647, .ofNat 2147483647), (0, .ofNat 5, .ofNat 5), (0, .negSucc 2147483647, .ofNat 2147483647)], [(53, 14, .ofNat 9, .ofNat 9), (53, 15, .ofNat 0, .ofNat 31)], [(53, 14, .ofNat 9, .ofNat 10), (53, 15, .ofNat 0, .ofNat 31), (62, 9, .negSucc 2147483647, .ofNat 2147483647), (63, 9, .negSucc 2147483647, .ofNat 2147483647), (64, 9, .negSucc 2147483647, .ofNat 2147483647), (65, 9, .negSucc 2147483647, .ofNat 2147483647)], [61], (some (0, .negSucc 1999999999, .ofNat 143)), 4, false)
theorem c_mm_9_2 (hL : L < 2 ^ 31) : ci L xs 163 k_mm_9_2 :=
  mi_ok (fc := 9000) (f := 9000) (cuts := []) (xk := jx) cl_lok cl_hrf (cl_hro L xs) hL jx_ok (by decide +kernel)
def k_mm_9_3 : ct_C := ([(2, .ofNat 53, .ofNat 53), (0, .negSucc 2147483647, .ofNat 2147483647), (0, .ofNat 6, .ofNat 6), (0, .negSucc 2147483647, .ofNat 2147483647)], [(53, 8, .ofNat 0, .ofNat 12), (53, 14, .ofNat 9, .ofNat 9), (53, 15, .ofNat 0, .ofNat 31)], [(53, 14, .ofNat 9, .ofNat 10), (53, 15, .ofNat 0, .ofNat 31), (62, 9, .negSucc 2147483647, .ofNat 2147483647), (63, 9, .negSucc 2147483647, .ofNat 2147483647), (64, 9, .negSucc 2147483647, .ofNat 2147483647), (65, 9, .negSucc 2147483647, .ofNat 2147483647)], [60], (some (0, .negSucc 1999999999, .ofNat 143)), 4, false)
theorem c_mm_9_3 (hL : L < 2 ^ 31) : ci L xs 163 k_mm_9_3 :=
  mi_ok (fc := 9000) (f := 9000) (cuts := []) (xk := jx) cl_lok cl_hrf (cl_hro L xs) hL jx_ok (by decide +kernel)
def k_mm_9_4 : ct_C := ([(2, .ofNat 53, .ofNat 53), (0, .negSucc 2147483647, .ofNat 2147483647), (0, .ofNat 7, .ofNat 7), (0, .negSucc 2147483647, .ofNat 2147483647)], [(53, 13, .ofNat 0, .ofNat 29), (53, 14, .ofNat 9, .ofNat 9), (53, 15, .ofNat 0, .ofNat 31)], [(53, 13, .ofNat 0, .ofNat 29), (53, 14, .ofNat 9, .ofNat 10), (53, 15, .ofNat 0, .ofNat 31), (62, 9, .negSucc 2147483647, .ofNat 2147483647), (63, 9, .negSucc 2147483647, .ofNat 2147483647), (64, 9, .negSucc 2147483647, .ofNat 2147483647), (65, 9, .negSucc 2147483647, .ofNat 2147483647)], [], (some (0, .negSucc 1999999999, .ofNat 29)), 4, false)
theorem c_mm_9_4 (hL : L < 2 ^ 31) : ci L xs 163 k_mm_9_4 :=
  mi_ok (fc := 9000) (f := 9000) (cuts := []) (xk := jx) cl_lok cl_hrf (cl_hro L xs) hL jx_ok (by decide +kernel)
def k_mm_9_5 : ct_C := ([(2, .ofNat 53, .ofNat 53), (0, .negSucc 2147483647, .ofNat 2147483647), (0, .ofNat 8, .ofNat 2147483647), (0, .negSucc 2147483647, .ofNat 2147483647)], [(53, 14, .ofNat 9, .ofNat 9), (53, 15, .ofNat 0, .ofNat 31)], [], [], (some (0, .negSucc 1999999999, .negSucc 1999999999)), 3, false)
theorem c_mm_9_5 (hL : L < 2 ^ 31) : ci L xs 163 k_mm_9_5 :=
  mi_ok (fc := 9000) (f := 9000) (cuts := []) (xk := jx) cl_lok cl_hrf (cl_hro L xs) hL jx_ok (by decide +kernel)
def k_mn_9 : ct_C := ([(2, .ofNat 53, .ofNat 53), (0, .negSucc 2147483647, .ofNat 2147483647), (0, .negSucc 2147483647, .ofNat 2147483647), (0, .negSucc 2147483647, .ofNat 2147483647)], [(53, 14, .ofNat 9, .ofNat 9), (53, 15, .ofNat 0, .ofNat 31)], [(53, 13, .ofNat 0, .ofNat 29), (53, 14, .ofNat 0, .ofNat 40), (53, 15, .ofNat 0, .ofNat 40), (62, 9, .negSucc 2147483647, .ofNat 2147483647), (63, 9, .negSucc 2147483647, .ofNat 2147483647), (64, 9, .negSucc 2147483647, .ofNat 2147483647), (65, 9, .negSucc 2147483647, .ofNat 2147483647)], [54, 55, 56, 57, 58, 60, 61], (some (0, .negSucc 1999999999, .ofNat 143)), 4, false)
theorem c_mn_9 (hL : L < 2 ^ 31) : ci L xs 163 k_mn_9 :=
  ci_a_ok (i := 2) (ms := [((.negSucc 2147483647, .negSucc 0), k_mm_9_0), ((.ofNat 0, .ofNat 4), k_mm_9_1), ((.ofNat 5, .ofNat 5), k_mm_9_2), ((.ofNat 6, .ofNat 6), k_mm_9_3), ((.ofNat 7, .ofNat 7), k_mm_9_4), ((.ofNat 8, .ofNat 2147483647), k_mm_9_5)]) (jm_cons (r := (.negSucc 2147483647, .negSucc 0)) (c_mm_9_0 hL) (jm_cons (r := (.ofNat 0, .ofNat 4)) (c_mm_9_1 hL) (jm_cons (r := (.ofNat 5, .ofNat 5)) (c_mm_9_2 hL) (jm_cons (r := (.ofNat 6, .ofNat 6)) (c_mm_9_3 hL) (jm_cons (r := (.ofNat 7, .ofNat 7)) (c_mm_9_4 hL) (jm_cons (r := (.ofNat 8, .ofNat 2147483647)) (c_mm_9_5 hL) jm_nil)))))) (by decide +kernel)
def k_mm_9 : ct_C := ([(2, .ofNat 53, .ofNat 53), (0, .negSucc 2147483647, .ofNat 2147483647), (0, .negSucc 2147483647, .ofNat 2147483647), (0, .negSucc 2147483647, .ofNat 2147483647)], [(53, 14, .ofNat 9, .ofNat 9)], [(53, 13, .ofNat 0, .ofNat 29), (53, 14, .ofNat 0, .ofNat 40), (53, 15, .ofNat 0, .ofNat 40), (62, 9, .negSucc 2147483647, .ofNat 2147483647), (63, 9, .negSucc 2147483647, .ofNat 2147483647), (64, 9, .negSucc 2147483647, .ofNat 2147483647), (65, 9, .negSucc 2147483647, .ofNat 2147483647)], [54, 55, 56, 57, 58, 60, 61], (some (0, .negSucc 1999999999, .ofNat 143)), 4, false)
theorem s_mm_9 (M : Nat → Nat → Int) (hm : sx_mok cl_ly M) (hJ : JJ M) (hg : ct_g k_mm_9.2.1 M) : ∃ m ∈ [k_mn_9], ct_g m.2.1 M := by
  have hv : M 53 14 = 9 := by
    have h := hg (53, 14, .ofNat 9, .ofNat 9) List.mem_cons_self
    exact Int.le_antisymm h.2 h.1
  have hk := jr_kn hm
  have hu := jr_un hm
  have hd := hJ.2.2.1
  have he := hJ.2.2.2
  exact ⟨k_mn_9, List.mem_cons_self, (jc (by show (9 : Int) ≤ M 53 14; omega) (by show M 53 14 ≤ (9 : Int); omega) (jc (by show (0 : Int) ≤ M 53 15; omega) (by show M 53 15 ≤ (31 : Int); omega) jn))⟩
theorem c_mm_9 (hL : L < 2 ^ 31) : ci L xs 163 k_mm_9 :=
  ci_j_ok (ms := [k_mn_9]) (jl_cons (c_mn_9 hL) jl_nil) s_mm_9 (by decide +kernel)
def k_mm_10_0 : ct_C := ([(2, .ofNat 53, .ofNat 53), (0, .negSucc 2147483647, .ofNat 2147483647), (0, .negSucc 2147483647, .negSucc 0), (0, .negSucc 2147483647, .ofNat 2147483647)], [(53, 14, .ofNat 10, .ofNat 10), (53, 15, .ofNat 0, .ofNat 30)], [], [], (some (0, .negSucc 1999999999, .negSucc 1999999999)), 3, false)
theorem c_mm_10_0 (hL : L < 2 ^ 31) : ci L xs 163 k_mm_10_0 :=
  mi_ok (fc := 9000) (f := 9000) (cuts := []) (xk := jx) cl_lok cl_hrf (cl_hro L xs) hL jx_ok (by decide +kernel)
def k_mm_10_1 : ct_C := ([(2, .ofNat 53, .ofNat 53), (0, .negSucc 2147483647, .ofNat 2147483647), (0, .ofNat 0, .ofNat 4), (0, .negSucc 2147483647, .ofNat 2147483647)], [(53, 1, .ofNat 0, .ofNat 6), (53, 14, .ofNat 10, .ofNat 10), (53, 15, .ofNat 0, .ofNat 30)], [(53, 14, .ofNat 10, .ofNat 11), (53, 15, .ofNat 0, .ofNat 30), (62, 10, .negSucc 2147483647, .ofNat 2147483647), (63, 10, .negSucc 2147483647, .ofNat 2147483647), (64, 10, .negSucc 2147483647, .ofNat 2147483647), (65, 10, .negSucc 2147483647, .ofNat 2147483647)], [54, 55, 56, 57, 58], (some (0, .negSucc 1999999999, .ofNat 143)), 4, false)
theorem c_mm_10_1 (hL : L < 2 ^ 31) : ci L xs 163 k_mm_10_1 :=
  mi_ok (fc := 9000) (f := 9000) (cuts := []) (xk := jx) cl_lok cl_hrf (cl_hro L xs) hL jx_ok (by decide +kernel)
def k_mm_10_2 : ct_C := ([(2, .ofNat 53, .ofNat 53), (0, .negSucc 2147483647, .ofNat 2147483647), (0, .ofNat 5, .ofNat 5), (0, .negSucc 2147483647, .ofNat 2147483647)], [(53, 14, .ofNat 10, .ofNat 10), (53, 15, .ofNat 0, .ofNat 30)], [(53, 14, .ofNat 10, .ofNat 11), (53, 15, .ofNat 0, .ofNat 30), (62, 10, .negSucc 2147483647, .ofNat 2147483647), (63, 10, .negSucc 2147483647, .ofNat 2147483647), (64, 10, .negSucc 2147483647, .ofNat 2147483647), (65, 10, .negSucc 2147483647, .ofNat 2147483647)], [61], (some (0, .negSucc 1999999999, .ofNat 143)), 4, false)
theorem c_mm_10_2 (hL : L < 2 ^ 31) : ci L xs 163 k_mm_10_2 :=
  mi_ok (fc := 9000) (f := 9000) (cuts := []) (xk := jx) cl_lok cl_hrf (cl_hro L xs) hL jx_ok (by decide +kernel)
def k_mm_10_3 : ct_C := ([(2, .ofNat 53, .ofNat 53), (0, .negSucc 2147483647, .ofNat 2147483647), (0, .ofNat 6, .ofNat 6), (0, .negSucc 2147483647, .ofNat 2147483647)], [(53, 8, .ofNat 0, .ofNat 12), (53, 14, .ofNat 10, .ofNat 10), (53, 15, .ofNat 0, .ofNat 30)], [(53, 14, .ofNat 10, .ofNat 11), (53, 15, .ofNat 0, .ofNat 30), (62, 10, .negSucc 2147483647, .ofNat 2147483647), (63, 10, .negSucc 2147483647, .ofNat 2147483647), (64, 10, .negSucc 2147483647, .ofNat 2147483647), (65, 10, .negSucc 2147483647, .ofNat 2147483647)], [60], (some (0, .negSucc 1999999999, .ofNat 143)), 4, false)
theorem c_mm_10_3 (hL : L < 2 ^ 31) : ci L xs 163 k_mm_10_3 :=
  mi_ok (fc := 9000) (f := 9000) (cuts := []) (xk := jx) cl_lok cl_hrf (cl_hro L xs) hL jx_ok (by decide +kernel)
def k_mm_10_4 : ct_C := ([(2, .ofNat 53, .ofNat 53), (0, .negSucc 2147483647, .ofNat 2147483647), (0, .ofNat 7, .ofNat 7), (0, .negSucc 2147483647, .ofNat 2147483647)], [(53, 13, .ofNat 0, .ofNat 29), (53, 14, .ofNat 10, .ofNat 10), (53, 15, .ofNat 0, .ofNat 30)], [(53, 13, .ofNat 0, .ofNat 29), (53, 14, .ofNat 10, .ofNat 11), (53, 15, .ofNat 0, .ofNat 30), (62, 10, .negSucc 2147483647, .ofNat 2147483647), (63, 10, .negSucc 2147483647, .ofNat 2147483647), (64, 10, .negSucc 2147483647, .ofNat 2147483647), (65, 10, .negSucc 2147483647, .ofNat 2147483647)], [], (some (0, .negSucc 1999999999, .ofNat 29)), 4, false)
theorem c_mm_10_4 (hL : L < 2 ^ 31) : ci L xs 163 k_mm_10_4 :=
  mi_ok (fc := 9000) (f := 9000) (cuts := []) (xk := jx) cl_lok cl_hrf (cl_hro L xs) hL jx_ok (by decide +kernel)
def k_mm_10_5 : ct_C := ([(2, .ofNat 53, .ofNat 53), (0, .negSucc 2147483647, .ofNat 2147483647), (0, .ofNat 8, .ofNat 2147483647), (0, .negSucc 2147483647, .ofNat 2147483647)], [(53, 14, .ofNat 10, .ofNat 10), (53, 15, .ofNat 0, .ofNat 30)], [], [], (some (0, .negSucc 1999999999, .negSucc 1999999999)), 3, false)
theorem c_mm_10_5 (hL : L < 2 ^ 31) : ci L xs 163 k_mm_10_5 :=
  mi_ok (fc := 9000) (f := 9000) (cuts := []) (xk := jx) cl_lok cl_hrf (cl_hro L xs) hL jx_ok (by decide +kernel)
def k_mn_10 : ct_C := ([(2, .ofNat 53, .ofNat 53), (0, .negSucc 2147483647, .ofNat 2147483647), (0, .negSucc 2147483647, .ofNat 2147483647), (0, .negSucc 2147483647, .ofNat 2147483647)], [(53, 14, .ofNat 10, .ofNat 10), (53, 15, .ofNat 0, .ofNat 30)], [(53, 13, .ofNat 0, .ofNat 29), (53, 14, .ofNat 0, .ofNat 40), (53, 15, .ofNat 0, .ofNat 40), (62, 10, .negSucc 2147483647, .ofNat 2147483647), (63, 10, .negSucc 2147483647, .ofNat 2147483647), (64, 10, .negSucc 2147483647, .ofNat 2147483647), (65, 10, .negSucc 2147483647, .ofNat 2147483647)], [54, 55, 56, 57, 58, 60, 61], (some (0, .negSucc 1999999999, .ofNat 143)), 4, false)
theorem c_mn_10 (hL : L < 2 ^ 31) : ci L xs 163 k_mn_10 :=
  ci_a_ok (i := 2) (ms := [((.negSucc 2147483647, .negSucc 0), k_mm_10_0), ((.ofNat 0, .ofNat 4), k_mm_10_1), ((.ofNat 5, .ofNat 5), k_mm_10_2), ((.ofNat 6, .ofNat 6), k_mm_10_3), ((.ofNat 7, .ofNat 7), k_mm_10_4), ((.ofNat 8, .ofNat 2147483647), k_mm_10_5)]) (jm_cons (r := (.negSucc 2147483647, .negSucc 0)) (c_mm_10_0 hL) (jm_cons (r := (.ofNat 0, .ofNat 4)) (c_mm_10_1 hL) (jm_cons (r := (.ofNat 5, .ofNat 5)) (c_mm_10_2 hL) (jm_cons (r := (.ofNat 6, .ofNat 6)) (c_mm_10_3 hL) (jm_cons (r := (.ofNat 7, .ofNat 7)) (c_mm_10_4 hL) (jm_cons (r := (.ofNat 8, .ofNat 2147483647)) (c_mm_10_5 hL) jm_nil)))))) (by decide +kernel)
def k_mm_10 : ct_C := ([(2, .ofNat 53, .ofNat 53), (0, .negSucc 2147483647, .ofNat 2147483647), (0, .negSucc 2147483647, .ofNat 2147483647), (0, .negSucc 2147483647, .ofNat 2147483647)], [(53, 14, .ofNat 10, .ofNat 10)], [(53, 13, .ofNat 0, .ofNat 29), (53, 14, .ofNat 0, .ofNat 40), (53, 15, .ofNat 0, .ofNat 40), (62, 10, .negSucc 2147483647, .ofNat 2147483647), (63, 10, .negSucc 2147483647, .ofNat 2147483647), (64, 10, .negSucc 2147483647, .ofNat 2147483647), (65, 10, .negSucc 2147483647, .ofNat 2147483647)], [54, 55, 56, 57, 58, 60, 61], (some (0, .negSucc 1999999999, .ofNat 143)), 4, false)
theorem s_mm_10 (M : Nat → Nat → Int) (hm : sx_mok cl_ly M) (hJ : JJ M) (hg : ct_g k_mm_10.2.1 M) : ∃ m ∈ [k_mn_10], ct_g m.2.1 M := by
  have hv : M 53 14 = 10 := by
    have h := hg (53, 14, .ofNat 10, .ofNat 10) List.mem_cons_self
    exact Int.le_antisymm h.2 h.1
  have hk := jr_kn hm
  have hu := jr_un hm
  have hd := hJ.2.2.1
  have he := hJ.2.2.2
  exact ⟨k_mn_10, List.mem_cons_self, (jc (by show (10 : Int) ≤ M 53 14; omega) (by show M 53 14 ≤ (10 : Int); omega) (jc (by show (0 : Int) ≤ M 53 15; omega) (by show M 53 15 ≤ (30 : Int); omega) jn))⟩
theorem c_mm_10 (hL : L < 2 ^ 31) : ci L xs 163 k_mm_10 :=
  ci_j_ok (ms := [k_mn_10]) (jl_cons (c_mn_10 hL) jl_nil) s_mm_10 (by decide +kernel)
def k_mm_11_0 : ct_C := ([(2, .ofNat 53, .ofNat 53), (0, .negSucc 2147483647, .ofNat 2147483647), (0, .negSucc 2147483647, .negSucc 0), (0, .negSucc 2147483647, .ofNat 2147483647)], [(53, 14, .ofNat 11, .ofNat 11), (53, 15, .ofNat 0, .ofNat 29)], [], [], (some (0, .negSucc 1999999999, .negSucc 1999999999)), 3, false)
theorem c_mm_11_0 (hL : L < 2 ^ 31) : ci L xs 163 k_mm_11_0 :=
  mi_ok (fc := 9000) (f := 9000) (cuts := []) (xk := jx) cl_lok cl_hrf (cl_hro L xs) hL jx_ok (by decide +kernel)
def k_mm_11_1 : ct_C := ([(2, .ofNat 53, .ofNat 53), (0, .negSucc 2147483647, .ofNat 2147483647), (0, .ofNat 0, .ofNat 4), (0, .negSucc 2147483647, .ofNat 2147483647)], [(53, 1, .ofNat 0, .ofNat 6), (53, 14, .ofNat 11, .ofNat 11), (53, 15, .ofNat 0, .ofNat 29)], [(53, 14, .ofNat 11, .ofNat 12), (53, 15, .ofNat 0, .ofNat 29), (62, 11, .negSucc 2147483647, .ofNat 2147483647), (63, 11, .negSucc 2147483647, .ofNat 2147483647), (64, 11, .negSucc 2147483647, .ofNat 2147483647), (65, 11, .negSucc 2147483647, .ofNat 2147483647)], [54, 55, 56, 57, 58], (some (0, .negSucc 1999999999, .ofNat 143)), 4, false)
theorem c_mm_11_1 (hL : L < 2 ^ 31) : ci L xs 163 k_mm_11_1 :=
  mi_ok (fc := 9000) (f := 9000) (cuts := []) (xk := jx) cl_lok cl_hrf (cl_hro L xs) hL jx_ok (by decide +kernel)
end
