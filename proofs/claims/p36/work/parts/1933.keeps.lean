/-! mend, undo, redo, 33. -/
section
variable {L : Nat} {xs : Nat → Int32}
def k_mm_32_5 : ct_C := ([(2, .ofNat 53, .ofNat 53), (0, .negSucc 2147483647, .ofNat 2147483647), (0, .ofNat 8, .ofNat 2147483647), (0, .negSucc 2147483647, .ofNat 2147483647)], [(53, 14, .ofNat 32, .ofNat 32), (53, 15, .ofNat 0, .ofNat 8)], [], [], (some (0, .negSucc 1999999999, .negSucc 1999999999)), 3, false)
theorem c_mm_32_5 (hL : L < 2 ^ 31) : ci L xs 163 k_mm_32_5 :=
  mi_ok (fc := 9000) (f := 9000) (cuts := []) (xk := jx) cl_lok cl_hrf (cl_hro L xs) hL jx_ok (by decide +kernel)
def k_mn_32 : ct_C := ([(2, .ofNat 53, .ofNat 53), (0, .negSucc 2147483647, .ofNat 2147483647), (0, .negSucc 2147483647, .ofNat 2147483647), (0, .negSucc 2147483647, .ofNat 2147483647)], [(53, 14, .ofNat 32, .ofNat 32), (53, 15, .ofNat 0, .ofNat 8)], [(53, 13, .ofNat 0, .ofNat 29), (53, 14, .ofNat 0, .ofNat 40), (53, 15, .ofNat 0, .ofNat 40), (62, 32, .negSucc 2147483647, .ofNat 2147483647), (63, 32, .negSucc 2147483647, .ofNat 2147483647), (64, 32, .negSucc 2147483647, .ofNat 2147483647), (65, 32, .negSucc 2147483647, .ofNat 2147483647)], [54, 55, 56, 57, 58, 60, 61], (some (0, .negSucc 1999999999, .ofNat 143)), 4, false)
theorem c_mn_32 (hL : L < 2 ^ 31) : ci L xs 163 k_mn_32 :=
  ci_a_ok (i := 2) (ms := [((.negSucc 2147483647, .negSucc 0), k_mm_32_0), ((.ofNat 0, .ofNat 4), k_mm_32_1), ((.ofNat 5, .ofNat 5), k_mm_32_2), ((.ofNat 6, .ofNat 6), k_mm_32_3), ((.ofNat 7, .ofNat 7), k_mm_32_4), ((.ofNat 8, .ofNat 2147483647), k_mm_32_5)]) (jm_cons (r := (.negSucc 2147483647, .negSucc 0)) (c_mm_32_0 hL) (jm_cons (r := (.ofNat 0, .ofNat 4)) (c_mm_32_1 hL) (jm_cons (r := (.ofNat 5, .ofNat 5)) (c_mm_32_2 hL) (jm_cons (r := (.ofNat 6, .ofNat 6)) (c_mm_32_3 hL) (jm_cons (r := (.ofNat 7, .ofNat 7)) (c_mm_32_4 hL) (jm_cons (r := (.ofNat 8, .ofNat 2147483647)) (c_mm_32_5 hL) jm_nil)))))) (by decide +kernel)
def k_mm_32 : ct_C := ([(2, .ofNat 53, .ofNat 53), (0, .negSucc 2147483647, .ofNat 2147483647), (0, .negSucc 2147483647, .ofNat 2147483647), (0, .negSucc 2147483647, .ofNat 2147483647)], [(53, 14, .ofNat 32, .ofNat 32)], [(53, 13, .ofNat 0, .ofNat 29), (53, 14, .ofNat 0, .ofNat 40), (53, 15, .ofNat 0, .ofNat 40), (62, 32, .negSucc 2147483647, .ofNat 2147483647), (63, 32, .negSucc 2147483647, .ofNat 2147483647), (64, 32, .negSucc 2147483647, .ofNat 2147483647), (65, 32, .negSucc 2147483647, .ofNat 2147483647)], [54, 55, 56, 57, 58, 60, 61], (some (0, .negSucc 1999999999, .ofNat 143)), 4, false)
theorem s_mm_32 (M : Nat → Nat → Int) (hm : sx_mok cl_ly M) (hJ : JJ M) (hg : ct_g k_mm_32.2.1 M) : ∃ m ∈ [k_mn_32], ct_g m.2.1 M := by
  have hv : M 53 14 = 32 := by
    have h := hg (53, 14, .ofNat 32, .ofNat 32) List.mem_cons_self
    exact Int.le_antisymm h.2 h.1
  have hk := jr_kn hm
  have hu := jr_un hm
  have hd := hJ.2.2.1
  have he := hJ.2.2.2
  exact ⟨k_mn_32, List.mem_cons_self, (jc (by show (32 : Int) ≤ M 53 14; omega) (by show M 53 14 ≤ (32 : Int); omega) (jc (by show (0 : Int) ≤ M 53 15; omega) (by show M 53 15 ≤ (8 : Int); omega) jn))⟩
theorem c_mm_32 (hL : L < 2 ^ 31) : ci L xs 163 k_mm_32 :=
  ci_j_ok (ms := [k_mn_32]) (jl_cons (c_mn_32 hL) jl_nil) s_mm_32 (by decide +kernel)
def k_mm_33_0 : ct_C := ([(2, .ofNat 53, .ofNat 53), (0, .negSucc 2147483647, .ofNat 2147483647), (0, .negSucc 2147483647, .negSucc 0), (0, .negSucc 2147483647, .ofNat 2147483647)], [(53, 14, .ofNat 33, .ofNat 33), (53, 15, .ofNat 0, .ofNat 7)], [], [], (some (0, .negSucc 1999999999, .negSucc 1999999999)), 3, false)
theorem c_mm_33_0 (hL : L < 2 ^ 31) : ci L xs 163 k_mm_33_0 :=
  mi_ok (fc := 9000) (f := 9000) (cuts := []) (xk := jx) cl_lok cl_hrf (cl_hro L xs) hL jx_ok (by decide +kernel)
def k_mm_33_1 : ct_C := ([(2, .ofNat 53, .ofNat 53), (0, .negSucc 2147483647, .ofNat 2147483647), (0, .ofNat 0, .ofNat 4), (0, .negSucc 2147483647, .ofNat 2147483647)], [(53, 1, .ofNat 0, .ofNat 6), (53, 14, .ofNat 33, .ofNat 33), (53, 15, .ofNat 0, .ofNat 7)], [(53, 14, .ofNat 33, .ofNat 34), (53, 15, .ofNat 0, .ofNat 7), (62, 33, .negSucc 2147483647, .ofNat 2147483647), (63, 33, .negSucc 2147483647, .ofNat 2147483647), (64, 33, .negSucc 2147483647, .ofNat 2147483647), (65, 33, .negSucc 2147483647, .ofNat 2147483647)], [54, 55, 56, 57, 58], (some (0, .negSucc 1999999999, .ofNat 143)), 4, false)
theorem c_mm_33_1 (hL : L < 2 ^ 31) : ci L xs 163 k_mm_33_1 :=
  mi_ok (fc := 9000) (f := 9000) (cuts := []) (xk := jx) cl_lok cl_hrf (cl_hro L xs) hL jx_ok (by decide +kernel)
def k_mm_33_2 : ct_C := ([(2, .ofNat 53, .ofNat 53), (0, .negSucc 2147483647, .ofNat 2147483647), (0, .ofNat 5, .ofNat 5), (0, .negSucc 2147483647, .ofNat 2147483647)], [(53, 14, .ofNat 33, .ofNat 33), (53, 15, .ofNat 0, .ofNat 7)], [(53, 14, .ofNat 33, .ofNat 34), (53, 15, .ofNat 0, .ofNat 7), (62, 33, .negSucc 2147483647, .ofNat 2147483647), (63, 33, .negSucc 2147483647, .ofNat 2147483647), (64, 33, .negSucc 2147483647, .ofNat 2147483647), (65, 33, .negSucc 2147483647, .ofNat 2147483647)], [61], (some (0, .negSucc 1999999999, .ofNat 143)), 4, false)
theorem c_mm_33_2 (hL : L < 2 ^ 31) : ci L xs 163 k_mm_33_2 :=
  mi_ok (fc := 9000) (f := 9000) (cuts := []) (xk := jx) cl_lok cl_hrf (cl_hro L xs) hL jx_ok (by decide +kernel)
def k_mm_33_3 : ct_C := ([(2, .ofNat 53, .ofNat 53), (0, .negSucc 2147483647, .ofNat 2147483647), (0, .ofNat 6, .ofNat 6), (0, .negSucc 2147483647, .ofNat 2147483647)], [(53, 8, .ofNat 0, .ofNat 12), (53, 14, .ofNat 33, .ofNat 33), (53, 15, .ofNat 0, .ofNat 7)], [(53, 14, .ofNat 33, .ofNat 34), (53, 15, .ofNat 0, .ofNat 7), (62, 33, .negSucc 2147483647, .ofNat 2147483647), (63, 33, .negSucc 2147483647, .ofNat 2147483647), (64, 33, .negSucc 2147483647, .ofNat 2147483647), (65, 33, .negSucc 2147483647, .ofNat 2147483647)], [60], (some (0, .negSucc 1999999999, .ofNat 143)), 4, false)
theorem c_mm_33_3 (hL : L < 2 ^ 31) : ci L xs 163 k_mm_33_3 :=
  mi_ok (fc := 9000) (f := 9000) (cuts := []) (xk := jx) cl_lok cl_hrf (cl_hro L xs) hL jx_ok (by decide +kernel)
def k_mm_33_4 : ct_C := ([(2, .ofNat 53, .ofNat 53), (0, .negSucc 2147483647, .ofNat 2147483647), (0, .ofNat 7, .ofNat 7), (0, .negSucc 2147483647, .ofNat 2147483647)], [(53, 13, .ofNat 0, .ofNat 29), (53, 14, .ofNat 33, .ofNat 33), (53, 15, .ofNat 0, .ofNat 7)], [(53, 13, .ofNat 0, .ofNat 29), (53, 14, .ofNat 33, .ofNat 34), (53, 15, .ofNat 0, .ofNat 7), (62, 33, .negSucc 2147483647, .ofNat 2147483647), (63, 33, .negSucc 2147483647, .ofNat 2147483647), (64, 33, .negSucc 2147483647, .ofNat 2147483647), (65, 33, .negSucc 2147483647, .ofNat 2147483647)], [], (some (0, .negSucc 1999999999, .ofNat 29)), 4, false)
theorem c_mm_33_4 (hL : L < 2 ^ 31) : ci L xs 163 k_mm_33_4 :=
  mi_ok (fc := 9000) (f := 9000) (cuts := []) (xk := jx) cl_lok cl_hrf (cl_hro L xs) hL jx_ok (by decide +kernel)
def k_mm_33_5 : ct_C := ([(2, .ofNat 53, .ofNat 53), (0, .negSucc 2147483647, .ofNat 2147483647), (0, .ofNat 8, .ofNat 2147483647), (0, .negSucc 2147483647, .ofNat 2147483647)], [(53, 14, .ofNat 33, .ofNat 33), (53, 15, .ofNat 0, .ofNat 7)], [], [], (some (0, .negSucc 1999999999, .negSucc 1999999999)), 3, false)
theorem c_mm_33_5 (hL : L < 2 ^ 31) : ci L xs 163 k_mm_33_5 :=
  mi_ok (fc := 9000) (f := 9000) (cuts := []) (xk := jx) cl_lok cl_hrf (cl_hro L xs) hL jx_ok (by decide +kernel)
def k_mn_33 : ct_C := ([(2, .ofNat 53, .ofNat 53), (0, .negSucc 2147483647, .ofNat 2147483647), (0, .negSucc 2147483647, .ofNat 2147483647), (0, .negSucc 2147483647, .ofNat 2147483647)], [(53, 14, .ofNat 33, .ofNat 33), (53, 15, .ofNat 0, .ofNat 7)], [(53, 13, .ofNat 0, .ofNat 29), (53, 14, .ofNat 0, .ofNat 40), (53, 15, .ofNat 0, .ofNat 40), (62, 33, .negSucc 2147483647, .ofNat 2147483647), (63, 33, .negSucc 2147483647, .ofNat 2147483647), (64, 33, .negSucc 2147483647, .ofNat 2147483647), (65, 33, .negSucc 2147483647, .ofNat 2147483647)], [54, 55, 56, 57, 58, 60, 61], (some (0, .negSucc 1999999999, .ofNat 143)), 4, false)
theorem c_mn_33 (hL : L < 2 ^ 31) : ci L xs 163 k_mn_33 :=
  ci_a_ok (i := 2) (ms := [((.negSucc 2147483647, .negSucc 0), k_mm_33_0), ((.ofNat 0, .ofNat 4), k_mm_33_1), ((.ofNat 5, .ofNat 5), k_mm_33_2), ((.ofNat 6, .ofNat 6), k_mm_33_3), ((.ofNat 7, .ofNat 7), k_mm_33_4), ((.ofNat 8, .ofNat 2147483647), k_mm_33_5)]) (jm_cons (r := (.negSucc 2147483647, .negSucc 0)) (c_mm_33_0 hL) (jm_cons (r := (.ofNat 0, .ofNat 4)) (c_mm_33_1 hL) (jm_cons (r := (.ofNat 5, .ofNat 5)) (c_mm_33_2 hL) (jm_cons (r := (.ofNat 6, .ofNat 6)) (c_mm_33_3 hL) (jm_cons (r := (.ofNat 7, .ofNat 7)) (c_mm_33_4 hL) (jm_cons (r := (.ofNat 8, .ofNat 2147483647)) (c_mm_33_5 hL) jm_nil)))))) (by decide +kernel)
def k_mm_33 : ct_C := ([(2, .ofNat 53, .ofNat 53), (0, .negSucc 2147483647, .ofNat 2147483647), (0, .negSucc 2147483647, .ofNat 2147483647), (0, .negSucc 2147483647, .ofNat 2147483647)], [(53, 14, .ofNat 33, .ofNat 33)], [(53, 13, .ofNat 0, .ofNat 29), (53, 14, .ofNat 0, .ofNat 40), (53, 15, .ofNat 0, .ofNat 40), (62, 33, .negSucc 2147483647, .ofNat 2147483647), (63, 33, .negSucc 2147483647, .ofNat 2147483647), (64, 33, .negSucc 2147483647, .ofNat 2147483647), (65, 33, .negSucc 2147483647, .ofNat 2147483647)], [54, 55, 56, 57, 58, 60, 61], (some (0, .negSucc 1999999999, .ofNat 143)), 4, false)
theorem s_mm_33 (M : Nat → Nat → Int) (hm : sx_mok cl_ly M) (hJ : JJ M) (hg : ct_g k_mm_33.2.1 M) : ∃ m ∈ [k_mn_33], ct_g m.2.1 M := by
  have hv : M 53 14 = 33 := by
    have h := hg (53, 14, .ofNat 33, .ofNat 33) List.mem_cons_self
    exact Int.le_antisymm h.2 h.1
  have hk := jr_kn hm
  have hu := jr_un hm
  have hd := hJ.2.2.1
  have he := hJ.2.2.2
  exact ⟨k_mn_33, List.mem_cons_self, (jc (by show (33 : Int) ≤ M 53 14; omega) (by show M 53 14 ≤ (33 : Int); omega) (jc (by show (0 : Int) ≤ M 53 15; omega) (by show M 53 15 ≤ (7 : Int); omega) jn))⟩
theorem c_mm_33 (hL : L < 2 ^ 31) : ci L xs 163 k_mm_33 :=
  ci_j_ok (ms := [k_mn_33]) (jl_cons (c_mn_33 hL) jl_nil) s_mm_33 (by decide +kernel)
def k_mm_34_0 : ct_C := ([(2, .ofNat 53, .ofNat 53), (0, .negSucc 2147483647, .ofNat 2147483647), (0, .negSucc 2147483647, .negSucc 0), (0, .negSucc 2147483647, .ofNat 2147483647)], [(53, 14, .ofNat 34, .ofNat 34), (53, 15, .ofNat 0, .ofNat 6)], [], [], (some (0, .negSucc 1999999999, .negSucc 1999999999)), 3, false)
theorem c_mm_34_0 (hL : L < 2 ^ 31) : ci L xs 163 k_mm_34_0 :=
  mi_ok (fc := 9000) (f := 9000) (cuts := []) (xk := jx) cl_lok cl_hrf (cl_hro L xs) hL jx_ok (by decide +kernel)
def k_mm_34_1 : ct_C := ([(2, .ofNat 53, .ofNat 53), (0, .negSucc 2147483647, .ofNat 2147483647), (0, .ofNat 0, .ofNat 4), (0, .negSucc 2147483647, .ofNat 2147483647)], [(53, 1, .ofNat 0, .ofNat 6), (53, 14, .ofNat 34, .ofNat 34), (53, 15, .ofNat 0, .ofNat 6)], [(53, 14, .ofNat 34, .ofNat 35), (53, 15, .ofNat 0, .ofNat 6), (62, 34, .negSucc 2147483647, .ofNat 2147483647), (63, 34, .negSucc 2147483647, .ofNat 2147483647), (64, 34, .negSucc 2147483647, .ofNat 2147483647), (65, 34, .negSucc 2147483647, .ofNat 2147483647)], [54, 55, 56, 57, 58], (some (0, .negSucc 1999999999, .ofNat 143)), 4, false)
theorem c_mm_34_1 (hL : L < 2 ^ 31) : ci L xs 163 k_mm_34_1 :=
  mi_ok (fc := 9000) (f := 9000) (cuts := []) (xk := jx) cl_lok cl_hrf (cl_hro L xs) hL jx_ok (by decide +kernel)
def k_mm_34_2 : ct_C := ([(2, .ofNat 53, .ofNat 53), (0, .negSucc 2147483647, .ofNat 2147483647), (0, .ofNat 5, .ofNat 5), (0, .negSucc 2147483647, .ofNat 2147483647)], [(53, 14, .ofNat 34, .ofNat 34), (53, 15, .ofNat 0, .ofNat 6)], [(53, 14, .ofNat 34, .ofNat 35), (53, 15, .ofNat 0, .ofNat 6), (62, 34, .negSucc 2147483647, .ofNat 2147483647), (63, 34, .negSucc 2147483647, .ofNat 2147483647), (64, 34, .negSucc 2147483647, .ofNat 2147483647), (65, 34, .negSucc 2147483647, .ofNat 2147483647)], [61], (some (0, .negSucc 1999999999, .ofNat 143)), 4, false)
theorem c_mm_34_2 (hL : L < 2 ^ 31) : ci L xs 163 k_mm_34_2 :=
  mi_ok (fc := 9000) (f := 9000) (cuts := []) (xk := jx) cl_lok cl_hrf (cl_hro L xs) hL jx_ok (by decide +kernel)
def k_mm_34_3 : ct_C := ([(2, .ofNat 53, .ofNat 53), (0, .negSucc 2147483647, .ofNat 2147483647), (0, .ofNat 6, .ofNat 6), (0, .negSucc 2147483647, .ofNat 2147483647)], [(53, 8, .ofNat 0, .ofNat 12), (53, 14, .ofNat 34, .ofNat 34), (53, 15, .ofNat 0, .ofNat 6)], [(53, 14, .ofNat 34, .ofNat 35), (53, 15, .ofNat 0, .ofNat 6), (62, 34, .negSucc 2147483647, .ofNat 2147483647), (63, 34, .negSucc 2147483647, .ofNat 2147483647), (64, 34, .negSucc 2147483647, .ofNat 2147483647), (65, 34, .negSucc 2147483647, .ofNat 2147483647)], [60], (some (0, .negSucc 1999999999, .ofNat 143)), 4, false)
theorem c_mm_34_3 (hL : L < 2 ^ 31) : ci L xs 163 k_mm_34_3 :=
  mi_ok (fc := 9000) (f := 9000) (cuts := []) (xk := jx) cl_lok cl_hrf (cl_hro L xs) hL jx_ok (by decide +kernel)
def k_mm_34_4 : ct_C := ([(2, .ofNat 53, .ofNat 53), (0, .negSucc 2147483647, .ofNat 2147483647), (0, .ofNat 7, .ofNat 7), (0, .negSucc 2147483647, .ofNat 2147483647)], [(53, 13, .ofNat 0, .ofNat 29), (53, 14, .ofNat 34, .ofNat 34), (53, 15, .ofNat 0, .ofNat 6)], [(53, 13, .ofNat 0, .ofNat 29), (53, 14, .ofNat 34, .ofNat 35), (53, 15, .ofNat 0, .ofNat 6), (62, 34, .negSucc 2147483647, .ofNat 2147483647), (63, 34, .negSucc 2147483647, .ofNat 2147483647), (64, 34, .negSucc 2147483647, .ofNat 2147483647), (65, 34, .negSucc 2147483647, .ofNat 2147483647)], [], (some (0, .negSucc 1999999999, .ofNat 29)), 4, false)
theorem c_mm_34_4 (hL : L < 2 ^ 31) : ci L xs 163 k_mm_34_4 :=
  mi_ok (fc := 9000) (f := 9000) (cuts := []) (xk := jx) cl_lok cl_hrf (cl_hro L xs) hL jx_ok (by decide +kernel)
def k_mm_34_5 : ct_C := ([(2, .ofNat 53, .ofNat 53), (0, .negSucc 2147483647, .ofNat 2147483647), (0, .ofNat 8, .ofNat 2147483647), (0, .negSucc 2147483647, .ofNat 2147483647)], [(53, 14, .ofNat 34, .ofNat 34), (53, 15, .ofNat 0, .ofNat 6)], [], [], (some (0, .negSucc 1999999999, .negSucc 1999999999)), 3, false)
theorem c_mm_34_5 (hL : L < 2 ^ 31) : ci L xs 163 k_mm_34_5 :=
  mi_ok (fc := 9000) (f := 9000) (cuts := []) (xk := jx) cl_lok cl_hrf (cl_hro L xs) hL jx_ok (by decide +kernel)
def k_mn_34 : ct_C := ([(2, .ofNat 53, .ofNat 53), (0, .negSucc 2147483647, .ofNat 2147483647), (0, .negSucc 2147483647, .ofNat 2147483647), (0, .negSucc 2147483647, .ofNat 2147483647)], [(53, 14, .ofNat 34, .ofNat 34), (53, 15, .ofNat 0, .ofNat 6)], [(53, 13, .ofNat 0, .ofNat 29), (53, 14, .ofNat 0, .ofNat 40), (53, 15, .ofNat 0, .ofNat 40), (62, 34, .negSucc 2147483647, .ofNat 2147483647), (63, 34, .negSucc 2147483647, .ofNat 2147483647), (64, 34, .negSucc 2147483647, .ofNat 2147483647), (65, 34, .negSucc 2147483647, .ofNat 2147483647)], [54, 55, 56, 57, 58, 60, 61], (some (0, .negSucc 1999999999, .ofNat 143)), 4, false)
theorem c_mn_34 (hL : L < 2 ^ 31) : ci L xs 163 k_mn_34 :=
  ci_a_ok (i := 2) (ms := [((.negSucc 2147483647, .negSucc 0), k_mm_34_0), ((.ofNat 0, .ofNat 4), k_mm_34_1), ((.ofNat 5, .ofNat 5), k_mm_34_2), ((.ofNat 6, .ofNat 6), k_mm_34_3), ((.ofNat 7, .ofNat 7), k_mm_34_4), ((.ofNat 8, .ofNat 2147483647), k_mm_34_5)]) (jm_cons (r := (.negSucc 2147483647, .negSucc 0)) (c_mm_34_0 hL) (jm_cons (r := (.ofNat 0, .ofNat 4)) (c_mm_34_1 hL) (jm_cons (r := (.ofNat 5, .ofNat 5)) (c_mm_34_2 hL) (jm_cons (r := (.ofNat 6, .ofNat 6)) (c_mm_34_3 hL) (jm_cons (r := (.ofNat 7, .ofNat 7)) (c_mm_34_4 hL) (jm_cons (r := (.ofNat 8, .ofNat 2147483647)) (c_mm_34_5 hL) jm_nil)))))) (by decide +kernel)
def k_mm_34 : ct_C := ([(2, .ofNat 53, .ofNat 53), (0, .negSucc 2147483647, .ofNat 2147483647), (0, .negSucc 2147483647, .ofNat 2147483647), (0, .negSucc 2147483647, .ofNat 2147483647)], [(53, 14, .ofNat 34, .ofNat 34)], [(53, 13, .ofNat 0, .ofNat 29), (53, 14, .ofNat 0, .ofNat 40), (53, 15, .ofNat 0, .ofNat 40), (62, 34, .negSucc 2147483647, .ofNat 2147483647), (63, 34, .negSucc 2147483647, .ofNat 2147483647), (64, 34, .negSucc 2147483647, .ofNat 2147483647), (65, 34, .negSucc 2147483647, .ofNat 2147483647)], [54, 55, 56, 57, 58, 60, 61], (some (0, .negSucc 1999999999, .ofNat 143)), 4, false)
theorem s_mm_34 (M : Nat → Nat → Int) (hm : sx_mok cl_ly M) (hJ : JJ M) (hg : ct_g k_mm_34.2.1 M) : ∃ m ∈ [k_mn_34], ct_g m.2.1 M := by
  have hv : M 53 14 = 34 := by
    have h := hg (53, 14, .ofNat 34, .ofNat 34) List.mem_cons_self
    exact Int.le_antisymm h.2 h.1
  have hk := jr_kn hm
  have hu := jr_un hm
  have hd := hJ.2.2.1
  have he := hJ.2.2.2
  exact ⟨k_mn_34, List.mem_cons_self, (jc (by show (34 : Int) ≤ M 53 14; omega) (by show M 53 14 ≤ (34 : Int); omega) (jc (by show (0 : Int) ≤ M 53 15; omega) (by show M 53 15 ≤ (6 : Int); omega) jn))⟩
theorem c_mm_34 (hL : L < 2 ^ 31) : ci L xs 163 k_mm_34 :=
  ci_j_ok (ms := [k_mn_34]) (jl_cons (c_mn_34 hL) jl_nil) s_mm_34 (by decide +kernel)
def k_mm_35_0 : ct_C := ([(2, .ofNat 53, .ofNat 53), (0, .negSucc 2147483647, .ofNat 2147483647), (0, .negSucc 2147483647, .negSucc 0), (0, .negSucc 2147483647, .ofNat 2147483647)], [(53, 14, .ofNat 35, .ofNat 35), (53, 15, .ofNat 0, .ofNat 5)], [], [], (some (0, .negSucc 1999999999, .negSucc 1999999999)), 3, false)
theorem c_mm_35_0 (hL : L < 2 ^ 31) : ci L xs 163 k_mm_35_0 :=
  mi_ok (fc := 9000) (f := 9000) (cuts := []) (xk := jx) cl_lok cl_hrf (cl_hro L xs) hL jx_ok (by decide +kernel)
def k_mm_35_1 : ct_C := ([(2, .ofNat 53, .ofNat 53), (0, .negSucc 2147483647, .ofNat 2147483647), (0, .ofNat 0, .ofNat 4), (0, .negSucc 2147483647, .ofNat 2147483647)], [(53, 1, .ofNat 0, .ofNat 6), (53, 14, .ofNat 35, .ofNat 35), (53, 15, .ofNat 0, .ofNat 5)], [(53, 14, .ofNat 35, .ofNat 36), (53, 15, .ofNat 0, .ofNat 5), (62, 35, .negSucc 2147483647, .ofNat 2147483647), (63, 35, .negSucc 2147483647, .ofNat 2147483647), (64, 35, .negSucc 2147483647, .ofNat 2147483647), (65, 35, .negSucc 2147483647, .ofNat 2147483647)], [54, 55, 56, 57, 58], (some (0, .negSucc 1999999999, .ofNat 143)), 4, false)
theorem c_mm_35_1 (hL : L < 2 ^ 31) : ci L xs 163 k_mm_35_1 :=
  mi_ok (fc := 9000) (f := 9000) (cuts := []) (xk := jx) cl_lok cl_hrf (cl_hro L xs) hL jx_ok (by decide +kernel)
def k_mm_35_2 : ct_C := ([(2, .ofNat 53, .ofNat 53), (0, .negSucc 2147483647, .ofNat 2147483647), (0, .ofNat 5, .ofNat 5), (0, .negSucc 2147483647, .ofNat 2147483647)], [(53, 14, .ofNat 35, .ofNat 35), (53, 15, .ofNat 0, .ofNat 5)], [(53, 14, .ofNat 35, .ofNat 36), (53, 15, .ofNat 0, .ofNat 5), (62, 35, .negSucc 2147483647, .ofNat 2147483647), (63, 35, .negSucc 2147483647, .ofNat 2147483647), (64, 35, .negSucc 2147483647, .ofNat 2147483647), (65, 35, .negSucc 2147483647, .ofNat 2147483647)], [61], (some (0, .negSucc 1999999999, .ofNat 143)), 4, false)
theorem c_mm_35_2 (hL : L < 2 ^ 31) : ci L xs 163 k_mm_35_2 :=
  mi_ok (fc := 9000) (f := 9000) (cuts := []) (xk := jx) cl_lok cl_hrf (cl_hro L xs) hL jx_ok (by decide +kernel)
def k_mm_35_3 : ct_C := ([(2, .ofNat 53, .ofNat 53), (0, .negSucc 2147483647, .ofNat 2147483647), (0, .ofNat 6, .ofNat 6), (0, .negSucc 2147483647, .ofNat 2147483647)], [(53, 8, .ofNat 0, .ofNat 12), (53, 14, .ofNat 35, .ofNat 35), (53, 15, .ofNat 0, .ofNat 5)], [(53, 14, .ofNat 35, .ofNat 36), (53, 15, .ofNat 0, .ofNat 5), (62, 35, .negSucc 2147483647, .ofNat 2147483647), (63, 35, .negSucc 2147483647, .ofNat 2147483647), (64, 35, .negSucc 2147483647, .ofNat 2147483647), (65, 35, .negSucc 2147483647, .ofNat 2147483647)], [60], (some (0, .negSucc 1999999999, .ofNat 143)), 4, false)
theorem c_mm_35_3 (hL : L < 2 ^ 31) : ci L xs 163 k_mm_35_3 :=
  mi_ok (fc := 9000) (f := 9000) (cuts := []) (xk := jx) cl_lok cl_hrf (cl_hro L xs) hL jx_ok (by decide +kernel)
def k_mm_35_4 : ct_C := ([(2, .ofNat 53, .ofNat 53), (0, .negSucc 2147483647, .ofNat 2147483647), (0, .ofNat 7, .ofNat 7), (0, .negSucc 2147483647, .ofNat 2147483647)], [(53, 13, .ofNat 0, .ofNat 29), (53, 14, .ofNat 35, .ofNat 35), (53, 15, .ofNat 0, .ofNat 5)], [(53, 13, .ofNat 0, .ofNat 29), (53, 14, .ofNat 35, .ofNat 36), (53, 15, .ofNat 0, .ofNat 5), (62, 35, .negSucc 2147483647, .ofNat 2147483647), (63, 35, .negSucc 2147483647, .ofNat 2147483647), (64, 35, .negSucc 2147483647, .ofNat 2147483647), (65, 35, .negSucc 2147483647, .ofNat 2147483647)], [], (some (0, .negSucc 1999999999, .ofNat 29)), 4, false)
theorem c_mm_35_4 (hL : L < 2 ^ 31) : ci L xs 163 k_mm_35_4 :=
  mi_ok (fc := 9000) (f := 9000) (cuts := []) (xk := jx) cl_lok cl_hrf (cl_hro L xs) hL jx_ok (by decide +kernel)
def k_mm_35_5 : ct_C := ([(2, .ofNat 53, .ofNat 53), (0, .negSucc 2147483647, .ofNat 2147483647), (0, .ofNat 8, .ofNat 2147483647), (0, .negSucc 2147483647, .ofNat 2147483647)], [(53, 14, .ofNat 35, .ofNat 35), (53, 15, .ofNat 0, .ofNat 5)], [], [], (some (0, .negSucc 1999999999, .negSucc 1999999999)), 3, false)
theorem c_mm_35_5 (hL : L < 2 ^ 31) : ci L xs 163 k_mm_35_5 :=
  mi_ok (fc := 9000) (f := 9000) (cuts := []) (xk := jx) cl_lok cl_hrf (cl_hro L xs) hL jx_ok (by decide +kernel)
def k_mn_35 : ct_C := ([(2, .ofNat 53, .ofNat 53), (0, .negSucc 2147483647, .ofNat 2147483647), (0, .negSucc 2147483647, .ofNat 2147483647), (0, .negSucc 2147483647, .ofNat 2147483647)], [(53, 14, .ofNat 35, .ofNat 35), (53, 15, .ofNat 0, .ofNat 5)], [(53, 13, .ofNat 0, .ofNat 29), (53, 14, .ofNat 0, .ofNat 40), (53, 15, .ofNat 0, .ofNat 40), (62, 35, .negSucc 2147483647, .ofNat 2147483647), (63, 35, .negSucc 2147483647, .ofNat 2147483647), (64, 35, .negSucc 2147483647, .ofNat 2147483647), (65, 35, .negSucc 2147483647, .ofNat 2147483647)], [54, 55, 56, 57, 58, 60, 61], (some (0, .negSucc 1999999999, .ofNat 143)), 4, false)
theorem c_mn_35 (hL : L < 2 ^ 31) : ci L xs 163 k_mn_35 :=
  ci_a_ok (i := 2) (ms := [((.negSucc 2147483647, .negSucc 0), k_mm_35_0), ((.ofNat 0, .ofNat 4), k_mm_35_1), ((.ofNat 5, .ofNat 5), k_mm_35_2), ((.ofNat 6, .ofNat 6), k_mm_35_3), ((.ofNat 7, .ofNat 7), k_mm_35_4), ((.ofNat 8, .ofNat 2147483647), k_mm_35_5)]) (jm_cons (r := (.negSucc 2147483647, .negSucc 0)) (c_mm_35_0 hL) (jm_cons (r := (.ofNat 0, .ofNat 4)) (c_mm_35_1 hL) (jm_cons (r := (.ofNat 5, .ofNat 5)) (c_mm_35_2 hL) (jm_cons (r := (.ofNat 6, .ofNat 6)) (c_mm_35_3 hL) (jm_cons (r := (.ofNat 7, .ofNat 7)) (c_mm_35_4 hL) (jm_cons (r := (.ofNat 8, .ofNat 2147483647)) (c_mm_35_5 hL) jm_nil)))))) (by decide +kernel)
def k_mm_35 : ct_C := ([(2, .ofNat 53, .ofNat 53), (0, .negSucc 2147483647, .ofNat 2147483647), (0, .negSucc 2147483647, .ofNat 2147483647), (0, .negSucc 2147483647, .ofNat 2147483647)], [(53, 14, .ofNat 35, .ofNat 35)], [(53, 13, .ofNat 0, .ofNat 29), (53, 14, .ofNat 0, .ofNat 40), (53, 15, .ofNat 0, .ofNat 40), (62, 35, .negSucc 2147483647, .ofNat 2147483647), (63, 35, .negSucc 2147483647, .ofNat 2147483647), (64, 35, .negSucc 2147483647, .ofNat 2147483647), (65, 35, .negSucc 2147483647, .ofNat 2147483647)], [54, 55, 56, 57, 58, 60, 61], (some (0, .negSucc 1999999999, .ofNat 143)), 4, false)
theorem s_mm_35 (M : Nat → Nat → Int) (hm : sx_mok cl_ly M) (hJ : JJ M) (hg : ct_g k_mm_35.2.1 M) : ∃ m ∈ [k_mn_35], ct_g m.2.1 M := by
  have hv : M 53 14 = 35 := by
    have h := hg (53, 14, .ofNat 35, .ofNat 35) List.mem_cons_self
    exact Int.le_antisymm h.2 h.1
  have hk := jr_kn hm
  have hu := jr_un hm
  have hd := hJ.2.2.1
  have he := hJ.2.2.2
  exact ⟨k_mn_35, List.mem_cons_self, (jc (by show (35 : Int) ≤ M 53 14; omega) (by show M 53 14 ≤ (35 : Int); omega) (jc (by show (0 : Int) ≤ M 53 15; omega) (by show M 53 15 ≤ (5 : Int); omega) jn))⟩
theorem c_mm_35 (hL : L < 2 ^ 31) : ci L xs 163 k_mm_35 :=
  ci_j_ok (ms := [k_mn_35]) (jl_cons (c_mn_35 hL) jl_nil) s_mm_35 (by decide +kernel)
def k_mm_36_0 : ct_C := ([(2, .ofNat 53, .ofNat 53), (0, .negSucc 2147483647, .ofNat 2147483647), (0, .negSucc 2147483647, .negSucc 0), (0, .negSucc 2147483647, .ofNat 2147483647)], [(53, 14, .ofNat 36, .ofNat 36), (53, 15, .ofNat 0, .ofNat 4)], [], [], (some (0, .negSucc 1999999999, .negSucc 1999999999)), 3, false)
theorem c_mm_36_0 (hL : L < 2 ^ 31) : ci L xs 163 k_mm_36_0 :=
  mi_ok (fc := 9000) (f := 9000) (cuts := []) (xk := jx) cl_lok cl_hrf (cl_hro L xs) hL jx_ok (by decide +kernel)
def k_mm_36_1 : ct_C := ([(2, .ofNat 53, .ofNat 53), (0, .negSucc 2147483647, .ofNat 2147483647), (0, .ofNat 0, .ofNat 4), (0, .negSucc 2147483647, .ofNat 2147483647)], [(53, 1, .ofNat 0, .ofNat 6), (53, 14, .ofNat 36, .ofNat 36), (53, 15, .ofNat 0, .ofNat 4)], [(53, 14, .ofNat 36, .ofNat 37), (53, 15, .ofNat 0, .ofNat 4), (62, 36, .negSucc 2147483647, .ofNat 2147483647), (63, 36, .negSucc 2147483647, .ofNat 2147483647), (64, 36, .negSucc 2147483647, .ofNat 2147483647), (65, 36, .negSucc 2147483647, .ofNat 2147483647)], [54, 55, 56, 57, 58], (some (0, .negSucc 1999999999, .ofNat 143)), 4, false)
theorem c_mm_36_1 (hL : L < 2 ^ 31) : ci L xs 163 k_mm_36_1 :=
  mi_ok (fc := 9000) (f := 9000) (cuts := []) (xk := jx) cl_lok cl_hrf (cl_hro L xs) hL jx_ok (by decide +kernel)
def k_mm_36_2 : ct_C := ([(2, .ofNat 53, .ofNat 53), (0, .negSucc 2147483647, .ofNat 2147483647), (0, .ofNat 5, .ofNat 5), (0, .negSucc 2147483647, .ofNat 2147483647)], [(53, 14, .ofNat 36, .ofNat 36), (53, 15, .ofNat 0, .ofNat 4)], [(53, 14, .ofNat 36, .ofNat 37), (53, 15, .ofNat 0, .ofNat 4), (62, 36, .negSucc 2147483647, .ofNat 2147483647), (63, 36, .negSucc 2147483647, .ofNat 2147483647), (64, 36, .negSucc 2147483647, .ofNat 2147483647), (65, 36, .negSucc 2147483647, .ofNat 2147483647)], [61], (some (0, .negSucc 1999999999, .ofNat 143)), 4, false)
theorem c_mm_36_2 (hL : L < 2 ^ 31) : ci L xs 163 k_mm_36_2 :=
  mi_ok (fc := 9000) (f := 9000) (cuts := []) (xk := jx) cl_lok cl_hrf (cl_hro L xs) hL jx_ok (by decide +kernel)
def k_mm_36_3 : ct_C := ([(2, .ofNat 53, .ofNat 53), (0, .negSucc 2147483647, .ofNat 2147483647), (0, .ofNat 6, .ofNat 6), (0, .negSucc 2147483647, .ofNat 2147483647)], [(53, 8, .ofNat 0, .ofNat 12), (53, 14, .ofNat 36, .ofNat 36), (53, 15, .ofNat 0, .ofNat 4)], [(53, 14, .ofNat 36, .ofNat 37), (53, 15, .ofNat 0, .ofNat 4), (62, 36, .negSucc 2147483647, .ofNat 2147483647), (63, 36, .negSucc 2147483647, .ofNat 2147483647), (64, 36, .negSucc 2147483647, .ofNat 2147483647), (65, 36, .negSucc 2147483647, .ofNat 2147483647)], [60], (some (0, .negSucc 1999999999, .ofNat 143)), 4, false)
theorem c_mm_36_3 (hL : L < 2 ^ 31) : ci L xs 163 k_mm_36_3 :=
  mi_ok (fc := 9000) (f := 9000) (cuts := []) (xk := jx) cl_lok cl_hrf (cl_hro L xs) hL jx_ok (by decide +kernel)
def k_mm_36_4 : ct_C := ([(2, .ofNat 53, .ofNat 53), (0, .negSucc 2147483647, .ofNat 2147483647), (0, .ofNat 7, .ofNat 7), (0, .negSucc 2147483647, .ofNat 2147483647)], [(53, 13, .ofNat 0, .ofNat 29), (53, 14, .ofNat 36, .ofNat 36), (53, 15, .ofNat 0, .ofNat 4)], [(53, 13, .ofNat 0, .ofNat 29), (53, 14, .ofNat 36, .ofNat 37), (53, 15, .ofNat 0, .ofNat 4), (62, 36, .negSucc 2147483647, .ofNat 2147483647), (63, 36, .negSucc 2147483647, .ofNat 2147483647), (64, 36, .negSucc 2147483647, .ofNat 2147483647), (65, 36, .negSucc 2147483647, .ofNat 2147483647)], [], (some (0, .negSucc 1999999999, .ofNat 29)), 4, false)
theorem c_mm_36_4 (hL : L < 2 ^ 31) : ci L xs 163 k_mm_36_4 :=
  mi_ok (fc := 9000) (f := 9000) (cuts := []) (xk := jx) cl_lok cl_hrf (cl_hro L xs) hL jx_ok (by decide +kernel)
def k_mm_36_5 : ct_C := ([(2, .ofNat 53, .ofNat 53), (0, .negSucc 2147483647, .ofNat 2147483647), (0, .ofNat 8, .ofNat 2147483647), (0, .negSucc 2147483647, .ofNat 2147483647)], [(53, 14, .ofNat 36, .ofNat 36), (53, 15, .ofNat 0, .ofNat 4)], [], [], (some (0, .negSucc 1999999999, .negSucc 1999999999)), 3, false)
theorem c_mm_36_5 (hL : L < 2 ^ 31) : ci L xs 163 k_mm_36_5 :=
  mi_ok (fc := 9000) (f := 9000) (cuts := []) (xk := jx) cl_lok cl_hrf (cl_hro L xs) hL jx_ok (by decide +kernel)
def k_mn_36 : ct_C := ([(2, .ofNat 53, .ofNat 53), (0, .negSucc 2147483647, .ofNat 2147483647), (0, .negSucc 2147483647, .ofNat 2147483647), (0, .negSucc 2147483647, .ofNat 2147483647)], [(53, 14, .ofNat 36, .ofNat 36), (53, 15, .ofNat 0, .ofNat 4)], [(53, 13, .ofNat 0, .ofNat 29), (53, 14, .ofNat 0, .ofNat 40), (53, 15, .ofNat 0, .ofNat 40), (62, 36, .negSucc 2147483647, .ofNat 2147483647), (63, 36, .negSucc 2147483647, .ofNat 2147483647), (64, 36, .negSucc 2147483647, .ofNat 2147483647), (65, 36, .negSucc 2147483647, .ofNat 2147483647)], [54, 55, 56, 57, 58, 60, 61], (some (0, .negSucc 1999999999, .ofNat 143)), 4, false)
theorem c_mn_36 (hL : L < 2 ^ 31) : ci L xs 163 k_mn_36 :=
  ci_a_ok (i := 2) (ms := [((.negSucc 2147483647, .negSucc 0), k_mm_36_0), ((.ofNat 0, .ofNat 4), k_mm_36_1), ((.ofNat 5, .ofNat 5), k_mm_36_2), ((.ofNat 6, .ofNat 6), k_mm_36_3), ((.ofNat 7, .ofNat 7), k_mm_36_4), ((.ofNat 8, .ofNat 2147483647), k_mm_36_5)]) (jm_cons (r := (.negSucc 2147483647, .negSucc 0)) (c_mm_36_0 hL) (jm_cons (r := (.ofNat 0, .ofNat 4)) (c_mm_36_1 hL) (jm_cons (r := (.ofNat 5, .ofNat 5)) (c_mm_36_2 hL) (jm_cons (r := (.ofNat 6, .ofNat 6)) (c_mm_36_3 hL) (jm_cons (r := (.ofNat 7, .ofNat 7)) (c_mm_36_4 hL) (jm_cons (r := (.ofNat 8, .ofNat 2147483647)) (c_mm_36_5 hL) jm_nil)))))) (by decide +kernel)
def k_mm_36 : ct_C := ([(2, .ofNat 53, .ofNat 53), (0, .negSucc 2147483647, .ofNat 2147483647), (0, .negSucc 2147483647, .ofNat 2147483647), (0, .negSucc 2147483647, .ofNat 2147483647)], [(53, 14, .ofNat 36, .ofNat 36)], [(53, 13, .ofNat 0, .ofNat 29), (53, 14, .ofNat 0, .ofNat 40), (53, 15, .ofNat 0, .ofNat 40), (62, 36, .negSucc 2147483647, .ofNat 2147483647), (63, 36, .negSucc 2147483647, .ofNat 2147483647), (64, 36, .negSucc 2147483647, .ofNat 2147483647), (65, 36, .negSucc 2147483647, .ofNat 2147483647)], [54, 55, 56, 57, 58, 60, 61], (some (0, .negSucc 1999999999, .ofNat 143)), 4, false)
theorem s_mm_36 (M : Nat → Nat → Int) (hm : sx_mok cl_ly M) (hJ : JJ M) (hg : ct_g k_mm_36.2.1 M) : ∃ m ∈ [k_mn_36], ct_g m.2.1 M := by
  have hv : M 53 14 = 36 := by
    have h := hg (53, 14, .ofNat 36, .ofNat 36) List.mem_cons_self
    exact Int.le_antisymm h.2 h.1
  have hk := jr_kn hm
  have hu := jr_un hm
  have hd := hJ.2.2.1
  have he := hJ.2.2.2
  exact ⟨k_mn_36, List.mem_cons_self, (jc (by show (36 : Int) ≤ M 53 14; omega) (by show M 53 14 ≤ (36 : Int); omega) (jc (by show (0 : Int) ≤ M 53 15; omega) (by show M 53 15 ≤ (4 : Int); omega) jn))⟩
theorem c_mm_36 (hL : L < 2 ^ 31) : ci L xs 163 k_mm_36 :=
  ci_j_ok (ms := [k_mn_36]) (jl_cons (c_mn_36 hL) jl_nil) s_mm_36 (by decide +kernel)
def k_mm_37_0 : ct_C := ([(2, .ofNat 53, .ofNat 53), (0, .negSucc 2147483647, .ofNat 2147483647), (0, .negSucc 2147483647, .negSucc 0), (0, .negSucc 2147483647, .ofNat 2147483647)], [(53, 14, .ofNat 37, .ofNat 37), (53, 15, .ofNat 0, .ofNat 3)], [], [], (some (0, .negSucc 1999999999, .negSucc 1999999999)), 3, false)
theorem c_mm_37_0 (hL : L < 2 ^ 31) : ci L xs 163 k_mm_37_0 :=
  mi_ok (fc := 9000) (f := 9000) (cuts := []) (xk := jx) cl_lok cl_hrf (cl_hro L xs) hL jx_ok (by decide +kernel)
def k_mm_37_1 : ct_C := ([(2, .ofNat 53, .ofNat 53), (0, .negSucc 2147483647, .ofNat 2147483647), (0, .ofNat 0, .ofNat 4), (0, .negSucc 2147483647, .ofNat 2147483647)], [(53, 1, .ofNat 0, .ofNat 6), (53, 14, .ofNat 37, .ofNat 37), (53, 15, .ofNat 0, .ofNat 3)], [(53, 14, .ofNat 37, .ofNat 38), (53, 15, .ofNat 0, .ofNat 3), (62, 37, .negSucc 2147483647, .ofNat 2147483647), (63, 37, .negSucc 2147483647, .ofNat 2147483647), (64, 37, .negSucc 2147483647, .ofNat 2147483647), (65, 37, .negSucc 2147483647, .ofNat 2147483647)], [54, 55, 56, 57, 58], (some (0, .negSucc 1999999999, .ofNat 143)), 4, false)
theorem c_mm_37_1 (hL : L < 2 ^ 31) : ci L xs 163 k_mm_37_1 :=
  mi_ok (fc := 9000) (f := 9000) (cuts := []) (xk := jx) cl_lok cl_hrf (cl_hro L xs) hL jx_ok (by decide +kernel)
def k_mm_37_2 : ct_C := ([(2, .ofNat 53, .ofNat 53), (0, .negSucc 2147483647, .ofNat 2147483647), (0, .ofNat 5, .ofNat 5), (0, .negSucc 2147483647, .ofNat 2147483647)], [(53, 14, .ofNat 37, .ofNat 37), (53, 15, .ofNat 0, .ofNat 3)], [(53, 14, .ofNat 37, .ofNat 38), (53, 15, .ofNat 0, .ofNat 3), (62, 37, .negSucc 2147483647, .ofNat 2147483647), (63, 37, .negSucc 2147483647, .ofNat 2147483647), (64, 37, .negSucc 2147483647, .ofNat 2147483647), (65, 37, .negSucc 2147483647, .ofNat 2147483647)], [61], (some (0, .negSucc 1999999999, .ofNat 143)), 4, false)
theorem c_mm_37_2 (hL : L < 2 ^ 31) : ci L xs 163 k_mm_37_2 :=
  mi_ok (fc := 9000) (f := 9000) (cuts := []) (xk := jx) cl_lok cl_hrf (cl_hro L xs) hL jx_ok (by decide +kernel)
def k_mm_37_3 : ct_C := ([(2, .ofNat 53, .ofNat 53), (0, .negSucc 2147483647, .ofNat 2147483647), (0, .ofNat 6, .ofNat 6), (0, .negSucc 2147483647, .ofNat 2147483647)], [(53, 8, .ofNat 0, .ofNat 12), (53, 14, .ofNat 37, .ofNat 37), (53, 15, .ofNat 0, .ofNat 3)], [(53, 14, .ofNat 37, .ofNat 38), (53, 15, .ofNat 0, .ofNat 3), (62, 37, .negSucc 2147483647, .ofNat 2147483647), (63, 37, .negSucc 2147483647, .ofNat 2147483647), (64, 37, .negSucc 2147483647, .ofNat 2147483647), (65, 37, .negSucc 2147483647, .ofNat 2147483647)], [60], (some (0, .negSucc 1999999999, .ofNat 143)), 4, false)
theorem c_mm_37_3 (hL : L < 2 ^ 31) : ci L xs 163 k_mm_37_3 :=
  mi_ok (fc := 9000) (f := 9000) (cuts := []) (xk := jx) cl_lok cl_hrf (cl_hro L xs) hL jx_ok (by decide +kernel)
def k_mm_37_4 : ct_C := ([(2, .ofNat 53, .ofNat 53), (0, .negSucc 2147483647, .ofNat 2147483647), (0, .ofNat 7, .ofNat 7), (0, .negSucc 2147483647, .ofNat 2147483647)], [(53, 13, .ofNat 0, .ofNat 29), (53, 14, .ofNat 37, .ofNat 37), (53, 15, .ofNat 0, .ofNat 3)], [(53, 13, .ofNat 0, .ofNat 29), (53, 14, .ofNat 37, .ofNat 38), (53, 15, .ofNat 0, .ofNat 3), (62, 37, .negSucc 2147483647, .ofNat 2147483647), (63, 37, .negSucc 2147483647, .ofNat 2147483647), (64, 37, .negSucc 2147483647, .ofNat 2147483647), (65, 37, .negSucc 2147483647, .ofNat 2147483647)], [], (some (0, .negSucc 1999999999, .ofNat 29)), 4, false)
theorem c_mm_37_4 (hL : L < 2 ^ 31) : ci L xs 163 k_mm_37_4 :=
  mi_ok (fc := 9000) (f := 9000) (cuts := []) (xk := jx) cl_lok cl_hrf (cl_hro L xs) hL jx_ok (by decide +kernel)
def k_mm_37_5 : ct_C := ([(2, .ofNat 53, .ofNat 53), (0, .negSucc 2147483647, .ofNat 2147483647), (0, .ofNat 8, .ofNat 2147483647), (0, .negSucc 2147483647, .ofNat 2147483647)], [(53, 14, .ofNat 37, .ofNat 37), (53, 15, .ofNat 0, .ofNat 3)], [], [], (some (0, .negSucc 1999999999, .negSucc 1999999999)), 3, false)
theorem c_mm_37_5 (hL : L < 2 ^ 31) : ci L xs 163 k_mm_37_5 :=
  mi_ok (fc := 9000) (f := 9000) (cuts := []) (xk := jx) cl_lok cl_hrf (cl_hro L xs) hL jx_ok (by decide +kernel)
def k_mn_37 : ct_C := ([(2, .ofNat 53, .ofNat 53), (0, .negSucc 2147483647, .ofNat 2147483647), (0, .negSucc 2147483647, .ofNat 2147483647), (0, .negSucc 2147483647, .ofNat 2147483647)], [(53, 14, .ofNat 37, .ofNat 37), (53, 15, .ofNat 0, .ofNat 3)], [(53, 13, .ofNat 0, .ofNat 29), (53, 14, .ofNat 0, .ofNat 40), (53, 15, .ofNat 0, .ofNat 40), (62, 37, .negSucc 2147483647, .ofNat 2147483647), (63, 37, .negSucc 2147483647, .ofNat 2147483647), (64, 37, .negSucc 2147483647, .ofNat 2147483647), (65, 37, .negSucc 2147483647, .ofNat 2147483647)], [54, 55, 56, 57, 58, 60, 61], (some (0, .negSucc 1999999999, .ofNat 143)), 4, false)
theorem c_mn_37 (hL : L < 2 ^ 31) : ci L xs 163 k_mn_37 :=
  ci_a_ok (i := 2) (ms := [((.negSucc 2147483647, .negSucc 0), k_mm_37_0), ((.ofNat 0, .ofNat 4), k_mm_37_1), ((.ofNat 5, .ofNat 5), k_mm_37_2), ((.ofNat 6, .ofNat 6), k_mm_37_3), ((.ofNat 7, .ofNat 7), k_mm_37_4), ((.ofNat 8, .ofNat 2147483647), k_mm_37_5)]) (jm_cons (r := (.negSucc 2147483647, .negSucc 0)) (c_mm_37_0 hL) (jm_cons (r := (.ofNat 0, .ofNat 4)) (c_mm_37_1 hL) (jm_cons (r := (.ofNat 5, .ofNat 5)) (c_mm_37_2 hL) (jm_cons (r := (.ofNat 6, .ofNat 6)) (c_mm_37_3 hL) (jm_cons (r := (.ofNat 7, .ofNat 7)) (c_mm_37_4 hL) (jm_cons (r := (.ofNat 8, .ofNat 2147483647)) (c_mm_37_5 hL) jm_nil)))))) (by decide +kernel)
def k_mm_37 : ct_C := ([(2, .ofNat 53, .ofNat 53), (0, .negSucc 2147483647, .ofNat 2147483647), (0, .negSucc 2147483647, .ofNat 2147483647), (0, .negSucc 2147483647, .ofNat 2147483647)], [(53, 14, .ofNat 37, .ofNat 37)], [(53, 13, .ofNat 0, .ofNat 29), (53, 14, .ofNat 0, .ofNat 40), (53, 15, .ofNat 0, .ofNat 40), (62, 37, .negSucc 2147483647, .ofNat 2147483647), (63, 37, .negSucc 2147483647, .ofNat 2147483647), (64, 37, .negSucc 2147483647, .ofNat 2147483647), (65, 37, .negSucc 2147483647, .ofNat 2147483647)], [54, 55, 56, 57, 58, 60, 61], (some (0, .negSucc 1999999999, .ofNat 143)), 4, false)
theorem s_mm_37 (M : Nat → Nat → Int) (hm : sx_mok cl_ly M) (hJ : JJ M) (hg : ct_g k_mm_37.2.1 M) : ∃ m ∈ [k_mn_37], ct_g m.2.1 M := by
  have hv : M 53 14 = 37 := by
    have h := hg (53, 14, .ofNat 37, .ofNat 37) List.mem_cons_self
    exact Int.le_antisymm h.2 h.1
  have hk := jr_kn hm
  have hu := jr_un hm
  have hd := hJ.2.2.1
  have he := hJ.2.2.2
  exact ⟨k_mn_37, List.mem_cons_self, (jc (by show (37 : Int) ≤ M 53 14; omega) (by show M 53 14 ≤ (37 : Int); omega) (jc (by show (0 : Int) ≤ M 53 15; omega) (by show M 53 15 ≤ (3 : Int); omega) jn))⟩
theorem c_mm_37 (hL : L < 2 ^ 31) : ci L xs 163 k_mm_37 :=
  ci_j_ok (ms := [k_mn_37]) (jl_cons (c_mn_37 hL) jl_nil) s_mm_37 (by decide +kernel)
def k_mm_38_0 : ct_C := ([(2, .ofNat 53, .ofNat 53), (0, .negSucc 2147483647, .ofNat 2147483647), (0, .negSucc 2147483647, .negSucc 0), (0, .negSucc 2147483647, .ofNat 2147483647)], [(53, 14, .ofNat 38, .ofNat 38), (53, 15, .ofNat 0, .ofNat 2)], [], [], (some (0, .negSucc 1999999999, .negSucc 1999999999)), 3, false)
theorem c_mm_38_0 (hL : L < 2 ^ 31) : ci L xs 163 k_mm_38_0 :=
  mi_ok (fc := 9000) (f := 9000) (cuts := []) (xk := jx) cl_lok cl_hrf (cl_hro L xs) hL jx_ok (by decide +kernel)
def k_mm_38_1 : ct_C := ([(2, .ofNat 53, .ofNat 53), (0, .negSucc 2147483647, .ofNat 2147483647), (0, .ofNat 0, .ofNat 4), (0, .negSucc 2147483647, .ofNat 2147483647)], [(53, 1, .ofNat 0, .ofNat 6), (53, 14, .ofNat 38, .ofNat 38), (53, 15, .ofNat 0, .ofNat 2)], [(53, 14, .ofNat 38, .ofNat 39), (53, 15, .ofNat 0, .ofNat 2), (62, 38, .negSucc 2147483647, .ofNat 2147483647), (63, 38, .negSucc 2147483647, .ofNat 2147483647), (64, 38, .negSucc 2147483647, .ofNat 2147483647), (65, 38, .negSucc 2147483647, .ofNat 2147483647)], [54, 55, 56, 57, 58], (some (0, .negSucc 1999999999, .ofNat 143)), 4, false)
theorem c_mm_38_1 (hL : L < 2 ^ 31) : ci L xs 163 k_mm_38_1 :=
  mi_ok (fc := 9000) (f := 9000) (cuts := []) (xk := jx) cl_lok cl_hrf (cl_hro L xs) hL jx_ok (by decide +kernel)
def k_mm_38_2 : ct_C := ([(2, .ofNat 53, .ofNat 53), (0, .negSucc 2147483647, .ofNat 2147483647), (0, .ofNat 5, .ofNat 5), (0, .negSucc 2147483647, .ofNat 2147483647)], [(53, 14, .ofNat 38, .ofNat 38), (53, 15, .ofNat 0, .ofNat 2)], [(53, 14, .ofNat 38, .ofNat 39), (53, 15, .ofNat 0, .ofNat 2), (62, 38, .negSucc 2147483647, .ofNat 2147483647), (63, 38, .negSucc 2147483647, .ofNat 2147483647), (64, 38, .negSucc 2147483647, .ofNat 2147483647), (65, 38, .negSucc 2147483647, .ofNat 2147483647)], [61], (some (0, .negSucc 1999999999, .ofNat 143)), 4, false)
theorem c_mm_38_2 (hL : L < 2 ^ 31) : ci L xs 163 k_mm_38_2 :=
  mi_ok (fc := 9000) (f := 9000) (cuts := []) (xk := jx) cl_lok cl_hrf (cl_hro L xs) hL jx_ok (by decide +kernel)
def k_mm_38_3 : ct_C := ([(2, .ofNat 53, .ofNat 53), (0, .negSucc 2147483647, .ofNat 2147483647), (0, .ofNat 6, .ofNat 6), (0, .negSucc 2147483647, .ofNat 2147483647)], [(53, 8, .ofNat 0, .ofNat 12), (53, 14, .ofNat 38, .ofNat 38), (53, 15, .ofNat 0, .ofNat 2)], [(53, 14, .ofNat 38, .ofNat 39), (53, 15, .ofNat 0, .ofNat 2), (62, 38, .negSucc 2147483647, .ofNat 2147483647), (63, 38, .negSucc 2147483647, .ofNat 2147483647), (64, 38, .negSucc 2147483647, .ofNat 2147483647), (65, 38, .negSucc 2147483647, .ofNat 2147483647)], [60], (some (0, .negSucc 1999999999, .ofNat 143)), 4, false)
theorem c_mm_38_3 (hL : L < 2 ^ 31) : ci L xs 163 k_mm_38_3 :=
  mi_ok (fc := 9000) (f := 9000) (cuts := []) (xk := jx) cl_lok cl_hrf (cl_hro L xs) hL jx_ok (by decide +kernel)
def k_mm_38_4 : ct_C := ([(2, .ofNat 53, .ofNat 53), (0, .negSucc 2147483647, .ofNat 2147483647), (0, .ofNat 7, .ofNat 7), (0, .negSucc 2147483647, .ofNat 2147483647)], [(53, 13, .ofNat 0, .ofNat 29), (53, 14, .ofNat 38, .ofNat 38), (53, 15, .ofNat 0, .ofNat 2)], [(53, 13, .ofNat 0, .ofNat 29), (53, 14, .ofNat 38, .ofNat 39), (53, 15, .ofNat 0, .ofNat 2), (62, 38, .negSucc 2147483647, .ofNat 2147483647), (63, 38, .negSucc 2147483647, .ofNat 2147483647), (64, 38, .negSucc 2147483647, .ofNat 2147483647), (65, 38, .negSucc 2147483647, .ofNat 2147483647)], [], (some (0, .negSucc 1999999999, .ofNat 29)), 4, false)
theorem c_mm_38_4 (hL : L < 2 ^ 31) : ci L xs 163 k_mm_38_4 :=
  mi_ok (fc := 9000) (f := 9000) (cuts := []) (xk := jx) cl_lok cl_hrf (cl_hro L xs) hL jx_ok (by decide +kernel)
def k_mm_38_5 : ct_C := ([(2, .ofNat 53, .ofNat 53), (0, .negSucc 2147483647, .ofNat 2147483647), (0, .ofNat 8, .ofNat 2147483647), (0, .negSucc 2147483647, .ofNat 2147483647)], [(53, 14, .ofNat 38, .ofNat 38), (53, 15, .ofNat 0, .ofNat 2)], [], [], (some (0, .negSucc 1999999999, .negSucc 1999999999)), 3, false)
theorem c_mm_38_5 (hL : L < 2 ^ 31) : ci L xs 163 k_mm_38_5 :=
  mi_ok (fc := 9000) (f := 9000) (cuts := []) (xk := jx) cl_lok cl_hrf (cl_hro L xs) hL jx_ok (by decide +kernel)
def k_mn_38 : ct_C := ([(2, .ofNat 53, .ofNat 53), (0, .negSucc 2147483647, .ofNat 2147483647), (0, .negSucc 2147483647, .ofNat 2147483647), (0, .negSucc 2147483647, .ofNat 2147483647)], [(53, 14, .ofNat 38, .ofNat 38), (53, 15, .ofNat 0, .ofNat 2)], [(53, 13, .ofNat 0, .ofNat 29), (53, 14, .ofNat 0, .ofNat 40), (53, 15, .ofNat 0, .ofNat 40), (62, 38, .negSucc 2147483647, .ofNat 2147483647), (63, 38, .negSucc 2147483647, .ofNat 2147483647), (64, 38, .negSucc 2147483647, .ofNat 2147483647), (65, 38, .negSucc 2147483647, .ofNat 2147483647)], [54, 55, 56, 57, 58, 60, 61], (some (0, .negSucc 1999999999, .ofNat 143)), 4, false)
theorem c_mn_38 (hL : L < 2 ^ 31) : ci L xs 163 k_mn_38 :=
  ci_a_ok (i := 2) (ms := [((.negSucc 2147483647, .negSucc 0), k_mm_38_0), ((.ofNat 0, .ofNat 4), k_mm_38_1), ((.ofNat 5, .ofNat 5), k_mm_38_2), ((.ofNat 6, .ofNat 6), k_mm_38_3), ((.ofNat 7, .ofNat 7), k_mm_38_4), ((.ofNat 8, .ofNat 2147483647), k_mm_38_5)]) (jm_cons (r := (.negSucc 2147483647, .negSucc 0)) (c_mm_38_0 hL) (jm_cons (r := (.ofNat 0, .ofNat 4)) (c_mm_38_1 hL) (jm_cons (r := (.ofNat 5, .ofNat 5)) (c_mm_38_2 hL) (jm_cons (r := (.ofNat 6, .ofNat 6)) (c_mm_38_3 hL) (jm_cons (r := (.ofNat 7, .ofNat 7)) (c_mm_38_4 hL) (jm_cons (r := (.ofNat 8, .ofNat 2147483647)) (c_mm_38_5 hL) jm_nil)))))) (by decide +kernel)
def k_mm_38 : ct_C := ([(2, .ofNat 53, .ofNat 53), (0, .negSucc 2147483647, .ofNat 2147483647), (0, .negSucc 2147483647, .ofNat 2147483647), (0, .negSucc 2147483647, .ofNat 2147483647)], [(53, 14, .ofNat 38, .ofNat 38)], [(53, 13, .ofNat 0, .ofNat 29), (53, 14, .ofNat 0, .ofNat 40), (53, 15, .ofNat 0, .ofNat 40), (62, 38, .negSucc 2147483647, .ofNat 2147483647), (63, 38, .negSucc 2147483647, .ofNat 2147483647), (64, 38, .negSucc 2147483647, .ofNat 2147483647), (65, 38, .negSucc 2147483647, .ofNat 2147483647)], [54, 55, 56, 57, 58, 60, 61], (some (0, .negSucc 1999999999, .ofNat 143)), 4, false)
theorem s_mm_38 (M : Nat → Nat → Int) (hm : sx_mok cl_ly M) (hJ : JJ M) (hg : ct_g k_mm_38.2.1 M) : ∃ m ∈ [k_mn_38], ct_g m.2.1 M := by
  have hv : M 53 14 = 38 := by
    have h := hg (53, 14, .ofNat 38, .ofNat 38) List.mem_cons_self
    exact Int.le_antisymm h.2 h.1
  have hk := jr_kn hm
  have hu := jr_un hm
  have hd := hJ.2.2.1
  have he := hJ.2.2.2
  exact ⟨k_mn_38, List.mem_cons_self, (jc (by show (38 : Int) ≤ M 53 14; omega) (by show M 53 14 ≤ (38 : Int); omega) (jc (by show (0 : Int) ≤ M 53 15; omega) (by show M 53 15 ≤ (2 : Int); omega) jn))⟩
theorem c_mm_38 (hL : L < 2 ^ 31) : ci L xs 163 k_mm_38 :=
  ci_j_ok (ms := [k_mn_38]) (jl_cons (c_mn_38 hL) jl_nil) s_mm_38 (by decide +kernel)
def k_mm_39_0 : ct_C := ([(2, .ofNat 53, .ofNat 53), (0, .negSucc 2147483647, .ofNat 2147483647), (0, .negSucc 2147483647, .negSucc 0), (0, .negSucc 2147483647, .ofNat 2147483647)], [(53, 14, .ofNat 39, .ofNat 39), (53, 15, .ofNat 0, .ofNat 1)], [], [], (some (0, .negSucc 1999999999, .negSucc 1999999999)), 3, false)
theorem c_mm_39_0 (hL : L < 2 ^ 31) : ci L xs 163 k_mm_39_0 :=
  mi_ok (fc := 9000) (f := 9000) (cuts := []) (xk := jx) cl_lok cl_hrf (cl_hro L xs) hL jx_ok (by decide +kernel)
def k_mm_39_1 : ct_C := ([(2, .ofNat 53, .ofNat 53), (0, .negSucc 2147483647, .ofNat 2147483647), (0, .ofNat 0, .ofNat 4), (0, .negSucc 2147483647, .ofNat 2147483647)], [(53, 1, .ofNat 0, .ofNat 6), (53, 14, .ofNat 39, .ofNat 39), (53, 15, .ofNat 0, .ofNat 1)], [(53, 14, .ofNat 39, .ofNat 40), (53, 15, .ofNat 0, .ofNat 1), (62, 39, .negSucc 2147483647, .ofNat 2147483647), (63, 39, .negSucc 2147483647, .ofNat 2147483647), (64, 39, .negSucc 2147483647, .ofNat 2147483647), (65, 39, .negSucc 2147483647, .ofNat 2147483647)], [54, 55, 56, 57, 58], (some (0, .negSucc 1999999999, .ofNat 143)), 4, false)
theorem c_mm_39_1 (hL : L < 2 ^ 31) : ci L xs 163 k_mm_39_1 :=
  mi_ok (fc := 9000) (f := 9000) (cuts := []) (xk := jx) cl_lok cl_hrf (cl_hro L xs) hL jx_ok (by decide +kernel)
def k_mm_39_2 : ct_C := ([(2, .ofNat 53, .ofNat 53), (0, .negSucc 2147483647, .ofNat 2147483647), (0, .ofNat 5, .ofNat 5), (0, .negSucc 2147483647, .ofNat 2147483647)], [(53, 14, .ofNat 39, .ofNat 39), (53, 15, .ofNat 0, .ofNat 1)], [(53, 14, .ofNat 39, .ofNat 40), (53, 15, .ofNat 0, .ofNat 1), (62, 39, .negSucc 2147483647, .ofNat 2147483647), (63, 39, .negSucc 2147483647, .ofNat 2147483647), (64, 39, .negSucc 2147483647, .ofNat 2147483647), (65, 39, .negSucc 2147483647, .ofNat 2147483647)], [61], (some (0, .negSucc 1999999999, .ofNat 143)), 4, false)
theorem c_mm_39_2 (hL : L < 2 ^ 31) : ci L xs 163 k_mm_39_2 :=
  mi_ok (fc := 9000) (f := 9000) (cuts := []) (xk := jx) cl_lok cl_hrf (cl_hro L xs) hL jx_ok (by decide +kernel)
def k_mm_39_3 : ct_C := ([(2, .ofNat 53, .ofNat 53), (0, .negSucc 2147483647, .ofNat 2147483647), (0, .ofNat 6, .ofNat 6), (0, .negSucc 2147483647, .ofNat 2147483647)], [(53, 8, .ofNat 0, .ofNat 12), (53, 14, .ofNat 39, .ofNat 39), (53, 15, .ofNat 0, .ofNat 1)], [(53, 14, .ofNat 39, .ofNat 40), (53, 15, .ofNat 0, .ofNat 1), (62, 39, .negSucc 2147483647, .ofNat 2147483647), (63, 39, .negSucc 2147483647, .ofNat 2147483647), (64, 39, .negSucc 2147483647, .ofNat 2147483647), (65, 39, .negSucc 2147483647, .ofNat 2147483647)], [60], (some (0, .negSucc 1999999999, .ofNat 143)), 4, false)
theorem c_mm_39_3 (hL : L < 2 ^ 31) : ci L xs 163 k_mm_39_3 :=
  mi_ok (fc := 9000) (f := 9000) (cuts := []) (xk := jx) cl_lok cl_hrf (cl_hro L xs) hL jx_ok (by decide +kernel)
def k_mm_39_4 : ct_C := ([(2, .ofNat 53, .ofNat 53), (0, .negSucc 2147483647, .ofNat 2147483647), (0, .ofNat 7, .ofNat 7), (0, .negSucc 2147483647, .ofNat 2147483647)], [(53, 13, .ofNat 0, .ofNat 29), (53, 14, .ofNat 39, .ofNat 39), (53, 15, .ofNat 0, .ofNat 1)], [(53, 13, .ofNat 0, .ofNat 29), (53, 14, .ofNat 39, .ofNat 40), (53, 15, .ofNat 0, .ofNat 1), (62, 39, .negSucc 2147483647, .ofNat 2147483647), (63, 39, .negSucc 2147483647, .ofNat 2147483647), (64, 39, .negSucc 2147483647, .ofNat 2147483647), (65, 39, .negSucc 2147483647, .ofNat 2147483647)], [], (some (0, .negSucc 1999999999, .ofNat 29)), 4, false)
theorem c_mm_39_4 (hL : L < 2 ^ 31) : ci L xs 163 k_mm_39_4 :=
  mi_ok (fc := 9000) (f := 9000) (cuts := []) (xk := jx) cl_lok cl_hrf (cl_hro L xs) hL jx_ok (by decide +kernel)
def k_mm_39_5 : ct_C := ([(2, .ofNat 53, .ofNat 53), (0, .negSucc 2147483647, .ofNat 2147483647), (0, .ofNat 8, .ofNat 2147483647), (0, .negSucc 2147483647, .ofNat 2147483647)], [(53, 14, .ofNat 39, .ofNat 39), (53, 15, .ofNat 0, .ofNat 1)], [], [], (some (0, .negSucc 1999999999, .negSucc 1999999999)), 3, false)
theorem c_mm_39_5 (hL : L < 2 ^ 31) : ci L xs 163 k_mm_39_5 :=
  mi_ok (fc := 9000) (f := 9000) (cuts := []) (xk := jx) cl_lok cl_hrf (cl_hro L xs) hL jx_ok (by decide +kernel)
def k_mn_39 : ct_C := ([(2, .ofNat 53, .ofNat 53), (0, .negSucc 2147483647, .ofNat 2147483647), (0, .negSucc 2147483647, .ofNat 2147483647), (0, .negSucc 2147483647, .ofNat 2147483647)], [(53, 14, .ofNat 39, .ofNat 39), (53, 15, .ofNat 0, .ofNat 1)], [(53, 13, .ofNat 0, .ofNat 29), (53, 14, .ofNat 0, .ofNat 40), (53, 15, .ofNat 0, .ofNat 40), (62, 39, .negSucc 2147483647, .ofNat 2147483647), (63, 39, .negSucc 2147483647, .ofNat 2147483647), (64, 39, .negSucc 2147483647, .ofNat 2147483647), (65, 39, .negSucc 2147483647, .ofNat 2147483647)], [54, 55, 56, 57, 58, 60, 61], (some (0, .negSucc 1999999999, .ofNat 143)), 4, false)
theorem c_mn_39 (hL : L < 2 ^ 31) : ci L xs 163 k_mn_39 :=
  ci_a_ok (i := 2) (ms := [((.negSucc 2147483647, .negSucc 0), k_mm_39_0), ((.ofNat 0, .ofNat 4), k_mm_39_1), ((.ofNat 5, .ofNat 5), k_mm_39_2), ((.ofNat 6, .ofNat 6), k_mm_39_3), ((.ofNat 7, .ofNat 7), k_mm_39_4), ((.ofNat 8, .ofNat 2147483647), k_mm_39_5)]) (jm_cons (r := (.negSucc 2147483647, .negSucc 0)) (c_mm_39_0 hL) (jm_cons (r := (.ofNat 0, .ofNat 4)) (c_mm_39_1 hL) (jm_cons (r := (.ofNat 5, .ofNat 5)) (c_mm_39_2 hL) (jm_cons (r := (.ofNat 6, .ofNat 6)) (c_mm_39_3 hL) (jm_cons (r := (.ofNat 7, .ofNat 7)) (c_mm_39_4 hL) (jm_cons (r := (.ofNat 8, .ofNat 2147483647)) (c_mm_39_5 hL) jm_nil)))))) (by decide +kernel)
def k_mm_39 : ct_C := ([(2, .ofNat 53, .ofNat 53), (0, .negSucc 2147483647, .ofNat 2147483647), (0, .negSucc 2147483647, .ofNat 2147483647), (0, .negSucc 2147483647, .ofNat 2147483647)], [(53, 14, .ofNat 39, .ofNat 39)], [(53, 13, .ofNat 0, .ofNat 29), (53, 14, .ofNat 0, .ofNat 40), (53, 15, .ofNat 0, .ofNat 40), (62, 39, .negSucc 2147483647, .ofNat 2147483647), (63, 39, .negSucc 2147483647, .ofNat 2147483647), (64, 39, .negSucc 2147483647, .ofNat 2147483647), (65, 39, .negSucc 2147483647, .ofNat 2147483647)], [54, 55, 56, 57, 58, 60, 61], (some (0, .negSucc 1999999999, .ofNat 143)), 4, false)
theorem s_mm_39 (M : Nat → Nat → Int) (hm : sx_mok cl_ly M) (hJ : JJ M) (hg : ct_g k_mm_39.2.1 M) : ∃ m ∈ [k_mn_39], ct_g m.2.1 M := by
  have hv : M 53 14 = 39 := by
    have h := hg (53, 14, .ofNat 39, .ofNat 39) List.mem_cons_self
    exact Int.le_antisymm h.2 h.1
  have hk := jr_kn hm
  have hu := jr_un hm
  have hd := hJ.2.2.1
  have he := hJ.2.2.2
  exact ⟨k_mn_39, List.mem_cons_self, (jc (by show (39 : Int) ≤ M 53 14; omega) (by show M 53 14 ≤ (39 : Int); omega) (jc (by show (0 : Int) ≤ M 53 15; omega) (by show M 53 15 ≤ (1 : Int); omega) jn))⟩
theorem c_mm_39 (hL : L < 2 ^ 31) : ci L xs 163 k_mm_39 :=
  ci_j_ok (ms := [k_mn_39]) (jl_cons (c_mn_39 hL) jl_nil) s_mm_39 (by decide +kernel)
def k_mm_40_0 : ct_C := ([(2, .ofNat 53, .ofNat 53), (0, .negSucc 2147483647, .ofNat 2147483647), (0, .negSucc 2147483647, .negSucc 0), (0, .negSucc 2147483647, .ofNat 2147483647)], [(53, 14, .ofNat 40, .ofNat 40), (53, 15, .ofNat 0, .ofNat 0)], [], [], (some (0, .negSucc 1999999999, .negSucc 1999999999)), 3, false)
theorem c_mm_40_0 (hL : L < 2 ^ 31) : ci L xs 163 k_mm_40_0 :=
  mi_ok (fc := 9000) (f := 9000) (cuts := []) (xk := jx) cl_lok cl_hrf (cl_hro L xs) hL jx_ok (by decide +kernel)
end
