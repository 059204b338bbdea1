/-! The reference's ask: the cards' number is at the end what it was. -/
section
variable {WF II : (Nat → Nat → Int) → Prop} {L : Nat} {xs : Nat → Int32}
def mk_c (n : Int) : ct_C := ([(2, .ofNat 53, .ofNat 53), (0, .negSucc 2147483647, .ofNat 2147483647)], [(53, 1, .ofNat 0, .ofNat 6), (53, 7, .negSucc 2147483647, .ofNat 2147483647), (53, 8, n, n), (53, 13, .ofNat 0, .ofNat 29)], [(53, 8, n, n), (53, 35, .negSucc 2147483647, .ofNat 2147483647), (53, 36, .negSucc 2147483647, .ofNat 2147483647)], [59, 60, 72, 73, 75, 76, 77], (some (0, .negSucc 1, .ofNat 29)), 11, true)
def mk_k (n : Int) : List mt_K := [(61, [(0, (2, .ofNat 53, .ofNat 53)), (1, (0, .ofNat 0, .ofNat 5)), (2, (0, .negSucc 1, .ofNat 29)), (3, (0, .ofNat 0, .ofNat 30))], [(53, 8, n + 1, n + 1), (53, 35, .negSucc 2147483647, .ofNat 2147483647), (53, 36, .negSucc 2147483647, .ofNat 2147483647)], [(53, 1, .ofNat 1, .ofNat 6), (53, 7, .negSucc 2147483647, .ofNat 2147483647), (53, 13, .ofNat 0, .ofNat 29)], [(.negSucc 0, 3)], .ofNat 30, none)]
theorem mk_all : ((List.range 12).all fun n => mt_chk cl_ly cl_rc sm_MT sm_LK cz_zs [(190, k_mgoTo)] 3000 3000 216 (mk_c n) (mk_k n)) = true := by decide +kernel
theorem mk_12 : mt_chk cl_ly cl_rc sm_MT sm_LK cz_zs [(190, k_mgoTo)] 3000 3000 216 (mk_c 12) [] = true := by decide +kernel
end
section
variable {WF : (Nat → Nat → Int) → Prop} {L : Nat} {xs : Nat → Int32} {M M' : Nat → Nat → Int}
theorem fp_JJ : lb_fp [33, 62, 63, 64, 65] [(32, 1), (32, 2), (53, 14), (53, 15)] JJ := by
  intro M M' h1 h2 hJ
  have e : ∀ z ∈ [33, 62, 63, 64, 65], M' z = M z := h1
  obtain ⟨j1, j2, j3, j4⟩ := JJ_iff.mp hJ
  refine JJ_iff.mpr ⟨by rw [h1 33 (by decide)]; exact j1, mJ_on j2 (fun a x y => h1 a ?_), ?_, ?_⟩
  · have : a = 62 ∨ a = 63 ∨ a = 64 ∨ a = 65 := by omega
    rcases this with rfl | rfl | rfl | rfl <;> decide
  · rw [h2 (32, 1) (by decide), h2 (32, 2) (by decide)]
    exact j3
  · rw [h2 (53, 14) (by decide), h2 (53, 15) (by decide)]
    exact j4
theorem fp_WF (hz : ∀ M M' : Nat → Nat → Int, (∀ z ∈ cz_zs, M' z = M z) → WF M → WF M') : lb_fp cz_zs [] WF := fun M M' h1 _ h => hz M M' h1 h
def k_maskS : ct_C := (k_mask.1, k_mask.2.1, [(53, 35, .negSucc 2147483647, .ofNat 2147483647), (53, 36, .negSucc 2147483647, .ofNat 2147483647)], k_mask.2.2.2.1, k_mask.2.2.2.2.1, 11, true)
theorem mk_cc (he : cc_env WF L xs) {n : Int} (h1 : 0 ≤ n) (h2 : n ≤ 12) : cc WF L xs 216 (mk_c n) := by
  rcases Int.lt_or_eq_of_le h2 with h3 | rfl
  · obtain ⟨k, rfl⟩ := Int.eq_ofNat_of_zero_le h1
    exact cc_ok he (cc_cons (c_mgoTo he) cc_nil) (List.all_eq_true.mp mk_all k (List.mem_range.mpr (by omega)))
  · exact cc_ok he (cc_cons (c_mgoTo he) cc_nil) mk_12
theorem mk_sp (he : cc_env WF L xs) : la_sp WF L xs 216 k_maskS := by
  intro d as M hd has hg hm hJ hW
  have g8 : sx_w (0, 12) (M 53 8) := hg (53, 8, .ofNat 0, .ofNat 12) (by simp [k_maskS, k_mask])
  obtain ⟨F, r, M', f1, f2, f3, f4, f5⟩ := mk_cc he g8.1 g8.2 d as M hd has (fun g hg' => by
    simp only [mk_c, List.mem_cons, List.not_mem_nil, or_false] at hg'
    rcases hg' with rfl | rfl | rfl | rfl
    · exact hg (53, 1, .ofNat 0, .ofNat 6) (by simp [k_maskS, k_mask])
    · exact hg (53, 7, .negSucc 2147483647, .ofNat 2147483647) (by simp [k_maskS, k_mask])
    · exact ⟨Int.le_refl _, Int.le_refl _⟩
    · exact hg (53, 13, .ofNat 0, .ofNat 29) (by simp [k_maskS, k_mask])) hm (fun _ => hW)
  have e8 : M' 53 8 = M 53 8 := by
    have := f4 (53, 8, M 53 8, M 53 8) (by simp [mk_c])
    exact Int.le_antisymm this.2 this.1
  have fr : ct_fr k_maskS M M' := by
    intro a i ha h1 h2
    by_cases h : a = 53 ∧ i = 8
    · rw [h.1, h.2]; exact e8
    · refine f3 a i ha h1 (fun g hg' e => ?_)
      simp only [mk_c, List.mem_cons, List.not_mem_nil, or_false] at hg'
      rcases hg' with rfl | rfl | rfl
      · exact fun e8 => h ⟨e.symm, e8.symm⟩
      · exact h2 (53, 35, .negSucc 2147483647, .ofNat 2147483647) (by simp [k_maskS]) e
      · exact h2 (53, 36, .negSucc 2147483647, .ofNat 2147483647) (by simp [k_maskS]) e
  refine ⟨F, r, M', f1, f2, fr, fun g hg' => ?_, f5, lb_cu_ok fp_JJ (by decide +kernel) fr hJ, lb_cu_ok (fp_WF he.2.1) (by decide +kernel) fr hW⟩
  simp only [k_maskS, List.mem_cons, List.not_mem_nil, or_false] at hg'
  rcases hg' with rfl | rfl
  · exact f4 (53, 35, .negSucc 2147483647, .ofNat 2147483647) (by simp [mk_c])
  · exact f4 (53, 36, .negSucc 2147483647, .ofNat 2147483647) (by simp [mk_c])
end
