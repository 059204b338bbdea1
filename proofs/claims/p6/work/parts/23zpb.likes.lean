/-! Questions: what they leave as it was; likes. -/
section
variable {L : Nat} {xs : Nat → Int32} {M M' M0 M1 M2 X Y : Nat → Nat → Int} {nc H t k d e : Nat} {z a b c : Int} {T : Int × (Nat → Int)} {Q R : Option Value → (Nat → Nat → Int) → Prop}
/-- what a question may touch -/
def fs_n (a : Nat) : Prop := ¬ (19 ≤ a ∧ a ≤ 31) ∧ a ≠ 53 ∧ a ≠ 72 ∧ a ≠ 73 ∧ ¬ (75 ≤ a ∧ a ≤ 81)
def fs_m (j : Nat) : Prop := j ≠ 35 ∧ j ≠ 36 ∧ j ≠ 42 ∧ ¬ (45 ≤ j ∧ j ≤ 47)
def fs_F (M M' : Nat → Nat → Int) : Prop := (∀ a, a < 128 → fs_n a → M' a = M a) ∧ ∀ j, fs_m j → M' 53 j = M 53 j
theorem fs_q (hz : ∀ M M' : Nat → Nat → Int, (∀ z ∈ cz_zs, M' z = M z) → WF M → WF M') (hI : la_I WF bs_cps M) (hS : fs_SS M) (hm : sx_mok cl_ly M2) (hF : fs_F M M2) : la_I WF bs_cps M2 ∧ fs_SS M2 := by
  have fc : ∀ u, u < 128 ∧ fs_n u → M2 u = M u := fun u hu => hF.1 u hu.1 hu.2
  refine ⟨⟨hm, fp_JJ M M2 (fun u hu => fc u ?_) (fun p hp => ?_) hI.2.1, hz M M2 (fun u hu => fc u ?_) hI.2.2.1, ?_, fun p hp => ?_⟩, fs_fp M M2 (fun u hu => fc u ?_) (fun p hp => ?_) hS⟩
  · have : ∀ u ∈ [33, 62, 63, 64, 65], u < 128 ∧ fs_n u := by unfold fs_n; decide +kernel
    exact this u hu
  · simp only [List.mem_cons, List.not_mem_nil, or_false] at hp
    rcases hp with rfl | rfl | rfl | rfl
    · show M2 32 1 = M 32 1
      rw [fc 32 (by unfold fs_n; decide)]
    · show M2 32 2 = M 32 2
      rw [fc 32 (by unfold fs_n; decide)]
    · exact hF.2 14 (by unfold fs_m; decide)
    · exact hF.2 15 (by unfold fs_m; decide)
  · have : ∀ u ∈ cz_zs, u < 128 ∧ fs_n u := by unfold fs_n; decide +kernel
    exact this u hu
  · rw [fc 10 (by unfold fs_n; decide)]
    exact hI.2.2.2.1
  · have h9 := hI.2.2.2.2 p hp
    have : ∀ p ∈ bs_cps, p.1.1 < 128 ∧ fs_n p.1.1 ∧ p.2.1.1 = 53 ∧ fs_m p.2.1.2 := by unfold fs_n fs_m; decide +kernel
    obtain ⟨t1, t2, t3, t4⟩ := this p hp
    rw [fc p.1.1 ⟨t1, t2⟩]
    rw [t3] at h9 ⊢
    rw [hF.2 p.2.1.2 t4]
    exact h9
  · have : ∀ u ∈ bs_zc ++ fs_zc, u < 128 ∧ fs_n u := by unfold fs_n; decide +kernel
    exact this u hu
  · have : ∀ p ∈ nm_zp ++ fs_zp, p.1 < 128 ∧ ((p.1 ≠ 53 ∧ fs_n p.1) ∨ (p.1 = 53 ∧ fs_m p.2)) := by unfold fs_n fs_m; decide +kernel
    obtain ⟨t1, t2⟩ := this p hp
    rcases t2 with ⟨t2, t3⟩ | ⟨t2, t3⟩
    · rw [fc p.1 ⟨t1, t3⟩]
    · rw [t2]
      exact hF.2 p.2 t3
theorem fs_toA (hI : la_I WF bs_cps M) (hS : fs_SS M) : ∃ nc H, fs_A M nc H := by
  obtain ⟨e1, e2, -, -, -, -, -⟩ := bs_eq hI
  have hH := cx_fld (c := 9) (k := 4) (lo := 0) (hi := 6) hI.1 (by decide +kernel)
  have hC := cx_fld (c := 9) (k := 5) (lo := 0) (hi := 12) hI.1 (by decide +kernel)
  obtain ⟨H, eH⟩ := Int.eq_ofNat_of_zero_le hH.1
  obtain ⟨nc, en⟩ := Int.eq_ofNat_of_zero_le hC.1
  obtain ⟨⟨-, ⟨n1, n2, n3⟩, -⟩, ⟨s1, s2, s3, -⟩, o, -⟩ := hS
  refine ⟨nc, H, ⟨en, by rw [← e2]; exact en, by omega, by rw [← e1]; exact eH, by omega⟩, fun c hc => ?_, fun h hh => ⟨?_, ?_, ?_, s3 h hh⟩, fun d hd => ?_, s1, s2⟩
  · obtain ⟨o1, o2, o3⟩ := o c (by omega)
    refine ⟨?_, o1, o2, by omega⟩
    rw [show c + 180 = 180 + c by omega]
    exact (n3 c (by omega) (by omega)).symm
  · rw [show h + 60 = 30 * 2 + h by omega]
    exact (n1 2 h (by decide) hh).symm
  · rw [show h + 90 = 30 * 3 + h by omega]
    exact (n1 3 h (by decide) hh).symm
  · rw [show h + 30 = 30 * 1 + h by omega]
    exact (n1 1 h (by decide) hh).symm
  · rw [show d + 150 = 150 + d by omega]
    exact (n2 d hd).symm
/-- a pair of calls: the same answer, and all that is held alike stays so -/
def fs_P (WF : (Nat → Nat → Int) → Prop) (L : Nat) (xs : Nat → Int32) (kd kx km : Nat) (ax am : List Value) (r : Int × Int) (M : Nat → Nat → Int) : Prop := ∃ z M1 M2, sx_w r z ∧ ((kd = 0 ∧ sx_w sx_r32 z) ∨ (kd = 1 ∧ sx_w sx_r64 z)) ∧ lb_run L xs kx ax M (lb_val kd z) M1 ∧ sx_mok cl_ly M1 ∧ lb_run L xs km am M1 (lb_val kd z) M2 ∧ sx_mok cl_ly M2 ∧ la_I WF bs_cps M2 ∧ fs_SS M2
/-- what the class's questions leave -/
def fs_x (M M' : Nat → Nat → Int) : Prop := ∀ a, a < 128 → ¬ (19 ≤ a ∧ a ≤ 31) → M' a = M a
def fs_y (M M' : Nat → Nat → Int) : Prop := (∀ a, a < 128 → a ≠ 53 → a ≠ 72 → a ≠ 73 → ¬ (75 ≤ a ∧ a ≤ 81) → M' a = M a) ∧ ∀ j, fs_m j → M' 53 j = M 53 j
theorem fs_xy (h1 : fs_x M M1) (h2 : fs_y M1 M2) : fs_F M M2 := by
  refine ⟨fun a ha h => ?_, fun j hj => ?_⟩
  · unfold fs_n at h
    rw [h2.1 a ha (by omega) (by omega) (by omega) (by omega)]
    exact h1 a ha (by omega)
  · rw [h2.2 j hj, h1 53 (by decide) (by decide)]
theorem fs_mk {kd kx km dx dm : Nat} {ax am : List Value} {r : Int × Int} (hz : ∀ M M' : Nat → Nat → Int, (∀ z ∈ cz_zs, M' z = M z) → WF M → WF M') (hI : la_I WF bs_cps M) (hS : fs_SS M) (hdx : dx ≤ 99) (hdm : dm ≤ 99) (hr : sx_w r z) (hk : (kd = 0 ∧ sx_w sx_r32 z) ∨ (kd = 1 ∧ sx_w sx_r64 z)) (h1 : rz_fin (fun v N => v = some (lb_val kd z) ∧ sx_mok cl_ly N ∧ fs_x M N ∧ rz_fin (fun v' N' => v' = some (lb_val kd z) ∧ sx_mok cl_ly N' ∧ fs_y N N') L xs km dm 0 (lv_args 0 am) [] N) L xs kx dx 0 (lv_args 0 ax) [] M) : fs_P WF L xs kd kx km ax am r M := by
  obtain ⟨F1, v1, M1, f1, rfl, m1, x1, h2⟩ := rz_d hdx h1
  obtain ⟨F2, v2, M2, f2, rfl, m2, y2⟩ := rz_d hdm h2
  obtain ⟨g1, g2⟩ := fs_q hz hI hS m2 (fs_xy x1 y2)
  exact ⟨z, M1, M2, hr, hk, ⟨F1, f1⟩, m1, ⟨F2, f2⟩, m2, g1, g2⟩
theorem pb_keep (hw : WF M) (hR : vu_R M) (h : pb_Q M none X) : WF X ∧ vu_R X := by
  obtain ⟨-, -, e, -⟩ := h
  refine ⟨WF_zs M X (fun k hk => ?_) hw, vu_M (e 16 (by decide) (by decide) (by decide)) (by rw [e 14 (by decide) (by decide) (by decide)]) (by rw [e 53 (by decide) (by decide) (by decide)]) (e 67 (by decide) (by decide) (by decide)) (e 68 (by decide) (by decide) (by decide)) (e 69 (by decide) (by decide) (by decide)) (e 70 (by decide) (by decide) (by decide)) (e 71 (by decide) (by decide) (by decide)) hR⟩
  simp only [cz_zs, List.mem_cons, List.not_mem_nil, or_false] at hk
  exact e k (by omega) (by omega) (by omega)
end
