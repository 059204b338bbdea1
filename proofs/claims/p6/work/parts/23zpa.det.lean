/-! One run has one end: what two ways tell of it holds together. -/
section
variable {L : Nat} {xs : Nat → Int32} {M M' N N' M0 M1 M2 : Nat → Nat → Int} {k a i : Nat} {as : List Value} {v v' : Value} {g : sx_H}
theorem fd_run (h1 : lb_run L xs k as M v N) (h2 : lb_run L xs k as M v' N') : v = v' ∧ sx_HH cl_lay cl_rf N = sx_HH cl_lay cl_rf N' := by
  obtain ⟨F1, e1⟩ := h1
  obtain ⟨F2, e2⟩ := h2
  generalize sx_HH cl_lay cl_rf N = A at e1 ⊢
  generalize sx_HH cl_lay cl_rf N' = B at e2 ⊢
  generalize sx_HH cl_lay cl_rf M = C at e1 e2
  have e3 := sm_fuel e1 (Nat.le_max_left F1 F2)
  have e4 := sm_fuel e2 (Nat.le_max_right F1 F2)
  have e5 := e3.symm.trans e4
  have e6 := Prod.mk.inj (Option.some.inj e5)
  exact ⟨Option.some.inj e6.1, e6.2⟩
theorem fd_32 {x y : Int} (hx : sx_w sx_r32 x) (hy : sx_w sx_r32 y) (h : Int32.ofInt x = Int32.ofInt y) : x = y := by
  rw [← sx_i32 hx, ← sx_i32 hy, h]
theorem fd_cell (hH : sx_HH cl_lay cl_rf N = sx_HH cl_lay cl_rf N') (e : cl_ly a = some g) : sx_hc (N a) (cl_rf a) g = sx_hc (N' a) (cl_rf a) g := by
  have h1 := sx_HH_at (rf := cl_rf) (M := N) cl_lok e
  have h2 := sx_HH_at (rf := cl_rf) (M := N') cl_lok e
  rw [hH, h2] at h1
  exact (Option.some.inj h1).symm
/-- an element of an array of ints, bytes, shorts -/
theorem fd_arr (hH : sx_HH cl_lay cl_rf N = sx_HH cl_lay cl_rf N') (e : cl_ly a = some g) (h0 : g.1 = 0) (h1 : g.2.1 ≠ 1) (h4 : g.2.1 ≠ 4) (w : sx_w sx_r32 (N a i)) (w' : sx_w sx_r32 (N' a i)) : N a i = N' a i := by
  have h := fd_cell hH e
  unfold sx_hc at h
  rw [if_pos h0, if_pos h0, if_neg h1, if_neg h1, if_neg h4, if_neg h4] at h
  have h := (Prod.mk.inj (Prod.mk.inj (Sum.inl.inj h)).2).2
  have h := Sum.inl.inj h
  exact fd_32 w w' (congrFun h i)
/-- a field -/
theorem fd_fld (hH : sx_HH cl_lay cl_rf N = sx_HH cl_lay cl_rf N') (e : cl_ly a = some g) (h0 : g.1 ≠ 0) {q : Nat × (Int × Int) × Nat} (hq : g.2.2.2.2[i]? = some q) (h3 : q.1 ≠ 3) (h2 : q.1 ≠ 2) (w : sx_w sx_r32 (N a i)) (w' : sx_w sx_r32 (N' a i)) : N a i = N' a i := by
  have h := fd_cell hH e
  unfold sx_hc at h
  rw [if_neg h0, if_neg h0] at h
  have h := (Prod.mk.inj (Sum.inr.inj h)).2
  have h := congrArg (fun l => l[i]?) h
  have h : (g.2.2.2.2.mapIdx fun i q => sx_fv (N a i) q)[i]? = (g.2.2.2.2.mapIdx fun i q => sx_fv (N' a i) q)[i]? := h
  rw [List.getElem?_mapIdx, List.getElem?_mapIdx, hq] at h
  have h : some (sx_fv (N a i) q) = some (sx_fv (N' a i) q) := h
  have h := Option.some.inj h
  unfold sx_fv at h
  rw [if_neg h3, if_neg h3, if_neg h2, if_neg h2] at h
  exact fd_32 w w' (Value.int.inj h)
end
/-! All that both sides hold alike. -/
section
variable {L : Nat} {xs : Nat → Int32} {M M' N N' M0 M1 M2 : Nat → Nat → Int} {n lb sb : Nat}
/-- who stands, what is used, how often, what is led -/
def fs_S (M : Nat → Nat → Int) : Prop := M 9 6 = M 53 7 ∧ M 9 7 = M 53 11 ∧ (∀ h, h < 6 → M 12 h = M 74 h) ∧ ∀ k, k < 5 → M 13 k = M 82 k
/-- whose cards -/
def fs_O (M : Nat → Nat → Int) : Prop := ∀ c : Nat, (c : Int) < M 9 5 → M 59 c = M 11 c ∧ 0 ≤ M 11 c ∧ M 11 c < M 9 4
/-- sets of so many -/
def fs_b (z n : Int) : Prop := 0 ≤ z ∧ z < ((2 ^ n.toNat : Nat) : Int)
/-- the image -/
def fs_I (M : Nat → Nat → Int) : Prop := (M 34 4 = M 53 50 ∧ M 34 5 = M 53 51 ∧ M 34 6 = M 53 52 ∧ M 34 7 = M 53 53) ∧ (∀ h, h < 6 → M 35 h = M 83 h) ∧ (∀ k, k < 5 → M 36 k = M 84 k) ∧ fs_b (M 34 6) (M 34 4) ∧ fs_b (M 34 7) (M 34 5) ∧ M 34 4 ≤ M 9 4 ∧ M 34 5 ≤ M 9 5
/-- the tape, and the law in force -/
def fs_L (M : Nat → Nat → Int) : Prop := M 14 6 = M 53 21 ∧ ym_SS M ∧ vu_R M
def fs_X (M : Nat → Nat → Int) : Prop := fs_S M ∧ fs_O M ∧ fs_b (M 9 6) (M 9 4) ∧ fs_b (M 9 7) (M 9 5) ∧ fs_I M ∧ fs_L M
def fs_SS (M : Nat → Nat → Int) : Prop := bs_SS M ∧ fs_X M
theorem yj_W_M (e67 : M' 67 = M 67) (e68 : M' 68 = M 68) (e70 : M' 70 = M 70) (e71 : M' 71 = M 71) (l : Nat) : yj_W M' sb lb l = yj_W M sb lb l := by
  have el : ∀ k c, yr_L M' k c = yr_L M k c := fun k c => yr_L_on (fun i _ _ => by rw [e67, e68]; exact ⟨rfl, rfl⟩)
  unfold yj_W yj_f
  rw [e70, e71]
  simp only [el]
theorem yj_P_M (e67 : M' 67 = M 67) (e68 : M' 68 = M 68) (e70 : M' 70 = M 70) (e71 : M' 71 = M 71) : ∀ n, yj_P M' sb lb n = yj_P M sb lb n := by
  intro n
  induction n with
  | zero => rfl
  | succ n ih =>
    show yk_w3 (yj_P M' sb lb n) (yj_W M' sb lb n) = yk_w3 (yj_P M sb lb n) (yj_W M sb lb n)
    rw [ih, yj_W_M e67 e68 e70 e71]
theorem vu_M (e16 : M' 16 = M 16) (e7 : M' 14 7 = M 14 7) (e33 : M' 53 33 = M 53 33) (e67 : M' 67 = M 67) (e68 : M' 68 = M 68) (e69 : M' 69 = M 69) (e70 : M' 70 = M 70) (e71 : M' 71 = M 71) (h : vu_R M) : vu_R M' := by
  unfold vu_R yj_N at h ⊢
  rw [e16, e7, e33, e69, e70, e71, yj_P_M e67 e68 e70 e71]
  exact h
/-- cells and fields that all this rests on, beside numbers and shelves -/
def fs_zc : List Nat := [11, 12, 13, 15, 16, 35, 36, 59, 66, 67, 68, 69, 70, 71, 74, 82, 83, 84]
def fs_zp : List (Nat × Nat) := [(9, 4), (9, 5), (9, 6), (9, 7), (14, 6), (14, 7), (34, 4), (34, 5), (34, 6), (34, 7), (53, 7), (53, 11), (53, 21), (53, 33), (53, 50), (53, 51), (53, 52), (53, 53)]
theorem fs_fpX : lb_fp fs_zc fs_zp fs_X := by
  intro M M' h1 h2 hX
  obtain ⟨⟨s1, s2, s3, s4⟩, o, b1, b2, ⟨⟨i1, i2, i3, i4⟩, i5, i6, i7, i8, i9, i10⟩, l1, l2, l3⟩ := hX
  have z : ∀ a ∈ fs_zc, M' a = M a := h1
  have p : ∀ q ∈ fs_zp, M' q.1 q.2 = M q.1 q.2 := h2
  have p4 : M' 9 4 = M 9 4 := p (9, 4) (by decide)
  have p5 : M' 9 5 = M 9 5 := p (9, 5) (by decide)
  have p6 : M' 9 6 = M 9 6 := p (9, 6) (by decide)
  have p7 : M' 9 7 = M 9 7 := p (9, 7) (by decide)
  have q6 : M' 14 6 = M 14 6 := p (14, 6) (by decide)
  have q7 : M' 14 7 = M 14 7 := p (14, 7) (by decide)
  have k4 : M' 34 4 = M 34 4 := p (34, 4) (by decide)
  have k5 : M' 34 5 = M 34 5 := p (34, 5) (by decide)
  have k6 : M' 34 6 = M 34 6 := p (34, 6) (by decide)
  have k7 : M' 34 7 = M 34 7 := p (34, 7) (by decide)
  have m7 : M' 53 7 = M 53 7 := p (53, 7) (by decide)
  have m11 : M' 53 11 = M 53 11 := p (53, 11) (by decide)
  have m21 : M' 53 21 = M 53 21 := p (53, 21) (by decide)
  have m33 : M' 53 33 = M 53 33 := p (53, 33) (by decide)
  have m50 : M' 53 50 = M 53 50 := p (53, 50) (by decide)
  have m51 : M' 53 51 = M 53 51 := p (53, 51) (by decide)
  have m52 : M' 53 52 = M 53 52 := p (53, 52) (by decide)
  have m53 : M' 53 53 = M 53 53 := p (53, 53) (by decide)
  refine ⟨⟨?_, ?_, fun h hh => ?_, fun k hk => ?_⟩, fun c hc => ?_, ?_, ?_, ⟨⟨?_, ?_, ?_, ?_⟩, fun h hh => ?_, fun k hk => ?_, ?_, ?_, ?_, ?_⟩, ?_, fun i hi => ?_, ?_⟩
  · rw [p6, m7]; exact s1
  · rw [p7, m11]; exact s2
  · rw [z 12 (by decide), z 74 (by decide)]; exact s3 h hh
  · rw [z 13 (by decide), z 82 (by decide)]; exact s4 k hk
  · rw [p5] at hc
    rw [z 59 (by decide), z 11 (by decide), p4]
    exact o c hc
  · rw [p6, p4]; exact b1
  · rw [p7, p5]; exact b2
  · rw [k4, m50]; exact i1
  · rw [k5, m51]; exact i2
  · rw [k6, m52]; exact i3
  · rw [k7, m53]; exact i4
  · rw [z 35 (by decide), z 83 (by decide)]; exact i5 h hh
  · rw [z 36 (by decide), z 84 (by decide)]; exact i6 k hk
  · rw [k6, k4]; exact i7
  · rw [k7, k5]; exact i8
  · rw [k4, p4]; exact i9
  · rw [k5, p5]; exact i10
  · rw [q6, m21]; exact l1
  · rw [q6] at hi
    rw [z 66 (by decide), z 15 (by decide)]
    exact l2 i hi
  · exact vu_M (z 16 (by decide)) q7 m33 (z 67 (by decide)) (z 68 (by decide)) (z 69 (by decide)) (z 70 (by decide)) (z 71 (by decide)) l3
theorem fs_fp : lb_fp (bs_zc ++ fs_zc) (nm_zp ++ fs_zp) fs_SS := fun M M' h1 h2 h => ⟨bs_fp M M' (fun z hz => h1 z (List.mem_append_left _ hz)) (fun p hp => h2 p (List.mem_append_left _ hp)) h.1, fs_fpX M M' (fun z hz => h1 z (List.mem_append_right _ hz)) (fun p hp => h2 p (List.mem_append_right _ hp)) h.2⟩
theorem fs_S0 : fs_SS cl_M0 := by
  have h1 : sx_an (sx_eq (cl_M0 9 6) 0) (sx_an (sx_eq (cl_M0 53 7) 0) (sx_an (sx_eq (cl_M0 9 7) 0) (sx_an (sx_eq (cl_M0 53 11) 0) (sx_an (sx_eq (cl_M0 9 4) 0) (sx_an (sx_eq (cl_M0 9 5) 0) (sx_an (sx_eq (cl_M0 14 6) 0) (sx_eq (cl_M0 53 21) 0))))))) = true := by decide +kernel
  have h2 : sx_an (sx_eq (cl_M0 34 4) 0) (sx_an (sx_eq (cl_M0 53 50) 0) (sx_an (sx_eq (cl_M0 34 5) 0) (sx_an (sx_eq (cl_M0 53 51) 0) (sx_an (sx_eq (cl_M0 34 6) 0) (sx_an (sx_eq (cl_M0 53 52) 0) (sx_an (sx_eq (cl_M0 34 7) 0) (sx_eq (cl_M0 53 53) 0))))))) = true := by decide +kernel
  have h3 : ((List.range 6).all fun h => sx_an (sx_eq (cl_M0 12 h) (cl_M0 74 h)) (sx_eq (cl_M0 35 h) (cl_M0 83 h))) = true := by decide +kernel
  have h4 : ((List.range 5).all fun h => sx_an (sx_eq (cl_M0 13 h) (cl_M0 82 h)) (sx_eq (cl_M0 36 h) (cl_M0 84 h))) = true := by decide +kernel
  obtain ⟨a1, h1⟩ := sx_an_iff.mp h1
  obtain ⟨a2, h1⟩ := sx_an_iff.mp h1
  obtain ⟨a3, h1⟩ := sx_an_iff.mp h1
  obtain ⟨a4, h1⟩ := sx_an_iff.mp h1
  obtain ⟨a5, h1⟩ := sx_an_iff.mp h1
  obtain ⟨a6, h1⟩ := sx_an_iff.mp h1
  obtain ⟨a7, a8⟩ := sx_an_iff.mp h1
  obtain ⟨b1, h2⟩ := sx_an_iff.mp h2
  obtain ⟨b2, h2⟩ := sx_an_iff.mp h2
  obtain ⟨b3, h2⟩ := sx_an_iff.mp h2
  obtain ⟨b4, h2⟩ := sx_an_iff.mp h2
  obtain ⟨b5, h2⟩ := sx_an_iff.mp h2
  obtain ⟨b6, h2⟩ := sx_an_iff.mp h2
  obtain ⟨b7, b8⟩ := sx_an_iff.mp h2
  have a1 := sx_eq_iff.mp a1
  have a2 := sx_eq_iff.mp a2
  have a3 := sx_eq_iff.mp a3
  have a4 := sx_eq_iff.mp a4
  have a5 := sx_eq_iff.mp a5
  have a6 := sx_eq_iff.mp a6
  have a7 := sx_eq_iff.mp a7
  have a8 := sx_eq_iff.mp a8
  have b1 := sx_eq_iff.mp b1
  have b2 := sx_eq_iff.mp b2
  have b3 := sx_eq_iff.mp b3
  have b4 := sx_eq_iff.mp b4
  have b5 := sx_eq_iff.mp b5
  have b6 := sx_eq_iff.mp b6
  have b7 := sx_eq_iff.mp b7
  have b8 := sx_eq_iff.mp b8
  have z0 : fs_b 0 0 := ⟨Int.le_refl 0, by decide⟩
  refine ⟨bs_S0, ⟨a1.trans a2.symm, a3.trans a4.symm, fun h hh => ?_, fun k hk => ?_⟩, fun c hc => ?_, ?_, ?_, ⟨⟨b1.trans b2.symm, b3.trans b4.symm, b5.trans b6.symm, b7.trans b8.symm⟩, fun h hh => ?_, fun k hk => ?_, ?_, ?_, ?_, ?_⟩, a7.trans a8.symm, ym_S0, vu_0⟩
  · exact sx_eq_iff.mp (sx_an_iff.mp (List.all_eq_true.mp h3 h (List.mem_range.mpr hh))).1
  · exact sx_eq_iff.mp (sx_an_iff.mp (List.all_eq_true.mp h4 k (List.mem_range.mpr hk))).1
  · rw [a6] at hc
    omega
  · rw [a1, a5]; exact z0
  · rw [a3, a6]; exact z0
  · exact sx_eq_iff.mp (sx_an_iff.mp (List.all_eq_true.mp h3 h (List.mem_range.mpr hh))).2
  · exact sx_eq_iff.mp (sx_an_iff.mp (List.all_eq_true.mp h4 k (List.mem_range.mpr hk))).2
  · rw [b5, b1]; exact z0
  · rw [b7, b3]; exact z0
  · rw [b1, a5]; exact Int.le_refl 0
  · rw [b3, a6]; exact Int.le_refl 0
end
