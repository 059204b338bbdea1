/-! The reference's parser: the lines of a text, on the small machine. -/
section
variable {L : Nat} {xs : Nat → Int32} {M MM M0 M1 M2 M3 : Nat → Nat → Int} {ρ : Nat → Int} {Q : Option Value → (Nat → Nat → Int) → Prop}
def rt_lv : sx_L := [(0, 2, 0, 53), (1, 0, 0, 0)]
noncomputable def rt_t0 : sx_S := (mt_as [(0, (0, 0))] (mt_tr [])).2
noncomputable def rt_r1 (o : sx_P) : Bool := match o.1 with
  | some _ => false
  | none => sx_an (sx_an (Nat.beq o.2.1 28) (pc_sk o.2.2.2.1)) (sx_an (pc_lkv (0, 0) o.2.2.1) (sx_an (lw [69] [(22, (0, 0)), (23, (0, -1)), (24, (0, 0)), (25, (0, 0))] rt_t0 o.2.2.2.2) (lw_one o.2.2.2.2 69 (0, 1) (0, 0))))
theorem rt_c1 : gs_chk (fun pc => Nat.beq pc 28) rt_r1 400 400 47 174 0 rt_lv [] rt_t0 = true := by decide +kernel
def rt_cc : ct_C := ([(2, 53, 53)], [], [(53, 21, (0, 0)), (53, 23, sx_r32)], [], none, 60, false)
noncomputable def pc_lk3 (lv : sx_L) : Bool := sx_an (mt_nd (lv.map fun q => q.1)) (match mt_at [(0, 2, 53, 53), (1, 0, 0, 0), (2, 0, 0, 0)] lv with
  | some [p, q, w] => sx_an (sx_an (Nat.beq p.1 2) (sx_eq p.2.2 53)) (sx_an (sx_an (Nat.beq q.1 0) (sx_ae q.2 (0, 0))) (sx_an (Nat.beq w.1 0) (sx_ae w.2 (0, 0))))
  | _ => false)
noncomputable def rt_t21 (t : sx_S) : Bool := match jv t (53, 21) with
  | some v => sx_ae v (0, 0)
  | none => false
theorem rt_t21_ok {t : sx_S} (hs : sx_sat cl_ly (0, -100) xs L MM ρ M t) (h : rt_t21 t = true) : M 53 21 = 0 := by
  unfold rt_t21 at h
  cases e : jv t (53, 21) with
  | none => rw [e] at h; cases h
  | some v =>
    rw [e] at h
    have hv := (jv_ok hs (p := (53, 21)) (by decide) e).1
    rw [sx_ae_iff.mp h, sx_v0 hs] at hv
    exact hv
noncomputable def rt_r2 (o : sx_P) : Bool := match o.1 with
  | some none => false
  | some (some v) => sx_an (Nat.beq v.1 0) (sx_an (jin o.2.2.2.2 v.2 0 120) (sx_an (rt_t21 o.2.2.2.2) (mt_cells rt_cc (pz_t (0, 0)) o.2.2.2.2)))
  | none => bif Nat.beq o.2.1 58 then sx_an (sx_an (pc_sk o.2.2.2.1) (pc_lkv (0, 0) o.2.2.1)) (sx_an (jin o.2.2.2.2 (12, 0) (-1) (-1)) (pz_hd (pz_t (0, 0)) o.2.2.2.2)) else sx_an (sx_an (Nat.beq o.2.1 105) (Nat.beq o.2.2.2.1.length 0)) (sx_an (pc_lk3 o.2.2.1) (sx_an (jin o.2.2.2.2 (12, 0) (-1) (-1)) (sx_an (rt_t21 o.2.2.2.2) (mt_cells rt_cc (pz_t (0, 0)) o.2.2.2.2))))
def rt_st (pc : Nat) : Bool := bif Nat.beq pc 58 then true else Nat.beq pc 105
theorem rt_c2 : gs_chk rt_st rt_r2 400 400 47 174 31 rt_lv [] (pz_t (0, 0)) = true := by decide +kernel
theorem rt_c3 : gs_chk rt_st rt_r2 400 400 47 174 61 rt_lv [] (pz_t (0, 0)) = true := by decide +kernel
theorem rt_f28 : (sm_MT 174).2.2.2.2.2 28 = some (.invokevirtual 249, 3) := rfl
theorem rt_f58 : (sm_MT 174).2.2.2.2.2 58 = some (.invokevirtual 249, 3) := rfl
/-- taped becomes 0, no more; the fault perhaps -/
def rt_x (M M1 : Nat → Nat → Int) : Prop := sx_mok cl_ly M1 ∧ M1 53 21 = 0 ∧ (∀ i, i ≠ 21 → i ≠ 23 → M1 53 i = M 53 i) ∧ ∀ a, a < 128 → a ≠ 53 → M1 a = M a
theorem rt_x_ok {t0 t : sx_S} {ρ0 : Nat → Int} {M' : Nat → Nat → Int} (hs0 : sx_sat cl_ly (0, -100) xs L M ρ0 M t0) (hx : sx_ext t0.1 ρ0 ρ) (hs : sx_sat cl_ly (0, -100) xs L M ρ M' t) (h : mt_cells rt_cc t0 t = true) (h21 : M' 53 21 = 0) : rt_x M M' := by
  have fr := mt_cells_ok hs0 hx (fun _ _ _ _ _ => rfl) hs h
  refine ⟨hs.2.2.2.2.2.1, h21, fun i h1 h2 => fr 53 i (by decide) (fun hm => by cases hm) (fun g hg _ e => ?_), fun a ha hne => ?_⟩
  · simp only [rt_cc, List.mem_cons, List.not_mem_nil, or_false] at hg
    rcases hg with rfl | rfl
    · exact h1 e.symm
    · exact h2 e.symm
  · funext i
    refine fr a i ha (fun hm => by cases hm) (fun g hg e _ => ?_)
    simp only [rt_cc, List.mem_cons, List.not_mem_nil, or_false] at hg
    rcases hg with rfl | rfl <;> exact hne e.symm
end
