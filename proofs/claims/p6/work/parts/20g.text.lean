/-! The reference's parser: from line to line. -/
section
variable {L : Nat} {xs : Nat → Int32} {M MM M0 M1 M2 M3 : Nat → Nat → Int} {t : sx_S} {ρ : Nat → Int} {Q : Option Value → (Nat → Nat → Int) → Prop}
theorem lz_ok (hP : ps_P M) (h : lz_R M M1) : pz_ok M1 := by
  obtain ⟨p1, p2, p3, p4, p5, p6, p7, p8⟩ := hP
  obtain ⟨a1, a2, a3, a4, a5, a6, a7, a8, a9, a10⟩ := h
  have t := lz_T a2
  have hT := pz_T a1
  refine ⟨a1, by omega, by omega, ?_, ?_, ?_, ?_, by omega, ?_⟩
  all_goals rcases a10 with ⟨k1, k2, k3, k4, -⟩ | ⟨k1, k2, k3, k4, k5⟩ <;> omega
theorem pc_lk3_ok {n : Nat} {lv : sx_L} (h0 : ρ 0 = 0) (hl : sx_okl ρ n lv) (h : pc_lk3 lv = true) : lo_le [(0, .ref 53), (1, .int (Int32.ofInt 0)), (2, .int (Int32.ofInt 0))] (sx_cl1 ρ lv) := by
  obtain ⟨h1, h2⟩ := sx_an_iff.mp h
  cases e : mt_at [(0, 2, 53, 53), (1, 0, 0, 0), (2, 0, 0, 0)] lv with
  | none => rw [e] at h2; cases h2
  | some vs =>
    rw [e] at h2
    match vs, h2, e with
    | [p, q, w], h2, e =>
      obtain ⟨-, a2⟩ := mt_at_ok hl e
      obtain ⟨k1, k2⟩ := sx_an_iff.mp h2
      obtain ⟨k1, k3⟩ := sx_an_iff.mp k1
      obtain ⟨k2, k5⟩ := sx_an_iff.mp k2
      obtain ⟨k2, k4⟩ := sx_an_iff.mp k2
      obtain ⟨k5, k6⟩ := sx_an_iff.mp k5
      refine ⟨by show ([0, 1, 2] : List Nat).Nodup; decide, mt_cl_nd (mt_nd_ok h1), ?_⟩
      have z0 : sx_val ρ (0, 0) = 0 := by
        unfold sx_val
        show ρ 0 + 0 = 0
        omega
      have ez : mt_zv [(0, 2, 53, 53), (1, 0, 0, 0), (2, 0, 0, 0)] (sx_cs1 ρ [p, q, w]) = [(0, .ref 53), (1, .int (Int32.ofInt 0)), (2, .int (Int32.ofInt 0))] := by
        show [(0, sx_cv1 ρ p), (1, sx_cv1 ρ q), (2, sx_cv1 ρ w)] = _
        rw [sx_cvk2 (sx_nbeq.mp k1), sx_eq_iff.mp k3, sx_cvk0 (sx_nbeq.mp k2), sx_ae_iff.mp k4, sx_cvk0 (sx_nbeq.mp k5), sx_ae_iff.mp k6, z0]
        rfl
      intro k v hv
      rw [← ez] at hv
      exact a2 k v hv
theorem rt_okl {n : Nat} (hs : sx_sat cl_ly (0, -100) xs L MM ρ M t) (hn : 0 < n) (hc : sx_ok ρ n (2, 0, 53)) : sx_okl ρ n rt_lv := by
  intro q hq
  simp only [rt_lv, List.mem_cons, List.not_mem_nil, or_false] at hq
  rcases hq with rfl | rfl
  · exact hc
  · exact ⟨hn, fun _ => by
      show sx_w sx_r32 (ρ 0 + 0)
      rw [hs.2.1]
      exact sx_w0, fun h => by cases h⟩
/-- behind a line: a ; and the next line, a fault, or the end -/
theorem rt_after {pc : Nat} (hL : L < 2 ^ 31) (hpc : pc = 31 ∨ pc = 61) (hok : pz_ok M) (kend : ∀ (r : Int) (M' : Nat → Nat → Int), 0 ≤ r → r ≤ 120 → rt_x M M' → Q (some (.int (Int32.ofInt r))) M') (kcopy : ∀ M', M 53 23 = -1 → rt_x M M' → rz_fin Q L xs 174 47 105 [(0, .ref 53), (1, .int (Int32.ofInt 0)), (2, .int (Int32.ofInt 0))] [] M') (ksemi : ∀ M', M 53 23 = -1 → ps_hd M M' → rz_fin Q L xs 174 47 58 [(0, .ref 53), (1, .int (Int32.ofInt 0))] [.ref 53] M') : rz_fin Q L xs 174 47 pc [(0, .ref 53), (1, .int (Int32.ofInt 0))] [] M := by
  obtain ⟨ρ, s, r9, r10, r11, r12, r13, r14⟩ := pz_sat (xs := xs) (z := 0) (r := (0, 0)) hL hok ⟨by decide, by decide⟩ sx_w0
  have hc : gs_chk rt_st rt_r2 400 400 47 174 pc rt_lv [] (pz_t (0, 0)) = true := by
    rcases hpc with rfl | rfl
    · exact rt_c2
    · exact rt_c3
  obtain ⟨o, ρ', M1, rec, x1, x2, x3, x4⟩ := gs_use hc s (rt_okl s (show 0 < 15 by decide) (sx_ck2 s _)) (fun v hv => by cases hv)
  have z0 : sx_val ρ (0, 0) = 0 := sx_v0 s 0
  have el : sx_cl1 ρ rt_lv = [(0, .ref 53), (1, .int (Int32.ofInt 0))] := by
    show [(0, Value.ref 53), (1, sx_cv1 ρ (0, 0, 0))] = _
    rw [sx_cvk0 (v := (0, 0, 0)) rfl, z0]
  rw [el] at x4
  have y12 : sx_val ρ' (12, 0) = M 53 23 := by
    unfold sx_val
    rw [x1 12 (show 12 < 15 by decide), r12]
    exact Int.add_zero _
  have z0' : sx_val ρ' (0, 0) = 0 := sx_v0 x3 0
  unfold rt_r2 at rec
  split at rec
  · cases rec
  · rename_i v eo
    rcases x4 with ⟨r, w1, w2, F, w3⟩ | ⟨w1, -⟩
    · rw [eo] at w1
      cases w1
      obtain ⟨k1, k2⟩ := sx_an_iff.mp rec
      obtain ⟨k2, k3⟩ := sx_an_iff.mp k2
      obtain ⟨k3, k4⟩ := sx_an_iff.mp k3
      have k2 := jin_ok x3 k2
      refine ⟨F, _, M1, w3, ?_⟩
      show Q (some (sx_cv1 ρ' v)) M1
      rw [sx_cvk0 (sx_nbeq.mp k1)]
      exact kend _ M1 (by omega) (by omega) (rt_x_ok s x1 x3 k4 (rt_t21_ok x3 k3))
    · rw [eo] at w1; cases w1
  · rename_i eo
    have ok' : sx_okl ρ' o.2.2.2.2.1 o.2.2.1 := by
      rcases x4 with ⟨r, w1, -⟩ | ⟨-, -, w3, -⟩
      · rw [w1] at eo; cases eo
      · exact w3
    cases h58 : Nat.beq o.2.1 58 with
    | true =>
      rw [h58] at rec
      obtain ⟨k1, k2⟩ := sx_an_iff.mp (show sx_an (sx_an (pc_sk o.2.2.2.1) (pc_lkv (0, 0) o.2.2.1)) (sx_an (jin o.2.2.2.2 (12, 0) (-1) (-1)) (pz_hd (pz_t (0, 0)) o.2.2.2.2)) = true from rec)
      obtain ⟨k1, k3⟩ := sx_an_iff.mp k1
      obtain ⟨k2, k4⟩ := sx_an_iff.mp k2
      have k2 := jin_ok x3 k2
      have hle := pc_lkv_ok ok' k3
      rw [z0'] at hle
      exact rz_cont eo (sx_nbeq.mp h58) hle (pc_sk_ok k1) x4 (ksemi M1 (by omega) (pz_hd_ok s x1 x3 r10 r11 k4))
    | false =>
      rw [h58] at rec
      obtain ⟨k1, k2⟩ := sx_an_iff.mp (show sx_an (sx_an (Nat.beq o.2.1 105) (Nat.beq o.2.2.2.1.length 0)) (sx_an (pc_lk3 o.2.2.1) (sx_an (jin o.2.2.2.2 (12, 0) (-1) (-1)) (sx_an (rt_t21 o.2.2.2.2) (mt_cells rt_cc (pz_t (0, 0)) o.2.2.2.2)))) = true from rec)
      obtain ⟨k1, k3⟩ := sx_an_iff.mp k1
      obtain ⟨k2, k4⟩ := sx_an_iff.mp k2
      obtain ⟨k4, k5⟩ := sx_an_iff.mp k4
      obtain ⟨k5, k6⟩ := sx_an_iff.mp k5
      have k4 := jin_ok x3 k4
      exact rz_cont eo (sx_nbeq.mp k1) (pc_lk3_ok x3.2.1 ok' k2) (by rw [List.eq_nil_of_length_eq_zero (sx_nbeq.mp k3)]; rfl) x4 (kcopy M1 (by omega) (rt_x_ok s x1 x3 k6 (rt_t21_ok x3 k5)))
/-- the lines of a text, from the call of the first or of one behind a ; -/
theorem rt_lines (hL : L < 2 ^ 31) (kend : ∀ (r : Int) (M M' : Nat → Nat → Int), 0 ≤ r → r ≤ 120 → rt_B M0 M → rt_x M M' → Q (some (.int (Int32.ofInt r))) M') (kcopy : ∀ (n : Nat) (M M' : Nat → Nat → Int), rt_I 1 M0 M n → rt_x M M' → rz_fin Q L xs 174 47 105 [(0, .ref 53), (1, .int (Int32.ofInt 0)), (2, .int (Int32.ofInt 0))] [] M') : ∀ (m n : Nat) (M : Nat → Nat → Int) (pc : Nat), (pc = 28 ∨ pc = 58) → rt_I 0 M0 M n → (60 - n : Nat) = m → rz_fin Q L xs 174 47 pc [(0, .ref 53), (1, .int (Int32.ofInt 0))] [.ref 53] M := by
  have le60 : ∀ {n : Nat} {M : Nat → Nat → Int}, rt_I 0 M0 M n → n ≤ 60 := fun {n M} h => by
    obtain ⟨-, ⟨p1, p2, p3, p4, -⟩, -, -, i3, -⟩ := h
    have := pz_T p1
    omega
  have step : ∀ (n : Nat) (M : Nat → Nat → Int) (pc : Nat), (pc = 28 ∨ pc = 58) → rt_I 0 M0 M n → (∀ M', rt_I 0 M0 M' (n + 1) → rz_fin Q L xs 174 47 58 [(0, .ref 53), (1, .int (Int32.ofInt 0))] [.ref 53] M') → rz_fin Q L xs 174 47 pc [(0, .ref 53), (1, .int (Int32.ofInt 0))] [.ref 53] M := by
    intro n M pc hpc hI next
    have hn := le60 hI
    have hP : ps_P M := hI.2.1
    have hS : ∃ F M', sm_run sm_MT sm_LK (sm_RO L xs) sm_NV sm_cq F 46 175 0 [(0, .ref 53)] [] (sx_HH cl_lay cl_rf M) = some (none, sx_HH cl_lay cl_rf M') ∧ lz_R M M' := by
      obtain ⟨F, r, M', e, rfl, e1⟩ := lz_line (xs := xs) hL hP hI.2.2.1 (by have := hI.2.2.2.1; omega)
      exact ⟨F, M', e, e1⟩
    have hf : (sm_MT 174).2.2.2.2.2 pc = some (.invokevirtual 249, 3) := by
      rcases hpc with rfl | rfl
      · exact rt_f28
      · exact rt_f58
    refine rz_call (k := 175) (d := 46) (R := lz_R M) hf rfl (Nat.le_of_ble_eq_true rfl) hS (fun M1 hR => ?_)
    obtain ⟨hB, hI1⟩ := rt_line hI hR
    exact rt_after hL (by omega) (lz_ok hP hR) (fun r M' h1 h2 hx => kend r M1 M' h1 h2 hB hx) (fun M' hf hx => by
      rcases hI1 with ⟨-, h⟩ | ⟨h, -⟩
      · exact kcopy (n + 1) M1 M' h hx
      · omega) (fun M' hf hh => by
      rcases hI1 with ⟨-, h⟩ | ⟨h, -⟩
      · exact next M' (rt_semi h hh)
      · omega)
  intro m
  induction m with
  | zero =>
    intro n M pc hpc hI hm
    exact step n M pc hpc hI (fun M' hI' => by
      have := le60 hI'
      omega)
  | succ m ih =>
    intro n M pc hpc hI hm
    exact step n M pc hpc hI (fun M' hI' => ih (n + 1) M' 58 (Or.inr rfl) hI' (by omega))
end
