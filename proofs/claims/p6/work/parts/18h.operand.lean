/-! The reference's parser: operand, put together. -/
section
variable {L : Nat} {xs : Nat → Int32} {M MM M0 M1 M2 M3 : Nat → Nat → Int} {ρ : Nat → Int}
theorem po_u_ok {z zz : Int} {d : Nat} (hL : L < 2 ^ 31) (hz : z = 3 ∨ z = 4) (hw : zz = 33 ∨ zz = 45) (hc : gs_chk (fun _ => false) (po_u z (zz, zz)) 400 400 d 181 58 [(0, 2, 0, 53), (1, 0, 9, 0)] [] (pz_t (zz, zz)) = true) (hP : ps_P M) (hD : po_D M M1) (hR : ps_R M1 M2) : ps_fin L xs 181 d 58 [(0, .ref 53), (1, .int (Int32.ofInt zz))] [] M M2 := by
  have hok := ps_okM (po_P hP hD) hR
  have w32 : sx_w sx_r32 zz := by rw [sx_r32_iff]; omega
  obtain ⟨ρ, s, r9, r10, r11, r12, r13, r14⟩ := pz_sat (xs := xs) (z := zz) (r := (zz, zz)) hL hok ⟨Int.le_refl _, Int.le_refl _⟩ w32
  obtain ⟨o, ρ', M3, rec, x1, x2, x3, x4⟩ := gs_use hc s (pz_okl s (by rw [r9]; exact w32) (Or.inr rfl)) (fun v hv => by cases hv)
  have el : sx_cl1 ρ [(0, 2, 0, 53), (1, 0, 9, 0)] = [(0, .ref 53), (1, .int (Int32.ofInt zz))] := by
    show [(0, Value.ref 53), (1, sx_cv1 ρ (0, 9, 0))] = _
    rw [gv_cv, r9]
  rw [el] at x4
  have y13 : ρ' 13 = M2 53 24 := by rw [x1 13 (show 13 < 15 by decide)]; exact r13
  have y14 : ρ' 14 = M2 53 25 := by rw [x1 14 (show 14 < 15 by decide)]; exact r14
  unfold po_u at rec
  split at rec
  · rename_i eo
    rcases x4 with ⟨r, w1, w2, F, w3⟩ | ⟨w1, -⟩
    · rw [eo] at w1
      cases w1
      obtain ⟨k1, k2⟩ := sx_an_iff.mp rec
      obtain ⟨f, v, n, -⟩ := pw_ok s x1 x3 k1
      have v24 : M3 53 24 = ρ' 13 + -1 := v (24, (13, -1)) (by simp)
      have v25 : M3 53 25 = ρ' 14 + 1 := v (25, (14, 1)) (by simp)
      have n22 := n 22 (by simp)
      have n23 := n 23 (by simp)
      have h14 : 0 ≤ M2 53 25 := hok.2.2.2.2.2.2.2.1
      obtain ⟨u1, -, -, u4⟩ := po_one_ok x3 (by omega) k2
      rw [y14] at u1 u4
      exact ⟨F, M3, w3, po_un hz hP hD hR x3.2.2.2.2.2.1 f n22 n23 (by omega) (by omega) u1 u4⟩
    · rw [eo] at w1; cases w1
  · cases rec
theorem po_k_ok {d : Nat} (hL : L < 2 ^ 31) (hc : gs_chk (fun _ => false) po_k 400 400 d 181 105 [(0, 2, 0, 53)] [] (pz_t (0, 0)) = true) (hP : ps_P M) (hD : po_D M M1) (hR : ps_R M1 M2) : ps_fin L xs 181 d 105 [(0, .ref 53)] [] M M2 := by
  have hok := ps_okM (po_P hP hD) hR
  obtain ⟨ρ, s, r9, r10, r11, r12, r13, r14⟩ := pz_sat (xs := xs) (z := 0) (r := (0, 0)) hL hok ⟨by decide, by decide⟩ sx_w0
  obtain ⟨o, ρ', M3, rec, x1, x2, x3, x4⟩ := gs_use hc s (pz_okl s (by rw [r9]; exact sx_w0) (Or.inl rfl)) (fun v hv => by cases hv)
  have el0 : sx_cl1 ρ [(0, 2, 0, 53)] = [(0, .ref 53)] := rfl
  rw [el0] at x4
  have y10 : ρ' 10 = M2 53 21 := by rw [x1 10 (show 10 < 15 by decide)]; exact r10
  have y11 : ρ' 11 = M2 53 22 := by rw [x1 11 (show 11 < 15 by decide)]; exact r11
  have y12 : sx_val ρ' (12, 0) = M2 53 23 := by
    unfold sx_val
    rw [x1 12 (show 12 < 15 by decide), r12]
    exact Int.add_zero _
  have y13 : ρ' 13 = M2 53 24 := by rw [x1 13 (show 13 < 15 by decide)]; exact r13
  unfold po_k at rec
  split at rec
  · rename_i eo
    rcases x4 with ⟨r, w1, w2, F, w3⟩ | ⟨w1, -⟩
    · rw [eo] at w1
      cases w1
      refine ⟨F, M3, w3, ?_⟩
      rcases jor rec with rec | rec
      · obtain ⟨k1, k2⟩ := sx_an_iff.mp rec
        have k2 := jin_ok x3 k2
        exact po_br0 hP hD hR (by omega) x3.2.2.2.2.2.1 (pz_same_ok x3 k1)
      · obtain ⟨k0, rec⟩ := sx_an_iff.mp rec
        have k0 := jin_ok x3 k0
        rcases jor rec with rec | rec
        · obtain ⟨f, v, n, m⟩ := pw_ok s x1 x3 rec
          have v23 : M3 53 23 = ρ' 11 + 0 := v (23, (11, 0)) (by simp)
          obtain ⟨m7, m8⟩ := m rfl
          exact po_br1 hP hD hR (by omega) x3.2.2.2.2.2.1 f (n 22 (by simp)) (by omega) (n 24 (by simp)) (n 25 (by simp)) m7 m8
        · obtain ⟨k1, k2⟩ := sx_an_iff.mp rec
          have k2 := po_lt_ok x3 k2
          obtain ⟨f, v, n, m⟩ := pw_ok s x1 x3 k1
          have v22 : M3 53 22 = ρ' 11 + 1 := v (22, (11, 1)) (by simp)
          have v24 : M3 53 24 = ρ' 13 + -1 := v (24, (13, -1)) (by simp)
          obtain ⟨m7, m8⟩ := m rfl
          exact po_br2 hP hD hR (by omega) x3.2.2.2.2.2.1 f (by omega) (by omega) (n 23 (by simp)) (by omega) (n 25 (by simp)) m7 m8
    · rw [eo] at w1; cases w1
  · cases rec
theorem po_f102 : (sm_MT 181).2.2.2.2.2 102 = some (.invokevirtual 231, 3) := rfl
theorem po_operand (hL : L < 2 ^ 31) {e : Nat} (he : e < 7) {ov : Int} (hov : ov = 6 - (e : Int)) (hO : e ≠ 0 → ps_S L xs 181 (6 * e + 3) (ov + 1)) (hE : e ≠ 0 → ps_S L xs 176 (6 * e + 3) (ov + 1)) : ps_S L xs 181 (6 * e + 4) ov := by
  intro M hP ho
  obtain ⟨ρ, s, r9, r10, r11, r12, r13, r14⟩ := pq_sat (xs := xs) hL hP
  obtain ⟨o, ρ', M1, rec, x1, x2, x3, x4⟩ := gs_use (List.all_eq_true.mp po_c0 e (List.mem_range.mpr he)) s (fun q hq => by
    rw [List.mem_singleton.mp hq]
    exact sx_ck2 s _) (fun v hv => by cases hv)
  have el0 : sx_cl1 ρ [(0, 2, 0, 53)] = [(0, .ref 53)] := rfl
  rw [el0] at x4
  have y10 : ρ' 10 = M 53 21 := by rw [x1 10 (show 10 < 15 by decide)]; exact r10
  have y11 : ρ' 11 = M 53 22 := by rw [x1 11 (show 11 < 15 by decide)]; exact r11
  have y13 : ρ' 13 = M 53 24 := by rw [x1 13 (show 13 < 15 by decide)]; exact r13
  have y14 : ρ' 14 = M 53 25 := by rw [x1 14 (show 14 < 15 by decide)]; exact r14
  have hP' := hP
  obtain ⟨p1, p2, p3, p4, p5, p6, p7, p8⟩ := hP'
  have m1 := x3.2.2.2.2.2.1
  unfold po_r at rec
  split at rec
  · rename_i eo
    rcases x4 with ⟨r, w1, w2, F, w3⟩ | ⟨w1, -⟩
    · rw [eo] at w1
      cases w1
      refine ⟨F, M1, w3, ?_⟩
      rcases jor rec with rec | rec
      · obtain ⟨k1, k3⟩ := sx_an_iff.mp rec
        obtain ⟨k1, k2⟩ := sx_an_iff.mp k1
        have k2 := po_lt_ok x3 k2
        obtain ⟨f, v, n, -⟩ := pw_ok s x1 x3 k1
        have v22 : M1 53 22 = ρ' 11 + 1 := v (22, (11, 1)) (by simp)
        have v25 : M1 53 25 = ρ' 14 + 1 := v (25, (14, 1)) (by simp)
        have n23 := n 23 (by simp)
        obtain ⟨u1, u2, u3, u4⟩ := po_one_ok x3 (by omega) k3
        rw [y14] at u1 u2 u3 u4
        exact po_leaf (n := 1) hP m1 f (by omega) (by omega) (by omega) (n 24 (by simp)) (by omega) (Or.inr ⟨u1, u2, u3⟩) u4 (Or.inl ⟨by omega, by omega⟩)
      · rcases jor rec with rec | rec
        · obtain ⟨f, v, n, m⟩ := pw_ok s x1 x3 rec
          have v23 : M1 53 23 = ρ' 11 + 0 := v (23, (11, 0)) (by simp)
          have n22 := n 22 (by simp)
          have n24 := n 24 (by simp)
          have n25 := n 25 (by simp)
          obtain ⟨m7, m8⟩ := m rfl
          exact ⟨m1, f, by omega, by omega, by omega, fun i _ => by rw [m7, m8]; exact ⟨rfl, rfl⟩, Or.inr ⟨by omega, by omega, by omega, by omega, by omega⟩⟩
        · obtain ⟨n, -, rec⟩ := List.any_eq_true.mp rec
          obtain ⟨k1, rec⟩ := sx_an_iff.mp rec
          obtain ⟨u1, u2, u3, u4⟩ := po_one_ok x3 (by omega) k1
          rw [y14] at u1 u4
          cases hn : Nat.beq n 0 with
          | true =>
            rw [hn] at rec
            obtain ⟨f, v, nn, -⟩ := pw_ok s x1 x3 (show pw true [(23, (11, 0)), (25, (14, 1))] pq_t o.2.2.2.2 = true from rec)
            have v23 : M1 53 23 = ρ' 11 + 0 := v (23, (11, 0)) (by simp)
            have v25 : M1 53 25 = ρ' 14 + 1 := v (25, (14, 1)) (by simp)
            have n22 := nn 22 (by simp)
            exact po_leaf (n := 0) hP m1 f (by omega) (by omega) (by omega) (nn 24 (by simp)) (by omega) (Or.inl u1) u4 (Or.inr (by omega))
          | false =>
            rw [hn] at rec
            have hn0 : n ≠ 0 := fun h => by rw [h] at hn; cases hn
            obtain ⟨k2, k3⟩ := sx_an_iff.mp rec
            have k2 : ρ' 11 < ρ' 10 + (1 - (n : Int)) := po_lt_ok x3 k2
            rcases jor k3 with k3 | k3
            · obtain ⟨f, v, nn, -⟩ := pw_ok s x1 x3 k3
              have v22 : M1 53 22 = ρ' 11 + (n : Int) := v (22, (11, Int.ofNat n)) (by simp)
              have v25 : M1 53 25 = ρ' 14 + 1 := v (25, (14, 1)) (by simp)
              have n23 := nn 23 (by simp)
              exact po_leaf (n := (n : Int)) hP m1 f (by omega) (by omega) (by omega) (nn 24 (by simp)) (by omega) (Or.inl u1) u4 (Or.inl ⟨by omega, by omega⟩)
            · obtain ⟨f, v, nn, -⟩ := pw_ok s x1 x3 k3
              have v22 : M1 53 22 = ρ' 11 + (n : Int) := v (22, (11, Int.ofNat n)) (by simp)
              have v23 : M1 53 23 = ρ' 11 + (n : Int) := v (23, (11, Int.ofNat n)) (by simp)
              have v25 : M1 53 25 = ρ' 14 + 1 := v (25, (14, 1)) (by simp)
              exact po_leaf (n := (n : Int)) hP m1 f (by omega) (by omega) (by omega) (nn 24 (by simp)) (by omega) (Or.inl u1) u4 (Or.inr (by omega))
    · rw [eo] at w1; cases w1
  · cases rec
  · rename_i eo
    have ok' : sx_okl ρ' o.2.2.2.2.1 o.2.2.1 := by
      rcases x4 with ⟨r, w1, -⟩ | ⟨-, -, w3, -⟩
      · rw [w1] at eo; cases eo
      · exact w3
    obtain ⟨k1, k4⟩ := sx_an_iff.mp rec
    obtain ⟨k1, k3⟩ := sx_an_iff.mp k1
    obtain ⟨k1, k5⟩ := sx_an_iff.mp k1
    obtain ⟨k1, k2⟩ := sx_an_iff.mp k1
    have k2 := po_lt_ok x3 k2
    have k5 := jin_ok x3 k5
    have y13v : sx_val ρ' (13, 0) = M 53 24 := by
      unfold sx_val
      show ρ' 13 + 0 = _
      omega
    obtain ⟨f, v, n, m⟩ := pw_ok s x1 x3 k1
    have v22 : M1 53 22 = ρ' 11 + 1 := v (22, (11, 1)) (by simp)
    have v24 : M1 53 24 = ρ' 13 + 1 := v (24, (13, 1)) (by simp)
    obtain ⟨m7, m8⟩ := m rfl
    have hT := ps_T f
    have hD : po_D M M1 := ⟨m1, f, by omega, by omega, n 23 (by simp), by omega, by omega, n 25 (by simp), m7, m8⟩
    have e0 : e ≠ 0 := by omega
    have hP1 := po_P hP hD
    have ho1 : M1 53 24 = ov + 1 := by omega
    cases h55 : Nat.beq o.2.1 55 with
    | true =>
      rw [h55] at k4
      obtain ⟨z, hz, hle⟩ := pc_lk1_ok x3 ok' (show pc_lk1 [33, 45] o.2.2.2.2 o.2.2.1 = true from k4)
      refine ps_cont eo (sx_nbeq.mp h55) hle (pc_sk_ok k3) x4 (ps_call (k := 181) (d := 6 * e + 3) po_f55 rfl (Nat.le_of_ble_eq_true rfl) (hO e0) hP1 ho1 (fun M2 hR2 => ?_))
      have hz : z = 33 ∨ z = 45 := by simpa using hz
      rcases hz with rfl | rfl
      · exact po_u_ok hL (Or.inl rfl) (Or.inl rfl) (List.all_eq_true.mp po_c1 e (List.mem_range.mpr he)) hP hD hR2
      · exact po_u_ok hL (Or.inr rfl) (Or.inr rfl) (List.all_eq_true.mp po_c2 e (List.mem_range.mpr he)) hP hD hR2
    | false =>
      rw [h55] at k4
      obtain ⟨k4, k6⟩ := sx_an_iff.mp (show sx_an (Nat.beq o.2.1 102) (pc_lk o.2.2.1) = true from k4)
      exact ps_cont eo (sx_nbeq.mp k4) (pc_lk_ok ok' k6) (pc_sk_ok k3) x4 (ps_call (k := 176) (d := 6 * e + 3) po_f102 rfl (Nat.le_of_ble_eq_true rfl) (hE e0) hP1 ho1 (fun M2 hR2 => po_k_ok hL (List.all_eq_true.mp po_c3 e (List.mem_range.mpr he)) hP hD hR2))
/-- all the parts, by how many may still be opened -/
theorem pe_all (hL : L < 2 ^ 31) : ∀ e : Nat, e < 7 → ps_S L xs 181 (6 * e + 4) (6 - (e : Int)) ∧ ps_S L xs 176 (6 * e + 9) (6 - (e : Int)) := by
  intro e
  have up : ∀ e : Nat, e < 7 → ps_S L xs 181 (6 * e + 4) (6 - (e : Int)) → ps_S L xs 181 (6 * e + 4) (6 - (e : Int)) ∧ ps_S L xs 176 (6 * e + 9) (6 - (e : Int)) := fun e he h => ⟨h, pe_either hL he (pe_both hL he (pe_compared hL he (pe_sum hL he (pe_product hL he h))))⟩
  induction e with
  | zero => exact fun he => up 0 he (po_operand hL he rfl (fun h => absurd rfl h) (fun h => absurd rfl h))
  | succ e ih =>
    intro he
    obtain ⟨i1, i2⟩ := ih (by omega)
    have eq : (6 - ((e + 1 : Nat) : Int)) + 1 = 6 - (e : Int) := by omega
    refine up (e + 1) he (po_operand hL he rfl (fun _ => ?_) (fun _ => ?_))
    · rw [eq]; exact ps_up i1 (by omega)
    · rw [eq]; exact i2
end
