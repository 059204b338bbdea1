/-! The reference's parser: what a chain does. -/
section
variable {L : Nat} {xs : Nat → Int32} {M MM M0 M1 : Nat → Nat → Int} {ρ : Nat → Int}
theorem ps_chA {j k d pc2 ix1 ix2 : Nat} {ov : Int} {zs : List Int} {r : Int × Int} {ret : Bool} (hL : L < 2 ^ 31) (f0 : (sm_MT j).2.2.2.2.2 0 = some (.aload_n 0, 1)) (f1 : (sm_MT j).2.2.2.2.2 1 = some (.invokevirtual ix1, 3)) (c1 : sx_call cl_ly (sm_LK (sm_MT j).1) (fun k => (sm_MT k).2.2.2.1) (.invokevirtual ix1) [(2, 0, 53)] = some (k, [(2, 0, 53)], [])) (f2 : (sm_MT j).2.2.2.2.2 pc2 = some (.invokevirtual ix2, 3)) (c2 : sx_call cl_ly (sm_LK (sm_MT j).1) (fun k => (sm_MT k).2.2.2.1) (.invokevirtual ix2) [(2, 0, 53)] = some (k, [(2, 0, 53)], [])) (hk1 : 1 ≤ (sm_MT k).2.1) (h1 : gs_chk (fun pc => Nat.beq pc pc2) (pc_r1 pc2 (some zs)) 400 400 (d + 1) j 4 [(0, 2, 0, 53)] [] (pz_t (0, 0)) = true) (h2 : gs_chk (fun pc => Nat.beq pc 4) (pc_r2 ret (9, 0) r) 400 400 (d + 1) j (pc2 + 3) [(0, 2, 0, 53), (1, 0, 9, 0)] [] (pz_t r) = true) (hzs : ∀ z ∈ zs, r.1 ≤ z ∧ z ≤ r.2 ∧ z ≠ 1 ∧ z ≠ 2 ∧ z ≠ 3 ∧ z ≠ 4) (hr : -2147483648 ≤ r.1 ∧ r.2 ≤ 2147483647) (hS : ps_S L xs k d ov) : ps_S L xs j (d + 1) ov := by
  intro M hP ho
  have step : ∀ (M1 : Nat → Nat → Int), ps_R M M1 → (∀ M4, ps_R M M4 → M1 53 22 < M4 53 22 → ps_fin L xs j (d + 1) 4 [(0, .ref 53)] [] M M4) → ps_fin L xs j (d + 1) 4 [(0, .ref 53)] [] M M1 := by
    intro M1 hR ih
    have hok := ps_okM hP hR
    obtain ⟨ρ, s, r9, r10, r11, r12, r13, r14⟩ := pz_sat (xs := xs) (z := 0) (r := (0, 0)) hL hok ⟨by decide, by decide⟩ sx_w0
    obtain ⟨o, ρ', M2, rec, x1, x2, x3, x4⟩ := gs_use h1 s (pz_okl s (by rw [r9]; exact sx_w0) (Or.inl rfl)) (fun v hv => by cases hv)
    have el0 : sx_cl1 ρ [(0, 2, 0, 53)] = [(0, .ref 53)] := rfl
    rw [el0] at x4
    unfold pc_r1 at rec
    rcases jor rec with rec | rec
    · unfold pc_rt at rec
      split at rec
      · rename_i e
        rcases x4 with ⟨r, w1, w2, F, w3⟩ | ⟨w1, -⟩
        · rw [e] at w1
          cases w1
          exact ⟨F, M2, w3, ps_R_same hR x3.2.2.2.2.2.1 (pz_same_ok x3 rec)⟩
        · rw [e] at w1; cases w1
      · cases rec
    · cases eo : o.1 with
      | some r => rw [eo] at rec; cases rec
      | none =>
        rw [eo] at rec
        obtain ⟨k1, k2⟩ := sx_an_iff.mp rec
        obtain ⟨k1, k3⟩ := sx_an_iff.mp k1
        obtain ⟨k2, k6⟩ := sx_an_iff.mp k2
        obtain ⟨k4, k5⟩ := sx_an_iff.mp k2
        have ok' : sx_okl ρ' o.2.2.2.2.1 o.2.2.1 := by
          rcases x4 with ⟨r, w1, -⟩ | ⟨-, -, w3, -⟩
          · rw [w1] at eo; cases eo
          · exact w3
        have ok' : sx_okl ρ' o.2.2.2.2.1 o.2.2.1 ∧ True := ⟨ok', trivial⟩
        have hd := pz_hd_ok s x1 x3 r10 r11 k5
        have f12 := jin_ok x3 k4
        have hf1 : M1 53 23 = -1 := by
          have : sx_val ρ' (12, 0) = M1 53 23 := by
            unfold sx_val
            rw [x1 12 (show 12 < 15 by decide), r12]
            exact Int.add_zero _
          omega
        have hP2 := ps_next hP hR hf1 hd
        have ho2 : M2 53 24 = ov := by
          obtain ⟨-, -, -, -, -, b6, -⟩ := hd
          obtain ⟨-, -, -, -, -, -, a7⟩ := hR
          rw [b6]
          rcases a7 with ⟨q1, q2, -⟩ | ⟨q1, -⟩
          · rw [q2]; exact ho
          · omega
        obtain ⟨z, hz, hle⟩ := pc_lk1_ok x3 ok'.1 k6
        have hzz := hzs z hz
        refine ps_cont eo (sx_nbeq.mp k1) hle (pc_sk_ok k3) x4 (ps_call f2 c2 hk1 hS hP2 ho2 (fun M3 hR3 => ?_))
        have hok3 := ps_okM hP2 hR3
        obtain ⟨ρ2, s2, q9, q10, q11, q12, q13, q14⟩ := pz_sat (xs := xs) (z := z) (r := r) hL hok3 ⟨hzz.1, hzz.2.1⟩ (by rw [sx_r32_iff]; omega)
        obtain ⟨o2, ρ3, M4, rec2, y1, y2, y3, y4⟩ := gs_use h2 s2 (pz_okl s2 (by rw [q9]; exact (by rw [sx_r32_iff]; omega)) (Or.inr rfl)) (fun v hv => by cases hv)
        have el : sx_cl1 ρ2 [(0, 2, 0, 53), (1, 0, 9, 0)] = [(0, .ref 53), (1, .int (Int32.ofInt z))] := by
          show [(0, Value.ref 53), (1, sx_cv1 ρ2 (0, 9, 0))] = _
          rw [gv_cv, q9]
        rw [el] at y4
        have hv : sx_val ρ3 (9, 0) = z := by
          unfold sx_val
          rw [y1 9 (show 9 < 15 by decide), q9]
          exact Int.add_zero _
        have fin : pz_ad (9, 0) (pz_t r) o2.2.2.2.2 = true → ps_R M M4 ∧ M1 53 22 < M4 53 22 := by
          intro ha
          have had := pz_ad_ok s2 y1 y3 q14 hok3.2.2.2.2.2.2.2.1 hv ha
          refine ⟨ps_chain hP hR hf1 hd hR3 had hzz.2.2, ?_⟩
          obtain ⟨-, -, b3, -⟩ := hd
          obtain ⟨-, -, c3, -⟩ := hR3
          obtain ⟨-, -, d3, -⟩ := had
          omega
        unfold pc_r2 at rec2
        cases ret with
        | true =>
          have rec2 : (match o2.1 with
            | some none => pz_ad (9, 0) (pz_t r) o2.2.2.2.2
            | _ => false) = true := rec2
          split at rec2
          · rename_i e
            obtain ⟨g1, -⟩ := fin rec2
            rcases y4 with ⟨r, w1, w2, F, w3⟩ | ⟨w1, -⟩
            · rw [e] at w1
              cases w1
              exact ⟨F, M4, w3, g1⟩
            · rw [e] at w1; cases w1
          · cases rec2
        | false =>
          have rec2 : (match o2.1 with
            | some _ => false
            | none => sx_an (sx_an (Nat.beq o2.2.1 4) (Nat.beq o2.2.2.2.1.length 0)) (sx_an (pc_lk o2.2.2.1) (pz_ad (9, 0) (pz_t r) o2.2.2.2.2))) = true := rec2
          cases eo2 : o2.1 with
          | some r => rw [eo2] at rec2; cases rec2
          | none =>
            rw [eo2] at rec2
            obtain ⟨m1, m2⟩ := sx_an_iff.mp rec2
            obtain ⟨m1, m3⟩ := sx_an_iff.mp m1
            obtain ⟨m2, m4⟩ := sx_an_iff.mp m2
            obtain ⟨g1, g2⟩ := fin m4
            have ok2 : sx_okl ρ3 o2.2.2.2.2.1 o2.2.2.1 := by
              rcases y4 with ⟨r, w1, -⟩ | ⟨-, -, w3, -⟩
              · rw [w1] at eo2; cases eo2
              · exact w3
            exact ps_cont eo2 (sx_nbeq.mp m1) (pc_lk_ok ok2 m2) (by rw [List.eq_nil_of_length_eq_zero (sx_nbeq.mp m3)]; rfl) y4 (ih M4 g1 g2)
  have loop : ∀ (n : Nat) (M1 : Nat → Nat → Int), ps_R M M1 → (M 53 21 - M1 53 22).toNat ≤ n → ps_fin L xs j (d + 1) 4 [(0, .ref 53)] [] M M1 := by
    intro n
    induction n with
    | zero =>
      intro M1 hR hn
      exact step M1 hR (fun M4 hR4 hlt => by
        have a4 := hR4.2.2.2.1
        omega)
    | succ n ih =>
      intro M1 hR hn
      exact step M1 hR (fun M4 hR4 hlt => ih M4 hR4 (by
        have a4 := hR4.2.2.2.1
        omega))
  exact ps_al f0 rfl (ps_call f1 c1 hk1 hS hP ho (fun M1 hR => loop _ M1 hR (Nat.le_refl _)))
theorem ps_chB {j k d pc2 ix1 ix2 : Nat} {ov : Int} {z0 : Int} {r : Int × Int} {ret : Bool} (hL : L < 2 ^ 31) (f0 : (sm_MT j).2.2.2.2.2 0 = some (.aload_n 0, 1)) (f1 : (sm_MT j).2.2.2.2.2 1 = some (.invokevirtual ix1, 3)) (c1 : sx_call cl_ly (sm_LK (sm_MT j).1) (fun k => (sm_MT k).2.2.2.1) (.invokevirtual ix1) [(2, 0, 53)] = some (k, [(2, 0, 53)], [])) (f2 : (sm_MT j).2.2.2.2.2 pc2 = some (.invokevirtual ix2, 3)) (c2 : sx_call cl_ly (sm_LK (sm_MT j).1) (fun k => (sm_MT k).2.2.2.1) (.invokevirtual ix2) [(2, 0, 53)] = some (k, [(2, 0, 53)], [])) (hk1 : 1 ≤ (sm_MT k).2.1) (h1 : gs_chk (fun pc => Nat.beq pc pc2) (pc_r1 pc2 none) 400 400 (d + 1) j 4 [(0, 2, 0, 53)] [] (pz_t (0, 0)) = true) (h2 : gs_chk (fun pc => Nat.beq pc 4) (pc_r2 ret (0, z0) r) 400 400 (d + 1) j (pc2 + 3) [(0, 2, 0, 53)] [] (pz_t r) = true) (hzs : z0 ≠ 1 ∧ z0 ≠ 2 ∧ z0 ≠ 3 ∧ z0 ≠ 4) (hr : r = (0, 0)) (hS : ps_S L xs k d ov) : ps_S L xs j (d + 1) ov := by
  intro M hP ho
  have step : ∀ (M1 : Nat → Nat → Int), ps_R M M1 → (∀ M4, ps_R M M4 → M1 53 22 < M4 53 22 → ps_fin L xs j (d + 1) 4 [(0, .ref 53)] [] M M4) → ps_fin L xs j (d + 1) 4 [(0, .ref 53)] [] M M1 := by
    intro M1 hR ih
    have hok := ps_okM hP hR
    obtain ⟨ρ, s, r9, r10, r11, r12, r13, r14⟩ := pz_sat (xs := xs) (z := 0) (r := (0, 0)) hL hok ⟨by decide, by decide⟩ sx_w0
    obtain ⟨o, ρ', M2, rec, x1, x2, x3, x4⟩ := gs_use h1 s (pz_okl s (by rw [r9]; exact sx_w0) (Or.inl rfl)) (fun v hv => by cases hv)
    have el0 : sx_cl1 ρ [(0, 2, 0, 53)] = [(0, .ref 53)] := rfl
    rw [el0] at x4
    unfold pc_r1 at rec
    rcases jor rec with rec | rec
    · unfold pc_rt at rec
      split at rec
      · rename_i e
        rcases x4 with ⟨r, w1, w2, F, w3⟩ | ⟨w1, -⟩
        · rw [e] at w1
          cases w1
          exact ⟨F, M2, w3, ps_R_same hR x3.2.2.2.2.2.1 (pz_same_ok x3 rec)⟩
        · rw [e] at w1; cases w1
      · cases rec
    · cases eo : o.1 with
      | some r => rw [eo] at rec; cases rec
      | none =>
        rw [eo] at rec
        obtain ⟨k1, k2⟩ := sx_an_iff.mp rec
        obtain ⟨k1, k3⟩ := sx_an_iff.mp k1
        obtain ⟨k2, k6⟩ := sx_an_iff.mp k2
        obtain ⟨k4, k5⟩ := sx_an_iff.mp k2
        have ok' : sx_okl ρ' o.2.2.2.2.1 o.2.2.1 := by
          rcases x4 with ⟨r, w1, -⟩ | ⟨-, -, w3, -⟩
          · rw [w1] at eo; cases eo
          · exact w3
        have ok' : sx_okl ρ' o.2.2.2.2.1 o.2.2.1 ∧ True := ⟨ok', trivial⟩
        have hd := pz_hd_ok s x1 x3 r10 r11 k5
        have f12 := jin_ok x3 k4
        have hf1 : M1 53 23 = -1 := by
          have : sx_val ρ' (12, 0) = M1 53 23 := by
            unfold sx_val
            rw [x1 12 (show 12 < 15 by decide), r12]
            exact Int.add_zero _
          omega
        have hP2 := ps_next hP hR hf1 hd
        have ho2 : M2 53 24 = ov := by
          obtain ⟨-, -, -, -, -, b6, -⟩ := hd
          obtain ⟨-, -, -, -, -, -, a7⟩ := hR
          rw [b6]
          rcases a7 with ⟨q1, q2, -⟩ | ⟨q1, -⟩
          · rw [q2]; exact ho
          · omega
        have hle := pc_lk_ok ok'.1 k6
        refine ps_cont eo (sx_nbeq.mp k1) hle (pc_sk_ok k3) x4 (ps_call f2 c2 hk1 hS hP2 ho2 (fun M3 hR3 => ?_))
        have hok3 := ps_okM hP2 hR3
        obtain ⟨ρ2, s2, q9, q10, q11, q12, q13, q14⟩ := pz_sat (xs := xs) (z := 0) (r := r) hL hok3 (by rw [hr]; exact ⟨by decide, by decide⟩) sx_w0
        obtain ⟨o2, ρ3, M4, rec2, y1, y2, y3, y4⟩ := gs_use h2 s2 (pz_okl s2 (by rw [q9]; exact sx_w0) (Or.inl rfl)) (fun v hv => by cases hv)
        have el : sx_cl1 ρ2 [(0, 2, 0, 53)] = [(0, .ref 53)] := rfl
        rw [el] at y4
        have hv : sx_val ρ3 (0, z0) = z0 := sx_v0 y3 z0
        have fin : pz_ad (0, z0) (pz_t r) o2.2.2.2.2 = true → ps_R M M4 ∧ M1 53 22 < M4 53 22 := by
          intro ha
          have had := pz_ad_ok s2 y1 y3 q14 hok3.2.2.2.2.2.2.2.1 hv ha
          refine ⟨ps_chain hP hR hf1 hd hR3 had hzs, ?_⟩
          obtain ⟨-, -, b3, -⟩ := hd
          obtain ⟨-, -, c3, -⟩ := hR3
          obtain ⟨-, -, d3, -⟩ := had
          omega
        unfold pc_r2 at rec2
        cases ret with
        | true =>
          have rec2 : (match o2.1 with
            | some none => pz_ad (0, z0) (pz_t r) o2.2.2.2.2
            | _ => false) = true := rec2
          split at rec2
          · rename_i e
            obtain ⟨g1, -⟩ := fin rec2
            rcases y4 with ⟨r, w1, w2, F, w3⟩ | ⟨w1, -⟩
            · rw [e] at w1
              cases w1
              exact ⟨F, M4, w3, g1⟩
            · rw [e] at w1; cases w1
          · cases rec2
        | false =>
          have rec2 : (match o2.1 with
            | some _ => false
            | none => sx_an (sx_an (Nat.beq o2.2.1 4) (Nat.beq o2.2.2.2.1.length 0)) (sx_an (pc_lk o2.2.2.1) (pz_ad (0, z0) (pz_t r) o2.2.2.2.2))) = true := rec2
          cases eo2 : o2.1 with
          | some r => rw [eo2] at rec2; cases rec2
          | none =>
            rw [eo2] at rec2
            obtain ⟨m1, m2⟩ := sx_an_iff.mp rec2
            obtain ⟨m1, m3⟩ := sx_an_iff.mp m1
            obtain ⟨m2, m4⟩ := sx_an_iff.mp m2
            obtain ⟨g1, g2⟩ := fin m4
            have ok2 : sx_okl ρ3 o2.2.2.2.2.1 o2.2.2.1 := by
              rcases y4 with ⟨r, w1, -⟩ | ⟨-, -, w3, -⟩
              · rw [w1] at eo2; cases eo2
              · exact w3
            exact ps_cont eo2 (sx_nbeq.mp m1) (pc_lk_ok ok2 m2) (by rw [List.eq_nil_of_length_eq_zero (sx_nbeq.mp m3)]; rfl) y4 (ih M4 g1 g2)
  have loop : ∀ (n : Nat) (M1 : Nat → Nat → Int), ps_R M M1 → (M 53 21 - M1 53 22).toNat ≤ n → ps_fin L xs j (d + 1) 4 [(0, .ref 53)] [] M M1 := by
    intro n
    induction n with
    | zero =>
      intro M1 hR hn
      exact step M1 hR (fun M4 hR4 hlt => by
        have a4 := hR4.2.2.2.1
        omega)
    | succ n ih =>
      intro M1 hR hn
      exact step M1 hR (fun M4 hR4 hlt => ih M4 hR4 (by
        have a4 := hR4.2.2.2.1
        omega))
  exact ps_al f0 rfl (ps_call f1 c1 hk1 hS hP ho (fun M1 hR => loop _ M1 hR (Nat.le_refl _)))
end
