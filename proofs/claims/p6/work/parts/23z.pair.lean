/-! The law's loop: a pair of calls. -/
section
variable {L : Nat} {xs : Nat → Int32} {i : Nat} {M M' M1 M2 : Nat → Nat → Int} {ρ : Nat → Int} {t t0 : sx_S} {WF SS : (Nat → Nat → Int) → Prop}
theorem sx_HH_congr (h : ∀ a, a < 128 → M' a = M a) : sx_HH cl_lay cl_rf M' = sx_HH cl_lay cl_rf M := by
  apply List.ext_getElem?
  intro k
  rw [sx_HH_get, sx_HH_get]
  cases e : cl_lay[k]? with
  | none => rfl
  | some x =>
    have hk : k < cl_lay.length := (List.getElem?_eq_some_iff.mp e).1
    have h83 : cl_lay.length ≤ 100 := by decide +kernel
    rw [h (k + 8) (by omega)]
noncomputable def lb_t (r : Int × Int) : sx_S := (sx_fresh la_t0 r).2
noncomputable def lb_s (c : Int) (p : Nat) (s1 : List sx_V) (o : sx_P) : Bool := match o.1 with
  | some _ => false
  | none => sx_an (Nat.beq o.2.1 p) (sx_an (tk_sk s1 o.2.2.2.1) (sx_an (la_lk c o.2.2.1) ((List.range 128).all fun a => Nat.beq (sx_tg 7 o.2.2.2.2.2.2.2 a).1 0)))
noncomputable def lb_seg (r : Int × Int) (pc : Nat) (s0 : List sx_V) (p : Nat) (s1 : List sx_V) (c : Int) : Bool := sx_an (s1.all fun v => Nat.blt v.2.1 10) (match sx_seg (fun _ _ => none) cl_ly cl_rc (8, 0) false sm_MT sm_LK (fun _ => false) mi_nohk (fun q => Nat.beq q p) 300 300 100 0 true pc la_l0 s0 (lb_t r) with
  | some os => os.all (lb_s c p s1)
  | none => false)
theorem lb_seg_ok {r : Int × Int} {z c : Int} {pc p : Nat} {s0 s1 : List sx_V} (hc : lb_seg r pc s0 p s1 c = true) (hL : L ≤ 3072) (hi : i + 6 ≤ L) (hm : sx_mok cl_ly M) (hz : sx_w r z) (h64 : sx_w sx_r64 z) (hk : sx_oks (sx_nu (la_rho xs L i) 9 z) 10 s0) (k : la_R L xs 100 p (la_lv (Int32.ofInt ((i : Int) + c))) (sx_cs1 (sx_nu (la_rho xs L i) 9 z) s1) (sx_HH cl_lay cl_rf M)) : la_R L xs 100 pc (la_lv (Int32.ofInt (i : Int))) (sx_cs1 (sx_nu (la_rho xs L i) 9 z) s0) (sx_HH cl_lay cl_rf M) := by
  have s0' := la_sat0 (xs := xs) hL hi hm
  have s1' : sx_sat cl_ly (8, 0) xs L M (sx_nu (la_rho xs L i) 9 z) M (lb_t r) := sx_sat_fresh (r := r) s0' hz h64
  obtain ⟨hb, hc⟩ := sx_an_iff.mp hc
  have r8 : sx_nu (la_rho xs L i) 9 z 8 = (i : Int) := by
    unfold sx_nu
    rw [if_neg (by decide)]
    rfl
  have hok : sx_okl (sx_nu (la_rho xs L i) 9 z) (lb_t r).1 la_l0 := by
    intro q hq
    simp only [la_l0, List.mem_cons, List.not_mem_nil, or_false] at hq
    rcases hq with rfl | rfl | rfl | rfl
    · exact tk_ok0 (show 8 < 10 by decide) (by rw [r8, sx_r32_iff]; omega)
    all_goals exact sx_ck2 s1' _
  have hlv : sx_cl1 (sx_nu (la_rho xs L i) 9 z) la_l0 = la_lv (Int32.ofInt (i : Int)) := by
    show [(3, sx_cv1 (sx_nu (la_rho xs L i) 9 z) (0, 8, 0)), _, _, _] = _
    rw [og_int r8]
    rfl
  cases e : sx_seg (fun _ _ => none) cl_ly cl_rc (8, 0) false sm_MT sm_LK (fun _ => false) mi_nohk (fun q => Nat.beq q p) 300 300 100 0 true pc la_l0 s0 (lb_t r) with
  | none => rw [e] at hc; cases hc
  | some os =>
    rw [e] at hc
    have hbs : sx_hbs cl_ly (fun _ _ => none) M := fun k h i c _ _ _ e => by cases e
    have hnh : sx_hok sm_MT sm_LK (sm_RO L xs) sm_NV sm_cq cl_ly (8, 0) xs L M cl_lay cl_rf mi_nohk := fun _ _ _ _ _ _ _ h => by cases h
    obtain ⟨o, om, ρ', M', x1, x2, x3, x4⟩ := sx_seg_ok (NV := sm_NV) (cq := sm_cq) (RO := sm_RO L xs) cl_lok hbs cl_hrf (cl_hro L xs) hnh 300 100 0 true pc la_l0 s0 (lb_t r) os _ M e s1' hok hk
    have ho := List.all_eq_true.mp hc o om
    unfold lb_s at ho
    rw [hlv] at x4
    have x1 : sx_ext 10 (sx_nu (la_rho xs L i) 9 z) ρ' := x1
    cases eo : o.1 with
    | some v => rw [eo] at ho; cases ho
    | none =>
      rw [eo] at ho
      obtain ⟨h1, ho⟩ := sx_an_iff.mp ho
      obtain ⟨h2, ho⟩ := sx_an_iff.mp ho
      obtain ⟨h3, h4⟩ := sx_an_iff.mp ho
      rcases x4 with ⟨v, w1, -⟩ | ⟨-, -, w3, w4, w5⟩
      · rw [w1] at eo; cases eo
      · obtain ⟨l1, l2⟩ := la_lk_ok w3 h3
        have r8' : ρ' 8 = (i : Int) := by rw [x1 8 (by decide)]; exact r8
        rw [r8'] at l2
        have hM : ∀ a, a < 128 → M' a = M a := fun a ha => by
          obtain ⟨-, g0, -, -, l4⟩ := x3.2.2.2.2.2.2.1 a ha
          exact l4 (sx_nbeq.mp (List.all_eq_true.mp h4 a (List.mem_range.mpr ha)))
        have e9 : sx_cs1 ρ' s1 = sx_cs1 (sx_nu (la_rho xs L i) 9 z) s1 := List.map_congr_left fun v hv => by
          have hv9 := sx_blt (List.all_eq_true.mp hb v hv)
          unfold sx_cv1 sx_val
          rw [x1 v.2.1 hv9]
        have hst : sx_cs1 ρ' o.2.2.2.1 = sx_cs1 (sx_nu (la_rho xs L i) 9 z) s1 := by rw [tk_sk_ok h2, e9]
        have hle : lo_le (la_lv (Int32.ofInt ((i : Int) + c))) (sx_cl1 ρ' o.2.2.1) := ⟨la_lv_nd _, l1, l2⟩
        obtain ⟨F, hf, e8, e7⟩ := la_le hle k
        rw [← sx_HH_congr hM, ← hst, ← sx_nbeq.mp h1] at e8
        obtain ⟨F', e6⟩ := w5 F _ _ e8
        exact ⟨F', hf, e6, e7⟩
/-- a call from the law, and what it does -/
def lb_run (L : Nat) (xs : Nat → Int32) (k : Nat) (vs : List Value) (M : Nat → Nat → Int) (r : Value) (M' : Nat → Nat → Int) : Prop := ∃ F, sm_run sm_MT sm_LK (sm_RO L xs) sm_NV sm_cq F 99 k 0 (lv_args 0 vs) [] (sx_HH cl_lay cl_rf M) = some (some r, sx_HH cl_lay cl_rf M')
theorem lb_call {pc ix k m : Nat} {lv : sm_V} {s as rst : List sx_V} {v : Value} (hf : (sm_MT 0).2.2.2.2.2 pc = some (.invokevirtual ix, 3)) (hc : sx_call cl_ly (sm_LK (sm_MT 0).1) (fun k => (sm_MT k).2.2.2.1) (.invokevirtual ix) s = some (k, as, rst)) (hok : sx_oks ρ m s) (hq : sx_an (Nat.ble (sx_sum as) (sm_MT k).2.1) (Nat.ble (sx_sum rst) 8) = true) (hrun : lb_run L xs k (sx_cs1 ρ as) M v M') (next : la_R L xs 100 (pc + 3) lv (v :: sx_cs1 ρ rst) (sx_HH cl_lay cl_rf M')) : la_R L xs 100 pc lv (sx_cs1 ρ s) (sx_HH cl_lay cl_rf M) := by
  obtain ⟨q1, q2⟩ := sx_an_iff.mp hq
  obtain ⟨c1, c2, c3, c4⟩ := sx_call_ok (M := M) (lay := cl_lay) (rf := cl_rf) cl_lok hok hc
  obtain ⟨F, hF⟩ := hrun
  exact la_car (d := 99) (rest := sx_cs1 ρ rst) (v := v) (F1 := F) hf rfl rfl c1 ⟨by rw [sx_sum_ok]; exact Nat.le_of_ble_eq_true q2, by rw [sx_sl_len]; exact Nat.le_of_ble_eq_true q1⟩ hF next
/-- the symbols of the script -/
theorem lb_oks {z : Int} {m : Nat} (hL : L ≤ 3072) (hi : i + 6 ≤ L) (hm : 10 ≤ m) {s : List sx_V} (hs : s.all (fun v => sx_an (Nat.ble v.2.1 8) (bif Nat.beq v.1 0 then sx_eq v.2.2 0 else Nat.beq v.1 2)) = true) : sx_oks (sx_nu (la_rho xs L i) 9 z) m s := fun v hv => by
  obtain ⟨h1, h2⟩ := sx_an_iff.mp (List.all_eq_true.mp hs v hv)
  have h1 := Nat.le_of_ble_eq_true h1
  refine ⟨by omega, fun h0 => ?_, fun h => ?_⟩
  · rw [h0] at h2
    have h2 := sx_eq_iff.mp (show sx_eq v.2.2 0 = true from h2)
    unfold sx_val sx_nu
    rw [if_neg (by omega), h2, Int.add_zero]
    exact la_rho32 hL hi _
  · rw [h] at h2
    cases h2
/-- the same with one more: the first answer -/
theorem lb_oks9 {z : Int} {m kd : Nat} (hL : L ≤ 3072) (hi : i + 6 ≤ L) (hm : 10 ≤ m) {s : List sx_V} (hs : s.all (fun v => sx_an (Nat.ble v.2.1 8) (bif Nat.beq v.1 0 then sx_eq v.2.2 0 else Nat.beq v.1 2)) = true) (h : (kd = 0 ∧ sx_w sx_r32 z) ∨ (kd = 1 ∧ sx_w sx_r64 z)) : sx_oks (sx_nu (la_rho xs L i) 9 z) m (s ++ [(kd, 9, 0)]) := fun v hv => by
  rcases List.mem_append.mp hv with hv | hv
  · exact lb_oks hL hi hm hs v hv
  · rw [List.mem_singleton.mp hv]
    have e : sx_val (sx_nu (la_rho xs L i) 9 z) (9, 0) = z := sx_nu_at
    refine ⟨by show 9 < m; omega, fun h0 => ?_, fun h1 => ?_⟩
    · show sx_w sx_r32 (sx_val _ (9, 0))
      rw [e]
      rcases h with ⟨-, h⟩ | ⟨k, -⟩
      · exact h
      · have h0 : kd = 0 := h0
        omega
    · show sx_w sx_r64 (sx_val _ (9, 0))
      rw [e]
      rcases h with ⟨k, -⟩ | ⟨-, h⟩
      · have h1 : kd = 1 := h1
        omega
      · exact h
def lb_val (kd : Nat) (z : Int) : Value := if kd = 0 then .int (Int32.ofInt z) else .long (Int64.ofInt z)
theorem lb_cv {z : Int} {kd : Nat} (h : kd = 0 ∨ kd = 1) : sx_cv1 (sx_nu (la_rho xs L i) 9 z) (kd, 9, 0) = lb_val kd z := by
  have e : sx_val (sx_nu (la_rho xs L i) 9 z) (9, 0) = z := sx_nu_at
  rcases h with rfl | rfl
  · rw [sx_cvk0 rfl]
    show Value.int (Int32.ofInt (sx_val _ (9, 0))) = _
    rw [e]
    rfl
  · rw [sx_cvk1 rfl]
    show Value.long (Int64.ofInt (sx_val _ (9, 0))) = _
    rw [e]
    rfl
theorem lb_cs9 {z : Int} {s : List sx_V} (hs : s.all (fun v => Nat.ble v.2.1 8) = true) : sx_cs1 (sx_nu (la_rho xs L i) 9 z) s = sx_cs1 (la_rho xs L i) s := List.map_congr_left fun v hv => by
  have h1 := Nat.le_of_ble_eq_true (List.all_eq_true.mp hs v hv)
  unfold sx_cv1 sx_val sx_nu
  rw [if_neg (by omega)]
def lb_ok0 (s : List sx_V) : Bool := s.all (fun v => sx_an (Nat.ble v.2.1 8) (bif Nat.beq v.1 0 then sx_eq v.2.2 0 else Nat.beq v.1 2))
theorem lb_ok8 {s : List sx_V} (h : lb_ok0 s = true) : s.all (fun v => Nat.ble v.2.1 8) = true := List.all_eq_true.mpr fun v hv => (sx_an_iff.mp (List.all_eq_true.mp h v hv)).1
/-- two calls whose answers are compared -/
theorem lb_pair {kd kx km px pm ix im : Nat} {r : Int × Int} {s0 s1 asx asm : List sx_V} (hkd : kd = 0 ∨ kd = 1) (fx : (sm_MT 0).2.2.2.2.2 px = some (.invokevirtual ix, 3)) (fm : (sm_MT 0).2.2.2.2.2 pm = some (.invokevirtual im, 3)) (cx : sx_call cl_ly (sm_LK (sm_MT 0).1) (fun k => (sm_MT k).2.2.2.1) (.invokevirtual ix) s0 = some (kx, asx, [])) (cm : sx_call cl_ly (sm_LK (sm_MT 0).1) (fun k => (sm_MT k).2.2.2.1) (.invokevirtual im) (s1 ++ [(kd, 9, 0)]) = some (km, asm, [(kd, 9, 0)])) (hb : sx_an (sx_an (lb_ok0 s0) (lb_ok0 s1)) (sx_an (lb_ok0 asx) (lb_ok0 asm)) = true) (hq : sx_an (Nat.ble (sx_sum asx) (sm_MT kx).2.1) (sx_an (Nat.ble (sx_sum asm) (sm_MT km).2.1) (Nat.ble (sx_sum [(kd, 9, 0)]) 8)) = true) (g2 : lb_seg r (px + 3) [(kd, 9, 0)] pm (s1 ++ [(kd, 9, 0)]) 0 = true) (g3 : lb_seg r (pm + 3) [(kd, 9, 0), (kd, 9, 0)] 18 [] 6 = true) (hL : L ≤ 3072) (hi : i + 6 ≤ L) (hp : ∃ z M1 M2, sx_w r z ∧ ((kd = 0 ∧ sx_w sx_r32 z) ∨ (kd = 1 ∧ sx_w sx_r64 z)) ∧ lb_run L xs kx (sx_cs1 (la_rho xs L i) asx) M (lb_val kd z) M1 ∧ sx_mok cl_ly M1 ∧ lb_run L xs km (sx_cs1 (la_rho xs L i) asm) M1 (lb_val kd z) M2 ∧ sx_mok cl_ly M2 ∧ la_R L xs 100 18 (la_lv (Int32.ofInt ((i : Int) + 6))) [] (sx_HH cl_lay cl_rf M2)) : la_R L xs 100 px (la_lv (Int32.ofInt (i : Int))) (sx_cs1 (la_rho xs L i) s0) (sx_HH cl_lay cl_rf M) := by
  obtain ⟨z, M1, M2, hz, hzk, h1, m1, h2, m2, k⟩ := hp
  obtain ⟨hb, hb2⟩ := sx_an_iff.mp hb
  obtain ⟨b0, b1⟩ := sx_an_iff.mp hb
  obtain ⟨bx, bm⟩ := sx_an_iff.mp hb2
  obtain ⟨q1, q2⟩ := sx_an_iff.mp hq
  obtain ⟨q2, q3⟩ := sx_an_iff.mp q2
  have h64 : sx_w sx_r64 z := by
    rcases hzk with ⟨-, h⟩ | ⟨-, h⟩
    · exact sx_32_64 h
    · exact h
  have z1 : sx_oks (sx_nu (la_rho xs L i) 9 z) 10 [(kd, 9, 0)] := lb_oks9 (s := []) hL hi (Nat.le_refl _) rfl hzk
  have z2 : sx_oks (sx_nu (la_rho xs L i) 9 z) 10 [(kd, 9, 0), (kd, 9, 0)] := fun v hv => by
    rcases List.mem_cons.mp hv with rfl | hv
    · exact z1 _ List.mem_cons_self
    · exact z1 v hv
  rw [← lb_cs9 (z := z) (lb_ok8 b0)]
  rw [← lb_cs9 (z := z) (lb_ok8 bx)] at h1
  rw [← lb_cs9 (z := z) (lb_ok8 bm)] at h2
  refine lb_call (m := 10) fx cx (lb_oks hL hi (Nat.le_refl _) b0) (sx_an_iff.mpr ⟨q1, rfl⟩) h1 ?_
  have e1 : lb_val kd z :: sx_cs1 (sx_nu (la_rho xs L i) 9 z) [] = sx_cs1 (sx_nu (la_rho xs L i) 9 z) [(kd, 9, 0)] := by
    show _ = [sx_cv1 _ (kd, 9, 0)]
    rw [lb_cv hkd]
    rfl
  rw [e1]
  refine lb_seg_ok g2 hL hi m1 hz h64 z1 ?_
  rw [Int.add_zero]
  refine lb_call (m := 10) fm cm (lb_oks9 hL hi (Nat.le_refl _) b1 hzk) (sx_an_iff.mpr ⟨q2, q3⟩) h2 ?_
  have e2 : lb_val kd z :: sx_cs1 (sx_nu (la_rho xs L i) 9 z) [(kd, 9, 0)] = sx_cs1 (sx_nu (la_rho xs L i) 9 z) [(kd, 9, 0), (kd, 9, 0)] := by
    show _ = sx_cv1 (sx_nu (la_rho xs L i) 9 z) (kd, 9, 0) :: sx_cs1 (sx_nu (la_rho xs L i) 9 z) [(kd, 9, 0)]
    rw [lb_cv hkd]
  rw [e2]
  exact lb_seg_ok g3 hL hi m2 hz h64 z2 k
/-- two calls whose answers are not looked at -/
theorem lb_pair0 {kd kx km px pm ix im : Nat} {s0 s1 asx asm : List sx_V} (hkd : kd = 0 ∨ kd = 1) (fx : (sm_MT 0).2.2.2.2.2 px = some (.invokevirtual ix, 3)) (fm : (sm_MT 0).2.2.2.2.2 pm = some (.invokevirtual im, 3)) (cx : sx_call cl_ly (sm_LK (sm_MT 0).1) (fun k => (sm_MT k).2.2.2.1) (.invokevirtual ix) s0 = some (kx, asx, [])) (cm : sx_call cl_ly (sm_LK (sm_MT 0).1) (fun k => (sm_MT k).2.2.2.1) (.invokevirtual im) s1 = some (km, asm, [])) (hb : sx_an (sx_an (lb_ok0 s0) (lb_ok0 s1)) (sx_an (lb_ok0 asx) (lb_ok0 asm)) = true) (hq : sx_an (Nat.ble (sx_sum asx) (sm_MT kx).2.1) (Nat.ble (sx_sum asm) (sm_MT km).2.1) = true) (g2 : lb_seg sx_r64 (px + 3) [(kd, 9, 0)] pm s1 0 = true) (g3 : lb_seg sx_r64 (pm + 3) [(kd, 9, 0)] 18 [] 6 = true) (hL : L ≤ 3072) (hi : i + 6 ≤ L) (hp : ∃ z z' M1 M2, ((kd = 0 ∧ sx_w sx_r32 z ∧ sx_w sx_r32 z') ∨ (kd = 1 ∧ sx_w sx_r64 z ∧ sx_w sx_r64 z')) ∧ lb_run L xs kx (sx_cs1 (la_rho xs L i) asx) M (lb_val kd z) M1 ∧ sx_mok cl_ly M1 ∧ lb_run L xs km (sx_cs1 (la_rho xs L i) asm) M1 (lb_val kd z') M2 ∧ sx_mok cl_ly M2 ∧ la_R L xs 100 18 (la_lv (Int32.ofInt ((i : Int) + 6))) [] (sx_HH cl_lay cl_rf M2)) : la_R L xs 100 px (la_lv (Int32.ofInt (i : Int))) (sx_cs1 (la_rho xs L i) s0) (sx_HH cl_lay cl_rf M) := by
  obtain ⟨z, z', M1, M2, hzk, h1, m1, h2, m2, k⟩ := hp
  obtain ⟨hb, hb2⟩ := sx_an_iff.mp hb
  obtain ⟨b0, b1⟩ := sx_an_iff.mp hb
  obtain ⟨bx, bm⟩ := sx_an_iff.mp hb2
  obtain ⟨q1, q2⟩ := sx_an_iff.mp hq
  have hz1 : (kd = 0 ∧ sx_w sx_r32 z) ∨ (kd = 1 ∧ sx_w sx_r64 z) := by
    rcases hzk with ⟨a, b, c⟩ | ⟨a, b, c⟩
    · exact Or.inl ⟨a, b⟩
    · exact Or.inr ⟨a, b⟩
  have hz2 : (kd = 0 ∧ sx_w sx_r32 z') ∨ (kd = 1 ∧ sx_w sx_r64 z') := by
    rcases hzk with ⟨a, b, c⟩ | ⟨a, b, c⟩
    · exact Or.inl ⟨a, c⟩
    · exact Or.inr ⟨a, c⟩
  have h64 : ∀ {y : Int}, ((kd = 0 ∧ sx_w sx_r32 y) ∨ (kd = 1 ∧ sx_w sx_r64 y)) → sx_w sx_r64 y := fun h => by
    rcases h with ⟨-, h⟩ | ⟨-, h⟩
    · exact sx_32_64 h
    · exact h
  rw [← lb_cs9 (z := z) (lb_ok8 b0)]
  rw [← lb_cs9 (z := z) (lb_ok8 bx)] at h1
  rw [← lb_cs9 (z := z) (lb_ok8 bm)] at h2
  refine lb_call (m := 10) fx cx (lb_oks hL hi (Nat.le_refl _) b0) (sx_an_iff.mpr ⟨q1, rfl⟩) h1 ?_
  have e1 : ∀ {y : Int}, lb_val kd y :: sx_cs1 (sx_nu (la_rho xs L i) 9 y) [] = sx_cs1 (sx_nu (la_rho xs L i) 9 y) [(kd, 9, 0)] := fun {y} => by
    show _ = [sx_cv1 _ (kd, 9, 0)]
    rw [lb_cv hkd]
    rfl
  rw [e1]
  refine lb_seg_ok g2 hL hi m1 (h64 hz1) (h64 hz1) (lb_oks9 (s := []) hL hi (Nat.le_refl _) rfl hz1) ?_
  rw [Int.add_zero]
  refine lb_call (m := 10) fm cm (lb_oks hL hi (Nat.le_refl _) b1) (sx_an_iff.mpr ⟨q2, rfl⟩) h2 ?_
  have e2 : lb_val kd z' :: sx_cs1 (sx_nu (la_rho xs L i) 9 z) [] = sx_cs1 (sx_nu (la_rho xs L i) 9 z') [(kd, 9, 0)] := e1
  rw [e2]
  exact lb_seg_ok g3 hL hi m2 (h64 hz2) (h64 hz2) (lb_oks9 (s := []) hL hi (Nat.le_refl _) rfl hz2) k
end
