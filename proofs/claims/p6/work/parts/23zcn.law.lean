/-! The law: put, whose third argument is made out of two numbers of the script. -/
section
variable {L : Nat} {xs : Nat → Int32} {i : Nat} {M M' M1 M2 : Nat → Nat → Int} {ρ : Nat → Int}
noncomputable def lb_sd (p : Nat) (s1 : List sx_V) (ds : List og_D) (o : sx_P) : Bool := match o.1 with
  | some _ => false
  | none => sx_an (Nat.beq o.2.1 p) (sx_an (tk_sk s1 o.2.2.2.1) (sx_an (la_lk 0 o.2.2.1) (sx_an ((List.range 128).all fun a => Nat.beq (sx_tg 7 o.2.2.2.2.2.2.2 a).1 0) (ds.all fun q => match sx_mq o.2.2.2.2.2.2.1.2 q.2.2.2.1.toNat q.2.1 q.2.2.1 with
    | some v => Nat.beq v q.2.2.2.2.toNat
    | none => false))))
noncomputable def lb_sdc (r : Int × Int) (pc : Nat) (s0 : List sx_V) (p : Nat) (s1 : List sx_V) (ds : List og_D) : Bool := match sx_seg (fun _ _ => none) cl_ly cl_rc (8, 0) false sm_MT sm_LK (fun _ => false) mi_nohk (fun q => Nat.beq q p) 300 300 100 0 true pc la_l0 s0 (lb_t r) with
  | some os => os.all (lb_sd p s1 ds)
  | none => false
theorem lb_sdc_ok {r : Int × Int} {z : Int} {pc p : Nat} {s0 s1 : List sx_V} {ds : List og_D} (hc : lb_sdc r pc s0 p s1 ds = true) (hL : L ≤ 3072) (hi : i + 6 ≤ L) (hm : sx_mok cl_ly M) (hz : sx_w r z) (h64 : sx_w sx_r64 z) (hk : sx_oks (sx_nu (la_rho xs L i) 9 z) 10 s0) (k : ∀ (ρ' : Nat → Int) (m : Nat), sx_ext 10 (sx_nu (la_rho xs L i) 9 z) ρ' → (∀ q ∈ ds, ρ' q.2.2.2.2.toNat = sx_mf q.2.2.2.1.toNat (sx_val ρ' q.2.1) (sx_val ρ' q.2.2.1)) → sx_oks ρ' m s1 → la_R L xs 100 p (la_lv (Int32.ofInt (i : Int))) (sx_cs1 ρ' s1) (sx_HH cl_lay cl_rf M)) : la_R L xs 100 pc (la_lv (Int32.ofInt (i : Int))) (sx_cs1 (sx_nu (la_rho xs L i) 9 z) s0) (sx_HH cl_lay cl_rf M) := by
  have s0' := la_sat0 (xs := xs) hL hi hm
  have s1' : sx_sat cl_ly (8, 0) xs L M (sx_nu (la_rho xs L i) 9 z) M (lb_t r) := sx_sat_fresh (r := r) s0' hz h64
  have r8 : sx_nu (la_rho xs L i) 9 z 8 = (i : Int) := by
    unfold sx_nu
    rw [if_neg (by decide)]
    rfl
  have hok : sx_okl (sx_nu (la_rho xs L i) 9 z) (lb_t r).1 la_l0 := by
    intro q hq
    simp only [la_l0, List.mem_cons, List.not_mem_nil, or_false] at hq
    rcases hq with rfl | rfl | rfl | rfl
    · exact tk_ok0 (show 8 < 10 by decide) (by rw [r8, sx_r32_iff]; omega)
    all_goals exact sx_ck2 s1' _
  have hlv : sx_cl1 (sx_nu (la_rho xs L i) 9 z) la_l0 = la_lv (Int32.ofInt (i : Int)) := by
    show [(3, sx_cv1 (sx_nu (la_rho xs L i) 9 z) (0, 8, 0)), _, _, _] = _
    rw [og_int r8]
    rfl
  unfold lb_sdc at hc
  cases e : sx_seg (fun _ _ => none) cl_ly cl_rc (8, 0) false sm_MT sm_LK (fun _ => false) mi_nohk (fun q => Nat.beq q p) 300 300 100 0 true pc la_l0 s0 (lb_t r) with
  | none => rw [e] at hc; cases hc
  | some os =>
    rw [e] at hc
    have hbs : sx_hbs cl_ly (fun _ _ => none) M := fun k h i c _ _ _ e => by cases e
    have hnh : sx_hok sm_MT sm_LK (sm_RO L xs) sm_NV sm_cq cl_ly (8, 0) xs L M cl_lay cl_rf mi_nohk := fun _ _ _ _ _ _ _ h => by cases h
    obtain ⟨o, om, ρ', M', x1, x2, x3, x4⟩ := sx_seg_ok (NV := sm_NV) (cq := sm_cq) (RO := sm_RO L xs) cl_lok hbs cl_hrf (cl_hro L xs) hnh 300 100 0 true pc la_l0 s0 (lb_t r) os _ M e s1' hok hk
    have ho := List.all_eq_true.mp hc o om
    unfold lb_sd at ho
    rw [hlv] at x4
    have x1 : sx_ext 10 (sx_nu (la_rho xs L i) 9 z) ρ' := x1
    cases eo : o.1 with
    | some v => rw [eo] at ho; cases ho
    | none =>
      rw [eo] at ho
      obtain ⟨h1, ho⟩ := sx_an_iff.mp ho
      obtain ⟨h2, ho⟩ := sx_an_iff.mp ho
      obtain ⟨h3, ho⟩ := sx_an_iff.mp ho
      obtain ⟨h4, h5⟩ := sx_an_iff.mp ho
      rcases x4 with ⟨v, w1, -⟩ | ⟨-, -, w3, w4, w5⟩
      · rw [w1] at eo; cases eo
      · obtain ⟨l1, l2⟩ := la_lk_ok w3 h3
        have r8' : ρ' 8 = (i : Int) := by rw [x1 8 (by decide)]; exact r8
        rw [r8', Int.add_zero] at l2
        have hM : ∀ a, a < 128 → M' a = M a := fun a ha => by
          obtain ⟨-, g0, -, -, l4⟩ := x3.2.2.2.2.2.2.1 a ha
          exact l4 (sx_nbeq.mp (List.all_eq_true.mp h4 a (List.mem_range.mpr ha)))
        have e9 := tk_sk_ok h2
        rw [e9] at w4
        have hd : ∀ q ∈ ds, ρ' q.2.2.2.2.toNat = sx_mf q.2.2.2.1.toNat (sx_val ρ' q.2.1) (sx_val ρ' q.2.2.1) := fun q hq => by
          have h6 := List.all_eq_true.mp h5 q hq
          cases e7 : sx_mq o.2.2.2.2.2.2.1.2 q.2.2.2.1.toNat q.2.1 q.2.2.1 with
          | none => rw [e7] at h6; cases h6
          | some v =>
            rw [e7] at h6
            have k := (sx_mq_ok x3.2.2.2.2.1.2 e7).2
            rw [sx_nbeq.mp h6] at k
            exact k
        have hle : lo_le (la_lv (Int32.ofInt (i : Int))) (sx_cl1 ρ' o.2.2.1) := ⟨la_lv_nd _, l1, l2⟩
        obtain ⟨F, hf, e8, e7⟩ := la_le hle (k ρ' _ x1 hd w4)
        rw [← sx_HH_congr hM, ← e9, ← sx_nbeq.mp h1] at e8
        obtain ⟨F', e6⟩ := w5 F _ _ e8
        exact ⟨F', hf, e6, e7⟩
def lq_s (a : Int) : List sx_V := [(0, 3, 0), (0, 2, 0), (2, 0, a)]
def lq_d : List og_D := [(5, (4, 0), (0, 32), 40, 10), (5, (5, 0), (0, 4294967295), 35, 11), (5, (10, 0), (11, 0), 36, 12)]
def lq_v (a b : Int) : Int := sx_mf 36 (sx_mf 40 a 32) (sx_mf 35 b 4294967295)
/-- what the walk ahead of the call makes -/
theorem lq_ok {z : Int} {m : Nat} {s : List sx_V} (x : sx_ext 10 (sx_nu (la_rho xs L i) 9 z) ρ) (hd : ∀ q ∈ lq_d, ρ q.2.2.2.2.toNat = sx_mf q.2.2.2.1.toNat (sx_val ρ q.2.1) (sx_val ρ q.2.2.1)) (hk : sx_oks ρ m ((1, 12, 0) :: s)) : sx_w sx_r64 (lq_v (la_rho xs L i 4) (la_rho xs L i 5)) ∧ sx_cv1 ρ (1, 12, 0) = .long (Int64.ofInt (lq_v (la_rho xs L i 4) (la_rho xs L i 5))) := by
  have e0 : ρ 0 = 0 := x 0 (by decide)
  have e4 : ρ 4 = la_rho xs L i 4 := x 4 (by decide)
  have e5 : ρ 5 = la_rho xs L i 5 := x 5 (by decide)
  have d1 : ρ 10 = sx_mf 40 (sx_val ρ (4, 0)) (sx_val ρ (0, 32)) := hd (5, (4, 0), (0, 32), 40, 10) (by simp [lq_d])
  have d2 : ρ 11 = sx_mf 35 (sx_val ρ (5, 0)) (sx_val ρ (0, 4294967295)) := hd (5, (5, 0), (0, 4294967295), 35, 11) (by simp [lq_d])
  have d3 : ρ 12 = sx_mf 36 (sx_val ρ (10, 0)) (sx_val ρ (11, 0)) := hd (5, (10, 0), (11, 0), 36, 12) (by simp [lq_d])
  rw [og_v0 e4, og_c e0] at d1
  rw [og_v0 e5, og_c e0] at d2
  rw [og_v0 d1, og_v0 d2] at d3
  have v12 : sx_val ρ (12, 0) = lq_v (la_rho xs L i 4) (la_rho xs L i 5) := og_v0 d3
  have h := (hk (1, 12, 0) List.mem_cons_self).2.2 rfl
  have h : sx_w sx_r64 (sx_val ρ (12, 0)) := h
  rw [v12] at h
  refine ⟨h, ?_⟩
  rw [sx_cvk1 (v := (1, 12, 0)) rfl]
  show Value.long (Int64.ofInt (sx_val ρ (12, 0))) = _
  rw [v12]
def lq_a (a : Nat) (s i v : Int) : List Value := [.ref a, .int (Int32.ofInt s), .int (Int32.ofInt i), .long (Int64.ofInt v)]
theorem lb_put {p0 px p1 pm ix im : Nat} {tl : List sx_V} (htl : tl = [] ∨ tl = [(0, 9, 0)]) (fx : (sm_MT 0).2.2.2.2.2 px = some (.invokevirtual ix, 3)) (fm : (sm_MT 0).2.2.2.2.2 pm = some (.invokevirtual im, 3)) (cx : sx_call cl_ly (sm_LK (sm_MT 0).1) (fun k => (sm_MT k).2.2.2.1) (.invokevirtual ix) ((1, 12, 0) :: lq_s 8) = some (142, [(2, 0, 8), (0, 2, 0), (0, 3, 0), (1, 12, 0)], [])) (cm : sx_call cl_ly (sm_LK (sm_MT 0).1) (fun k => (sm_MT k).2.2.2.1) (.invokevirtual im) ((1, 12, 0) :: (lq_s 53 ++ tl)) = some (265, [(2, 0, 53), (0, 2, 0), (0, 3, 0), (1, 12, 0)], tl)) (gA : lb_sdc sx_r64 p0 (lq_s 8) px ((1, 12, 0) :: lq_s 8) lq_d = true) (gB : lb_seg (-13, 1) (px + 3) [(0, 9, 0)] p1 (lq_s 53 ++ tl) 0 = true) (gC : lb_sdc (-13, 1) p1 (lq_s 53 ++ tl) pm ((1, 12, 0) :: (lq_s 53 ++ tl)) lq_d = true) (gD : lb_seg (-13, 1) (pm + 3) ((0, 9, 0) :: tl) 18 [] 6 = true) (hq : sx_an (Nat.ble (sx_sum [(2, 0, 8), (0, 2, 0), (0, 3, 0), (1, 12, 0)]) (sm_MT 142).2.1) (sx_an (Nat.ble (sx_sum [(2, 0, 53), (0, 2, 0), (0, 3, 0), (1, 12, 0)]) (sm_MT 265).2.1) (Nat.ble (sx_sum tl) 8)) = true) (hL : L ≤ 3072) (hi : i + 6 ≤ L) (hm : sx_mok cl_ly M) (hp : ∀ v, sx_w sx_r64 v → ∃ z M1 M2, sx_w (-13, 1) z ∧ ((0 = 0 ∧ sx_w sx_r32 z) ∨ (0 = 1 ∧ sx_w sx_r64 z)) ∧ lb_run L xs 142 (lq_a 8 (la_rho xs L i 2) (la_rho xs L i 3) v) M (lb_val 0 z) M1 ∧ sx_mok cl_ly M1 ∧ lb_run L xs 265 (lq_a 53 (la_rho xs L i 2) (la_rho xs L i 3) v) M1 (lb_val 0 z) M2 ∧ sx_mok cl_ly M2 ∧ la_R L xs 100 18 (la_lv (Int32.ofInt ((i : Int) + 6))) [] (sx_HH cl_lay cl_rf M2)) : la_R L xs 100 p0 (la_lv (Int32.ofInt (i : Int))) (sx_cs1 (la_rho xs L i) (lq_s 8)) (sx_HH cl_lay cl_rf M) := by
  obtain ⟨q1, q2⟩ := sx_an_iff.mp hq
  obtain ⟨q2, q3⟩ := sx_an_iff.mp q2
  have b0 : ∀ {a : Int}, lb_ok0 (lq_s a) = true := fun {a} => rfl
  rw [← lb_cs9 (z := 0) (lb_ok8 (b0 (a := 8)))]
  refine lb_sdc_ok gA hL hi hm ⟨by decide, by decide⟩ ⟨by decide, by decide⟩ (lb_oks hL hi (Nat.le_refl _) b0) (fun ρ' m x hd hk => ?_)
  obtain ⟨v64, ev⟩ := lq_ok x hd hk
  obtain ⟨z, M1, M2, hz, hzk, h1, m1, h2, m2, kk⟩ := hp _ v64
  have hz32 : sx_w sx_r32 z := by
    rcases hzk with ⟨-, h⟩ | ⟨h, -⟩
    · exact h
    · cases h
  have args : ∀ {ρ : Nat → Int} {y : Int} {a : Nat}, sx_ext 10 (sx_nu (la_rho xs L i) 9 y) ρ → sx_cv1 ρ (1, 12, 0) = .long (Int64.ofInt (lq_v (la_rho xs L i 4) (la_rho xs L i 5))) → sx_cs1 ρ [(2, 0, (a : Int)), (0, 2, 0), (0, 3, 0), (1, 12, 0)] = lq_a a (la_rho xs L i 2) (la_rho xs L i 3) (lq_v (la_rho xs L i 4) (la_rho xs L i 5)) := fun {ρ y a} x e => by
    have e2 : ρ 2 = la_rho xs L i 2 := x 2 (by decide)
    have e3 : ρ 3 = la_rho xs L i 3 := x 3 (by decide)
    show [Value.ref (a : Int).toNat, sx_cv1 ρ (0, 2, 0), sx_cv1 ρ (0, 3, 0), sx_cv1 ρ (1, 12, 0)] = _
    rw [og_int e2, og_int e3, e, Int.toNat_natCast]
    rfl
  refine lb_call (ρ := ρ') (m := m) (v := lb_val 0 z) fx cx hk (sx_an_iff.mpr ⟨q1, rfl⟩) (by
    have e : sx_cs1 ρ' [(2, 0, 8), (0, 2, 0), (0, 3, 0), (1, 12, 0)] = lq_a 8 (la_rho xs L i 2) (la_rho xs L i 3) (lq_v (la_rho xs L i 4) (la_rho xs L i 5)) := args (a := 8) x ev
    rw [e]
    exact h1) ?_
  have z1 : sx_oks (sx_nu (la_rho xs L i) 9 z) 10 [(0, 9, 0)] := lb_oks9 (kd := 0) (s := []) hL hi (Nat.le_refl _) rfl hzk
  have e1 : lb_val 0 z :: sx_cs1 ρ' [] = sx_cs1 (sx_nu (la_rho xs L i) 9 z) [(0, 9, 0)] := by
    show _ = [sx_cv1 _ (0, 9, 0)]
    rw [lb_cv (Or.inl rfl)]
    rfl
  rw [e1]
  have kt : sx_oks (sx_nu (la_rho xs L i) 9 z) 10 (lq_s 53 ++ tl) := by
    rcases htl with rfl | rfl
    · exact fun v hv => lb_oks hL hi (Nat.le_refl _) (b0 (a := 53)) v (by simpa using hv)
    · exact lb_oks9 (kd := 0) hL hi (Nat.le_refl _) b0 hzk
  refine lb_seg_ok gB hL hi m1 hz (sx_32_64 hz32) z1 ?_
  rw [Int.add_zero]
  refine lb_sdc_ok gC hL hi m1 hz (sx_32_64 hz32) kt (fun ρ2 m2' x2 hd2 hk2 => ?_)
  obtain ⟨-, ev2⟩ := lq_ok x2 hd2 hk2
  refine lb_call (ρ := ρ2) (m := m2') (v := lb_val 0 z) fm cm hk2 (sx_an_iff.mpr ⟨q2, q3⟩) (by
    have e : sx_cs1 ρ2 [(2, 0, 53), (0, 2, 0), (0, 3, 0), (1, 12, 0)] = lq_a 53 (la_rho xs L i 2) (la_rho xs L i 3) (lq_v (la_rho xs L i 4) (la_rho xs L i 5)) := args (a := 53) x2 ev2
    rw [e]
    exact h2) ?_
  have e2 : lb_val 0 z :: sx_cs1 ρ2 tl = sx_cs1 (sx_nu (la_rho xs L i) 9 z) ((0, 9, 0) :: tl) := by
    show _ = sx_cv1 (sx_nu (la_rho xs L i) 9 z) (0, 9, 0) :: sx_cs1 (sx_nu (la_rho xs L i) 9 z) tl
    rw [lb_cv (Or.inl rfl)]
    congr 1
    rcases htl with rfl | rfl
    · rfl
    · show [sx_cv1 ρ2 (0, 9, 0)] = [sx_cv1 _ (0, 9, 0)]
      have : ρ2 9 = sx_nu (la_rho xs L i) 9 z 9 := x2 9 (by decide)
      unfold sx_cv1 sx_val
      rw [this]
  rw [e2]
  refine lb_seg_ok gD hL hi m2 hz (sx_32_64 hz32) (fun w hw => ?_) kk
  rcases List.mem_cons.mp hw with rfl | hw
  · exact z1 _ List.mem_cons_self
  · rcases htl with rfl | rfl
    · cases hw
    · exact z1 w hw
end
