/-! The law's loop: one round of it. -/
section
variable {L : Nat} {xs : Nat → Int32} {d pc i : Nat} {lv : sm_V} {s : List Value} {h : sm_H} {M : Nat → Nat → Int} {WF : (Nat → Nat → Int) → Prop}
theorem la_car {ins : Instr} {len k : Nat} {as rest : List Value} {v : Value} {h1 : sm_H} {F1 : Nat} (hf : (sm_MT 0).2.2.2.2.2 pc = some (ins, len)) (hl : len = sm_len ins len) (hr : sm_ret (sm_MT 0).2.2.1 ins s = none) (hc : sm_call (sm_LK (sm_MT 0).1) (fun k => (sm_MT k).2.2.2.1) ins s h = some (k, as, rest)) (hq : sm_sum rest ≤ 8 ∧ (lg_sl as).length ≤ (sm_MT k).2.1) (hrun : sm_run sm_MT sm_LK (sm_RO L xs) sm_NV sm_cq F1 d k 0 (lv_args 0 as) [] h = some (some v, h1)) (kk : la_R L xs (d + 1) (pc + 3) lv (v :: rest) h1) : la_R L xs (d + 1) pc lv s h := by
  obtain ⟨F, hf9, e, e1⟩ := kk
  refine ⟨max F F1 + 1, hf9, ?_, e1⟩
  rw [sm_run_f hf hl, hr, hc]
  show (if sm_sum rest ≤ 8 ∧ (lg_sl as).length ≤ (sm_MT k).2.1 then _ else none) = _
  rw [if_pos hq, sm_fuel hrun (Nat.le_max_right _ _)]
  exact sm_fuel e (Nat.le_max_left _ _)
theorem la_pop {z : Int32} (hf : (sm_MT 0).2.2.2.2.2 pc = some (.pop, 1)) (k : la_R L xs d (pc + 1) lv [] h) : la_R L xs d pc lv [.int z] h :=
  la_st (ins := .pop) (len := 1) (o := (pc + 1, lv, [], h)) hf rfl rfl rfl rfl k
theorem la_le {a b : sm_V} (hle : lo_le a b) (k : la_R L xs d pc a s h) : la_R L xs d pc b s h := by
  obtain ⟨F, hf, e, e1⟩ := k
  exact ⟨F, hf, lo_run _ _ _ _ _ _ _ _ _ hle e, e1⟩
def la_un (c : ct_C) (p : Nat × Nat) : Bool := sx_an (Nat.blt p.1 128) (bif c.2.2.2.1.any (Nat.beq p.1) then false else bif c.2.2.1.any (fun g => sx_an (Nat.beq g.1 p.1) (Nat.beq g.2.1 p.2)) then false else true)
def la_dis (cps : List la_P) (q : la_S) : Bool := sx_an (bif la_un q.2.2 (10, 210) then true else q.2.2.2.2.1.any (fun g => sx_an (sx_an (Nat.beq g.1 10) (Nat.beq g.2.1 210)) (sx_in g.2.2 (0, 29)))) (cps.all fun w => sx_an (la_un q.2.2 w.1) (la_un q.2.2 w.2.1))
noncomputable def la_popat (pc : Nat) : Bool := match (sm_MT 0).2.2.2.2.2 pc with
  | some (.pop, 1) => true
  | _ => false
theorem la_popat_ok (hp : la_popat pc = true) : (sm_MT 0).2.2.2.2.2 pc = some (.pop, 1) := by
  unfold la_popat at hp
  split at hp
  · assumption
  · cases hp
theorem la_un_ok {c : ct_C} {p : Nat × Nat} {M' : Nat → Nat → Int} (hu : la_un c p = true) (hf : ct_fr c M M') : M' p.1 p.2 = M p.1 p.2 := by
  obtain ⟨h1, hu⟩ := sx_an_iff.mp hu
  cases e1 : c.2.2.2.1.any (Nat.beq p.1)
  · rw [e1] at hu
    cases e2 : c.2.2.1.any (fun g => sx_an (Nat.beq g.1 p.1) (Nat.beq g.2.1 p.2))
    · refine hf p.1 p.2 (sx_blt h1) (fun hm => ?_) (fun g hg e3 e4 => ?_)
      · have : c.2.2.2.1.any (Nat.beq p.1) = true := List.any_eq_true.mpr ⟨p.1, hm, Nat.beq_refl _⟩
        rw [this] at e1; cases e1
      · have : c.2.2.1.any (fun g => sx_an (Nat.beq g.1 p.1) (Nat.beq g.2.1 p.2)) = true := List.any_eq_true.mpr ⟨g, hg, sx_an_iff.mpr ⟨sx_nbeq.mpr e3, sx_nbeq.mpr e4⟩⟩
        rw [this] at e2; cases e2
    · rw [e2] at hu; cases hu
  · rw [e1] at hu; cases hu
theorem la_I_sp {cps : List la_P} {q : la_S} {M' : Nat → Nat → Int} (hI : la_I WF cps M) (hd : la_dis cps q = true) (hm : sx_mok cl_ly M') (hf : ct_fr q.2.2 M M') (hg : ct_g q.2.2.2.2.1 M') (hJ : JJ M') (hW : WF M') : la_I WF cps M' := by
  obtain ⟨-, -, -, h4, h5⟩ := hI
  obtain ⟨d1, d2⟩ := sx_an_iff.mp hd
  refine ⟨hm, hJ, hW, ?_, fun w hw => ?_⟩
  · rcases jor d1 with d1 | d1
    · have e : M' 10 210 = M 10 210 := la_un_ok (p := (10, 210)) d1 hf
      rw [e]
      exact h4
    · obtain ⟨g, gm, g1⟩ := List.any_eq_true.mp d1
      obtain ⟨g1, g2⟩ := sx_an_iff.mp g1
      obtain ⟨g1, g3⟩ := sx_an_iff.mp g1
      have g2 := sx_in_iff.mp g2
      have hw := hg g gm
      rw [sx_nbeq.mp g1, sx_nbeq.mp g3] at hw
      exact ⟨Int.le_trans g2.1 hw.1, Int.le_trans hw.2 g2.2⟩
  · obtain ⟨u1, u2⟩ := sx_an_iff.mp (List.all_eq_true.mp d2 w hw)
    rw [la_un_ok u1 hf, la_un_ok u2 hf]
    exact h5 w hw
theorem la_node {cts : List (Nat × ct_C)} {cps : List la_P} {sps : List la_S} {fc f P : Nat} (hc : la_chk cts cps sps fc f P = true) (hds : (sps.all fun q => sx_an (la_dis cps q) (la_popat (q.1 + 3))) = true) (hz : ∀ M M' : Nat → Nat → Int, (∀ z ∈ cz_zs, M' z = M z) → WF M → WF M') (hall : ∀ c ∈ cts, cc WF L xs c.1 c.2) (hL : L ≤ 3072) (hi : i + 6 ≤ L) (hI : la_I WF cps M) (hsp : ∀ q ∈ sps, la_sp WF L xs q.2.1 q.2.2) (k18 : ∀ M', la_I WF cps M' → la_R L xs 100 18 (la_lv (Int32.ofInt ((i : Int) + 6))) [] (sx_HH cl_lay cl_rf M')) (ksp : ∀ q ∈ sps, ∀ M', la_I WF cps M' → la_R L xs 100 (q.1 + 4) (la_lv (Int32.ofInt (i : Int))) [] (sx_HH cl_lay cl_rf M')) : la_R L xs 100 P (la_lv (Int32.ofInt (i : Int))) [] (sx_HH cl_lay cl_rf M) := by
  obtain ⟨hg, hc⟩ := sx_an_iff.mp hc
  have s0 := la_sat0 (xs := xs) hL hi hI.1
  obtain ⟨ρ1, a1, a2, s1⟩ := ct_get_ok (l := la_gi) s0 (fun g hg => by
    simp only [la_gi, List.mem_cons, List.not_mem_nil, or_false] at hg
    rcases hg with rfl | rfl | rfl
    · have w := hI.2.2.2.1
      exact ⟨Nat.le_of_ble_eq_true rfl, w, sx_32_64 ⟨Int.le_trans (by decide) w.1, Int.le_trans w.2 (by decide)⟩⟩
    · have w : sx_w (0, 40) (M 53 14) := cv_ly_ok (g := (53, 14, 0, 40)) hI.1 (by decide +kernel)
      exact ⟨Nat.le_of_ble_eq_true rfl, w, sx_32_64 ⟨Int.le_trans (by decide) w.1, Int.le_trans w.2 (by decide)⟩⟩
    · have w : sx_w (0, 40) (M 53 15) := cv_ly_ok (g := (53, 15, 0, 40)) hI.1 (by decide +kernel)
      exact ⟨Nat.le_of_ble_eq_true rfl, w, sx_32_64 ⟨Int.le_trans (by decide) w.1, Int.le_trans w.2 (by decide)⟩⟩)
  obtain ⟨ρ2, b1, b2, s2⟩ := la_cp_ok (l := cps) s1 hg hI.2.2.2.2
  have x02 := sx_ext_tr a1 b1 a2
  have r8 : ρ2 8 = (i : Int) := by rw [x02 8 (Nat.le_of_ble_eq_true rfl)]; rfl
  have hn : 9 ≤ (la_go cps).1 := s2.1
  have hok : sx_okl ρ2 (la_go cps).1 la_l0 := by
    intro q hq
    simp only [la_l0, List.mem_cons, List.not_mem_nil, or_false] at hq
    rcases hq with rfl | rfl | rfl | rfl
    · refine ⟨by show 8 < (la_go cps).1; omega, fun _ => ?_, fun h => by cases h⟩
      show sx_w sx_r32 (ρ2 8 + 0)
      rw [r8, sx_r32_iff]; omega
    all_goals exact sx_ck2 s2 _
  have hlv : sx_cl1 ρ2 la_l0 = la_lv (Int32.ofInt (i : Int)) := by
    show [(3, Value.int (Int32.ofInt (ρ2 8 + 0))), _, _, _] = _
    rw [r8, Int.add_zero]
    rfl
  cases e : sx_seg (fun _ _ => none) cl_ly cl_rc (8, 0) false sm_MT sm_LK (fun _ => false) (ct_hk cl_ly true cz_zs cts) (fun pc => bif Nat.beq pc 18 then true else sps.any fun q => Nat.beq q.1 pc) fc f 100 0 true P la_l0 [] (la_go cps) with
  | none => rw [e] at hc; cases hc
  | some os =>
    rw [e] at hc
    have hbs : sx_hbs cl_ly (fun _ _ => none) M := fun k h i c _ _ _ e => by cases e
    obtain ⟨o, om, ρ', M', x1, x2, x3, x4⟩ := sx_seg_ok (NV := sm_NV) (cq := sm_cq) (RO := sm_RO L xs) cl_lok hbs cl_hrf (cl_hro L xs) (ct_hk_ok hz (fun _ => hI.2.2.1) hall) f 100 0 true P la_l0 [] (la_go cps) os ρ2 M e s2 hok (fun v hv => by cases hv)
    have ho := List.all_eq_true.mp hc o om
    rw [hlv] at x4
    have r8' : ρ' 8 = (i : Int) := by rw [x1 8 (by omega)]; exact r8
    have cont : ∀ {lv9 : sm_V} {s9 : List Value}, o.1 = none → lo_le lv9 (sx_cl1 ρ' o.2.2.1) → sx_cs1 ρ' o.2.2.2.1 = s9 → la_R L xs 100 o.2.1 lv9 s9 (sx_HH cl_lay cl_rf M') → la_R L xs 100 P (la_lv (Int32.ofInt (i : Int))) [] (sx_HH cl_lay cl_rf M) := by
      intro lv9 s9 h1 hle h2 k
      obtain ⟨F, hf, e9, e8⟩ := la_le hle k
      rcases x4 with ⟨r, w1, -⟩ | ⟨-, -, -, -, w5⟩
      · rw [w1] at h1; cases h1
      · rw [← h2] at e9
        obtain ⟨F', e7⟩ := w5 F _ _ e9
        exact ⟨F', hf, e7, e8⟩
    unfold la_out at ho
    cases eo : o.1 with
    | some r => rw [eo] at ho; cases ho
    | none =>
      rw [eo] at ho
      have okl' : sx_okl ρ' o.2.2.2.2.1 o.2.2.1 ∧ sx_oks ρ' o.2.2.2.2.1 o.2.2.2.1 := by
        rcases x4 with ⟨r, w1, -⟩ | ⟨-, -, w3, w4, -⟩
        · rw [w1] at eo; cases eo
        · exact ⟨w3, w4⟩
      cases e18 : Nat.beq o.2.1 18
      · rw [e18] at ho
        obtain ⟨q, hq, h1⟩ := List.any_eq_true.mp (show (sps.any fun q => sx_an (Nat.beq q.1 o.2.1) (sx_an (sx_an (la_lk 0 o.2.2.1) (la_call q o.2.2.2.1 o.2.2.2.2)) (la_sk cps (la_go cps) o.2.2.2.2))) = true from ho)
        obtain ⟨h1, h2⟩ := sx_an_iff.mp h1
        obtain ⟨h2, h3⟩ := sx_an_iff.mp h2
        obtain ⟨h2, h4⟩ := sx_an_iff.mp h2
        have h1 := sx_nbeq.mp h1
        have hI' := la_sk_ok hz s2 x1 x3 h3 hI.2.1 hI.2.2.1
        obtain ⟨l1, l2⟩ := la_lk_ok okl'.1 h2
        rw [r8', Int.add_zero] at l2
        obtain ⟨d1, d2⟩ := sx_an_iff.mp (List.all_eq_true.mp hds q hq)
        refine cont eo ⟨la_lv_nd _, l1, l2⟩ rfl ?_
        unfold la_call at h4
        cases ef : (sm_MT 0).2.2.2.2.2 q.1 with
        | none => rw [ef] at h4; cases h4
        | some il =>
          obtain ⟨ins, len⟩ := il
          rw [ef] at h4
          obtain ⟨g1, g2⟩ := sx_an_iff.mp h4
          obtain ⟨g1, g3⟩ := sx_an_iff.mp g1
          cases ec : sx_call cl_ly (sm_LK (sm_MT 0).1) (fun k => (sm_MT k).2.2.2.1) ins o.2.2.2.1 with
          | none => rw [ec] at g2; cases g2
          | some kr =>
            obtain ⟨k, as, rest⟩ := kr
            rw [ec] at g2
            obtain ⟨g2, g4⟩ := sx_an_iff.mp g2
            obtain ⟨g2, g5⟩ := sx_an_iff.mp g2
            obtain ⟨g4, g6⟩ := sx_an_iff.mp g4
            obtain ⟨g6, g7⟩ := sx_an_iff.mp g6
            obtain ⟨g6, g8⟩ := sx_an_iff.mp g6
            obtain ⟨g7, g9⟩ := sx_an_iff.mp g7
            have g2 := sx_nbeq.mp g2
            subst g2
            obtain ⟨c1, c2, c3, c4⟩ := sx_call_ok (M := M') (lay := cl_lay) (rf := cl_rf) cl_lok okl'.2 ec
            obtain ⟨F1, r, M2, f1, f2, f3, f4, f5, f6, f7⟩ := hsp q hq 99 (sx_cs1 ρ' as) M' (Nat.le_of_ble_eq_true g7) (ct_fvs_ok x3 c2 g6) (fun g hg => ct_fg_ok x3 (List.all_eq_true.mp g8 g hg)) hI'.1 hI'.2.1 hI'.2.2.1
            have hr0 : rest = [] := List.eq_nil_of_length_eq_zero (sx_nbeq.mp g5)
            subst hr0
            cases er : q.2.2.2.2.2.2.1 with
            | none => rw [er] at g9; cases g9
            | some w =>
              rw [er] at g9 f5
              have g9 := sx_nbeq.mp (show Nat.beq w.1 0 = true from g9)
              cases r with
              | none => cases f5
              | some v =>
                obtain ⟨z, rfl⟩ : ∃ z, v = .int z := by
                  rcases f5 with ⟨-, z, e1, -⟩ | ⟨k0, -⟩ | ⟨k0, -⟩
                  · exact ⟨_, e1⟩
                  · omega
                  · omega
                rw [← h1]
                have len3 := sx_nbeq.mp g3
                refine la_car (d := 99) (rest := []) (v := .int z) (F1 := F1) ef (sx_nbeq.mp g1) (c4 _ _) c1 ⟨Nat.zero_le _, by rw [sx_sl_len]; exact Nat.le_of_ble_eq_true g4⟩ f1 ?_
                exact la_pop (pc := q.1 + 3) (la_popat_ok d2) (ksp q hq M2 (la_I_sp hI' d1 f2 f3 f4 f6 f7))
      · rw [e18] at ho
        obtain ⟨h1, h2⟩ := sx_an_iff.mp (show sx_an (sx_an (Nat.beq o.2.2.2.1.length 0) (la_lk 6 o.2.2.1)) (la_sk cps (la_go cps) o.2.2.2.2) = true from ho)
        obtain ⟨h1, h3⟩ := sx_an_iff.mp h1
        have hI' := la_sk_ok hz s2 x1 x3 h2 hI.2.1 hI.2.2.1
        obtain ⟨l1, l2⟩ := la_lk_ok okl'.1 h3
        rw [r8'] at l2
        have hs0 : sx_cs1 ρ' o.2.2.2.1 = [] := by rw [List.eq_nil_of_length_eq_zero (sx_nbeq.mp h1)]; rfl
        refine cont eo ⟨la_lv_nd _, l1, l2⟩ hs0 ?_
        rw [sx_nbeq.mp e18]
        exact k18 M' hI'
end
