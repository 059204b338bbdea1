/-! The law's loop, with pairs of calls that are taken by hand, and what else holds at its head. -/
section
variable {L : Nat} {xs : Nat → Int32} {i : Nat} {M M' M1 M2 : Nat → Nat → Int} {ρ : Nat → Int} {t t0 : sx_S} {WF SS : (Nat → Nat → Int) → Prop}
/-- a stop before a pair: where, what stands on the stack (by the symbols of the script) -/
abbrev lb_Q : Type := Nat × List sx_V
/-- the predicate speaks of these cells and places alone -/
def lb_fp (zc : List Nat) (zp : List (Nat × Nat)) (SS : (Nat → Nat → Int) → Prop) : Prop := ∀ M M' : Nat → Nat → Int, (∀ z ∈ zc, M' z = M z) → (∀ p ∈ zp, M' p.1 p.2 = M p.1 p.2) → SS M → SS M'
noncomputable def lb_un (zc : List Nat) (zp : List (Nat × Nat)) (t0 t : sx_S) : Bool := sx_an (zc.all fun z => sx_an (Nat.blt z 128) (Nat.beq (sx_tg 7 t.2.2.2 z).1 0)) (zp.all fun p => ju t0 t p)
theorem lb_un_ok {zc : List Nat} {zp : List (Nat × Nat)} {ρ0 : Nat → Int} {M0 : Nat → Nat → Int} (hfp : lb_fp zc zp SS) (hs0 : sx_sat cl_ly (8, 0) xs L M0 ρ0 M0 t0) (hx : sx_ext t0.1 ρ0 ρ) (hs : sx_sat cl_ly (8, 0) xs L M0 ρ M t) (h : lb_un zc zp t0 t = true) (hS : SS M0) : SS M := by
  obtain ⟨h1, h2⟩ := sx_an_iff.mp h
  refine hfp M0 M (fun z hz => ?_) (fun p hp => ju_ok hs0 hx hs (List.all_eq_true.mp h2 p hp)) hS
  obtain ⟨a, b⟩ := sx_an_iff.mp (List.all_eq_true.mp h1 z hz)
  obtain ⟨-, g0, -, -, l4⟩ := hs.2.2.2.2.2.2.1 z (sx_blt a)
  exact l4 (sx_nbeq.mp b)
/-- a contract touches none of them -/
def lb_cu (zc : List Nat) (zp : List (Nat × Nat)) (c : ct_C) : Bool := sx_an (zc.all fun z => sx_an (Nat.blt z 128) (bif c.2.2.2.1.any (Nat.beq z) then false else bif c.2.2.1.any (fun g => Nat.beq g.1 z) then false else true)) (zp.all fun p => la_un c p)
theorem lb_cu_ok {zc : List Nat} {zp : List (Nat × Nat)} {c : ct_C} (hfp : lb_fp zc zp SS) (h : lb_cu zc zp c = true) (hf : ct_fr c M M') (hS : SS M) : SS M' := by
  obtain ⟨h1, h2⟩ := sx_an_iff.mp h
  refine hfp M M' (fun z hz => ?_) (fun p hp => la_un_ok (List.all_eq_true.mp h2 p hp) hf) hS
  obtain ⟨a, b⟩ := sx_an_iff.mp (List.all_eq_true.mp h1 z hz)
  funext i
  cases e1 : c.2.2.2.1.any (Nat.beq z)
  · rw [e1] at b
    cases e2 : c.2.2.1.any (fun g => Nat.beq g.1 z)
    · refine hf z i (sx_blt a) (fun hm => ?_) (fun g hg e3 => ?_)
      · have : c.2.2.2.1.any (Nat.beq z) = true := List.any_eq_true.mpr ⟨z, hm, Nat.beq_refl _⟩
        rw [this] at e1; cases e1
      · have : c.2.2.1.any (fun g => Nat.beq g.1 z) = true := List.any_eq_true.mpr ⟨g, hg, sx_nbeq.mpr e3⟩
        rw [this] at e2; cases e2
    · rw [e2] at b; cases b
  · rw [e1] at b; cases b
noncomputable def lb_out (cps : List la_P) (zc : List Nat) (zp : List (Nat × Nat)) (sps : List la_S) (sqs : List lb_Q) (t0 : sx_S) (o : sx_P) : Bool := match o.1 with
  | some _ => false
  | none => sx_an (sx_an (la_sk cps t0 o.2.2.2.2) (lb_un zc zp t0 o.2.2.2.2)) (bif Nat.beq o.2.1 18 then sx_an (Nat.beq o.2.2.2.1.length 0) (la_lk 6 o.2.2.1) else sx_an (la_lk 0 o.2.2.1) (bif sps.any (fun q => sx_an (Nat.beq q.1 o.2.1) (la_call q o.2.2.2.1 o.2.2.2.2)) then true else sqs.any fun q => sx_an (Nat.beq q.1 o.2.1) (sx_an (tk_sk q.2 o.2.2.2.1) (q.2.all fun v => Nat.blt v.2.1 9))))
noncomputable def lb_chk (cts : List (Nat × ct_C)) (cps : List la_P) (zc : List Nat) (zp : List (Nat × Nat)) (sps : List la_S) (sqs : List lb_Q) (fc f P : Nat) : Bool := sx_an (la_gd cps) (match sx_seg (fun _ _ => none) cl_ly cl_rc (8, 0) false sm_MT sm_LK (fun _ => false) (ct_hk cl_ly true cz_zs cts) (fun pc => bif Nat.beq pc 18 then true else bif sps.any (fun q => Nat.beq q.1 pc) then true else sqs.any fun q => Nat.beq q.1 pc) fc f 100 0 true P la_l0 [] (la_go cps) with
  | some os => os.all (lb_out cps zc zp sps sqs (la_go cps))
  | none => false)
theorem lb_node {cts : List (Nat × ct_C)} {cps : List la_P} {zc : List Nat} {zp : List (Nat × Nat)} {sps : List la_S} {sqs : List lb_Q} {fc f P : Nat} (hc : lb_chk cts cps zc zp sps sqs fc f P = true) (hfp : lb_fp zc zp SS) (hds : (sps.all fun q => sx_an (sx_an (la_dis cps q) (lb_cu zc zp q.2.2)) (la_popat (q.1 + 3))) = true) (hz : ∀ M M' : Nat → Nat → Int, (∀ z ∈ cz_zs, M' z = M z) → WF M → WF M') (hall : ∀ c ∈ cts, cc WF L xs c.1 c.2) (hL : L ≤ 3072) (hi : i + 6 ≤ L) (hI : la_I WF cps M) (hS : SS M) (hsp : ∀ q ∈ sps, la_sp WF L xs q.2.1 q.2.2) (k18 : ∀ M', la_I WF cps M' → SS M' → la_R L xs 100 18 (la_lv (Int32.ofInt ((i : Int) + 6))) [] (sx_HH cl_lay cl_rf M')) (ksp : ∀ q ∈ sps, ∀ M', la_I WF cps M' → SS M' → la_R L xs 100 (q.1 + 4) (la_lv (Int32.ofInt (i : Int))) [] (sx_HH cl_lay cl_rf M')) (ksq : ∀ q ∈ sqs, ∀ M', la_I WF cps M' → SS M' → la_R L xs 100 q.1 (la_lv (Int32.ofInt (i : Int))) (sx_cs1 (la_rho xs L i) q.2) (sx_HH cl_lay cl_rf M')) : la_R L xs 100 P (la_lv (Int32.ofInt (i : Int))) [] (sx_HH cl_lay cl_rf M) := by
  obtain ⟨hg, hc⟩ := sx_an_iff.mp hc
  have s0 := la_sat0 (xs := xs) hL hi hI.1
  obtain ⟨ρ1, a1, a2, s1⟩ := ct_get_ok (l := la_gi) s0 (fun g hg => by
    simp only [la_gi, List.mem_cons, List.not_mem_nil, or_false] at hg
    rcases hg with rfl | rfl | rfl
    · have w := hI.2.2.2.1
      exact ⟨Nat.le_of_ble_eq_true rfl, w, sx_32_64 ⟨Int.le_trans (by decide) w.1, Int.le_trans w.2 (by decide)⟩⟩
    · have w : sx_w (0, 40) (M 53 14) := cv_ly_ok (g := (53, 14, 0, 40)) hI.1 (by decide +kernel)
      exact ⟨Nat.le_of_ble_eq_true rfl, w, sx_32_64 ⟨Int.le_trans (by decide) w.1, Int.le_trans w.2 (by decide)⟩⟩
    · have w : sx_w (0, 40) (M 53 15) := cv_ly_ok (g := (53, 15, 0, 40)) hI.1 (by decide +kernel)
      exact ⟨Nat.le_of_ble_eq_true rfl, w, sx_32_64 ⟨Int.le_trans (by decide) w.1, Int.le_trans w.2 (by decide)⟩⟩)
  obtain ⟨ρ2, b1, b2, s2⟩ := la_cp_ok (l := cps) s1 hg hI.2.2.2.2
  have x02 := sx_ext_tr a1 b1 a2
  have r8 : ρ2 8 = (i : Int) := by rw [x02 8 (Nat.le_of_ble_eq_true rfl)]; rfl
  have hn : 9 ≤ (la_go cps).1 := s2.1
  have hok : sx_okl ρ2 (la_go cps).1 la_l0 := by
    intro q hq
    simp only [la_l0, List.mem_cons, List.not_mem_nil, or_false] at hq
    rcases hq with rfl | rfl | rfl | rfl
    · refine ⟨by show 8 < (la_go cps).1; omega, fun _ => ?_, fun h => by cases h⟩
      show sx_w sx_r32 (ρ2 8 + 0)
      rw [r8, sx_r32_iff]; omega
    all_goals exact sx_ck2 s2 _
  have hlv : sx_cl1 ρ2 la_l0 = la_lv (Int32.ofInt (i : Int)) := by
    show [(3, Value.int (Int32.ofInt (ρ2 8 + 0))), _, _, _] = _
    rw [r8, Int.add_zero]
    rfl
  cases e : sx_seg (fun _ _ => none) cl_ly cl_rc (8, 0) false sm_MT sm_LK (fun _ => false) (ct_hk cl_ly true cz_zs cts) (fun pc => bif Nat.beq pc 18 then true else bif sps.any (fun q => Nat.beq q.1 pc) then true else sqs.any fun q => Nat.beq q.1 pc) fc f 100 0 true P la_l0 [] (la_go cps) with
  | none => rw [e] at hc; cases hc
  | some os =>
    rw [e] at hc
    have hbs : sx_hbs cl_ly (fun _ _ => none) M := fun k h i c _ _ _ e => by cases e
    obtain ⟨o, om, ρ', M', x1, x2, x3, x4⟩ := sx_seg_ok (NV := sm_NV) (cq := sm_cq) (RO := sm_RO L xs) cl_lok hbs cl_hrf (cl_hro L xs) (ct_hk_ok hz (fun _ => hI.2.2.1) hall) f 100 0 true P la_l0 [] (la_go cps) os ρ2 M e s2 hok (fun v hv => by cases hv)
    have ho := List.all_eq_true.mp hc o om
    rw [hlv] at x4
    have r8' : ρ' 8 = (i : Int) := by rw [x1 8 (by omega)]; exact r8
    have cont : ∀ {lv9 : sm_V} {s9 : List Value}, o.1 = none → lo_le lv9 (sx_cl1 ρ' o.2.2.1) → sx_cs1 ρ' o.2.2.2.1 = s9 → la_R L xs 100 o.2.1 lv9 s9 (sx_HH cl_lay cl_rf M') → la_R L xs 100 P (la_lv (Int32.ofInt (i : Int))) [] (sx_HH cl_lay cl_rf M) := by
      intro lv9 s9 h1 hle h2 k
      obtain ⟨F, hf, e9, e8⟩ := la_le hle k
      rcases x4 with ⟨r, w1, -⟩ | ⟨-, -, -, -, w5⟩
      · rw [w1] at h1; cases h1
      · rw [← h2] at e9
        obtain ⟨F', e7⟩ := w5 F _ _ e9
        exact ⟨F', hf, e7, e8⟩
    unfold lb_out at ho
    cases eo : o.1 with
    | some r => rw [eo] at ho; cases ho
    | none =>
      rw [eo] at ho
      have okl' : sx_okl ρ' o.2.2.2.2.1 o.2.2.1 ∧ sx_oks ρ' o.2.2.2.2.1 o.2.2.2.1 := by
        rcases x4 with ⟨r, w1, -⟩ | ⟨-, -, w3, w4, -⟩
        · rw [w1] at eo; cases eo
        · exact ⟨w3, w4⟩
      obtain ⟨hsk, ho⟩ := sx_an_iff.mp ho
      obtain ⟨hsk, hun⟩ := sx_an_iff.mp hsk
      have hI' := la_sk_ok hz s2 x1 x3 hsk hI.2.1 hI.2.2.1
      have hS' := lb_un_ok hfp s2 x1 x3 hun hS
      cases e18 : Nat.beq o.2.1 18
      · rw [e18] at ho
        obtain ⟨h2, h1⟩ := sx_an_iff.mp (show sx_an (la_lk 0 o.2.2.1) (bif sps.any (fun q => sx_an (Nat.beq q.1 o.2.1) (la_call q o.2.2.2.1 o.2.2.2.2)) then true else sqs.any fun q => sx_an (Nat.beq q.1 o.2.1) (sx_an (tk_sk q.2 o.2.2.2.1) (q.2.all fun v => Nat.blt v.2.1 9))) = true from ho)
        obtain ⟨l1, l2⟩ := la_lk_ok okl'.1 h2
        rw [r8', Int.add_zero] at l2
        rcases jor h1 with h1 | h1
        · obtain ⟨q, hq, h1⟩ := List.any_eq_true.mp h1
          obtain ⟨h1, h4⟩ := sx_an_iff.mp h1
          have h1 := sx_nbeq.mp h1
          obtain ⟨d1, d2⟩ := sx_an_iff.mp (List.all_eq_true.mp hds q hq)
          obtain ⟨d1, d3⟩ := sx_an_iff.mp d1
          refine cont eo ⟨la_lv_nd _, l1, l2⟩ rfl ?_
          unfold la_call at h4
          cases ef : (sm_MT 0).2.2.2.2.2 q.1 with
          | none => rw [ef] at h4; cases h4
          | some il =>
            obtain ⟨ins, len⟩ := il
            rw [ef] at h4
            obtain ⟨g1, g2⟩ := sx_an_iff.mp h4
            obtain ⟨g1, g3⟩ := sx_an_iff.mp g1
            cases ec : sx_call cl_ly (sm_LK (sm_MT 0).1) (fun k => (sm_MT k).2.2.2.1) ins o.2.2.2.1 with
            | none => rw [ec] at g2; cases g2
            | some kr =>
              obtain ⟨k, as, rest⟩ := kr
              rw [ec] at g2
              obtain ⟨g2, g4⟩ := sx_an_iff.mp g2
              obtain ⟨g2, g5⟩ := sx_an_iff.mp g2
              obtain ⟨g4, g6⟩ := sx_an_iff.mp g4
              obtain ⟨g6, g7⟩ := sx_an_iff.mp g6
              obtain ⟨g6, g8⟩ := sx_an_iff.mp g6
              obtain ⟨g7, g9⟩ := sx_an_iff.mp g7
              have g2 := sx_nbeq.mp g2
              subst g2
              obtain ⟨c1, c2, c3, c4⟩ := sx_call_ok (M := M') (lay := cl_lay) (rf := cl_rf) cl_lok okl'.2 ec
              obtain ⟨F1, r, M2, f1, f2, f3, f4, f5, f6, f7⟩ := hsp q hq 99 (sx_cs1 ρ' as) M' (Nat.le_of_ble_eq_true g7) (ct_fvs_ok x3 c2 g6) (fun g hg => ct_fg_ok x3 (List.all_eq_true.mp g8 g hg)) hI'.1 hI'.2.1 hI'.2.2.1
              have hr0 : rest = [] := List.eq_nil_of_length_eq_zero (sx_nbeq.mp g5)
              subst hr0
              cases er : q.2.2.2.2.2.2.1 with
              | none => rw [er] at g9; cases g9
              | some w =>
                rw [er] at g9 f5
                have g9 := sx_nbeq.mp (show Nat.beq w.1 0 = true from g9)
                cases r with
                | none => cases f5
                | some v =>
                  obtain ⟨z, rfl⟩ : ∃ z, v = .int z := by
                    rcases f5 with ⟨-, z, e1, -⟩ | ⟨k0, -⟩ | ⟨k0, -⟩
                    · exact ⟨_, e1⟩
                    · omega
                    · omega
                  rw [← h1]
                  have len3 := sx_nbeq.mp g3
                  refine la_car (d := 99) (rest := []) (v := .int z) (F1 := F1) ef (sx_nbeq.mp g1) (c4 _ _) c1 ⟨Nat.zero_le _, by rw [sx_sl_len]; exact Nat.le_of_ble_eq_true g4⟩ f1 ?_
                  exact la_pop (pc := q.1 + 3) (la_popat_ok d2) (ksp q hq M2 (la_I_sp hI' d1 f2 f3 f4 f6 f7) (lb_cu_ok hfp d3 f3 hS'))
        · obtain ⟨q, hq, h1⟩ := List.any_eq_true.mp h1
          obtain ⟨h1, h3⟩ := sx_an_iff.mp h1
          obtain ⟨h3, h4⟩ := sx_an_iff.mp h3
          have h1 := sx_nbeq.mp h1
          have e0 := tk_sk_ok h3
          refine cont eo ⟨la_lv_nd _, l1, l2⟩ rfl ?_
          rw [← h1, e0]
          have e9 : sx_cs1 ρ' q.2 = sx_cs1 (la_rho xs L i) q.2 := List.map_congr_left fun v hv => by
            have hv9 := sx_blt (List.all_eq_true.mp h4 v hv)
            have : ρ' v.2.1 = la_rho xs L i v.2.1 := by
              rw [x1 v.2.1 (by omega), x02 v.2.1 hv9]
            unfold sx_cv1 sx_val
            rw [this]
          rw [e9]
          exact ksq q hq M' hI' hS'
      · rw [e18] at ho
        obtain ⟨h1, h3⟩ := sx_an_iff.mp (show sx_an (Nat.beq o.2.2.2.1.length 0) (la_lk 6 o.2.2.1) = true from ho)
        obtain ⟨l1, l2⟩ := la_lk_ok okl'.1 h3
        rw [r8'] at l2
        have hs0 : sx_cs1 ρ' o.2.2.2.1 = [] := by rw [List.eq_nil_of_length_eq_zero (sx_nbeq.mp h1)]; rfl
        refine cont eo ⟨la_lv_nd _, l1, l2⟩ hs0 ?_
        rw [sx_nbeq.mp e18]
        exact k18 M' hI' hS'
end
