/-! The law's loop: one round of it. -/
section
variable {L : Nat} {xs : Nat → Int32} {d pc i : Nat} {lv : sm_V} {s : List Value} {h : sm_H} {M : Nat → Nat → Int} {WF : (Nat → Nat → Int) → Prop}
theorem la_car {ins : Instr} {len k : Nat} {as rest : List Value} {v : Value} {h1 : sm_H} {F1 : Nat} (hf : (sm_MT 0).2.2.2.2.2 pc = some (ins, len)) (hl : len = sm_len ins len) (hr : sm_ret (sm_MT 0).2.2.1 ins s = none) (hc : sm_call (sm_LK (sm_MT 0).1) (fun k => (sm_MT k).2.2.2.1) ins s h = some (k, as, rest)) (hq : sm_sum rest ≤ 8 ∧ (lg_sl as).length ≤ (sm_MT k).2.1) (hrun : sm_run sm_MT sm_LK (sm_RO L xs) sm_NV sm_cq F1 d k 0 (lv_args 0 as) [] h = some (some v, h1)) (kk : la_R L xs (d + 1) (pc + 3) lv (v :: rest) h1) : la_R L xs (d + 1) pc lv s h := by
  obtain ⟨F, hf9, e, e1⟩ := kk
  refine ⟨max F F1 + 1, hf9, ?_, e1⟩
  rw [sm_run_f hf hl, hr, hc]
  show (if sm_sum rest ≤ 8 ∧ (lg_sl as).length ≤ (sm_MT k).2.1 then _ else none) = _
  rw [if_pos hq, sm_fuel hrun (Nat.le_max_right _ _)]
  exact sm_fuel e (Nat.le_max_left _ _)
theorem la_pop {z : Int32} (hf : (sm_MT 0).2.2.2.2.2 pc = some (.pop, 1)) (k : la_R L xs d (pc + 1) lv [] h) : la_R L xs d pc lv [.int z] h :=
  la_st (ins := .pop) (len := 1) (o := (pc + 1, lv, [], h)) hf rfl rfl rfl rfl k
theorem la_le {a b : sm_V} (hle : lo_le a b) (k : la_R L xs d pc a s h) : la_R L xs d pc b s h := by
  obtain ⟨F, hf, e, e1⟩ := k
  exact ⟨F, hf, lo_run _ _ _ _ _ _ _ _ _ hle e, e1⟩
def la_un (c : ct_C) (p : Nat × Nat) : Bool := sx_an (Nat.blt p.1 128) (bif c.2.2.2.1.any (Nat.beq p.1) then false else bif c.2.2.1.any (fun g => sx_an (Nat.beq g.1 p.1) (Nat.beq g.2.1 p.2)) then false else true)
def la_dis (cps : List la_P) (q : la_S) : Bool := sx_an (bif la_un q.2.2 (10, 210) then true else q.2.2.2.2.1.any (fun g => sx_an (sx_an (Nat.beq g.1 10) (Nat.beq g.2.1 210)) (sx_in g.2.2 (0, 29)))) (cps.all fun w => sx_an (la_un q.2.2 w.1) (la_un q.2.2 w.2.1))
noncomputable def la_popat (pc : Nat) : Bool := match (sm_MT 0).2.2.2.2.2 pc with
  | some (.pop, 1) => true
  | _ => false
theorem la_popat_ok (hp : la_popat pc = true) : (sm_MT 0).2.2.2.2.2 pc = some (.pop, 1) := by
  unfold la_popat at hp
  split at hp
  · assumption
  · cases hp
theorem la_un_ok {c : ct_C} {p : Nat × Nat} {M' : Nat → Nat → Int} (hu : la_un c p = true) (hf : ct_fr c M M') : M' p.1 p.2 = M p.1 p.2 := by
  obtain ⟨h1, hu⟩ := sx_an_iff.mp hu
  cases e1 : c.2.2.2.1.any (Nat.beq p.1)
  · rw [e1] at hu
    cases e2 : c.2.2.1.any (fun g => sx_an (Nat.beq g.1 p.1) (Nat.beq g.2.1 p.2))
    · refine hf p.1 p.2 (sx_blt h1) (fun hm => ?_) (fun g hg e3 e4 => ?_)
      · have : c.2.2.2.1.any (Nat.beq p.1) = true := List.any_eq_true.mpr ⟨p.1, hm, Nat.beq_refl _⟩
        rw [this] at e1; cases e1
      · have : c.2.2.1.any (fun g => sx_an (Nat.beq g.1 p.1) (Nat.beq g.2.1 p.2)) = true := List.any_eq_true.mpr ⟨g, hg, sx_an_iff.mpr ⟨sx_nbeq.mpr e3, sx_nbeq.mpr e4⟩⟩
        rw [this] at e2; cases e2
    · rw [e2] at hu; cases hu
  · rw [e1] at hu; cases hu
theorem la_I_sp {cps : List la_P} {q : la_S} {M' : Nat → Nat → Int} (hI : la_I WF cps M) (hd : la_dis cps q = true) (hm : sx_mok cl_ly M') (hf : ct_fr q.2.2 M M') (hg : ct_g q.2.2.2.2.1 M') (hJ : JJ M') (hW : WF M') : la_I WF cps M' := by
  obtain ⟨-, -, -, h4, h5⟩ := hI
  obtain ⟨d1, d2⟩ := sx_an_iff.mp hd
  refine ⟨hm, hJ, hW, ?_, fun w hw => ?_⟩
  · rcases jor d1 with d1 | d1
    · have e : M' 10 210 = M 10 210 := la_un_ok (p := (10, 210)) d1 hf
      rw [e]
      exact h4
    · obtain ⟨g, gm, g1⟩ := List.any_eq_true.mp d1
      obtain ⟨g1, g2⟩ := sx_an_iff.mp g1
      obtain ⟨g1, g3⟩ := sx_an_iff.mp g1
      have g2 := sx_in_iff.mp g2
      have hw := hg g gm
      rw [sx_nbeq.mp g1, sx_nbeq.mp g3] at hw
      exact ⟨Int.le_trans g2.1 hw.1, Int.le_trans hw.2 g2.2⟩
  · obtain ⟨u1, u2⟩ := sx_an_iff.mp (List.all_eq_true.mp d2 w hw)
    rw [la_un_ok u1 hf, la_un_ok u2 hf]
    exact h5 w hw
end
