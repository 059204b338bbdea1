/-! The reference's evaluator: gives. -/
section
variable {L : Nat} {xs : Nat → Int32} {M MM : Nat → Nat → Int}
/-- the lines of the law that is in force: each part of a line leaves one value -/
def wf_seg (M : Nat → Nat → Int) (a b : Nat) : Prop := (wf_run M (b - a) a 0).isSome = true
def wf_from (M : Nat → Nat → Int) (l : Nat) : Int := if l = 0 then 0 else M 71 (l - 1)
def WF (M : Nat → Nat → Int) : Prop := (0 ≤ M 69 0 ∧ M 69 0 ≤ 61) ∧ ∀ l : Nat, (l : Int) < M 69 0 → 0 ≤ wf_from M l ∧ wf_from M l ≤ M 70 l ∧ M 70 l ≤ M 71 l ∧ M 71 l ≤ 130 ∧ wf_seg M (wf_from M l).toNat (M 70 l).toNat ∧ wf_seg M (M 70 l).toNat (M 71 l).toNat
theorem WF_zs (M M' : Nat → Nat → Int) (h : ∀ z ∈ cz_zs, M' z = M z) (hw : WF M) : WF M' := by
  have e67 : M' 67 = M 67 := h 67 (by decide)
  have e68 : M' 68 = M 68 := h 68 (by decide)
  have e69 : M' 69 = M 69 := h 69 (by decide)
  have e70 : M' 70 = M 70 := h 70 (by decide)
  have e71 : M' 71 = M 71 := h 71 (by decide)
  have ef : ∀ l, wf_from M' l = wf_from M l := fun l => by unfold wf_from; rw [e71]
  have es : ∀ a b, wf_seg M' a b ↔ wf_seg M a b := fun a b => by unfold wf_seg; rw [wf_run_congr e67 e68]
  refine ⟨by rw [e69]; exact hw.1, fun l hl => ?_⟩
  rw [e69] at hl
  obtain ⟨a, b, c, d, e, f⟩ := hw.2 l hl
  rw [ef, e70, e71]
  exact ⟨a, b, c, d, (es _ _).mpr e, (es _ _).mpr f⟩
/-- a walk of sx_seg of which every way is one of those that are told -/
noncomputable def gs_chk (stp : Nat → Bool) (rec : sx_P → Bool) (fc f d j pc : Nat) (lv : sx_L) (s : List sx_V) (t : sx_S) : Bool := match sx_seg (fun _ _ => none) cl_ly cl_rc (0, -100) false sm_MT sm_LK (fun _ => false) mi_nohk stp fc f d j true pc lv s t with
  | some os => os.all rec
  | none => false
theorem gs_use {stp : Nat → Bool} {rec : sx_P → Bool} {fc f d j pc : Nat} {lv : sx_L} {s : List sx_V} {t : sx_S} {ρ : Nat → Int} (h : gs_chk stp rec fc f d j pc lv s t = true) (hs : sx_sat cl_ly (0, -100) xs L MM ρ M t) (hl : sx_okl ρ t.1 lv) (hk : sx_oks ρ t.1 s) : ∃ o ρ' M', rec o = true ∧ sx_ext t.1 ρ ρ' ∧ t.1 ≤ o.2.2.2.2.1 ∧ sx_sat cl_ly (0, -100) xs L MM ρ' M' o.2.2.2.2 ∧ ((∃ r, o.1 = some r ∧ sx_rok ρ' o.2.2.2.2.1 r ∧ ∃ F, sm_run sm_MT sm_LK (sm_RO L xs) sm_NV sm_cq F d j pc (sx_cl1 ρ lv) (sx_cs1 ρ s) (sx_HH cl_lay cl_rf M) = some (r.map (sx_cv1 ρ'), sx_HH cl_lay cl_rf M')) ∨ (o.1 = none ∧ stp o.2.1 = true ∧ sx_okl ρ' o.2.2.2.2.1 o.2.2.1 ∧ sx_oks ρ' o.2.2.2.2.1 o.2.2.2.1 ∧ ∀ F r h', sm_run sm_MT sm_LK (sm_RO L xs) sm_NV sm_cq F d j o.2.1 (sx_cl1 ρ' o.2.2.1) (sx_cs1 ρ' o.2.2.2.1) (sx_HH cl_lay cl_rf M') = some (r, h') → ∃ F', sm_run sm_MT sm_LK (sm_RO L xs) sm_NV sm_cq F' d j pc (sx_cl1 ρ lv) (sx_cs1 ρ s) (sx_HH cl_lay cl_rf M) = some (r, h'))) := by
  unfold gs_chk at h
  cases e : sx_seg (fun _ _ => none) cl_ly cl_rc (0, -100) false sm_MT sm_LK (fun _ => false) mi_nohk stp fc f d j true pc lv s t with
  | none => rw [e] at h; cases h
  | some os =>
    rw [e] at h
    have hbs : sx_hbs cl_ly (fun _ _ => none) MM := fun k h i c _ _ _ e => by cases e
    have hnh : sx_hok sm_MT sm_LK (sm_RO L xs) sm_NV sm_cq cl_ly (0, -100) xs L MM cl_lay cl_rf mi_nohk := fun _ _ _ _ _ _ _ h => by cases h
    obtain ⟨o, om, ρ', M', x1, x2, x3, x4⟩ := sx_seg_ok (NV := sm_NV) (cq := sm_cq) (RO := sm_RO L xs) cl_lok hbs cl_hrf (cl_hro L xs) hnh f d j true pc lv s t os ρ M e hs hl hk
    exact ⟨o, ρ', M', List.all_eq_true.mp h o om, x1, x2, x3, x4⟩
/-- a call of own code -/
theorem gs_call {j d pc len k F1 F2 : Nat} {ins : Instr} {lv : sm_V} {s as rest : List Value} {h h1 : sm_H} {ro : Option Value} {res : Option Value × sm_H} (hf : (sm_MT j).2.2.2.2.2 pc = some (ins, len)) (hl : len = sm_len ins len) (hr : sm_ret (sm_MT j).2.2.1 ins s = none) (hc : sm_call (sm_LK (sm_MT j).1) (fun k => (sm_MT k).2.2.2.1) ins s h = some (k, as, rest)) (hq : sm_sum rest ≤ 8 ∧ (lg_sl as).length ≤ (sm_MT k).2.1) (hrun : sm_run sm_MT sm_LK (sm_RO L xs) sm_NV sm_cq F1 d k 0 (lv_args 0 as) [] h = some (ro, h1)) (hk : sm_run sm_MT sm_LK (sm_RO L xs) sm_NV sm_cq F2 (d + 1) j (pc + 3) lv (ro.toList ++ rest) h1 = some res) : ∃ F, sm_run sm_MT sm_LK (sm_RO L xs) sm_NV sm_cq F (d + 1) j pc lv s h = some res := by
  refine ⟨max F1 F2 + 1, ?_⟩
  rw [sm_run_f hf hl, hr, hc]
  show (if sm_sum rest ≤ 8 ∧ (lg_sl as).length ≤ (sm_MT k).2.1 then _ else none) = _
  rw [if_pos hq, sm_fuel hrun (Nat.le_max_left _ _)]
  exact sm_fuel hk (Nat.le_max_right _ _)
-- gives
def gv_c : ct_C := ([(2, 53, 53), (0, 0, 0)], [], [], [73], some (0, sx_r32), 5, true)
def gv_q : List ct_Q := [(0, 0, 130), (0, 0, 60), (0, sx_r32)]
/-- first 9, l 10, a value 11; the line's ends 12, 13 -/
noncomputable def gv_t : sx_S := (sx_frl (sx_frl (mt_as gv_q (mt_tr [73])).2 70 (10, 0) (0, 130)).2 71 (10, 0) (0, 130)).2
def gv_l : sx_L := [(0, 2, 0, 53), (1, 0, 0, 0), (2, 0, 9, 0), (3, 0, 10, 0)]
noncomputable def gv_lk (a b : sx_A) (lv : sx_L) : Bool := sx_an (mt_nd (lv.map fun q => q.1)) (match mt_at [(0, 2, 53, 53), (1, 0, 0, 0), (2, 0, 0, 0), (3, 0, 0, 0)] lv with
  | some [p, q, u, v] => sx_an (sx_an (sx_an (Nat.beq p.1 2) (sx_eq p.2.2 53)) (sx_an (Nat.beq q.1 0) (sx_ae q.2 (0, 0)))) (sx_an (sx_an (Nat.beq u.1 0) (sx_ae u.2 a)) (sx_an (Nat.beq v.1 0) (sx_ae v.2 b)))
  | _ => false)
noncomputable def gv_sk (a b : sx_A) (s : List sx_V) : Bool := match s with
  | [x, y, z, w] => sx_an (sx_an (sx_an (Nat.beq x.1 0) (sx_ae x.2 a)) (sx_an (Nat.beq y.1 0) (sx_ae y.2 b))) (sx_an (sx_an (Nat.beq z.1 0) (sx_ae z.2 (0, 0))) (sx_an (Nat.beq w.1 2) (sx_eq w.2.2 53)))
  | _ => false
noncomputable def gv_rt (t0 : sx_S) (o : sx_P) : Bool := match o.1 with
  | some r => mt_end cl_ly gv_c t0 o.2.2.2.2 r
  | none => false
noncomputable def gv_r1 (o : sx_P) : Bool := bif gv_rt gv_t o then true else match o.1 with
  | some _ => false
  | none => sx_an (mt_cells gv_c gv_t o.2.2.2.2) (sx_an (gv_lk (9, 0) (10, 0) o.2.2.1) (bif Nat.beq o.2.1 41 then gv_sk (12, 0) (9, 0) o.2.2.2.1 else sx_an (Nat.beq o.2.1 61) (gv_sk (13, 0) (12, 0) o.2.2.2.1)))
def gv_st1 (pc : Nat) : Bool := bif Nat.beq pc 41 then true else Nat.beq pc 61
theorem gv_c1 : gs_chk gv_st1 gv_r1 300 300 5 196 7 gv_l [] gv_t = true := by decide +kernel
def gv_st2 (pc : Nat) : Bool := bif Nat.beq pc 7 then true else Nat.beq pc 61
noncomputable def gv_r2 (o : sx_P) : Bool := match o.1 with
  | some _ => false
  | none => sx_an (mt_cells gv_c gv_t o.2.2.2.2) (bif Nat.beq o.2.1 7 then sx_an (gv_lk (13, 0) (10, 1) o.2.2.1) (Nat.beq o.2.2.2.1.length 0) else sx_an (Nat.beq o.2.1 61) (sx_an (gv_lk (9, 0) (10, 0) o.2.2.1) (gv_sk (13, 0) (12, 0) o.2.2.2.1)))
theorem gv_c2 : gs_chk gv_st2 gv_r2 300 300 5 196 44 gv_l [(0, 11, 0)] gv_t = true := by decide +kernel
theorem gv_c3 : gs_chk (fun _ => false) (gv_rt gv_t) 300 300 5 196 64 gv_l [(0, 11, 0)] gv_t = true := by decide +kernel
-- behind the last line: l is how many there are
def gv_q9 : List ct_Q := [(0, 0, 130), (0, 0, 61)]
noncomputable def gv_t9 : sx_S := la_ad (mt_as gv_q9 (mt_tr [73])).2 69 0 (10, 0)
theorem gv_c9 : gs_chk (fun _ => false) (gv_rt gv_t9) 300 300 5 196 7 gv_l [] gv_t9 = true := by decide +kernel
noncomputable def gv_lk0 (t : sx_S) (lv : sx_L) : Bool := sx_an (mt_nd (lv.map fun q => q.1)) (match mt_at [(0, 2, 53, 53), (1, 0, 0, 0), (2, 0, 0, 0), (3, 0, 0, 0)] lv with
  | some [p, q, u, v] => sx_an (sx_an (sx_an (Nat.beq p.1 2) (sx_eq p.2.2 53)) (sx_an (Nat.beq q.1 0) (jin t q.2 0 0))) (sx_an (sx_an (Nat.beq u.1 0) (sx_ae u.2 (0, 0))) (sx_an (Nat.beq v.1 0) (sx_ae v.2 (0, 0))))
  | _ => false)
noncomputable def gv_r0 (t0 : sx_S) (o : sx_P) : Bool := match o.1 with
  | some _ => false
  | none => sx_an (mt_cells gv_c t0 o.2.2.2.2) (sx_an (Nat.beq o.2.1 7) (sx_an (gv_lk0 o.2.2.2.2 o.2.2.1) (Nat.beq o.2.2.2.1.length 0)))
theorem gv_c0 : gs_chk (fun pc => Nat.beq pc 7) (gv_r0 (mt_as gv_c.1 (mt_tr [])).2) 300 300 5 196 0 (sx_args 0 (mt_as gv_c.1 (mt_tr [])).1) [] (mt_as gv_c.1 (mt_tr [])).2 = true := by decide +kernel
end
