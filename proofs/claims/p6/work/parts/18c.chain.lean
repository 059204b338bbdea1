/-! The reference's parser: chains of parts. -/
section
variable {L : Nat} {xs : Nat → Int32} {M MM M0 M1 : Nat → Nat → Int} {ρ : Nat → Int}
def ps_S (L : Nat) (xs : Nat → Int32) (j d : Nat) (ov : Int) : Prop := ∀ M, ps_P M → M 53 24 = ov → ∃ F M', sm_run sm_MT sm_LK (sm_RO L xs) sm_NV sm_cq F d j 0 [(0, .ref 53)] [] (sx_HH cl_lay cl_rf M) = some (none, sx_HH cl_lay cl_rf M') ∧ ps_R M M'
def ps_fin (L : Nat) (xs : Nat → Int32) (j d pc : Nat) (lv : sm_V) (s : List Value) (M0 M : Nat → Nat → Int) : Prop := ∃ F M', sm_run sm_MT sm_LK (sm_RO L xs) sm_NV sm_cq F d j pc lv s (sx_HH cl_lay cl_rf M) = some (none, sx_HH cl_lay cl_rf M') ∧ ps_R M0 M'
theorem ps_up {j d d' : Nat} {ov : Int} (h : ps_S L xs j d ov) (hd : d ≤ d') : ps_S L xs j d' ov := fun M hP ho => by
  obtain ⟨F, M', e, e1⟩ := h M hP ho
  exact ⟨F, M', mt_d e hd, e1⟩
theorem ps_le {j d pc : Nat} {a b : sm_V} {s : List Value} (hle : lo_le a b) (k : ps_fin L xs j d pc a s M0 M) : ps_fin L xs j d pc b s M0 M := by
  obtain ⟨F, M', e, e1⟩ := k
  exact ⟨F, M', lo_run _ _ _ _ _ _ _ _ _ hle e, e1⟩
theorem ps_R_same {M' : Nat → Nat → Int} (h : ps_R M0 M) (hm : sx_mok cl_ly M') (he : ∀ a, a < 128 → M' a = M a) : ps_R M0 M' := by
  obtain ⟨a1, a2, a3, a4, a5, a6, a7⟩ := h
  have e53 := he 53 (by decide)
  have e67 := he 67 (by decide)
  have e68 := he 68 (by decide)
  refine ⟨hm, fun a i ha h1 h2 => by rw [he a ha]; exact a2 a i ha h1 h2, by rw [e53]; exact a3, by rw [e53]; exact a4, by rw [e53]; exact a5, fun i hi => by rw [e67, e68]; exact a6 i hi, ?_⟩
  rw [e53]
  rcases a7 with ⟨k1, k2, k3, k4⟩ | h
  · exact Or.inl ⟨k1, k2, k3, ps_seg_on k4 (fun i _ _ => by rw [e67, e68]; exact ⟨rfl, rfl⟩)⟩
  · exact Or.inr h
/-- a part that reads is called -/
theorem ps_call {j k d pc ix : Nat} {ov : Int} {lv : sm_V} (hf : (sm_MT j).2.2.2.2.2 pc = some (.invokevirtual ix, 3)) (hc : sx_call cl_ly (sm_LK (sm_MT j).1) (fun k => (sm_MT k).2.2.2.1) (.invokevirtual ix) [(2, 0, 53)] = some (k, [(2, 0, 53)], [])) (hk1 : 1 ≤ (sm_MT k).2.1) (hS : ps_S L xs k d ov) (hP : ps_P M) (ho : M 53 24 = ov) (next : ∀ M', ps_R M M' → ps_fin L xs j (d + 1) (pc + 3) lv [] M0 M') : ps_fin L xs j (d + 1) pc lv [.ref 53] M0 M := by
  obtain ⟨F1, M1, f1, f2⟩ := hS M hP ho
  obtain ⟨F2, M2, g1, g2⟩ := next M1 f2
  have hok : sx_oks (fun _ => 0) 1 [(2, 0, 53)] := fun v hv => by
    rw [List.mem_singleton.mp hv]
    exact ⟨Nat.lt_succ_self _, (fun h => by cases h), fun h => by cases h⟩
  have c1 := (sx_call_ok (ρ := fun _ => 0) (M := M) (lay := cl_lay) (rf := cl_rf) cl_lok hok hc).1
  obtain ⟨F, hF⟩ := gs_call (xs := xs) (L := L) (j := j) (d := d) (pc := pc) (len := 3) (k := k) (ins := .invokevirtual ix) (lv := lv) (s := [.ref 53]) (as := [.ref 53]) (rest := []) (ro := none) hf rfl rfl c1 ⟨Nat.zero_le _, hk1⟩ f1 g1
  exact ⟨F, M2, hF, g2⟩
theorem gs_st {j d pc len F : Nat} {ins : Instr} {lv : sm_V} {s : List Value} {h : sm_H} {o : sm_S} {res : Option Value × sm_H} (hf : (sm_MT j).2.2.2.2.2 pc = some (ins, len)) (hl : len = sm_len ins len) (hr : sm_ret (sm_MT j).2.2.1 ins s = none) (hc : sm_call (sm_LK (sm_MT j).1) (fun k => (sm_MT k).2.2.2.1) ins s h = none) (hs : sm_step (sm_LK (sm_MT j).1) (sm_RO L xs) sm_NV sm_cq (sm_MT j).2.2.2.2.1 (sm_MT j).2.1 d ins pc lv s h = some o) (k : sm_run sm_MT sm_LK (sm_RO L xs) sm_NV sm_cq F d j o.1 o.2.1 o.2.2.1 o.2.2.2 = some res) : sm_run sm_MT sm_LK (sm_RO L xs) sm_NV sm_cq (F + 1) d j pc lv s h = some res := by
  rw [sm_run_f hf hl, hr, hc, hs]
  exact k
theorem ps_alS {lk : Nat → Option sm_L} {RO : List (Nat × (Nat → Int32))} {NV : Nat → List Value} {cq nL d pc : Nat} {ini : Bool} {lv : sm_V} {h : sm_H} (hl : sm_ld lv 0 = some (.ref 53)) : sm_step lk RO NV cq ini nL d (.aload_n 0) pc lv [] h = some (pc + 1, lv, [.ref 53], h) := by
  dsimp only [sm_step]
  show (match sm_ld lv 0 with
    | some (Value.ref x) => some (pc + 1, lv, [Value.ref x], h)
    | x => none) = _
  rw [hl]
theorem ps_alR (k : Nat) (s : List Value) : sm_ret k (.aload_n 0) s = none := rfl
theorem ps_alC (lk : Nat → Option sm_L) (MA : Nat → Nat) (s : List Value) (h : sm_H) : sm_call lk MA (.aload_n 0) s h = none := rfl
theorem ps_alL : 1 = sm_len (.aload_n 0) 1 := rfl
set_option maxHeartbeats 40000 in
theorem ps_al1 {j d pc F : Nat} {lv : sm_V} {M' : Nat → Nat → Int} (hf : (sm_MT j).2.2.2.2.2 pc = some (.aload_n 0, 1)) (hl : sm_ld lv 0 = some (.ref 53)) (e : sm_run sm_MT sm_LK (sm_RO L xs) sm_NV sm_cq F d j (pc + 1) lv [.ref 53] (sx_HH cl_lay cl_rf M) = some (none, sx_HH cl_lay cl_rf M')) : sm_run sm_MT sm_LK (sm_RO L xs) sm_NV sm_cq (F + 1) d j pc lv [] (sx_HH cl_lay cl_rf M) = some (none, sx_HH cl_lay cl_rf M') := by
  have k1 := gs_st (L := L) (xs := xs) (j := j) (d := d) (pc := pc) (len := 1) (F := F) (ins := .aload_n 0) (lv := lv) (s := []) (h := sx_HH cl_lay cl_rf M) (o := (pc + 1, lv, [.ref 53], sx_HH cl_lay cl_rf M)) (res := (none, sx_HH cl_lay cl_rf M'))
  have k2 := k1 hf
  have k3 := k2 ps_alL
  have k4 := k3 (ps_alR _ _)
  have k5 := k4 (ps_alC _ _ _ _)
  have k6 := k5 (ps_alS hl)
  dsimp only at k6
  exact k6 e
set_option maxHeartbeats 40000 in
theorem ps_al {j d pc : Nat} {lv : sm_V} (hf : (sm_MT j).2.2.2.2.2 pc = some (.aload_n 0, 1)) (hl : sm_ld lv 0 = some (.ref 53)) (k : ps_fin L xs j d (pc + 1) lv [.ref 53] M0 M) : ps_fin L xs j d pc lv [] M0 M := by
  obtain ⟨F, M', e, e1⟩ := k
  exact ⟨F + 1, M', ps_al1 hf hl e, e1⟩
theorem ps_cont {j d : Nat} {o : sx_P} {ρ' : Nat → Int} {M' : Nat → Nat → Int} {pc pc' : Nat} {lv lv' : sm_V} {s s' : List Value} {P : Prop} (eo : o.1 = none) (hpc : o.2.1 = pc') (hle : lo_le lv' (sx_cl1 ρ' o.2.2.1)) (hs : sx_cs1 ρ' o.2.2.2.1 = s') (x4 : (∃ r, o.1 = some r ∧ sx_rok ρ' o.2.2.2.2.1 r ∧ ∃ F, sm_run sm_MT sm_LK (sm_RO L xs) sm_NV sm_cq F d j pc lv s (sx_HH cl_lay cl_rf M) = some (r.map (sx_cv1 ρ'), sx_HH cl_lay cl_rf M')) ∨ (o.1 = none ∧ P ∧ sx_okl ρ' o.2.2.2.2.1 o.2.2.1 ∧ sx_oks ρ' o.2.2.2.2.1 o.2.2.2.1 ∧ ∀ F r h', sm_run sm_MT sm_LK (sm_RO L xs) sm_NV sm_cq F d j o.2.1 (sx_cl1 ρ' o.2.2.1) (sx_cs1 ρ' o.2.2.2.1) (sx_HH cl_lay cl_rf M') = some (r, h') → ∃ F', sm_run sm_MT sm_LK (sm_RO L xs) sm_NV sm_cq F' d j pc lv s (sx_HH cl_lay cl_rf M) = some (r, h'))) (k : ps_fin L xs j d pc' lv' s' M0 M') : ps_fin L xs j d pc lv s M0 M := by
  rcases x4 with ⟨r, w1, -⟩ | ⟨-, -, -, -, w5⟩
  · rw [w1] at eo; cases eo
  · obtain ⟨F, M2, e, e1⟩ := ps_le hle k
    rw [← hpc, ← hs] at e
    obtain ⟨F', e'⟩ := w5 F _ _ e
    exact ⟨F', M2, e', e1⟩
/-- the locals: this, and a number -/
noncomputable def pc_lk (lv : sx_L) : Bool := sx_an (mt_nd (lv.map fun q => q.1)) (match mt_at [(0, 2, 53, 53)] lv with
  | some [p] => sx_an (Nat.beq p.1 2) (sx_eq p.2.2 53)
  | _ => false)
noncomputable def pc_lk1 (zs : List Int) (t : sx_S) (lv : sx_L) : Bool := sx_an (mt_nd (lv.map fun q => q.1)) (match mt_at [(0, 2, 53, 53), (1, 0, 0, 0)] lv with
  | some [p, q] => sx_an (sx_an (Nat.beq p.1 2) (sx_eq p.2.2 53)) (sx_an (Nat.beq q.1 0) (zs.any fun z => jin t q.2 z z))
  | _ => false)
theorem pc_lk_ok {n : Nat} {lv : sx_L} (hl : sx_okl ρ n lv) (h : pc_lk lv = true) : lo_le [(0, .ref 53)] (sx_cl1 ρ lv) := by
  obtain ⟨h1, h2⟩ := sx_an_iff.mp h
  refine ⟨by show ([0] : List Nat).Nodup; decide, mt_cl_nd (mt_nd_ok h1), ?_⟩
  cases e : mt_at [(0, 2, 53, 53)] lv with
  | none => rw [e] at h2; cases h2
  | some vs =>
    rw [e] at h2
    match vs, h2, e with
    | [p], h2, e =>
      obtain ⟨-, a2⟩ := mt_at_ok hl e
      obtain ⟨k1, k2⟩ := sx_an_iff.mp h2
      have ez : mt_zv [(0, 2, 53, 53)] (sx_cs1 ρ [p]) = [(0, .ref 53)] := by
        show [(0, sx_cv1 ρ p)] = _
        rw [sx_cvk2 (sx_nbeq.mp k1), sx_eq_iff.mp k2]
        rfl
      intro k v hv
      rw [← ez] at hv
      exact a2 k v hv
theorem pc_lk1_ok {zs : List Int} {t : sx_S} {lv : sx_L} (hs : sx_sat cl_ly (0, -100) xs L MM ρ M t) (hl : sx_okl ρ t.1 lv) (h : pc_lk1 zs t lv = true) : ∃ z ∈ zs, lo_le [(0, .ref 53), (1, .int (Int32.ofInt z))] (sx_cl1 ρ lv) := by
  obtain ⟨h1, h2⟩ := sx_an_iff.mp h
  cases e : mt_at [(0, 2, 53, 53), (1, 0, 0, 0)] lv with
  | none => rw [e] at h2; cases h2
  | some vs =>
    rw [e] at h2
    match vs, h2, e with
    | [p, q], h2, e =>
      obtain ⟨-, a2⟩ := mt_at_ok hl e
      obtain ⟨k1, k2⟩ := sx_an_iff.mp h2
      obtain ⟨k1, k3⟩ := sx_an_iff.mp k1
      obtain ⟨k2, k4⟩ := sx_an_iff.mp k2
      obtain ⟨z, hz, k5⟩ := List.any_eq_true.mp k4
      refine ⟨z, hz, by show ([0, 1] : List Nat).Nodup; decide, mt_cl_nd (mt_nd_ok h1), ?_⟩
      have ez : mt_zv [(0, 2, 53, 53), (1, 0, 0, 0)] (sx_cs1 ρ [p, q]) = [(0, .ref 53), (1, .int (Int32.ofInt z))] := by
        show [(0, sx_cv1 ρ p), (1, sx_cv1 ρ q)] = _
        have k5 := jin_ok hs k5
        have hq : sx_val ρ q.2 = z := by omega
        rw [sx_cvk2 (sx_nbeq.mp k1), sx_eq_iff.mp k3, sx_cvk0 (sx_nbeq.mp k2), hq]
        rfl
      intro k v hv
      rw [← ez] at hv
      exact a2 k v hv
noncomputable def pc_sk (s : List sx_V) : Bool := match s with
  | [p] => sx_an (Nat.beq p.1 2) (sx_eq p.2.2 53)
  | _ => false
theorem pc_sk_ok {s : List sx_V} (h : pc_sk s = true) : sx_cs1 ρ s = [.ref 53] := by
  unfold pc_sk at h
  split at h
  · rename_i p
    obtain ⟨k1, k2⟩ := sx_an_iff.mp h
    show [sx_cv1 ρ p] = _
    rw [sx_cvk2 (sx_nbeq.mp k1), sx_eq_iff.mp k2]
    rfl
  · cases h
/-- a return without an answer, nothing changed -/
noncomputable def pc_rt (o : sx_P) : Bool := match o.1 with
  | some none => pz_same o.2.2.2.2
  | _ => false
/-- from the loop's head: a return, or a sign was read and the second call stands there -/
noncomputable def pc_r1 (pc2 : Nat) (zs : Option (List Int)) (o : sx_P) : Bool := bif pc_rt o then true else match o.1 with
  | some _ => false
  | none => sx_an (sx_an (Nat.beq o.2.1 pc2) (pc_sk o.2.2.2.1)) (sx_an (sx_an (jin o.2.2.2.2 (12, 0) (-1) (-1)) (pz_hd (pz_t (0, 0)) o.2.2.2.2)) (match zs with
    | some l => pc_lk1 l o.2.2.2.2 o.2.2.1
    | none => pc_lk o.2.2.1))
/-- behind the second call: the sign's step is laid, and it is at the loop's head -/
noncomputable def pc_r2 (ret : Bool) (v : sx_A) (r : Int × Int) (o : sx_P) : Bool := bif ret then (match o.1 with
  | some none => pz_ad v (pz_t r) o.2.2.2.2
  | _ => false) else match o.1 with
  | some _ => false
  | none => sx_an (sx_an (Nat.beq o.2.1 4) (Nat.beq o.2.2.2.1.length 0)) (sx_an (pc_lk o.2.2.1) (pz_ad v (pz_t r) o.2.2.2.2))
theorem ps_okM (hP : ps_P M0) (hR : ps_R M0 M) : pz_ok M := by
  obtain ⟨p1, p2, p3, p4, p5, p6, p7, p8⟩ := hP
  obtain ⟨a1, a2, a3, a4, a5, a6, a7⟩ := hR
  have t := ps_T a2
  have hT := pz_T a1
  refine ⟨a1, by omega, by omega, ?_, ?_, ?_, ?_, by omega, ?_⟩
  all_goals rcases a7 with ⟨k1, k2, k3, k4⟩ | ⟨k1, k2, k3, k4, k5⟩ <;> omega
theorem pz_okl {r : Int × Int} {lv : sx_L} (hs : sx_sat cl_ly (0, -100) xs L MM ρ M (pz_t r)) (h9 : sx_w sx_r32 (ρ 9)) (hlv : lv = [(0, 2, 0, 53)] ∨ lv = [(0, 2, 0, 53), (1, 0, 9, 0)]) : sx_okl ρ (pz_t r).1 lv := by
  have c9 : sx_ok ρ (pz_t r).1 (0, 9, 0) := ⟨show 9 < 15 by decide, fun _ => by show sx_w sx_r32 (ρ 9 + 0); rw [Int.add_zero]; exact h9, fun h => by cases h⟩
  intro q hq
  rcases hlv with rfl | rfl
  · rw [List.mem_singleton.mp hq]
    exact sx_ck2 hs _
  · simp only [List.mem_cons, List.not_mem_nil, or_false] at hq
    rcases hq with rfl | rfl
    · exact sx_ck2 hs _
    · exact c9
end
