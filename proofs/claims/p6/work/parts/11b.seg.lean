/-! Segments: a walk of a method's own frame that stops at given places (heads of loops). -/
section
variable {MT : Nat → sm_M} {LK : Nat → Nat → Option sm_L} {RO : List (Nat × (Nat → Int32))} {NV : Nat → List Value} {cq : Nat} {ly : Nat → Option sx_H} {ib : sx_A} {xs : Nat → Int32} {L : Nat} {M0 : Nat → Nat → Int} {bs : Nat → Int → Option Int} {lay : List sx_H} {rf : Nat → Nat → Option Nat} {rc : List (List Int)} {sp : Bool}
/-- returned (with what), or stopped (where) -/
abbrev sx_P : Type := Option (Option sx_V) × Nat × sx_L × List sx_V × sx_S
noncomputable def sx_seg (bs : Nat → Int → Option Int) (ly : Nat → Option sx_H) (rc : List (List Int)) (ib : sx_A) (sp : Bool) (MT : Nat → sm_M) (LK : Nat → Nat → Option sm_L) (dd : Nat → Bool) (hk : Nat → Nat → List sx_V → sx_S → Option (List sx_R)) (stp : Nat → Bool) (fc f : Nat) : Nat → Nat → Bool → Nat → sx_L → List sx_V → sx_S → Option (List sx_P) := f.rec (fun _ _ _ _ _ _ _ => none) (fun _ ih d j go pc lv s t => bif (bif go then false else stp pc) then some [(none, pc, lv, s, t)] else match (MT j).2.2.2.2.2 pc with
  | none => none
  | some (ins, len) => bif Nat.beq len (sm_len ins len) then (match sx_rt ins with
    | some g => (match g (MT j).2.2.1 s t with
      | some r => some [(some r, 0, [], [], t)]
      | none => none)
    | none => match sx_call ly (LK (MT j).1) (fun k => (MT k).2.2.2.1) ins s with
      | some (k, as, rest) => bif Nat.beq d 0 then none else bif sx_an (Nat.ble (sx_sum rest) 8) (Nat.ble (sx_sum as) (MT k).2.1) then (match (match hk (d - 1) k as t with
          | some os => some os
          | none => sx_run bs ly rc ib sp MT LK dd hk fc (d - 1) k 0 (sx_args 0 as) [] t) with
        | some os => sx_cat (fun o => sx_fN (pc + 3) fun pc => ih d j false pc lv (o.1.toList ++ rest) o.2) (bif dd k then sx_join t.1 os else os)
        | none => none) else none
      | none => match sx_step bs ly rc ib sp (LK (MT j).1) (MT j).2.1 d ins pc lv s t with
        | some l => sx_cat (fun o => sx_fN o.1 fun pc => ih d j false pc o.2.1 o.2.2.1 o.2.2.2) l
        | none => none) else none)
def sx_sgd (MT : Nat → sm_M) (LK : Nat → Nat → Option sm_L) (RO : List (Nat × (Nat → Int32))) (NV : Nat → List Value) (cq : Nat) (ly : Nat → Option sx_H) (ib : sx_A) (xs : Nat → Int32) (L : Nat) (M0 : Nat → Nat → Int) (lay : List sx_H) (rf : Nat → Nat → Option Nat) (stp : Nat → Bool) (ρ : Nat → Int) (n : Nat) (os : List sx_P) (d j pc : Nat) (lv : sm_V) (s : List Value) (h : sm_H) : Prop :=
  ∃ o ∈ os, ∃ ρ' M', sx_ext n ρ ρ' ∧ n ≤ o.2.2.2.2.1 ∧ sx_sat ly ib xs L M0 ρ' M' o.2.2.2.2 ∧ ((∃ r, o.1 = some r ∧ sx_rok ρ' o.2.2.2.2.1 r ∧ ∃ F, sm_run MT LK RO NV cq F d j pc lv s h = some (r.map (sx_cv1 ρ'), sx_HH lay rf M')) ∨ (o.1 = none ∧ stp o.2.1 = true ∧ sx_okl ρ' o.2.2.2.2.1 o.2.2.1 ∧ sx_oks ρ' o.2.2.2.2.1 o.2.2.2.1 ∧ ∀ F r h', sm_run MT LK RO NV cq F d j o.2.1 (sx_cl1 ρ' o.2.2.1) (sx_cs1 ρ' o.2.2.2.1) (sx_HH lay rf M') = some (r, h') → ∃ F', sm_run MT LK RO NV cq F' d j pc lv s h = some (r, h')))
theorem sx_seg_ok {stp : Nat → Bool} {fc : Nat} {dd : Nat → Bool} {hk : Nat → Nat → List sx_V → sx_S → Option (List sx_R)} (hlo : sx_lok ly lay) (hb : sx_hbs ly bs M0) (hrf : sx_hrf ly rf) (hro : sx_hro rc RO xs L) (hhk : sx_hok MT LK RO NV cq ly ib xs L M0 lay rf hk) : ∀ (f d j : Nat) (go : Bool) (pc : Nat) (lv : sx_L) (s : List sx_V) (t : sx_S) (os : List sx_P) (ρ : Nat → Int) (M : Nat → Nat → Int), sx_seg bs ly rc ib sp MT LK dd hk stp fc f d j go pc lv s t = some os → sx_sat ly ib xs L M0 ρ M t → sx_okl ρ t.1 lv → sx_oks ρ t.1 s → sx_sgd MT LK RO NV cq ly ib xs L M0 lay rf stp ρ t.1 os d j pc (sx_cl1 ρ lv) (sx_cs1 ρ s) (sx_HH lay rf M) := by
  intro f
  induction f with
  | zero => intro d j go pc lv s t os ρ M h; cases h
  | succ f ih =>
    intro d j go pc lv s t os ρ M h hs hl hst
    cases estop : (bif go then false else stp pc)
    case true =>
      have h : (bif (bif go then false else stp pc) then some [(none, pc, lv, s, t)] else _) = some os := h
      rw [estop] at h
      cases h
      have hst1 : stp pc = true := by
        cases go
        · exact estop
        · cases estop
      exact ⟨_, List.mem_singleton.mpr rfl, ρ, M, sx_ext_rfl, Nat.le_refl _, hs, Or.inr ⟨rfl, hst1, hl, hst, fun F r h' e => ⟨F, e⟩⟩⟩
    have h : (bif (bif go then false else stp pc) then some [(none, pc, lv, s, t)] else _) = some os := h
    rw [estop] at h
    have h : (match (MT j).2.2.2.2.2 pc with
      | none => none
      | some (ins, len) => bif Nat.beq len (sm_len ins len) then (match sx_rt ins with
        | some g => (match g (MT j).2.2.1 s t with
          | some r => some [(some r, 0, [], [], t)]
          | none => none)
        | none => match sx_call ly (LK (MT j).1) (fun k => (MT k).2.2.2.1) ins s with
          | some (k, as, rest) => bif Nat.beq d 0 then none else bif sx_an (Nat.ble (sx_sum rest) 8) (Nat.ble (sx_sum as) (MT k).2.1) then (match (match hk (d - 1) k as t with
              | some os => some os
              | none => sx_run bs ly rc ib sp MT LK dd hk fc (d - 1) k 0 (sx_args 0 as) [] t) with
            | some os => sx_cat (fun o => sx_fN (pc + 3) fun pc => sx_seg bs ly rc ib sp MT LK dd hk stp fc f d j false pc lv (o.1.toList ++ rest) o.2) (bif dd k then sx_join t.1 os else os)
            | none => none) else none
          | none => match sx_step bs ly rc ib sp (LK (MT j).1) (MT j).2.1 d ins pc lv s t with
            | some l => sx_cat (fun o => sx_fN o.1 fun pc => sx_seg bs ly rc ib sp MT LK dd hk stp fc f d j false pc o.2.1 o.2.2.1 o.2.2.2) l
            | none => none) else none) = some os := h
    cases efetch : (MT j).2.2.2.2.2 pc with
    | none => rw [efetch] at h; cases h
    | some il =>
      obtain ⟨ins, len⟩ := il
      rw [efetch] at h
      obtain ⟨elen, h⟩ := sx_bif h
      have elen := sx_nbeq.mp elen
      have hrun := fun F => sm_run_f (LK := LK) (RO := RO) (NV := NV) (cq := cq) (F := F) (d := d) (lv := sx_cl1 ρ lv) (s := sx_cs1 ρ s) (h := sx_HH lay rf M) efetch elen
      cases ert : sx_rt ins with
      | some g =>
        rw [ert] at h
        have h : (match g (MT j).2.2.1 s t with
          | some r => some [(some r, 0, [], [], t)]
          | none => none) = some os := h
        cases eg : g (MT j).2.2.1 s t with
        | none => rw [eg] at h; cases h
        | some r =>
          rw [eg] at h
          cases h
          obtain ⟨r1, r2⟩ := sx_rt_ok hs hst ert eg
          refine ⟨_, List.mem_singleton.mpr rfl, ρ, M, sx_ext_rfl, Nat.le_refl _, hs, Or.inl ⟨r, rfl, r2, 1, ?_⟩⟩
          rw [hrun 0, r1]
      | none =>
        rw [ert] at h
        cases ecall : sx_call ly (LK (MT j).1) (fun k => (MT k).2.2.2.1) ins s with
        | some kar =>
          obtain ⟨k, as, rest⟩ := kar
          rw [ecall] at h
          obtain ⟨ed, h⟩ := sx_bin' h
          obtain ⟨ec, h⟩ := sx_bif h
          obtain ⟨ec1, ec2⟩ := sx_an_iff.mp ec
          have ed := sx_nbeq_f.mp ed
          obtain ⟨d', rfl⟩ : ∃ d', d = d' + 1 := ⟨d - 1, by omega⟩
          have ed1 : d' + 1 - 1 = d' := rfl
          rw [ed1] at h
          obtain ⟨c1, c2, c3, c4⟩ := sx_call_ok (M := M) (rf := rf) hlo hst ecall
          have hcallee : ∀ os1, (match hk d' k as t with
              | some os => some os
              | none => sx_run bs ly rc ib sp MT LK dd hk fc d' k 0 (sx_args 0 as) [] t) = some os1 → sx_done MT LK RO NV cq ly ib xs L M0 lay rf ρ t.1 os1 d' k 0 (lv_args 0 (sx_cs1 ρ as)) [] (sx_HH lay rf M) := by
            intro os1 h1
            cases eh : hk d' k as t with
            | some os2 =>
              rw [eh] at h1
              cases h1
              exact hhk d' k as t _ ρ M eh hs c2
            | none =>
              rw [eh] at h1
              rw [sx_args_ok]
              exact sx_run_ok hlo hb hrf hro hhk fc d' k 0 _ _ t os1 ρ M h1 hs (sx_args_okl c2) (fun v hv => by cases hv)
          cases e1 : (match hk d' k as t with
              | some os => some os
              | none => sx_run bs ly rc ib sp MT LK dd hk fc d' k 0 (sx_args 0 as) [] t) with
          | none => rw [e1] at h; cases h
          | some os1 =>
            rw [e1] at h
            obtain ⟨o1, o1m, ρ1, M1, x1, x2, x3, x4, F1, x5⟩ := hcallee os1 e1
            obtain ⟨o2, o2m, y1, y2, y3, y4⟩ : ∃ q ∈ (bif dd k then sx_join t.1 os1 else os1), sx_go1 ly ib xs L M0 t.1 ρ1 M1 o1.1 q := by
              cases dd k
              · exact ⟨o1, o1m, x2, x3, rfl, x4⟩
              · exact sx_join_ok ⟨o1, o1m, x2, x3, rfl, x4⟩
            obtain ⟨u, u1, u2⟩ := sx_cat_ok h o2m
            rw [sx_fN_eq] at u1
            have okr : sx_oks ρ1 o2.2.1 (o2.1.toList ++ rest) := by
              intro v hv
              rcases List.mem_append.mp hv with hv | hv
              · exact y4 v (Option.mem_toList.mp hv)
              · exact sx_ext_ok x1 y1 (c3 v hv)
            have es : (Option.map (sx_cv1 ρ1) o1.1).toList ++ sx_cs1 ρ rest = sx_cs1 ρ1 (o2.1.toList ++ rest) := by
              unfold sx_cs1
              rw [List.map_append, y3]
              congr 1
              · cases o1.1 <;> rfl
              · exact (sx_ext_cs x1 c3).symm
            have cont : ∀ F r h', sm_run MT LK RO NV cq F (d' + 1) j (pc + 3) (sx_cl1 ρ1 lv) (sx_cs1 ρ1 (o2.1.toList ++ rest)) (sx_HH lay rf M1) = some (r, h') → ∃ F', sm_run MT LK RO NV cq F' (d' + 1) j pc (sx_cl1 ρ lv) (sx_cs1 ρ s) (sx_HH lay rf M) = some (r, h') := by
              intro F2 r h' z5
              refine ⟨max F1 F2 + 1, ?_⟩
              rw [hrun, c4, c1]
              show (if sm_sum (sx_cs1 ρ rest) ≤ 8 ∧ (lg_sl (sx_cs1 ρ as)).length ≤ (MT k).2.1 then _ else none) = _
              rw [if_pos ⟨by rw [sx_sum_ok]; exact Nat.le_of_ble_eq_true ec1, by rw [sx_sl_len]; exact Nat.le_of_ble_eq_true ec2⟩, sm_fuel x5 (Nat.le_max_left _ _)]
              show sm_run MT LK RO NV cq (max F1 F2) (d' + 1) j (pc + 3) (sx_cl1 ρ lv) ((Option.map (sx_cv1 ρ1) o1.1).toList ++ sx_cs1 ρ rest) (sx_HH lay rf M1) = _
              rw [es, ← sx_ext_cl x1 hl]
              exact sm_fuel z5 (Nat.le_max_right _ _)
            obtain ⟨o3, o3m, ρ2, M2, z1, z2, z3, z4⟩ := ih (d' + 1) j false (pc + 3) lv _ o2.2 u ρ1 M1 u1 y2 (sx_ext_okl x1 y1 hl) okr
            refine ⟨o3, u2 o3 o3m, ρ2, M2, sx_ext_tr x1 z1 y1, Nat.le_trans y1 z2, z3, ?_⟩
            rcases z4 with ⟨r, w1, w2, F2, w3⟩ | ⟨w1, w2, w3, w4, w5⟩
            · obtain ⟨F', e'⟩ := cont _ _ _ w3
              exact Or.inl ⟨r, w1, w2, F', e'⟩
            · exact Or.inr ⟨w1, w2, w3, w4, fun F r h' e => (w5 F r h' e).elim fun F1 e1 => cont _ _ _ e1⟩
        | none =>
          rw [ecall] at h
          cases estep : sx_step bs ly rc ib sp (LK (MT j).1) (MT j).2.1 d ins pc lv s t with
          | none => rw [estep] at h; cases h
          | some l =>
            rw [estep] at h
            obtain ⟨n1, n2⟩ := sx_step_nc estep
            obtain ⟨o, om, ρ1, M1, x1, x2, x3, x4, x5, x6⟩ := sx_step_ok (NV := NV) (cq := cq) (ini := (MT j).2.2.2.2.1) hlo hb hrf hro hs hl hst estep
            obtain ⟨u, u1, u2⟩ := sx_cat_ok h om
            rw [sx_fN_eq] at u1
            have cont : ∀ F r h', sm_run MT LK RO NV cq F d j o.1 (sx_cl1 ρ1 o.2.1) (sx_cs1 ρ1 o.2.2.1) (sx_HH lay rf M1) = some (r, h') → ∃ F', sm_run MT LK RO NV cq F' d j pc (sx_cl1 ρ lv) (sx_cs1 ρ s) (sx_HH lay rf M) = some (r, h') := by
              intro F2 r h' z5
              refine ⟨F2 + 1, ?_⟩
              rw [hrun, n1, n2, x6]
              exact z5
            obtain ⟨o3, o3m, ρ2, M2, z1, z2, z3, z4⟩ := ih d j false o.1 o.2.1 o.2.2.1 o.2.2.2 u ρ1 M1 u1 x3 x4 x5
            refine ⟨o3, u2 o3 o3m, ρ2, M2, sx_ext_tr x1 z1 x2, Nat.le_trans x2 z2, z3, ?_⟩
            rcases z4 with ⟨r, w1, w2, F2, w3⟩ | ⟨w1, w2, w3, w4, w5⟩
            · obtain ⟨F', e'⟩ := cont _ _ _ w3
              exact Or.inl ⟨r, w1, w2, F', e'⟩
            · exact Or.inr ⟨w1, w2, w3, w4, fun F r h' e => (w5 F r h' e).elim fun F1 e1 => cont _ _ _ e1⟩
end
