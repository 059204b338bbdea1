/-! A method's contract, out of its segments. -/
section
theorem mt_step_d {lk : Nat → Option sm_L} {RO : List (Nat × (Nat → Int32))} {NV : Nat → List Value} {cq : Nat} {ini : Bool} {nL d pc : Nat} {ins : Instr} {lv : sm_V} {s : List Value} {h : sm_H} {o : sm_S} (e : sm_step lk RO NV cq ini nL d ins pc lv s h = some o) : sm_step lk RO NV cq ini nL (d + 1) ins pc lv s h = some o := by
  cases ins
  case invokespecial ix =>
    dsimp only [sm_step] at e ⊢
    split at e
    · rename_i a b c elk
      have e9 := sm_r1_eq e
      clear e
      obtain ⟨a, r, rfl, e⟩ := e9
      split at e
      · rename_i hc
        cases e
        exact if_pos ⟨by omega, hc.2⟩
      · cases e
    · cases e
  case invokestatic ix =>
    dsimp only [sm_step] at e ⊢
    split at e
    · rename_i a b c elk
      have e9 := sm_i2_eq e
      clear e
      obtain ⟨x, y, r, rfl, e⟩ := e9
      split at e
      · rename_i hc; cases e; exact if_pos ⟨by omega, hc.2⟩
      · cases e
    · rename_i a b c elk
      have e9 := sm_i2_eq e
      clear e
      obtain ⟨x, y, r, rfl, e⟩ := e9
      split at e
      · rename_i hc; cases e; exact if_pos ⟨by omega, hc.2⟩
      · cases e
    · rename_i a b c elk
      have e9 := sm_i1_eq e
      clear e
      obtain ⟨x, r, rfl, e⟩ := e9
      split at e
      · rename_i hc; cases e; exact if_pos ⟨by omega, hc.2⟩
      · cases e
    · rename_i a b c elk
      have e9 := sm_i2_eq e
      clear e
      obtain ⟨dp, n, s1, rfl, e⟩ := e9
      have e9 := sm_r1_eq e
      clear e
      obtain ⟨a, s2, rfl, e⟩ := e9
      have e9 := sm_ai_eq e
      clear e
      obtain ⟨a0, sp, r, rfl, e⟩ := e9
      split at e
      · rename_i hc
        exact (if_pos ⟨by omega, hc.2⟩).trans e
      · cases e
    · cases e
  all_goals exact e
theorem mt_run_d {MT : Nat → sm_M} {LK : Nat → Nat → Option sm_L} {RO : List (Nat × (Nat → Int32))} {NV : Nat → List Value} {cq : Nat} : ∀ (f d j pc : Nat) (lv : sm_V) (s : List Value) (h : sm_H) (r : Option Value × sm_H), sm_run MT LK RO NV cq f d j pc lv s h = some r → sm_run MT LK RO NV cq f (d + 1) j pc lv s h = some r := by
  intro f
  induction f with
  | zero => intro d j pc lv s h r e; cases e
  | succ f ih =>
    intro d j pc lv s h r e
    rw [sm_run_s] at e
    rw [sm_run_s]
    split at e
    · cases e
    · split at e
      · rename_i hl
        rw [if_pos hl]
        split at e
        · exact e
        · split at e
          · cases d with
            | zero => cases e
            | succ d =>
              dsimp only at e ⊢
              split at e
              · rename_i hc
                rw [if_pos hc]
                split at e
                · rename_i r1 h1 e1
                  rw [ih _ _ _ _ _ _ _ e1]
                  exact ih _ _ _ _ _ _ _ e
                · cases e
              · cases e
          · split at e
            · rename_i o e1
              rw [mt_step_d e1]
              exact ih _ _ _ _ _ _ _ e
            · cases e
      · cases e
theorem mt_d {MT : Nat → sm_M} {LK : Nat → Nat → Option sm_L} {RO : List (Nat × (Nat → Int32))} {NV : Nat → List Value} {cq : Nat} {f d d' j pc : Nat} {lv : sm_V} {s : List Value} {h : sm_H} {r : Option Value × sm_H} (e : sm_run MT LK RO NV cq f d j pc lv s h = some r) (hd : d ≤ d') : sm_run MT LK RO NV cq f d' j pc lv s h = some r := by
  induction d' with
  | zero => have : d = 0 := by omega
            subst this; exact e
  | succ d' ih =>
    by_cases hf : d ≤ d'
    · exact mt_run_d _ _ _ _ _ _ _ _ (ih hf)
    · have : d = d' + 1 := by omega
      subst this; exact e
/-- symbols for what is told by ranges -/
noncomputable def mt_as (qs : List ct_Q) : sx_S → List sx_V × sx_S := qs.rec (fun t => ([], t)) (fun q _ ih t => bif Nat.beq q.1 2 then ((2, 0, q.2.1) :: (ih t).1, (ih t).2) else ((q.1, t.1, 0) :: (ih (sx_fresh t q.2).2).1, (ih (sx_fresh t q.2).2).2))
variable {ly : Nat → Option sx_H} {ib : sx_A} {xs : Nat → Int32} {L : Nat} {M0 : Nat → Nat → Int} {M : Nat → Nat → Int}
theorem mt_as_ok : ∀ {qs : List ct_Q} {vs : List Value} {ρ : Nat → Int} {t : sx_S}, ct_vs qs vs → sx_sat ly ib xs L M0 ρ M t → ∃ ρ', sx_ext t.1 ρ ρ' ∧ t.1 ≤ (mt_as qs t).2.1 ∧ sx_sat ly ib xs L M0 ρ' M (mt_as qs t).2 ∧ sx_cs1 ρ' (mt_as qs t).1 = vs ∧ sx_oks ρ' (mt_as qs t).2.1 (mt_as qs t).1 := by
  intro qs
  induction qs with
  | nil =>
    intro vs ρ t hv hs
    cases vs with
    | nil => exact ⟨ρ, sx_ext_rfl, Nat.le_refl _, hs, rfl, fun v hv => by cases hv⟩
    | cons v vs => cases hv
  | cons q qs ih =>
    intro vs ρ t hv hs
    cases vs with
    | nil => cases hv
    | cons v vs =>
      obtain ⟨hv1, hv2⟩ := hv
      have e : mt_as (q :: qs) t = (bif Nat.beq q.1 2 then ((2, 0, q.2.1) :: (mt_as qs t).1, (mt_as qs t).2) else ((q.1, t.1, 0) :: (mt_as qs (sx_fresh t q.2).2).1, (mt_as qs (sx_fresh t q.2).2).2)) := rfl
      rw [e]
      have fresh : ∀ z, q.1 ≠ 2 → sx_w q.2 z → sx_w sx_r64 z → (q.1 = 0 → sx_w sx_r32 z) → (∀ ρ' : Nat → Int, sx_val ρ' (t.1, 0) = z → sx_cv1 ρ' (q.1, t.1, 0) = v) → ∃ ρ', sx_ext t.1 ρ ρ' ∧ t.1 ≤ (mt_as qs (sx_fresh t q.2).2).2.1 ∧ sx_sat ly ib xs L M0 ρ' M (mt_as qs (sx_fresh t q.2).2).2 ∧ sx_cs1 ρ' ((q.1, t.1, 0) :: (mt_as qs (sx_fresh t q.2).2).1) = v :: vs ∧ sx_oks ρ' (mt_as qs (sx_fresh t q.2).2).2.1 ((q.1, t.1, 0) :: (mt_as qs (sx_fresh t q.2).2).1) := by
        intro z _ hz h64 h32 hcv
        obtain ⟨ρ', a1, a2, a3, a4, a5⟩ := ih hv2 (sx_sat_fresh hs hz h64)
        have hval : sx_val ρ' (t.1, 0) = z := by
          rw [sx_ext_val a1 (show ((t.1, 0) : sx_A).1 < (sx_fresh t q.2).2.1 from Nat.lt_succ_self _)]
          exact sx_nu_at
        refine ⟨ρ', sx_ext_tr sx_nu_ext a1 (Nat.le_succ _), Nat.le_trans (Nat.le_succ _) a2, a3, ?_, sx_oks_cons ⟨Nat.lt_of_lt_of_le (Nat.lt_succ_self _) a2, fun h0 => ?_, fun _ => ?_⟩ a5⟩
        · show sx_cv1 ρ' (q.1, t.1, 0) :: sx_cs1 ρ' _ = _
          rw [hcv ρ' hval, a4]
        · show sx_w sx_r32 (sx_val ρ' (t.1, 0))
          rw [hval]; exact h32 h0
        · show sx_w sx_r64 (sx_val ρ' (t.1, 0))
          rw [hval]; exact h64
      rcases hv1 with ⟨h0, z, hv, hz, h32⟩ | ⟨h0, z, hv, hz, h64⟩ | ⟨h0, hv⟩
      · rw [sx_bfalse (sx_nbeq_f.mpr (by omega))]
        refine fresh z (by omega) hz (sx_32_64 h32) (fun _ => h32) (fun ρ' h => ?_)
        rw [sx_cvk0 (v := (q.1, t.1, 0)) h0, hv]
        show Value.int (Int32.ofInt (sx_val ρ' (t.1, 0))) = _
        rw [h]
      · rw [sx_bfalse (sx_nbeq_f.mpr (by omega))]
        refine fresh z (by omega) hz h64 (fun h => by omega) (fun ρ' h => ?_)
        rw [sx_cvk1 (v := (q.1, t.1, 0)) h0, hv]
        show Value.long (Int64.ofInt (sx_val ρ' (t.1, 0))) = _
        rw [h]
      · rw [sx_bt (sx_nbeq.mpr h0)]
        obtain ⟨ρ', a1, a2, a3, a4, a5⟩ := ih hv2 hs
        refine ⟨ρ', a1, a2, a3, ?_, sx_oks_cons (sx_ck2 (t := (mt_as qs t).2) a3 _) a5⟩
        show sx_cv1 ρ' (2, 0, q.2.1) :: sx_cs1 ρ' _ = _
        rw [a4, hv]
        rfl
end
