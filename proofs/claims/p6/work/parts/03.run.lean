/-! The small machine's run: instructions and calls. -/
theorem sm_keepH {h : sm_H} : h.length ≤ h.length ∧ sm_sz h ≤ sm_sz h := ⟨Nat.le_refl _, Nat.le_refl _⟩
theorem sm_setH {h : sm_H} {k : Nat} {c d : sm_C} (hk : h[k]? = some d) (e : sm_cz c = sm_cz d) : h.length ≤ (h.set k c).length ∧ sm_sz h ≤ sm_sz (h.set k c) := ⟨by rw [List.length_set]; exact Nat.le_refl _, by rw [sm_sz_set _ _ _ _ hk e]; exact Nat.le_refl _⟩
theorem sm_appH {h : sm_H} {c : sm_C} : h.length ≤ (h ++ [c]).length ∧ sm_sz h ≤ sm_sz (h ++ [c]) := ⟨by rw [List.length_append]; exact Nat.le_add_right _ _, by rw [sm_sz_app]; exact Nat.le_add_right _ _⟩
theorem sz_putfield {lk : Nat → Option sm_L} {RO : List (Nat × (Nat → Int32))} {NV : Nat → List Value} {cq : Nat} {ini : Bool} {nL d : Nat} {pc pc' : Nat} {lv lv' : sm_V} {sk sk' : List Value} {h h' : sm_H} {ix : Nat} (hs : sm_step lk RO NV cq ini nL d (.putfield ix) pc lv sk h = some (pc', lv', sk', h')) : h.length ≤ h'.length ∧ sm_sz h ≤ sm_sz h' := by
    dsimp only [sm_step] at hs
    split at hs
    · split at hs
      · split at hs
        · rename_i fs e1
          split at hs
          · cases hs
            exact sm_setH (sm_obj_at (ad := id) (cA := fun _ => 0) (base := 0) e1).2.1 (by simp [sm_cz])
          · cases hs
        · cases hs
      · cases hs
    · cases hs
theorem sz_iastore {lk : Nat → Option sm_L} {RO : List (Nat × (Nat → Int32))} {NV : Nat → List Value} {cq : Nat} {ini : Bool} {nL d : Nat} {pc pc' : Nat} {lv lv' : sm_V} {sk sk' : List Value} {h h' : sm_H}  (hs : sm_step lk RO NV cq ini nL d .iastore pc lv sk h = some (pc', lv', sk', h')) : h.length ≤ h'.length ∧ sm_sz h ≤ sm_sz h' := by
    have hs1 := sm_i1_eq hs
    clear hs
    obtain ⟨x, s1, e0, hs⟩ := hs1
    have hs1 := sm_ai_eq hs
    clear hs
    obtain ⟨a, i, r, e0, hs⟩ := hs1
    split at hs
    · rename_i n f e1
      split at hs
      · cases hs
        exact sm_setH (sm_ints_own (ad := id) (cA := fun _ => 0) (base := 0) e1).2.1 (by rfl)
      · cases hs
    · cases hs
theorem sz_bastore {lk : Nat → Option sm_L} {RO : List (Nat × (Nat → Int32))} {NV : Nat → List Value} {cq : Nat} {ini : Bool} {nL d : Nat} {pc pc' : Nat} {lv lv' : sm_V} {sk sk' : List Value} {h h' : sm_H}  (hs : sm_step lk RO NV cq ini nL d .bastore pc lv sk h = some (pc', lv', sk', h')) : h.length ≤ h'.length ∧ sm_sz h ≤ sm_sz h' := by
    have hs1 := sm_i1_eq hs
    clear hs
    obtain ⟨x, s1, e0, hs⟩ := hs1
    have hs1 := sm_ai_eq hs
    clear hs
    obtain ⟨a, i, r, e0, hs⟩ := hs1
    split at hs
    · rename_i n f e1
      split at hs
      · cases hs
        exact sm_setH (sm_ints_own (ad := id) (cA := fun _ => 0) (base := 0) e1).2.1 (by rfl)
      · cases hs
    · cases hs
theorem sz_sastore {lk : Nat → Option sm_L} {RO : List (Nat × (Nat → Int32))} {NV : Nat → List Value} {cq : Nat} {ini : Bool} {nL d : Nat} {pc pc' : Nat} {lv lv' : sm_V} {sk sk' : List Value} {h h' : sm_H}  (hs : sm_step lk RO NV cq ini nL d .sastore pc lv sk h = some (pc', lv', sk', h')) : h.length ≤ h'.length ∧ sm_sz h ≤ sm_sz h' := by
    have hs1 := sm_i1_eq hs
    clear hs
    obtain ⟨x, s1, e0, hs⟩ := hs1
    have hs1 := sm_ai_eq hs
    clear hs
    obtain ⟨a, i, r, e0, hs⟩ := hs1
    split at hs
    · rename_i n f e1
      split at hs
      · cases hs
        exact sm_setH (sm_ints_own (ad := id) (cA := fun _ => 0) (base := 0) e1).2.1 (by rfl)
      · cases hs
    · cases hs
theorem sz_lastore {lk : Nat → Option sm_L} {RO : List (Nat × (Nat → Int32))} {NV : Nat → List Value} {cq : Nat} {ini : Bool} {nL d : Nat} {pc pc' : Nat} {lv lv' : sm_V} {sk sk' : List Value} {h h' : sm_H}  (hs : sm_step lk RO NV cq ini nL d .lastore pc lv sk h = some (pc', lv', sk', h')) : h.length ≤ h'.length ∧ sm_sz h ≤ sm_sz h' := by
    have hs1 := sm_l1_eq hs
    clear hs
    obtain ⟨x, s1, e0, hs⟩ := hs1
    have hs1 := sm_ai_eq hs
    clear hs
    obtain ⟨a, i, r, e0, hs⟩ := hs1
    split at hs
    · rename_i n f e1
      split at hs
      · cases hs
        exact sm_setH (sm_longs_at (ad := id) (cA := fun _ => 0) (base := 0) e1).2.1 (by rfl)
      · cases hs
    · cases hs
theorem sz_aastore {lk : Nat → Option sm_L} {RO : List (Nat × (Nat → Int32))} {NV : Nat → List Value} {cq : Nat} {ini : Bool} {nL d : Nat} {pc pc' : Nat} {lv lv' : sm_V} {sk sk' : List Value} {h h' : sm_H}  (hs : sm_step lk RO NV cq ini nL d .aastore pc lv sk h = some (pc', lv', sk', h')) : h.length ≤ h'.length ∧ sm_sz h ≤ sm_sz h' := by
    have hs1 := sm_r1_eq hs
    clear hs
    obtain ⟨x, s1, e0, hs⟩ := hs1
    have hs1 := sm_ai_eq hs
    clear hs
    obtain ⟨a, i, r, e0, hs⟩ := hs1
    split at hs
    · rename_i n f e1
      split at hs
      · split at hs
        · cases hs
          exact sm_setH (sm_refs_at (ad := id) (cA := fun _ => 0) (base := 0) e1).2.1 (by rfl)
        · cases hs
      · cases hs
    · cases hs
theorem sz_invokestatic {lk : Nat → Option sm_L} {RO : List (Nat × (Nat → Int32))} {NV : Nat → List Value} {cq : Nat} {ini : Bool} {nL d : Nat} {pc pc' : Nat} {lv lv' : sm_V} {sk sk' : List Value} {h h' : sm_H} {ix : Nat} (hs : sm_step lk RO NV cq ini nL d (.invokestatic ix) pc lv sk h = some (pc', lv', sk', h')) : h.length ≤ h'.length ∧ sm_sz h ≤ sm_sz h' := by
    dsimp only [sm_step] at hs
    split at hs
    · obtain ⟨x, y, r, e0, hs9⟩ := sm_i2_eq hs
      split at hs9
      · cases hs9
        exact sm_keepH
      · cases hs9
    · obtain ⟨x, y, r, e0, hs9⟩ := sm_i2_eq hs
      split at hs9
      · cases hs9
        exact sm_keepH
      · cases hs9
    · obtain ⟨x, r, e0, hs9⟩ := sm_i1_eq hs
      split at hs9
      · cases hs9
        exact sm_keepH
      · cases hs9
    · obtain ⟨dp, n, s1, e0, hs9⟩ := sm_i2_eq hs
      obtain ⟨a, s2, e0, hs8⟩ := sm_r1_eq hs9
      obtain ⟨a0, sp, r, e0, hs7⟩ := sm_ai_eq hs8
      split at hs7
      · split at hs7
        · rename_i hh e5
          cases hs7
          obtain ⟨n0', f, n1, g, x1, x2, x3, x4, rfl⟩ := sm_cpI_eq e5
          exact sm_setH (sm_ints_own (ad := id) (cA := fun _ => 0) (base := 0) x2).2.1 (by rfl)
        · split at hs7
          · rename_i hh e5
            cases hs7
            obtain ⟨n0', f, n1, g, x1, x2, x3, x4, rfl⟩ := sm_cpL_eq e5
            exact sm_setH (sm_longs_at (ad := id) (cA := fun _ => 0) (base := 0) x2).2.1 (by rfl)
          · cases hs7
      · cases hs7
    · cases hs
set_option maxHeartbeats 4000000 in
theorem sm_mono {lk : Nat → Option sm_L} {RO : List (Nat × (Nat → Int32))} {NV : Nat → List Value} {cq : Nat} {ini : Bool} {nL d : Nat} {pc pc' : Nat} {lv lv' : sm_V} {sk sk' : List Value} {h h' : sm_H} {ins : Instr} (hs : sm_step lk RO NV cq ini nL d ins pc lv sk h = some (pc', lv', sk', h')) : h.length ≤ h'.length ∧ sm_sz h ≤ sm_sz h' := by
  cases ins
  case putfield => exact sz_putfield hs
  case iastore => exact sz_iastore hs
  case bastore => exact sz_bastore hs
  case sastore => exact sz_sastore hs
  case lastore => exact sz_lastore hs
  case aastore => exact sz_aastore hs
  case invokestatic => exact sz_invokestatic hs
  all_goals (simp only [sm_step, sm_i1, sm_i2, sm_l1, sm_l2, sm_li, sm_ai, sm_r1, sm_jump, sm_br] at hs)
  all_goals (repeat' split at hs)
  all_goals first
    | (cases hs; exact sm_keepH)
    | (cases hs; exact sm_appH)
    | (cases hs; done)
def sm_ret (kind : Nat) (ins : Instr) (s : List Value) : Option (Option Value) := match ins with
  | .ireturn => match s with
    | [.int v] => if kind = 1 ∨ (kind = 3 ∧ (v = 0 ∨ v = 1)) then some (some (.int v)) else none
    | _ => none
  | .lreturn => match s with
    | [.long v] => if kind = 2 then some (some (.long v)) else none
    | _ => none
  | .return_ => match s with
    | [] => if kind = 0 then some none else none
    | _ => none
  | _ => none
def sm_call (lk : Nat → Option sm_L) (MA : Nat → Nat) (ins : Instr) (s : List Value) (h : sm_H) : Option (Nat × List Value × List Value) := match ins with
  | .invokevirtual ix => match lk ix with
    | some (1, k, ci, _) => match s.drop (MA k) with
      | .ref b :: rest => match sm_obj h b ci with
        | some _ => some (k, .ref b :: (s.take (MA k)).reverse, rest)
        | none => none
      | _ => none
    | _ => none
  | .invokestatic ix => match lk ix with
    | some (2, k, _, _) => if MA k ≤ s.length then some (k, (s.take (MA k)).reverse, s.drop (MA k)) else none
    | some (15, k, _, _) => if MA k ≤ s.length then some (k, (s.take (MA k)).reverse, s.drop (MA k)) else none
    | _ => none
  | .invokespecial ix => match lk ix with
    | some (3, k, _, _) => match s.drop (MA k) with
      | .ref b :: rest => some (k, .ref b :: (s.take (MA k)).reverse, rest)
      | _ => none
    | some (14, k, _, _) => match s.drop (MA k) with
      | .ref b :: rest => some (k, .ref b :: (s.take (MA k)).reverse, rest)
      | _ => none
    | _ => none
  | _ => none
/-- of a method: its class, its locals' number, what it answers (0 nothing, 1 int, 2 long, 3 boolean), its parameters' number, whether it is a constructor, its instructions -/
abbrev sm_M : Type := Nat × Nat × Nat × Nat × Bool × (Nat → Option (Instr × Nat))
def sm_run (MT : Nat → sm_M) (LK : Nat → Nat → Option sm_L) (RO : List (Nat × (Nat → Int32))) (NV : Nat → List Value) (cq : Nat) : Nat → Nat → Nat → Nat → sm_V → List Value → sm_H → Option (Option Value × sm_H)
  | 0, _, _, _, _, _, _ => none
  | f + 1, d, j, pc, lv, s, h => match (MT j).2.2.2.2.2 pc with
    | none => none
    | some (ins, len) => if len = sm_len ins len then (match sm_ret (MT j).2.2.1 ins s with
      | some r => some (r, h)
      | none => match sm_call (LK (MT j).1) (fun k => (MT k).2.2.2.1) ins s h with
        | some (k, as, rest) => match d with
          | 0 => none
          | d' + 1 => if sm_sum rest ≤ 8 ∧ (lg_sl as).length ≤ (MT k).2.1 then (match sm_run MT LK RO NV cq f d' k 0 (lv_args 0 as) [] h with
            | some (r, h1) => sm_run MT LK RO NV cq f (d' + 1) j (pc + 3) lv (r.toList ++ rest) h1
            | none => none) else none
        | none => match sm_step (LK (MT j).1) RO NV cq (MT j).2.2.2.2.1 (MT j).2.1 d ins pc lv s h with
          | some o => sm_run MT LK RO NV cq f d j o.1 o.2.1 o.2.2.1 o.2.2.2
          | none => none) else none
theorem sm_run_mono {MT : Nat → sm_M} {LK : Nat → Nat → Option sm_L} {RO : List (Nat × (Nat → Int32))} {NV : Nat → List Value} {cq : Nat} : ∀ (f d j pc : Nat) (lv : sm_V) (s : List Value) (h : sm_H) (r : Option Value) (h' : sm_H), sm_run MT LK RO NV cq f d j pc lv s h = some (r, h') → h.length ≤ h'.length ∧ sm_sz h ≤ sm_sz h' := by
  intro f
  induction f with
  | zero => intro d j pc lv s h r h' e; simp [sm_run] at e
  | succ f ih =>
    intro d j pc lv s h r h' e
    unfold sm_run at e
    split at e
    · cases e
    · split at e
      · split at e
        · cases e
          exact sm_keepH
        · split at e
          · split at e
            · cases e
            · split at e
              · split at e
                · rename_i r1 h1 e1
                  have a1 := ih _ _ _ _ _ _ _ _ e1
                  have a2 := ih _ _ _ _ _ _ _ _ e
                  exact ⟨Nat.le_trans a1.1 a2.1, Nat.le_trans a1.2 a2.2⟩
                · cases e
              · cases e
          · split at e
            · rename_i o e1
              have a1 := sm_mono (pc' := o.1) (lv' := o.2.1) (sk' := o.2.2.1) (h' := o.2.2.2) e1
              have a2 := ih _ _ _ _ _ _ _ _ e
              exact ⟨Nat.le_trans a1.1 a2.1, Nat.le_trans a1.2 a2.2⟩
            · cases e
      · cases e
theorem sm_run_ret {MT : Nat → sm_M} {LK : Nat → Nat → Option sm_L} {RO : List (Nat × (Nat → Int32))} {NV : Nat → List Value} {cq : Nat} : ∀ (f d j pc : Nat) (lv : sm_V) (s : List Value) (h : sm_H) (r : Option Value) (h' : sm_H), sm_run MT LK RO NV cq f d j pc lv s h = some (r, h') → ∃ ins s', sm_ret (MT j).2.2.1 ins s' = some r := by
  intro f
  induction f with
  | zero => intro d j pc lv s h r h' e; simp [sm_run] at e
  | succ f ih =>
    intro d j pc lv s h r h' e
    unfold sm_run at e
    split at e
    · cases e
    · split at e
      · split at e
        · rename_i e1
          cases e
          exact ⟨_, _, e1⟩
        · split at e
          · split at e
            · cases e
            · split at e
              · split at e
                · exact ih _ _ _ _ _ _ _ _ e
                · cases e
              · cases e
          · split at e
            · exact ih _ _ _ _ _ _ _ _ e
            · cases e
      · cases e
theorem sm_ret_eq {kind : Nat} {ins : Instr} {s : List Value} {r : Option Value} (h : sm_ret kind ins s = some r) :
    (∃ v, ins = .ireturn ∧ s = [.int v] ∧ r = some (.int v) ∧ (kind = 1 ∨ (kind = 3 ∧ (v = 0 ∨ v = 1)))) ∨ (∃ v, ins = .lreturn ∧ s = [.long v] ∧ r = some (.long v) ∧ kind = 2) ∨ (ins = .return_ ∧ s = [] ∧ r = none ∧ kind = 0) := by
  unfold sm_ret at h
  split at h
  · split at h
    · split at h
      · rename_i hk
        cases h
        exact Or.inl ⟨_, rfl, rfl, rfl, hk⟩
      · cases h
    · cases h
  · split at h
    · split at h
      · rename_i hk
        cases h
        exact Or.inr (Or.inl ⟨_, rfl, rfl, rfl, hk⟩)
      · cases h
    · cases h
  · split at h
    · split at h
      · rename_i hk
        cases h
        exact Or.inr (Or.inr ⟨rfl, rfl, rfl, hk⟩)
      · cases h
    · cases h
  · cases h
theorem sm_args_map (ad : Nat → Nat) : ∀ (as : List Value) (i : Nat), sm_lv ad (lv_args i as) = lv_args i (as.map (sm_v ad)) := by
  intro as
  induction as with
  | nil => intro i; rfl
  | cons v as ih =>
    intro i
    show (i, sm_v ad v) :: sm_lv ad (lv_args _ as) = (i, sm_v ad v) :: lv_args _ (as.map (sm_v ad))
    rw [ih, sm_v_cat]
theorem sm_sl_len (ad : Nat → Nat) (as : List Value) : (lg_sl (as.map (sm_v ad))).length = (lg_sl as).length := by
  unfold lg_sl
  induction as with
  | nil => rfl
  | cons v as ih =>
    simp only [List.map_cons, List.flatMap_cons, List.length_append, ih, sm_v_cat]
    split <;> rfl
