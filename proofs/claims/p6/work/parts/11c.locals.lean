/-! Locals: more of them, or in another order, change nothing. -/
section
def lo_nd (lv : sm_V) : Prop := (lv.map Prod.fst).Nodup
def lo_le (a b : sm_V) : Prop := lo_nd a ∧ lo_nd b ∧ ∀ i v, sm_ld a i = some v → sm_ld b i = some v
theorem lo_none {i : Nat} : ∀ {lv : sm_V}, i ∉ lv.map Prod.fst → sm_ld lv i = none := by
  intro lv
  induction lv with
  | nil => intro _; rfl
  | cons q lv ih =>
    intro h
    rw [List.map_cons, List.mem_cons, not_or] at h
    show (if q.1 = i then some q.2 else sm_ld lv i) = none
    rw [if_neg (fun e => h.1 e.symm)]
    exact ih h.2
theorem lo_filter {P : Nat × Value → Bool} {i : Nat} : ∀ {lv : sm_V}, lo_nd lv → sm_ld (lv.filter P) i = (match sm_ld lv i with
    | some v => if P (i, v) = true then some v else none
    | none => none) := by
  intro lv
  induction lv with
  | nil => intro _; rfl
  | cons q lv ih =>
    intro hn
    have hn : (q.1 :: lv.map Prod.fst).Nodup := hn
    obtain ⟨h1, h2⟩ := List.nodup_cons.mp hn
    have ih := ih h2
    rw [List.filter_cons]
    show _ = (match (if q.1 = i then some q.2 else sm_ld lv i) with
      | some v => if P (i, v) = true then some v else none
      | none => none)
    by_cases hi : q.1 = i
    · rw [if_pos hi]
      have hnone : sm_ld lv i = none := lo_none (by rw [← hi]; exact h1)
      by_cases hp : P q = true
      · rw [if_pos hp]
        show (if q.1 = i then some q.2 else _) = if P (i, q.2) = true then some q.2 else none
        rw [if_pos hi, ← hi, if_pos hp]
      · rw [if_neg hp]
        show sm_ld (lv.filter P) i = if P (i, q.2) = true then some q.2 else none
        rw [ih, hnone, ← hi, if_neg hp]
    · rw [if_neg hi]
      by_cases hp : P q = true
      · rw [if_pos hp]
        show (if q.1 = i then some q.2 else _) = _
        rw [if_neg hi]
        exact ih
      · rw [if_neg hp]
        exact ih
theorem lo_nd_cons {P : Nat × Value → Bool} {lv : sm_V} {i : Nat} {v : Value} (hn : lo_nd lv) (hP : ∀ q, P q = true → q.1 ≠ i) : lo_nd ((i, v) :: lv.filter P) := by
  show (i :: (lv.filter P).map Prod.fst).Nodup
  refine List.nodup_cons.mpr ⟨fun h => ?_, ?_⟩
  · obtain ⟨q, hq, e⟩ := List.mem_map.mp h
    exact hP q (List.mem_filter.mp hq).2 e
  · exact List.Nodup.sublist (List.Sublist.map _ List.filter_sublist) hn
theorem lo_cons {P : Nat × Value → Bool} {a b : sm_V} {i : Nat} {v : Value} (h : lo_le a b) (hP : ∀ q, P q = true → q.1 ≠ i) : lo_le ((i, v) :: a.filter P) ((i, v) :: b.filter P) := by
  refine ⟨lo_nd_cons h.1 hP, lo_nd_cons h.2.1 hP, fun j w e => ?_⟩
  have e : (if i = j then some v else sm_ld (a.filter P) j) = some w := e
  show (if i = j then some v else sm_ld (b.filter P) j) = some w
  by_cases hj : i = j
  · rw [if_pos hj] at e ⊢
    exact e
  · rw [if_neg hj] at e ⊢
    rw [lo_filter h.1] at e
    rw [lo_filter h.2.1]
    cases ea : sm_ld a j with
    | none => rw [ea] at e; cases e
    | some u =>
      rw [ea] at e
      rw [h.2.2 j u ea]
      exact e
theorem lo_s1 {a b : sm_V} {i : Nat} {v : Value} (h : lo_le a b) : lo_le (sm_s1 a i v) (sm_s1 b i v) := lo_cons h fun q hq e => by
  rw [e] at hq
  simp at hq
theorem lo_s2 {a b : sm_V} {i : Nat} {v : Value} (h : lo_le a b) : lo_le (sm_s2 a i v) (sm_s2 b i v) := lo_cons h fun q hq e => by
  rw [e] at hq
  simp at hq
variable {lk : Nat → Option sm_L} {RO : List (Nat × (Nat → Int32))} {NV : Nat → List Value} {cq : Nat} {ini : Bool} {nL d pc : Nat}
/-- what doesn't look at locals -/
def lo_free (ins : Instr) : Bool := match ins with
  | .iload_n _ => false
  | .iload _ => false
  | .lload_n _ => false
  | .lload _ => false
  | .aload_n _ => false
  | .aload _ => false
  | .istore_n _ => false
  | .istore _ => false
  | .lstore_n _ => false
  | .lstore _ => false
  | .astore_n _ => false
  | .astore _ => false
  | .iinc _ _ => false
  | _ => true
set_option maxHeartbeats 4000000 in
theorem lo_nat {ins : Instr} {lv : sm_V} {s : List Value} {h : sm_H} (hf : lo_free ins = true) : sm_step lk RO NV cq ini nL d ins pc lv s h = (sm_step lk RO NV cq ini nL d ins pc [] s h).map fun o => (o.1, lv, o.2.2) := by
  cases ins
  case iload_n => cases hf
  case iload => cases hf
  case lload_n => cases hf
  case lload => cases hf
  case aload_n => cases hf
  case aload => cases hf
  case istore_n => cases hf
  case istore => cases hf
  case lstore_n => cases hf
  case lstore => cases hf
  case astore_n => cases hf
  case astore => cases hf
  case iinc => cases hf
  all_goals clear hf
  all_goals simp only [sm_step, sm_i1, sm_i2, sm_l1, sm_l2, sm_li, sm_ai, sm_r1, sm_jump, sm_br]
  all_goals (repeat' split)
  all_goals first
    | rfl
    | simp_all
theorem lo_step {ins : Instr} {a b : sm_V} {s : List Value} {h : sm_H} {o : sm_S} (hle : lo_le a b) (e : sm_step lk RO NV cq ini nL d ins pc a s h = some o) : ∃ b', sm_step lk RO NV cq ini nL d ins pc b s h = some (o.1, b', o.2.2) ∧ lo_le o.2.1 b' := by
  by_cases hf : lo_free ins = true
  · rw [lo_nat hf] at e
    obtain ⟨w, e1, e2⟩ := Option.map_eq_some_iff.mp e
    refine ⟨b, ?_, ?_⟩
    · rw [lo_nat hf, e1, ← e2]
      rfl
    · rw [← e2]
      exact hle
  · have ld : ∀ {k : Nat} {v : Value}, sm_ld a k = some v → sm_ld b k = some v := fun h => hle.2.2 _ _ h
    cases ins
    case iload_n k =>
      dsimp only [sm_step] at e ⊢
      split at e
      · rename_i x e1; cases e; rw [ld e1]; exact ⟨b, rfl, hle⟩
      · cases e
    case iload k =>
      dsimp only [sm_step] at e ⊢
      split at e
      · rename_i x e1; cases e; rw [ld e1]; exact ⟨b, rfl, hle⟩
      · cases e
    case lload_n k =>
      dsimp only [sm_step] at e ⊢
      split at e
      · rename_i x e1; cases e; rw [ld e1]; exact ⟨b, rfl, hle⟩
      · cases e
    case lload k =>
      dsimp only [sm_step] at e ⊢
      split at e
      · rename_i x e1; cases e; rw [ld e1]; exact ⟨b, rfl, hle⟩
      · cases e
    case aload_n k =>
      dsimp only [sm_step] at e ⊢
      split at e
      · rename_i x e1; cases e; rw [ld e1]; exact ⟨b, rfl, hle⟩
      · cases e
    case aload k =>
      dsimp only [sm_step] at e ⊢
      split at e
      · rename_i x e1; cases e; rw [ld e1]; exact ⟨b, rfl, hle⟩
      · cases e
    case istore_n k =>
      obtain ⟨x, r, rfl, e⟩ := sm_i1_eq e
      have e : (if (k : Nat) < nL then some (pc + 1, sm_s1 a k (.int x), r, h) else none) = some o := e
      split at e
      · rename_i hk; cases e
        exact ⟨sm_s1 b k (.int x), if_pos hk, lo_s1 hle⟩
      · cases e
    case istore k =>
      obtain ⟨x, r, rfl, e⟩ := sm_i1_eq e
      have e : (if k < nL then some (pc + 2, sm_s1 a k (.int x), r, h) else none) = some o := e
      split at e
      · rename_i hk; cases e
        exact ⟨sm_s1 b k (.int x), if_pos hk, lo_s1 hle⟩
      · cases e
    case astore_n k =>
      obtain ⟨x, r, rfl, e⟩ := sm_r1_eq e
      have e : (if (k : Nat) < nL then some (pc + 1, sm_s1 a k (.ref x), r, h) else none) = some o := e
      split at e
      · rename_i hk; cases e
        exact ⟨sm_s1 b k (.ref x), if_pos hk, lo_s1 hle⟩
      · cases e
    case astore k =>
      obtain ⟨x, r, rfl, e⟩ := sm_r1_eq e
      have e : (if k < nL then some (pc + 2, sm_s1 a k (.ref x), r, h) else none) = some o := e
      split at e
      · rename_i hk; cases e
        exact ⟨sm_s1 b k (.ref x), if_pos hk, lo_s1 hle⟩
      · cases e
    case lstore_n k =>
      obtain ⟨x, r, rfl, e⟩ := sm_l1_eq e
      have e : (if (k : Nat) + 1 < nL then some (pc + 1, sm_s2 a k (.long x), r, h) else none) = some o := e
      split at e
      · rename_i hk; cases e
        exact ⟨sm_s2 b k (.long x), if_pos hk, lo_s2 hle⟩
      · cases e
    case lstore k =>
      obtain ⟨x, r, rfl, e⟩ := sm_l1_eq e
      have e : (if k + 1 < nL then some (pc + 2, sm_s2 a k (.long x), r, h) else none) = some o := e
      split at e
      · rename_i hk; cases e
        exact ⟨sm_s2 b k (.long x), if_pos hk, lo_s2 hle⟩
      · cases e
    case iinc k n =>
      dsimp only [sm_step] at e ⊢
      split at e
      · rename_i x e1
        rw [ld e1]
        split at e
        · rename_i hk; cases e
          exact ⟨sm_s1 b k (.int (x + Int32.ofInt n)), if_pos hk, lo_s1 hle⟩
        · cases e
      · cases e
    all_goals exact absurd rfl hf
theorem lo_run {MT : Nat → sm_M} {LK : Nat → Nat → Option sm_L} : ∀ (f d j pc : Nat) (a b : sm_V) (s : List Value) (h : sm_H) (r : Option Value × sm_H), lo_le a b → sm_run MT LK RO NV cq f d j pc a s h = some r → sm_run MT LK RO NV cq f d j pc b s h = some r := by
  intro f
  induction f with
  | zero => intro d j pc a b s h r _ e; cases e
  | succ f ih =>
    intro d j pc a b s h r hle e
    rw [sm_run_s] at e
    rw [sm_run_s]
    split at e
    · cases e
    · split at e
      · rename_i hl
        rw [if_pos hl]
        split at e
        · exact e
        · split at e
          · cases d with
            | zero => cases e
            | succ d =>
              dsimp only at e ⊢
              split at e
              · rename_i hc
                rw [if_pos hc]
                split at e
                · exact ih _ _ _ _ _ _ _ _ hle e
                · cases e
              · cases e
          · split at e
            · rename_i o e1
              obtain ⟨b', e2, e3⟩ := lo_step hle e1
              rw [e2]
              exact ih _ _ _ _ _ _ _ _ e3 e
            · cases e
      · cases e
end
