/-! A small machine of its own: cells are numbered as they are made, a reference is a cell's number (from 8 on; below 8: arrays that are only read). What it answers, the machine of the Statement answers too (parts 02, 03). -/
abbrev sm_C : Type := (Nat × vp_A) ⊕ (Nat × List Value)
abbrev sm_H : Type := List sm_C
abbrev sm_L : Type := Nat × Nat × Nat × Int
abbrev sm_V : Type := List (Nat × Value)
def sm_ad (st : Nat → Nat) (base k : Nat) : Nat := if k < 8 then st k else base + (k - 8)
def sm_v (ad : Nat → Nat) (v : Value) : Value := match v with
  | .ref k => .ref (ad k)
  | .int x => .int x
  | .long x => .long x
  | .float x => .float x
  | .double x => .double x
  | .null => .null
  | .retAddr x => .retAddr x
def sm_ar (ad : Nat → Nat) (a : vp_A) : vp_A := (a.1, match a.2 with
  | .inl f => .inl f
  | .inr (.inl f) => .inr (.inl f)
  | .inr (.inr (.inl f)) => .inr (.inr (.inl f))
  | .inr (.inr (.inr (.inl f))) => .inr (.inr (.inr (.inl f)))
  | .inr (.inr (.inr (.inr f))) => .inr (.inr (.inr (.inr (fun j => (f j).map ad)))))
def sm_e (ad : Nat → Nat) (cA : Nat → ClassId) (c : sm_C) : va_E := match c with
  | .inl q => .inl (cA q.1, sm_ar ad q.2)
  | .inr o => .inr (o.1, o.2.map (sm_v ad))
def sm_w (ad : Nat → Nat) (cA : Nat → ClassId) (base : Nat) (h : sm_H) : va_W := h.mapIdx (fun k c => (base + k, sm_e ad cA c))
def sm_cz (c : sm_C) : Nat := match c with
  | .inl q => q.2.1
  | .inr o => o.2.length
def sm_sz : sm_H → Nat
  | [] => 0
  | c :: h => sm_cz c + sm_sz h
theorem sm_w_get (ad : Nat → Nat) (cA : Nat → ClassId) (base : Nat) (h : sm_H) (k : Nat) : (sm_w ad cA base h)[k]? = (h[k]?).map (fun c => (base + k, sm_e ad cA c)) := by
  unfold sm_w
  rw [List.getElem?_mapIdx]
theorem sm_w_len (ad : Nat → Nat) (cA : Nat → ClassId) (base : Nat) (h : sm_H) : (sm_w ad cA base h).length = h.length := by
  unfold sm_w
  rw [List.length_mapIdx]
theorem sm_w_set (ad : Nat → Nat) (cA : Nat → ClassId) (base : Nat) (h : sm_H) (k : Nat) (c : sm_C) : (sm_w ad cA base h).set k (base + k, sm_e ad cA c) = sm_w ad cA base (h.set k c) := by
  apply List.ext_getElem?
  intro i
  rw [sm_w_get, List.getElem?_set, List.getElem?_set, sm_w_get, sm_w_len]
  by_cases hk : k = i
  · subst hk
    by_cases hl : k < h.length
    · simp [hl]
    · simp [hl]
  · simp [hk]
theorem sm_w_app (ad : Nat → Nat) (cA : Nat → ClassId) (base : Nat) (h : sm_H) (c : sm_C) : sm_w ad cA base (h ++ [c]) = sm_w ad cA base h ++ [(base + h.length, sm_e ad cA c)] := by
  unfold sm_w
  rw [List.mapIdx_append]
  simp
theorem sm_w_D (ad : Nat → Nat) (cA : Nat → ClassId) (base : Nat) (h : sm_H) : va_D (fun q : Nat => base ≤ q) (sm_w ad cA base h) := by
  refine ⟨fun i j p q hi hj e => ?_, fun k q hk => ?_⟩
  · rw [sm_w_get] at hi hj
    obtain ⟨a, -, rfl⟩ := Option.map_eq_some_iff.mp hi
    obtain ⟨b, -, rfl⟩ := Option.map_eq_some_iff.mp hj
    exact Nat.add_left_cancel e
  · rw [sm_w_get] at hk
    obtain ⟨a, -, rfl⟩ := Option.map_eq_some_iff.mp hk
    exact Nat.le_add_right base k
theorem sm_sz_app (h : sm_H) (c : sm_C) : sm_sz (h ++ [c]) = sm_sz h + sm_cz c := by
  induction h with
  | nil => simp [sm_sz]
  | cons a h ih => simp only [List.cons_append, sm_sz, ih]; omega
theorem sm_sz_set (h : sm_H) (k : Nat) (c d : sm_C) (hk : h[k]? = some d) (e : sm_cz c = sm_cz d) : sm_sz (h.set k c) = sm_sz h := by
  induction h generalizing k with
  | nil => simp at hk
  | cons a h ih =>
    cases k with
    | zero =>
      simp only [List.getElem?_cons_zero, Option.some.injEq] at hk
      subst hk
      simp only [List.set_cons_zero, sm_sz, e]
    | succ k =>
      simp only [List.getElem?_cons_succ] at hk
      simp only [List.set_cons_succ, sm_sz, ih k hk]
theorem sm_v_cat (ad : Nat → Nat) (v : Value) : (sm_v ad v).category = v.category := by cases v <;> rfl
-- locals
def sm_lv (ad : Nat → Nat) (lv : sm_V) : sm_V := lv.map (fun q => (q.1, sm_v ad q.2))
def sm_ld (lv : sm_V) (i : Nat) : Option Value := match lv with
  | [] => none
  | q :: r => if q.1 = i then some q.2 else sm_ld r i
theorem sm_ld_mem {lv : sm_V} {i : Nat} {v : Value} (h : sm_ld lv i = some v) : (i, v) ∈ lv := by
  induction lv with
  | nil => simp [sm_ld] at h
  | cons q r ih =>
    unfold sm_ld at h
    split at h
    · rename_i e
      subst e
      rw [← Option.some.inj h]
      exact List.mem_cons_self
    · exact List.mem_cons_of_mem _ (ih h)
theorem sm_ld_at {ad : Nat → Nat} {ls : Array Slot} {nL : Nat} {lv : sm_V} {i : Nat} {v : Value} (hl : lv_has ls nL (sm_lv ad lv)) (h : sm_ld lv i = some v) : ls[i]? = some (.val (sm_v ad v)) :=
  hl.2.2 (i, sm_v ad v) (List.mem_map.mpr ⟨(i, v), sm_ld_mem h, rfl⟩)
def sm_s1 (lv : sm_V) (i : Nat) (v : Value) : sm_V := (i, v) :: lv.filter (fun q => !(q.1 == i) && !(q.1 + 1 == i && q.2.category == 2))
def sm_s2 (lv : sm_V) (i : Nat) (v : Value) : sm_V := (i, v) :: lv.filter (fun q => !(q.1 == i) && (!(q.1 == i + 1) && !(q.1 + 1 == i && q.2.category == 2)))
theorem sm_s1_map (ad : Nat → Nat) (lv : sm_V) (i : Nat) (v : Value) : (i, sm_v ad v) :: (sm_lv ad lv).filter (fun q => !(q.1 == i) && !(q.1 + 1 == i && q.2.category == 2)) = sm_lv ad (sm_s1 lv i v) := by
  unfold sm_lv sm_s1
  rw [List.map_cons, List.filter_map]
  congr 2
  refine congrFun (congrArg _ ?_) _
  funext q
  simp [Function.comp, sm_v_cat]
theorem sm_s2_map (ad : Nat → Nat) (lv : sm_V) (i : Nat) (v : Value) : (i, sm_v ad v) :: (sm_lv ad lv).filter (fun q => !(q.1 == i) && (!(q.1 == i + 1) && !(q.1 + 1 == i && q.2.category == 2))) = sm_lv ad (sm_s2 lv i v) := by
  unfold sm_lv sm_s2
  rw [List.map_cons, List.filter_map]
  congr 2
  refine congrFun (congrArg _ ?_) _
  funext q
  simp [Function.comp, sm_v_cat]
-- numbers
def sm_in (i : Int32) (n : Nat) : Bool := !decide (i < 0) && decide (i.toNatClampNeg < n)
theorem sm_in_vp {i : Int32} {n : Nat} (h : sm_in i n = true) : vp_in i n := by
  unfold sm_in at h
  simp only [Bool.and_eq_true, Bool.not_eq_true', decide_eq_false_iff_not, decide_eq_true_eq] at h
  rintro (q | q)
  · exact h.1 q
  · omega
def sm_tg (pc : Nat) (off : Int) : Option Nat := match (pc : Int) + off with
  | .ofNat n => some n
  | .negSucc _ => none
theorem sm_tg_eq {pc t : Nat} {off : Int} (h : sm_tg pc off = some t) : (pc : Int) + off = (t : Int) := by
  unfold sm_tg at h
  split at h
  · rename_i n e
    cases h
    exact e
  · cases h
def sm_c1 (c : Jvm.ClassFile.Cond) (x : Int32) : Bool := match c with
  | .eq => decide (x = 0)
  | .ne => !decide (x = 0)
  | .lt => decide (x < 0)
  | .ge => decide (0 ≤ x)
  | .gt => decide (0 < x)
  | .le => decide (x ≤ 0)
def sm_c2 (c : Jvm.ClassFile.Cond) (x y : Int32) : Bool := match c with
  | .eq => decide (x = y)
  | .ne => !decide (x = y)
  | .lt => decide (x < y)
  | .ge => decide (y ≤ x)
  | .gt => decide (y < x)
  | .le => decide (x ≤ y)
def sm_sum (s : List Value) : Nat := (s.map fun v => v.category).sum
def sm_len (i : Instr) (len : Nat) : Nat := match i with
  | .bipush _ => 2
  | .iload _ => 2
  | .aload _ => 2
  | .lload _ => 2
  | .istore _ => 2
  | .astore _ => 2
  | .lstore _ => 2
  | .newarray _ => 2
  | .ldc _ => 2
  | .sipush _ => 3
  | .iinc _ _ => 3
  | .goto _ => 3
  | .ifCond _ _ => 3
  | .if_icmp _ _ => 3
  | .getfield _ => 3
  | .putfield _ => 3
  | .getstatic _ => 3
  | .new _ => 3
  | .anewarray _ => 3
  | .ldc_w _ => 3
  | .ldc2_w _ => 3
  | .invokestatic _ => 3
  | .invokevirtual _ => 3
  | .invokespecial _ => 3
  | .tableswitch _ _ _ _ => len
  | .lookupswitch _ _ => len
  | _ => 1
abbrev sm_S : Type := Nat × sm_V × List Value × sm_H
def sm_i1 (s : List Value) (k : Int32 → List Value → Option sm_S) : Option sm_S := match s with
  | .int x :: r => k x r
  | _ => none
def sm_i2 (s : List Value) (k : Int32 → Int32 → List Value → Option sm_S) : Option sm_S := match s with
  | .int y :: .int x :: r => k x y r
  | _ => none
def sm_l1 (s : List Value) (k : Int64 → List Value → Option sm_S) : Option sm_S := match s with
  | .long x :: r => k x r
  | _ => none
def sm_l2 (s : List Value) (k : Int64 → Int64 → List Value → Option sm_S) : Option sm_S := match s with
  | .long y :: .long x :: r => k x y r
  | _ => none
def sm_li (s : List Value) (k : Int64 → Int32 → List Value → Option sm_S) : Option sm_S := match s with
  | .int y :: .long x :: r => k x y r
  | _ => none
/-- index and array on the stack -/
def sm_ai (s : List Value) (k : Nat → Int32 → List Value → Option sm_S) : Option sm_S := match s with
  | .int i :: .ref a :: r => k a i r
  | _ => none
def sm_r1 (s : List Value) (k : Nat → List Value → Option sm_S) : Option sm_S := match s with
  | .ref a :: r => k a r
  | _ => none
theorem sm_i1_eq {s : List Value} {k : Int32 → List Value → Option sm_S} {o : sm_S} (h : sm_i1 s k = some o) : ∃ x r, s = .int x :: r ∧ k x r = some o := by
  unfold sm_i1 at h
  split at h
  · exact ⟨_, _, rfl, h⟩
  · cases h
theorem sm_i2_eq {s : List Value} {k : Int32 → Int32 → List Value → Option sm_S} {o : sm_S} (h : sm_i2 s k = some o) : ∃ x y r, s = .int y :: .int x :: r ∧ k x y r = some o := by
  unfold sm_i2 at h
  split at h
  · exact ⟨_, _, _, rfl, h⟩
  · cases h
theorem sm_l1_eq {s : List Value} {k : Int64 → List Value → Option sm_S} {o : sm_S} (h : sm_l1 s k = some o) : ∃ x r, s = .long x :: r ∧ k x r = some o := by
  unfold sm_l1 at h
  split at h
  · exact ⟨_, _, rfl, h⟩
  · cases h
theorem sm_l2_eq {s : List Value} {k : Int64 → Int64 → List Value → Option sm_S} {o : sm_S} (h : sm_l2 s k = some o) : ∃ x y r, s = .long y :: .long x :: r ∧ k x y r = some o := by
  unfold sm_l2 at h
  split at h
  · exact ⟨_, _, _, rfl, h⟩
  · cases h
theorem sm_li_eq {s : List Value} {k : Int64 → Int32 → List Value → Option sm_S} {o : sm_S} (h : sm_li s k = some o) : ∃ x y r, s = .int y :: .long x :: r ∧ k x y r = some o := by
  unfold sm_li at h
  split at h
  · exact ⟨_, _, _, rfl, h⟩
  · cases h
theorem sm_ai_eq {s : List Value} {k : Nat → Int32 → List Value → Option sm_S} {o : sm_S} (h : sm_ai s k = some o) : ∃ a i r, s = .int i :: .ref a :: r ∧ k a i r = some o := by
  unfold sm_ai at h
  split at h
  · exact ⟨_, _, _, rfl, h⟩
  · cases h
theorem sm_r1_eq {s : List Value} {k : Nat → List Value → Option sm_S} {o : sm_S} (h : sm_r1 s k = some o) : ∃ a r, s = .ref a :: r ∧ k a r = some o := by
  unfold sm_r1 at h
  split at h
  · exact ⟨_, _, rfl, h⟩
  · cases h
/-- an array of ints, bytes, shorts (t its kind) at a: its length and contents -/
def sm_ints (RO : List (Nat × (Nat → Int32))) (h : sm_H) (a t : Nat) : Option (Nat × (Nat → Int32)) :=
  if a < 8 then (if t = 0 then RO[a]? else none) else match h[a - 8]? with
    | some (.inl (t', n, .inl f)) => if t' = t then some (n, f) else none
    | _ => none
def sm_longs (h : sm_H) (a : Nat) : Option (Nat × (Nat → Int64)) :=
  if a < 8 then none else match h[a - 8]? with
    | some (.inl (t', n, .inr (.inl f))) => if t' = 1 then some (n, f) else none
    | _ => none
def sm_refs (h : sm_H) (a : Nat) : Option (Nat × (Nat → Option Nat)) :=
  if a < 8 then none else match h[a - 8]? with
    | some (.inl (t', n, .inr (.inr (.inr (.inr f))))) => if t' = 4 then some (n, f) else none
    | _ => none
def sm_obj (h : sm_H) (a ci : Nat) : Option (List Value) :=
  if a < 8 then none else match h[a - 8]? with
    | some (.inr (ci', fs)) => if ci' = ci then some fs else none
    | _ => none
/-- what a field of a kind may hold: 0 int, 1 boolean, 2 long, 3 a reference -/
def sm_may (kind : Int) (v : Value) : Bool := match v with
  | .int x => decide (kind = 0) || (decide (kind = 1) && (decide (x = 0) || decide (x = 1)))
  | .long _ => decide (kind = 2)
  | .ref _ => decide (kind = 3)
  | _ => false
def sm_aty (t : ArrayType) : Option Nat := match t with
  | .int => some 0
  | .long => some 1
  | .byte => some 2
  | .short => some 3
  | _ => none
def sm_new (t n : Nat) : vp_A := if t = 1 then (n, .inr (.inl (fun _ => 0))) else (n, .inl (fun _ => 0))
def sm_jump (o : Option Nat) (lv : sm_V) (s : List Value) (h : sm_H) : Option sm_S := match o with
  | some t => some (t, lv, s, h)
  | none => none
theorem sm_jump_eq {o : Option Nat} {lv : sm_V} {s : List Value} {h : sm_H} {r : sm_S} (e : sm_jump o lv s h = some r) : ∃ t, o = some t ∧ (t, lv, s, h) = r := by
  unfold sm_jump at e
  split at e
  · exact ⟨_, rfl, Option.some.inj e⟩
  · cases e
def sm_br (o : Option Nat) (b : Bool) (pc : Nat) (lv : sm_V) (s : List Value) (h : sm_H) : Option sm_S := match o with
  | some t => some (if b = true then t else pc + 3, lv, s, h)
  | none => none
theorem sm_br_eq {o : Option Nat} {b : Bool} {pc : Nat} {lv : sm_V} {s : List Value} {h : sm_H} {r : sm_S} (e : sm_br o b pc lv s h = some r) : ∃ t, o = some t ∧ (if b = true then t else pc + 3, lv, s, h) = r := by
  unfold sm_br at e
  split at e
  · exact ⟨_, rfl, Option.some.inj e⟩
  · cases e
/-- System.arraycopy of ints, of longs: the heap behind it -/
def sm_cpI (h : sm_H) (a0 a : Nat) (sp dp n : Int32) : Option sm_H := match sm_ints [] h a0 0, sm_ints [] h a 0 with
  | some (n0, f), some (n1, g) => if sp.toNatClampNeg + n.toNatClampNeg ≤ n0 ∧ dp.toNatClampNeg + n.toNatClampNeg ≤ n1 then some (h.set (a - 8) (.inl (0, n1, .inl (va_cpy f g sp.toNatClampNeg dp.toNatClampNeg n.toNatClampNeg)))) else none
  | _, _ => none
def sm_cpL (h : sm_H) (a0 a : Nat) (sp dp n : Int32) : Option sm_H := match sm_longs h a0, sm_longs h a with
  | some (n0, f), some (n1, g) => if sp.toNatClampNeg + n.toNatClampNeg ≤ n0 ∧ dp.toNatClampNeg + n.toNatClampNeg ≤ n1 then some (h.set (a - 8) (.inl (1, n1, .inr (.inl (va_cpy f g sp.toNatClampNeg dp.toNatClampNeg n.toNatClampNeg))))) else none
  | _, _ => none
theorem sm_cpI_eq {h h' : sm_H} {a0 a : Nat} {sp dp n : Int32} (e : sm_cpI h a0 a sp dp n = some h') : ∃ n0 f n1 g, sm_ints [] h a0 0 = some (n0, f) ∧ sm_ints [] h a 0 = some (n1, g) ∧ sp.toNatClampNeg + n.toNatClampNeg ≤ n0 ∧ dp.toNatClampNeg + n.toNatClampNeg ≤ n1 ∧ h' = h.set (a - 8) (.inl (0, n1, .inl (va_cpy f g sp.toNatClampNeg dp.toNatClampNeg n.toNatClampNeg))) := by
  unfold sm_cpI at e
  split at e
  · rename_i n0 f n1 g e1 e2
    split at e
    · rename_i hq
      cases e
      exact ⟨n0, f, n1, g, e1, e2, hq.1, hq.2, rfl⟩
    · cases e
  · cases e
theorem sm_cpL_eq {h h' : sm_H} {a0 a : Nat} {sp dp n : Int32} (e : sm_cpL h a0 a sp dp n = some h') : ∃ n0 f n1 g, sm_longs h a0 = some (n0, f) ∧ sm_longs h a = some (n1, g) ∧ sp.toNatClampNeg + n.toNatClampNeg ≤ n0 ∧ dp.toNatClampNeg + n.toNatClampNeg ≤ n1 ∧ h' = h.set (a - 8) (.inl (1, n1, .inr (.inl (va_cpy f g sp.toNatClampNeg dp.toNatClampNeg n.toNatClampNeg)))) := by
  unfold sm_cpL at e
  split at e
  · rename_i n0 f n1 g e1 e2
    split at e
    · rename_i hq
      cases e
      exact ⟨n0, f, n1, g, e1, e2, hq.1, hq.2, rfl⟩
    · cases e
  · cases e
/-- one instruction that isn't a call of own code and no return -/
def sm_step (lk : Nat → Option sm_L) (RO : List (Nat × (Nat → Int32))) (NV : Nat → List Value) (cq : Nat) (ini : Bool) (nL d : Nat) (ins : Instr) (pc : Nat) (lv : sm_V) (s : List Value) (h : sm_H) : Option sm_S := match ins with
  | .iconst n => some (pc + 1, lv, .int (Int32.ofInt n) :: s, h)
  | .bipush n => some (pc + 2, lv, .int (Int8.ofInt n).toInt32 :: s, h)
  | .sipush n => some (pc + 3, lv, .int (Int16.ofInt n).toInt32 :: s, h)
  | .lconst n => some (pc + 1, lv, .long (Int64.ofNat (n : Nat)) :: s, h)
  | .iload_n k => match sm_ld lv k with
    | some (.int x) => some (pc + 1, lv, .int x :: s, h)
    | _ => none
  | .iload k => match sm_ld lv k with
    | some (.int x) => some (pc + 2, lv, .int x :: s, h)
    | _ => none
  | .lload_n k => match sm_ld lv k with
    | some (.long x) => some (pc + 1, lv, .long x :: s, h)
    | _ => none
  | .lload k => match sm_ld lv k with
    | some (.long x) => some (pc + 2, lv, .long x :: s, h)
    | _ => none
  | .aload_n k => match sm_ld lv k with
    | some (.ref x) => some (pc + 1, lv, .ref x :: s, h)
    | _ => none
  | .aload k => match sm_ld lv k with
    | some (.ref x) => some (pc + 2, lv, .ref x :: s, h)
    | _ => none
  | .istore_n k => sm_i1 s fun x r => if (k : Nat) < nL then some (pc + 1, sm_s1 lv k (.int x), r, h) else none
  | .istore k => sm_i1 s fun x r => if k < nL then some (pc + 2, sm_s1 lv k (.int x), r, h) else none
  | .lstore_n k => sm_l1 s fun x r => if (k : Nat) + 1 < nL then some (pc + 1, sm_s2 lv k (.long x), r, h) else none
  | .lstore k => sm_l1 s fun x r => if k + 1 < nL then some (pc + 2, sm_s2 lv k (.long x), r, h) else none
  | .astore_n k => sm_r1 s fun x r => if (k : Nat) < nL then some (pc + 1, sm_s1 lv k (.ref x), r, h) else none
  | .astore k => sm_r1 s fun x r => if k < nL then some (pc + 2, sm_s1 lv k (.ref x), r, h) else none
  | .iinc k n => match sm_ld lv k with
    | some (.int x) => if k < nL then some (pc + 3, sm_s1 lv k (.int (x + Int32.ofInt n)), s, h) else none
    | _ => none
  | .iadd => sm_i2 s fun x y r => some (pc + 1, lv, .int (x + y) :: r, h)
  | .isub => sm_i2 s fun x y r => some (pc + 1, lv, .int (x - y) :: r, h)
  | .imul => sm_i2 s fun x y r => some (pc + 1, lv, .int (x * y) :: r, h)
  | .iand => sm_i2 s fun x y r => some (pc + 1, lv, .int (x &&& y) :: r, h)
  | .ior => sm_i2 s fun x y r => some (pc + 1, lv, .int (x ||| y) :: r, h)
  | .ixor => sm_i2 s fun x y r => some (pc + 1, lv, .int (x ^^^ y) :: r, h)
  | .idiv => sm_i2 s fun x y r => if y = 0 then none else some (pc + 1, lv, .int (x / y) :: r, h)
  | .irem => sm_i2 s fun x y r => if y = 0 then none else some (pc + 1, lv, .int (x - x / y * y) :: r, h)
  | .ineg => sm_i1 s fun x r => some (pc + 1, lv, .int (-x) :: r, h)
  | .ishl => sm_i2 s fun x y r => some (pc + 1, lv, .int (x <<< (y &&& 31)) :: r, h)
  | .ishr => sm_i2 s fun x y r => some (pc + 1, lv, .int (x >>> (y &&& 31)) :: r, h)
  | .iushr => sm_i2 s fun x y r => some (pc + 1, lv, .int (x.toUInt32 >>> (y.toUInt32 &&& Int32.toUInt32 31)).toInt32 :: r, h)
  | .ladd => sm_l2 s fun x y r => some (pc + 1, lv, .long (x + y) :: r, h)
  | .lsub => sm_l2 s fun x y r => some (pc + 1, lv, .long (x - y) :: r, h)
  | .lmul => sm_l2 s fun x y r => some (pc + 1, lv, .long (x * y) :: r, h)
  | .land => sm_l2 s fun x y r => some (pc + 1, lv, .long (x &&& y) :: r, h)
  | .lor => sm_l2 s fun x y r => some (pc + 1, lv, .long (x ||| y) :: r, h)
  | .ldiv => sm_l2 s fun x y r => if y = 0 then none else some (pc + 1, lv, .long (x / y) :: r, h)
  | .lrem => sm_l2 s fun x y r => if y = 0 then none else some (pc + 1, lv, .long (x - x / y * y) :: r, h)
  | .lshl => sm_li s fun x y r => some (pc + 1, lv, .long (x <<< (y.toInt64 &&& 63)) :: r, h)
  | .lushr => sm_li s fun x y r => some (pc + 1, lv, .long (x.toUInt64 >>> (y.toInt64.toUInt64 &&& Int64.toUInt64 63)).toInt64 :: r, h)
  | .lcmp => sm_l2 s fun x y r => some (pc + 1, lv, .int (lg_cmp x y) :: r, h)
  | .i2l => sm_i1 s fun x r => some (pc + 1, lv, .long x.toInt64 :: r, h)
  | .l2i => sm_l1 s fun x r => some (pc + 1, lv, .int x.toInt32 :: r, h)
  | .i2b => sm_i1 s fun x r => some (pc + 1, lv, .int x.toInt8.toInt32 :: r, h)
  | .i2s => sm_i1 s fun x r => some (pc + 1, lv, .int x.toInt16.toInt32 :: r, h)
  | .dup => match s with
    | v :: r => if v.category = 1 then some (pc + 1, lv, v :: v :: r, h) else none
    | _ => none
  | .pop => match s with
    | v :: r => if v.category = 1 then some (pc + 1, lv, r, h) else none
    | _ => none
  | .pop2 => match s with
    | v :: r => if v.category = 2 then some (pc + 1, lv, r, h) else none
    | _ => none
  | .dup2 => match s with
    | v :: w :: r => if v.category = 1 ∧ w.category = 1 then some (pc + 1, lv, v :: w :: v :: w :: r, h) else none
    | _ => none
  | .dup_x1 => match s with
    | v :: w :: r => if v.category = 1 ∧ w.category = 1 then some (pc + 1, lv, v :: w :: v :: r, h) else none
    | _ => none
  | .goto off => sm_jump (sm_tg pc off) lv s h
  | .ifCond q off => sm_i1 s fun x r => sm_br (sm_tg pc off) (sm_c1 q x) pc lv r h
  | .if_icmp q off => sm_i2 s fun x y r => sm_br (sm_tg pc off) (sm_c2 q x y) pc lv r h
  | .tableswitch dflt lo hi offs => sm_i1 s fun x r => if x.toInt < lo ∨ hi < x.toInt then sm_jump (sm_tg pc dflt) lv r h else match offs[(x.toInt - lo).toNat]? with
    | some o => sm_jump (sm_tg pc o) lv r h
    | none => none
  | .lookupswitch dflt ps => sm_i1 s fun x r => if (ps.toList.zip (ps.toList.drop 1)).all (fun (a, next) => a.1 < next.1) = true then sm_jump (sm_tg pc (Op.lookupswitch.offset ps.toList dflt x.toInt)) lv r h else none
  | .getfield ix => match lk ix with
    | some (0, ci, k, _) => sm_r1 s fun a r => match sm_obj h a ci with
      | some fs => match fs[k]? with
        | some v => some (pc + 3, lv, v :: r, h)
        | none => none
      | none => none
    | _ => none
  | .putfield ix => match lk ix with
    | some (0, ci, k, z) => match s with
      | v :: .ref a :: r => match sm_obj h a ci with
        | some fs => if k < fs.length ∧ sm_may (z % 4) v = true ∧ (z < 4 ∨ (ini = true ∧ z < 8)) then some (pc + 3, lv, r, h.set (a - 8) (.inr (ci, fs.set k v))) else none
        | none => none
      | _ => none
    | _ => none
  | .getstatic ix => match lk ix with
    | some (8, i, _, _) => if i < 8 then some (pc + 3, lv, .ref i :: s, h) else none
    | _ => none
  | .ldc ix => match lk ix with
    | some (6, _, _, z) => some (pc + 2, lv, .int (Int32.ofInt z) :: s, h)
    | _ => none
  | .ldc_w ix => match lk ix with
    | some (6, _, _, z) => some (pc + 3, lv, .int (Int32.ofInt z) :: s, h)
    | _ => none
  | .ldc2_w ix => match lk ix with
    | some (7, _, _, z) => some (pc + 3, lv, .long (Int64.ofInt z) :: s, h)
    | _ => none
  | .new ix => match lk ix with
    | some (5, ci, _, _) => some (pc + 3, lv, .ref (8 + h.length) :: s, h ++ [.inr (ci, NV ci)])
    | _ => none
  | .newarray q => match sm_aty q with
    | some t => sm_i1 s fun n r => if ¬ n < 0 ∧ n.toNatClampNeg ≤ 1000000 then some (pc + 2, lv, .ref (8 + h.length) :: r, h ++ [.inl (t, sm_new t n.toNatClampNeg)]) else none
    | none => none
  | .anewarray ix => match lk ix with
    | some (5, ci, _, _) => sm_i1 s fun n r => if ¬ n < 0 ∧ n.toNatClampNeg ≤ 1000000 ∧ ci = cq then some (pc + 3, lv, .ref (8 + h.length) :: r, h ++ [.inl (4, n.toNatClampNeg, .inr (.inr (.inr (.inr (fun _ => none)))))]) else none
    | _ => none
  | .iaload => sm_ai s fun a i r => match sm_ints RO h a 0 with
    | some (n, f) => if sm_in i n = true then some (pc + 1, lv, .int (f i.toNatClampNeg) :: r, h) else none
    | none => none
  | .baload => sm_ai s fun a i r => match sm_ints [] h a 2 with
    | some (n, f) => if sm_in i n = true then some (pc + 1, lv, .int (f i.toNatClampNeg) :: r, h) else none
    | none => none
  | .saload => sm_ai s fun a i r => match sm_ints [] h a 3 with
    | some (n, f) => if sm_in i n = true then some (pc + 1, lv, .int (f i.toNatClampNeg) :: r, h) else none
    | none => none
  | .laload => sm_ai s fun a i r => match sm_longs h a with
    | some (n, f) => if sm_in i n = true then some (pc + 1, lv, .long (f i.toNatClampNeg) :: r, h) else none
    | none => none
  | .aaload => sm_ai s fun a i r => match sm_refs h a with
    | some (n, f) => if sm_in i n = true then some (pc + 1, lv, va_rf (f i.toNatClampNeg) :: r, h) else none
    | none => none
  | .iastore => sm_i1 s fun x s1 => sm_ai s1 fun a i r => match sm_ints [] h a 0 with
    | some (n, f) => if sm_in i n = true then some (pc + 1, lv, r, h.set (a - 8) (.inl (0, n, .inl (upd f i.toNatClampNeg x)))) else none
    | none => none
  | .bastore => sm_i1 s fun x s1 => sm_ai s1 fun a i r => match sm_ints [] h a 2 with
    | some (n, f) => if sm_in i n = true then some (pc + 1, lv, r, h.set (a - 8) (.inl (2, n, .inl (upd f i.toNatClampNeg x.toInt8.toInt32)))) else none
    | none => none
  | .sastore => sm_i1 s fun x s1 => sm_ai s1 fun a i r => match sm_ints [] h a 3 with
    | some (n, f) => if sm_in i n = true then some (pc + 1, lv, r, h.set (a - 8) (.inl (3, n, .inl (upd f i.toNatClampNeg x.toInt16.toInt32)))) else none
    | none => none
  | .lastore => sm_l1 s fun x s1 => sm_ai s1 fun a i r => match sm_longs h a with
    | some (n, f) => if sm_in i n = true then some (pc + 1, lv, r, h.set (a - 8) (.inl (1, n, .inr (.inl (vp_updL f i.toNatClampNeg x))))) else none
    | none => none
  | .aastore => sm_r1 s fun v s1 => sm_ai s1 fun a i r => match sm_refs h a with
    | some (n, f) => match sm_obj h v cq with
      | some _ => if sm_in i n = true then some (pc + 1, lv, r, h.set (a - 8) (.inl (4, n, .inr (.inr (.inr (.inr (va_up f i.toNatClampNeg (some v)))))))) else none
      | none => none
    | none => none
  | .arraylength => sm_r1 s fun a r => match sm_ints RO h a 0 with
    | some (n, _) => some (pc + 1, lv, .int (Int32.ofNat n) :: r, h)
    | none => none
  | .invokespecial ix => match lk ix with
    | some (4, _, _, _) => sm_r1 s fun a r => if 1 ≤ d ∧ sm_sum r ≤ 8 then some (pc + 3, lv, r, h) else none
    | _ => none
  | .invokestatic ix => match lk ix with
    | some (9, _, _, _) => sm_i2 s fun x y r => if 1 ≤ d ∧ sm_sum r ≤ 8 then some (pc + 3, lv, .int (if x < y then y else x) :: r, h) else none
    | some (10, _, _, _) => sm_i2 s fun x y r => if 1 ≤ d ∧ sm_sum r ≤ 8 then some (pc + 3, lv, .int (if y < x then y else x) :: r, h) else none
    | some (11, _, _, _) => sm_i1 s fun x r => if 1 ≤ d ∧ sm_sum r ≤ 8 then some (pc + 3, lv, .int (if 0 ≤ x then x else 0 - x) :: r, h) else none
    | some (12, _, _, _) => sm_i2 s fun dp n s1 => sm_r1 s1 fun a s2 => sm_ai s2 fun a0 sp r =>
      if 1 ≤ d ∧ sm_sum r ≤ 8 ∧ ¬ sp < 0 ∧ ¬ dp < 0 ∧ ¬ n < 0 then (match sm_cpI h a0 a sp dp n with
        | some h' => some (pc + 3, lv, r, h')
        | none => match sm_cpL h a0 a sp dp n with
          | some h' => some (pc + 3, lv, r, h')
          | none => none) else none
    | _ => none
  | _ => none
