section
/-! A small machine of its own: cells are numbered as they are made, a reference is a cell's number (from 8 on; below 8: arrays that are only read). What it answers, the machine of the Statement answers too (parts 02, 03). -/
abbrev sm_C : Type := (Nat × vp_A) ⊕ (Nat × List Value)
abbrev sm_H : Type := List sm_C
abbrev sm_L : Type := Nat × Nat × Nat × Int
abbrev sm_V : Type := List (Nat × Value)
def sm_ad (st : Nat → Nat) (base k : Nat) : Nat := if k < 8 then st k else base + (k - 8)
def sm_v (ad : Nat → Nat) (v : Value) : Value := match v with
  | .ref k => .ref (ad k)
  | .int x => .int x
  | .long x => .long x
  | .float x => .float x
  | .double x => .double x
  | .null => .null
  | .retAddr x => .retAddr x
def sm_ar (ad : Nat → Nat) (a : vp_A) : vp_A := (a.1, match a.2 with
  | .inl f => .inl f
  | .inr (.inl f) => .inr (.inl f)
  | .inr (.inr (.inl f)) => .inr (.inr (.inl f))
  | .inr (.inr (.inr (.inl f))) => .inr (.inr (.inr (.inl f)))
  | .inr (.inr (.inr (.inr f))) => .inr (.inr (.inr (.inr (fun j => (f j).map ad)))))
def sm_e (ad : Nat → Nat) (cA : Nat → ClassId) (c : sm_C) : va_E := match c with
  | .inl q => .inl (cA q.1, sm_ar ad q.2)
  | .inr o => .inr (o.1, o.2.map (sm_v ad))
def sm_w (ad : Nat → Nat) (cA : Nat → ClassId) (base : Nat) (h : sm_H) : va_W := h.mapIdx (fun k c => (base + k, sm_e ad cA c))
def sm_cz (c : sm_C) : Nat := match c with
  | .inl q => q.2.1
  | .inr o => o.2.length
def sm_sz : sm_H → Nat
  | [] => 0
  | c :: h => sm_cz c + sm_sz h
theorem sm_w_get (ad : Nat → Nat) (cA : Nat → ClassId) (base : Nat) (h : sm_H) (k : Nat) : (sm_w ad cA base h)[k]? = (h[k]?).map (fun c => (base + k, sm_e ad cA c)) := by
  unfold sm_w
  rw [List.getElem?_mapIdx]
theorem sm_w_len (ad : Nat → Nat) (cA : Nat → ClassId) (base : Nat) (h : sm_H) : (sm_w ad cA base h).length = h.length := by
  unfold sm_w
  rw [List.length_mapIdx]
theorem sm_w_set (ad : Nat → Nat) (cA : Nat → ClassId) (base : Nat) (h : sm_H) (k : Nat) (c : sm_C) : (sm_w ad cA base h).set k (base + k, sm_e ad cA c) = sm_w ad cA base (h.set k c) := by
  apply List.ext_getElem?
  intro i
  rw [sm_w_get, List.getElem?_set, List.getElem?_set, sm_w_get, sm_w_len]
  by_cases hk : k = i
  · subst hk
    by_cases hl : k < h.length
    · simp [hl]
    · simp [hl]
  · simp [hk]
theorem sm_w_app (ad : Nat → Nat) (cA : Nat → ClassId) (base : Nat) (h : sm_H) (c : sm_C) : sm_w ad cA base (h ++ [c]) = sm_w ad cA base h ++ [(base + h.length, sm_e ad cA c)] := by
  unfold sm_w
  rw [List.mapIdx_append]
  simp
theorem sm_w_D (ad : Nat → Nat) (cA : Nat → ClassId) (base : Nat) (h : sm_H) : va_D (fun q : Nat => base ≤ q) (sm_w ad cA base h) := by
  refine ⟨fun i j p q hi hj e => ?_, fun k q hk => ?_⟩
  · rw [sm_w_get] at hi hj
    obtain ⟨a, -, rfl⟩ := Option.map_eq_some_iff.mp hi
    obtain ⟨b, -, rfl⟩ := Option.map_eq_some_iff.mp hj
    exact Nat.add_left_cancel e
  · rw [sm_w_get] at hk
    obtain ⟨a, -, rfl⟩ := Option.map_eq_some_iff.mp hk
    exact Nat.le_add_right base k
theorem sm_sz_app (h : sm_H) (c : sm_C) : sm_sz (h ++ [c]) = sm_sz h + sm_cz c := by
  induction h with
  | nil => simp [sm_sz]
  | cons a h ih => simp only [List.cons_append, sm_sz, ih]; omega
theorem sm_sz_set (h : sm_H) (k : Nat) (c d : sm_C) (hk : h[k]? = some d) (e : sm_cz c = sm_cz d) : sm_sz (h.set k c) = sm_sz h := by
  induction h generalizing k with
  | nil => simp at hk
  | cons a h ih =>
    cases k with
    | zero =>
      simp only [List.getElem?_cons_zero, Option.some.injEq] at hk
      subst hk
      simp only [List.set_cons_zero, sm_sz, e]
    | succ k =>
      simp only [List.getElem?_cons_succ] at hk
      simp only [List.set_cons_succ, sm_sz, ih k hk]
theorem sm_v_cat (ad : Nat → Nat) (v : Value) : (sm_v ad v).category = v.category := by cases v <;> rfl
-- locals
def sm_lv (ad : Nat → Nat) (lv : sm_V) : sm_V := lv.map (fun q => (q.1, sm_v ad q.2))
def sm_ld (lv : sm_V) (i : Nat) : Option Value := match lv with
  | [] => none
  | q :: r => if q.1 = i then some q.2 else sm_ld r i
theorem sm_ld_mem {lv : sm_V} {i : Nat} {v : Value} (h : sm_ld lv i = some v) : (i, v) ∈ lv := by
  induction lv with
  | nil => simp [sm_ld] at h
  | cons q r ih =>
    unfold sm_ld at h
    split at h
    · rename_i e
      subst e
      rw [← Option.some.inj h]
      exact List.mem_cons_self
    · exact List.mem_cons_of_mem _ (ih h)
theorem sm_ld_at {ad : Nat → Nat} {ls : Array Slot} {nL : Nat} {lv : sm_V} {i : Nat} {v : Value} (hl : lv_has ls nL (sm_lv ad lv)) (h : sm_ld lv i = some v) : ls[i]? = some (.val (sm_v ad v)) :=
  hl.2.2 (i, sm_v ad v) (List.mem_map.mpr ⟨(i, v), sm_ld_mem h, rfl⟩)
def sm_s1 (lv : sm_V) (i : Nat) (v : Value) : sm_V := (i, v) :: lv.filter (fun q => !(q.1 == i) && !(q.1 + 1 == i && q.2.category == 2))
def sm_s2 (lv : sm_V) (i : Nat) (v : Value) : sm_V := (i, v) :: lv.filter (fun q => !(q.1 == i) && (!(q.1 == i + 1) && !(q.1 + 1 == i && q.2.category == 2)))
theorem sm_s1_map (ad : Nat → Nat) (lv : sm_V) (i : Nat) (v : Value) : (i, sm_v ad v) :: (sm_lv ad lv).filter (fun q => !(q.1 == i) && !(q.1 + 1 == i && q.2.category == 2)) = sm_lv ad (sm_s1 lv i v) := by
  unfold sm_lv sm_s1
  rw [List.map_cons, List.filter_map]
  congr 2
  refine congrFun (congrArg _ ?_) _
  funext q
  simp [Function.comp, sm_v_cat]
theorem sm_s2_map (ad : Nat → Nat) (lv : sm_V) (i : Nat) (v : Value) : (i, sm_v ad v) :: (sm_lv ad lv).filter (fun q => !(q.1 == i) && (!(q.1 == i + 1) && !(q.1 + 1 == i && q.2.category == 2))) = sm_lv ad (sm_s2 lv i v) := by
  unfold sm_lv sm_s2
  rw [List.map_cons, List.filter_map]
  congr 2
  refine congrFun (congrArg _ ?_) _
  funext q
  simp [Function.comp, sm_v_cat]
-- numbers
def sm_in (i : Int32) (n : Nat) : Bool := !decide (i < 0) && decide (i.toNatClampNeg < n)
theorem sm_in_vp {i : Int32} {n : Nat} (h : sm_in i n = true) : vp_in i n := by
  unfold sm_in at h
  simp only [Bool.and_eq_true, Bool.not_eq_true', decide_eq_false_iff_not, decide_eq_true_eq] at h
  rintro (q | q)
  · exact h.1 q
  · omega
def sm_tg (pc : Nat) (off : Int) : Option Nat := match (pc : Int) + off with
  | .ofNat n => some n
  | .negSucc _ => none
theorem sm_tg_eq {pc t : Nat} {off : Int} (h : sm_tg pc off = some t) : (pc : Int) + off = (t : Int) := by
  unfold sm_tg at h
  split at h
  · rename_i n e
    cases h
    exact e
  · cases h
def sm_c1 (c : Jvm.ClassFile.Cond) (x : Int32) : Bool := match c with
  | .eq => decide (x = 0)
  | .ne => !decide (x = 0)
  | .lt => decide (x < 0)
  | .ge => decide (0 ≤ x)
  | .gt => decide (0 < x)
  | .le => decide (x ≤ 0)
def sm_c2 (c : Jvm.ClassFile.Cond) (x y : Int32) : Bool := match c with
  | .eq => decide (x = y)
  | .ne => !decide (x = y)
  | .lt => decide (x < y)
  | .ge => decide (y ≤ x)
  | .gt => decide (y < x)
  | .le => decide (x ≤ y)
def sm_sum (s : List Value) : Nat := (s.map fun v => v.category).sum
def sm_cell (h : sm_H) (a : Nat) : Option sm_C := if a < 8 then none else h[a - 8]?
def sm_len (i : Instr) (len : Nat) : Nat := match i with
  | .bipush _ => 2
  | .iload _ => 2
  | .aload _ => 2
  | .lload _ => 2
  | .istore _ => 2
  | .astore _ => 2
  | .lstore _ => 2
  | .newarray _ => 2
  | .ldc _ => 2
  | .sipush _ => 3
  | .iinc _ _ => 3
  | .goto _ => 3
  | .ifCond _ _ => 3
  | .if_icmp _ _ => 3
  | .getfield _ => 3
  | .putfield _ => 3
  | .getstatic _ => 3
  | .new _ => 3
  | .anewarray _ => 3
  | .ldc_w _ => 3
  | .ldc2_w _ => 3
  | .invokestatic _ => 3
  | .invokevirtual _ => 3
  | .invokespecial _ => 3
  | .tableswitch _ _ _ _ => len
  | .lookupswitch _ _ => len
  | _ => 1
abbrev sm_S : Type := Nat × sm_V × List Value × sm_H
def sm_i1 (s : List Value) (k : Int32 → List Value → Option sm_S) : Option sm_S := match s with
  | .int x :: r => k x r
  | _ => none
def sm_i2 (s : List Value) (k : Int32 → Int32 → List Value → Option sm_S) : Option sm_S := match s with
  | .int y :: .int x :: r => k x y r
  | _ => none
def sm_l1 (s : List Value) (k : Int64 → List Value → Option sm_S) : Option sm_S := match s with
  | .long x :: r => k x r
  | _ => none
def sm_l2 (s : List Value) (k : Int64 → Int64 → List Value → Option sm_S) : Option sm_S := match s with
  | .long y :: .long x :: r => k x y r
  | _ => none
def sm_li (s : List Value) (k : Int64 → Int32 → List Value → Option sm_S) : Option sm_S := match s with
  | .int y :: .long x :: r => k x y r
  | _ => none
/-- index and array on the stack -/
def sm_ai (s : List Value) (k : Nat → Int32 → List Value → Option sm_S) : Option sm_S := match s with
  | .int i :: .ref a :: r => k a i r
  | _ => none
def sm_r1 (s : List Value) (k : Nat → List Value → Option sm_S) : Option sm_S := match s with
  | .ref a :: r => k a r
  | _ => none
theorem sm_i1_eq {s : List Value} {k : Int32 → List Value → Option sm_S} {o : sm_S} (h : sm_i1 s k = some o) : ∃ x r, s = .int x :: r ∧ k x r = some o := by
  unfold sm_i1 at h
  split at h
  · exact ⟨_, _, rfl, h⟩
  · cases h
theorem sm_i2_eq {s : List Value} {k : Int32 → Int32 → List Value → Option sm_S} {o : sm_S} (h : sm_i2 s k = some o) : ∃ x y r, s = .int y :: .int x :: r ∧ k x y r = some o := by
  unfold sm_i2 at h
  split at h
  · exact ⟨_, _, _, rfl, h⟩
  · cases h
theorem sm_l1_eq {s : List Value} {k : Int64 → List Value → Option sm_S} {o : sm_S} (h : sm_l1 s k = some o) : ∃ x r, s = .long x :: r ∧ k x r = some o := by
  unfold sm_l1 at h
  split at h
  · exact ⟨_, _, rfl, h⟩
  · cases h
theorem sm_l2_eq {s : List Value} {k : Int64 → Int64 → List Value → Option sm_S} {o : sm_S} (h : sm_l2 s k = some o) : ∃ x y r, s = .long y :: .long x :: r ∧ k x y r = some o := by
  unfold sm_l2 at h
  split at h
  · exact ⟨_, _, _, rfl, h⟩
  · cases h
theorem sm_li_eq {s : List Value} {k : Int64 → Int32 → List Value → Option sm_S} {o : sm_S} (h : sm_li s k = some o) : ∃ x y r, s = .int y :: .long x :: r ∧ k x y r = some o := by
  unfold sm_li at h
  split at h
  · exact ⟨_, _, _, rfl, h⟩
  · cases h
theorem sm_ai_eq {s : List Value} {k : Nat → Int32 → List Value → Option sm_S} {o : sm_S} (h : sm_ai s k = some o) : ∃ a i r, s = .int i :: .ref a :: r ∧ k a i r = some o := by
  unfold sm_ai at h
  split at h
  · exact ⟨_, _, _, rfl, h⟩
  · cases h
theorem sm_r1_eq {s : List Value} {k : Nat → List Value → Option sm_S} {o : sm_S} (h : sm_r1 s k = some o) : ∃ a r, s = .ref a :: r ∧ k a r = some o := by
  unfold sm_r1 at h
  split at h
  · exact ⟨_, _, rfl, h⟩
  · cases h
/-- an array of ints, bytes, shorts (t its kind) at a: its length and contents -/
def sm_ints (RO : List (Nat × (Nat → Int32))) (h : sm_H) (a t : Nat) : Option (Nat × (Nat → Int32)) :=
  if a < 8 then (if t = 0 then RO[a]? else none) else match h[a - 8]? with
    | some (.inl (t', n, .inl f)) => if t' = t then some (n, f) else none
    | _ => none
def sm_longs (h : sm_H) (a : Nat) : Option (Nat × (Nat → Int64)) :=
  if a < 8 then none else match h[a - 8]? with
    | some (.inl (t', n, .inr (.inl f))) => if t' = 1 then some (n, f) else none
    | _ => none
def sm_refs (h : sm_H) (a : Nat) : Option (Nat × (Nat → Option Nat)) :=
  if a < 8 then none else match h[a - 8]? with
    | some (.inl (t', n, .inr (.inr (.inr (.inr f))))) => if t' = 4 then some (n, f) else none
    | _ => none
def sm_obj (h : sm_H) (a ci : Nat) : Option (List Value) :=
  if a < 8 then none else match h[a - 8]? with
    | some (.inr (ci', fs)) => if ci' = ci then some fs else none
    | _ => none
/-- what a field of a kind may hold: 0 int, 1 boolean, 2 long, 3 a reference -/
def sm_may (kind : Int) (v : Value) : Bool := match v with
  | .int x => decide (kind = 0) || (decide (kind = 1) && (decide (x = 0) || decide (x = 1)))
  | .long _ => decide (kind = 2)
  | .ref _ => decide (kind = 3)
  | _ => false
def sm_aty (t : ArrayType) : Option Nat := match t with
  | .int => some 0
  | .long => some 1
  | .byte => some 2
  | .short => some 3
  | _ => none
def sm_new (t n : Nat) : vp_A := if t = 1 then (n, .inr (.inl (fun _ => 0))) else (n, .inl (fun _ => 0))
def sm_jump (o : Option Nat) (lv : sm_V) (s : List Value) (h : sm_H) : Option sm_S := match o with
  | some t => some (t, lv, s, h)
  | none => none
theorem sm_jump_eq {o : Option Nat} {lv : sm_V} {s : List Value} {h : sm_H} {r : sm_S} (e : sm_jump o lv s h = some r) : ∃ t, o = some t ∧ (t, lv, s, h) = r := by
  unfold sm_jump at e
  split at e
  · exact ⟨_, rfl, Option.some.inj e⟩
  · cases e
def sm_br (o : Option Nat) (b : Bool) (pc : Nat) (lv : sm_V) (s : List Value) (h : sm_H) : Option sm_S := match o with
  | some t => some (if b = true then t else pc + 3, lv, s, h)
  | none => none
theorem sm_br_eq {o : Option Nat} {b : Bool} {pc : Nat} {lv : sm_V} {s : List Value} {h : sm_H} {r : sm_S} (e : sm_br o b pc lv s h = some r) : ∃ t, o = some t ∧ (if b = true then t else pc + 3, lv, s, h) = r := by
  unfold sm_br at e
  split at e
  · exact ⟨_, rfl, Option.some.inj e⟩
  · cases e
/-- System.arraycopy of ints, of longs: the heap behind it -/
def sm_cpI (h : sm_H) (a0 a : Nat) (sp dp n : Int32) : Option sm_H := match sm_ints [] h a0 0, sm_ints [] h a 0 with
  | some (n0, f), some (n1, g) => if sp.toNatClampNeg + n.toNatClampNeg ≤ n0 ∧ dp.toNatClampNeg + n.toNatClampNeg ≤ n1 then some (h.set (a - 8) (.inl (0, n1, .inl (va_cpy f g sp.toNatClampNeg dp.toNatClampNeg n.toNatClampNeg)))) else none
  | _, _ => none
def sm_cpL (h : sm_H) (a0 a : Nat) (sp dp n : Int32) : Option sm_H := match sm_longs h a0, sm_longs h a with
  | some (n0, f), some (n1, g) => if sp.toNatClampNeg + n.toNatClampNeg ≤ n0 ∧ dp.toNatClampNeg + n.toNatClampNeg ≤ n1 then some (h.set (a - 8) (.inl (1, n1, .inr (.inl (va_cpy f g sp.toNatClampNeg dp.toNatClampNeg n.toNatClampNeg))))) else none
  | _, _ => none
theorem sm_cpI_eq {h h' : sm_H} {a0 a : Nat} {sp dp n : Int32} (e : sm_cpI h a0 a sp dp n = some h') : ∃ n0 f n1 g, sm_ints [] h a0 0 = some (n0, f) ∧ sm_ints [] h a 0 = some (n1, g) ∧ sp.toNatClampNeg + n.toNatClampNeg ≤ n0 ∧ dp.toNatClampNeg + n.toNatClampNeg ≤ n1 ∧ h' = h.set (a - 8) (.inl (0, n1, .inl (va_cpy f g sp.toNatClampNeg dp.toNatClampNeg n.toNatClampNeg))) := by
  unfold sm_cpI at e
  split at e
  · rename_i n0 f n1 g e1 e2
    split at e
    · rename_i hq
      cases e
      exact ⟨n0, f, n1, g, e1, e2, hq.1, hq.2, rfl⟩
    · cases e
  · cases e
theorem sm_cpL_eq {h h' : sm_H} {a0 a : Nat} {sp dp n : Int32} (e : sm_cpL h a0 a sp dp n = some h') : ∃ n0 f n1 g, sm_longs h a0 = some (n0, f) ∧ sm_longs h a = some (n1, g) ∧ sp.toNatClampNeg + n.toNatClampNeg ≤ n0 ∧ dp.toNatClampNeg + n.toNatClampNeg ≤ n1 ∧ h' = h.set (a - 8) (.inl (1, n1, .inr (.inl (va_cpy f g sp.toNatClampNeg dp.toNatClampNeg n.toNatClampNeg)))) := by
  unfold sm_cpL at e
  split at e
  · rename_i n0 f n1 g e1 e2
    split at e
    · rename_i hq
      cases e
      exact ⟨n0, f, n1, g, e1, e2, hq.1, hq.2, rfl⟩
    · cases e
  · cases e
/-- one instruction that isn't a call of own code and no return -/
def sm_step (lk : Nat → Option sm_L) (RO : List (Nat × (Nat → Int32))) (NV : Nat → List Value) (cq : Nat) (ini : Bool) (nL d : Nat) (ins : Instr) (pc : Nat) (lv : sm_V) (s : List Value) (h : sm_H) : Option sm_S := match ins with
  | .iconst n => some (pc + 1, lv, .int (Int32.ofInt n) :: s, h)
  | .bipush n => some (pc + 2, lv, .int (Int8.ofInt n).toInt32 :: s, h)
  | .sipush n => some (pc + 3, lv, .int (Int16.ofInt n).toInt32 :: s, h)
  | .lconst n => some (pc + 1, lv, .long (Int64.ofNat (n : Nat)) :: s, h)
  | .iload_n k => match sm_ld lv k with
    | some (.int x) => some (pc + 1, lv, .int x :: s, h)
    | _ => none
  | .iload k => match sm_ld lv k with
    | some (.int x) => some (pc + 2, lv, .int x :: s, h)
    | _ => none
  | .lload_n k => match sm_ld lv k with
    | some (.long x) => some (pc + 1, lv, .long x :: s, h)
    | _ => none
  | .lload k => match sm_ld lv k with
    | some (.long x) => some (pc + 2, lv, .long x :: s, h)
    | _ => none
  | .aload_n k => match sm_ld lv k with
    | some (.ref x) => some (pc + 1, lv, .ref x :: s, h)
    | _ => none
  | .aload k => match sm_ld lv k with
    | some (.ref x) => some (pc + 2, lv, .ref x :: s, h)
    | _ => none
  | .istore_n k => sm_i1 s fun x r => if (k : Nat) < nL then some (pc + 1, sm_s1 lv k (.int x), r, h) else none
  | .istore k => sm_i1 s fun x r => if k < nL then some (pc + 2, sm_s1 lv k (.int x), r, h) else none
  | .lstore_n k => sm_l1 s fun x r => if (k : Nat) + 1 < nL then some (pc + 1, sm_s2 lv k (.long x), r, h) else none
  | .lstore k => sm_l1 s fun x r => if k + 1 < nL then some (pc + 2, sm_s2 lv k (.long x), r, h) else none
  | .astore_n k => sm_r1 s fun x r => if (k : Nat) < nL then some (pc + 1, sm_s1 lv k (.ref x), r, h) else none
  | .astore k => sm_r1 s fun x r => if k < nL then some (pc + 2, sm_s1 lv k (.ref x), r, h) else none
  | .iinc k n => match sm_ld lv k with
    | some (.int x) => if k < nL then some (pc + 3, sm_s1 lv k (.int (x + Int32.ofInt n)), s, h) else none
    | _ => none
  | .iadd => sm_i2 s fun x y r => some (pc + 1, lv, .int (x + y) :: r, h)
  | .isub => sm_i2 s fun x y r => some (pc + 1, lv, .int (x - y) :: r, h)
  | .imul => sm_i2 s fun x y r => some (pc + 1, lv, .int (x * y) :: r, h)
  | .iand => sm_i2 s fun x y r => some (pc + 1, lv, .int (x &&& y) :: r, h)
  | .ior => sm_i2 s fun x y r => some (pc + 1, lv, .int (x ||| y) :: r, h)
  | .ixor => sm_i2 s fun x y r => some (pc + 1, lv, .int (x ^^^ y) :: r, h)
  | .idiv => sm_i2 s fun x y r => if y = 0 then none else some (pc + 1, lv, .int (x / y) :: r, h)
  | .irem => sm_i2 s fun x y r => if y = 0 then none else some (pc + 1, lv, .int (x - x / y * y) :: r, h)
  | .ineg => sm_i1 s fun x r => some (pc + 1, lv, .int (-x) :: r, h)
  | .ishl => sm_i2 s fun x y r => some (pc + 1, lv, .int (x <<< (y &&& 31)) :: r, h)
  | .ishr => sm_i2 s fun x y r => some (pc + 1, lv, .int (x >>> (y &&& 31)) :: r, h)
  | .iushr => sm_i2 s fun x y r => some (pc + 1, lv, .int (x.toUInt32 >>> (y.toUInt32 &&& Int32.toUInt32 31)).toInt32 :: r, h)
  | .ladd => sm_l2 s fun x y r => some (pc + 1, lv, .long (x + y) :: r, h)
  | .lsub => sm_l2 s fun x y r => some (pc + 1, lv, .long (x - y) :: r, h)
  | .lmul => sm_l2 s fun x y r => some (pc + 1, lv, .long (x * y) :: r, h)
  | .land => sm_l2 s fun x y r => some (pc + 1, lv, .long (x &&& y) :: r, h)
  | .lor => sm_l2 s fun x y r => some (pc + 1, lv, .long (x ||| y) :: r, h)
  | .ldiv => sm_l2 s fun x y r => if y = 0 then none else some (pc + 1, lv, .long (x / y) :: r, h)
  | .lrem => sm_l2 s fun x y r => if y = 0 then none else some (pc + 1, lv, .long (x - x / y * y) :: r, h)
  | .lshl => sm_li s fun x y r => some (pc + 1, lv, .long (x <<< (y.toInt64 &&& 63)) :: r, h)
  | .lushr => sm_li s fun x y r => some (pc + 1, lv, .long (x.toUInt64 >>> (y.toInt64.toUInt64 &&& Int64.toUInt64 63)).toInt64 :: r, h)
  | .lcmp => sm_l2 s fun x y r => some (pc + 1, lv, .int (lg_cmp x y) :: r, h)
  | .i2l => sm_i1 s fun x r => some (pc + 1, lv, .long x.toInt64 :: r, h)
  | .l2i => sm_l1 s fun x r => some (pc + 1, lv, .int x.toInt32 :: r, h)
  | .i2b => sm_i1 s fun x r => some (pc + 1, lv, .int x.toInt8.toInt32 :: r, h)
  | .i2s => sm_i1 s fun x r => some (pc + 1, lv, .int x.toInt16.toInt32 :: r, h)
  | .dup => match s with
    | v :: r => if v.category = 1 then some (pc + 1, lv, v :: v :: r, h) else none
    | _ => none
  | .pop => match s with
    | v :: r => if v.category = 1 then some (pc + 1, lv, r, h) else none
    | _ => none
  | .dup2 => match s with
    | v :: w :: r => if v.category = 1 ∧ w.category = 1 then some (pc + 1, lv, v :: w :: v :: w :: r, h) else none
    | _ => none
  | .dup_x1 => match s with
    | v :: w :: r => if v.category = 1 ∧ w.category = 1 then some (pc + 1, lv, v :: w :: v :: r, h) else none
    | _ => none
  | .goto off => sm_jump (sm_tg pc off) lv s h
  | .ifCond q off => sm_i1 s fun x r => sm_br (sm_tg pc off) (sm_c1 q x) pc lv r h
  | .if_icmp q off => sm_i2 s fun x y r => sm_br (sm_tg pc off) (sm_c2 q x y) pc lv r h
  | .tableswitch dflt lo hi offs => sm_i1 s fun x r => if x.toInt < lo ∨ hi < x.toInt then sm_jump (sm_tg pc dflt) lv r h else match offs[(x.toInt - lo).toNat]? with
    | some o => sm_jump (sm_tg pc o) lv r h
    | none => none
  | .lookupswitch dflt ps => sm_i1 s fun x r => if (ps.toList.zip (ps.toList.drop 1)).all (fun (a, next) => a.1 < next.1) = true then sm_jump (sm_tg pc (Op.lookupswitch.offset ps.toList dflt x.toInt)) lv r h else none
  | .getfield ix => match lk ix with
    | some (0, ci, k, _) => sm_r1 s fun a r => match sm_obj h a ci with
      | some fs => match fs[k]? with
        | some v => some (pc + 3, lv, v :: r, h)
        | none => none
      | none => none
    | _ => none
  | .putfield ix => match lk ix with
    | some (0, ci, k, z) => match s with
      | v :: .ref a :: r => match sm_obj h a ci with
        | some fs => if k < fs.length ∧ sm_may (z % 4) v = true ∧ (z < 4 ∨ (ini = true ∧ z < 8)) then some (pc + 3, lv, r, h.set (a - 8) (.inr (ci, fs.set k v))) else none
        | none => none
      | _ => none
    | _ => none
  | .getstatic ix => match lk ix with
    | some (8, i, _, _) => if i < 8 then some (pc + 3, lv, .ref i :: s, h) else none
    | _ => none
  | .ldc ix => match lk ix with
    | some (6, _, _, z) => some (pc + 2, lv, .int (Int32.ofInt z) :: s, h)
    | _ => none
  | .ldc_w ix => match lk ix with
    | some (6, _, _, z) => some (pc + 3, lv, .int (Int32.ofInt z) :: s, h)
    | _ => none
  | .ldc2_w ix => match lk ix with
    | some (7, _, _, z) => some (pc + 3, lv, .long (Int64.ofInt z) :: s, h)
    | _ => none
  | .new ix => match lk ix with
    | some (5, ci, _, _) => some (pc + 3, lv, .ref (8 + h.length) :: s, h ++ [.inr (ci, NV ci)])
    | _ => none
  | .newarray q => match sm_aty q with
    | some t => sm_i1 s fun n r => if ¬ n < 0 ∧ n.toNatClampNeg ≤ 1000000 then some (pc + 2, lv, .ref (8 + h.length) :: r, h ++ [.inl (t, sm_new t n.toNatClampNeg)]) else none
    | none => none
  | .anewarray ix => match lk ix with
    | some (5, ci, _, _) => sm_i1 s fun n r => if ¬ n < 0 ∧ n.toNatClampNeg ≤ 1000000 ∧ ci = cq then some (pc + 3, lv, .ref (8 + h.length) :: r, h ++ [.inl (4, n.toNatClampNeg, .inr (.inr (.inr (.inr (fun _ => none)))))]) else none
    | _ => none
  | .iaload => sm_ai s fun a i r => match sm_ints RO h a 0 with
    | some (n, f) => if sm_in i n = true then some (pc + 1, lv, .int (f i.toNatClampNeg) :: r, h) else none
    | none => none
  | .baload => sm_ai s fun a i r => match sm_ints [] h a 2 with
    | some (n, f) => if sm_in i n = true then some (pc + 1, lv, .int (f i.toNatClampNeg) :: r, h) else none
    | none => none
  | .saload => sm_ai s fun a i r => match sm_ints [] h a 3 with
    | some (n, f) => if sm_in i n = true then some (pc + 1, lv, .int (f i.toNatClampNeg) :: r, h) else none
    | none => none
  | .laload => sm_ai s fun a i r => match sm_longs h a with
    | some (n, f) => if sm_in i n = true then some (pc + 1, lv, .long (f i.toNatClampNeg) :: r, h) else none
    | none => none
  | .aaload => sm_ai s fun a i r => match sm_refs h a with
    | some (n, f) => if sm_in i n = true then some (pc + 1, lv, va_rf (f i.toNatClampNeg) :: r, h) else none
    | none => none
  | .iastore => sm_i1 s fun x s1 => sm_ai s1 fun a i r => match sm_ints [] h a 0 with
    | some (n, f) => if sm_in i n = true then some (pc + 1, lv, r, h.set (a - 8) (.inl (0, n, .inl (upd f i.toNatClampNeg x)))) else none
    | none => none
  | .bastore => sm_i1 s fun x s1 => sm_ai s1 fun a i r => match sm_ints [] h a 2 with
    | some (n, f) => if sm_in i n = true then some (pc + 1, lv, r, h.set (a - 8) (.inl (2, n, .inl (upd f i.toNatClampNeg x.toInt8.toInt32)))) else none
    | none => none
  | .sastore => sm_i1 s fun x s1 => sm_ai s1 fun a i r => match sm_ints [] h a 3 with
    | some (n, f) => if sm_in i n = true then some (pc + 1, lv, r, h.set (a - 8) (.inl (3, n, .inl (upd f i.toNatClampNeg x.toInt16.toInt32)))) else none
    | none => none
  | .lastore => sm_l1 s fun x s1 => sm_ai s1 fun a i r => match sm_longs h a with
    | some (n, f) => if sm_in i n = true then some (pc + 1, lv, r, h.set (a - 8) (.inl (1, n, .inr (.inl (vp_updL f i.toNatClampNeg x))))) else none
    | none => none
  | .aastore => sm_r1 s fun v s1 => sm_ai s1 fun a i r => match sm_refs h a with
    | some (n, f) => match sm_obj h v cq with
      | some _ => if sm_in i n = true then some (pc + 1, lv, r, h.set (a - 8) (.inl (4, n, .inr (.inr (.inr (.inr (va_up f i.toNatClampNeg (some v)))))))) else none
      | none => none
    | none => none
  | .arraylength => sm_r1 s fun a r => match sm_ints RO h a 0 with
    | some (n, _) => some (pc + 1, lv, .int (Int32.ofNat n) :: r, h)
    | none => none
  | .invokespecial ix => match lk ix with
    | some (4, _, _, _) => sm_r1 s fun a r => if 1 ≤ d ∧ sm_sum r ≤ 8 then some (pc + 3, lv, r, h) else none
    | _ => none
  | .invokestatic ix => match lk ix with
    | some (9, _, _, _) => sm_i2 s fun x y r => if 1 ≤ d ∧ sm_sum r ≤ 8 then some (pc + 3, lv, .int (if x < y then y else x) :: r, h) else none
    | some (10, _, _, _) => sm_i2 s fun x y r => if 1 ≤ d ∧ sm_sum r ≤ 8 then some (pc + 3, lv, .int (if y < x then y else x) :: r, h) else none
    | some (11, _, _, _) => sm_i1 s fun x r => if 1 ≤ d ∧ sm_sum r ≤ 8 then some (pc + 3, lv, .int (if 0 ≤ x then x else 0 - x) :: r, h) else none
    | some (12, _, _, _) => sm_i2 s fun dp n s1 => sm_r1 s1 fun a s2 => sm_ai s2 fun a0 sp r =>
      if 1 ≤ d ∧ sm_sum r ≤ 8 ∧ ¬ sp < 0 ∧ ¬ dp < 0 ∧ ¬ n < 0 then (match sm_cpI h a0 a sp dp n with
        | some h' => some (pc + 3, lv, r, h')
        | none => match sm_cpL h a0 a sp dp n with
          | some h' => some (pc + 3, lv, r, h')
          | none => none) else none
    | _ => none
  | _ => none
end
section
/-! The small machine's steps are the machine's: from a state that the small one pictures, to a state that pictures its next. -/
def sm_kind (t : FieldType) : Int := match t with
  | .int => 0
  | .boolean => 1
  | .long => 2
  | .object _ => 3
  | .array _ => 3
  | _ => 4
def sm_TY (cA : Nat → ClassId) (Cq : String) : List (ClassId × FieldType) := [(cA 0, .int), (cA 1, .long), (cA 2, .byte), (cA 3, .short), (cA 4, .object Cq)]
/-- what the tables must say of an entry of a class's pool -/
def sm_okL (cl : List vw_C) (tyc : Nat → Nat → FieldType) (SF : List (String × String × String × Nat)) (Cq : String) (Ts : List Jvm.Cond) (own : String) (ix : Nat) (q : sm_L) : Prop :=
  (q.1 = 0 → ∃ r : vw_C, cl[q.2.1]? = some r ∧ q.2.2.1 < r.2.2 ∧ Jvm.Cond.fieldLink own ix (r.2.1 q.2.2.1).1 (r.2.1 q.2.2.1).2.1 (r.2.1 q.2.2.1).2.2.1 ∈ Ts ∧ sm_kind (tyc q.2.1 q.2.2.1) = q.2.2.2 % 4 ∧ (r.2.1 q.2.2.1).2.2.2 = decide (4 ≤ q.2.2.2) ∧ (4 ≤ q.2.2.2 ∧ q.2.2.2 < 8 → (r.2.1 q.2.2.1).1 = own)) ∧
  (q.1 = 4 → Jvm.Cond.methodLink own ix objectInit ∈ Ts ∧ Jvm.Cond.instanceMethod objectInit ∈ Ts ∧ Jvm.Cond.code objectInit ⟨#[0xb1]⟩ 1 none ∈ Ts) ∧
  (q.1 = 5 → ∃ r : vw_C, cl[q.2.1]? = some r ∧ Jvm.Cond.classLink own ix r.1 ∈ Ts ∧ Jvm.Cond.instantiable r.1 r.2.2 ∈ Ts ∧ Jvm.Cond.initialized r.1 ∈ Ts) ∧
  (q.1 = 6 → Jvm.Cond.constant own ix (Int32.ofInt q.2.2.2) ∈ Ts) ∧
  (q.1 = 7 → Jvm.Cond.constantLong own ix (Int64.ofInt q.2.2.2) ∈ Ts) ∧
  (q.1 = 8 → ∃ C n d : String, (C, n, d, q.2.1) ∈ SF ∧ Jvm.Cond.fieldLink own ix C n d ∈ Ts) ∧
  (q.1 = 9 → Jvm.Cond.methodLink own ix Lib.Math.max.name ∈ Ts ∧ Jvm.Cond.static Lib.Math.max.name ∈ Ts ∧ Jvm.Cond.initialized "java/lang/Math" ∈ Ts ∧ Jvm.Cond.code Lib.Math.max.name Lib.Math.max.code 2 (some .int) ∈ Ts) ∧
  (q.1 = 10 → Jvm.Cond.methodLink own ix Lib.Math.min.name ∈ Ts ∧ Jvm.Cond.static Lib.Math.min.name ∈ Ts ∧ Jvm.Cond.initialized "java/lang/Math" ∈ Ts ∧ Jvm.Cond.code Lib.Math.min.name Lib.Math.min.code 2 (some .int) ∈ Ts) ∧
  (q.1 = 11 → Jvm.Cond.methodLink own ix Lib.Math.abs.name ∈ Ts ∧ Jvm.Cond.static Lib.Math.abs.name ∈ Ts ∧ Jvm.Cond.initialized "java/lang/Math" ∈ Ts ∧ Jvm.Cond.code Lib.Math.abs.name Lib.Math.abs.code 1 (some .int) ∈ Ts) ∧
  (q.1 = 12 → Jvm.Cond.methodLink own ix arraycopyName ∈ Ts ∧ Jvm.Cond.native arraycopyName ∈ Ts ∧ Jvm.Cond.static arraycopyName ∈ Ts ∧ Jvm.Cond.initialized "java/lang/System" ∈ Ts)
/-- what the tables must say of the classes -/
def sm_okC (cl : List vw_C) (tyc : Nat → Nat → FieldType) (NV : Nat → List Value) (Ts : List Jvm.Cond) : Prop := ∀ (ci : Nat) (r : vw_C), cl[ci]? = some r →
  (∀ w ∈ u_ws r.1 r.2.1 r.2.2, w ∈ Ts) ∧ (∀ k, k < r.2.2 → parseFieldDescriptor (r.2.1 k).2.2.1 = some (tyc ci k)) ∧ (∀ a, a < r.2.2 → ∀ b, b < r.2.2 → a ≠ b → (r.2.1 a).2.1 ≠ (r.2.1 b).2.1) ∧
  (∀ j, j < r.2.2 → defaultValue (tyc ci j) = vp_V (NV ci) j) ∧ (NV ci).length = r.2.2 ∧ ∀ ad, (NV ci).map (sm_v ad) = NV ci
/-- what holds of the world beside the own cells: classes, array classes, arrays that are only read -/
def sm_env (D : va_G) (cl : List vw_C) (cA : Nat → ClassId) (Cq : String) (RO : List (Nat × (Nat → Int32))) (SF : List (String × String × String × Nat)) (st : Nat → Nat) (base : Nat) (U : State) (H : Heap) : Prop :=
  va_K D cl (sm_TY cA Cq) U ∧ (∀ (i : Nat) (x : Nat × (Nat → Int32)), RO[i]? = some x → va_T .int (st i) x.1 (fun j => .int (x.2 j)) (fun q => base ≤ q) U H) ∧
  (∀ q ∈ SF, va_Z q.1 q.2.1 q.2.2.1 (.ref (st q.2.2.2)) (fun q => base ≤ q) U H) ∧ va_AO Cq U
theorem sm_env.moved {D : va_G} {cl : List vw_C} {cA : Nat → ClassId} {Cq : String} {RO : List (Nat × (Nat → Int32))} {SF : List (String × String × String × Nat)} {st : Nat → Nat} {base : Nat} {u U : State} {H : Heap} (hvm : u.vm.Alike U.vm) (h : sm_env D cl cA Cq RO SF st base u H) : sm_env D cl cA Cq RO SF st base U H :=
  ⟨va_K.moved hvm h.1, fun i x hx => (h.2.1 i x hx).moved hvm, fun q hq => (h.2.2.1 q hq).moved hvm, va_AO.moved hvm h.2.2.2⟩
theorem sm_env.kept {D : va_G} {cl : List vw_C} {cA : Nat → ClassId} {Cq : String} {RO : List (Nat × (Nat → Int32))} {SF : List (String × String × String × Nat)} {st : Nat → Nat} {base : Nat} {U : State} {H H1 : Heap} (h : sm_env D cl cA Cq RO SF st base U H) (hq : ∀ a : Nat, a < H.size → ¬ base ≤ a → H1[a]? = H[a]?) : sm_env D cl cA Cq RO SF st base U H1 :=
  ⟨h.1, fun i x hx => (h.2.1 i x hx).kept hq, fun q hs => (h.2.2.1 q hs).kept hq, h.2.2.2⟩
theorem sm_may_ok {kind : Int} {v : Value} {ad : Nat → Nat} {ty : FieldType} (h : sm_may kind v = true) (hk : sm_kind ty = kind) : narrow ty (sm_v ad v) = sm_v ad v ∧ fits ty (sm_v ad v) = true := by
  subst hk
  revert h
  cases v <;> cases ty <;> intro h9 <;> first
    | exact ⟨rfl, rfl⟩
    | (exfalso; simp [sm_may, sm_kind] at h9; done)
    | (rcases (by simpa [sm_may, sm_kind] using h9 : _ = (0 : Int32) ∨ _ = (1 : Int32)) with h8 | h8 <;> subst h8 <;> exact ⟨rfl, rfl⟩)
theorem sm_ad_own {st : Nat → Nat} {base a : Nat} (h : ¬ a < 8) : sm_ad st base a = base + (a - 8) := by unfold sm_ad; rw [if_neg h]
theorem sm_ad_ro {st : Nat → Nat} {base a : Nat} (h : a < 8) : sm_ad st base a = st a := by unfold sm_ad; rw [if_pos h]
theorem sm_obj_at {ad : Nat → Nat} {cA : Nat → ClassId} {base : Nat} {h : sm_H} {a ci : Nat} {fs : List Value} (e : sm_obj h a ci = some fs) : ¬ a < 8 ∧ h[a - 8]? = some (.inr (ci, fs)) ∧ (sm_w ad cA base h)[a - 8]? = some (base + (a - 8), .inr (ci, fs.map (sm_v ad))) := by
  unfold sm_obj at e
  split at e
  · cases e
  · rename_i h8
    split at e
    · rename_i ci' fs' e1
      split at e
      · rename_i e2
        cases e
        subst e2
        exact ⟨h8, e1, by rw [sm_w_get, e1]; rfl⟩
      · cases e
    · cases e
theorem sm_ints_at {ad : Nat → Nat} {cA : Nat → ClassId} {base : Nat} {RO : List (Nat × (Nat → Int32))} {h : sm_H} {a t n : Nat} {f : Nat → Int32} (e : sm_ints RO h a t = some (n, f)) : (a < 8 ∧ t = 0 ∧ RO[a]? = some (n, f)) ∨ (¬ a < 8 ∧ h[a - 8]? = some (.inl (t, n, .inl f)) ∧ (sm_w ad cA base h)[a - 8]? = some (base + (a - 8), .inl (cA t, n, .inl f))) := by
  unfold sm_ints at e
  split at e
  · rename_i h8
    split at e
    · rename_i h0
      exact Or.inl ⟨h8, h0, e⟩
    · cases e
  · rename_i h8
    split at e
    · rename_i t' n' f' e1
      split at e
      · rename_i e2
        cases e
        subst e2
        exact Or.inr ⟨h8, e1, by rw [sm_w_get, e1]; rfl⟩
      · cases e
    · cases e
theorem sm_ints_own {ad : Nat → Nat} {cA : Nat → ClassId} {base : Nat} {h : sm_H} {a t n : Nat} {f : Nat → Int32} (e : sm_ints [] h a t = some (n, f)) : ¬ a < 8 ∧ h[a - 8]? = some (.inl (t, n, .inl f)) ∧ (sm_w ad cA base h)[a - 8]? = some (base + (a - 8), .inl (cA t, n, .inl f)) := by
  rcases sm_ints_at (ad := ad) (cA := cA) (base := base) e with h1 | h1
  · exact absurd h1.2.2 (by simp)
  · exact h1
theorem sm_longs_at {ad : Nat → Nat} {cA : Nat → ClassId} {base : Nat} {h : sm_H} {a n : Nat} {f : Nat → Int64} (e : sm_longs h a = some (n, f)) : ¬ a < 8 ∧ h[a - 8]? = some (.inl (1, n, .inr (.inl f))) ∧ (sm_w ad cA base h)[a - 8]? = some (base + (a - 8), .inl (cA 1, n, .inr (.inl f))) := by
  unfold sm_longs at e
  split at e
  · cases e
  · rename_i h8
    split at e
    · rename_i t' n' f' e1
      split at e
      · rename_i e2
        cases e
        subst e2
        exact ⟨h8, e1, by rw [sm_w_get, e1]; rfl⟩
      · cases e
    · cases e
theorem sm_refs_at {ad : Nat → Nat} {cA : Nat → ClassId} {base : Nat} {h : sm_H} {a n : Nat} {f : Nat → Option Nat} (e : sm_refs h a = some (n, f)) : ¬ a < 8 ∧ h[a - 8]? = some (.inl (4, n, .inr (.inr (.inr (.inr f))))) ∧ (sm_w ad cA base h)[a - 8]? = some (base + (a - 8), .inl (cA 4, n, .inr (.inr (.inr (.inr (fun j => (f j).map ad)))))) := by
  unfold sm_refs at e
  split at e
  · cases e
  · rename_i h8
    split at e
    · rename_i t' n' f' e1
      split at e
      · rename_i e2
        cases e
        subst e2
        exact ⟨h8, e1, by rw [sm_w_get, e1]; rfl⟩
      · cases e
    · cases e
theorem sm_size {p : Program} {l : Launch} {e : Env} {R : Room} {s : State} {m : MethodId} {args : Array Value} {below : List Frame} {meth : Method} {c : Code} {H : Heap} {locs : List Loc} {cells slots : Nat} {T : State} {D : va_G} {cl : List vw_C} {ad : Nat → Nat} {cA : Nat → ClassId} {base n0 : Nat} {h : sm_H}
    (hT : T.heap = H) (X : Stand p l e R s m args below meth c T locs cells slots) (hP : va_P D cl (sm_w ad cA base h) H) (hS : s.heap.size ≤ H.size) (hb0 : s.heap.size = base + n0) (hc1 : n0 + cells = h.length) : H.size = base + h.length := by
  have h1 : T.heap.size ≤ s.heap.size + cells := X.heapSize
  rw [hT] at h1
  rcases Nat.eq_zero_or_pos h.length with h0 | h0
  · omega
  · have hk : h[h.length - 1]? = some (h[h.length - 1]'(by omega)) := List.getElem?_eq_getElem (by omega)
    have h2 := (hP (h.length - 1) _ (by rw [sm_w_get, hk]; rfl)).lt
    have h3 : base + (h.length - 1) < H.size := h2
    omega
theorem sm_ad_new (st : Nat → Nat) (base n : Nat) : sm_ad st base (8 + n) = base + n := by
  unfold sm_ad
  rw [if_neg (by omega)]
  omega
theorem sm_v_rf (ad : Nat → Nat) (x : Option Nat) : sm_v ad (va_rf x) = va_rf (x.map ad) := by cases x <;> rfl
theorem sm_sum_map (ad : Nat → Nat) (r : List Value) : ((r.map (sm_v ad)).map fun v => v.category).sum = sm_sum r := by
  unfold sm_sum
  rw [List.map_map]
  congr 2
  funext v
  exact sm_v_cat ad v
theorem sm_aty_ok {cA : Nat → ClassId} {Cq : String} {ad : Nat → Nat} {q : ArrayType} {t : Nat} (h : sm_aty q = some t) : ∃ ty, newarray.typeOf q = ty ∧ (sm_TY cA Cq)[t]? = some (cA t, ty) ∧ componentBytes ty ≤ 8 ∧ (∀ (cB : ClassId) (n : Nat), vp_cell cB (sm_ar ad (sm_new t n)) = arrV cB n (fun _ => defaultValue ty)) ∧ (ty = .int ∨ ty = .long ∨ ty = .byte ∨ ty = .short) := by
  cases q <;> simp [sm_aty] at h <;> subst h <;> exact ⟨_, rfl, rfl, by decide, fun _ _ => rfl, by simp [newarray.typeOf]⟩
set_option maxHeartbeats 1000000 in
theorem sn_iconst {p : Program} {l : Launch} {e : Env} {R : Room} {s : State} {m : MethodId} {args : Array Value} {below : List Frame} {meth : Method} {c : Code} {H : Heap} {locs : List Loc} {cells slots : Nat} {Q : State → Prop} {cc : ByteArray} {nL n0 z0 d base : Nat} {st : Nat → Nat} {cA : Nat → ClassId} {D : va_G} {cl : List vw_C} {Cq own : String} {cq : Nat} {RO : List (Nat × (Nat → Int32))} {SF : List (String × String × String × Nat)} {Ts : List Jvm.Cond} {tyc : Nat → Nat → FieldType} {NV : Nat → List Value} {lk : Nat → Option sm_L} {ini : Bool} {n : Int}
    (hx : p.tables.exec = Jvm.exec) (hb : c.code = cc) (hml : c.maxLocals = nL) (hown : s.vm.findClass own = some m.cls) (hts : ∀ w ∈ Ts, w.before args s = true) (hok : ∀ ix q, lk ix = some q → sm_okL cl tyc SF Cq Ts own ix q) (hcl : sm_okC cl tyc NV Ts) (hcq : ∃ r : vw_C, cl[cq]? = some r ∧ r.1 = Cq)
    (hini : ini = true → meth.name = "<init>") (hE : sm_env D cl cA Cq RO SF st base s s.heap) (hb0 : s.heap.size = base + n0) (hd : d ≤ R.frames) (hdl : d * 100 ≤ R.locals) (har : ∀ q t, sm_aty q = some t → Jvm.Cond.arrayClass (newarray.typeOf q) ∈ Ts)
    {len pc pc' : Nat} {lv lv' : sm_V} {sk sk' : List Value} {h h' : sm_H} {ls : Array Slot} (hdg : decode cc pc = .ok ((.iconst n), sm_len (.iconst n) len)) (hl : lv_has ls nL (sm_lv (sm_ad st base) lv)) (hP : va_P D cl (sm_w (sm_ad st base) cA base h) H) (hS : va_S (fun q => base ≤ q) s.heap H locs) (hc1 : n0 + cells = h.length) (hc2 : z0 + slots = sm_sz h)
    (hm1 : h'.length ≤ n0 + R.cells) (hm2 : sm_sz h' ≤ z0 + R.slots) (hs : sm_step lk RO NV cq ini nL d (.iconst n) pc lv sk h = some (pc', lv', sk', h'))
    (k : ∀ (ls' : Array Slot) (H' : Heap) (locs' : List Loc) (cells' slots' : Nat), lv_has ls' nL (sm_lv (sm_ad st base) lv') → va_P D cl (sm_w (sm_ad st base) cA base h') H' → va_S (fun q => base ≤ q) s.heap H' locs' → n0 + cells' = h'.length → z0 + slots' = sm_sz h' → W p l e R s m args below meth c H' locs' cells' slots' Q (F0 m pc' ls' (sk'.map (sm_v (sm_ad st base))))) :
    W p l e R s m args below meth c H locs cells slots Q (F0 m pc ls (sk.map (sm_v (sm_ad st base)))) := by
    cases hs
    exact lv_iconst hx hb hdg rfl (k _ _ _ _ _ hl hP hS hc1 hc2)
set_option maxHeartbeats 1000000 in
theorem sn_bipush {p : Program} {l : Launch} {e : Env} {R : Room} {s : State} {m : MethodId} {args : Array Value} {below : List Frame} {meth : Method} {c : Code} {H : Heap} {locs : List Loc} {cells slots : Nat} {Q : State → Prop} {cc : ByteArray} {nL n0 z0 d base : Nat} {st : Nat → Nat} {cA : Nat → ClassId} {D : va_G} {cl : List vw_C} {Cq own : String} {cq : Nat} {RO : List (Nat × (Nat → Int32))} {SF : List (String × String × String × Nat)} {Ts : List Jvm.Cond} {tyc : Nat → Nat → FieldType} {NV : Nat → List Value} {lk : Nat → Option sm_L} {ini : Bool} {n : Int}
    (hx : p.tables.exec = Jvm.exec) (hb : c.code = cc) (hml : c.maxLocals = nL) (hown : s.vm.findClass own = some m.cls) (hts : ∀ w ∈ Ts, w.before args s = true) (hok : ∀ ix q, lk ix = some q → sm_okL cl tyc SF Cq Ts own ix q) (hcl : sm_okC cl tyc NV Ts) (hcq : ∃ r : vw_C, cl[cq]? = some r ∧ r.1 = Cq)
    (hini : ini = true → meth.name = "<init>") (hE : sm_env D cl cA Cq RO SF st base s s.heap) (hb0 : s.heap.size = base + n0) (hd : d ≤ R.frames) (hdl : d * 100 ≤ R.locals) (har : ∀ q t, sm_aty q = some t → Jvm.Cond.arrayClass (newarray.typeOf q) ∈ Ts)
    {len pc pc' : Nat} {lv lv' : sm_V} {sk sk' : List Value} {h h' : sm_H} {ls : Array Slot} (hdg : decode cc pc = .ok ((.bipush n), sm_len (.bipush n) len)) (hl : lv_has ls nL (sm_lv (sm_ad st base) lv)) (hP : va_P D cl (sm_w (sm_ad st base) cA base h) H) (hS : va_S (fun q => base ≤ q) s.heap H locs) (hc1 : n0 + cells = h.length) (hc2 : z0 + slots = sm_sz h)
    (hm1 : h'.length ≤ n0 + R.cells) (hm2 : sm_sz h' ≤ z0 + R.slots) (hs : sm_step lk RO NV cq ini nL d (.bipush n) pc lv sk h = some (pc', lv', sk', h'))
    (k : ∀ (ls' : Array Slot) (H' : Heap) (locs' : List Loc) (cells' slots' : Nat), lv_has ls' nL (sm_lv (sm_ad st base) lv') → va_P D cl (sm_w (sm_ad st base) cA base h') H' → va_S (fun q => base ≤ q) s.heap H' locs' → n0 + cells' = h'.length → z0 + slots' = sm_sz h' → W p l e R s m args below meth c H' locs' cells' slots' Q (F0 m pc' ls' (sk'.map (sm_v (sm_ad st base))))) :
    W p l e R s m args below meth c H locs cells slots Q (F0 m pc ls (sk.map (sm_v (sm_ad st base)))) := by
    cases hs
    exact lv_bipush hx hb hdg rfl (k _ _ _ _ _ hl hP hS hc1 hc2)
set_option maxHeartbeats 1000000 in
theorem sn_sipush {p : Program} {l : Launch} {e : Env} {R : Room} {s : State} {m : MethodId} {args : Array Value} {below : List Frame} {meth : Method} {c : Code} {H : Heap} {locs : List Loc} {cells slots : Nat} {Q : State → Prop} {cc : ByteArray} {nL n0 z0 d base : Nat} {st : Nat → Nat} {cA : Nat → ClassId} {D : va_G} {cl : List vw_C} {Cq own : String} {cq : Nat} {RO : List (Nat × (Nat → Int32))} {SF : List (String × String × String × Nat)} {Ts : List Jvm.Cond} {tyc : Nat → Nat → FieldType} {NV : Nat → List Value} {lk : Nat → Option sm_L} {ini : Bool} {n : Int}
    (hx : p.tables.exec = Jvm.exec) (hb : c.code = cc) (hml : c.maxLocals = nL) (hown : s.vm.findClass own = some m.cls) (hts : ∀ w ∈ Ts, w.before args s = true) (hok : ∀ ix q, lk ix = some q → sm_okL cl tyc SF Cq Ts own ix q) (hcl : sm_okC cl tyc NV Ts) (hcq : ∃ r : vw_C, cl[cq]? = some r ∧ r.1 = Cq)
    (hini : ini = true → meth.name = "<init>") (hE : sm_env D cl cA Cq RO SF st base s s.heap) (hb0 : s.heap.size = base + n0) (hd : d ≤ R.frames) (hdl : d * 100 ≤ R.locals) (har : ∀ q t, sm_aty q = some t → Jvm.Cond.arrayClass (newarray.typeOf q) ∈ Ts)
    {len pc pc' : Nat} {lv lv' : sm_V} {sk sk' : List Value} {h h' : sm_H} {ls : Array Slot} (hdg : decode cc pc = .ok ((.sipush n), sm_len (.sipush n) len)) (hl : lv_has ls nL (sm_lv (sm_ad st base) lv)) (hP : va_P D cl (sm_w (sm_ad st base) cA base h) H) (hS : va_S (fun q => base ≤ q) s.heap H locs) (hc1 : n0 + cells = h.length) (hc2 : z0 + slots = sm_sz h)
    (hm1 : h'.length ≤ n0 + R.cells) (hm2 : sm_sz h' ≤ z0 + R.slots) (hs : sm_step lk RO NV cq ini nL d (.sipush n) pc lv sk h = some (pc', lv', sk', h'))
    (k : ∀ (ls' : Array Slot) (H' : Heap) (locs' : List Loc) (cells' slots' : Nat), lv_has ls' nL (sm_lv (sm_ad st base) lv') → va_P D cl (sm_w (sm_ad st base) cA base h') H' → va_S (fun q => base ≤ q) s.heap H' locs' → n0 + cells' = h'.length → z0 + slots' = sm_sz h' → W p l e R s m args below meth c H' locs' cells' slots' Q (F0 m pc' ls' (sk'.map (sm_v (sm_ad st base))))) :
    W p l e R s m args below meth c H locs cells slots Q (F0 m pc ls (sk.map (sm_v (sm_ad st base)))) := by
    cases hs
    exact lv_sipush hx hb hdg rfl (k _ _ _ _ _ hl hP hS hc1 hc2)
set_option maxHeartbeats 1000000 in
theorem sn_lconst {p : Program} {l : Launch} {e : Env} {R : Room} {s : State} {m : MethodId} {args : Array Value} {below : List Frame} {meth : Method} {c : Code} {H : Heap} {locs : List Loc} {cells slots : Nat} {Q : State → Prop} {cc : ByteArray} {nL n0 z0 d base : Nat} {st : Nat → Nat} {cA : Nat → ClassId} {D : va_G} {cl : List vw_C} {Cq own : String} {cq : Nat} {RO : List (Nat × (Nat → Int32))} {SF : List (String × String × String × Nat)} {Ts : List Jvm.Cond} {tyc : Nat → Nat → FieldType} {NV : Nat → List Value} {lk : Nat → Option sm_L} {ini : Bool} {n : Fin 2}
    (hx : p.tables.exec = Jvm.exec) (hb : c.code = cc) (hml : c.maxLocals = nL) (hown : s.vm.findClass own = some m.cls) (hts : ∀ w ∈ Ts, w.before args s = true) (hok : ∀ ix q, lk ix = some q → sm_okL cl tyc SF Cq Ts own ix q) (hcl : sm_okC cl tyc NV Ts) (hcq : ∃ r : vw_C, cl[cq]? = some r ∧ r.1 = Cq)
    (hini : ini = true → meth.name = "<init>") (hE : sm_env D cl cA Cq RO SF st base s s.heap) (hb0 : s.heap.size = base + n0) (hd : d ≤ R.frames) (hdl : d * 100 ≤ R.locals) (har : ∀ q t, sm_aty q = some t → Jvm.Cond.arrayClass (newarray.typeOf q) ∈ Ts)
    {len pc pc' : Nat} {lv lv' : sm_V} {sk sk' : List Value} {h h' : sm_H} {ls : Array Slot} (hdg : decode cc pc = .ok ((.lconst n), sm_len (.lconst n) len)) (hl : lv_has ls nL (sm_lv (sm_ad st base) lv)) (hP : va_P D cl (sm_w (sm_ad st base) cA base h) H) (hS : va_S (fun q => base ≤ q) s.heap H locs) (hc1 : n0 + cells = h.length) (hc2 : z0 + slots = sm_sz h)
    (hm1 : h'.length ≤ n0 + R.cells) (hm2 : sm_sz h' ≤ z0 + R.slots) (hs : sm_step lk RO NV cq ini nL d (.lconst n) pc lv sk h = some (pc', lv', sk', h'))
    (k : ∀ (ls' : Array Slot) (H' : Heap) (locs' : List Loc) (cells' slots' : Nat), lv_has ls' nL (sm_lv (sm_ad st base) lv') → va_P D cl (sm_w (sm_ad st base) cA base h') H' → va_S (fun q => base ≤ q) s.heap H' locs' → n0 + cells' = h'.length → z0 + slots' = sm_sz h' → W p l e R s m args below meth c H' locs' cells' slots' Q (F0 m pc' ls' (sk'.map (sm_v (sm_ad st base))))) :
    W p l e R s m args below meth c H locs cells slots Q (F0 m pc ls (sk.map (sm_v (sm_ad st base)))) := by
    cases hs
    exact lv_lconst hx hb hdg rfl (k _ _ _ _ _ hl hP hS hc1 hc2)
set_option maxHeartbeats 1000000 in
theorem sn_iload_n {p : Program} {l : Launch} {e : Env} {R : Room} {s : State} {m : MethodId} {args : Array Value} {below : List Frame} {meth : Method} {c : Code} {H : Heap} {locs : List Loc} {cells slots : Nat} {Q : State → Prop} {cc : ByteArray} {nL n0 z0 d base : Nat} {st : Nat → Nat} {cA : Nat → ClassId} {D : va_G} {cl : List vw_C} {Cq own : String} {cq : Nat} {RO : List (Nat × (Nat → Int32))} {SF : List (String × String × String × Nat)} {Ts : List Jvm.Cond} {tyc : Nat → Nat → FieldType} {NV : Nat → List Value} {lk : Nat → Option sm_L} {ini : Bool} {n : Fin 4}
    (hx : p.tables.exec = Jvm.exec) (hb : c.code = cc) (hml : c.maxLocals = nL) (hown : s.vm.findClass own = some m.cls) (hts : ∀ w ∈ Ts, w.before args s = true) (hok : ∀ ix q, lk ix = some q → sm_okL cl tyc SF Cq Ts own ix q) (hcl : sm_okC cl tyc NV Ts) (hcq : ∃ r : vw_C, cl[cq]? = some r ∧ r.1 = Cq)
    (hini : ini = true → meth.name = "<init>") (hE : sm_env D cl cA Cq RO SF st base s s.heap) (hb0 : s.heap.size = base + n0) (hd : d ≤ R.frames) (hdl : d * 100 ≤ R.locals) (har : ∀ q t, sm_aty q = some t → Jvm.Cond.arrayClass (newarray.typeOf q) ∈ Ts)
    {len pc pc' : Nat} {lv lv' : sm_V} {sk sk' : List Value} {h h' : sm_H} {ls : Array Slot} (hdg : decode cc pc = .ok ((.iload_n n), sm_len (.iload_n n) len)) (hl : lv_has ls nL (sm_lv (sm_ad st base) lv)) (hP : va_P D cl (sm_w (sm_ad st base) cA base h) H) (hS : va_S (fun q => base ≤ q) s.heap H locs) (hc1 : n0 + cells = h.length) (hc2 : z0 + slots = sm_sz h)
    (hm1 : h'.length ≤ n0 + R.cells) (hm2 : sm_sz h' ≤ z0 + R.slots) (hs : sm_step lk RO NV cq ini nL d (.iload_n n) pc lv sk h = some (pc', lv', sk', h'))
    (k : ∀ (ls' : Array Slot) (H' : Heap) (locs' : List Loc) (cells' slots' : Nat), lv_has ls' nL (sm_lv (sm_ad st base) lv') → va_P D cl (sm_w (sm_ad st base) cA base h') H' → va_S (fun q => base ≤ q) s.heap H' locs' → n0 + cells' = h'.length → z0 + slots' = sm_sz h' → W p l e R s m args below meth c H' locs' cells' slots' Q (F0 m pc' ls' (sk'.map (sm_v (sm_ad st base))))) :
    W p l e R s m args below meth c H locs cells slots Q (F0 m pc ls (sk.map (sm_v (sm_ad st base)))) := by
    dsimp only [sm_step] at hs
    split at hs
    · rename_i x hx9
      cases hs
      exact lv_iload_n hx hb hdg rfl (sm_ld_at hl hx9) (k _ _ _ _ _ hl hP hS hc1 hc2)
    · cases hs
set_option maxHeartbeats 1000000 in
theorem sn_iload {p : Program} {l : Launch} {e : Env} {R : Room} {s : State} {m : MethodId} {args : Array Value} {below : List Frame} {meth : Method} {c : Code} {H : Heap} {locs : List Loc} {cells slots : Nat} {Q : State → Prop} {cc : ByteArray} {nL n0 z0 d base : Nat} {st : Nat → Nat} {cA : Nat → ClassId} {D : va_G} {cl : List vw_C} {Cq own : String} {cq : Nat} {RO : List (Nat × (Nat → Int32))} {SF : List (String × String × String × Nat)} {Ts : List Jvm.Cond} {tyc : Nat → Nat → FieldType} {NV : Nat → List Value} {lk : Nat → Option sm_L} {ini : Bool} {n : Nat}
    (hx : p.tables.exec = Jvm.exec) (hb : c.code = cc) (hml : c.maxLocals = nL) (hown : s.vm.findClass own = some m.cls) (hts : ∀ w ∈ Ts, w.before args s = true) (hok : ∀ ix q, lk ix = some q → sm_okL cl tyc SF Cq Ts own ix q) (hcl : sm_okC cl tyc NV Ts) (hcq : ∃ r : vw_C, cl[cq]? = some r ∧ r.1 = Cq)
    (hini : ini = true → meth.name = "<init>") (hE : sm_env D cl cA Cq RO SF st base s s.heap) (hb0 : s.heap.size = base + n0) (hd : d ≤ R.frames) (hdl : d * 100 ≤ R.locals) (har : ∀ q t, sm_aty q = some t → Jvm.Cond.arrayClass (newarray.typeOf q) ∈ Ts)
    {len pc pc' : Nat} {lv lv' : sm_V} {sk sk' : List Value} {h h' : sm_H} {ls : Array Slot} (hdg : decode cc pc = .ok ((.iload n), sm_len (.iload n) len)) (hl : lv_has ls nL (sm_lv (sm_ad st base) lv)) (hP : va_P D cl (sm_w (sm_ad st base) cA base h) H) (hS : va_S (fun q => base ≤ q) s.heap H locs) (hc1 : n0 + cells = h.length) (hc2 : z0 + slots = sm_sz h)
    (hm1 : h'.length ≤ n0 + R.cells) (hm2 : sm_sz h' ≤ z0 + R.slots) (hs : sm_step lk RO NV cq ini nL d (.iload n) pc lv sk h = some (pc', lv', sk', h'))
    (k : ∀ (ls' : Array Slot) (H' : Heap) (locs' : List Loc) (cells' slots' : Nat), lv_has ls' nL (sm_lv (sm_ad st base) lv') → va_P D cl (sm_w (sm_ad st base) cA base h') H' → va_S (fun q => base ≤ q) s.heap H' locs' → n0 + cells' = h'.length → z0 + slots' = sm_sz h' → W p l e R s m args below meth c H' locs' cells' slots' Q (F0 m pc' ls' (sk'.map (sm_v (sm_ad st base))))) :
    W p l e R s m args below meth c H locs cells slots Q (F0 m pc ls (sk.map (sm_v (sm_ad st base)))) := by
    dsimp only [sm_step] at hs
    split at hs
    · rename_i x hx9
      cases hs
      exact lv_iload hx hb hdg (sm_ld_at hl hx9) (k _ _ _ _ _ hl hP hS hc1 hc2)
    · cases hs
set_option maxHeartbeats 1000000 in
theorem sn_lload_n {p : Program} {l : Launch} {e : Env} {R : Room} {s : State} {m : MethodId} {args : Array Value} {below : List Frame} {meth : Method} {c : Code} {H : Heap} {locs : List Loc} {cells slots : Nat} {Q : State → Prop} {cc : ByteArray} {nL n0 z0 d base : Nat} {st : Nat → Nat} {cA : Nat → ClassId} {D : va_G} {cl : List vw_C} {Cq own : String} {cq : Nat} {RO : List (Nat × (Nat → Int32))} {SF : List (String × String × String × Nat)} {Ts : List Jvm.Cond} {tyc : Nat → Nat → FieldType} {NV : Nat → List Value} {lk : Nat → Option sm_L} {ini : Bool} {n : Fin 4}
    (hx : p.tables.exec = Jvm.exec) (hb : c.code = cc) (hml : c.maxLocals = nL) (hown : s.vm.findClass own = some m.cls) (hts : ∀ w ∈ Ts, w.before args s = true) (hok : ∀ ix q, lk ix = some q → sm_okL cl tyc SF Cq Ts own ix q) (hcl : sm_okC cl tyc NV Ts) (hcq : ∃ r : vw_C, cl[cq]? = some r ∧ r.1 = Cq)
    (hini : ini = true → meth.name = "<init>") (hE : sm_env D cl cA Cq RO SF st base s s.heap) (hb0 : s.heap.size = base + n0) (hd : d ≤ R.frames) (hdl : d * 100 ≤ R.locals) (har : ∀ q t, sm_aty q = some t → Jvm.Cond.arrayClass (newarray.typeOf q) ∈ Ts)
    {len pc pc' : Nat} {lv lv' : sm_V} {sk sk' : List Value} {h h' : sm_H} {ls : Array Slot} (hdg : decode cc pc = .ok ((.lload_n n), sm_len (.lload_n n) len)) (hl : lv_has ls nL (sm_lv (sm_ad st base) lv)) (hP : va_P D cl (sm_w (sm_ad st base) cA base h) H) (hS : va_S (fun q => base ≤ q) s.heap H locs) (hc1 : n0 + cells = h.length) (hc2 : z0 + slots = sm_sz h)
    (hm1 : h'.length ≤ n0 + R.cells) (hm2 : sm_sz h' ≤ z0 + R.slots) (hs : sm_step lk RO NV cq ini nL d (.lload_n n) pc lv sk h = some (pc', lv', sk', h'))
    (k : ∀ (ls' : Array Slot) (H' : Heap) (locs' : List Loc) (cells' slots' : Nat), lv_has ls' nL (sm_lv (sm_ad st base) lv') → va_P D cl (sm_w (sm_ad st base) cA base h') H' → va_S (fun q => base ≤ q) s.heap H' locs' → n0 + cells' = h'.length → z0 + slots' = sm_sz h' → W p l e R s m args below meth c H' locs' cells' slots' Q (F0 m pc' ls' (sk'.map (sm_v (sm_ad st base))))) :
    W p l e R s m args below meth c H locs cells slots Q (F0 m pc ls (sk.map (sm_v (sm_ad st base)))) := by
    dsimp only [sm_step] at hs
    split at hs
    · rename_i x hx9
      cases hs
      exact lv_lload_n hx hb hdg rfl (sm_ld_at hl hx9) (k _ _ _ _ _ hl hP hS hc1 hc2)
    · cases hs
set_option maxHeartbeats 1000000 in
theorem sn_lload {p : Program} {l : Launch} {e : Env} {R : Room} {s : State} {m : MethodId} {args : Array Value} {below : List Frame} {meth : Method} {c : Code} {H : Heap} {locs : List Loc} {cells slots : Nat} {Q : State → Prop} {cc : ByteArray} {nL n0 z0 d base : Nat} {st : Nat → Nat} {cA : Nat → ClassId} {D : va_G} {cl : List vw_C} {Cq own : String} {cq : Nat} {RO : List (Nat × (Nat → Int32))} {SF : List (String × String × String × Nat)} {Ts : List Jvm.Cond} {tyc : Nat → Nat → FieldType} {NV : Nat → List Value} {lk : Nat → Option sm_L} {ini : Bool} {n : Nat}
    (hx : p.tables.exec = Jvm.exec) (hb : c.code = cc) (hml : c.maxLocals = nL) (hown : s.vm.findClass own = some m.cls) (hts : ∀ w ∈ Ts, w.before args s = true) (hok : ∀ ix q, lk ix = some q → sm_okL cl tyc SF Cq Ts own ix q) (hcl : sm_okC cl tyc NV Ts) (hcq : ∃ r : vw_C, cl[cq]? = some r ∧ r.1 = Cq)
    (hini : ini = true → meth.name = "<init>") (hE : sm_env D cl cA Cq RO SF st base s s.heap) (hb0 : s.heap.size = base + n0) (hd : d ≤ R.frames) (hdl : d * 100 ≤ R.locals) (har : ∀ q t, sm_aty q = some t → Jvm.Cond.arrayClass (newarray.typeOf q) ∈ Ts)
    {len pc pc' : Nat} {lv lv' : sm_V} {sk sk' : List Value} {h h' : sm_H} {ls : Array Slot} (hdg : decode cc pc = .ok ((.lload n), sm_len (.lload n) len)) (hl : lv_has ls nL (sm_lv (sm_ad st base) lv)) (hP : va_P D cl (sm_w (sm_ad st base) cA base h) H) (hS : va_S (fun q => base ≤ q) s.heap H locs) (hc1 : n0 + cells = h.length) (hc2 : z0 + slots = sm_sz h)
    (hm1 : h'.length ≤ n0 + R.cells) (hm2 : sm_sz h' ≤ z0 + R.slots) (hs : sm_step lk RO NV cq ini nL d (.lload n) pc lv sk h = some (pc', lv', sk', h'))
    (k : ∀ (ls' : Array Slot) (H' : Heap) (locs' : List Loc) (cells' slots' : Nat), lv_has ls' nL (sm_lv (sm_ad st base) lv') → va_P D cl (sm_w (sm_ad st base) cA base h') H' → va_S (fun q => base ≤ q) s.heap H' locs' → n0 + cells' = h'.length → z0 + slots' = sm_sz h' → W p l e R s m args below meth c H' locs' cells' slots' Q (F0 m pc' ls' (sk'.map (sm_v (sm_ad st base))))) :
    W p l e R s m args below meth c H locs cells slots Q (F0 m pc ls (sk.map (sm_v (sm_ad st base)))) := by
    dsimp only [sm_step] at hs
    split at hs
    · rename_i x hx9
      cases hs
      exact lv_lload hx hb hdg (sm_ld_at hl hx9) (k _ _ _ _ _ hl hP hS hc1 hc2)
    · cases hs
set_option maxHeartbeats 1000000 in
theorem sn_aload_n {p : Program} {l : Launch} {e : Env} {R : Room} {s : State} {m : MethodId} {args : Array Value} {below : List Frame} {meth : Method} {c : Code} {H : Heap} {locs : List Loc} {cells slots : Nat} {Q : State → Prop} {cc : ByteArray} {nL n0 z0 d base : Nat} {st : Nat → Nat} {cA : Nat → ClassId} {D : va_G} {cl : List vw_C} {Cq own : String} {cq : Nat} {RO : List (Nat × (Nat → Int32))} {SF : List (String × String × String × Nat)} {Ts : List Jvm.Cond} {tyc : Nat → Nat → FieldType} {NV : Nat → List Value} {lk : Nat → Option sm_L} {ini : Bool} {n : Fin 4}
    (hx : p.tables.exec = Jvm.exec) (hb : c.code = cc) (hml : c.maxLocals = nL) (hown : s.vm.findClass own = some m.cls) (hts : ∀ w ∈ Ts, w.before args s = true) (hok : ∀ ix q, lk ix = some q → sm_okL cl tyc SF Cq Ts own ix q) (hcl : sm_okC cl tyc NV Ts) (hcq : ∃ r : vw_C, cl[cq]? = some r ∧ r.1 = Cq)
    (hini : ini = true → meth.name = "<init>") (hE : sm_env D cl cA Cq RO SF st base s s.heap) (hb0 : s.heap.size = base + n0) (hd : d ≤ R.frames) (hdl : d * 100 ≤ R.locals) (har : ∀ q t, sm_aty q = some t → Jvm.Cond.arrayClass (newarray.typeOf q) ∈ Ts)
    {len pc pc' : Nat} {lv lv' : sm_V} {sk sk' : List Value} {h h' : sm_H} {ls : Array Slot} (hdg : decode cc pc = .ok ((.aload_n n), sm_len (.aload_n n) len)) (hl : lv_has ls nL (sm_lv (sm_ad st base) lv)) (hP : va_P D cl (sm_w (sm_ad st base) cA base h) H) (hS : va_S (fun q => base ≤ q) s.heap H locs) (hc1 : n0 + cells = h.length) (hc2 : z0 + slots = sm_sz h)
    (hm1 : h'.length ≤ n0 + R.cells) (hm2 : sm_sz h' ≤ z0 + R.slots) (hs : sm_step lk RO NV cq ini nL d (.aload_n n) pc lv sk h = some (pc', lv', sk', h'))
    (k : ∀ (ls' : Array Slot) (H' : Heap) (locs' : List Loc) (cells' slots' : Nat), lv_has ls' nL (sm_lv (sm_ad st base) lv') → va_P D cl (sm_w (sm_ad st base) cA base h') H' → va_S (fun q => base ≤ q) s.heap H' locs' → n0 + cells' = h'.length → z0 + slots' = sm_sz h' → W p l e R s m args below meth c H' locs' cells' slots' Q (F0 m pc' ls' (sk'.map (sm_v (sm_ad st base))))) :
    W p l e R s m args below meth c H locs cells slots Q (F0 m pc ls (sk.map (sm_v (sm_ad st base)))) := by
    dsimp only [sm_step] at hs
    split at hs
    · rename_i x hx9
      cases hs
      exact lv_aload_n hx hb hdg rfl (sm_ld_at hl hx9) (k _ _ _ _ _ hl hP hS hc1 hc2)
    · cases hs
set_option maxHeartbeats 1000000 in
theorem sn_aload {p : Program} {l : Launch} {e : Env} {R : Room} {s : State} {m : MethodId} {args : Array Value} {below : List Frame} {meth : Method} {c : Code} {H : Heap} {locs : List Loc} {cells slots : Nat} {Q : State → Prop} {cc : ByteArray} {nL n0 z0 d base : Nat} {st : Nat → Nat} {cA : Nat → ClassId} {D : va_G} {cl : List vw_C} {Cq own : String} {cq : Nat} {RO : List (Nat × (Nat → Int32))} {SF : List (String × String × String × Nat)} {Ts : List Jvm.Cond} {tyc : Nat → Nat → FieldType} {NV : Nat → List Value} {lk : Nat → Option sm_L} {ini : Bool} {n : Nat}
    (hx : p.tables.exec = Jvm.exec) (hb : c.code = cc) (hml : c.maxLocals = nL) (hown : s.vm.findClass own = some m.cls) (hts : ∀ w ∈ Ts, w.before args s = true) (hok : ∀ ix q, lk ix = some q → sm_okL cl tyc SF Cq Ts own ix q) (hcl : sm_okC cl tyc NV Ts) (hcq : ∃ r : vw_C, cl[cq]? = some r ∧ r.1 = Cq)
    (hini : ini = true → meth.name = "<init>") (hE : sm_env D cl cA Cq RO SF st base s s.heap) (hb0 : s.heap.size = base + n0) (hd : d ≤ R.frames) (hdl : d * 100 ≤ R.locals) (har : ∀ q t, sm_aty q = some t → Jvm.Cond.arrayClass (newarray.typeOf q) ∈ Ts)
    {len pc pc' : Nat} {lv lv' : sm_V} {sk sk' : List Value} {h h' : sm_H} {ls : Array Slot} (hdg : decode cc pc = .ok ((.aload n), sm_len (.aload n) len)) (hl : lv_has ls nL (sm_lv (sm_ad st base) lv)) (hP : va_P D cl (sm_w (sm_ad st base) cA base h) H) (hS : va_S (fun q => base ≤ q) s.heap H locs) (hc1 : n0 + cells = h.length) (hc2 : z0 + slots = sm_sz h)
    (hm1 : h'.length ≤ n0 + R.cells) (hm2 : sm_sz h' ≤ z0 + R.slots) (hs : sm_step lk RO NV cq ini nL d (.aload n) pc lv sk h = some (pc', lv', sk', h'))
    (k : ∀ (ls' : Array Slot) (H' : Heap) (locs' : List Loc) (cells' slots' : Nat), lv_has ls' nL (sm_lv (sm_ad st base) lv') → va_P D cl (sm_w (sm_ad st base) cA base h') H' → va_S (fun q => base ≤ q) s.heap H' locs' → n0 + cells' = h'.length → z0 + slots' = sm_sz h' → W p l e R s m args below meth c H' locs' cells' slots' Q (F0 m pc' ls' (sk'.map (sm_v (sm_ad st base))))) :
    W p l e R s m args below meth c H locs cells slots Q (F0 m pc ls (sk.map (sm_v (sm_ad st base)))) := by
    dsimp only [sm_step] at hs
    split at hs
    · rename_i x hx9
      cases hs
      exact lv_aload hx hb hdg (sm_ld_at hl hx9) (k _ _ _ _ _ hl hP hS hc1 hc2)
    · cases hs
set_option maxHeartbeats 1000000 in
theorem sn_istore_n {p : Program} {l : Launch} {e : Env} {R : Room} {s : State} {m : MethodId} {args : Array Value} {below : List Frame} {meth : Method} {c : Code} {H : Heap} {locs : List Loc} {cells slots : Nat} {Q : State → Prop} {cc : ByteArray} {nL n0 z0 d base : Nat} {st : Nat → Nat} {cA : Nat → ClassId} {D : va_G} {cl : List vw_C} {Cq own : String} {cq : Nat} {RO : List (Nat × (Nat → Int32))} {SF : List (String × String × String × Nat)} {Ts : List Jvm.Cond} {tyc : Nat → Nat → FieldType} {NV : Nat → List Value} {lk : Nat → Option sm_L} {ini : Bool} {n : Fin 4}
    (hx : p.tables.exec = Jvm.exec) (hb : c.code = cc) (hml : c.maxLocals = nL) (hown : s.vm.findClass own = some m.cls) (hts : ∀ w ∈ Ts, w.before args s = true) (hok : ∀ ix q, lk ix = some q → sm_okL cl tyc SF Cq Ts own ix q) (hcl : sm_okC cl tyc NV Ts) (hcq : ∃ r : vw_C, cl[cq]? = some r ∧ r.1 = Cq)
    (hini : ini = true → meth.name = "<init>") (hE : sm_env D cl cA Cq RO SF st base s s.heap) (hb0 : s.heap.size = base + n0) (hd : d ≤ R.frames) (hdl : d * 100 ≤ R.locals) (har : ∀ q t, sm_aty q = some t → Jvm.Cond.arrayClass (newarray.typeOf q) ∈ Ts)
    {len pc pc' : Nat} {lv lv' : sm_V} {sk sk' : List Value} {h h' : sm_H} {ls : Array Slot} (hdg : decode cc pc = .ok ((.istore_n n), sm_len (.istore_n n) len)) (hl : lv_has ls nL (sm_lv (sm_ad st base) lv)) (hP : va_P D cl (sm_w (sm_ad st base) cA base h) H) (hS : va_S (fun q => base ≤ q) s.heap H locs) (hc1 : n0 + cells = h.length) (hc2 : z0 + slots = sm_sz h)
    (hm1 : h'.length ≤ n0 + R.cells) (hm2 : sm_sz h' ≤ z0 + R.slots) (hs : sm_step lk RO NV cq ini nL d (.istore_n n) pc lv sk h = some (pc', lv', sk', h'))
    (k : ∀ (ls' : Array Slot) (H' : Heap) (locs' : List Loc) (cells' slots' : Nat), lv_has ls' nL (sm_lv (sm_ad st base) lv') → va_P D cl (sm_w (sm_ad st base) cA base h') H' → va_S (fun q => base ≤ q) s.heap H' locs' → n0 + cells' = h'.length → z0 + slots' = sm_sz h' → W p l e R s m args below meth c H' locs' cells' slots' Q (F0 m pc' ls' (sk'.map (sm_v (sm_ad st base))))) :
    W p l e R s m args below meth c H locs cells slots Q (F0 m pc ls (sk.map (sm_v (sm_ad st base)))) := by
    have hs1 := sm_i1_eq hs
    clear hs
    obtain ⟨x, r, e0, hs⟩ := hs1
    subst e0
    split at hs
    · rename_i hn
      cases hs
      exact lv_istore_n hx hb hdg rfl hl hn (sm_s1_map _ _ _ (.int x)) (fun ls' hl' => k _ _ _ _ _ hl' hP hS hc1 hc2)
    · cases hs
set_option maxHeartbeats 1000000 in
theorem sn_istore {p : Program} {l : Launch} {e : Env} {R : Room} {s : State} {m : MethodId} {args : Array Value} {below : List Frame} {meth : Method} {c : Code} {H : Heap} {locs : List Loc} {cells slots : Nat} {Q : State → Prop} {cc : ByteArray} {nL n0 z0 d base : Nat} {st : Nat → Nat} {cA : Nat → ClassId} {D : va_G} {cl : List vw_C} {Cq own : String} {cq : Nat} {RO : List (Nat × (Nat → Int32))} {SF : List (String × String × String × Nat)} {Ts : List Jvm.Cond} {tyc : Nat → Nat → FieldType} {NV : Nat → List Value} {lk : Nat → Option sm_L} {ini : Bool} {n : Nat}
    (hx : p.tables.exec = Jvm.exec) (hb : c.code = cc) (hml : c.maxLocals = nL) (hown : s.vm.findClass own = some m.cls) (hts : ∀ w ∈ Ts, w.before args s = true) (hok : ∀ ix q, lk ix = some q → sm_okL cl tyc SF Cq Ts own ix q) (hcl : sm_okC cl tyc NV Ts) (hcq : ∃ r : vw_C, cl[cq]? = some r ∧ r.1 = Cq)
    (hini : ini = true → meth.name = "<init>") (hE : sm_env D cl cA Cq RO SF st base s s.heap) (hb0 : s.heap.size = base + n0) (hd : d ≤ R.frames) (hdl : d * 100 ≤ R.locals) (har : ∀ q t, sm_aty q = some t → Jvm.Cond.arrayClass (newarray.typeOf q) ∈ Ts)
    {len pc pc' : Nat} {lv lv' : sm_V} {sk sk' : List Value} {h h' : sm_H} {ls : Array Slot} (hdg : decode cc pc = .ok ((.istore n), sm_len (.istore n) len)) (hl : lv_has ls nL (sm_lv (sm_ad st base) lv)) (hP : va_P D cl (sm_w (sm_ad st base) cA base h) H) (hS : va_S (fun q => base ≤ q) s.heap H locs) (hc1 : n0 + cells = h.length) (hc2 : z0 + slots = sm_sz h)
    (hm1 : h'.length ≤ n0 + R.cells) (hm2 : sm_sz h' ≤ z0 + R.slots) (hs : sm_step lk RO NV cq ini nL d (.istore n) pc lv sk h = some (pc', lv', sk', h'))
    (k : ∀ (ls' : Array Slot) (H' : Heap) (locs' : List Loc) (cells' slots' : Nat), lv_has ls' nL (sm_lv (sm_ad st base) lv') → va_P D cl (sm_w (sm_ad st base) cA base h') H' → va_S (fun q => base ≤ q) s.heap H' locs' → n0 + cells' = h'.length → z0 + slots' = sm_sz h' → W p l e R s m args below meth c H' locs' cells' slots' Q (F0 m pc' ls' (sk'.map (sm_v (sm_ad st base))))) :
    W p l e R s m args below meth c H locs cells slots Q (F0 m pc ls (sk.map (sm_v (sm_ad st base)))) := by
    have hs1 := sm_i1_eq hs
    clear hs
    obtain ⟨x, r, e0, hs⟩ := hs1
    subst e0
    split at hs
    · rename_i hn
      cases hs
      exact lv_istore hx hb hdg hl hn (sm_s1_map _ _ _ (.int x)) (fun ls' hl' => k _ _ _ _ _ hl' hP hS hc1 hc2)
    · cases hs
set_option maxHeartbeats 1000000 in
theorem sn_lstore_n {p : Program} {l : Launch} {e : Env} {R : Room} {s : State} {m : MethodId} {args : Array Value} {below : List Frame} {meth : Method} {c : Code} {H : Heap} {locs : List Loc} {cells slots : Nat} {Q : State → Prop} {cc : ByteArray} {nL n0 z0 d base : Nat} {st : Nat → Nat} {cA : Nat → ClassId} {D : va_G} {cl : List vw_C} {Cq own : String} {cq : Nat} {RO : List (Nat × (Nat → Int32))} {SF : List (String × String × String × Nat)} {Ts : List Jvm.Cond} {tyc : Nat → Nat → FieldType} {NV : Nat → List Value} {lk : Nat → Option sm_L} {ini : Bool} {n : Fin 4}
    (hx : p.tables.exec = Jvm.exec) (hb : c.code = cc) (hml : c.maxLocals = nL) (hown : s.vm.findClass own = some m.cls) (hts : ∀ w ∈ Ts, w.before args s = true) (hok : ∀ ix q, lk ix = some q → sm_okL cl tyc SF Cq Ts own ix q) (hcl : sm_okC cl tyc NV Ts) (hcq : ∃ r : vw_C, cl[cq]? = some r ∧ r.1 = Cq)
    (hini : ini = true → meth.name = "<init>") (hE : sm_env D cl cA Cq RO SF st base s s.heap) (hb0 : s.heap.size = base + n0) (hd : d ≤ R.frames) (hdl : d * 100 ≤ R.locals) (har : ∀ q t, sm_aty q = some t → Jvm.Cond.arrayClass (newarray.typeOf q) ∈ Ts)
    {len pc pc' : Nat} {lv lv' : sm_V} {sk sk' : List Value} {h h' : sm_H} {ls : Array Slot} (hdg : decode cc pc = .ok ((.lstore_n n), sm_len (.lstore_n n) len)) (hl : lv_has ls nL (sm_lv (sm_ad st base) lv)) (hP : va_P D cl (sm_w (sm_ad st base) cA base h) H) (hS : va_S (fun q => base ≤ q) s.heap H locs) (hc1 : n0 + cells = h.length) (hc2 : z0 + slots = sm_sz h)
    (hm1 : h'.length ≤ n0 + R.cells) (hm2 : sm_sz h' ≤ z0 + R.slots) (hs : sm_step lk RO NV cq ini nL d (.lstore_n n) pc lv sk h = some (pc', lv', sk', h'))
    (k : ∀ (ls' : Array Slot) (H' : Heap) (locs' : List Loc) (cells' slots' : Nat), lv_has ls' nL (sm_lv (sm_ad st base) lv') → va_P D cl (sm_w (sm_ad st base) cA base h') H' → va_S (fun q => base ≤ q) s.heap H' locs' → n0 + cells' = h'.length → z0 + slots' = sm_sz h' → W p l e R s m args below meth c H' locs' cells' slots' Q (F0 m pc' ls' (sk'.map (sm_v (sm_ad st base))))) :
    W p l e R s m args below meth c H locs cells slots Q (F0 m pc ls (sk.map (sm_v (sm_ad st base)))) := by
    have hs1 := sm_l1_eq hs
    clear hs
    obtain ⟨x, r, e0, hs⟩ := hs1
    subst e0
    split at hs
    · rename_i hn
      cases hs
      exact lv_lstore_n hx hb hdg rfl hl hn (sm_s2_map _ _ _ (.long x)) (fun ls' hl' => k _ _ _ _ _ hl' hP hS hc1 hc2)
    · cases hs
set_option maxHeartbeats 1000000 in
theorem sn_lstore {p : Program} {l : Launch} {e : Env} {R : Room} {s : State} {m : MethodId} {args : Array Value} {below : List Frame} {meth : Method} {c : Code} {H : Heap} {locs : List Loc} {cells slots : Nat} {Q : State → Prop} {cc : ByteArray} {nL n0 z0 d base : Nat} {st : Nat → Nat} {cA : Nat → ClassId} {D : va_G} {cl : List vw_C} {Cq own : String} {cq : Nat} {RO : List (Nat × (Nat → Int32))} {SF : List (String × String × String × Nat)} {Ts : List Jvm.Cond} {tyc : Nat → Nat → FieldType} {NV : Nat → List Value} {lk : Nat → Option sm_L} {ini : Bool} {n : Nat}
    (hx : p.tables.exec = Jvm.exec) (hb : c.code = cc) (hml : c.maxLocals = nL) (hown : s.vm.findClass own = some m.cls) (hts : ∀ w ∈ Ts, w.before args s = true) (hok : ∀ ix q, lk ix = some q → sm_okL cl tyc SF Cq Ts own ix q) (hcl : sm_okC cl tyc NV Ts) (hcq : ∃ r : vw_C, cl[cq]? = some r ∧ r.1 = Cq)
    (hini : ini = true → meth.name = "<init>") (hE : sm_env D cl cA Cq RO SF st base s s.heap) (hb0 : s.heap.size = base + n0) (hd : d ≤ R.frames) (hdl : d * 100 ≤ R.locals) (har : ∀ q t, sm_aty q = some t → Jvm.Cond.arrayClass (newarray.typeOf q) ∈ Ts)
    {len pc pc' : Nat} {lv lv' : sm_V} {sk sk' : List Value} {h h' : sm_H} {ls : Array Slot} (hdg : decode cc pc = .ok ((.lstore n), sm_len (.lstore n) len)) (hl : lv_has ls nL (sm_lv (sm_ad st base) lv)) (hP : va_P D cl (sm_w (sm_ad st base) cA base h) H) (hS : va_S (fun q => base ≤ q) s.heap H locs) (hc1 : n0 + cells = h.length) (hc2 : z0 + slots = sm_sz h)
    (hm1 : h'.length ≤ n0 + R.cells) (hm2 : sm_sz h' ≤ z0 + R.slots) (hs : sm_step lk RO NV cq ini nL d (.lstore n) pc lv sk h = some (pc', lv', sk', h'))
    (k : ∀ (ls' : Array Slot) (H' : Heap) (locs' : List Loc) (cells' slots' : Nat), lv_has ls' nL (sm_lv (sm_ad st base) lv') → va_P D cl (sm_w (sm_ad st base) cA base h') H' → va_S (fun q => base ≤ q) s.heap H' locs' → n0 + cells' = h'.length → z0 + slots' = sm_sz h' → W p l e R s m args below meth c H' locs' cells' slots' Q (F0 m pc' ls' (sk'.map (sm_v (sm_ad st base))))) :
    W p l e R s m args below meth c H locs cells slots Q (F0 m pc ls (sk.map (sm_v (sm_ad st base)))) := by
    have hs1 := sm_l1_eq hs
    clear hs
    obtain ⟨x, r, e0, hs⟩ := hs1
    subst e0
    split at hs
    · rename_i hn
      cases hs
      exact lv_lstore hx hb hdg hl hn (sm_s2_map _ _ _ (.long x)) (fun ls' hl' => k _ _ _ _ _ hl' hP hS hc1 hc2)
    · cases hs
set_option maxHeartbeats 1000000 in
theorem sn_astore_n {p : Program} {l : Launch} {e : Env} {R : Room} {s : State} {m : MethodId} {args : Array Value} {below : List Frame} {meth : Method} {c : Code} {H : Heap} {locs : List Loc} {cells slots : Nat} {Q : State → Prop} {cc : ByteArray} {nL n0 z0 d base : Nat} {st : Nat → Nat} {cA : Nat → ClassId} {D : va_G} {cl : List vw_C} {Cq own : String} {cq : Nat} {RO : List (Nat × (Nat → Int32))} {SF : List (String × String × String × Nat)} {Ts : List Jvm.Cond} {tyc : Nat → Nat → FieldType} {NV : Nat → List Value} {lk : Nat → Option sm_L} {ini : Bool} {n : Fin 4}
    (hx : p.tables.exec = Jvm.exec) (hb : c.code = cc) (hml : c.maxLocals = nL) (hown : s.vm.findClass own = some m.cls) (hts : ∀ w ∈ Ts, w.before args s = true) (hok : ∀ ix q, lk ix = some q → sm_okL cl tyc SF Cq Ts own ix q) (hcl : sm_okC cl tyc NV Ts) (hcq : ∃ r : vw_C, cl[cq]? = some r ∧ r.1 = Cq)
    (hini : ini = true → meth.name = "<init>") (hE : sm_env D cl cA Cq RO SF st base s s.heap) (hb0 : s.heap.size = base + n0) (hd : d ≤ R.frames) (hdl : d * 100 ≤ R.locals) (har : ∀ q t, sm_aty q = some t → Jvm.Cond.arrayClass (newarray.typeOf q) ∈ Ts)
    {len pc pc' : Nat} {lv lv' : sm_V} {sk sk' : List Value} {h h' : sm_H} {ls : Array Slot} (hdg : decode cc pc = .ok ((.astore_n n), sm_len (.astore_n n) len)) (hl : lv_has ls nL (sm_lv (sm_ad st base) lv)) (hP : va_P D cl (sm_w (sm_ad st base) cA base h) H) (hS : va_S (fun q => base ≤ q) s.heap H locs) (hc1 : n0 + cells = h.length) (hc2 : z0 + slots = sm_sz h)
    (hm1 : h'.length ≤ n0 + R.cells) (hm2 : sm_sz h' ≤ z0 + R.slots) (hs : sm_step lk RO NV cq ini nL d (.astore_n n) pc lv sk h = some (pc', lv', sk', h'))
    (k : ∀ (ls' : Array Slot) (H' : Heap) (locs' : List Loc) (cells' slots' : Nat), lv_has ls' nL (sm_lv (sm_ad st base) lv') → va_P D cl (sm_w (sm_ad st base) cA base h') H' → va_S (fun q => base ≤ q) s.heap H' locs' → n0 + cells' = h'.length → z0 + slots' = sm_sz h' → W p l e R s m args below meth c H' locs' cells' slots' Q (F0 m pc' ls' (sk'.map (sm_v (sm_ad st base))))) :
    W p l e R s m args below meth c H locs cells slots Q (F0 m pc ls (sk.map (sm_v (sm_ad st base)))) := by
    have hs1 := sm_r1_eq hs
    clear hs
    obtain ⟨x, r, e0, hs⟩ := hs1
    subst e0
    split at hs
    · rename_i hn
      cases hs
      exact lv_astore_n hx hb hdg rfl hl hn (sm_s1_map _ _ _ (.ref x)) (fun ls' hl' => k _ _ _ _ _ hl' hP hS hc1 hc2)
    · cases hs
set_option maxHeartbeats 1000000 in
theorem sn_astore {p : Program} {l : Launch} {e : Env} {R : Room} {s : State} {m : MethodId} {args : Array Value} {below : List Frame} {meth : Method} {c : Code} {H : Heap} {locs : List Loc} {cells slots : Nat} {Q : State → Prop} {cc : ByteArray} {nL n0 z0 d base : Nat} {st : Nat → Nat} {cA : Nat → ClassId} {D : va_G} {cl : List vw_C} {Cq own : String} {cq : Nat} {RO : List (Nat × (Nat → Int32))} {SF : List (String × String × String × Nat)} {Ts : List Jvm.Cond} {tyc : Nat → Nat → FieldType} {NV : Nat → List Value} {lk : Nat → Option sm_L} {ini : Bool} {n : Nat}
    (hx : p.tables.exec = Jvm.exec) (hb : c.code = cc) (hml : c.maxLocals = nL) (hown : s.vm.findClass own = some m.cls) (hts : ∀ w ∈ Ts, w.before args s = true) (hok : ∀ ix q, lk ix = some q → sm_okL cl tyc SF Cq Ts own ix q) (hcl : sm_okC cl tyc NV Ts) (hcq : ∃ r : vw_C, cl[cq]? = some r ∧ r.1 = Cq)
    (hini : ini = true → meth.name = "<init>") (hE : sm_env D cl cA Cq RO SF st base s s.heap) (hb0 : s.heap.size = base + n0) (hd : d ≤ R.frames) (hdl : d * 100 ≤ R.locals) (har : ∀ q t, sm_aty q = some t → Jvm.Cond.arrayClass (newarray.typeOf q) ∈ Ts)
    {len pc pc' : Nat} {lv lv' : sm_V} {sk sk' : List Value} {h h' : sm_H} {ls : Array Slot} (hdg : decode cc pc = .ok ((.astore n), sm_len (.astore n) len)) (hl : lv_has ls nL (sm_lv (sm_ad st base) lv)) (hP : va_P D cl (sm_w (sm_ad st base) cA base h) H) (hS : va_S (fun q => base ≤ q) s.heap H locs) (hc1 : n0 + cells = h.length) (hc2 : z0 + slots = sm_sz h)
    (hm1 : h'.length ≤ n0 + R.cells) (hm2 : sm_sz h' ≤ z0 + R.slots) (hs : sm_step lk RO NV cq ini nL d (.astore n) pc lv sk h = some (pc', lv', sk', h'))
    (k : ∀ (ls' : Array Slot) (H' : Heap) (locs' : List Loc) (cells' slots' : Nat), lv_has ls' nL (sm_lv (sm_ad st base) lv') → va_P D cl (sm_w (sm_ad st base) cA base h') H' → va_S (fun q => base ≤ q) s.heap H' locs' → n0 + cells' = h'.length → z0 + slots' = sm_sz h' → W p l e R s m args below meth c H' locs' cells' slots' Q (F0 m pc' ls' (sk'.map (sm_v (sm_ad st base))))) :
    W p l e R s m args below meth c H locs cells slots Q (F0 m pc ls (sk.map (sm_v (sm_ad st base)))) := by
    have hs1 := sm_r1_eq hs
    clear hs
    obtain ⟨x, r, e0, hs⟩ := hs1
    subst e0
    split at hs
    · rename_i hn
      cases hs
      exact lv_astore hx hb hdg hl hn (sm_s1_map _ _ _ (.ref x)) (fun ls' hl' => k _ _ _ _ _ hl' hP hS hc1 hc2)
    · cases hs
set_option maxHeartbeats 1000000 in
theorem sn_iinc {p : Program} {l : Launch} {e : Env} {R : Room} {s : State} {m : MethodId} {args : Array Value} {below : List Frame} {meth : Method} {c : Code} {H : Heap} {locs : List Loc} {cells slots : Nat} {Q : State → Prop} {cc : ByteArray} {nL n0 z0 d base : Nat} {st : Nat → Nat} {cA : Nat → ClassId} {D : va_G} {cl : List vw_C} {Cq own : String} {cq : Nat} {RO : List (Nat × (Nat → Int32))} {SF : List (String × String × String × Nat)} {Ts : List Jvm.Cond} {tyc : Nat → Nat → FieldType} {NV : Nat → List Value} {lk : Nat → Option sm_L} {ini : Bool} {i : Nat} {n : Int}
    (hx : p.tables.exec = Jvm.exec) (hb : c.code = cc) (hml : c.maxLocals = nL) (hown : s.vm.findClass own = some m.cls) (hts : ∀ w ∈ Ts, w.before args s = true) (hok : ∀ ix q, lk ix = some q → sm_okL cl tyc SF Cq Ts own ix q) (hcl : sm_okC cl tyc NV Ts) (hcq : ∃ r : vw_C, cl[cq]? = some r ∧ r.1 = Cq)
    (hini : ini = true → meth.name = "<init>") (hE : sm_env D cl cA Cq RO SF st base s s.heap) (hb0 : s.heap.size = base + n0) (hd : d ≤ R.frames) (hdl : d * 100 ≤ R.locals) (har : ∀ q t, sm_aty q = some t → Jvm.Cond.arrayClass (newarray.typeOf q) ∈ Ts)
    {len pc pc' : Nat} {lv lv' : sm_V} {sk sk' : List Value} {h h' : sm_H} {ls : Array Slot} (hdg : decode cc pc = .ok ((.iinc i n), sm_len (.iinc i n) len)) (hl : lv_has ls nL (sm_lv (sm_ad st base) lv)) (hP : va_P D cl (sm_w (sm_ad st base) cA base h) H) (hS : va_S (fun q => base ≤ q) s.heap H locs) (hc1 : n0 + cells = h.length) (hc2 : z0 + slots = sm_sz h)
    (hm1 : h'.length ≤ n0 + R.cells) (hm2 : sm_sz h' ≤ z0 + R.slots) (hs : sm_step lk RO NV cq ini nL d (.iinc i n) pc lv sk h = some (pc', lv', sk', h'))
    (k : ∀ (ls' : Array Slot) (H' : Heap) (locs' : List Loc) (cells' slots' : Nat), lv_has ls' nL (sm_lv (sm_ad st base) lv') → va_P D cl (sm_w (sm_ad st base) cA base h') H' → va_S (fun q => base ≤ q) s.heap H' locs' → n0 + cells' = h'.length → z0 + slots' = sm_sz h' → W p l e R s m args below meth c H' locs' cells' slots' Q (F0 m pc' ls' (sk'.map (sm_v (sm_ad st base))))) :
    W p l e R s m args below meth c H locs cells slots Q (F0 m pc ls (sk.map (sm_v (sm_ad st base)))) := by
    dsimp only [sm_step] at hs
    split at hs
    · rename_i x hx9
      split at hs
      · rename_i hn
        cases hs
        obtain ⟨j, hj⟩ := List.mem_iff_getElem?.mp (List.mem_map.mpr ⟨(i, .int x), sm_ld_mem hx9, rfl⟩ : (i, .int x) ∈ sm_lv (sm_ad st base) lv)
        exact lv_iinc hx hb hdg hl hj rfl hn (sm_s1_map _ _ _ (.int (x + Int32.ofInt n))) (fun ls' hl' => k _ _ _ _ _ hl' hP hS hc1 hc2)
      · cases hs
    · cases hs
set_option maxHeartbeats 1000000 in
theorem sn_iadd {p : Program} {l : Launch} {e : Env} {R : Room} {s : State} {m : MethodId} {args : Array Value} {below : List Frame} {meth : Method} {c : Code} {H : Heap} {locs : List Loc} {cells slots : Nat} {Q : State → Prop} {cc : ByteArray} {nL n0 z0 d base : Nat} {st : Nat → Nat} {cA : Nat → ClassId} {D : va_G} {cl : List vw_C} {Cq own : String} {cq : Nat} {RO : List (Nat × (Nat → Int32))} {SF : List (String × String × String × Nat)} {Ts : List Jvm.Cond} {tyc : Nat → Nat → FieldType} {NV : Nat → List Value} {lk : Nat → Option sm_L} {ini : Bool} 
    (hx : p.tables.exec = Jvm.exec) (hb : c.code = cc) (hml : c.maxLocals = nL) (hown : s.vm.findClass own = some m.cls) (hts : ∀ w ∈ Ts, w.before args s = true) (hok : ∀ ix q, lk ix = some q → sm_okL cl tyc SF Cq Ts own ix q) (hcl : sm_okC cl tyc NV Ts) (hcq : ∃ r : vw_C, cl[cq]? = some r ∧ r.1 = Cq)
    (hini : ini = true → meth.name = "<init>") (hE : sm_env D cl cA Cq RO SF st base s s.heap) (hb0 : s.heap.size = base + n0) (hd : d ≤ R.frames) (hdl : d * 100 ≤ R.locals) (har : ∀ q t, sm_aty q = some t → Jvm.Cond.arrayClass (newarray.typeOf q) ∈ Ts)
    {len pc pc' : Nat} {lv lv' : sm_V} {sk sk' : List Value} {h h' : sm_H} {ls : Array Slot} (hdg : decode cc pc = .ok (.iadd, sm_len .iadd len)) (hl : lv_has ls nL (sm_lv (sm_ad st base) lv)) (hP : va_P D cl (sm_w (sm_ad st base) cA base h) H) (hS : va_S (fun q => base ≤ q) s.heap H locs) (hc1 : n0 + cells = h.length) (hc2 : z0 + slots = sm_sz h)
    (hm1 : h'.length ≤ n0 + R.cells) (hm2 : sm_sz h' ≤ z0 + R.slots) (hs : sm_step lk RO NV cq ini nL d .iadd pc lv sk h = some (pc', lv', sk', h'))
    (k : ∀ (ls' : Array Slot) (H' : Heap) (locs' : List Loc) (cells' slots' : Nat), lv_has ls' nL (sm_lv (sm_ad st base) lv') → va_P D cl (sm_w (sm_ad st base) cA base h') H' → va_S (fun q => base ≤ q) s.heap H' locs' → n0 + cells' = h'.length → z0 + slots' = sm_sz h' → W p l e R s m args below meth c H' locs' cells' slots' Q (F0 m pc' ls' (sk'.map (sm_v (sm_ad st base))))) :
    W p l e R s m args below meth c H locs cells slots Q (F0 m pc ls (sk.map (sm_v (sm_ad st base)))) := by
    have hs1 := sm_i2_eq hs
    clear hs
    obtain ⟨x, y, r, e0, hs⟩ := hs1
    subst e0
    cases hs
    exact lv_iadd hx hb hdg (k _ _ _ _ _ hl hP hS hc1 hc2)
set_option maxHeartbeats 1000000 in
theorem sn_isub {p : Program} {l : Launch} {e : Env} {R : Room} {s : State} {m : MethodId} {args : Array Value} {below : List Frame} {meth : Method} {c : Code} {H : Heap} {locs : List Loc} {cells slots : Nat} {Q : State → Prop} {cc : ByteArray} {nL n0 z0 d base : Nat} {st : Nat → Nat} {cA : Nat → ClassId} {D : va_G} {cl : List vw_C} {Cq own : String} {cq : Nat} {RO : List (Nat × (Nat → Int32))} {SF : List (String × String × String × Nat)} {Ts : List Jvm.Cond} {tyc : Nat → Nat → FieldType} {NV : Nat → List Value} {lk : Nat → Option sm_L} {ini : Bool} 
    (hx : p.tables.exec = Jvm.exec) (hb : c.code = cc) (hml : c.maxLocals = nL) (hown : s.vm.findClass own = some m.cls) (hts : ∀ w ∈ Ts, w.before args s = true) (hok : ∀ ix q, lk ix = some q → sm_okL cl tyc SF Cq Ts own ix q) (hcl : sm_okC cl tyc NV Ts) (hcq : ∃ r : vw_C, cl[cq]? = some r ∧ r.1 = Cq)
    (hini : ini = true → meth.name = "<init>") (hE : sm_env D cl cA Cq RO SF st base s s.heap) (hb0 : s.heap.size = base + n0) (hd : d ≤ R.frames) (hdl : d * 100 ≤ R.locals) (har : ∀ q t, sm_aty q = some t → Jvm.Cond.arrayClass (newarray.typeOf q) ∈ Ts)
    {len pc pc' : Nat} {lv lv' : sm_V} {sk sk' : List Value} {h h' : sm_H} {ls : Array Slot} (hdg : decode cc pc = .ok (.isub, sm_len .isub len)) (hl : lv_has ls nL (sm_lv (sm_ad st base) lv)) (hP : va_P D cl (sm_w (sm_ad st base) cA base h) H) (hS : va_S (fun q => base ≤ q) s.heap H locs) (hc1 : n0 + cells = h.length) (hc2 : z0 + slots = sm_sz h)
    (hm1 : h'.length ≤ n0 + R.cells) (hm2 : sm_sz h' ≤ z0 + R.slots) (hs : sm_step lk RO NV cq ini nL d .isub pc lv sk h = some (pc', lv', sk', h'))
    (k : ∀ (ls' : Array Slot) (H' : Heap) (locs' : List Loc) (cells' slots' : Nat), lv_has ls' nL (sm_lv (sm_ad st base) lv') → va_P D cl (sm_w (sm_ad st base) cA base h') H' → va_S (fun q => base ≤ q) s.heap H' locs' → n0 + cells' = h'.length → z0 + slots' = sm_sz h' → W p l e R s m args below meth c H' locs' cells' slots' Q (F0 m pc' ls' (sk'.map (sm_v (sm_ad st base))))) :
    W p l e R s m args below meth c H locs cells slots Q (F0 m pc ls (sk.map (sm_v (sm_ad st base)))) := by
    have hs1 := sm_i2_eq hs
    clear hs
    obtain ⟨x, y, r, e0, hs⟩ := hs1
    subst e0
    cases hs
    exact lv_isub hx hb hdg (k _ _ _ _ _ hl hP hS hc1 hc2)
set_option maxHeartbeats 1000000 in
theorem sn_imul {p : Program} {l : Launch} {e : Env} {R : Room} {s : State} {m : MethodId} {args : Array Value} {below : List Frame} {meth : Method} {c : Code} {H : Heap} {locs : List Loc} {cells slots : Nat} {Q : State → Prop} {cc : ByteArray} {nL n0 z0 d base : Nat} {st : Nat → Nat} {cA : Nat → ClassId} {D : va_G} {cl : List vw_C} {Cq own : String} {cq : Nat} {RO : List (Nat × (Nat → Int32))} {SF : List (String × String × String × Nat)} {Ts : List Jvm.Cond} {tyc : Nat → Nat → FieldType} {NV : Nat → List Value} {lk : Nat → Option sm_L} {ini : Bool} 
    (hx : p.tables.exec = Jvm.exec) (hb : c.code = cc) (hml : c.maxLocals = nL) (hown : s.vm.findClass own = some m.cls) (hts : ∀ w ∈ Ts, w.before args s = true) (hok : ∀ ix q, lk ix = some q → sm_okL cl tyc SF Cq Ts own ix q) (hcl : sm_okC cl tyc NV Ts) (hcq : ∃ r : vw_C, cl[cq]? = some r ∧ r.1 = Cq)
    (hini : ini = true → meth.name = "<init>") (hE : sm_env D cl cA Cq RO SF st base s s.heap) (hb0 : s.heap.size = base + n0) (hd : d ≤ R.frames) (hdl : d * 100 ≤ R.locals) (har : ∀ q t, sm_aty q = some t → Jvm.Cond.arrayClass (newarray.typeOf q) ∈ Ts)
    {len pc pc' : Nat} {lv lv' : sm_V} {sk sk' : List Value} {h h' : sm_H} {ls : Array Slot} (hdg : decode cc pc = .ok (.imul, sm_len .imul len)) (hl : lv_has ls nL (sm_lv (sm_ad st base) lv)) (hP : va_P D cl (sm_w (sm_ad st base) cA base h) H) (hS : va_S (fun q => base ≤ q) s.heap H locs) (hc1 : n0 + cells = h.length) (hc2 : z0 + slots = sm_sz h)
    (hm1 : h'.length ≤ n0 + R.cells) (hm2 : sm_sz h' ≤ z0 + R.slots) (hs : sm_step lk RO NV cq ini nL d .imul pc lv sk h = some (pc', lv', sk', h'))
    (k : ∀ (ls' : Array Slot) (H' : Heap) (locs' : List Loc) (cells' slots' : Nat), lv_has ls' nL (sm_lv (sm_ad st base) lv') → va_P D cl (sm_w (sm_ad st base) cA base h') H' → va_S (fun q => base ≤ q) s.heap H' locs' → n0 + cells' = h'.length → z0 + slots' = sm_sz h' → W p l e R s m args below meth c H' locs' cells' slots' Q (F0 m pc' ls' (sk'.map (sm_v (sm_ad st base))))) :
    W p l e R s m args below meth c H locs cells slots Q (F0 m pc ls (sk.map (sm_v (sm_ad st base)))) := by
    have hs1 := sm_i2_eq hs
    clear hs
    obtain ⟨x, y, r, e0, hs⟩ := hs1
    subst e0
    cases hs
    exact lv_imul hx hb hdg (k _ _ _ _ _ hl hP hS hc1 hc2)
set_option maxHeartbeats 1000000 in
theorem sn_iand {p : Program} {l : Launch} {e : Env} {R : Room} {s : State} {m : MethodId} {args : Array Value} {below : List Frame} {meth : Method} {c : Code} {H : Heap} {locs : List Loc} {cells slots : Nat} {Q : State → Prop} {cc : ByteArray} {nL n0 z0 d base : Nat} {st : Nat → Nat} {cA : Nat → ClassId} {D : va_G} {cl : List vw_C} {Cq own : String} {cq : Nat} {RO : List (Nat × (Nat → Int32))} {SF : List (String × String × String × Nat)} {Ts : List Jvm.Cond} {tyc : Nat → Nat → FieldType} {NV : Nat → List Value} {lk : Nat → Option sm_L} {ini : Bool} 
    (hx : p.tables.exec = Jvm.exec) (hb : c.code = cc) (hml : c.maxLocals = nL) (hown : s.vm.findClass own = some m.cls) (hts : ∀ w ∈ Ts, w.before args s = true) (hok : ∀ ix q, lk ix = some q → sm_okL cl tyc SF Cq Ts own ix q) (hcl : sm_okC cl tyc NV Ts) (hcq : ∃ r : vw_C, cl[cq]? = some r ∧ r.1 = Cq)
    (hini : ini = true → meth.name = "<init>") (hE : sm_env D cl cA Cq RO SF st base s s.heap) (hb0 : s.heap.size = base + n0) (hd : d ≤ R.frames) (hdl : d * 100 ≤ R.locals) (har : ∀ q t, sm_aty q = some t → Jvm.Cond.arrayClass (newarray.typeOf q) ∈ Ts)
    {len pc pc' : Nat} {lv lv' : sm_V} {sk sk' : List Value} {h h' : sm_H} {ls : Array Slot} (hdg : decode cc pc = .ok (.iand, sm_len .iand len)) (hl : lv_has ls nL (sm_lv (sm_ad st base) lv)) (hP : va_P D cl (sm_w (sm_ad st base) cA base h) H) (hS : va_S (fun q => base ≤ q) s.heap H locs) (hc1 : n0 + cells = h.length) (hc2 : z0 + slots = sm_sz h)
    (hm1 : h'.length ≤ n0 + R.cells) (hm2 : sm_sz h' ≤ z0 + R.slots) (hs : sm_step lk RO NV cq ini nL d .iand pc lv sk h = some (pc', lv', sk', h'))
    (k : ∀ (ls' : Array Slot) (H' : Heap) (locs' : List Loc) (cells' slots' : Nat), lv_has ls' nL (sm_lv (sm_ad st base) lv') → va_P D cl (sm_w (sm_ad st base) cA base h') H' → va_S (fun q => base ≤ q) s.heap H' locs' → n0 + cells' = h'.length → z0 + slots' = sm_sz h' → W p l e R s m args below meth c H' locs' cells' slots' Q (F0 m pc' ls' (sk'.map (sm_v (sm_ad st base))))) :
    W p l e R s m args below meth c H locs cells slots Q (F0 m pc ls (sk.map (sm_v (sm_ad st base)))) := by
    have hs1 := sm_i2_eq hs
    clear hs
    obtain ⟨x, y, r, e0, hs⟩ := hs1
    subst e0
    cases hs
    exact lv_iand hx hb hdg (k _ _ _ _ _ hl hP hS hc1 hc2)
set_option maxHeartbeats 1000000 in
theorem sn_ior {p : Program} {l : Launch} {e : Env} {R : Room} {s : State} {m : MethodId} {args : Array Value} {below : List Frame} {meth : Method} {c : Code} {H : Heap} {locs : List Loc} {cells slots : Nat} {Q : State → Prop} {cc : ByteArray} {nL n0 z0 d base : Nat} {st : Nat → Nat} {cA : Nat → ClassId} {D : va_G} {cl : List vw_C} {Cq own : String} {cq : Nat} {RO : List (Nat × (Nat → Int32))} {SF : List (String × String × String × Nat)} {Ts : List Jvm.Cond} {tyc : Nat → Nat → FieldType} {NV : Nat → List Value} {lk : Nat → Option sm_L} {ini : Bool} 
    (hx : p.tables.exec = Jvm.exec) (hb : c.code = cc) (hml : c.maxLocals = nL) (hown : s.vm.findClass own = some m.cls) (hts : ∀ w ∈ Ts, w.before args s = true) (hok : ∀ ix q, lk ix = some q → sm_okL cl tyc SF Cq Ts own ix q) (hcl : sm_okC cl tyc NV Ts) (hcq : ∃ r : vw_C, cl[cq]? = some r ∧ r.1 = Cq)
    (hini : ini = true → meth.name = "<init>") (hE : sm_env D cl cA Cq RO SF st base s s.heap) (hb0 : s.heap.size = base + n0) (hd : d ≤ R.frames) (hdl : d * 100 ≤ R.locals) (har : ∀ q t, sm_aty q = some t → Jvm.Cond.arrayClass (newarray.typeOf q) ∈ Ts)
    {len pc pc' : Nat} {lv lv' : sm_V} {sk sk' : List Value} {h h' : sm_H} {ls : Array Slot} (hdg : decode cc pc = .ok (.ior, sm_len .ior len)) (hl : lv_has ls nL (sm_lv (sm_ad st base) lv)) (hP : va_P D cl (sm_w (sm_ad st base) cA base h) H) (hS : va_S (fun q => base ≤ q) s.heap H locs) (hc1 : n0 + cells = h.length) (hc2 : z0 + slots = sm_sz h)
    (hm1 : h'.length ≤ n0 + R.cells) (hm2 : sm_sz h' ≤ z0 + R.slots) (hs : sm_step lk RO NV cq ini nL d .ior pc lv sk h = some (pc', lv', sk', h'))
    (k : ∀ (ls' : Array Slot) (H' : Heap) (locs' : List Loc) (cells' slots' : Nat), lv_has ls' nL (sm_lv (sm_ad st base) lv') → va_P D cl (sm_w (sm_ad st base) cA base h') H' → va_S (fun q => base ≤ q) s.heap H' locs' → n0 + cells' = h'.length → z0 + slots' = sm_sz h' → W p l e R s m args below meth c H' locs' cells' slots' Q (F0 m pc' ls' (sk'.map (sm_v (sm_ad st base))))) :
    W p l e R s m args below meth c H locs cells slots Q (F0 m pc ls (sk.map (sm_v (sm_ad st base)))) := by
    have hs1 := sm_i2_eq hs
    clear hs
    obtain ⟨x, y, r, e0, hs⟩ := hs1
    subst e0
    cases hs
    exact lv_ior hx hb hdg (k _ _ _ _ _ hl hP hS hc1 hc2)
set_option maxHeartbeats 1000000 in
theorem sn_ixor {p : Program} {l : Launch} {e : Env} {R : Room} {s : State} {m : MethodId} {args : Array Value} {below : List Frame} {meth : Method} {c : Code} {H : Heap} {locs : List Loc} {cells slots : Nat} {Q : State → Prop} {cc : ByteArray} {nL n0 z0 d base : Nat} {st : Nat → Nat} {cA : Nat → ClassId} {D : va_G} {cl : List vw_C} {Cq own : String} {cq : Nat} {RO : List (Nat × (Nat → Int32))} {SF : List (String × String × String × Nat)} {Ts : List Jvm.Cond} {tyc : Nat → Nat → FieldType} {NV : Nat → List Value} {lk : Nat → Option sm_L} {ini : Bool} 
    (hx : p.tables.exec = Jvm.exec) (hb : c.code = cc) (hml : c.maxLocals = nL) (hown : s.vm.findClass own = some m.cls) (hts : ∀ w ∈ Ts, w.before args s = true) (hok : ∀ ix q, lk ix = some q → sm_okL cl tyc SF Cq Ts own ix q) (hcl : sm_okC cl tyc NV Ts) (hcq : ∃ r : vw_C, cl[cq]? = some r ∧ r.1 = Cq)
    (hini : ini = true → meth.name = "<init>") (hE : sm_env D cl cA Cq RO SF st base s s.heap) (hb0 : s.heap.size = base + n0) (hd : d ≤ R.frames) (hdl : d * 100 ≤ R.locals) (har : ∀ q t, sm_aty q = some t → Jvm.Cond.arrayClass (newarray.typeOf q) ∈ Ts)
    {len pc pc' : Nat} {lv lv' : sm_V} {sk sk' : List Value} {h h' : sm_H} {ls : Array Slot} (hdg : decode cc pc = .ok (.ixor, sm_len .ixor len)) (hl : lv_has ls nL (sm_lv (sm_ad st base) lv)) (hP : va_P D cl (sm_w (sm_ad st base) cA base h) H) (hS : va_S (fun q => base ≤ q) s.heap H locs) (hc1 : n0 + cells = h.length) (hc2 : z0 + slots = sm_sz h)
    (hm1 : h'.length ≤ n0 + R.cells) (hm2 : sm_sz h' ≤ z0 + R.slots) (hs : sm_step lk RO NV cq ini nL d .ixor pc lv sk h = some (pc', lv', sk', h'))
    (k : ∀ (ls' : Array Slot) (H' : Heap) (locs' : List Loc) (cells' slots' : Nat), lv_has ls' nL (sm_lv (sm_ad st base) lv') → va_P D cl (sm_w (sm_ad st base) cA base h') H' → va_S (fun q => base ≤ q) s.heap H' locs' → n0 + cells' = h'.length → z0 + slots' = sm_sz h' → W p l e R s m args below meth c H' locs' cells' slots' Q (F0 m pc' ls' (sk'.map (sm_v (sm_ad st base))))) :
    W p l e R s m args below meth c H locs cells slots Q (F0 m pc ls (sk.map (sm_v (sm_ad st base)))) := by
    have hs1 := sm_i2_eq hs
    clear hs
    obtain ⟨x, y, r, e0, hs⟩ := hs1
    subst e0
    cases hs
    exact lv_ixor hx hb hdg (k _ _ _ _ _ hl hP hS hc1 hc2)
set_option maxHeartbeats 1000000 in
theorem sn_ishl {p : Program} {l : Launch} {e : Env} {R : Room} {s : State} {m : MethodId} {args : Array Value} {below : List Frame} {meth : Method} {c : Code} {H : Heap} {locs : List Loc} {cells slots : Nat} {Q : State → Prop} {cc : ByteArray} {nL n0 z0 d base : Nat} {st : Nat → Nat} {cA : Nat → ClassId} {D : va_G} {cl : List vw_C} {Cq own : String} {cq : Nat} {RO : List (Nat × (Nat → Int32))} {SF : List (String × String × String × Nat)} {Ts : List Jvm.Cond} {tyc : Nat → Nat → FieldType} {NV : Nat → List Value} {lk : Nat → Option sm_L} {ini : Bool} 
    (hx : p.tables.exec = Jvm.exec) (hb : c.code = cc) (hml : c.maxLocals = nL) (hown : s.vm.findClass own = some m.cls) (hts : ∀ w ∈ Ts, w.before args s = true) (hok : ∀ ix q, lk ix = some q → sm_okL cl tyc SF Cq Ts own ix q) (hcl : sm_okC cl tyc NV Ts) (hcq : ∃ r : vw_C, cl[cq]? = some r ∧ r.1 = Cq)
    (hini : ini = true → meth.name = "<init>") (hE : sm_env D cl cA Cq RO SF st base s s.heap) (hb0 : s.heap.size = base + n0) (hd : d ≤ R.frames) (hdl : d * 100 ≤ R.locals) (har : ∀ q t, sm_aty q = some t → Jvm.Cond.arrayClass (newarray.typeOf q) ∈ Ts)
    {len pc pc' : Nat} {lv lv' : sm_V} {sk sk' : List Value} {h h' : sm_H} {ls : Array Slot} (hdg : decode cc pc = .ok (.ishl, sm_len .ishl len)) (hl : lv_has ls nL (sm_lv (sm_ad st base) lv)) (hP : va_P D cl (sm_w (sm_ad st base) cA base h) H) (hS : va_S (fun q => base ≤ q) s.heap H locs) (hc1 : n0 + cells = h.length) (hc2 : z0 + slots = sm_sz h)
    (hm1 : h'.length ≤ n0 + R.cells) (hm2 : sm_sz h' ≤ z0 + R.slots) (hs : sm_step lk RO NV cq ini nL d .ishl pc lv sk h = some (pc', lv', sk', h'))
    (k : ∀ (ls' : Array Slot) (H' : Heap) (locs' : List Loc) (cells' slots' : Nat), lv_has ls' nL (sm_lv (sm_ad st base) lv') → va_P D cl (sm_w (sm_ad st base) cA base h') H' → va_S (fun q => base ≤ q) s.heap H' locs' → n0 + cells' = h'.length → z0 + slots' = sm_sz h' → W p l e R s m args below meth c H' locs' cells' slots' Q (F0 m pc' ls' (sk'.map (sm_v (sm_ad st base))))) :
    W p l e R s m args below meth c H locs cells slots Q (F0 m pc ls (sk.map (sm_v (sm_ad st base)))) := by
    have hs1 := sm_i2_eq hs
    clear hs
    obtain ⟨x, y, r, e0, hs⟩ := hs1
    subst e0
    cases hs
    exact lv_ishl hx hb hdg (k _ _ _ _ _ hl hP hS hc1 hc2)
set_option maxHeartbeats 1000000 in
theorem sn_ishr {p : Program} {l : Launch} {e : Env} {R : Room} {s : State} {m : MethodId} {args : Array Value} {below : List Frame} {meth : Method} {c : Code} {H : Heap} {locs : List Loc} {cells slots : Nat} {Q : State → Prop} {cc : ByteArray} {nL n0 z0 d base : Nat} {st : Nat → Nat} {cA : Nat → ClassId} {D : va_G} {cl : List vw_C} {Cq own : String} {cq : Nat} {RO : List (Nat × (Nat → Int32))} {SF : List (String × String × String × Nat)} {Ts : List Jvm.Cond} {tyc : Nat → Nat → FieldType} {NV : Nat → List Value} {lk : Nat → Option sm_L} {ini : Bool} 
    (hx : p.tables.exec = Jvm.exec) (hb : c.code = cc) (hml : c.maxLocals = nL) (hown : s.vm.findClass own = some m.cls) (hts : ∀ w ∈ Ts, w.before args s = true) (hok : ∀ ix q, lk ix = some q → sm_okL cl tyc SF Cq Ts own ix q) (hcl : sm_okC cl tyc NV Ts) (hcq : ∃ r : vw_C, cl[cq]? = some r ∧ r.1 = Cq)
    (hini : ini = true → meth.name = "<init>") (hE : sm_env D cl cA Cq RO SF st base s s.heap) (hb0 : s.heap.size = base + n0) (hd : d ≤ R.frames) (hdl : d * 100 ≤ R.locals) (har : ∀ q t, sm_aty q = some t → Jvm.Cond.arrayClass (newarray.typeOf q) ∈ Ts)
    {len pc pc' : Nat} {lv lv' : sm_V} {sk sk' : List Value} {h h' : sm_H} {ls : Array Slot} (hdg : decode cc pc = .ok (.ishr, sm_len .ishr len)) (hl : lv_has ls nL (sm_lv (sm_ad st base) lv)) (hP : va_P D cl (sm_w (sm_ad st base) cA base h) H) (hS : va_S (fun q => base ≤ q) s.heap H locs) (hc1 : n0 + cells = h.length) (hc2 : z0 + slots = sm_sz h)
    (hm1 : h'.length ≤ n0 + R.cells) (hm2 : sm_sz h' ≤ z0 + R.slots) (hs : sm_step lk RO NV cq ini nL d .ishr pc lv sk h = some (pc', lv', sk', h'))
    (k : ∀ (ls' : Array Slot) (H' : Heap) (locs' : List Loc) (cells' slots' : Nat), lv_has ls' nL (sm_lv (sm_ad st base) lv') → va_P D cl (sm_w (sm_ad st base) cA base h') H' → va_S (fun q => base ≤ q) s.heap H' locs' → n0 + cells' = h'.length → z0 + slots' = sm_sz h' → W p l e R s m args below meth c H' locs' cells' slots' Q (F0 m pc' ls' (sk'.map (sm_v (sm_ad st base))))) :
    W p l e R s m args below meth c H locs cells slots Q (F0 m pc ls (sk.map (sm_v (sm_ad st base)))) := by
    have hs1 := sm_i2_eq hs
    clear hs
    obtain ⟨x, y, r, e0, hs⟩ := hs1
    subst e0
    cases hs
    exact lv_ishr hx hb hdg (k _ _ _ _ _ hl hP hS hc1 hc2)
set_option maxHeartbeats 1000000 in
theorem sn_iushr {p : Program} {l : Launch} {e : Env} {R : Room} {s : State} {m : MethodId} {args : Array Value} {below : List Frame} {meth : Method} {c : Code} {H : Heap} {locs : List Loc} {cells slots : Nat} {Q : State → Prop} {cc : ByteArray} {nL n0 z0 d base : Nat} {st : Nat → Nat} {cA : Nat → ClassId} {D : va_G} {cl : List vw_C} {Cq own : String} {cq : Nat} {RO : List (Nat × (Nat → Int32))} {SF : List (String × String × String × Nat)} {Ts : List Jvm.Cond} {tyc : Nat → Nat → FieldType} {NV : Nat → List Value} {lk : Nat → Option sm_L} {ini : Bool} 
    (hx : p.tables.exec = Jvm.exec) (hb : c.code = cc) (hml : c.maxLocals = nL) (hown : s.vm.findClass own = some m.cls) (hts : ∀ w ∈ Ts, w.before args s = true) (hok : ∀ ix q, lk ix = some q → sm_okL cl tyc SF Cq Ts own ix q) (hcl : sm_okC cl tyc NV Ts) (hcq : ∃ r : vw_C, cl[cq]? = some r ∧ r.1 = Cq)
    (hini : ini = true → meth.name = "<init>") (hE : sm_env D cl cA Cq RO SF st base s s.heap) (hb0 : s.heap.size = base + n0) (hd : d ≤ R.frames) (hdl : d * 100 ≤ R.locals) (har : ∀ q t, sm_aty q = some t → Jvm.Cond.arrayClass (newarray.typeOf q) ∈ Ts)
    {len pc pc' : Nat} {lv lv' : sm_V} {sk sk' : List Value} {h h' : sm_H} {ls : Array Slot} (hdg : decode cc pc = .ok (.iushr, sm_len .iushr len)) (hl : lv_has ls nL (sm_lv (sm_ad st base) lv)) (hP : va_P D cl (sm_w (sm_ad st base) cA base h) H) (hS : va_S (fun q => base ≤ q) s.heap H locs) (hc1 : n0 + cells = h.length) (hc2 : z0 + slots = sm_sz h)
    (hm1 : h'.length ≤ n0 + R.cells) (hm2 : sm_sz h' ≤ z0 + R.slots) (hs : sm_step lk RO NV cq ini nL d .iushr pc lv sk h = some (pc', lv', sk', h'))
    (k : ∀ (ls' : Array Slot) (H' : Heap) (locs' : List Loc) (cells' slots' : Nat), lv_has ls' nL (sm_lv (sm_ad st base) lv') → va_P D cl (sm_w (sm_ad st base) cA base h') H' → va_S (fun q => base ≤ q) s.heap H' locs' → n0 + cells' = h'.length → z0 + slots' = sm_sz h' → W p l e R s m args below meth c H' locs' cells' slots' Q (F0 m pc' ls' (sk'.map (sm_v (sm_ad st base))))) :
    W p l e R s m args below meth c H locs cells slots Q (F0 m pc ls (sk.map (sm_v (sm_ad st base)))) := by
    have hs1 := sm_i2_eq hs
    clear hs
    obtain ⟨x, y, r, e0, hs⟩ := hs1
    subst e0
    cases hs
    exact lv_iushr hx hb hdg rfl (k _ _ _ _ _ hl hP hS hc1 hc2)
set_option maxHeartbeats 1000000 in
theorem sn_idiv {p : Program} {l : Launch} {e : Env} {R : Room} {s : State} {m : MethodId} {args : Array Value} {below : List Frame} {meth : Method} {c : Code} {H : Heap} {locs : List Loc} {cells slots : Nat} {Q : State → Prop} {cc : ByteArray} {nL n0 z0 d base : Nat} {st : Nat → Nat} {cA : Nat → ClassId} {D : va_G} {cl : List vw_C} {Cq own : String} {cq : Nat} {RO : List (Nat × (Nat → Int32))} {SF : List (String × String × String × Nat)} {Ts : List Jvm.Cond} {tyc : Nat → Nat → FieldType} {NV : Nat → List Value} {lk : Nat → Option sm_L} {ini : Bool} 
    (hx : p.tables.exec = Jvm.exec) (hb : c.code = cc) (hml : c.maxLocals = nL) (hown : s.vm.findClass own = some m.cls) (hts : ∀ w ∈ Ts, w.before args s = true) (hok : ∀ ix q, lk ix = some q → sm_okL cl tyc SF Cq Ts own ix q) (hcl : sm_okC cl tyc NV Ts) (hcq : ∃ r : vw_C, cl[cq]? = some r ∧ r.1 = Cq)
    (hini : ini = true → meth.name = "<init>") (hE : sm_env D cl cA Cq RO SF st base s s.heap) (hb0 : s.heap.size = base + n0) (hd : d ≤ R.frames) (hdl : d * 100 ≤ R.locals) (har : ∀ q t, sm_aty q = some t → Jvm.Cond.arrayClass (newarray.typeOf q) ∈ Ts)
    {len pc pc' : Nat} {lv lv' : sm_V} {sk sk' : List Value} {h h' : sm_H} {ls : Array Slot} (hdg : decode cc pc = .ok (.idiv, sm_len .idiv len)) (hl : lv_has ls nL (sm_lv (sm_ad st base) lv)) (hP : va_P D cl (sm_w (sm_ad st base) cA base h) H) (hS : va_S (fun q => base ≤ q) s.heap H locs) (hc1 : n0 + cells = h.length) (hc2 : z0 + slots = sm_sz h)
    (hm1 : h'.length ≤ n0 + R.cells) (hm2 : sm_sz h' ≤ z0 + R.slots) (hs : sm_step lk RO NV cq ini nL d .idiv pc lv sk h = some (pc', lv', sk', h'))
    (k : ∀ (ls' : Array Slot) (H' : Heap) (locs' : List Loc) (cells' slots' : Nat), lv_has ls' nL (sm_lv (sm_ad st base) lv') → va_P D cl (sm_w (sm_ad st base) cA base h') H' → va_S (fun q => base ≤ q) s.heap H' locs' → n0 + cells' = h'.length → z0 + slots' = sm_sz h' → W p l e R s m args below meth c H' locs' cells' slots' Q (F0 m pc' ls' (sk'.map (sm_v (sm_ad st base))))) :
    W p l e R s m args below meth c H locs cells slots Q (F0 m pc ls (sk.map (sm_v (sm_ad st base)))) := by
    have hs1 := sm_i2_eq hs
    clear hs
    obtain ⟨x, y, r, e0, hs⟩ := hs1
    subst e0
    split at hs
    · cases hs
    · rename_i hy
      cases hs
      exact lv_idiv hx hb hdg hy (k _ _ _ _ _ hl hP hS hc1 hc2)
set_option maxHeartbeats 1000000 in
theorem sn_irem {p : Program} {l : Launch} {e : Env} {R : Room} {s : State} {m : MethodId} {args : Array Value} {below : List Frame} {meth : Method} {c : Code} {H : Heap} {locs : List Loc} {cells slots : Nat} {Q : State → Prop} {cc : ByteArray} {nL n0 z0 d base : Nat} {st : Nat → Nat} {cA : Nat → ClassId} {D : va_G} {cl : List vw_C} {Cq own : String} {cq : Nat} {RO : List (Nat × (Nat → Int32))} {SF : List (String × String × String × Nat)} {Ts : List Jvm.Cond} {tyc : Nat → Nat → FieldType} {NV : Nat → List Value} {lk : Nat → Option sm_L} {ini : Bool} 
    (hx : p.tables.exec = Jvm.exec) (hb : c.code = cc) (hml : c.maxLocals = nL) (hown : s.vm.findClass own = some m.cls) (hts : ∀ w ∈ Ts, w.before args s = true) (hok : ∀ ix q, lk ix = some q → sm_okL cl tyc SF Cq Ts own ix q) (hcl : sm_okC cl tyc NV Ts) (hcq : ∃ r : vw_C, cl[cq]? = some r ∧ r.1 = Cq)
    (hini : ini = true → meth.name = "<init>") (hE : sm_env D cl cA Cq RO SF st base s s.heap) (hb0 : s.heap.size = base + n0) (hd : d ≤ R.frames) (hdl : d * 100 ≤ R.locals) (har : ∀ q t, sm_aty q = some t → Jvm.Cond.arrayClass (newarray.typeOf q) ∈ Ts)
    {len pc pc' : Nat} {lv lv' : sm_V} {sk sk' : List Value} {h h' : sm_H} {ls : Array Slot} (hdg : decode cc pc = .ok (.irem, sm_len .irem len)) (hl : lv_has ls nL (sm_lv (sm_ad st base) lv)) (hP : va_P D cl (sm_w (sm_ad st base) cA base h) H) (hS : va_S (fun q => base ≤ q) s.heap H locs) (hc1 : n0 + cells = h.length) (hc2 : z0 + slots = sm_sz h)
    (hm1 : h'.length ≤ n0 + R.cells) (hm2 : sm_sz h' ≤ z0 + R.slots) (hs : sm_step lk RO NV cq ini nL d .irem pc lv sk h = some (pc', lv', sk', h'))
    (k : ∀ (ls' : Array Slot) (H' : Heap) (locs' : List Loc) (cells' slots' : Nat), lv_has ls' nL (sm_lv (sm_ad st base) lv') → va_P D cl (sm_w (sm_ad st base) cA base h') H' → va_S (fun q => base ≤ q) s.heap H' locs' → n0 + cells' = h'.length → z0 + slots' = sm_sz h' → W p l e R s m args below meth c H' locs' cells' slots' Q (F0 m pc' ls' (sk'.map (sm_v (sm_ad st base))))) :
    W p l e R s m args below meth c H locs cells slots Q (F0 m pc ls (sk.map (sm_v (sm_ad st base)))) := by
    have hs1 := sm_i2_eq hs
    clear hs
    obtain ⟨x, y, r, e0, hs⟩ := hs1
    subst e0
    split at hs
    · cases hs
    · rename_i hy
      cases hs
      exact lv_irem hx hb hdg hy (k _ _ _ _ _ hl hP hS hc1 hc2)
set_option maxHeartbeats 1000000 in
theorem sn_ladd {p : Program} {l : Launch} {e : Env} {R : Room} {s : State} {m : MethodId} {args : Array Value} {below : List Frame} {meth : Method} {c : Code} {H : Heap} {locs : List Loc} {cells slots : Nat} {Q : State → Prop} {cc : ByteArray} {nL n0 z0 d base : Nat} {st : Nat → Nat} {cA : Nat → ClassId} {D : va_G} {cl : List vw_C} {Cq own : String} {cq : Nat} {RO : List (Nat × (Nat → Int32))} {SF : List (String × String × String × Nat)} {Ts : List Jvm.Cond} {tyc : Nat → Nat → FieldType} {NV : Nat → List Value} {lk : Nat → Option sm_L} {ini : Bool} 
    (hx : p.tables.exec = Jvm.exec) (hb : c.code = cc) (hml : c.maxLocals = nL) (hown : s.vm.findClass own = some m.cls) (hts : ∀ w ∈ Ts, w.before args s = true) (hok : ∀ ix q, lk ix = some q → sm_okL cl tyc SF Cq Ts own ix q) (hcl : sm_okC cl tyc NV Ts) (hcq : ∃ r : vw_C, cl[cq]? = some r ∧ r.1 = Cq)
    (hini : ini = true → meth.name = "<init>") (hE : sm_env D cl cA Cq RO SF st base s s.heap) (hb0 : s.heap.size = base + n0) (hd : d ≤ R.frames) (hdl : d * 100 ≤ R.locals) (har : ∀ q t, sm_aty q = some t → Jvm.Cond.arrayClass (newarray.typeOf q) ∈ Ts)
    {len pc pc' : Nat} {lv lv' : sm_V} {sk sk' : List Value} {h h' : sm_H} {ls : Array Slot} (hdg : decode cc pc = .ok (.ladd, sm_len .ladd len)) (hl : lv_has ls nL (sm_lv (sm_ad st base) lv)) (hP : va_P D cl (sm_w (sm_ad st base) cA base h) H) (hS : va_S (fun q => base ≤ q) s.heap H locs) (hc1 : n0 + cells = h.length) (hc2 : z0 + slots = sm_sz h)
    (hm1 : h'.length ≤ n0 + R.cells) (hm2 : sm_sz h' ≤ z0 + R.slots) (hs : sm_step lk RO NV cq ini nL d .ladd pc lv sk h = some (pc', lv', sk', h'))
    (k : ∀ (ls' : Array Slot) (H' : Heap) (locs' : List Loc) (cells' slots' : Nat), lv_has ls' nL (sm_lv (sm_ad st base) lv') → va_P D cl (sm_w (sm_ad st base) cA base h') H' → va_S (fun q => base ≤ q) s.heap H' locs' → n0 + cells' = h'.length → z0 + slots' = sm_sz h' → W p l e R s m args below meth c H' locs' cells' slots' Q (F0 m pc' ls' (sk'.map (sm_v (sm_ad st base))))) :
    W p l e R s m args below meth c H locs cells slots Q (F0 m pc ls (sk.map (sm_v (sm_ad st base)))) := by
    have hs1 := sm_l2_eq hs
    clear hs
    obtain ⟨x, y, r, e0, hs⟩ := hs1
    subst e0
    cases hs
    exact lv_ladd hx hb hdg (k _ _ _ _ _ hl hP hS hc1 hc2)
set_option maxHeartbeats 1000000 in
theorem sn_lsub {p : Program} {l : Launch} {e : Env} {R : Room} {s : State} {m : MethodId} {args : Array Value} {below : List Frame} {meth : Method} {c : Code} {H : Heap} {locs : List Loc} {cells slots : Nat} {Q : State → Prop} {cc : ByteArray} {nL n0 z0 d base : Nat} {st : Nat → Nat} {cA : Nat → ClassId} {D : va_G} {cl : List vw_C} {Cq own : String} {cq : Nat} {RO : List (Nat × (Nat → Int32))} {SF : List (String × String × String × Nat)} {Ts : List Jvm.Cond} {tyc : Nat → Nat → FieldType} {NV : Nat → List Value} {lk : Nat → Option sm_L} {ini : Bool} 
    (hx : p.tables.exec = Jvm.exec) (hb : c.code = cc) (hml : c.maxLocals = nL) (hown : s.vm.findClass own = some m.cls) (hts : ∀ w ∈ Ts, w.before args s = true) (hok : ∀ ix q, lk ix = some q → sm_okL cl tyc SF Cq Ts own ix q) (hcl : sm_okC cl tyc NV Ts) (hcq : ∃ r : vw_C, cl[cq]? = some r ∧ r.1 = Cq)
    (hini : ini = true → meth.name = "<init>") (hE : sm_env D cl cA Cq RO SF st base s s.heap) (hb0 : s.heap.size = base + n0) (hd : d ≤ R.frames) (hdl : d * 100 ≤ R.locals) (har : ∀ q t, sm_aty q = some t → Jvm.Cond.arrayClass (newarray.typeOf q) ∈ Ts)
    {len pc pc' : Nat} {lv lv' : sm_V} {sk sk' : List Value} {h h' : sm_H} {ls : Array Slot} (hdg : decode cc pc = .ok (.lsub, sm_len .lsub len)) (hl : lv_has ls nL (sm_lv (sm_ad st base) lv)) (hP : va_P D cl (sm_w (sm_ad st base) cA base h) H) (hS : va_S (fun q => base ≤ q) s.heap H locs) (hc1 : n0 + cells = h.length) (hc2 : z0 + slots = sm_sz h)
    (hm1 : h'.length ≤ n0 + R.cells) (hm2 : sm_sz h' ≤ z0 + R.slots) (hs : sm_step lk RO NV cq ini nL d .lsub pc lv sk h = some (pc', lv', sk', h'))
    (k : ∀ (ls' : Array Slot) (H' : Heap) (locs' : List Loc) (cells' slots' : Nat), lv_has ls' nL (sm_lv (sm_ad st base) lv') → va_P D cl (sm_w (sm_ad st base) cA base h') H' → va_S (fun q => base ≤ q) s.heap H' locs' → n0 + cells' = h'.length → z0 + slots' = sm_sz h' → W p l e R s m args below meth c H' locs' cells' slots' Q (F0 m pc' ls' (sk'.map (sm_v (sm_ad st base))))) :
    W p l e R s m args below meth c H locs cells slots Q (F0 m pc ls (sk.map (sm_v (sm_ad st base)))) := by
    have hs1 := sm_l2_eq hs
    clear hs
    obtain ⟨x, y, r, e0, hs⟩ := hs1
    subst e0
    cases hs
    exact lv_lsub hx hb hdg (k _ _ _ _ _ hl hP hS hc1 hc2)
set_option maxHeartbeats 1000000 in
theorem sn_lmul {p : Program} {l : Launch} {e : Env} {R : Room} {s : State} {m : MethodId} {args : Array Value} {below : List Frame} {meth : Method} {c : Code} {H : Heap} {locs : List Loc} {cells slots : Nat} {Q : State → Prop} {cc : ByteArray} {nL n0 z0 d base : Nat} {st : Nat → Nat} {cA : Nat → ClassId} {D : va_G} {cl : List vw_C} {Cq own : String} {cq : Nat} {RO : List (Nat × (Nat → Int32))} {SF : List (String × String × String × Nat)} {Ts : List Jvm.Cond} {tyc : Nat → Nat → FieldType} {NV : Nat → List Value} {lk : Nat → Option sm_L} {ini : Bool} 
    (hx : p.tables.exec = Jvm.exec) (hb : c.code = cc) (hml : c.maxLocals = nL) (hown : s.vm.findClass own = some m.cls) (hts : ∀ w ∈ Ts, w.before args s = true) (hok : ∀ ix q, lk ix = some q → sm_okL cl tyc SF Cq Ts own ix q) (hcl : sm_okC cl tyc NV Ts) (hcq : ∃ r : vw_C, cl[cq]? = some r ∧ r.1 = Cq)
    (hini : ini = true → meth.name = "<init>") (hE : sm_env D cl cA Cq RO SF st base s s.heap) (hb0 : s.heap.size = base + n0) (hd : d ≤ R.frames) (hdl : d * 100 ≤ R.locals) (har : ∀ q t, sm_aty q = some t → Jvm.Cond.arrayClass (newarray.typeOf q) ∈ Ts)
    {len pc pc' : Nat} {lv lv' : sm_V} {sk sk' : List Value} {h h' : sm_H} {ls : Array Slot} (hdg : decode cc pc = .ok (.lmul, sm_len .lmul len)) (hl : lv_has ls nL (sm_lv (sm_ad st base) lv)) (hP : va_P D cl (sm_w (sm_ad st base) cA base h) H) (hS : va_S (fun q => base ≤ q) s.heap H locs) (hc1 : n0 + cells = h.length) (hc2 : z0 + slots = sm_sz h)
    (hm1 : h'.length ≤ n0 + R.cells) (hm2 : sm_sz h' ≤ z0 + R.slots) (hs : sm_step lk RO NV cq ini nL d .lmul pc lv sk h = some (pc', lv', sk', h'))
    (k : ∀ (ls' : Array Slot) (H' : Heap) (locs' : List Loc) (cells' slots' : Nat), lv_has ls' nL (sm_lv (sm_ad st base) lv') → va_P D cl (sm_w (sm_ad st base) cA base h') H' → va_S (fun q => base ≤ q) s.heap H' locs' → n0 + cells' = h'.length → z0 + slots' = sm_sz h' → W p l e R s m args below meth c H' locs' cells' slots' Q (F0 m pc' ls' (sk'.map (sm_v (sm_ad st base))))) :
    W p l e R s m args below meth c H locs cells slots Q (F0 m pc ls (sk.map (sm_v (sm_ad st base)))) := by
    have hs1 := sm_l2_eq hs
    clear hs
    obtain ⟨x, y, r, e0, hs⟩ := hs1
    subst e0
    cases hs
    exact lv_lmul hx hb hdg (k _ _ _ _ _ hl hP hS hc1 hc2)
set_option maxHeartbeats 1000000 in
theorem sn_land {p : Program} {l : Launch} {e : Env} {R : Room} {s : State} {m : MethodId} {args : Array Value} {below : List Frame} {meth : Method} {c : Code} {H : Heap} {locs : List Loc} {cells slots : Nat} {Q : State → Prop} {cc : ByteArray} {nL n0 z0 d base : Nat} {st : Nat → Nat} {cA : Nat → ClassId} {D : va_G} {cl : List vw_C} {Cq own : String} {cq : Nat} {RO : List (Nat × (Nat → Int32))} {SF : List (String × String × String × Nat)} {Ts : List Jvm.Cond} {tyc : Nat → Nat → FieldType} {NV : Nat → List Value} {lk : Nat → Option sm_L} {ini : Bool} 
    (hx : p.tables.exec = Jvm.exec) (hb : c.code = cc) (hml : c.maxLocals = nL) (hown : s.vm.findClass own = some m.cls) (hts : ∀ w ∈ Ts, w.before args s = true) (hok : ∀ ix q, lk ix = some q → sm_okL cl tyc SF Cq Ts own ix q) (hcl : sm_okC cl tyc NV Ts) (hcq : ∃ r : vw_C, cl[cq]? = some r ∧ r.1 = Cq)
    (hini : ini = true → meth.name = "<init>") (hE : sm_env D cl cA Cq RO SF st base s s.heap) (hb0 : s.heap.size = base + n0) (hd : d ≤ R.frames) (hdl : d * 100 ≤ R.locals) (har : ∀ q t, sm_aty q = some t → Jvm.Cond.arrayClass (newarray.typeOf q) ∈ Ts)
    {len pc pc' : Nat} {lv lv' : sm_V} {sk sk' : List Value} {h h' : sm_H} {ls : Array Slot} (hdg : decode cc pc = .ok (.land, sm_len .land len)) (hl : lv_has ls nL (sm_lv (sm_ad st base) lv)) (hP : va_P D cl (sm_w (sm_ad st base) cA base h) H) (hS : va_S (fun q => base ≤ q) s.heap H locs) (hc1 : n0 + cells = h.length) (hc2 : z0 + slots = sm_sz h)
    (hm1 : h'.length ≤ n0 + R.cells) (hm2 : sm_sz h' ≤ z0 + R.slots) (hs : sm_step lk RO NV cq ini nL d .land pc lv sk h = some (pc', lv', sk', h'))
    (k : ∀ (ls' : Array Slot) (H' : Heap) (locs' : List Loc) (cells' slots' : Nat), lv_has ls' nL (sm_lv (sm_ad st base) lv') → va_P D cl (sm_w (sm_ad st base) cA base h') H' → va_S (fun q => base ≤ q) s.heap H' locs' → n0 + cells' = h'.length → z0 + slots' = sm_sz h' → W p l e R s m args below meth c H' locs' cells' slots' Q (F0 m pc' ls' (sk'.map (sm_v (sm_ad st base))))) :
    W p l e R s m args below meth c H locs cells slots Q (F0 m pc ls (sk.map (sm_v (sm_ad st base)))) := by
    have hs1 := sm_l2_eq hs
    clear hs
    obtain ⟨x, y, r, e0, hs⟩ := hs1
    subst e0
    cases hs
    exact lv_land hx hb hdg (k _ _ _ _ _ hl hP hS hc1 hc2)
set_option maxHeartbeats 1000000 in
theorem sn_lor {p : Program} {l : Launch} {e : Env} {R : Room} {s : State} {m : MethodId} {args : Array Value} {below : List Frame} {meth : Method} {c : Code} {H : Heap} {locs : List Loc} {cells slots : Nat} {Q : State → Prop} {cc : ByteArray} {nL n0 z0 d base : Nat} {st : Nat → Nat} {cA : Nat → ClassId} {D : va_G} {cl : List vw_C} {Cq own : String} {cq : Nat} {RO : List (Nat × (Nat → Int32))} {SF : List (String × String × String × Nat)} {Ts : List Jvm.Cond} {tyc : Nat → Nat → FieldType} {NV : Nat → List Value} {lk : Nat → Option sm_L} {ini : Bool} 
    (hx : p.tables.exec = Jvm.exec) (hb : c.code = cc) (hml : c.maxLocals = nL) (hown : s.vm.findClass own = some m.cls) (hts : ∀ w ∈ Ts, w.before args s = true) (hok : ∀ ix q, lk ix = some q → sm_okL cl tyc SF Cq Ts own ix q) (hcl : sm_okC cl tyc NV Ts) (hcq : ∃ r : vw_C, cl[cq]? = some r ∧ r.1 = Cq)
    (hini : ini = true → meth.name = "<init>") (hE : sm_env D cl cA Cq RO SF st base s s.heap) (hb0 : s.heap.size = base + n0) (hd : d ≤ R.frames) (hdl : d * 100 ≤ R.locals) (har : ∀ q t, sm_aty q = some t → Jvm.Cond.arrayClass (newarray.typeOf q) ∈ Ts)
    {len pc pc' : Nat} {lv lv' : sm_V} {sk sk' : List Value} {h h' : sm_H} {ls : Array Slot} (hdg : decode cc pc = .ok (.lor, sm_len .lor len)) (hl : lv_has ls nL (sm_lv (sm_ad st base) lv)) (hP : va_P D cl (sm_w (sm_ad st base) cA base h) H) (hS : va_S (fun q => base ≤ q) s.heap H locs) (hc1 : n0 + cells = h.length) (hc2 : z0 + slots = sm_sz h)
    (hm1 : h'.length ≤ n0 + R.cells) (hm2 : sm_sz h' ≤ z0 + R.slots) (hs : sm_step lk RO NV cq ini nL d .lor pc lv sk h = some (pc', lv', sk', h'))
    (k : ∀ (ls' : Array Slot) (H' : Heap) (locs' : List Loc) (cells' slots' : Nat), lv_has ls' nL (sm_lv (sm_ad st base) lv') → va_P D cl (sm_w (sm_ad st base) cA base h') H' → va_S (fun q => base ≤ q) s.heap H' locs' → n0 + cells' = h'.length → z0 + slots' = sm_sz h' → W p l e R s m args below meth c H' locs' cells' slots' Q (F0 m pc' ls' (sk'.map (sm_v (sm_ad st base))))) :
    W p l e R s m args below meth c H locs cells slots Q (F0 m pc ls (sk.map (sm_v (sm_ad st base)))) := by
    have hs1 := sm_l2_eq hs
    clear hs
    obtain ⟨x, y, r, e0, hs⟩ := hs1
    subst e0
    cases hs
    exact lv_lor hx hb hdg (k _ _ _ _ _ hl hP hS hc1 hc2)
set_option maxHeartbeats 1000000 in
theorem sn_ldiv {p : Program} {l : Launch} {e : Env} {R : Room} {s : State} {m : MethodId} {args : Array Value} {below : List Frame} {meth : Method} {c : Code} {H : Heap} {locs : List Loc} {cells slots : Nat} {Q : State → Prop} {cc : ByteArray} {nL n0 z0 d base : Nat} {st : Nat → Nat} {cA : Nat → ClassId} {D : va_G} {cl : List vw_C} {Cq own : String} {cq : Nat} {RO : List (Nat × (Nat → Int32))} {SF : List (String × String × String × Nat)} {Ts : List Jvm.Cond} {tyc : Nat → Nat → FieldType} {NV : Nat → List Value} {lk : Nat → Option sm_L} {ini : Bool} 
    (hx : p.tables.exec = Jvm.exec) (hb : c.code = cc) (hml : c.maxLocals = nL) (hown : s.vm.findClass own = some m.cls) (hts : ∀ w ∈ Ts, w.before args s = true) (hok : ∀ ix q, lk ix = some q → sm_okL cl tyc SF Cq Ts own ix q) (hcl : sm_okC cl tyc NV Ts) (hcq : ∃ r : vw_C, cl[cq]? = some r ∧ r.1 = Cq)
    (hini : ini = true → meth.name = "<init>") (hE : sm_env D cl cA Cq RO SF st base s s.heap) (hb0 : s.heap.size = base + n0) (hd : d ≤ R.frames) (hdl : d * 100 ≤ R.locals) (har : ∀ q t, sm_aty q = some t → Jvm.Cond.arrayClass (newarray.typeOf q) ∈ Ts)
    {len pc pc' : Nat} {lv lv' : sm_V} {sk sk' : List Value} {h h' : sm_H} {ls : Array Slot} (hdg : decode cc pc = .ok (.ldiv, sm_len .ldiv len)) (hl : lv_has ls nL (sm_lv (sm_ad st base) lv)) (hP : va_P D cl (sm_w (sm_ad st base) cA base h) H) (hS : va_S (fun q => base ≤ q) s.heap H locs) (hc1 : n0 + cells = h.length) (hc2 : z0 + slots = sm_sz h)
    (hm1 : h'.length ≤ n0 + R.cells) (hm2 : sm_sz h' ≤ z0 + R.slots) (hs : sm_step lk RO NV cq ini nL d .ldiv pc lv sk h = some (pc', lv', sk', h'))
    (k : ∀ (ls' : Array Slot) (H' : Heap) (locs' : List Loc) (cells' slots' : Nat), lv_has ls' nL (sm_lv (sm_ad st base) lv') → va_P D cl (sm_w (sm_ad st base) cA base h') H' → va_S (fun q => base ≤ q) s.heap H' locs' → n0 + cells' = h'.length → z0 + slots' = sm_sz h' → W p l e R s m args below meth c H' locs' cells' slots' Q (F0 m pc' ls' (sk'.map (sm_v (sm_ad st base))))) :
    W p l e R s m args below meth c H locs cells slots Q (F0 m pc ls (sk.map (sm_v (sm_ad st base)))) := by
    have hs1 := sm_l2_eq hs
    clear hs
    obtain ⟨x, y, r, e0, hs⟩ := hs1
    subst e0
    split at hs
    · cases hs
    · rename_i hy
      cases hs
      exact lv_ldiv hx hb hdg hy (k _ _ _ _ _ hl hP hS hc1 hc2)
set_option maxHeartbeats 1000000 in
theorem sn_lrem {p : Program} {l : Launch} {e : Env} {R : Room} {s : State} {m : MethodId} {args : Array Value} {below : List Frame} {meth : Method} {c : Code} {H : Heap} {locs : List Loc} {cells slots : Nat} {Q : State → Prop} {cc : ByteArray} {nL n0 z0 d base : Nat} {st : Nat → Nat} {cA : Nat → ClassId} {D : va_G} {cl : List vw_C} {Cq own : String} {cq : Nat} {RO : List (Nat × (Nat → Int32))} {SF : List (String × String × String × Nat)} {Ts : List Jvm.Cond} {tyc : Nat → Nat → FieldType} {NV : Nat → List Value} {lk : Nat → Option sm_L} {ini : Bool} 
    (hx : p.tables.exec = Jvm.exec) (hb : c.code = cc) (hml : c.maxLocals = nL) (hown : s.vm.findClass own = some m.cls) (hts : ∀ w ∈ Ts, w.before args s = true) (hok : ∀ ix q, lk ix = some q → sm_okL cl tyc SF Cq Ts own ix q) (hcl : sm_okC cl tyc NV Ts) (hcq : ∃ r : vw_C, cl[cq]? = some r ∧ r.1 = Cq)
    (hini : ini = true → meth.name = "<init>") (hE : sm_env D cl cA Cq RO SF st base s s.heap) (hb0 : s.heap.size = base + n0) (hd : d ≤ R.frames) (hdl : d * 100 ≤ R.locals) (har : ∀ q t, sm_aty q = some t → Jvm.Cond.arrayClass (newarray.typeOf q) ∈ Ts)
    {len pc pc' : Nat} {lv lv' : sm_V} {sk sk' : List Value} {h h' : sm_H} {ls : Array Slot} (hdg : decode cc pc = .ok (.lrem, sm_len .lrem len)) (hl : lv_has ls nL (sm_lv (sm_ad st base) lv)) (hP : va_P D cl (sm_w (sm_ad st base) cA base h) H) (hS : va_S (fun q => base ≤ q) s.heap H locs) (hc1 : n0 + cells = h.length) (hc2 : z0 + slots = sm_sz h)
    (hm1 : h'.length ≤ n0 + R.cells) (hm2 : sm_sz h' ≤ z0 + R.slots) (hs : sm_step lk RO NV cq ini nL d .lrem pc lv sk h = some (pc', lv', sk', h'))
    (k : ∀ (ls' : Array Slot) (H' : Heap) (locs' : List Loc) (cells' slots' : Nat), lv_has ls' nL (sm_lv (sm_ad st base) lv') → va_P D cl (sm_w (sm_ad st base) cA base h') H' → va_S (fun q => base ≤ q) s.heap H' locs' → n0 + cells' = h'.length → z0 + slots' = sm_sz h' → W p l e R s m args below meth c H' locs' cells' slots' Q (F0 m pc' ls' (sk'.map (sm_v (sm_ad st base))))) :
    W p l e R s m args below meth c H locs cells slots Q (F0 m pc ls (sk.map (sm_v (sm_ad st base)))) := by
    have hs1 := sm_l2_eq hs
    clear hs
    obtain ⟨x, y, r, e0, hs⟩ := hs1
    subst e0
    split at hs
    · cases hs
    · rename_i hy
      cases hs
      exact lv_lrem hx hb hdg hy (k _ _ _ _ _ hl hP hS hc1 hc2)
set_option maxHeartbeats 1000000 in
theorem sn_lshl {p : Program} {l : Launch} {e : Env} {R : Room} {s : State} {m : MethodId} {args : Array Value} {below : List Frame} {meth : Method} {c : Code} {H : Heap} {locs : List Loc} {cells slots : Nat} {Q : State → Prop} {cc : ByteArray} {nL n0 z0 d base : Nat} {st : Nat → Nat} {cA : Nat → ClassId} {D : va_G} {cl : List vw_C} {Cq own : String} {cq : Nat} {RO : List (Nat × (Nat → Int32))} {SF : List (String × String × String × Nat)} {Ts : List Jvm.Cond} {tyc : Nat → Nat → FieldType} {NV : Nat → List Value} {lk : Nat → Option sm_L} {ini : Bool} 
    (hx : p.tables.exec = Jvm.exec) (hb : c.code = cc) (hml : c.maxLocals = nL) (hown : s.vm.findClass own = some m.cls) (hts : ∀ w ∈ Ts, w.before args s = true) (hok : ∀ ix q, lk ix = some q → sm_okL cl tyc SF Cq Ts own ix q) (hcl : sm_okC cl tyc NV Ts) (hcq : ∃ r : vw_C, cl[cq]? = some r ∧ r.1 = Cq)
    (hini : ini = true → meth.name = "<init>") (hE : sm_env D cl cA Cq RO SF st base s s.heap) (hb0 : s.heap.size = base + n0) (hd : d ≤ R.frames) (hdl : d * 100 ≤ R.locals) (har : ∀ q t, sm_aty q = some t → Jvm.Cond.arrayClass (newarray.typeOf q) ∈ Ts)
    {len pc pc' : Nat} {lv lv' : sm_V} {sk sk' : List Value} {h h' : sm_H} {ls : Array Slot} (hdg : decode cc pc = .ok (.lshl, sm_len .lshl len)) (hl : lv_has ls nL (sm_lv (sm_ad st base) lv)) (hP : va_P D cl (sm_w (sm_ad st base) cA base h) H) (hS : va_S (fun q => base ≤ q) s.heap H locs) (hc1 : n0 + cells = h.length) (hc2 : z0 + slots = sm_sz h)
    (hm1 : h'.length ≤ n0 + R.cells) (hm2 : sm_sz h' ≤ z0 + R.slots) (hs : sm_step lk RO NV cq ini nL d .lshl pc lv sk h = some (pc', lv', sk', h'))
    (k : ∀ (ls' : Array Slot) (H' : Heap) (locs' : List Loc) (cells' slots' : Nat), lv_has ls' nL (sm_lv (sm_ad st base) lv') → va_P D cl (sm_w (sm_ad st base) cA base h') H' → va_S (fun q => base ≤ q) s.heap H' locs' → n0 + cells' = h'.length → z0 + slots' = sm_sz h' → W p l e R s m args below meth c H' locs' cells' slots' Q (F0 m pc' ls' (sk'.map (sm_v (sm_ad st base))))) :
    W p l e R s m args below meth c H locs cells slots Q (F0 m pc ls (sk.map (sm_v (sm_ad st base)))) := by
    have hs1 := sm_li_eq hs
    clear hs
    obtain ⟨x, y, r, e0, hs⟩ := hs1
    subst e0
    cases hs
    exact lv_lshl hx hb hdg rfl (k _ _ _ _ _ hl hP hS hc1 hc2)
set_option maxHeartbeats 1000000 in
theorem sn_lushr {p : Program} {l : Launch} {e : Env} {R : Room} {s : State} {m : MethodId} {args : Array Value} {below : List Frame} {meth : Method} {c : Code} {H : Heap} {locs : List Loc} {cells slots : Nat} {Q : State → Prop} {cc : ByteArray} {nL n0 z0 d base : Nat} {st : Nat → Nat} {cA : Nat → ClassId} {D : va_G} {cl : List vw_C} {Cq own : String} {cq : Nat} {RO : List (Nat × (Nat → Int32))} {SF : List (String × String × String × Nat)} {Ts : List Jvm.Cond} {tyc : Nat → Nat → FieldType} {NV : Nat → List Value} {lk : Nat → Option sm_L} {ini : Bool} 
    (hx : p.tables.exec = Jvm.exec) (hb : c.code = cc) (hml : c.maxLocals = nL) (hown : s.vm.findClass own = some m.cls) (hts : ∀ w ∈ Ts, w.before args s = true) (hok : ∀ ix q, lk ix = some q → sm_okL cl tyc SF Cq Ts own ix q) (hcl : sm_okC cl tyc NV Ts) (hcq : ∃ r : vw_C, cl[cq]? = some r ∧ r.1 = Cq)
    (hini : ini = true → meth.name = "<init>") (hE : sm_env D cl cA Cq RO SF st base s s.heap) (hb0 : s.heap.size = base + n0) (hd : d ≤ R.frames) (hdl : d * 100 ≤ R.locals) (har : ∀ q t, sm_aty q = some t → Jvm.Cond.arrayClass (newarray.typeOf q) ∈ Ts)
    {len pc pc' : Nat} {lv lv' : sm_V} {sk sk' : List Value} {h h' : sm_H} {ls : Array Slot} (hdg : decode cc pc = .ok (.lushr, sm_len .lushr len)) (hl : lv_has ls nL (sm_lv (sm_ad st base) lv)) (hP : va_P D cl (sm_w (sm_ad st base) cA base h) H) (hS : va_S (fun q => base ≤ q) s.heap H locs) (hc1 : n0 + cells = h.length) (hc2 : z0 + slots = sm_sz h)
    (hm1 : h'.length ≤ n0 + R.cells) (hm2 : sm_sz h' ≤ z0 + R.slots) (hs : sm_step lk RO NV cq ini nL d .lushr pc lv sk h = some (pc', lv', sk', h'))
    (k : ∀ (ls' : Array Slot) (H' : Heap) (locs' : List Loc) (cells' slots' : Nat), lv_has ls' nL (sm_lv (sm_ad st base) lv') → va_P D cl (sm_w (sm_ad st base) cA base h') H' → va_S (fun q => base ≤ q) s.heap H' locs' → n0 + cells' = h'.length → z0 + slots' = sm_sz h' → W p l e R s m args below meth c H' locs' cells' slots' Q (F0 m pc' ls' (sk'.map (sm_v (sm_ad st base))))) :
    W p l e R s m args below meth c H locs cells slots Q (F0 m pc ls (sk.map (sm_v (sm_ad st base)))) := by
    have hs1 := sm_li_eq hs
    clear hs
    obtain ⟨x, y, r, e0, hs⟩ := hs1
    subst e0
    cases hs
    exact lv_lushr hx hb hdg rfl (k _ _ _ _ _ hl hP hS hc1 hc2)
set_option maxHeartbeats 1000000 in
theorem sn_lcmp {p : Program} {l : Launch} {e : Env} {R : Room} {s : State} {m : MethodId} {args : Array Value} {below : List Frame} {meth : Method} {c : Code} {H : Heap} {locs : List Loc} {cells slots : Nat} {Q : State → Prop} {cc : ByteArray} {nL n0 z0 d base : Nat} {st : Nat → Nat} {cA : Nat → ClassId} {D : va_G} {cl : List vw_C} {Cq own : String} {cq : Nat} {RO : List (Nat × (Nat → Int32))} {SF : List (String × String × String × Nat)} {Ts : List Jvm.Cond} {tyc : Nat → Nat → FieldType} {NV : Nat → List Value} {lk : Nat → Option sm_L} {ini : Bool} 
    (hx : p.tables.exec = Jvm.exec) (hb : c.code = cc) (hml : c.maxLocals = nL) (hown : s.vm.findClass own = some m.cls) (hts : ∀ w ∈ Ts, w.before args s = true) (hok : ∀ ix q, lk ix = some q → sm_okL cl tyc SF Cq Ts own ix q) (hcl : sm_okC cl tyc NV Ts) (hcq : ∃ r : vw_C, cl[cq]? = some r ∧ r.1 = Cq)
    (hini : ini = true → meth.name = "<init>") (hE : sm_env D cl cA Cq RO SF st base s s.heap) (hb0 : s.heap.size = base + n0) (hd : d ≤ R.frames) (hdl : d * 100 ≤ R.locals) (har : ∀ q t, sm_aty q = some t → Jvm.Cond.arrayClass (newarray.typeOf q) ∈ Ts)
    {len pc pc' : Nat} {lv lv' : sm_V} {sk sk' : List Value} {h h' : sm_H} {ls : Array Slot} (hdg : decode cc pc = .ok (.lcmp, sm_len .lcmp len)) (hl : lv_has ls nL (sm_lv (sm_ad st base) lv)) (hP : va_P D cl (sm_w (sm_ad st base) cA base h) H) (hS : va_S (fun q => base ≤ q) s.heap H locs) (hc1 : n0 + cells = h.length) (hc2 : z0 + slots = sm_sz h)
    (hm1 : h'.length ≤ n0 + R.cells) (hm2 : sm_sz h' ≤ z0 + R.slots) (hs : sm_step lk RO NV cq ini nL d .lcmp pc lv sk h = some (pc', lv', sk', h'))
    (k : ∀ (ls' : Array Slot) (H' : Heap) (locs' : List Loc) (cells' slots' : Nat), lv_has ls' nL (sm_lv (sm_ad st base) lv') → va_P D cl (sm_w (sm_ad st base) cA base h') H' → va_S (fun q => base ≤ q) s.heap H' locs' → n0 + cells' = h'.length → z0 + slots' = sm_sz h' → W p l e R s m args below meth c H' locs' cells' slots' Q (F0 m pc' ls' (sk'.map (sm_v (sm_ad st base))))) :
    W p l e R s m args below meth c H locs cells slots Q (F0 m pc ls (sk.map (sm_v (sm_ad st base)))) := by
    have hs1 := sm_l2_eq hs
    clear hs
    obtain ⟨x, y, r, e0, hs⟩ := hs1
    subst e0
    cases hs
    exact W.lcmp hx hb hdg (k _ _ _ _ _ hl hP hS hc1 hc2)
set_option maxHeartbeats 1000000 in
theorem sn_ineg {p : Program} {l : Launch} {e : Env} {R : Room} {s : State} {m : MethodId} {args : Array Value} {below : List Frame} {meth : Method} {c : Code} {H : Heap} {locs : List Loc} {cells slots : Nat} {Q : State → Prop} {cc : ByteArray} {nL n0 z0 d base : Nat} {st : Nat → Nat} {cA : Nat → ClassId} {D : va_G} {cl : List vw_C} {Cq own : String} {cq : Nat} {RO : List (Nat × (Nat → Int32))} {SF : List (String × String × String × Nat)} {Ts : List Jvm.Cond} {tyc : Nat → Nat → FieldType} {NV : Nat → List Value} {lk : Nat → Option sm_L} {ini : Bool} 
    (hx : p.tables.exec = Jvm.exec) (hb : c.code = cc) (hml : c.maxLocals = nL) (hown : s.vm.findClass own = some m.cls) (hts : ∀ w ∈ Ts, w.before args s = true) (hok : ∀ ix q, lk ix = some q → sm_okL cl tyc SF Cq Ts own ix q) (hcl : sm_okC cl tyc NV Ts) (hcq : ∃ r : vw_C, cl[cq]? = some r ∧ r.1 = Cq)
    (hini : ini = true → meth.name = "<init>") (hE : sm_env D cl cA Cq RO SF st base s s.heap) (hb0 : s.heap.size = base + n0) (hd : d ≤ R.frames) (hdl : d * 100 ≤ R.locals) (har : ∀ q t, sm_aty q = some t → Jvm.Cond.arrayClass (newarray.typeOf q) ∈ Ts)
    {len pc pc' : Nat} {lv lv' : sm_V} {sk sk' : List Value} {h h' : sm_H} {ls : Array Slot} (hdg : decode cc pc = .ok (.ineg, sm_len .ineg len)) (hl : lv_has ls nL (sm_lv (sm_ad st base) lv)) (hP : va_P D cl (sm_w (sm_ad st base) cA base h) H) (hS : va_S (fun q => base ≤ q) s.heap H locs) (hc1 : n0 + cells = h.length) (hc2 : z0 + slots = sm_sz h)
    (hm1 : h'.length ≤ n0 + R.cells) (hm2 : sm_sz h' ≤ z0 + R.slots) (hs : sm_step lk RO NV cq ini nL d .ineg pc lv sk h = some (pc', lv', sk', h'))
    (k : ∀ (ls' : Array Slot) (H' : Heap) (locs' : List Loc) (cells' slots' : Nat), lv_has ls' nL (sm_lv (sm_ad st base) lv') → va_P D cl (sm_w (sm_ad st base) cA base h') H' → va_S (fun q => base ≤ q) s.heap H' locs' → n0 + cells' = h'.length → z0 + slots' = sm_sz h' → W p l e R s m args below meth c H' locs' cells' slots' Q (F0 m pc' ls' (sk'.map (sm_v (sm_ad st base))))) :
    W p l e R s m args below meth c H locs cells slots Q (F0 m pc ls (sk.map (sm_v (sm_ad st base)))) := by
    have hs1 := sm_i1_eq hs
    clear hs
    obtain ⟨x, r, e0, hs⟩ := hs1
    subst e0
    cases hs
    exact lv_ineg hx hb hdg (k _ _ _ _ _ hl hP hS hc1 hc2)
set_option maxHeartbeats 1000000 in
theorem sn_i2l {p : Program} {l : Launch} {e : Env} {R : Room} {s : State} {m : MethodId} {args : Array Value} {below : List Frame} {meth : Method} {c : Code} {H : Heap} {locs : List Loc} {cells slots : Nat} {Q : State → Prop} {cc : ByteArray} {nL n0 z0 d base : Nat} {st : Nat → Nat} {cA : Nat → ClassId} {D : va_G} {cl : List vw_C} {Cq own : String} {cq : Nat} {RO : List (Nat × (Nat → Int32))} {SF : List (String × String × String × Nat)} {Ts : List Jvm.Cond} {tyc : Nat → Nat → FieldType} {NV : Nat → List Value} {lk : Nat → Option sm_L} {ini : Bool} 
    (hx : p.tables.exec = Jvm.exec) (hb : c.code = cc) (hml : c.maxLocals = nL) (hown : s.vm.findClass own = some m.cls) (hts : ∀ w ∈ Ts, w.before args s = true) (hok : ∀ ix q, lk ix = some q → sm_okL cl tyc SF Cq Ts own ix q) (hcl : sm_okC cl tyc NV Ts) (hcq : ∃ r : vw_C, cl[cq]? = some r ∧ r.1 = Cq)
    (hini : ini = true → meth.name = "<init>") (hE : sm_env D cl cA Cq RO SF st base s s.heap) (hb0 : s.heap.size = base + n0) (hd : d ≤ R.frames) (hdl : d * 100 ≤ R.locals) (har : ∀ q t, sm_aty q = some t → Jvm.Cond.arrayClass (newarray.typeOf q) ∈ Ts)
    {len pc pc' : Nat} {lv lv' : sm_V} {sk sk' : List Value} {h h' : sm_H} {ls : Array Slot} (hdg : decode cc pc = .ok (.i2l, sm_len .i2l len)) (hl : lv_has ls nL (sm_lv (sm_ad st base) lv)) (hP : va_P D cl (sm_w (sm_ad st base) cA base h) H) (hS : va_S (fun q => base ≤ q) s.heap H locs) (hc1 : n0 + cells = h.length) (hc2 : z0 + slots = sm_sz h)
    (hm1 : h'.length ≤ n0 + R.cells) (hm2 : sm_sz h' ≤ z0 + R.slots) (hs : sm_step lk RO NV cq ini nL d .i2l pc lv sk h = some (pc', lv', sk', h'))
    (k : ∀ (ls' : Array Slot) (H' : Heap) (locs' : List Loc) (cells' slots' : Nat), lv_has ls' nL (sm_lv (sm_ad st base) lv') → va_P D cl (sm_w (sm_ad st base) cA base h') H' → va_S (fun q => base ≤ q) s.heap H' locs' → n0 + cells' = h'.length → z0 + slots' = sm_sz h' → W p l e R s m args below meth c H' locs' cells' slots' Q (F0 m pc' ls' (sk'.map (sm_v (sm_ad st base))))) :
    W p l e R s m args below meth c H locs cells slots Q (F0 m pc ls (sk.map (sm_v (sm_ad st base)))) := by
    have hs1 := sm_i1_eq hs
    clear hs
    obtain ⟨x, r, e0, hs⟩ := hs1
    subst e0
    cases hs
    exact lv_i2l hx hb hdg rfl (k _ _ _ _ _ hl hP hS hc1 hc2)
set_option maxHeartbeats 1000000 in
theorem sn_i2b {p : Program} {l : Launch} {e : Env} {R : Room} {s : State} {m : MethodId} {args : Array Value} {below : List Frame} {meth : Method} {c : Code} {H : Heap} {locs : List Loc} {cells slots : Nat} {Q : State → Prop} {cc : ByteArray} {nL n0 z0 d base : Nat} {st : Nat → Nat} {cA : Nat → ClassId} {D : va_G} {cl : List vw_C} {Cq own : String} {cq : Nat} {RO : List (Nat × (Nat → Int32))} {SF : List (String × String × String × Nat)} {Ts : List Jvm.Cond} {tyc : Nat → Nat → FieldType} {NV : Nat → List Value} {lk : Nat → Option sm_L} {ini : Bool} 
    (hx : p.tables.exec = Jvm.exec) (hb : c.code = cc) (hml : c.maxLocals = nL) (hown : s.vm.findClass own = some m.cls) (hts : ∀ w ∈ Ts, w.before args s = true) (hok : ∀ ix q, lk ix = some q → sm_okL cl tyc SF Cq Ts own ix q) (hcl : sm_okC cl tyc NV Ts) (hcq : ∃ r : vw_C, cl[cq]? = some r ∧ r.1 = Cq)
    (hini : ini = true → meth.name = "<init>") (hE : sm_env D cl cA Cq RO SF st base s s.heap) (hb0 : s.heap.size = base + n0) (hd : d ≤ R.frames) (hdl : d * 100 ≤ R.locals) (har : ∀ q t, sm_aty q = some t → Jvm.Cond.arrayClass (newarray.typeOf q) ∈ Ts)
    {len pc pc' : Nat} {lv lv' : sm_V} {sk sk' : List Value} {h h' : sm_H} {ls : Array Slot} (hdg : decode cc pc = .ok (.i2b, sm_len .i2b len)) (hl : lv_has ls nL (sm_lv (sm_ad st base) lv)) (hP : va_P D cl (sm_w (sm_ad st base) cA base h) H) (hS : va_S (fun q => base ≤ q) s.heap H locs) (hc1 : n0 + cells = h.length) (hc2 : z0 + slots = sm_sz h)
    (hm1 : h'.length ≤ n0 + R.cells) (hm2 : sm_sz h' ≤ z0 + R.slots) (hs : sm_step lk RO NV cq ini nL d .i2b pc lv sk h = some (pc', lv', sk', h'))
    (k : ∀ (ls' : Array Slot) (H' : Heap) (locs' : List Loc) (cells' slots' : Nat), lv_has ls' nL (sm_lv (sm_ad st base) lv') → va_P D cl (sm_w (sm_ad st base) cA base h') H' → va_S (fun q => base ≤ q) s.heap H' locs' → n0 + cells' = h'.length → z0 + slots' = sm_sz h' → W p l e R s m args below meth c H' locs' cells' slots' Q (F0 m pc' ls' (sk'.map (sm_v (sm_ad st base))))) :
    W p l e R s m args below meth c H locs cells slots Q (F0 m pc ls (sk.map (sm_v (sm_ad st base)))) := by
    have hs1 := sm_i1_eq hs
    clear hs
    obtain ⟨x, r, e0, hs⟩ := hs1
    subst e0
    cases hs
    exact lv_i2b hx hb hdg rfl (k _ _ _ _ _ hl hP hS hc1 hc2)
set_option maxHeartbeats 1000000 in
theorem sn_i2s {p : Program} {l : Launch} {e : Env} {R : Room} {s : State} {m : MethodId} {args : Array Value} {below : List Frame} {meth : Method} {c : Code} {H : Heap} {locs : List Loc} {cells slots : Nat} {Q : State → Prop} {cc : ByteArray} {nL n0 z0 d base : Nat} {st : Nat → Nat} {cA : Nat → ClassId} {D : va_G} {cl : List vw_C} {Cq own : String} {cq : Nat} {RO : List (Nat × (Nat → Int32))} {SF : List (String × String × String × Nat)} {Ts : List Jvm.Cond} {tyc : Nat → Nat → FieldType} {NV : Nat → List Value} {lk : Nat → Option sm_L} {ini : Bool} 
    (hx : p.tables.exec = Jvm.exec) (hb : c.code = cc) (hml : c.maxLocals = nL) (hown : s.vm.findClass own = some m.cls) (hts : ∀ w ∈ Ts, w.before args s = true) (hok : ∀ ix q, lk ix = some q → sm_okL cl tyc SF Cq Ts own ix q) (hcl : sm_okC cl tyc NV Ts) (hcq : ∃ r : vw_C, cl[cq]? = some r ∧ r.1 = Cq)
    (hini : ini = true → meth.name = "<init>") (hE : sm_env D cl cA Cq RO SF st base s s.heap) (hb0 : s.heap.size = base + n0) (hd : d ≤ R.frames) (hdl : d * 100 ≤ R.locals) (har : ∀ q t, sm_aty q = some t → Jvm.Cond.arrayClass (newarray.typeOf q) ∈ Ts)
    {len pc pc' : Nat} {lv lv' : sm_V} {sk sk' : List Value} {h h' : sm_H} {ls : Array Slot} (hdg : decode cc pc = .ok (.i2s, sm_len .i2s len)) (hl : lv_has ls nL (sm_lv (sm_ad st base) lv)) (hP : va_P D cl (sm_w (sm_ad st base) cA base h) H) (hS : va_S (fun q => base ≤ q) s.heap H locs) (hc1 : n0 + cells = h.length) (hc2 : z0 + slots = sm_sz h)
    (hm1 : h'.length ≤ n0 + R.cells) (hm2 : sm_sz h' ≤ z0 + R.slots) (hs : sm_step lk RO NV cq ini nL d .i2s pc lv sk h = some (pc', lv', sk', h'))
    (k : ∀ (ls' : Array Slot) (H' : Heap) (locs' : List Loc) (cells' slots' : Nat), lv_has ls' nL (sm_lv (sm_ad st base) lv') → va_P D cl (sm_w (sm_ad st base) cA base h') H' → va_S (fun q => base ≤ q) s.heap H' locs' → n0 + cells' = h'.length → z0 + slots' = sm_sz h' → W p l e R s m args below meth c H' locs' cells' slots' Q (F0 m pc' ls' (sk'.map (sm_v (sm_ad st base))))) :
    W p l e R s m args below meth c H locs cells slots Q (F0 m pc ls (sk.map (sm_v (sm_ad st base)))) := by
    have hs1 := sm_i1_eq hs
    clear hs
    obtain ⟨x, r, e0, hs⟩ := hs1
    subst e0
    cases hs
    exact lv_i2s hx hb hdg rfl (k _ _ _ _ _ hl hP hS hc1 hc2)
set_option maxHeartbeats 1000000 in
theorem sn_l2i {p : Program} {l : Launch} {e : Env} {R : Room} {s : State} {m : MethodId} {args : Array Value} {below : List Frame} {meth : Method} {c : Code} {H : Heap} {locs : List Loc} {cells slots : Nat} {Q : State → Prop} {cc : ByteArray} {nL n0 z0 d base : Nat} {st : Nat → Nat} {cA : Nat → ClassId} {D : va_G} {cl : List vw_C} {Cq own : String} {cq : Nat} {RO : List (Nat × (Nat → Int32))} {SF : List (String × String × String × Nat)} {Ts : List Jvm.Cond} {tyc : Nat → Nat → FieldType} {NV : Nat → List Value} {lk : Nat → Option sm_L} {ini : Bool} 
    (hx : p.tables.exec = Jvm.exec) (hb : c.code = cc) (hml : c.maxLocals = nL) (hown : s.vm.findClass own = some m.cls) (hts : ∀ w ∈ Ts, w.before args s = true) (hok : ∀ ix q, lk ix = some q → sm_okL cl tyc SF Cq Ts own ix q) (hcl : sm_okC cl tyc NV Ts) (hcq : ∃ r : vw_C, cl[cq]? = some r ∧ r.1 = Cq)
    (hini : ini = true → meth.name = "<init>") (hE : sm_env D cl cA Cq RO SF st base s s.heap) (hb0 : s.heap.size = base + n0) (hd : d ≤ R.frames) (hdl : d * 100 ≤ R.locals) (har : ∀ q t, sm_aty q = some t → Jvm.Cond.arrayClass (newarray.typeOf q) ∈ Ts)
    {len pc pc' : Nat} {lv lv' : sm_V} {sk sk' : List Value} {h h' : sm_H} {ls : Array Slot} (hdg : decode cc pc = .ok (.l2i, sm_len .l2i len)) (hl : lv_has ls nL (sm_lv (sm_ad st base) lv)) (hP : va_P D cl (sm_w (sm_ad st base) cA base h) H) (hS : va_S (fun q => base ≤ q) s.heap H locs) (hc1 : n0 + cells = h.length) (hc2 : z0 + slots = sm_sz h)
    (hm1 : h'.length ≤ n0 + R.cells) (hm2 : sm_sz h' ≤ z0 + R.slots) (hs : sm_step lk RO NV cq ini nL d .l2i pc lv sk h = some (pc', lv', sk', h'))
    (k : ∀ (ls' : Array Slot) (H' : Heap) (locs' : List Loc) (cells' slots' : Nat), lv_has ls' nL (sm_lv (sm_ad st base) lv') → va_P D cl (sm_w (sm_ad st base) cA base h') H' → va_S (fun q => base ≤ q) s.heap H' locs' → n0 + cells' = h'.length → z0 + slots' = sm_sz h' → W p l e R s m args below meth c H' locs' cells' slots' Q (F0 m pc' ls' (sk'.map (sm_v (sm_ad st base))))) :
    W p l e R s m args below meth c H locs cells slots Q (F0 m pc ls (sk.map (sm_v (sm_ad st base)))) := by
    have hs1 := sm_l1_eq hs
    clear hs
    obtain ⟨x, r, e0, hs⟩ := hs1
    subst e0
    cases hs
    exact lv_l2i hx hb hdg rfl (k _ _ _ _ _ hl hP hS hc1 hc2)
set_option maxHeartbeats 1000000 in
theorem sn_dup {p : Program} {l : Launch} {e : Env} {R : Room} {s : State} {m : MethodId} {args : Array Value} {below : List Frame} {meth : Method} {c : Code} {H : Heap} {locs : List Loc} {cells slots : Nat} {Q : State → Prop} {cc : ByteArray} {nL n0 z0 d base : Nat} {st : Nat → Nat} {cA : Nat → ClassId} {D : va_G} {cl : List vw_C} {Cq own : String} {cq : Nat} {RO : List (Nat × (Nat → Int32))} {SF : List (String × String × String × Nat)} {Ts : List Jvm.Cond} {tyc : Nat → Nat → FieldType} {NV : Nat → List Value} {lk : Nat → Option sm_L} {ini : Bool} 
    (hx : p.tables.exec = Jvm.exec) (hb : c.code = cc) (hml : c.maxLocals = nL) (hown : s.vm.findClass own = some m.cls) (hts : ∀ w ∈ Ts, w.before args s = true) (hok : ∀ ix q, lk ix = some q → sm_okL cl tyc SF Cq Ts own ix q) (hcl : sm_okC cl tyc NV Ts) (hcq : ∃ r : vw_C, cl[cq]? = some r ∧ r.1 = Cq)
    (hini : ini = true → meth.name = "<init>") (hE : sm_env D cl cA Cq RO SF st base s s.heap) (hb0 : s.heap.size = base + n0) (hd : d ≤ R.frames) (hdl : d * 100 ≤ R.locals) (har : ∀ q t, sm_aty q = some t → Jvm.Cond.arrayClass (newarray.typeOf q) ∈ Ts)
    {len pc pc' : Nat} {lv lv' : sm_V} {sk sk' : List Value} {h h' : sm_H} {ls : Array Slot} (hdg : decode cc pc = .ok (.dup, sm_len .dup len)) (hl : lv_has ls nL (sm_lv (sm_ad st base) lv)) (hP : va_P D cl (sm_w (sm_ad st base) cA base h) H) (hS : va_S (fun q => base ≤ q) s.heap H locs) (hc1 : n0 + cells = h.length) (hc2 : z0 + slots = sm_sz h)
    (hm1 : h'.length ≤ n0 + R.cells) (hm2 : sm_sz h' ≤ z0 + R.slots) (hs : sm_step lk RO NV cq ini nL d .dup pc lv sk h = some (pc', lv', sk', h'))
    (k : ∀ (ls' : Array Slot) (H' : Heap) (locs' : List Loc) (cells' slots' : Nat), lv_has ls' nL (sm_lv (sm_ad st base) lv') → va_P D cl (sm_w (sm_ad st base) cA base h') H' → va_S (fun q => base ≤ q) s.heap H' locs' → n0 + cells' = h'.length → z0 + slots' = sm_sz h' → W p l e R s m args below meth c H' locs' cells' slots' Q (F0 m pc' ls' (sk'.map (sm_v (sm_ad st base))))) :
    W p l e R s m args below meth c H locs cells slots Q (F0 m pc ls (sk.map (sm_v (sm_ad st base)))) := by
    dsimp only [sm_step] at hs
    split at hs
    · split at hs
      · rename_i hv
        cases hs
        exact lv_dup hx hb hdg ((sm_v_cat _ _).trans hv) (k _ _ _ _ _ hl hP hS hc1 hc2)
      · cases hs
    · cases hs
set_option maxHeartbeats 1000000 in
theorem sn_pop {p : Program} {l : Launch} {e : Env} {R : Room} {s : State} {m : MethodId} {args : Array Value} {below : List Frame} {meth : Method} {c : Code} {H : Heap} {locs : List Loc} {cells slots : Nat} {Q : State → Prop} {cc : ByteArray} {nL n0 z0 d base : Nat} {st : Nat → Nat} {cA : Nat → ClassId} {D : va_G} {cl : List vw_C} {Cq own : String} {cq : Nat} {RO : List (Nat × (Nat → Int32))} {SF : List (String × String × String × Nat)} {Ts : List Jvm.Cond} {tyc : Nat → Nat → FieldType} {NV : Nat → List Value} {lk : Nat → Option sm_L} {ini : Bool} 
    (hx : p.tables.exec = Jvm.exec) (hb : c.code = cc) (hml : c.maxLocals = nL) (hown : s.vm.findClass own = some m.cls) (hts : ∀ w ∈ Ts, w.before args s = true) (hok : ∀ ix q, lk ix = some q → sm_okL cl tyc SF Cq Ts own ix q) (hcl : sm_okC cl tyc NV Ts) (hcq : ∃ r : vw_C, cl[cq]? = some r ∧ r.1 = Cq)
    (hini : ini = true → meth.name = "<init>") (hE : sm_env D cl cA Cq RO SF st base s s.heap) (hb0 : s.heap.size = base + n0) (hd : d ≤ R.frames) (hdl : d * 100 ≤ R.locals) (har : ∀ q t, sm_aty q = some t → Jvm.Cond.arrayClass (newarray.typeOf q) ∈ Ts)
    {len pc pc' : Nat} {lv lv' : sm_V} {sk sk' : List Value} {h h' : sm_H} {ls : Array Slot} (hdg : decode cc pc = .ok (.pop, sm_len .pop len)) (hl : lv_has ls nL (sm_lv (sm_ad st base) lv)) (hP : va_P D cl (sm_w (sm_ad st base) cA base h) H) (hS : va_S (fun q => base ≤ q) s.heap H locs) (hc1 : n0 + cells = h.length) (hc2 : z0 + slots = sm_sz h)
    (hm1 : h'.length ≤ n0 + R.cells) (hm2 : sm_sz h' ≤ z0 + R.slots) (hs : sm_step lk RO NV cq ini nL d .pop pc lv sk h = some (pc', lv', sk', h'))
    (k : ∀ (ls' : Array Slot) (H' : Heap) (locs' : List Loc) (cells' slots' : Nat), lv_has ls' nL (sm_lv (sm_ad st base) lv') → va_P D cl (sm_w (sm_ad st base) cA base h') H' → va_S (fun q => base ≤ q) s.heap H' locs' → n0 + cells' = h'.length → z0 + slots' = sm_sz h' → W p l e R s m args below meth c H' locs' cells' slots' Q (F0 m pc' ls' (sk'.map (sm_v (sm_ad st base))))) :
    W p l e R s m args below meth c H locs cells slots Q (F0 m pc ls (sk.map (sm_v (sm_ad st base)))) := by
    dsimp only [sm_step] at hs
    split at hs
    · split at hs
      · rename_i hv
        cases hs
        exact lv_pop hx hb hdg ((sm_v_cat _ _).trans hv) (k _ _ _ _ _ hl hP hS hc1 hc2)
      · cases hs
    · cases hs
set_option maxHeartbeats 1000000 in
theorem sn_dup2 {p : Program} {l : Launch} {e : Env} {R : Room} {s : State} {m : MethodId} {args : Array Value} {below : List Frame} {meth : Method} {c : Code} {H : Heap} {locs : List Loc} {cells slots : Nat} {Q : State → Prop} {cc : ByteArray} {nL n0 z0 d base : Nat} {st : Nat → Nat} {cA : Nat → ClassId} {D : va_G} {cl : List vw_C} {Cq own : String} {cq : Nat} {RO : List (Nat × (Nat → Int32))} {SF : List (String × String × String × Nat)} {Ts : List Jvm.Cond} {tyc : Nat → Nat → FieldType} {NV : Nat → List Value} {lk : Nat → Option sm_L} {ini : Bool} 
    (hx : p.tables.exec = Jvm.exec) (hb : c.code = cc) (hml : c.maxLocals = nL) (hown : s.vm.findClass own = some m.cls) (hts : ∀ w ∈ Ts, w.before args s = true) (hok : ∀ ix q, lk ix = some q → sm_okL cl tyc SF Cq Ts own ix q) (hcl : sm_okC cl tyc NV Ts) (hcq : ∃ r : vw_C, cl[cq]? = some r ∧ r.1 = Cq)
    (hini : ini = true → meth.name = "<init>") (hE : sm_env D cl cA Cq RO SF st base s s.heap) (hb0 : s.heap.size = base + n0) (hd : d ≤ R.frames) (hdl : d * 100 ≤ R.locals) (har : ∀ q t, sm_aty q = some t → Jvm.Cond.arrayClass (newarray.typeOf q) ∈ Ts)
    {len pc pc' : Nat} {lv lv' : sm_V} {sk sk' : List Value} {h h' : sm_H} {ls : Array Slot} (hdg : decode cc pc = .ok (.dup2, sm_len .dup2 len)) (hl : lv_has ls nL (sm_lv (sm_ad st base) lv)) (hP : va_P D cl (sm_w (sm_ad st base) cA base h) H) (hS : va_S (fun q => base ≤ q) s.heap H locs) (hc1 : n0 + cells = h.length) (hc2 : z0 + slots = sm_sz h)
    (hm1 : h'.length ≤ n0 + R.cells) (hm2 : sm_sz h' ≤ z0 + R.slots) (hs : sm_step lk RO NV cq ini nL d .dup2 pc lv sk h = some (pc', lv', sk', h'))
    (k : ∀ (ls' : Array Slot) (H' : Heap) (locs' : List Loc) (cells' slots' : Nat), lv_has ls' nL (sm_lv (sm_ad st base) lv') → va_P D cl (sm_w (sm_ad st base) cA base h') H' → va_S (fun q => base ≤ q) s.heap H' locs' → n0 + cells' = h'.length → z0 + slots' = sm_sz h' → W p l e R s m args below meth c H' locs' cells' slots' Q (F0 m pc' ls' (sk'.map (sm_v (sm_ad st base))))) :
    W p l e R s m args below meth c H locs cells slots Q (F0 m pc ls (sk.map (sm_v (sm_ad st base)))) := by
    dsimp only [sm_step] at hs
    split at hs
    · split at hs
      · rename_i hv
        cases hs
        exact lv_dup2_11 hx hb hdg ((sm_v_cat _ _).trans hv.1) ((sm_v_cat _ _).trans hv.2) (k _ _ _ _ _ hl hP hS hc1 hc2)
      · cases hs
    · cases hs
set_option maxHeartbeats 1000000 in
theorem sn_dup_x1 {p : Program} {l : Launch} {e : Env} {R : Room} {s : State} {m : MethodId} {args : Array Value} {below : List Frame} {meth : Method} {c : Code} {H : Heap} {locs : List Loc} {cells slots : Nat} {Q : State → Prop} {cc : ByteArray} {nL n0 z0 d base : Nat} {st : Nat → Nat} {cA : Nat → ClassId} {D : va_G} {cl : List vw_C} {Cq own : String} {cq : Nat} {RO : List (Nat × (Nat → Int32))} {SF : List (String × String × String × Nat)} {Ts : List Jvm.Cond} {tyc : Nat → Nat → FieldType} {NV : Nat → List Value} {lk : Nat → Option sm_L} {ini : Bool} 
    (hx : p.tables.exec = Jvm.exec) (hb : c.code = cc) (hml : c.maxLocals = nL) (hown : s.vm.findClass own = some m.cls) (hts : ∀ w ∈ Ts, w.before args s = true) (hok : ∀ ix q, lk ix = some q → sm_okL cl tyc SF Cq Ts own ix q) (hcl : sm_okC cl tyc NV Ts) (hcq : ∃ r : vw_C, cl[cq]? = some r ∧ r.1 = Cq)
    (hini : ini = true → meth.name = "<init>") (hE : sm_env D cl cA Cq RO SF st base s s.heap) (hb0 : s.heap.size = base + n0) (hd : d ≤ R.frames) (hdl : d * 100 ≤ R.locals) (har : ∀ q t, sm_aty q = some t → Jvm.Cond.arrayClass (newarray.typeOf q) ∈ Ts)
    {len pc pc' : Nat} {lv lv' : sm_V} {sk sk' : List Value} {h h' : sm_H} {ls : Array Slot} (hdg : decode cc pc = .ok (.dup_x1, sm_len .dup_x1 len)) (hl : lv_has ls nL (sm_lv (sm_ad st base) lv)) (hP : va_P D cl (sm_w (sm_ad st base) cA base h) H) (hS : va_S (fun q => base ≤ q) s.heap H locs) (hc1 : n0 + cells = h.length) (hc2 : z0 + slots = sm_sz h)
    (hm1 : h'.length ≤ n0 + R.cells) (hm2 : sm_sz h' ≤ z0 + R.slots) (hs : sm_step lk RO NV cq ini nL d .dup_x1 pc lv sk h = some (pc', lv', sk', h'))
    (k : ∀ (ls' : Array Slot) (H' : Heap) (locs' : List Loc) (cells' slots' : Nat), lv_has ls' nL (sm_lv (sm_ad st base) lv') → va_P D cl (sm_w (sm_ad st base) cA base h') H' → va_S (fun q => base ≤ q) s.heap H' locs' → n0 + cells' = h'.length → z0 + slots' = sm_sz h' → W p l e R s m args below meth c H' locs' cells' slots' Q (F0 m pc' ls' (sk'.map (sm_v (sm_ad st base))))) :
    W p l e R s m args below meth c H locs cells slots Q (F0 m pc ls (sk.map (sm_v (sm_ad st base)))) := by
    dsimp only [sm_step] at hs
    split at hs
    · split at hs
      · rename_i hv
        cases hs
        exact lv_dup_x1 hx hb hdg ((sm_v_cat _ _).trans hv.1) ((sm_v_cat _ _).trans hv.2) (k _ _ _ _ _ hl hP hS hc1 hc2)
      · cases hs
    · cases hs
set_option maxHeartbeats 1000000 in
theorem sn_goto {p : Program} {l : Launch} {e : Env} {R : Room} {s : State} {m : MethodId} {args : Array Value} {below : List Frame} {meth : Method} {c : Code} {H : Heap} {locs : List Loc} {cells slots : Nat} {Q : State → Prop} {cc : ByteArray} {nL n0 z0 d base : Nat} {st : Nat → Nat} {cA : Nat → ClassId} {D : va_G} {cl : List vw_C} {Cq own : String} {cq : Nat} {RO : List (Nat × (Nat → Int32))} {SF : List (String × String × String × Nat)} {Ts : List Jvm.Cond} {tyc : Nat → Nat → FieldType} {NV : Nat → List Value} {lk : Nat → Option sm_L} {ini : Bool} {off : Int}
    (hx : p.tables.exec = Jvm.exec) (hb : c.code = cc) (hml : c.maxLocals = nL) (hown : s.vm.findClass own = some m.cls) (hts : ∀ w ∈ Ts, w.before args s = true) (hok : ∀ ix q, lk ix = some q → sm_okL cl tyc SF Cq Ts own ix q) (hcl : sm_okC cl tyc NV Ts) (hcq : ∃ r : vw_C, cl[cq]? = some r ∧ r.1 = Cq)
    (hini : ini = true → meth.name = "<init>") (hE : sm_env D cl cA Cq RO SF st base s s.heap) (hb0 : s.heap.size = base + n0) (hd : d ≤ R.frames) (hdl : d * 100 ≤ R.locals) (har : ∀ q t, sm_aty q = some t → Jvm.Cond.arrayClass (newarray.typeOf q) ∈ Ts)
    {len pc pc' : Nat} {lv lv' : sm_V} {sk sk' : List Value} {h h' : sm_H} {ls : Array Slot} (hdg : decode cc pc = .ok ((.goto off), sm_len (.goto off) len)) (hl : lv_has ls nL (sm_lv (sm_ad st base) lv)) (hP : va_P D cl (sm_w (sm_ad st base) cA base h) H) (hS : va_S (fun q => base ≤ q) s.heap H locs) (hc1 : n0 + cells = h.length) (hc2 : z0 + slots = sm_sz h)
    (hm1 : h'.length ≤ n0 + R.cells) (hm2 : sm_sz h' ≤ z0 + R.slots) (hs : sm_step lk RO NV cq ini nL d (.goto off) pc lv sk h = some (pc', lv', sk', h'))
    (k : ∀ (ls' : Array Slot) (H' : Heap) (locs' : List Loc) (cells' slots' : Nat), lv_has ls' nL (sm_lv (sm_ad st base) lv') → va_P D cl (sm_w (sm_ad st base) cA base h') H' → va_S (fun q => base ≤ q) s.heap H' locs' → n0 + cells' = h'.length → z0 + slots' = sm_sz h' → W p l e R s m args below meth c H' locs' cells' slots' Q (F0 m pc' ls' (sk'.map (sm_v (sm_ad st base))))) :
    W p l e R s m args below meth c H locs cells slots Q (F0 m pc ls (sk.map (sm_v (sm_ad st base)))) := by
    obtain ⟨t, ht, hs⟩ := sm_jump_eq hs
    cases hs
    exact lv_goto hx hb hdg (sm_tg_eq ht) (k _ _ _ _ _ hl hP hS hc1 hc2)
set_option maxHeartbeats 1000000 in
theorem sn_ifCond_eq {p : Program} {l : Launch} {e : Env} {R : Room} {s : State} {m : MethodId} {args : Array Value} {below : List Frame} {meth : Method} {c : Code} {H : Heap} {locs : List Loc} {cells slots : Nat} {Q : State → Prop} {cc : ByteArray} {nL n0 z0 d base : Nat} {st : Nat → Nat} {cA : Nat → ClassId} {D : va_G} {cl : List vw_C} {Cq own : String} {cq : Nat} {RO : List (Nat × (Nat → Int32))} {SF : List (String × String × String × Nat)} {Ts : List Jvm.Cond} {tyc : Nat → Nat → FieldType} {NV : Nat → List Value} {lk : Nat → Option sm_L} {ini : Bool} {off : Int}
    (hx : p.tables.exec = Jvm.exec) (hb : c.code = cc) (hml : c.maxLocals = nL) (hown : s.vm.findClass own = some m.cls) (hts : ∀ w ∈ Ts, w.before args s = true) (hok : ∀ ix q, lk ix = some q → sm_okL cl tyc SF Cq Ts own ix q) (hcl : sm_okC cl tyc NV Ts) (hcq : ∃ r : vw_C, cl[cq]? = some r ∧ r.1 = Cq)
    (hini : ini = true → meth.name = "<init>") (hE : sm_env D cl cA Cq RO SF st base s s.heap) (hb0 : s.heap.size = base + n0) (hd : d ≤ R.frames) (hdl : d * 100 ≤ R.locals) (har : ∀ q t, sm_aty q = some t → Jvm.Cond.arrayClass (newarray.typeOf q) ∈ Ts)
    {len pc pc' : Nat} {lv lv' : sm_V} {sk sk' : List Value} {h h' : sm_H} {ls : Array Slot} (hdg : decode cc pc = .ok ((.ifCond .eq off), sm_len (.ifCond .eq off) len)) (hl : lv_has ls nL (sm_lv (sm_ad st base) lv)) (hP : va_P D cl (sm_w (sm_ad st base) cA base h) H) (hS : va_S (fun q => base ≤ q) s.heap H locs) (hc1 : n0 + cells = h.length) (hc2 : z0 + slots = sm_sz h)
    (hm1 : h'.length ≤ n0 + R.cells) (hm2 : sm_sz h' ≤ z0 + R.slots) (hs : sm_step lk RO NV cq ini nL d (.ifCond .eq off) pc lv sk h = some (pc', lv', sk', h'))
    (k : ∀ (ls' : Array Slot) (H' : Heap) (locs' : List Loc) (cells' slots' : Nat), lv_has ls' nL (sm_lv (sm_ad st base) lv') → va_P D cl (sm_w (sm_ad st base) cA base h') H' → va_S (fun q => base ≤ q) s.heap H' locs' → n0 + cells' = h'.length → z0 + slots' = sm_sz h' → W p l e R s m args below meth c H' locs' cells' slots' Q (F0 m pc' ls' (sk'.map (sm_v (sm_ad st base))))) :
    W p l e R s m args below meth c H locs cells slots Q (F0 m pc ls (sk.map (sm_v (sm_ad st base)))) := by
    have hs1 := sm_i1_eq hs
    clear hs
    obtain ⟨x, r, e0, hs⟩ := hs1
    subst e0
    obtain ⟨t, ht, hs⟩ := sm_br_eq hs
    cases hs
    refine lv_if_eq hx hb hdg (sm_tg_eq ht) (fun h9 => ?_) (fun h9 => ?_)
    · have k9 := k _ _ _ _ _ hl hP hS hc1 hc2
      rw [if_pos (show sm_c1 .eq x = true from by unfold sm_c1; simpa using h9)] at k9
      exact k9
    · have k9 := k _ _ _ _ _ hl hP hS hc1 hc2
      rw [if_neg (show ¬ sm_c1 .eq x = true from by unfold sm_c1; simpa using h9)] at k9
      exact k9
set_option maxHeartbeats 1000000 in
theorem sn_if_icmp_eq {p : Program} {l : Launch} {e : Env} {R : Room} {s : State} {m : MethodId} {args : Array Value} {below : List Frame} {meth : Method} {c : Code} {H : Heap} {locs : List Loc} {cells slots : Nat} {Q : State → Prop} {cc : ByteArray} {nL n0 z0 d base : Nat} {st : Nat → Nat} {cA : Nat → ClassId} {D : va_G} {cl : List vw_C} {Cq own : String} {cq : Nat} {RO : List (Nat × (Nat → Int32))} {SF : List (String × String × String × Nat)} {Ts : List Jvm.Cond} {tyc : Nat → Nat → FieldType} {NV : Nat → List Value} {lk : Nat → Option sm_L} {ini : Bool} {off : Int}
    (hx : p.tables.exec = Jvm.exec) (hb : c.code = cc) (hml : c.maxLocals = nL) (hown : s.vm.findClass own = some m.cls) (hts : ∀ w ∈ Ts, w.before args s = true) (hok : ∀ ix q, lk ix = some q → sm_okL cl tyc SF Cq Ts own ix q) (hcl : sm_okC cl tyc NV Ts) (hcq : ∃ r : vw_C, cl[cq]? = some r ∧ r.1 = Cq)
    (hini : ini = true → meth.name = "<init>") (hE : sm_env D cl cA Cq RO SF st base s s.heap) (hb0 : s.heap.size = base + n0) (hd : d ≤ R.frames) (hdl : d * 100 ≤ R.locals) (har : ∀ q t, sm_aty q = some t → Jvm.Cond.arrayClass (newarray.typeOf q) ∈ Ts)
    {len pc pc' : Nat} {lv lv' : sm_V} {sk sk' : List Value} {h h' : sm_H} {ls : Array Slot} (hdg : decode cc pc = .ok ((.if_icmp .eq off), sm_len (.if_icmp .eq off) len)) (hl : lv_has ls nL (sm_lv (sm_ad st base) lv)) (hP : va_P D cl (sm_w (sm_ad st base) cA base h) H) (hS : va_S (fun q => base ≤ q) s.heap H locs) (hc1 : n0 + cells = h.length) (hc2 : z0 + slots = sm_sz h)
    (hm1 : h'.length ≤ n0 + R.cells) (hm2 : sm_sz h' ≤ z0 + R.slots) (hs : sm_step lk RO NV cq ini nL d (.if_icmp .eq off) pc lv sk h = some (pc', lv', sk', h'))
    (k : ∀ (ls' : Array Slot) (H' : Heap) (locs' : List Loc) (cells' slots' : Nat), lv_has ls' nL (sm_lv (sm_ad st base) lv') → va_P D cl (sm_w (sm_ad st base) cA base h') H' → va_S (fun q => base ≤ q) s.heap H' locs' → n0 + cells' = h'.length → z0 + slots' = sm_sz h' → W p l e R s m args below meth c H' locs' cells' slots' Q (F0 m pc' ls' (sk'.map (sm_v (sm_ad st base))))) :
    W p l e R s m args below meth c H locs cells slots Q (F0 m pc ls (sk.map (sm_v (sm_ad st base)))) := by
    have hs1 := sm_i2_eq hs
    clear hs
    obtain ⟨x, y, r, e0, hs⟩ := hs1
    subst e0
    obtain ⟨t, ht, hs⟩ := sm_br_eq hs
    cases hs
    refine lv_icmp_eq hx hb hdg (sm_tg_eq ht) (fun h9 => ?_) (fun h9 => ?_)
    · have k9 := k _ _ _ _ _ hl hP hS hc1 hc2
      rw [if_pos (show sm_c2 .eq x y = true from by unfold sm_c2; simpa using h9)] at k9
      exact k9
    · have k9 := k _ _ _ _ _ hl hP hS hc1 hc2
      rw [if_neg (show ¬ sm_c2 .eq x y = true from by unfold sm_c2; simpa using h9)] at k9
      exact k9
set_option maxHeartbeats 1000000 in
theorem sn_ifCond_ne {p : Program} {l : Launch} {e : Env} {R : Room} {s : State} {m : MethodId} {args : Array Value} {below : List Frame} {meth : Method} {c : Code} {H : Heap} {locs : List Loc} {cells slots : Nat} {Q : State → Prop} {cc : ByteArray} {nL n0 z0 d base : Nat} {st : Nat → Nat} {cA : Nat → ClassId} {D : va_G} {cl : List vw_C} {Cq own : String} {cq : Nat} {RO : List (Nat × (Nat → Int32))} {SF : List (String × String × String × Nat)} {Ts : List Jvm.Cond} {tyc : Nat → Nat → FieldType} {NV : Nat → List Value} {lk : Nat → Option sm_L} {ini : Bool} {off : Int}
    (hx : p.tables.exec = Jvm.exec) (hb : c.code = cc) (hml : c.maxLocals = nL) (hown : s.vm.findClass own = some m.cls) (hts : ∀ w ∈ Ts, w.before args s = true) (hok : ∀ ix q, lk ix = some q → sm_okL cl tyc SF Cq Ts own ix q) (hcl : sm_okC cl tyc NV Ts) (hcq : ∃ r : vw_C, cl[cq]? = some r ∧ r.1 = Cq)
    (hini : ini = true → meth.name = "<init>") (hE : sm_env D cl cA Cq RO SF st base s s.heap) (hb0 : s.heap.size = base + n0) (hd : d ≤ R.frames) (hdl : d * 100 ≤ R.locals) (har : ∀ q t, sm_aty q = some t → Jvm.Cond.arrayClass (newarray.typeOf q) ∈ Ts)
    {len pc pc' : Nat} {lv lv' : sm_V} {sk sk' : List Value} {h h' : sm_H} {ls : Array Slot} (hdg : decode cc pc = .ok ((.ifCond .ne off), sm_len (.ifCond .ne off) len)) (hl : lv_has ls nL (sm_lv (sm_ad st base) lv)) (hP : va_P D cl (sm_w (sm_ad st base) cA base h) H) (hS : va_S (fun q => base ≤ q) s.heap H locs) (hc1 : n0 + cells = h.length) (hc2 : z0 + slots = sm_sz h)
    (hm1 : h'.length ≤ n0 + R.cells) (hm2 : sm_sz h' ≤ z0 + R.slots) (hs : sm_step lk RO NV cq ini nL d (.ifCond .ne off) pc lv sk h = some (pc', lv', sk', h'))
    (k : ∀ (ls' : Array Slot) (H' : Heap) (locs' : List Loc) (cells' slots' : Nat), lv_has ls' nL (sm_lv (sm_ad st base) lv') → va_P D cl (sm_w (sm_ad st base) cA base h') H' → va_S (fun q => base ≤ q) s.heap H' locs' → n0 + cells' = h'.length → z0 + slots' = sm_sz h' → W p l e R s m args below meth c H' locs' cells' slots' Q (F0 m pc' ls' (sk'.map (sm_v (sm_ad st base))))) :
    W p l e R s m args below meth c H locs cells slots Q (F0 m pc ls (sk.map (sm_v (sm_ad st base)))) := by
    have hs1 := sm_i1_eq hs
    clear hs
    obtain ⟨x, r, e0, hs⟩ := hs1
    subst e0
    obtain ⟨t, ht, hs⟩ := sm_br_eq hs
    cases hs
    refine lv_if_ne hx hb hdg (sm_tg_eq ht) (fun h9 => ?_) (fun h9 => ?_)
    · have k9 := k _ _ _ _ _ hl hP hS hc1 hc2
      rw [if_pos (show sm_c1 .ne x = true from by unfold sm_c1; simpa using h9)] at k9
      exact k9
    · have k9 := k _ _ _ _ _ hl hP hS hc1 hc2
      rw [if_neg (show ¬ sm_c1 .ne x = true from by unfold sm_c1; simpa using h9)] at k9
      exact k9
set_option maxHeartbeats 1000000 in
theorem sn_if_icmp_ne {p : Program} {l : Launch} {e : Env} {R : Room} {s : State} {m : MethodId} {args : Array Value} {below : List Frame} {meth : Method} {c : Code} {H : Heap} {locs : List Loc} {cells slots : Nat} {Q : State → Prop} {cc : ByteArray} {nL n0 z0 d base : Nat} {st : Nat → Nat} {cA : Nat → ClassId} {D : va_G} {cl : List vw_C} {Cq own : String} {cq : Nat} {RO : List (Nat × (Nat → Int32))} {SF : List (String × String × String × Nat)} {Ts : List Jvm.Cond} {tyc : Nat → Nat → FieldType} {NV : Nat → List Value} {lk : Nat → Option sm_L} {ini : Bool} {off : Int}
    (hx : p.tables.exec = Jvm.exec) (hb : c.code = cc) (hml : c.maxLocals = nL) (hown : s.vm.findClass own = some m.cls) (hts : ∀ w ∈ Ts, w.before args s = true) (hok : ∀ ix q, lk ix = some q → sm_okL cl tyc SF Cq Ts own ix q) (hcl : sm_okC cl tyc NV Ts) (hcq : ∃ r : vw_C, cl[cq]? = some r ∧ r.1 = Cq)
    (hini : ini = true → meth.name = "<init>") (hE : sm_env D cl cA Cq RO SF st base s s.heap) (hb0 : s.heap.size = base + n0) (hd : d ≤ R.frames) (hdl : d * 100 ≤ R.locals) (har : ∀ q t, sm_aty q = some t → Jvm.Cond.arrayClass (newarray.typeOf q) ∈ Ts)
    {len pc pc' : Nat} {lv lv' : sm_V} {sk sk' : List Value} {h h' : sm_H} {ls : Array Slot} (hdg : decode cc pc = .ok ((.if_icmp .ne off), sm_len (.if_icmp .ne off) len)) (hl : lv_has ls nL (sm_lv (sm_ad st base) lv)) (hP : va_P D cl (sm_w (sm_ad st base) cA base h) H) (hS : va_S (fun q => base ≤ q) s.heap H locs) (hc1 : n0 + cells = h.length) (hc2 : z0 + slots = sm_sz h)
    (hm1 : h'.length ≤ n0 + R.cells) (hm2 : sm_sz h' ≤ z0 + R.slots) (hs : sm_step lk RO NV cq ini nL d (.if_icmp .ne off) pc lv sk h = some (pc', lv', sk', h'))
    (k : ∀ (ls' : Array Slot) (H' : Heap) (locs' : List Loc) (cells' slots' : Nat), lv_has ls' nL (sm_lv (sm_ad st base) lv') → va_P D cl (sm_w (sm_ad st base) cA base h') H' → va_S (fun q => base ≤ q) s.heap H' locs' → n0 + cells' = h'.length → z0 + slots' = sm_sz h' → W p l e R s m args below meth c H' locs' cells' slots' Q (F0 m pc' ls' (sk'.map (sm_v (sm_ad st base))))) :
    W p l e R s m args below meth c H locs cells slots Q (F0 m pc ls (sk.map (sm_v (sm_ad st base)))) := by
    have hs1 := sm_i2_eq hs
    clear hs
    obtain ⟨x, y, r, e0, hs⟩ := hs1
    subst e0
    obtain ⟨t, ht, hs⟩ := sm_br_eq hs
    cases hs
    refine lv_icmp_ne hx hb hdg (sm_tg_eq ht) (fun h9 => ?_) (fun h9 => ?_)
    · have k9 := k _ _ _ _ _ hl hP hS hc1 hc2
      rw [if_pos (show sm_c2 .ne x y = true from by unfold sm_c2; simpa using h9)] at k9
      exact k9
    · have k9 := k _ _ _ _ _ hl hP hS hc1 hc2
      rw [if_neg (show ¬ sm_c2 .ne x y = true from by unfold sm_c2; simpa using h9)] at k9
      exact k9
set_option maxHeartbeats 1000000 in
theorem sn_ifCond_lt {p : Program} {l : Launch} {e : Env} {R : Room} {s : State} {m : MethodId} {args : Array Value} {below : List Frame} {meth : Method} {c : Code} {H : Heap} {locs : List Loc} {cells slots : Nat} {Q : State → Prop} {cc : ByteArray} {nL n0 z0 d base : Nat} {st : Nat → Nat} {cA : Nat → ClassId} {D : va_G} {cl : List vw_C} {Cq own : String} {cq : Nat} {RO : List (Nat × (Nat → Int32))} {SF : List (String × String × String × Nat)} {Ts : List Jvm.Cond} {tyc : Nat → Nat → FieldType} {NV : Nat → List Value} {lk : Nat → Option sm_L} {ini : Bool} {off : Int}
    (hx : p.tables.exec = Jvm.exec) (hb : c.code = cc) (hml : c.maxLocals = nL) (hown : s.vm.findClass own = some m.cls) (hts : ∀ w ∈ Ts, w.before args s = true) (hok : ∀ ix q, lk ix = some q → sm_okL cl tyc SF Cq Ts own ix q) (hcl : sm_okC cl tyc NV Ts) (hcq : ∃ r : vw_C, cl[cq]? = some r ∧ r.1 = Cq)
    (hini : ini = true → meth.name = "<init>") (hE : sm_env D cl cA Cq RO SF st base s s.heap) (hb0 : s.heap.size = base + n0) (hd : d ≤ R.frames) (hdl : d * 100 ≤ R.locals) (har : ∀ q t, sm_aty q = some t → Jvm.Cond.arrayClass (newarray.typeOf q) ∈ Ts)
    {len pc pc' : Nat} {lv lv' : sm_V} {sk sk' : List Value} {h h' : sm_H} {ls : Array Slot} (hdg : decode cc pc = .ok ((.ifCond .lt off), sm_len (.ifCond .lt off) len)) (hl : lv_has ls nL (sm_lv (sm_ad st base) lv)) (hP : va_P D cl (sm_w (sm_ad st base) cA base h) H) (hS : va_S (fun q => base ≤ q) s.heap H locs) (hc1 : n0 + cells = h.length) (hc2 : z0 + slots = sm_sz h)
    (hm1 : h'.length ≤ n0 + R.cells) (hm2 : sm_sz h' ≤ z0 + R.slots) (hs : sm_step lk RO NV cq ini nL d (.ifCond .lt off) pc lv sk h = some (pc', lv', sk', h'))
    (k : ∀ (ls' : Array Slot) (H' : Heap) (locs' : List Loc) (cells' slots' : Nat), lv_has ls' nL (sm_lv (sm_ad st base) lv') → va_P D cl (sm_w (sm_ad st base) cA base h') H' → va_S (fun q => base ≤ q) s.heap H' locs' → n0 + cells' = h'.length → z0 + slots' = sm_sz h' → W p l e R s m args below meth c H' locs' cells' slots' Q (F0 m pc' ls' (sk'.map (sm_v (sm_ad st base))))) :
    W p l e R s m args below meth c H locs cells slots Q (F0 m pc ls (sk.map (sm_v (sm_ad st base)))) := by
    have hs1 := sm_i1_eq hs
    clear hs
    obtain ⟨x, r, e0, hs⟩ := hs1
    subst e0
    obtain ⟨t, ht, hs⟩ := sm_br_eq hs
    cases hs
    refine lv_if_lt hx hb hdg (sm_tg_eq ht) (fun h9 => ?_) (fun h9 => ?_)
    · have k9 := k _ _ _ _ _ hl hP hS hc1 hc2
      rw [if_pos (show sm_c1 .lt x = true from by unfold sm_c1; simpa using h9)] at k9
      exact k9
    · have k9 := k _ _ _ _ _ hl hP hS hc1 hc2
      rw [if_neg (show ¬ sm_c1 .lt x = true from by unfold sm_c1; simpa using h9)] at k9
      exact k9
set_option maxHeartbeats 1000000 in
theorem sn_if_icmp_lt {p : Program} {l : Launch} {e : Env} {R : Room} {s : State} {m : MethodId} {args : Array Value} {below : List Frame} {meth : Method} {c : Code} {H : Heap} {locs : List Loc} {cells slots : Nat} {Q : State → Prop} {cc : ByteArray} {nL n0 z0 d base : Nat} {st : Nat → Nat} {cA : Nat → ClassId} {D : va_G} {cl : List vw_C} {Cq own : String} {cq : Nat} {RO : List (Nat × (Nat → Int32))} {SF : List (String × String × String × Nat)} {Ts : List Jvm.Cond} {tyc : Nat → Nat → FieldType} {NV : Nat → List Value} {lk : Nat → Option sm_L} {ini : Bool} {off : Int}
    (hx : p.tables.exec = Jvm.exec) (hb : c.code = cc) (hml : c.maxLocals = nL) (hown : s.vm.findClass own = some m.cls) (hts : ∀ w ∈ Ts, w.before args s = true) (hok : ∀ ix q, lk ix = some q → sm_okL cl tyc SF Cq Ts own ix q) (hcl : sm_okC cl tyc NV Ts) (hcq : ∃ r : vw_C, cl[cq]? = some r ∧ r.1 = Cq)
    (hini : ini = true → meth.name = "<init>") (hE : sm_env D cl cA Cq RO SF st base s s.heap) (hb0 : s.heap.size = base + n0) (hd : d ≤ R.frames) (hdl : d * 100 ≤ R.locals) (har : ∀ q t, sm_aty q = some t → Jvm.Cond.arrayClass (newarray.typeOf q) ∈ Ts)
    {len pc pc' : Nat} {lv lv' : sm_V} {sk sk' : List Value} {h h' : sm_H} {ls : Array Slot} (hdg : decode cc pc = .ok ((.if_icmp .lt off), sm_len (.if_icmp .lt off) len)) (hl : lv_has ls nL (sm_lv (sm_ad st base) lv)) (hP : va_P D cl (sm_w (sm_ad st base) cA base h) H) (hS : va_S (fun q => base ≤ q) s.heap H locs) (hc1 : n0 + cells = h.length) (hc2 : z0 + slots = sm_sz h)
    (hm1 : h'.length ≤ n0 + R.cells) (hm2 : sm_sz h' ≤ z0 + R.slots) (hs : sm_step lk RO NV cq ini nL d (.if_icmp .lt off) pc lv sk h = some (pc', lv', sk', h'))
    (k : ∀ (ls' : Array Slot) (H' : Heap) (locs' : List Loc) (cells' slots' : Nat), lv_has ls' nL (sm_lv (sm_ad st base) lv') → va_P D cl (sm_w (sm_ad st base) cA base h') H' → va_S (fun q => base ≤ q) s.heap H' locs' → n0 + cells' = h'.length → z0 + slots' = sm_sz h' → W p l e R s m args below meth c H' locs' cells' slots' Q (F0 m pc' ls' (sk'.map (sm_v (sm_ad st base))))) :
    W p l e R s m args below meth c H locs cells slots Q (F0 m pc ls (sk.map (sm_v (sm_ad st base)))) := by
    have hs1 := sm_i2_eq hs
    clear hs
    obtain ⟨x, y, r, e0, hs⟩ := hs1
    subst e0
    obtain ⟨t, ht, hs⟩ := sm_br_eq hs
    cases hs
    refine lv_icmp_lt hx hb hdg (sm_tg_eq ht) (fun h9 => ?_) (fun h9 => ?_)
    · have k9 := k _ _ _ _ _ hl hP hS hc1 hc2
      rw [if_pos (show sm_c2 .lt x y = true from by unfold sm_c2; simpa using h9)] at k9
      exact k9
    · have k9 := k _ _ _ _ _ hl hP hS hc1 hc2
      rw [if_neg (show ¬ sm_c2 .lt x y = true from by unfold sm_c2; simpa using h9)] at k9
      exact k9
set_option maxHeartbeats 1000000 in
theorem sn_ifCond_ge {p : Program} {l : Launch} {e : Env} {R : Room} {s : State} {m : MethodId} {args : Array Value} {below : List Frame} {meth : Method} {c : Code} {H : Heap} {locs : List Loc} {cells slots : Nat} {Q : State → Prop} {cc : ByteArray} {nL n0 z0 d base : Nat} {st : Nat → Nat} {cA : Nat → ClassId} {D : va_G} {cl : List vw_C} {Cq own : String} {cq : Nat} {RO : List (Nat × (Nat → Int32))} {SF : List (String × String × String × Nat)} {Ts : List Jvm.Cond} {tyc : Nat → Nat → FieldType} {NV : Nat → List Value} {lk : Nat → Option sm_L} {ini : Bool} {off : Int}
    (hx : p.tables.exec = Jvm.exec) (hb : c.code = cc) (hml : c.maxLocals = nL) (hown : s.vm.findClass own = some m.cls) (hts : ∀ w ∈ Ts, w.before args s = true) (hok : ∀ ix q, lk ix = some q → sm_okL cl tyc SF Cq Ts own ix q) (hcl : sm_okC cl tyc NV Ts) (hcq : ∃ r : vw_C, cl[cq]? = some r ∧ r.1 = Cq)
    (hini : ini = true → meth.name = "<init>") (hE : sm_env D cl cA Cq RO SF st base s s.heap) (hb0 : s.heap.size = base + n0) (hd : d ≤ R.frames) (hdl : d * 100 ≤ R.locals) (har : ∀ q t, sm_aty q = some t → Jvm.Cond.arrayClass (newarray.typeOf q) ∈ Ts)
    {len pc pc' : Nat} {lv lv' : sm_V} {sk sk' : List Value} {h h' : sm_H} {ls : Array Slot} (hdg : decode cc pc = .ok ((.ifCond .ge off), sm_len (.ifCond .ge off) len)) (hl : lv_has ls nL (sm_lv (sm_ad st base) lv)) (hP : va_P D cl (sm_w (sm_ad st base) cA base h) H) (hS : va_S (fun q => base ≤ q) s.heap H locs) (hc1 : n0 + cells = h.length) (hc2 : z0 + slots = sm_sz h)
    (hm1 : h'.length ≤ n0 + R.cells) (hm2 : sm_sz h' ≤ z0 + R.slots) (hs : sm_step lk RO NV cq ini nL d (.ifCond .ge off) pc lv sk h = some (pc', lv', sk', h'))
    (k : ∀ (ls' : Array Slot) (H' : Heap) (locs' : List Loc) (cells' slots' : Nat), lv_has ls' nL (sm_lv (sm_ad st base) lv') → va_P D cl (sm_w (sm_ad st base) cA base h') H' → va_S (fun q => base ≤ q) s.heap H' locs' → n0 + cells' = h'.length → z0 + slots' = sm_sz h' → W p l e R s m args below meth c H' locs' cells' slots' Q (F0 m pc' ls' (sk'.map (sm_v (sm_ad st base))))) :
    W p l e R s m args below meth c H locs cells slots Q (F0 m pc ls (sk.map (sm_v (sm_ad st base)))) := by
    have hs1 := sm_i1_eq hs
    clear hs
    obtain ⟨x, r, e0, hs⟩ := hs1
    subst e0
    obtain ⟨t, ht, hs⟩ := sm_br_eq hs
    cases hs
    refine lv_if_ge hx hb hdg (sm_tg_eq ht) (fun h9 => ?_) (fun h9 => ?_)
    · have k9 := k _ _ _ _ _ hl hP hS hc1 hc2
      rw [if_pos (show sm_c1 .ge x = true from by unfold sm_c1; simpa using h9)] at k9
      exact k9
    · have k9 := k _ _ _ _ _ hl hP hS hc1 hc2
      rw [if_neg (show ¬ sm_c1 .ge x = true from by unfold sm_c1; simpa using h9)] at k9
      exact k9
set_option maxHeartbeats 1000000 in
theorem sn_if_icmp_ge {p : Program} {l : Launch} {e : Env} {R : Room} {s : State} {m : MethodId} {args : Array Value} {below : List Frame} {meth : Method} {c : Code} {H : Heap} {locs : List Loc} {cells slots : Nat} {Q : State → Prop} {cc : ByteArray} {nL n0 z0 d base : Nat} {st : Nat → Nat} {cA : Nat → ClassId} {D : va_G} {cl : List vw_C} {Cq own : String} {cq : Nat} {RO : List (Nat × (Nat → Int32))} {SF : List (String × String × String × Nat)} {Ts : List Jvm.Cond} {tyc : Nat → Nat → FieldType} {NV : Nat → List Value} {lk : Nat → Option sm_L} {ini : Bool} {off : Int}
    (hx : p.tables.exec = Jvm.exec) (hb : c.code = cc) (hml : c.maxLocals = nL) (hown : s.vm.findClass own = some m.cls) (hts : ∀ w ∈ Ts, w.before args s = true) (hok : ∀ ix q, lk ix = some q → sm_okL cl tyc SF Cq Ts own ix q) (hcl : sm_okC cl tyc NV Ts) (hcq : ∃ r : vw_C, cl[cq]? = some r ∧ r.1 = Cq)
    (hini : ini = true → meth.name = "<init>") (hE : sm_env D cl cA Cq RO SF st base s s.heap) (hb0 : s.heap.size = base + n0) (hd : d ≤ R.frames) (hdl : d * 100 ≤ R.locals) (har : ∀ q t, sm_aty q = some t → Jvm.Cond.arrayClass (newarray.typeOf q) ∈ Ts)
    {len pc pc' : Nat} {lv lv' : sm_V} {sk sk' : List Value} {h h' : sm_H} {ls : Array Slot} (hdg : decode cc pc = .ok ((.if_icmp .ge off), sm_len (.if_icmp .ge off) len)) (hl : lv_has ls nL (sm_lv (sm_ad st base) lv)) (hP : va_P D cl (sm_w (sm_ad st base) cA base h) H) (hS : va_S (fun q => base ≤ q) s.heap H locs) (hc1 : n0 + cells = h.length) (hc2 : z0 + slots = sm_sz h)
    (hm1 : h'.length ≤ n0 + R.cells) (hm2 : sm_sz h' ≤ z0 + R.slots) (hs : sm_step lk RO NV cq ini nL d (.if_icmp .ge off) pc lv sk h = some (pc', lv', sk', h'))
    (k : ∀ (ls' : Array Slot) (H' : Heap) (locs' : List Loc) (cells' slots' : Nat), lv_has ls' nL (sm_lv (sm_ad st base) lv') → va_P D cl (sm_w (sm_ad st base) cA base h') H' → va_S (fun q => base ≤ q) s.heap H' locs' → n0 + cells' = h'.length → z0 + slots' = sm_sz h' → W p l e R s m args below meth c H' locs' cells' slots' Q (F0 m pc' ls' (sk'.map (sm_v (sm_ad st base))))) :
    W p l e R s m args below meth c H locs cells slots Q (F0 m pc ls (sk.map (sm_v (sm_ad st base)))) := by
    have hs1 := sm_i2_eq hs
    clear hs
    obtain ⟨x, y, r, e0, hs⟩ := hs1
    subst e0
    obtain ⟨t, ht, hs⟩ := sm_br_eq hs
    cases hs
    refine lv_icmp_ge hx hb hdg (sm_tg_eq ht) (fun h9 => ?_) (fun h9 => ?_)
    · have k9 := k _ _ _ _ _ hl hP hS hc1 hc2
      rw [if_pos (show sm_c2 .ge x y = true from by unfold sm_c2; simpa using h9)] at k9
      exact k9
    · have k9 := k _ _ _ _ _ hl hP hS hc1 hc2
      rw [if_neg (show ¬ sm_c2 .ge x y = true from by unfold sm_c2; simpa using h9)] at k9
      exact k9
set_option maxHeartbeats 1000000 in
theorem sn_ifCond_gt {p : Program} {l : Launch} {e : Env} {R : Room} {s : State} {m : MethodId} {args : Array Value} {below : List Frame} {meth : Method} {c : Code} {H : Heap} {locs : List Loc} {cells slots : Nat} {Q : State → Prop} {cc : ByteArray} {nL n0 z0 d base : Nat} {st : Nat → Nat} {cA : Nat → ClassId} {D : va_G} {cl : List vw_C} {Cq own : String} {cq : Nat} {RO : List (Nat × (Nat → Int32))} {SF : List (String × String × String × Nat)} {Ts : List Jvm.Cond} {tyc : Nat → Nat → FieldType} {NV : Nat → List Value} {lk : Nat → Option sm_L} {ini : Bool} {off : Int}
    (hx : p.tables.exec = Jvm.exec) (hb : c.code = cc) (hml : c.maxLocals = nL) (hown : s.vm.findClass own = some m.cls) (hts : ∀ w ∈ Ts, w.before args s = true) (hok : ∀ ix q, lk ix = some q → sm_okL cl tyc SF Cq Ts own ix q) (hcl : sm_okC cl tyc NV Ts) (hcq : ∃ r : vw_C, cl[cq]? = some r ∧ r.1 = Cq)
    (hini : ini = true → meth.name = "<init>") (hE : sm_env D cl cA Cq RO SF st base s s.heap) (hb0 : s.heap.size = base + n0) (hd : d ≤ R.frames) (hdl : d * 100 ≤ R.locals) (har : ∀ q t, sm_aty q = some t → Jvm.Cond.arrayClass (newarray.typeOf q) ∈ Ts)
    {len pc pc' : Nat} {lv lv' : sm_V} {sk sk' : List Value} {h h' : sm_H} {ls : Array Slot} (hdg : decode cc pc = .ok ((.ifCond .gt off), sm_len (.ifCond .gt off) len)) (hl : lv_has ls nL (sm_lv (sm_ad st base) lv)) (hP : va_P D cl (sm_w (sm_ad st base) cA base h) H) (hS : va_S (fun q => base ≤ q) s.heap H locs) (hc1 : n0 + cells = h.length) (hc2 : z0 + slots = sm_sz h)
    (hm1 : h'.length ≤ n0 + R.cells) (hm2 : sm_sz h' ≤ z0 + R.slots) (hs : sm_step lk RO NV cq ini nL d (.ifCond .gt off) pc lv sk h = some (pc', lv', sk', h'))
    (k : ∀ (ls' : Array Slot) (H' : Heap) (locs' : List Loc) (cells' slots' : Nat), lv_has ls' nL (sm_lv (sm_ad st base) lv') → va_P D cl (sm_w (sm_ad st base) cA base h') H' → va_S (fun q => base ≤ q) s.heap H' locs' → n0 + cells' = h'.length → z0 + slots' = sm_sz h' → W p l e R s m args below meth c H' locs' cells' slots' Q (F0 m pc' ls' (sk'.map (sm_v (sm_ad st base))))) :
    W p l e R s m args below meth c H locs cells slots Q (F0 m pc ls (sk.map (sm_v (sm_ad st base)))) := by
    have hs1 := sm_i1_eq hs
    clear hs
    obtain ⟨x, r, e0, hs⟩ := hs1
    subst e0
    obtain ⟨t, ht, hs⟩ := sm_br_eq hs
    cases hs
    refine lv_if_gt hx hb hdg (sm_tg_eq ht) (fun h9 => ?_) (fun h9 => ?_)
    · have k9 := k _ _ _ _ _ hl hP hS hc1 hc2
      rw [if_pos (show sm_c1 .gt x = true from by unfold sm_c1; simpa using h9)] at k9
      exact k9
    · have k9 := k _ _ _ _ _ hl hP hS hc1 hc2
      rw [if_neg (show ¬ sm_c1 .gt x = true from by unfold sm_c1; simpa using h9)] at k9
      exact k9
set_option maxHeartbeats 1000000 in
theorem sn_if_icmp_gt {p : Program} {l : Launch} {e : Env} {R : Room} {s : State} {m : MethodId} {args : Array Value} {below : List Frame} {meth : Method} {c : Code} {H : Heap} {locs : List Loc} {cells slots : Nat} {Q : State → Prop} {cc : ByteArray} {nL n0 z0 d base : Nat} {st : Nat → Nat} {cA : Nat → ClassId} {D : va_G} {cl : List vw_C} {Cq own : String} {cq : Nat} {RO : List (Nat × (Nat → Int32))} {SF : List (String × String × String × Nat)} {Ts : List Jvm.Cond} {tyc : Nat → Nat → FieldType} {NV : Nat → List Value} {lk : Nat → Option sm_L} {ini : Bool} {off : Int}
    (hx : p.tables.exec = Jvm.exec) (hb : c.code = cc) (hml : c.maxLocals = nL) (hown : s.vm.findClass own = some m.cls) (hts : ∀ w ∈ Ts, w.before args s = true) (hok : ∀ ix q, lk ix = some q → sm_okL cl tyc SF Cq Ts own ix q) (hcl : sm_okC cl tyc NV Ts) (hcq : ∃ r : vw_C, cl[cq]? = some r ∧ r.1 = Cq)
    (hini : ini = true → meth.name = "<init>") (hE : sm_env D cl cA Cq RO SF st base s s.heap) (hb0 : s.heap.size = base + n0) (hd : d ≤ R.frames) (hdl : d * 100 ≤ R.locals) (har : ∀ q t, sm_aty q = some t → Jvm.Cond.arrayClass (newarray.typeOf q) ∈ Ts)
    {len pc pc' : Nat} {lv lv' : sm_V} {sk sk' : List Value} {h h' : sm_H} {ls : Array Slot} (hdg : decode cc pc = .ok ((.if_icmp .gt off), sm_len (.if_icmp .gt off) len)) (hl : lv_has ls nL (sm_lv (sm_ad st base) lv)) (hP : va_P D cl (sm_w (sm_ad st base) cA base h) H) (hS : va_S (fun q => base ≤ q) s.heap H locs) (hc1 : n0 + cells = h.length) (hc2 : z0 + slots = sm_sz h)
    (hm1 : h'.length ≤ n0 + R.cells) (hm2 : sm_sz h' ≤ z0 + R.slots) (hs : sm_step lk RO NV cq ini nL d (.if_icmp .gt off) pc lv sk h = some (pc', lv', sk', h'))
    (k : ∀ (ls' : Array Slot) (H' : Heap) (locs' : List Loc) (cells' slots' : Nat), lv_has ls' nL (sm_lv (sm_ad st base) lv') → va_P D cl (sm_w (sm_ad st base) cA base h') H' → va_S (fun q => base ≤ q) s.heap H' locs' → n0 + cells' = h'.length → z0 + slots' = sm_sz h' → W p l e R s m args below meth c H' locs' cells' slots' Q (F0 m pc' ls' (sk'.map (sm_v (sm_ad st base))))) :
    W p l e R s m args below meth c H locs cells slots Q (F0 m pc ls (sk.map (sm_v (sm_ad st base)))) := by
    have hs1 := sm_i2_eq hs
    clear hs
    obtain ⟨x, y, r, e0, hs⟩ := hs1
    subst e0
    obtain ⟨t, ht, hs⟩ := sm_br_eq hs
    cases hs
    refine lv_icmp_gt hx hb hdg (sm_tg_eq ht) (fun h9 => ?_) (fun h9 => ?_)
    · have k9 := k _ _ _ _ _ hl hP hS hc1 hc2
      rw [if_pos (show sm_c2 .gt x y = true from by unfold sm_c2; simpa using h9)] at k9
      exact k9
    · have k9 := k _ _ _ _ _ hl hP hS hc1 hc2
      rw [if_neg (show ¬ sm_c2 .gt x y = true from by unfold sm_c2; simpa using h9)] at k9
      exact k9
set_option maxHeartbeats 1000000 in
theorem sn_ifCond_le {p : Program} {l : Launch} {e : Env} {R : Room} {s : State} {m : MethodId} {args : Array Value} {below : List Frame} {meth : Method} {c : Code} {H : Heap} {locs : List Loc} {cells slots : Nat} {Q : State → Prop} {cc : ByteArray} {nL n0 z0 d base : Nat} {st : Nat → Nat} {cA : Nat → ClassId} {D : va_G} {cl : List vw_C} {Cq own : String} {cq : Nat} {RO : List (Nat × (Nat → Int32))} {SF : List (String × String × String × Nat)} {Ts : List Jvm.Cond} {tyc : Nat → Nat → FieldType} {NV : Nat → List Value} {lk : Nat → Option sm_L} {ini : Bool} {off : Int}
    (hx : p.tables.exec = Jvm.exec) (hb : c.code = cc) (hml : c.maxLocals = nL) (hown : s.vm.findClass own = some m.cls) (hts : ∀ w ∈ Ts, w.before args s = true) (hok : ∀ ix q, lk ix = some q → sm_okL cl tyc SF Cq Ts own ix q) (hcl : sm_okC cl tyc NV Ts) (hcq : ∃ r : vw_C, cl[cq]? = some r ∧ r.1 = Cq)
    (hini : ini = true → meth.name = "<init>") (hE : sm_env D cl cA Cq RO SF st base s s.heap) (hb0 : s.heap.size = base + n0) (hd : d ≤ R.frames) (hdl : d * 100 ≤ R.locals) (har : ∀ q t, sm_aty q = some t → Jvm.Cond.arrayClass (newarray.typeOf q) ∈ Ts)
    {len pc pc' : Nat} {lv lv' : sm_V} {sk sk' : List Value} {h h' : sm_H} {ls : Array Slot} (hdg : decode cc pc = .ok ((.ifCond .le off), sm_len (.ifCond .le off) len)) (hl : lv_has ls nL (sm_lv (sm_ad st base) lv)) (hP : va_P D cl (sm_w (sm_ad st base) cA base h) H) (hS : va_S (fun q => base ≤ q) s.heap H locs) (hc1 : n0 + cells = h.length) (hc2 : z0 + slots = sm_sz h)
    (hm1 : h'.length ≤ n0 + R.cells) (hm2 : sm_sz h' ≤ z0 + R.slots) (hs : sm_step lk RO NV cq ini nL d (.ifCond .le off) pc lv sk h = some (pc', lv', sk', h'))
    (k : ∀ (ls' : Array Slot) (H' : Heap) (locs' : List Loc) (cells' slots' : Nat), lv_has ls' nL (sm_lv (sm_ad st base) lv') → va_P D cl (sm_w (sm_ad st base) cA base h') H' → va_S (fun q => base ≤ q) s.heap H' locs' → n0 + cells' = h'.length → z0 + slots' = sm_sz h' → W p l e R s m args below meth c H' locs' cells' slots' Q (F0 m pc' ls' (sk'.map (sm_v (sm_ad st base))))) :
    W p l e R s m args below meth c H locs cells slots Q (F0 m pc ls (sk.map (sm_v (sm_ad st base)))) := by
    have hs1 := sm_i1_eq hs
    clear hs
    obtain ⟨x, r, e0, hs⟩ := hs1
    subst e0
    obtain ⟨t, ht, hs⟩ := sm_br_eq hs
    cases hs
    refine lv_if_le hx hb hdg (sm_tg_eq ht) (fun h9 => ?_) (fun h9 => ?_)
    · have k9 := k _ _ _ _ _ hl hP hS hc1 hc2
      rw [if_pos (show sm_c1 .le x = true from by unfold sm_c1; simpa using h9)] at k9
      exact k9
    · have k9 := k _ _ _ _ _ hl hP hS hc1 hc2
      rw [if_neg (show ¬ sm_c1 .le x = true from by unfold sm_c1; simpa using h9)] at k9
      exact k9
set_option maxHeartbeats 1000000 in
theorem sn_if_icmp_le {p : Program} {l : Launch} {e : Env} {R : Room} {s : State} {m : MethodId} {args : Array Value} {below : List Frame} {meth : Method} {c : Code} {H : Heap} {locs : List Loc} {cells slots : Nat} {Q : State → Prop} {cc : ByteArray} {nL n0 z0 d base : Nat} {st : Nat → Nat} {cA : Nat → ClassId} {D : va_G} {cl : List vw_C} {Cq own : String} {cq : Nat} {RO : List (Nat × (Nat → Int32))} {SF : List (String × String × String × Nat)} {Ts : List Jvm.Cond} {tyc : Nat → Nat → FieldType} {NV : Nat → List Value} {lk : Nat → Option sm_L} {ini : Bool} {off : Int}
    (hx : p.tables.exec = Jvm.exec) (hb : c.code = cc) (hml : c.maxLocals = nL) (hown : s.vm.findClass own = some m.cls) (hts : ∀ w ∈ Ts, w.before args s = true) (hok : ∀ ix q, lk ix = some q → sm_okL cl tyc SF Cq Ts own ix q) (hcl : sm_okC cl tyc NV Ts) (hcq : ∃ r : vw_C, cl[cq]? = some r ∧ r.1 = Cq)
    (hini : ini = true → meth.name = "<init>") (hE : sm_env D cl cA Cq RO SF st base s s.heap) (hb0 : s.heap.size = base + n0) (hd : d ≤ R.frames) (hdl : d * 100 ≤ R.locals) (har : ∀ q t, sm_aty q = some t → Jvm.Cond.arrayClass (newarray.typeOf q) ∈ Ts)
    {len pc pc' : Nat} {lv lv' : sm_V} {sk sk' : List Value} {h h' : sm_H} {ls : Array Slot} (hdg : decode cc pc = .ok ((.if_icmp .le off), sm_len (.if_icmp .le off) len)) (hl : lv_has ls nL (sm_lv (sm_ad st base) lv)) (hP : va_P D cl (sm_w (sm_ad st base) cA base h) H) (hS : va_S (fun q => base ≤ q) s.heap H locs) (hc1 : n0 + cells = h.length) (hc2 : z0 + slots = sm_sz h)
    (hm1 : h'.length ≤ n0 + R.cells) (hm2 : sm_sz h' ≤ z0 + R.slots) (hs : sm_step lk RO NV cq ini nL d (.if_icmp .le off) pc lv sk h = some (pc', lv', sk', h'))
    (k : ∀ (ls' : Array Slot) (H' : Heap) (locs' : List Loc) (cells' slots' : Nat), lv_has ls' nL (sm_lv (sm_ad st base) lv') → va_P D cl (sm_w (sm_ad st base) cA base h') H' → va_S (fun q => base ≤ q) s.heap H' locs' → n0 + cells' = h'.length → z0 + slots' = sm_sz h' → W p l e R s m args below meth c H' locs' cells' slots' Q (F0 m pc' ls' (sk'.map (sm_v (sm_ad st base))))) :
    W p l e R s m args below meth c H locs cells slots Q (F0 m pc ls (sk.map (sm_v (sm_ad st base)))) := by
    have hs1 := sm_i2_eq hs
    clear hs
    obtain ⟨x, y, r, e0, hs⟩ := hs1
    subst e0
    obtain ⟨t, ht, hs⟩ := sm_br_eq hs
    cases hs
    refine lv_icmp_le hx hb hdg (sm_tg_eq ht) (fun h9 => ?_) (fun h9 => ?_)
    · have k9 := k _ _ _ _ _ hl hP hS hc1 hc2
      rw [if_pos (show sm_c2 .le x y = true from by unfold sm_c2; simpa using h9)] at k9
      exact k9
    · have k9 := k _ _ _ _ _ hl hP hS hc1 hc2
      rw [if_neg (show ¬ sm_c2 .le x y = true from by unfold sm_c2; simpa using h9)] at k9
      exact k9
set_option maxHeartbeats 1000000 in
theorem sn_tableswitch {p : Program} {l : Launch} {e : Env} {R : Room} {s : State} {m : MethodId} {args : Array Value} {below : List Frame} {meth : Method} {c : Code} {H : Heap} {locs : List Loc} {cells slots : Nat} {Q : State → Prop} {cc : ByteArray} {nL n0 z0 d base : Nat} {st : Nat → Nat} {cA : Nat → ClassId} {D : va_G} {cl : List vw_C} {Cq own : String} {cq : Nat} {RO : List (Nat × (Nat → Int32))} {SF : List (String × String × String × Nat)} {Ts : List Jvm.Cond} {tyc : Nat → Nat → FieldType} {NV : Nat → List Value} {lk : Nat → Option sm_L} {ini : Bool} {dflt lo hi : Int} {offs : Array Int}
    (hx : p.tables.exec = Jvm.exec) (hb : c.code = cc) (hml : c.maxLocals = nL) (hown : s.vm.findClass own = some m.cls) (hts : ∀ w ∈ Ts, w.before args s = true) (hok : ∀ ix q, lk ix = some q → sm_okL cl tyc SF Cq Ts own ix q) (hcl : sm_okC cl tyc NV Ts) (hcq : ∃ r : vw_C, cl[cq]? = some r ∧ r.1 = Cq)
    (hini : ini = true → meth.name = "<init>") (hE : sm_env D cl cA Cq RO SF st base s s.heap) (hb0 : s.heap.size = base + n0) (hd : d ≤ R.frames) (hdl : d * 100 ≤ R.locals) (har : ∀ q t, sm_aty q = some t → Jvm.Cond.arrayClass (newarray.typeOf q) ∈ Ts)
    {len pc pc' : Nat} {lv lv' : sm_V} {sk sk' : List Value} {h h' : sm_H} {ls : Array Slot} (hdg : decode cc pc = .ok ((.tableswitch dflt lo hi offs), sm_len (.tableswitch dflt lo hi offs) len)) (hl : lv_has ls nL (sm_lv (sm_ad st base) lv)) (hP : va_P D cl (sm_w (sm_ad st base) cA base h) H) (hS : va_S (fun q => base ≤ q) s.heap H locs) (hc1 : n0 + cells = h.length) (hc2 : z0 + slots = sm_sz h)
    (hm1 : h'.length ≤ n0 + R.cells) (hm2 : sm_sz h' ≤ z0 + R.slots) (hs : sm_step lk RO NV cq ini nL d (.tableswitch dflt lo hi offs) pc lv sk h = some (pc', lv', sk', h'))
    (k : ∀ (ls' : Array Slot) (H' : Heap) (locs' : List Loc) (cells' slots' : Nat), lv_has ls' nL (sm_lv (sm_ad st base) lv') → va_P D cl (sm_w (sm_ad st base) cA base h') H' → va_S (fun q => base ≤ q) s.heap H' locs' → n0 + cells' = h'.length → z0 + slots' = sm_sz h' → W p l e R s m args below meth c H' locs' cells' slots' Q (F0 m pc' ls' (sk'.map (sm_v (sm_ad st base))))) :
    W p l e R s m args below meth c H locs cells slots Q (F0 m pc ls (sk.map (sm_v (sm_ad st base)))) := by
    have hs1 := sm_i1_eq hs
    clear hs
    obtain ⟨x, r, e0, hs⟩ := hs1
    subst e0
    split at hs
    · rename_i hq
      obtain ⟨t, ht, hs⟩ := sm_jump_eq hs
      cases hs
      exact lv_tableOut hx hb hdg hq (sm_tg_eq ht) (k _ _ _ _ _ hl hP hS hc1 hc2)
    · rename_i hq
      split at hs
      · rename_i o ho
        obtain ⟨t, ht, hs⟩ := sm_jump_eq hs
        cases hs
        exact lv_tableIn hx hb hdg (fun h => hq (Or.inl h)) (fun h => hq (Or.inr h)) ho (sm_tg_eq ht) (k _ _ _ _ _ hl hP hS hc1 hc2)
      · cases hs
set_option maxHeartbeats 1000000 in
theorem sn_lookupswitch {p : Program} {l : Launch} {e : Env} {R : Room} {s : State} {m : MethodId} {args : Array Value} {below : List Frame} {meth : Method} {c : Code} {H : Heap} {locs : List Loc} {cells slots : Nat} {Q : State → Prop} {cc : ByteArray} {nL n0 z0 d base : Nat} {st : Nat → Nat} {cA : Nat → ClassId} {D : va_G} {cl : List vw_C} {Cq own : String} {cq : Nat} {RO : List (Nat × (Nat → Int32))} {SF : List (String × String × String × Nat)} {Ts : List Jvm.Cond} {tyc : Nat → Nat → FieldType} {NV : Nat → List Value} {lk : Nat → Option sm_L} {ini : Bool} {dflt : Int} {ps : Array (Int × Int)}
    (hx : p.tables.exec = Jvm.exec) (hb : c.code = cc) (hml : c.maxLocals = nL) (hown : s.vm.findClass own = some m.cls) (hts : ∀ w ∈ Ts, w.before args s = true) (hok : ∀ ix q, lk ix = some q → sm_okL cl tyc SF Cq Ts own ix q) (hcl : sm_okC cl tyc NV Ts) (hcq : ∃ r : vw_C, cl[cq]? = some r ∧ r.1 = Cq)
    (hini : ini = true → meth.name = "<init>") (hE : sm_env D cl cA Cq RO SF st base s s.heap) (hb0 : s.heap.size = base + n0) (hd : d ≤ R.frames) (hdl : d * 100 ≤ R.locals) (har : ∀ q t, sm_aty q = some t → Jvm.Cond.arrayClass (newarray.typeOf q) ∈ Ts)
    {len pc pc' : Nat} {lv lv' : sm_V} {sk sk' : List Value} {h h' : sm_H} {ls : Array Slot} (hdg : decode cc pc = .ok ((.lookupswitch dflt ps), sm_len (.lookupswitch dflt ps) len)) (hl : lv_has ls nL (sm_lv (sm_ad st base) lv)) (hP : va_P D cl (sm_w (sm_ad st base) cA base h) H) (hS : va_S (fun q => base ≤ q) s.heap H locs) (hc1 : n0 + cells = h.length) (hc2 : z0 + slots = sm_sz h)
    (hm1 : h'.length ≤ n0 + R.cells) (hm2 : sm_sz h' ≤ z0 + R.slots) (hs : sm_step lk RO NV cq ini nL d (.lookupswitch dflt ps) pc lv sk h = some (pc', lv', sk', h'))
    (k : ∀ (ls' : Array Slot) (H' : Heap) (locs' : List Loc) (cells' slots' : Nat), lv_has ls' nL (sm_lv (sm_ad st base) lv') → va_P D cl (sm_w (sm_ad st base) cA base h') H' → va_S (fun q => base ≤ q) s.heap H' locs' → n0 + cells' = h'.length → z0 + slots' = sm_sz h' → W p l e R s m args below meth c H' locs' cells' slots' Q (F0 m pc' ls' (sk'.map (sm_v (sm_ad st base))))) :
    W p l e R s m args below meth c H locs cells slots Q (F0 m pc ls (sk.map (sm_v (sm_ad st base)))) := by
    have hs1 := sm_i1_eq hs
    clear hs
    obtain ⟨x, r, e0, hs⟩ := hs1
    subst e0
    split at hs
    · rename_i hq
      obtain ⟨t, ht, hs⟩ := sm_jump_eq hs
      cases hs
      exact lv_lookup hx hb hdg hq rfl (sm_tg_eq ht) (k _ _ _ _ _ hl hP hS hc1 hc2)
    · cases hs
set_option maxHeartbeats 1000000 in
theorem sn_getfield {p : Program} {l : Launch} {e : Env} {R : Room} {s : State} {m : MethodId} {args : Array Value} {below : List Frame} {meth : Method} {c : Code} {H : Heap} {locs : List Loc} {cells slots : Nat} {Q : State → Prop} {cc : ByteArray} {nL n0 z0 d base : Nat} {st : Nat → Nat} {cA : Nat → ClassId} {D : va_G} {cl : List vw_C} {Cq own : String} {cq : Nat} {RO : List (Nat × (Nat → Int32))} {SF : List (String × String × String × Nat)} {Ts : List Jvm.Cond} {tyc : Nat → Nat → FieldType} {NV : Nat → List Value} {lk : Nat → Option sm_L} {ini : Bool} {ix : Nat}
    (hx : p.tables.exec = Jvm.exec) (hb : c.code = cc) (hml : c.maxLocals = nL) (hown : s.vm.findClass own = some m.cls) (hts : ∀ w ∈ Ts, w.before args s = true) (hok : ∀ ix q, lk ix = some q → sm_okL cl tyc SF Cq Ts own ix q) (hcl : sm_okC cl tyc NV Ts) (hcq : ∃ r : vw_C, cl[cq]? = some r ∧ r.1 = Cq)
    (hini : ini = true → meth.name = "<init>") (hE : sm_env D cl cA Cq RO SF st base s s.heap) (hb0 : s.heap.size = base + n0) (hd : d ≤ R.frames) (hdl : d * 100 ≤ R.locals) (har : ∀ q t, sm_aty q = some t → Jvm.Cond.arrayClass (newarray.typeOf q) ∈ Ts)
    {len pc pc' : Nat} {lv lv' : sm_V} {sk sk' : List Value} {h h' : sm_H} {ls : Array Slot} (hdg : decode cc pc = .ok ((.getfield ix), sm_len (.getfield ix) len)) (hl : lv_has ls nL (sm_lv (sm_ad st base) lv)) (hP : va_P D cl (sm_w (sm_ad st base) cA base h) H) (hS : va_S (fun q => base ≤ q) s.heap H locs) (hc1 : n0 + cells = h.length) (hc2 : z0 + slots = sm_sz h)
    (hm1 : h'.length ≤ n0 + R.cells) (hm2 : sm_sz h' ≤ z0 + R.slots) (hs : sm_step lk RO NV cq ini nL d (.getfield ix) pc lv sk h = some (pc', lv', sk', h'))
    (k : ∀ (ls' : Array Slot) (H' : Heap) (locs' : List Loc) (cells' slots' : Nat), lv_has ls' nL (sm_lv (sm_ad st base) lv') → va_P D cl (sm_w (sm_ad st base) cA base h') H' → va_S (fun q => base ≤ q) s.heap H' locs' → n0 + cells' = h'.length → z0 + slots' = sm_sz h' → W p l e R s m args below meth c H' locs' cells' slots' Q (F0 m pc' ls' (sk'.map (sm_v (sm_ad st base))))) :
    W p l e R s m args below meth c H locs cells slots Q (F0 m pc ls (sk.map (sm_v (sm_ad st base)))) := by
    dsimp only [sm_step] at hs
    split at hs
    · rename_i ci k9 z9 e9
      have hs1 := sm_r1_eq hs
      clear hs
      obtain ⟨a, r, e0, hs⟩ := hs1
      subst e0
      split at hs
      · rename_i fs e1
        split at hs
        · rename_i v e2
          cases hs
          obtain ⟨r0, g1, g2, g3, g4, g5, g6⟩ := (hok ix _ e9).1 rfl
          obtain ⟨o1, o2, o3⟩ := sm_obj_at (ad := sm_ad st base) (cA := cA) (base := base) e1
          have q9 : W p l e R s m args below meth c H locs cells slots Q (F0 m (pc + 3) ls (sm_v (sm_ad st base) v :: r.map (sm_v (sm_ad st base)))) := k _ _ _ _ _ hl hP hS hc1 hc2
          show W p l e R s m args below meth c H locs cells slots Q (F0 m pc ls (.ref (sm_ad st base a) :: r.map (sm_v (sm_ad st base))))
          rw [sm_ad_own o1]
          exact va_get hx hb hts (hcl ci r0 g1).1 hown hE.1 hP (a - 8) o3 g1 k9 g2 (hts _ g3) (fun _ h => h) (by rw [List.getElem?_map, e2]; rfl) hdg q9
        · cases hs
      · cases hs
    · cases hs
set_option maxHeartbeats 1000000 in
theorem sn_putfield {p : Program} {l : Launch} {e : Env} {R : Room} {s : State} {m : MethodId} {args : Array Value} {below : List Frame} {meth : Method} {c : Code} {H : Heap} {locs : List Loc} {cells slots : Nat} {Q : State → Prop} {cc : ByteArray} {nL n0 z0 d base : Nat} {st : Nat → Nat} {cA : Nat → ClassId} {D : va_G} {cl : List vw_C} {Cq own : String} {cq : Nat} {RO : List (Nat × (Nat → Int32))} {SF : List (String × String × String × Nat)} {Ts : List Jvm.Cond} {tyc : Nat → Nat → FieldType} {NV : Nat → List Value} {lk : Nat → Option sm_L} {ini : Bool} {ix : Nat}
    (hx : p.tables.exec = Jvm.exec) (hb : c.code = cc) (hml : c.maxLocals = nL) (hown : s.vm.findClass own = some m.cls) (hts : ∀ w ∈ Ts, w.before args s = true) (hok : ∀ ix q, lk ix = some q → sm_okL cl tyc SF Cq Ts own ix q) (hcl : sm_okC cl tyc NV Ts) (hcq : ∃ r : vw_C, cl[cq]? = some r ∧ r.1 = Cq)
    (hini : ini = true → meth.name = "<init>") (hE : sm_env D cl cA Cq RO SF st base s s.heap) (hb0 : s.heap.size = base + n0) (hd : d ≤ R.frames) (hdl : d * 100 ≤ R.locals) (har : ∀ q t, sm_aty q = some t → Jvm.Cond.arrayClass (newarray.typeOf q) ∈ Ts)
    {len pc pc' : Nat} {lv lv' : sm_V} {sk sk' : List Value} {h h' : sm_H} {ls : Array Slot} (hdg : decode cc pc = .ok ((.putfield ix), sm_len (.putfield ix) len)) (hl : lv_has ls nL (sm_lv (sm_ad st base) lv)) (hP : va_P D cl (sm_w (sm_ad st base) cA base h) H) (hS : va_S (fun q => base ≤ q) s.heap H locs) (hc1 : n0 + cells = h.length) (hc2 : z0 + slots = sm_sz h)
    (hm1 : h'.length ≤ n0 + R.cells) (hm2 : sm_sz h' ≤ z0 + R.slots) (hs : sm_step lk RO NV cq ini nL d (.putfield ix) pc lv sk h = some (pc', lv', sk', h'))
    (k : ∀ (ls' : Array Slot) (H' : Heap) (locs' : List Loc) (cells' slots' : Nat), lv_has ls' nL (sm_lv (sm_ad st base) lv') → va_P D cl (sm_w (sm_ad st base) cA base h') H' → va_S (fun q => base ≤ q) s.heap H' locs' → n0 + cells' = h'.length → z0 + slots' = sm_sz h' → W p l e R s m args below meth c H' locs' cells' slots' Q (F0 m pc' ls' (sk'.map (sm_v (sm_ad st base))))) :
    W p l e R s m args below meth c H locs cells slots Q (F0 m pc ls (sk.map (sm_v (sm_ad st base)))) := by
    dsimp only [sm_step] at hs
    split at hs
    · rename_i ci k9 z9 e9
      split at hs
      · rename_i v a r
        split at hs
        · rename_i fs e1
          split at hs
          · rename_i hq
            cases hs
            obtain ⟨r0, g1, g2, g3, g4, g5, g6⟩ := (hok ix _ e9).1 rfl
            obtain ⟨o1, o2, o3⟩ := sm_obj_at (ad := sm_ad st base) (cA := cA) (base := base) e1
            obtain ⟨w1, w2, w3, w4, w5, w6⟩ := hcl ci r0 g1
            obtain ⟨m1, m2⟩ := sm_may_ok (ad := sm_ad st base) hq.2.1 g4
            have hk2 : ∀ (H1 : Heap) (locs1 : List Loc), va_P D cl ((sm_w (sm_ad st base) cA base h).set (a - 8) (base + (a - 8), .inr (ci, (fs.map (sm_v (sm_ad st base))).set k9 (sm_v (sm_ad st base) v)))) H1 → va_S (fun q => base ≤ q) s.heap H1 locs1 → W p l e R s m args below meth c H1 locs1 cells slots Q (F0 m (pc + 3) ls (sk'.map (sm_v (sm_ad st base)))) := by
              intro H1 locs1 hP1 hS1
              refine k _ H1 locs1 _ _ hl ?_ hS1 (by rw [List.length_set]; exact hc1) (by rw [sm_sz_set _ _ _ _ o2 (by simp [sm_cz])]; exact hc2)
              rw [← sm_w_set]
              show va_P D cl (List.set _ _ (_, .inr (ci, (fs.set k9 v).map (sm_v (sm_ad st base))))) H1
              rw [List.map_set]
              exact hP1
            show W p l e R s m args below meth c H locs cells slots Q (F0 m pc ls (sm_v (sm_ad st base) v :: .ref (sm_ad st base a) :: sk'.map (sm_v (sm_ad st base))))
            rw [sm_ad_own o1]
            by_cases hz : 4 ≤ z9
            · have hi9 : ini = true ∧ z9 < 8 := hq.2.2.elim (fun q => absurd q (by omega)) id
              exact va_putF hx hb hts w1 (tyc ci) w2 w3 hown hE.1 hP (sm_w_D _ _ _ _) hS (a - 8) o3 g1 k9 g2 (hts _ g3) (fun _ h => h) (by rw [g5]; exact decide_eq_true hz) (hini hi9.1) (g6 ⟨hz, hi9.2⟩) (w2 k9 g2) m1 m2 (by rw [List.length_map]; exact hq.1) hdg (fun H1 locs1 hP1 _ hS1 => hk2 H1 locs1 hP1 hS1)
            · exact va_put hx hb hts w1 (tyc ci) w2 w3 hown hE.1 hP (sm_w_D _ _ _ _) hS (a - 8) o3 g1 k9 g2 (hts _ g3) (fun _ h => h) (by rw [g5]; exact decide_eq_false hz) (w2 k9 g2) m1 m2 (by rw [List.length_map]; exact hq.1) hdg (fun H1 locs1 hP1 _ hS1 => hk2 H1 locs1 hP1 hS1)
          · cases hs
        · cases hs
      · cases hs
    · cases hs
set_option maxHeartbeats 1000000 in
theorem sn_getstatic {p : Program} {l : Launch} {e : Env} {R : Room} {s : State} {m : MethodId} {args : Array Value} {below : List Frame} {meth : Method} {c : Code} {H : Heap} {locs : List Loc} {cells slots : Nat} {Q : State → Prop} {cc : ByteArray} {nL n0 z0 d base : Nat} {st : Nat → Nat} {cA : Nat → ClassId} {D : va_G} {cl : List vw_C} {Cq own : String} {cq : Nat} {RO : List (Nat × (Nat → Int32))} {SF : List (String × String × String × Nat)} {Ts : List Jvm.Cond} {tyc : Nat → Nat → FieldType} {NV : Nat → List Value} {lk : Nat → Option sm_L} {ini : Bool} {ix : Nat}
    (hx : p.tables.exec = Jvm.exec) (hb : c.code = cc) (hml : c.maxLocals = nL) (hown : s.vm.findClass own = some m.cls) (hts : ∀ w ∈ Ts, w.before args s = true) (hok : ∀ ix q, lk ix = some q → sm_okL cl tyc SF Cq Ts own ix q) (hcl : sm_okC cl tyc NV Ts) (hcq : ∃ r : vw_C, cl[cq]? = some r ∧ r.1 = Cq)
    (hini : ini = true → meth.name = "<init>") (hE : sm_env D cl cA Cq RO SF st base s s.heap) (hb0 : s.heap.size = base + n0) (hd : d ≤ R.frames) (hdl : d * 100 ≤ R.locals) (har : ∀ q t, sm_aty q = some t → Jvm.Cond.arrayClass (newarray.typeOf q) ∈ Ts)
    {len pc pc' : Nat} {lv lv' : sm_V} {sk sk' : List Value} {h h' : sm_H} {ls : Array Slot} (hdg : decode cc pc = .ok ((.getstatic ix), sm_len (.getstatic ix) len)) (hl : lv_has ls nL (sm_lv (sm_ad st base) lv)) (hP : va_P D cl (sm_w (sm_ad st base) cA base h) H) (hS : va_S (fun q => base ≤ q) s.heap H locs) (hc1 : n0 + cells = h.length) (hc2 : z0 + slots = sm_sz h)
    (hm1 : h'.length ≤ n0 + R.cells) (hm2 : sm_sz h' ≤ z0 + R.slots) (hs : sm_step lk RO NV cq ini nL d (.getstatic ix) pc lv sk h = some (pc', lv', sk', h'))
    (k : ∀ (ls' : Array Slot) (H' : Heap) (locs' : List Loc) (cells' slots' : Nat), lv_has ls' nL (sm_lv (sm_ad st base) lv') → va_P D cl (sm_w (sm_ad st base) cA base h') H' → va_S (fun q => base ≤ q) s.heap H' locs' → n0 + cells' = h'.length → z0 + slots' = sm_sz h' → W p l e R s m args below meth c H' locs' cells' slots' Q (F0 m pc' ls' (sk'.map (sm_v (sm_ad st base))))) :
    W p l e R s m args below meth c H locs cells slots Q (F0 m pc ls (sk.map (sm_v (sm_ad st base)))) := by
    dsimp only [sm_step] at hs
    split at hs
    · rename_i i k9 z9 e9
      split at hs
      · rename_i hi
        cases hs
        obtain ⟨C, n, d9, g1, g2⟩ := (hok ix _ e9).2.2.2.2.2.1 rfl
        have q9 : W p l e R s m args below meth c H locs cells slots Q (F0 m (pc + 3) ls (.ref (sm_ad st base i) :: sk.map (sm_v (sm_ad st base)))) := k _ _ _ _ _ hl hP hS hc1 hc2
        rw [sm_ad_ro hi] at q9
        exact va_gets hx hb (hE.2.2.1 _ g1) hS hown (hts _ g2) (fun _ h => h) hdg q9
      · cases hs
    · cases hs
set_option maxHeartbeats 1000000 in
theorem sn_ldc {p : Program} {l : Launch} {e : Env} {R : Room} {s : State} {m : MethodId} {args : Array Value} {below : List Frame} {meth : Method} {c : Code} {H : Heap} {locs : List Loc} {cells slots : Nat} {Q : State → Prop} {cc : ByteArray} {nL n0 z0 d base : Nat} {st : Nat → Nat} {cA : Nat → ClassId} {D : va_G} {cl : List vw_C} {Cq own : String} {cq : Nat} {RO : List (Nat × (Nat → Int32))} {SF : List (String × String × String × Nat)} {Ts : List Jvm.Cond} {tyc : Nat → Nat → FieldType} {NV : Nat → List Value} {lk : Nat → Option sm_L} {ini : Bool} {ix : Nat}
    (hx : p.tables.exec = Jvm.exec) (hb : c.code = cc) (hml : c.maxLocals = nL) (hown : s.vm.findClass own = some m.cls) (hts : ∀ w ∈ Ts, w.before args s = true) (hok : ∀ ix q, lk ix = some q → sm_okL cl tyc SF Cq Ts own ix q) (hcl : sm_okC cl tyc NV Ts) (hcq : ∃ r : vw_C, cl[cq]? = some r ∧ r.1 = Cq)
    (hini : ini = true → meth.name = "<init>") (hE : sm_env D cl cA Cq RO SF st base s s.heap) (hb0 : s.heap.size = base + n0) (hd : d ≤ R.frames) (hdl : d * 100 ≤ R.locals) (har : ∀ q t, sm_aty q = some t → Jvm.Cond.arrayClass (newarray.typeOf q) ∈ Ts)
    {len pc pc' : Nat} {lv lv' : sm_V} {sk sk' : List Value} {h h' : sm_H} {ls : Array Slot} (hdg : decode cc pc = .ok ((.ldc ix), sm_len (.ldc ix) len)) (hl : lv_has ls nL (sm_lv (sm_ad st base) lv)) (hP : va_P D cl (sm_w (sm_ad st base) cA base h) H) (hS : va_S (fun q => base ≤ q) s.heap H locs) (hc1 : n0 + cells = h.length) (hc2 : z0 + slots = sm_sz h)
    (hm1 : h'.length ≤ n0 + R.cells) (hm2 : sm_sz h' ≤ z0 + R.slots) (hs : sm_step lk RO NV cq ini nL d (.ldc ix) pc lv sk h = some (pc', lv', sk', h'))
    (k : ∀ (ls' : Array Slot) (H' : Heap) (locs' : List Loc) (cells' slots' : Nat), lv_has ls' nL (sm_lv (sm_ad st base) lv') → va_P D cl (sm_w (sm_ad st base) cA base h') H' → va_S (fun q => base ≤ q) s.heap H' locs' → n0 + cells' = h'.length → z0 + slots' = sm_sz h' → W p l e R s m args below meth c H' locs' cells' slots' Q (F0 m pc' ls' (sk'.map (sm_v (sm_ad st base))))) :
    W p l e R s m args below meth c H locs cells slots Q (F0 m pc ls (sk.map (sm_v (sm_ad st base)))) := by
    dsimp only [sm_step] at hs
    split at hs
    · rename_i i9 k9 z9 e9
      cases hs
      exact lv_ldc hx hb hown (hts _ ((hok ix _ e9).2.2.2.1 rfl)) hdg (k _ _ _ _ _ hl hP hS hc1 hc2)
    · cases hs
set_option maxHeartbeats 1000000 in
theorem sn_ldc_w {p : Program} {l : Launch} {e : Env} {R : Room} {s : State} {m : MethodId} {args : Array Value} {below : List Frame} {meth : Method} {c : Code} {H : Heap} {locs : List Loc} {cells slots : Nat} {Q : State → Prop} {cc : ByteArray} {nL n0 z0 d base : Nat} {st : Nat → Nat} {cA : Nat → ClassId} {D : va_G} {cl : List vw_C} {Cq own : String} {cq : Nat} {RO : List (Nat × (Nat → Int32))} {SF : List (String × String × String × Nat)} {Ts : List Jvm.Cond} {tyc : Nat → Nat → FieldType} {NV : Nat → List Value} {lk : Nat → Option sm_L} {ini : Bool} {ix : Nat}
    (hx : p.tables.exec = Jvm.exec) (hb : c.code = cc) (hml : c.maxLocals = nL) (hown : s.vm.findClass own = some m.cls) (hts : ∀ w ∈ Ts, w.before args s = true) (hok : ∀ ix q, lk ix = some q → sm_okL cl tyc SF Cq Ts own ix q) (hcl : sm_okC cl tyc NV Ts) (hcq : ∃ r : vw_C, cl[cq]? = some r ∧ r.1 = Cq)
    (hini : ini = true → meth.name = "<init>") (hE : sm_env D cl cA Cq RO SF st base s s.heap) (hb0 : s.heap.size = base + n0) (hd : d ≤ R.frames) (hdl : d * 100 ≤ R.locals) (har : ∀ q t, sm_aty q = some t → Jvm.Cond.arrayClass (newarray.typeOf q) ∈ Ts)
    {len pc pc' : Nat} {lv lv' : sm_V} {sk sk' : List Value} {h h' : sm_H} {ls : Array Slot} (hdg : decode cc pc = .ok ((.ldc_w ix), sm_len (.ldc_w ix) len)) (hl : lv_has ls nL (sm_lv (sm_ad st base) lv)) (hP : va_P D cl (sm_w (sm_ad st base) cA base h) H) (hS : va_S (fun q => base ≤ q) s.heap H locs) (hc1 : n0 + cells = h.length) (hc2 : z0 + slots = sm_sz h)
    (hm1 : h'.length ≤ n0 + R.cells) (hm2 : sm_sz h' ≤ z0 + R.slots) (hs : sm_step lk RO NV cq ini nL d (.ldc_w ix) pc lv sk h = some (pc', lv', sk', h'))
    (k : ∀ (ls' : Array Slot) (H' : Heap) (locs' : List Loc) (cells' slots' : Nat), lv_has ls' nL (sm_lv (sm_ad st base) lv') → va_P D cl (sm_w (sm_ad st base) cA base h') H' → va_S (fun q => base ≤ q) s.heap H' locs' → n0 + cells' = h'.length → z0 + slots' = sm_sz h' → W p l e R s m args below meth c H' locs' cells' slots' Q (F0 m pc' ls' (sk'.map (sm_v (sm_ad st base))))) :
    W p l e R s m args below meth c H locs cells slots Q (F0 m pc ls (sk.map (sm_v (sm_ad st base)))) := by
    dsimp only [sm_step] at hs
    split at hs
    · rename_i i9 k9 z9 e9
      cases hs
      exact lv_ldcw hx hb hown (hts _ ((hok ix _ e9).2.2.2.1 rfl)) hdg (k _ _ _ _ _ hl hP hS hc1 hc2)
    · cases hs
set_option maxHeartbeats 1000000 in
theorem sn_ldc2_w {p : Program} {l : Launch} {e : Env} {R : Room} {s : State} {m : MethodId} {args : Array Value} {below : List Frame} {meth : Method} {c : Code} {H : Heap} {locs : List Loc} {cells slots : Nat} {Q : State → Prop} {cc : ByteArray} {nL n0 z0 d base : Nat} {st : Nat → Nat} {cA : Nat → ClassId} {D : va_G} {cl : List vw_C} {Cq own : String} {cq : Nat} {RO : List (Nat × (Nat → Int32))} {SF : List (String × String × String × Nat)} {Ts : List Jvm.Cond} {tyc : Nat → Nat → FieldType} {NV : Nat → List Value} {lk : Nat → Option sm_L} {ini : Bool} {ix : Nat}
    (hx : p.tables.exec = Jvm.exec) (hb : c.code = cc) (hml : c.maxLocals = nL) (hown : s.vm.findClass own = some m.cls) (hts : ∀ w ∈ Ts, w.before args s = true) (hok : ∀ ix q, lk ix = some q → sm_okL cl tyc SF Cq Ts own ix q) (hcl : sm_okC cl tyc NV Ts) (hcq : ∃ r : vw_C, cl[cq]? = some r ∧ r.1 = Cq)
    (hini : ini = true → meth.name = "<init>") (hE : sm_env D cl cA Cq RO SF st base s s.heap) (hb0 : s.heap.size = base + n0) (hd : d ≤ R.frames) (hdl : d * 100 ≤ R.locals) (har : ∀ q t, sm_aty q = some t → Jvm.Cond.arrayClass (newarray.typeOf q) ∈ Ts)
    {len pc pc' : Nat} {lv lv' : sm_V} {sk sk' : List Value} {h h' : sm_H} {ls : Array Slot} (hdg : decode cc pc = .ok ((.ldc2_w ix), sm_len (.ldc2_w ix) len)) (hl : lv_has ls nL (sm_lv (sm_ad st base) lv)) (hP : va_P D cl (sm_w (sm_ad st base) cA base h) H) (hS : va_S (fun q => base ≤ q) s.heap H locs) (hc1 : n0 + cells = h.length) (hc2 : z0 + slots = sm_sz h)
    (hm1 : h'.length ≤ n0 + R.cells) (hm2 : sm_sz h' ≤ z0 + R.slots) (hs : sm_step lk RO NV cq ini nL d (.ldc2_w ix) pc lv sk h = some (pc', lv', sk', h'))
    (k : ∀ (ls' : Array Slot) (H' : Heap) (locs' : List Loc) (cells' slots' : Nat), lv_has ls' nL (sm_lv (sm_ad st base) lv') → va_P D cl (sm_w (sm_ad st base) cA base h') H' → va_S (fun q => base ≤ q) s.heap H' locs' → n0 + cells' = h'.length → z0 + slots' = sm_sz h' → W p l e R s m args below meth c H' locs' cells' slots' Q (F0 m pc' ls' (sk'.map (sm_v (sm_ad st base))))) :
    W p l e R s m args below meth c H locs cells slots Q (F0 m pc ls (sk.map (sm_v (sm_ad st base)))) := by
    dsimp only [sm_step] at hs
    split at hs
    · rename_i i9 k9 z9 e9
      cases hs
      exact lv_ldc2 hx hb hown (hts _ ((hok ix _ e9).2.2.2.2.1 rfl)) hdg (k _ _ _ _ _ hl hP hS hc1 hc2)
    · cases hs
set_option maxHeartbeats 1000000 in
theorem sn_new {p : Program} {l : Launch} {e : Env} {R : Room} {s : State} {m : MethodId} {args : Array Value} {below : List Frame} {meth : Method} {c : Code} {H : Heap} {locs : List Loc} {cells slots : Nat} {Q : State → Prop} {cc : ByteArray} {nL n0 z0 d base : Nat} {st : Nat → Nat} {cA : Nat → ClassId} {D : va_G} {cl : List vw_C} {Cq own : String} {cq : Nat} {RO : List (Nat × (Nat → Int32))} {SF : List (String × String × String × Nat)} {Ts : List Jvm.Cond} {tyc : Nat → Nat → FieldType} {NV : Nat → List Value} {lk : Nat → Option sm_L} {ini : Bool} {ix : Nat}
    (hx : p.tables.exec = Jvm.exec) (hb : c.code = cc) (hml : c.maxLocals = nL) (hown : s.vm.findClass own = some m.cls) (hts : ∀ w ∈ Ts, w.before args s = true) (hok : ∀ ix q, lk ix = some q → sm_okL cl tyc SF Cq Ts own ix q) (hcl : sm_okC cl tyc NV Ts) (hcq : ∃ r : vw_C, cl[cq]? = some r ∧ r.1 = Cq)
    (hini : ini = true → meth.name = "<init>") (hE : sm_env D cl cA Cq RO SF st base s s.heap) (hb0 : s.heap.size = base + n0) (hd : d ≤ R.frames) (hdl : d * 100 ≤ R.locals) (har : ∀ q t, sm_aty q = some t → Jvm.Cond.arrayClass (newarray.typeOf q) ∈ Ts)
    {len pc pc' : Nat} {lv lv' : sm_V} {sk sk' : List Value} {h h' : sm_H} {ls : Array Slot} (hdg : decode cc pc = .ok ((.new ix), sm_len (.new ix) len)) (hl : lv_has ls nL (sm_lv (sm_ad st base) lv)) (hP : va_P D cl (sm_w (sm_ad st base) cA base h) H) (hS : va_S (fun q => base ≤ q) s.heap H locs) (hc1 : n0 + cells = h.length) (hc2 : z0 + slots = sm_sz h)
    (hm1 : h'.length ≤ n0 + R.cells) (hm2 : sm_sz h' ≤ z0 + R.slots) (hs : sm_step lk RO NV cq ini nL d (.new ix) pc lv sk h = some (pc', lv', sk', h'))
    (k : ∀ (ls' : Array Slot) (H' : Heap) (locs' : List Loc) (cells' slots' : Nat), lv_has ls' nL (sm_lv (sm_ad st base) lv') → va_P D cl (sm_w (sm_ad st base) cA base h') H' → va_S (fun q => base ≤ q) s.heap H' locs' → n0 + cells' = h'.length → z0 + slots' = sm_sz h' → W p l e R s m args below meth c H' locs' cells' slots' Q (F0 m pc' ls' (sk'.map (sm_v (sm_ad st base))))) :
    W p l e R s m args below meth c H locs cells slots Q (F0 m pc ls (sk.map (sm_v (sm_ad st base)))) := by
    dsimp only [sm_step] at hs
    split at hs
    · rename_i ci k9 z9 e9
      cases hs
      obtain ⟨r0, g1, g2, g3, g4⟩ := (hok ix _ e9).2.2.1 rfl
      obtain ⟨w1, w2, w3, w4, w5, w6⟩ := hcl ci r0 g1
      have hKn := hE.1.1 ci r0 g1
      rw [List.length_append, List.length_cons, List.length_nil] at hm1
      rw [sm_sz_app] at hm2
      have hcz : sm_cz (.inr (ci, NV ci)) = r0.2.2 := w5
      rw [hcz] at hm2
      intro T hT X
      have hz := sm_size hT X hP hS.1 hb0 hc1
      refine W.newcK hx hb hown (hts _ g2) (hts _ g3) (hts _ g4) (g := F0 m pc ls (sk.map (sm_v (sm_ad st base)))) rfl hdg (by omega) (by omega) hKn.2.1 hz (fun H1 kC hkC e1 z1 o1 => ?_) T hT X
      have hk : ∀ (j : Nat) (x : Nat × va_E), (sm_w (sm_ad st base) cA base h)[j]? = some x → H1[x.1]? = H[x.1]? := fun j x hx9 => o1 x.1 (by rw [← hz]; exact (hP j x hx9).lt)
      have hP1 : va_P D cl (sm_w (sm_ad st base) cA base (h ++ [.inr (ci, NV ci)])) H1 := by
        rw [sm_w_app]
        refine (hP.kept hk).app (fun j x hx9 => ?_)
        have hj : j < 1 := (List.getElem?_eq_some_iff.mp hx9).1
        rw [show j = 0 by omega] at hx9
        cases hx9
        show va_at D cl (base + h.length, .inr (ci, (NV ci).map (sm_v (sm_ad st base)))) H1
        rw [w6]
        exact ⟨r0, g1, (u_born (tyc ci) hts w1 hKn hkC e1 w2).to w4⟩
      have hS1 : va_S (fun q => base ≤ q) s.heap H1 locs := ⟨Nat.le_trans hS.1 (by omega), fun x h1 h2 => (o1 x (by rw [← hz]; exact Nat.lt_of_lt_of_le h1 hS.1)).trans (hS.2.1 x h1 h2), hS.2.2⟩
      have q9 : W p l e R s m args below meth c H1 locs (cells + 1) (slots + r0.2.2) Q (F0 m (pc + 3) ls (.ref (sm_ad st base (8 + h.length)) :: sk.map (sm_v (sm_ad st base)))) := k _ _ _ _ _ hl hP1 hS1 (by rw [List.length_append, List.length_cons, List.length_nil]; omega) (by rw [sm_sz_app, hcz]; omega)
      rw [sm_ad_new] at q9
      exact q9
    · cases hs
set_option maxHeartbeats 1000000 in
theorem sn_newarray {p : Program} {l : Launch} {e : Env} {R : Room} {s : State} {m : MethodId} {args : Array Value} {below : List Frame} {meth : Method} {c : Code} {H : Heap} {locs : List Loc} {cells slots : Nat} {Q : State → Prop} {cc : ByteArray} {nL n0 z0 d base : Nat} {st : Nat → Nat} {cA : Nat → ClassId} {D : va_G} {cl : List vw_C} {Cq own : String} {cq : Nat} {RO : List (Nat × (Nat → Int32))} {SF : List (String × String × String × Nat)} {Ts : List Jvm.Cond} {tyc : Nat → Nat → FieldType} {NV : Nat → List Value} {lk : Nat → Option sm_L} {ini : Bool} {q : ArrayType}
    (hx : p.tables.exec = Jvm.exec) (hb : c.code = cc) (hml : c.maxLocals = nL) (hown : s.vm.findClass own = some m.cls) (hts : ∀ w ∈ Ts, w.before args s = true) (hok : ∀ ix q, lk ix = some q → sm_okL cl tyc SF Cq Ts own ix q) (hcl : sm_okC cl tyc NV Ts) (hcq : ∃ r : vw_C, cl[cq]? = some r ∧ r.1 = Cq)
    (hini : ini = true → meth.name = "<init>") (hE : sm_env D cl cA Cq RO SF st base s s.heap) (hb0 : s.heap.size = base + n0) (hd : d ≤ R.frames) (hdl : d * 100 ≤ R.locals) (har : ∀ q t, sm_aty q = some t → Jvm.Cond.arrayClass (newarray.typeOf q) ∈ Ts)
    {len pc pc' : Nat} {lv lv' : sm_V} {sk sk' : List Value} {h h' : sm_H} {ls : Array Slot} (hdg : decode cc pc = .ok ((.newarray q), sm_len (.newarray q) len)) (hl : lv_has ls nL (sm_lv (sm_ad st base) lv)) (hP : va_P D cl (sm_w (sm_ad st base) cA base h) H) (hS : va_S (fun q => base ≤ q) s.heap H locs) (hc1 : n0 + cells = h.length) (hc2 : z0 + slots = sm_sz h)
    (hm1 : h'.length ≤ n0 + R.cells) (hm2 : sm_sz h' ≤ z0 + R.slots) (hs : sm_step lk RO NV cq ini nL d (.newarray q) pc lv sk h = some (pc', lv', sk', h'))
    (k : ∀ (ls' : Array Slot) (H' : Heap) (locs' : List Loc) (cells' slots' : Nat), lv_has ls' nL (sm_lv (sm_ad st base) lv') → va_P D cl (sm_w (sm_ad st base) cA base h') H' → va_S (fun q => base ≤ q) s.heap H' locs' → n0 + cells' = h'.length → z0 + slots' = sm_sz h' → W p l e R s m args below meth c H' locs' cells' slots' Q (F0 m pc' ls' (sk'.map (sm_v (sm_ad st base))))) :
    W p l e R s m args below meth c H locs cells slots Q (F0 m pc ls (sk.map (sm_v (sm_ad st base)))) := by
    dsimp only [sm_step] at hs
    split at hs
    · rename_i t e9
      have hs1 := sm_i1_eq hs
      clear hs
      obtain ⟨n, r, e0, hs⟩ := hs1
      subst e0
      split at hs
      · rename_i hq
        cases hs
        obtain ⟨ty, y1, y2, y3, y4⟩ := sm_aty_ok (cA := cA) (Cq := Cq) (ad := sm_ad st base) e9
        rw [List.length_append, List.length_cons, List.length_nil] at hm1
        rw [sm_sz_app] at hm2
        have hcz : sm_cz (.inl (t, sm_new t n.toNatClampNeg)) = n.toNatClampNeg := by show (sm_new t n.toNatClampNeg).1 = _; unfold sm_new; split <;> rfl
        rw [hcz] at hm2
        intro T hT X
        have hz := sm_size hT X hP hS.1 hb0 hc1
        refine va_newaK hx hb (hts _ (har q t e9)) (g := F0 m pc ls (.int n :: r.map (sm_v (sm_ad st base)))) rfl hdg rfl hq.1 rfl (by rw [y1]; exact Nat.le_trans (Nat.mul_le_mul hq.2 y3) (by decide)) (by omega) (by omega) hz (fun H1 cA' e1 z1 o1 hAr hNm => ?_) T hT X
        rw [y1] at e1 hAr hNm
        have hc9 : cA' = cA t := by
          have h9 := (hE.1.2 t _ y2).2
          rcases y4.2 with rfl | rfl | rfl | rfl <;> exact Option.some.inj (hNm.symm.trans h9)
        subst hc9
        have hk : ∀ (j : Nat) (x : Nat × va_E), (sm_w (sm_ad st base) cA base h)[j]? = some x → H1[x.1]? = H[x.1]? := fun j x hx9 => o1 x.1 (by rw [← hz]; exact (hP j x hx9).lt)
        have hP1 : va_P D cl (sm_w (sm_ad st base) cA base (h ++ [.inl (t, sm_new t n.toNatClampNeg)])) H1 := by
          rw [sm_w_app]
          refine (hP.kept hk).app (fun j x hx9 => ?_)
          have hj : j < 1 := (List.getElem?_eq_some_iff.mp hx9).1
          rw [show j = 0 by omega] at hx9
          cases hx9
          show H1[base + h.length]? = some (vp_cell (cA t) (sm_ar (sm_ad st base) (sm_new t n.toNatClampNeg)))
          rw [y4.1]
          exact e1
        have hS1 : va_S (fun q => base ≤ q) s.heap H1 locs := ⟨Nat.le_trans hS.1 (by omega), fun x h1 h2 => (o1 x (by rw [← hz]; exact Nat.lt_of_lt_of_le h1 hS.1)).trans (hS.2.1 x h1 h2), hS.2.2⟩
        have q9 : W p l e R s m args below meth c H1 locs (cells + 1) (slots + n.toNatClampNeg) Q (F0 m (pc + 2) ls (.ref (sm_ad st base (8 + h.length)) :: r.map (sm_v (sm_ad st base)))) := k _ _ _ _ _ hl hP1 hS1 (by rw [List.length_append, List.length_cons, List.length_nil]; omega) (by rw [sm_sz_app, hcz]; omega)
        rw [sm_ad_new] at q9
        exact q9
      · cases hs
    · cases hs
set_option maxHeartbeats 1000000 in
theorem sn_anewarray {p : Program} {l : Launch} {e : Env} {R : Room} {s : State} {m : MethodId} {args : Array Value} {below : List Frame} {meth : Method} {c : Code} {H : Heap} {locs : List Loc} {cells slots : Nat} {Q : State → Prop} {cc : ByteArray} {nL n0 z0 d base : Nat} {st : Nat → Nat} {cA : Nat → ClassId} {D : va_G} {cl : List vw_C} {Cq own : String} {cq : Nat} {RO : List (Nat × (Nat → Int32))} {SF : List (String × String × String × Nat)} {Ts : List Jvm.Cond} {tyc : Nat → Nat → FieldType} {NV : Nat → List Value} {lk : Nat → Option sm_L} {ini : Bool} {ix : Nat}
    (hx : p.tables.exec = Jvm.exec) (hb : c.code = cc) (hml : c.maxLocals = nL) (hown : s.vm.findClass own = some m.cls) (hts : ∀ w ∈ Ts, w.before args s = true) (hok : ∀ ix q, lk ix = some q → sm_okL cl tyc SF Cq Ts own ix q) (hcl : sm_okC cl tyc NV Ts) (hcq : ∃ r : vw_C, cl[cq]? = some r ∧ r.1 = Cq)
    (hini : ini = true → meth.name = "<init>") (hE : sm_env D cl cA Cq RO SF st base s s.heap) (hb0 : s.heap.size = base + n0) (hd : d ≤ R.frames) (hdl : d * 100 ≤ R.locals) (har : ∀ q t, sm_aty q = some t → Jvm.Cond.arrayClass (newarray.typeOf q) ∈ Ts)
    {len pc pc' : Nat} {lv lv' : sm_V} {sk sk' : List Value} {h h' : sm_H} {ls : Array Slot} (hdg : decode cc pc = .ok ((.anewarray ix), sm_len (.anewarray ix) len)) (hl : lv_has ls nL (sm_lv (sm_ad st base) lv)) (hP : va_P D cl (sm_w (sm_ad st base) cA base h) H) (hS : va_S (fun q => base ≤ q) s.heap H locs) (hc1 : n0 + cells = h.length) (hc2 : z0 + slots = sm_sz h)
    (hm1 : h'.length ≤ n0 + R.cells) (hm2 : sm_sz h' ≤ z0 + R.slots) (hs : sm_step lk RO NV cq ini nL d (.anewarray ix) pc lv sk h = some (pc', lv', sk', h'))
    (k : ∀ (ls' : Array Slot) (H' : Heap) (locs' : List Loc) (cells' slots' : Nat), lv_has ls' nL (sm_lv (sm_ad st base) lv') → va_P D cl (sm_w (sm_ad st base) cA base h') H' → va_S (fun q => base ≤ q) s.heap H' locs' → n0 + cells' = h'.length → z0 + slots' = sm_sz h' → W p l e R s m args below meth c H' locs' cells' slots' Q (F0 m pc' ls' (sk'.map (sm_v (sm_ad st base))))) :
    W p l e R s m args below meth c H locs cells slots Q (F0 m pc ls (sk.map (sm_v (sm_ad st base)))) := by
    dsimp only [sm_step] at hs
    split at hs
    · rename_i i9 k9 z9 e9
      have hs1 := sm_i1_eq hs
      clear hs
      obtain ⟨n, r, e0, hs⟩ := hs1
      subst e0
      split at hs
      · rename_i hq
        cases hs
        obtain ⟨rq, rq1, rq2⟩ := hcq
        obtain ⟨r0, r1, g1, -, -⟩ := (hok ix _ e9).2.2.1 rfl
        obtain ⟨hq1, hq2, rfl⟩ := hq
        rw [rq1] at r1
        cases r1
        rw [rq2] at g1
        have hq : ¬ n < 0 ∧ n.toNatClampNeg ≤ 1000000 := ⟨hq1, hq2⟩
        rw [List.length_append, List.length_cons, List.length_nil] at hm1
        rw [sm_sz_app] at hm2
        have hcz : sm_cz (.inl (4, n.toNatClampNeg, .inr (.inr (.inr (.inr (fun _ => none)))))) = n.toNatClampNeg := rfl
        rw [hcz] at hm2
        intro T hT X
        have hz := sm_size hT X hP hS.1 hb0 hc1
        refine W.anew hx hb hown (hts _ g1) (va_AO.use hE.2.2.2) (g := F0 m pc ls (.int n :: r.map (sm_v (sm_ad st base)))) rfl hdg rfl hq.1 (Nat.le_trans (Nat.mul_le_mul hq.2 (Nat.le_refl 4)) (by decide)) (by omega) (by omega) (fun cA' kA comp f1 f2 f3 f4 => ?_) T hT X
        have hc9 : cA' = cA 4 := by
          obtain ⟨kA2, comp2, x1, x2, x3, x4⟩ := (hE.1.2 4 _ rfl).2
          exact Option.some.inj (f1.symm.trans x4)
        subst hc9
        generalize hH1 : H.push ({ cls := cA 4, slots := Array.replicate n.toNatClampNeg .null, vm := .none } : Cell) = H1
        have z1 : H1.size = H.size + 1 := by rw [← hH1, Array.size_push]
        have e1 : H1[H.size]? = some (arrV (cA 4) n.toNatClampNeg (fun _ => .null)) := by rw [← hH1, Array.getElem?_push_size, ← arrV_new]
        have o1 : ∀ q : Nat, q < H.size → H1[q]? = H[q]? := fun q hq => by rw [← hH1, Array.getElem?_push, if_neg (Nat.ne_of_lt hq)]
        have hk : ∀ (j : Nat) (x : Nat × va_E), (sm_w (sm_ad st base) cA base h)[j]? = some x → H1[x.1]? = H[x.1]? := fun j x hx9 => o1 x.1 (hP j x hx9).lt
        have hP1 : va_P D cl (sm_w (sm_ad st base) cA base (h ++ [.inl (4, n.toNatClampNeg, .inr (.inr (.inr (.inr (fun _ => none)))))])) H1 := by
          rw [sm_w_app]
          refine (hP.kept hk).app (fun j x hx9 => ?_)
          have hj : j < 1 := (List.getElem?_eq_some_iff.mp hx9).1
          rw [show j = 0 by omega] at hx9
          cases hx9
          show H1[base + h.length]? = some (vp_cell (cA 4) (n.toNatClampNeg, .inr (.inr (.inr (.inr (fun j => Option.map (sm_ad st base) none))))))
          rw [← hz, vp_cell_q]
          exact e1
        have hS1 : va_S (fun q => base ≤ q) s.heap H1 locs := ⟨Nat.le_trans hS.1 (by omega), fun x h1 h2 => (o1 x (Nat.lt_of_lt_of_le h1 hS.1)).trans (hS.2.1 x h1 h2), hS.2.2⟩
        have q9 : W p l e R s m args below meth c H1 locs (cells + 1) (slots + n.toNatClampNeg) Q (F0 m (pc + 3) ls (.ref (sm_ad st base (8 + h.length)) :: r.map (sm_v (sm_ad st base)))) := k _ _ _ _ _ hl hP1 hS1 (by rw [List.length_append, List.length_cons, List.length_nil]; omega) (by rw [sm_sz_app, hcz]; omega)
        rw [sm_ad_new, ← hz] at q9
        exact q9
      · cases hs
    · cases hs
set_option maxHeartbeats 1000000 in
theorem sn_baload {p : Program} {l : Launch} {e : Env} {R : Room} {s : State} {m : MethodId} {args : Array Value} {below : List Frame} {meth : Method} {c : Code} {H : Heap} {locs : List Loc} {cells slots : Nat} {Q : State → Prop} {cc : ByteArray} {nL n0 z0 d base : Nat} {st : Nat → Nat} {cA : Nat → ClassId} {D : va_G} {cl : List vw_C} {Cq own : String} {cq : Nat} {RO : List (Nat × (Nat → Int32))} {SF : List (String × String × String × Nat)} {Ts : List Jvm.Cond} {tyc : Nat → Nat → FieldType} {NV : Nat → List Value} {lk : Nat → Option sm_L} {ini : Bool} 
    (hx : p.tables.exec = Jvm.exec) (hb : c.code = cc) (hml : c.maxLocals = nL) (hown : s.vm.findClass own = some m.cls) (hts : ∀ w ∈ Ts, w.before args s = true) (hok : ∀ ix q, lk ix = some q → sm_okL cl tyc SF Cq Ts own ix q) (hcl : sm_okC cl tyc NV Ts) (hcq : ∃ r : vw_C, cl[cq]? = some r ∧ r.1 = Cq)
    (hini : ini = true → meth.name = "<init>") (hE : sm_env D cl cA Cq RO SF st base s s.heap) (hb0 : s.heap.size = base + n0) (hd : d ≤ R.frames) (hdl : d * 100 ≤ R.locals) (har : ∀ q t, sm_aty q = some t → Jvm.Cond.arrayClass (newarray.typeOf q) ∈ Ts)
    {len pc pc' : Nat} {lv lv' : sm_V} {sk sk' : List Value} {h h' : sm_H} {ls : Array Slot} (hdg : decode cc pc = .ok (.baload, sm_len .baload len)) (hl : lv_has ls nL (sm_lv (sm_ad st base) lv)) (hP : va_P D cl (sm_w (sm_ad st base) cA base h) H) (hS : va_S (fun q => base ≤ q) s.heap H locs) (hc1 : n0 + cells = h.length) (hc2 : z0 + slots = sm_sz h)
    (hm1 : h'.length ≤ n0 + R.cells) (hm2 : sm_sz h' ≤ z0 + R.slots) (hs : sm_step lk RO NV cq ini nL d .baload pc lv sk h = some (pc', lv', sk', h'))
    (k : ∀ (ls' : Array Slot) (H' : Heap) (locs' : List Loc) (cells' slots' : Nat), lv_has ls' nL (sm_lv (sm_ad st base) lv') → va_P D cl (sm_w (sm_ad st base) cA base h') H' → va_S (fun q => base ≤ q) s.heap H' locs' → n0 + cells' = h'.length → z0 + slots' = sm_sz h' → W p l e R s m args below meth c H' locs' cells' slots' Q (F0 m pc' ls' (sk'.map (sm_v (sm_ad st base))))) :
    W p l e R s m args below meth c H locs cells slots Q (F0 m pc ls (sk.map (sm_v (sm_ad st base)))) := by
    have hs1 := sm_ai_eq hs
    clear hs
    obtain ⟨a, i, r, e0, hs⟩ := hs1
    subst e0
    split at hs
    · rename_i n f e1
      split at hs
      · rename_i hi
        cases hs
        obtain ⟨o1, o2, o3⟩ := sm_ints_own (ad := sm_ad st base) (cA := cA) (base := base) e1
        have q9 : W p l e R s m args below meth c H locs cells slots Q (F0 m (pc + 1) ls (.int (f i.toNatClampNeg) :: r.map (sm_v (sm_ad st base)))) := k _ _ _ _ _ hl hP hS hc1 hc2
        show W p l e R s m args below meth c H locs cells slots Q (F0 m pc ls (.int i :: .ref (sm_ad st base a) :: r.map (sm_v (sm_ad st base))))
        rw [sm_ad_own o1]
        exact va_bald hx hb hE.1 hP (a - 8) 2 o3 rfl (sm_in_vp hi) hdg q9
      · cases hs
    · cases hs
set_option maxHeartbeats 1000000 in
theorem sn_saload {p : Program} {l : Launch} {e : Env} {R : Room} {s : State} {m : MethodId} {args : Array Value} {below : List Frame} {meth : Method} {c : Code} {H : Heap} {locs : List Loc} {cells slots : Nat} {Q : State → Prop} {cc : ByteArray} {nL n0 z0 d base : Nat} {st : Nat → Nat} {cA : Nat → ClassId} {D : va_G} {cl : List vw_C} {Cq own : String} {cq : Nat} {RO : List (Nat × (Nat → Int32))} {SF : List (String × String × String × Nat)} {Ts : List Jvm.Cond} {tyc : Nat → Nat → FieldType} {NV : Nat → List Value} {lk : Nat → Option sm_L} {ini : Bool} 
    (hx : p.tables.exec = Jvm.exec) (hb : c.code = cc) (hml : c.maxLocals = nL) (hown : s.vm.findClass own = some m.cls) (hts : ∀ w ∈ Ts, w.before args s = true) (hok : ∀ ix q, lk ix = some q → sm_okL cl tyc SF Cq Ts own ix q) (hcl : sm_okC cl tyc NV Ts) (hcq : ∃ r : vw_C, cl[cq]? = some r ∧ r.1 = Cq)
    (hini : ini = true → meth.name = "<init>") (hE : sm_env D cl cA Cq RO SF st base s s.heap) (hb0 : s.heap.size = base + n0) (hd : d ≤ R.frames) (hdl : d * 100 ≤ R.locals) (har : ∀ q t, sm_aty q = some t → Jvm.Cond.arrayClass (newarray.typeOf q) ∈ Ts)
    {len pc pc' : Nat} {lv lv' : sm_V} {sk sk' : List Value} {h h' : sm_H} {ls : Array Slot} (hdg : decode cc pc = .ok (.saload, sm_len .saload len)) (hl : lv_has ls nL (sm_lv (sm_ad st base) lv)) (hP : va_P D cl (sm_w (sm_ad st base) cA base h) H) (hS : va_S (fun q => base ≤ q) s.heap H locs) (hc1 : n0 + cells = h.length) (hc2 : z0 + slots = sm_sz h)
    (hm1 : h'.length ≤ n0 + R.cells) (hm2 : sm_sz h' ≤ z0 + R.slots) (hs : sm_step lk RO NV cq ini nL d .saload pc lv sk h = some (pc', lv', sk', h'))
    (k : ∀ (ls' : Array Slot) (H' : Heap) (locs' : List Loc) (cells' slots' : Nat), lv_has ls' nL (sm_lv (sm_ad st base) lv') → va_P D cl (sm_w (sm_ad st base) cA base h') H' → va_S (fun q => base ≤ q) s.heap H' locs' → n0 + cells' = h'.length → z0 + slots' = sm_sz h' → W p l e R s m args below meth c H' locs' cells' slots' Q (F0 m pc' ls' (sk'.map (sm_v (sm_ad st base))))) :
    W p l e R s m args below meth c H locs cells slots Q (F0 m pc ls (sk.map (sm_v (sm_ad st base)))) := by
    have hs1 := sm_ai_eq hs
    clear hs
    obtain ⟨a, i, r, e0, hs⟩ := hs1
    subst e0
    split at hs
    · rename_i n f e1
      split at hs
      · rename_i hi
        cases hs
        obtain ⟨o1, o2, o3⟩ := sm_ints_own (ad := sm_ad st base) (cA := cA) (base := base) e1
        have q9 : W p l e R s m args below meth c H locs cells slots Q (F0 m (pc + 1) ls (.int (f i.toNatClampNeg) :: r.map (sm_v (sm_ad st base)))) := k _ _ _ _ _ hl hP hS hc1 hc2
        show W p l e R s m args below meth c H locs cells slots Q (F0 m pc ls (.int i :: .ref (sm_ad st base a) :: r.map (sm_v (sm_ad st base))))
        rw [sm_ad_own o1]
        exact va_sald hx hb hE.1 hP (a - 8) 3 o3 rfl (sm_in_vp hi) hdg q9
      · cases hs
    · cases hs
set_option maxHeartbeats 1000000 in
theorem sn_laload {p : Program} {l : Launch} {e : Env} {R : Room} {s : State} {m : MethodId} {args : Array Value} {below : List Frame} {meth : Method} {c : Code} {H : Heap} {locs : List Loc} {cells slots : Nat} {Q : State → Prop} {cc : ByteArray} {nL n0 z0 d base : Nat} {st : Nat → Nat} {cA : Nat → ClassId} {D : va_G} {cl : List vw_C} {Cq own : String} {cq : Nat} {RO : List (Nat × (Nat → Int32))} {SF : List (String × String × String × Nat)} {Ts : List Jvm.Cond} {tyc : Nat → Nat → FieldType} {NV : Nat → List Value} {lk : Nat → Option sm_L} {ini : Bool} 
    (hx : p.tables.exec = Jvm.exec) (hb : c.code = cc) (hml : c.maxLocals = nL) (hown : s.vm.findClass own = some m.cls) (hts : ∀ w ∈ Ts, w.before args s = true) (hok : ∀ ix q, lk ix = some q → sm_okL cl tyc SF Cq Ts own ix q) (hcl : sm_okC cl tyc NV Ts) (hcq : ∃ r : vw_C, cl[cq]? = some r ∧ r.1 = Cq)
    (hini : ini = true → meth.name = "<init>") (hE : sm_env D cl cA Cq RO SF st base s s.heap) (hb0 : s.heap.size = base + n0) (hd : d ≤ R.frames) (hdl : d * 100 ≤ R.locals) (har : ∀ q t, sm_aty q = some t → Jvm.Cond.arrayClass (newarray.typeOf q) ∈ Ts)
    {len pc pc' : Nat} {lv lv' : sm_V} {sk sk' : List Value} {h h' : sm_H} {ls : Array Slot} (hdg : decode cc pc = .ok (.laload, sm_len .laload len)) (hl : lv_has ls nL (sm_lv (sm_ad st base) lv)) (hP : va_P D cl (sm_w (sm_ad st base) cA base h) H) (hS : va_S (fun q => base ≤ q) s.heap H locs) (hc1 : n0 + cells = h.length) (hc2 : z0 + slots = sm_sz h)
    (hm1 : h'.length ≤ n0 + R.cells) (hm2 : sm_sz h' ≤ z0 + R.slots) (hs : sm_step lk RO NV cq ini nL d .laload pc lv sk h = some (pc', lv', sk', h'))
    (k : ∀ (ls' : Array Slot) (H' : Heap) (locs' : List Loc) (cells' slots' : Nat), lv_has ls' nL (sm_lv (sm_ad st base) lv') → va_P D cl (sm_w (sm_ad st base) cA base h') H' → va_S (fun q => base ≤ q) s.heap H' locs' → n0 + cells' = h'.length → z0 + slots' = sm_sz h' → W p l e R s m args below meth c H' locs' cells' slots' Q (F0 m pc' ls' (sk'.map (sm_v (sm_ad st base))))) :
    W p l e R s m args below meth c H locs cells slots Q (F0 m pc ls (sk.map (sm_v (sm_ad st base)))) := by
    have hs1 := sm_ai_eq hs
    clear hs
    obtain ⟨a, i, r, e0, hs⟩ := hs1
    subst e0
    split at hs
    · rename_i n f e1
      split at hs
      · rename_i hi
        cases hs
        obtain ⟨o1, o2, o3⟩ := sm_longs_at (ad := sm_ad st base) (cA := cA) (base := base) e1
        have q9 : W p l e R s m args below meth c H locs cells slots Q (F0 m (pc + 1) ls (.long (f i.toNatClampNeg) :: r.map (sm_v (sm_ad st base)))) := k _ _ _ _ _ hl hP hS hc1 hc2
        show W p l e R s m args below meth c H locs cells slots Q (F0 m pc ls (.int i :: .ref (sm_ad st base a) :: r.map (sm_v (sm_ad st base))))
        rw [sm_ad_own o1]
        exact va_lald hx hb hE.1 hP (a - 8) 1 o3 rfl (sm_in_vp hi) hdg q9
      · cases hs
    · cases hs
set_option maxHeartbeats 1000000 in
theorem sn_aaload {p : Program} {l : Launch} {e : Env} {R : Room} {s : State} {m : MethodId} {args : Array Value} {below : List Frame} {meth : Method} {c : Code} {H : Heap} {locs : List Loc} {cells slots : Nat} {Q : State → Prop} {cc : ByteArray} {nL n0 z0 d base : Nat} {st : Nat → Nat} {cA : Nat → ClassId} {D : va_G} {cl : List vw_C} {Cq own : String} {cq : Nat} {RO : List (Nat × (Nat → Int32))} {SF : List (String × String × String × Nat)} {Ts : List Jvm.Cond} {tyc : Nat → Nat → FieldType} {NV : Nat → List Value} {lk : Nat → Option sm_L} {ini : Bool} 
    (hx : p.tables.exec = Jvm.exec) (hb : c.code = cc) (hml : c.maxLocals = nL) (hown : s.vm.findClass own = some m.cls) (hts : ∀ w ∈ Ts, w.before args s = true) (hok : ∀ ix q, lk ix = some q → sm_okL cl tyc SF Cq Ts own ix q) (hcl : sm_okC cl tyc NV Ts) (hcq : ∃ r : vw_C, cl[cq]? = some r ∧ r.1 = Cq)
    (hini : ini = true → meth.name = "<init>") (hE : sm_env D cl cA Cq RO SF st base s s.heap) (hb0 : s.heap.size = base + n0) (hd : d ≤ R.frames) (hdl : d * 100 ≤ R.locals) (har : ∀ q t, sm_aty q = some t → Jvm.Cond.arrayClass (newarray.typeOf q) ∈ Ts)
    {len pc pc' : Nat} {lv lv' : sm_V} {sk sk' : List Value} {h h' : sm_H} {ls : Array Slot} (hdg : decode cc pc = .ok (.aaload, sm_len .aaload len)) (hl : lv_has ls nL (sm_lv (sm_ad st base) lv)) (hP : va_P D cl (sm_w (sm_ad st base) cA base h) H) (hS : va_S (fun q => base ≤ q) s.heap H locs) (hc1 : n0 + cells = h.length) (hc2 : z0 + slots = sm_sz h)
    (hm1 : h'.length ≤ n0 + R.cells) (hm2 : sm_sz h' ≤ z0 + R.slots) (hs : sm_step lk RO NV cq ini nL d .aaload pc lv sk h = some (pc', lv', sk', h'))
    (k : ∀ (ls' : Array Slot) (H' : Heap) (locs' : List Loc) (cells' slots' : Nat), lv_has ls' nL (sm_lv (sm_ad st base) lv') → va_P D cl (sm_w (sm_ad st base) cA base h') H' → va_S (fun q => base ≤ q) s.heap H' locs' → n0 + cells' = h'.length → z0 + slots' = sm_sz h' → W p l e R s m args below meth c H' locs' cells' slots' Q (F0 m pc' ls' (sk'.map (sm_v (sm_ad st base))))) :
    W p l e R s m args below meth c H locs cells slots Q (F0 m pc ls (sk.map (sm_v (sm_ad st base)))) := by
    have hs1 := sm_ai_eq hs
    clear hs
    obtain ⟨a, i, r, e0, hs⟩ := hs1
    subst e0
    split at hs
    · rename_i n f e1
      split at hs
      · rename_i hi
        cases hs
        obtain ⟨o1, o2, o3⟩ := sm_refs_at (ad := sm_ad st base) (cA := cA) (base := base) e1
        have q9 : W p l e R s m args below meth c H locs cells slots Q (F0 m (pc + 1) ls (sm_v (sm_ad st base) (va_rf (f i.toNatClampNeg)) :: r.map (sm_v (sm_ad st base)))) := k _ _ _ _ _ hl hP hS hc1 hc2
        rw [sm_v_rf] at q9
        show W p l e R s m args below meth c H locs cells slots Q (F0 m pc ls (.int i :: .ref (sm_ad st base a) :: r.map (sm_v (sm_ad st base))))
        rw [sm_ad_own o1]
        exact va_aldq hx hb hE.1 hP (a - 8) 4 o3 rfl (sm_in_vp hi) hdg q9
      · cases hs
    · cases hs
set_option maxHeartbeats 1000000 in
theorem sn_iaload {p : Program} {l : Launch} {e : Env} {R : Room} {s : State} {m : MethodId} {args : Array Value} {below : List Frame} {meth : Method} {c : Code} {H : Heap} {locs : List Loc} {cells slots : Nat} {Q : State → Prop} {cc : ByteArray} {nL n0 z0 d base : Nat} {st : Nat → Nat} {cA : Nat → ClassId} {D : va_G} {cl : List vw_C} {Cq own : String} {cq : Nat} {RO : List (Nat × (Nat → Int32))} {SF : List (String × String × String × Nat)} {Ts : List Jvm.Cond} {tyc : Nat → Nat → FieldType} {NV : Nat → List Value} {lk : Nat → Option sm_L} {ini : Bool} 
    (hx : p.tables.exec = Jvm.exec) (hb : c.code = cc) (hml : c.maxLocals = nL) (hown : s.vm.findClass own = some m.cls) (hts : ∀ w ∈ Ts, w.before args s = true) (hok : ∀ ix q, lk ix = some q → sm_okL cl tyc SF Cq Ts own ix q) (hcl : sm_okC cl tyc NV Ts) (hcq : ∃ r : vw_C, cl[cq]? = some r ∧ r.1 = Cq)
    (hini : ini = true → meth.name = "<init>") (hE : sm_env D cl cA Cq RO SF st base s s.heap) (hb0 : s.heap.size = base + n0) (hd : d ≤ R.frames) (hdl : d * 100 ≤ R.locals) (har : ∀ q t, sm_aty q = some t → Jvm.Cond.arrayClass (newarray.typeOf q) ∈ Ts)
    {len pc pc' : Nat} {lv lv' : sm_V} {sk sk' : List Value} {h h' : sm_H} {ls : Array Slot} (hdg : decode cc pc = .ok (.iaload, sm_len .iaload len)) (hl : lv_has ls nL (sm_lv (sm_ad st base) lv)) (hP : va_P D cl (sm_w (sm_ad st base) cA base h) H) (hS : va_S (fun q => base ≤ q) s.heap H locs) (hc1 : n0 + cells = h.length) (hc2 : z0 + slots = sm_sz h)
    (hm1 : h'.length ≤ n0 + R.cells) (hm2 : sm_sz h' ≤ z0 + R.slots) (hs : sm_step lk RO NV cq ini nL d .iaload pc lv sk h = some (pc', lv', sk', h'))
    (k : ∀ (ls' : Array Slot) (H' : Heap) (locs' : List Loc) (cells' slots' : Nat), lv_has ls' nL (sm_lv (sm_ad st base) lv') → va_P D cl (sm_w (sm_ad st base) cA base h') H' → va_S (fun q => base ≤ q) s.heap H' locs' → n0 + cells' = h'.length → z0 + slots' = sm_sz h' → W p l e R s m args below meth c H' locs' cells' slots' Q (F0 m pc' ls' (sk'.map (sm_v (sm_ad st base))))) :
    W p l e R s m args below meth c H locs cells slots Q (F0 m pc ls (sk.map (sm_v (sm_ad st base)))) := by
    have hs1 := sm_ai_eq hs
    clear hs
    obtain ⟨a, i, r, e0, hs⟩ := hs1
    subst e0
    split at hs
    · rename_i n f e1
      split at hs
      · rename_i hi
        cases hs
        have q9 : W p l e R s m args below meth c H locs cells slots Q (F0 m (pc + 1) ls (.int (f i.toNatClampNeg) :: r.map (sm_v (sm_ad st base)))) := k _ _ _ _ _ hl hP hS hc1 hc2
        show W p l e R s m args below meth c H locs cells slots Q (F0 m pc ls (.int i :: .ref (sm_ad st base a) :: r.map (sm_v (sm_ad st base))))
        rcases sm_ints_at (ad := sm_ad st base) (cA := cA) (base := base) e1 with ⟨o1, o2, o3⟩ | ⟨o1, o2, o3⟩
        · rw [sm_ad_ro o1]
          exact va_ti hx hb (hE.2.1 a _ o3) hS (sm_in_vp hi) rfl hdg q9
        · rw [sm_ad_own o1]
          exact va_iald hx hb hE.1 hP (a - 8) 0 o3 rfl (sm_in_vp hi) hdg q9
      · cases hs
    · cases hs
set_option maxHeartbeats 1000000 in
theorem sn_arraylength {p : Program} {l : Launch} {e : Env} {R : Room} {s : State} {m : MethodId} {args : Array Value} {below : List Frame} {meth : Method} {c : Code} {H : Heap} {locs : List Loc} {cells slots : Nat} {Q : State → Prop} {cc : ByteArray} {nL n0 z0 d base : Nat} {st : Nat → Nat} {cA : Nat → ClassId} {D : va_G} {cl : List vw_C} {Cq own : String} {cq : Nat} {RO : List (Nat × (Nat → Int32))} {SF : List (String × String × String × Nat)} {Ts : List Jvm.Cond} {tyc : Nat → Nat → FieldType} {NV : Nat → List Value} {lk : Nat → Option sm_L} {ini : Bool} 
    (hx : p.tables.exec = Jvm.exec) (hb : c.code = cc) (hml : c.maxLocals = nL) (hown : s.vm.findClass own = some m.cls) (hts : ∀ w ∈ Ts, w.before args s = true) (hok : ∀ ix q, lk ix = some q → sm_okL cl tyc SF Cq Ts own ix q) (hcl : sm_okC cl tyc NV Ts) (hcq : ∃ r : vw_C, cl[cq]? = some r ∧ r.1 = Cq)
    (hini : ini = true → meth.name = "<init>") (hE : sm_env D cl cA Cq RO SF st base s s.heap) (hb0 : s.heap.size = base + n0) (hd : d ≤ R.frames) (hdl : d * 100 ≤ R.locals) (har : ∀ q t, sm_aty q = some t → Jvm.Cond.arrayClass (newarray.typeOf q) ∈ Ts)
    {len pc pc' : Nat} {lv lv' : sm_V} {sk sk' : List Value} {h h' : sm_H} {ls : Array Slot} (hdg : decode cc pc = .ok (.arraylength, sm_len .arraylength len)) (hl : lv_has ls nL (sm_lv (sm_ad st base) lv)) (hP : va_P D cl (sm_w (sm_ad st base) cA base h) H) (hS : va_S (fun q => base ≤ q) s.heap H locs) (hc1 : n0 + cells = h.length) (hc2 : z0 + slots = sm_sz h)
    (hm1 : h'.length ≤ n0 + R.cells) (hm2 : sm_sz h' ≤ z0 + R.slots) (hs : sm_step lk RO NV cq ini nL d .arraylength pc lv sk h = some (pc', lv', sk', h'))
    (k : ∀ (ls' : Array Slot) (H' : Heap) (locs' : List Loc) (cells' slots' : Nat), lv_has ls' nL (sm_lv (sm_ad st base) lv') → va_P D cl (sm_w (sm_ad st base) cA base h') H' → va_S (fun q => base ≤ q) s.heap H' locs' → n0 + cells' = h'.length → z0 + slots' = sm_sz h' → W p l e R s m args below meth c H' locs' cells' slots' Q (F0 m pc' ls' (sk'.map (sm_v (sm_ad st base))))) :
    W p l e R s m args below meth c H locs cells slots Q (F0 m pc ls (sk.map (sm_v (sm_ad st base)))) := by
    have hs1 := sm_r1_eq hs
    clear hs
    obtain ⟨a, r, e0, hs⟩ := hs1
    subst e0
    split at hs
    · rename_i n f e1
      cases hs
      have q9 : W p l e R s m args below meth c H locs cells slots Q (F0 m (pc + 1) ls (.int (Int32.ofNat n) :: r.map (sm_v (sm_ad st base)))) := k _ _ _ _ _ hl hP hS hc1 hc2
      show W p l e R s m args below meth c H locs cells slots Q (F0 m pc ls (.ref (sm_ad st base a) :: r.map (sm_v (sm_ad st base))))
      rcases sm_ints_at (ad := sm_ad st base) (cA := cA) (base := base) e1 with ⟨o1, o2, o3⟩ | ⟨o1, o2, o3⟩
      · rw [sm_ad_ro o1]
        exact va_tlen hx hb (hE.2.1 a _ o3) hS rfl hdg q9
      · rw [sm_ad_own o1]
        exact va_alen hx hb hE.1 hP (a - 8) 0 o3 rfl rfl hdg q9
    · cases hs
set_option maxHeartbeats 1000000 in
theorem sn_iastore {p : Program} {l : Launch} {e : Env} {R : Room} {s : State} {m : MethodId} {args : Array Value} {below : List Frame} {meth : Method} {c : Code} {H : Heap} {locs : List Loc} {cells slots : Nat} {Q : State → Prop} {cc : ByteArray} {nL n0 z0 d base : Nat} {st : Nat → Nat} {cA : Nat → ClassId} {D : va_G} {cl : List vw_C} {Cq own : String} {cq : Nat} {RO : List (Nat × (Nat → Int32))} {SF : List (String × String × String × Nat)} {Ts : List Jvm.Cond} {tyc : Nat → Nat → FieldType} {NV : Nat → List Value} {lk : Nat → Option sm_L} {ini : Bool} 
    (hx : p.tables.exec = Jvm.exec) (hb : c.code = cc) (hml : c.maxLocals = nL) (hown : s.vm.findClass own = some m.cls) (hts : ∀ w ∈ Ts, w.before args s = true) (hok : ∀ ix q, lk ix = some q → sm_okL cl tyc SF Cq Ts own ix q) (hcl : sm_okC cl tyc NV Ts) (hcq : ∃ r : vw_C, cl[cq]? = some r ∧ r.1 = Cq)
    (hini : ini = true → meth.name = "<init>") (hE : sm_env D cl cA Cq RO SF st base s s.heap) (hb0 : s.heap.size = base + n0) (hd : d ≤ R.frames) (hdl : d * 100 ≤ R.locals) (har : ∀ q t, sm_aty q = some t → Jvm.Cond.arrayClass (newarray.typeOf q) ∈ Ts)
    {len pc pc' : Nat} {lv lv' : sm_V} {sk sk' : List Value} {h h' : sm_H} {ls : Array Slot} (hdg : decode cc pc = .ok (.iastore, sm_len .iastore len)) (hl : lv_has ls nL (sm_lv (sm_ad st base) lv)) (hP : va_P D cl (sm_w (sm_ad st base) cA base h) H) (hS : va_S (fun q => base ≤ q) s.heap H locs) (hc1 : n0 + cells = h.length) (hc2 : z0 + slots = sm_sz h)
    (hm1 : h'.length ≤ n0 + R.cells) (hm2 : sm_sz h' ≤ z0 + R.slots) (hs : sm_step lk RO NV cq ini nL d .iastore pc lv sk h = some (pc', lv', sk', h'))
    (k : ∀ (ls' : Array Slot) (H' : Heap) (locs' : List Loc) (cells' slots' : Nat), lv_has ls' nL (sm_lv (sm_ad st base) lv') → va_P D cl (sm_w (sm_ad st base) cA base h') H' → va_S (fun q => base ≤ q) s.heap H' locs' → n0 + cells' = h'.length → z0 + slots' = sm_sz h' → W p l e R s m args below meth c H' locs' cells' slots' Q (F0 m pc' ls' (sk'.map (sm_v (sm_ad st base))))) :
    W p l e R s m args below meth c H locs cells slots Q (F0 m pc ls (sk.map (sm_v (sm_ad st base)))) := by
    have hs1 := sm_i1_eq hs
    clear hs
    obtain ⟨x, s1, e0, hs⟩ := hs1
    subst e0
    have hs1 := sm_ai_eq hs
    clear hs
    obtain ⟨a, i, r, e0, hs⟩ := hs1
    subst e0
    split at hs
    · rename_i n f e1
      split at hs
      · rename_i hi
        cases hs
        obtain ⟨o1, o2, o3⟩ := sm_ints_own (ad := sm_ad st base) (cA := cA) (base := base) e1
        show W p l e R s m args below meth c H locs cells slots Q (F0 m pc ls (.int x :: .int i :: .ref (sm_ad st base a) :: sk'.map (sm_v (sm_ad st base))))
        rw [sm_ad_own o1]
        refine va_iast hx hb hE.1 hP (sm_w_D _ _ _ _) hS (a - 8) 0 o3 rfl (sm_in_vp hi) hdg (fun H1 locs1 hP1 _ hS1 => k _ H1 locs1 _ _ hl ?_ hS1 (by rw [List.length_set]; exact hc1) (hc2.trans (sm_sz_set _ _ _ _ o2 (by rfl)).symm))
        rw [← sm_w_set]
        exact hP1
      · cases hs
    · cases hs
set_option maxHeartbeats 1000000 in
theorem sn_bastore {p : Program} {l : Launch} {e : Env} {R : Room} {s : State} {m : MethodId} {args : Array Value} {below : List Frame} {meth : Method} {c : Code} {H : Heap} {locs : List Loc} {cells slots : Nat} {Q : State → Prop} {cc : ByteArray} {nL n0 z0 d base : Nat} {st : Nat → Nat} {cA : Nat → ClassId} {D : va_G} {cl : List vw_C} {Cq own : String} {cq : Nat} {RO : List (Nat × (Nat → Int32))} {SF : List (String × String × String × Nat)} {Ts : List Jvm.Cond} {tyc : Nat → Nat → FieldType} {NV : Nat → List Value} {lk : Nat → Option sm_L} {ini : Bool} 
    (hx : p.tables.exec = Jvm.exec) (hb : c.code = cc) (hml : c.maxLocals = nL) (hown : s.vm.findClass own = some m.cls) (hts : ∀ w ∈ Ts, w.before args s = true) (hok : ∀ ix q, lk ix = some q → sm_okL cl tyc SF Cq Ts own ix q) (hcl : sm_okC cl tyc NV Ts) (hcq : ∃ r : vw_C, cl[cq]? = some r ∧ r.1 = Cq)
    (hini : ini = true → meth.name = "<init>") (hE : sm_env D cl cA Cq RO SF st base s s.heap) (hb0 : s.heap.size = base + n0) (hd : d ≤ R.frames) (hdl : d * 100 ≤ R.locals) (har : ∀ q t, sm_aty q = some t → Jvm.Cond.arrayClass (newarray.typeOf q) ∈ Ts)
    {len pc pc' : Nat} {lv lv' : sm_V} {sk sk' : List Value} {h h' : sm_H} {ls : Array Slot} (hdg : decode cc pc = .ok (.bastore, sm_len .bastore len)) (hl : lv_has ls nL (sm_lv (sm_ad st base) lv)) (hP : va_P D cl (sm_w (sm_ad st base) cA base h) H) (hS : va_S (fun q => base ≤ q) s.heap H locs) (hc1 : n0 + cells = h.length) (hc2 : z0 + slots = sm_sz h)
    (hm1 : h'.length ≤ n0 + R.cells) (hm2 : sm_sz h' ≤ z0 + R.slots) (hs : sm_step lk RO NV cq ini nL d .bastore pc lv sk h = some (pc', lv', sk', h'))
    (k : ∀ (ls' : Array Slot) (H' : Heap) (locs' : List Loc) (cells' slots' : Nat), lv_has ls' nL (sm_lv (sm_ad st base) lv') → va_P D cl (sm_w (sm_ad st base) cA base h') H' → va_S (fun q => base ≤ q) s.heap H' locs' → n0 + cells' = h'.length → z0 + slots' = sm_sz h' → W p l e R s m args below meth c H' locs' cells' slots' Q (F0 m pc' ls' (sk'.map (sm_v (sm_ad st base))))) :
    W p l e R s m args below meth c H locs cells slots Q (F0 m pc ls (sk.map (sm_v (sm_ad st base)))) := by
    have hs1 := sm_i1_eq hs
    clear hs
    obtain ⟨x, s1, e0, hs⟩ := hs1
    subst e0
    have hs1 := sm_ai_eq hs
    clear hs
    obtain ⟨a, i, r, e0, hs⟩ := hs1
    subst e0
    split at hs
    · rename_i n f e1
      split at hs
      · rename_i hi
        cases hs
        obtain ⟨o1, o2, o3⟩ := sm_ints_own (ad := sm_ad st base) (cA := cA) (base := base) e1
        show W p l e R s m args below meth c H locs cells slots Q (F0 m pc ls (.int x :: .int i :: .ref (sm_ad st base a) :: sk'.map (sm_v (sm_ad st base))))
        rw [sm_ad_own o1]
        refine va_bast hx hb hE.1 hP (sm_w_D _ _ _ _) hS (a - 8) 2 o3 rfl (sm_in_vp hi) hdg (fun H1 locs1 hP1 _ hS1 => k _ H1 locs1 _ _ hl ?_ hS1 (by rw [List.length_set]; exact hc1) (hc2.trans (sm_sz_set _ _ _ _ o2 (by rfl)).symm))
        rw [vp_nar_byte] at hP1
        rw [← sm_w_set]
        exact hP1
      · cases hs
    · cases hs
set_option maxHeartbeats 1000000 in
theorem sn_sastore {p : Program} {l : Launch} {e : Env} {R : Room} {s : State} {m : MethodId} {args : Array Value} {below : List Frame} {meth : Method} {c : Code} {H : Heap} {locs : List Loc} {cells slots : Nat} {Q : State → Prop} {cc : ByteArray} {nL n0 z0 d base : Nat} {st : Nat → Nat} {cA : Nat → ClassId} {D : va_G} {cl : List vw_C} {Cq own : String} {cq : Nat} {RO : List (Nat × (Nat → Int32))} {SF : List (String × String × String × Nat)} {Ts : List Jvm.Cond} {tyc : Nat → Nat → FieldType} {NV : Nat → List Value} {lk : Nat → Option sm_L} {ini : Bool} 
    (hx : p.tables.exec = Jvm.exec) (hb : c.code = cc) (hml : c.maxLocals = nL) (hown : s.vm.findClass own = some m.cls) (hts : ∀ w ∈ Ts, w.before args s = true) (hok : ∀ ix q, lk ix = some q → sm_okL cl tyc SF Cq Ts own ix q) (hcl : sm_okC cl tyc NV Ts) (hcq : ∃ r : vw_C, cl[cq]? = some r ∧ r.1 = Cq)
    (hini : ini = true → meth.name = "<init>") (hE : sm_env D cl cA Cq RO SF st base s s.heap) (hb0 : s.heap.size = base + n0) (hd : d ≤ R.frames) (hdl : d * 100 ≤ R.locals) (har : ∀ q t, sm_aty q = some t → Jvm.Cond.arrayClass (newarray.typeOf q) ∈ Ts)
    {len pc pc' : Nat} {lv lv' : sm_V} {sk sk' : List Value} {h h' : sm_H} {ls : Array Slot} (hdg : decode cc pc = .ok (.sastore, sm_len .sastore len)) (hl : lv_has ls nL (sm_lv (sm_ad st base) lv)) (hP : va_P D cl (sm_w (sm_ad st base) cA base h) H) (hS : va_S (fun q => base ≤ q) s.heap H locs) (hc1 : n0 + cells = h.length) (hc2 : z0 + slots = sm_sz h)
    (hm1 : h'.length ≤ n0 + R.cells) (hm2 : sm_sz h' ≤ z0 + R.slots) (hs : sm_step lk RO NV cq ini nL d .sastore pc lv sk h = some (pc', lv', sk', h'))
    (k : ∀ (ls' : Array Slot) (H' : Heap) (locs' : List Loc) (cells' slots' : Nat), lv_has ls' nL (sm_lv (sm_ad st base) lv') → va_P D cl (sm_w (sm_ad st base) cA base h') H' → va_S (fun q => base ≤ q) s.heap H' locs' → n0 + cells' = h'.length → z0 + slots' = sm_sz h' → W p l e R s m args below meth c H' locs' cells' slots' Q (F0 m pc' ls' (sk'.map (sm_v (sm_ad st base))))) :
    W p l e R s m args below meth c H locs cells slots Q (F0 m pc ls (sk.map (sm_v (sm_ad st base)))) := by
    have hs1 := sm_i1_eq hs
    clear hs
    obtain ⟨x, s1, e0, hs⟩ := hs1
    subst e0
    have hs1 := sm_ai_eq hs
    clear hs
    obtain ⟨a, i, r, e0, hs⟩ := hs1
    subst e0
    split at hs
    · rename_i n f e1
      split at hs
      · rename_i hi
        cases hs
        obtain ⟨o1, o2, o3⟩ := sm_ints_own (ad := sm_ad st base) (cA := cA) (base := base) e1
        show W p l e R s m args below meth c H locs cells slots Q (F0 m pc ls (.int x :: .int i :: .ref (sm_ad st base a) :: sk'.map (sm_v (sm_ad st base))))
        rw [sm_ad_own o1]
        refine va_sast hx hb hE.1 hP (sm_w_D _ _ _ _) hS (a - 8) 3 o3 rfl (sm_in_vp hi) hdg (fun H1 locs1 hP1 _ hS1 => k _ H1 locs1 _ _ hl ?_ hS1 (by rw [List.length_set]; exact hc1) (hc2.trans (sm_sz_set _ _ _ _ o2 (by rfl)).symm))
        rw [vp_nar_short] at hP1
        rw [← sm_w_set]
        exact hP1
      · cases hs
    · cases hs
set_option maxHeartbeats 1000000 in
theorem sn_lastore {p : Program} {l : Launch} {e : Env} {R : Room} {s : State} {m : MethodId} {args : Array Value} {below : List Frame} {meth : Method} {c : Code} {H : Heap} {locs : List Loc} {cells slots : Nat} {Q : State → Prop} {cc : ByteArray} {nL n0 z0 d base : Nat} {st : Nat → Nat} {cA : Nat → ClassId} {D : va_G} {cl : List vw_C} {Cq own : String} {cq : Nat} {RO : List (Nat × (Nat → Int32))} {SF : List (String × String × String × Nat)} {Ts : List Jvm.Cond} {tyc : Nat → Nat → FieldType} {NV : Nat → List Value} {lk : Nat → Option sm_L} {ini : Bool} 
    (hx : p.tables.exec = Jvm.exec) (hb : c.code = cc) (hml : c.maxLocals = nL) (hown : s.vm.findClass own = some m.cls) (hts : ∀ w ∈ Ts, w.before args s = true) (hok : ∀ ix q, lk ix = some q → sm_okL cl tyc SF Cq Ts own ix q) (hcl : sm_okC cl tyc NV Ts) (hcq : ∃ r : vw_C, cl[cq]? = some r ∧ r.1 = Cq)
    (hini : ini = true → meth.name = "<init>") (hE : sm_env D cl cA Cq RO SF st base s s.heap) (hb0 : s.heap.size = base + n0) (hd : d ≤ R.frames) (hdl : d * 100 ≤ R.locals) (har : ∀ q t, sm_aty q = some t → Jvm.Cond.arrayClass (newarray.typeOf q) ∈ Ts)
    {len pc pc' : Nat} {lv lv' : sm_V} {sk sk' : List Value} {h h' : sm_H} {ls : Array Slot} (hdg : decode cc pc = .ok (.lastore, sm_len .lastore len)) (hl : lv_has ls nL (sm_lv (sm_ad st base) lv)) (hP : va_P D cl (sm_w (sm_ad st base) cA base h) H) (hS : va_S (fun q => base ≤ q) s.heap H locs) (hc1 : n0 + cells = h.length) (hc2 : z0 + slots = sm_sz h)
    (hm1 : h'.length ≤ n0 + R.cells) (hm2 : sm_sz h' ≤ z0 + R.slots) (hs : sm_step lk RO NV cq ini nL d .lastore pc lv sk h = some (pc', lv', sk', h'))
    (k : ∀ (ls' : Array Slot) (H' : Heap) (locs' : List Loc) (cells' slots' : Nat), lv_has ls' nL (sm_lv (sm_ad st base) lv') → va_P D cl (sm_w (sm_ad st base) cA base h') H' → va_S (fun q => base ≤ q) s.heap H' locs' → n0 + cells' = h'.length → z0 + slots' = sm_sz h' → W p l e R s m args below meth c H' locs' cells' slots' Q (F0 m pc' ls' (sk'.map (sm_v (sm_ad st base))))) :
    W p l e R s m args below meth c H locs cells slots Q (F0 m pc ls (sk.map (sm_v (sm_ad st base)))) := by
    have hs1 := sm_l1_eq hs
    clear hs
    obtain ⟨x, s1, e0, hs⟩ := hs1
    subst e0
    have hs1 := sm_ai_eq hs
    clear hs
    obtain ⟨a, i, r, e0, hs⟩ := hs1
    subst e0
    split at hs
    · rename_i n f e1
      split at hs
      · rename_i hi
        cases hs
        obtain ⟨o1, o2, o3⟩ := sm_longs_at (ad := sm_ad st base) (cA := cA) (base := base) e1
        show W p l e R s m args below meth c H locs cells slots Q (F0 m pc ls (.long x :: .int i :: .ref (sm_ad st base a) :: sk'.map (sm_v (sm_ad st base))))
        rw [sm_ad_own o1]
        refine va_last hx hb hE.1 hP (sm_w_D _ _ _ _) hS (a - 8) 1 o3 rfl (sm_in_vp hi) hdg (fun H1 locs1 hP1 _ hS1 => k _ H1 locs1 _ _ hl ?_ hS1 (by rw [List.length_set]; exact hc1) (hc2.trans (sm_sz_set _ _ _ _ o2 (by rfl)).symm))
        rw [← sm_w_set]
        exact hP1
      · cases hs
    · cases hs
set_option maxHeartbeats 1000000 in
theorem sn_aastore {p : Program} {l : Launch} {e : Env} {R : Room} {s : State} {m : MethodId} {args : Array Value} {below : List Frame} {meth : Method} {c : Code} {H : Heap} {locs : List Loc} {cells slots : Nat} {Q : State → Prop} {cc : ByteArray} {nL n0 z0 d base : Nat} {st : Nat → Nat} {cA : Nat → ClassId} {D : va_G} {cl : List vw_C} {Cq own : String} {cq : Nat} {RO : List (Nat × (Nat → Int32))} {SF : List (String × String × String × Nat)} {Ts : List Jvm.Cond} {tyc : Nat → Nat → FieldType} {NV : Nat → List Value} {lk : Nat → Option sm_L} {ini : Bool} 
    (hx : p.tables.exec = Jvm.exec) (hb : c.code = cc) (hml : c.maxLocals = nL) (hown : s.vm.findClass own = some m.cls) (hts : ∀ w ∈ Ts, w.before args s = true) (hok : ∀ ix q, lk ix = some q → sm_okL cl tyc SF Cq Ts own ix q) (hcl : sm_okC cl tyc NV Ts) (hcq : ∃ r : vw_C, cl[cq]? = some r ∧ r.1 = Cq)
    (hini : ini = true → meth.name = "<init>") (hE : sm_env D cl cA Cq RO SF st base s s.heap) (hb0 : s.heap.size = base + n0) (hd : d ≤ R.frames) (hdl : d * 100 ≤ R.locals) (har : ∀ q t, sm_aty q = some t → Jvm.Cond.arrayClass (newarray.typeOf q) ∈ Ts)
    {len pc pc' : Nat} {lv lv' : sm_V} {sk sk' : List Value} {h h' : sm_H} {ls : Array Slot} (hdg : decode cc pc = .ok (.aastore, sm_len .aastore len)) (hl : lv_has ls nL (sm_lv (sm_ad st base) lv)) (hP : va_P D cl (sm_w (sm_ad st base) cA base h) H) (hS : va_S (fun q => base ≤ q) s.heap H locs) (hc1 : n0 + cells = h.length) (hc2 : z0 + slots = sm_sz h)
    (hm1 : h'.length ≤ n0 + R.cells) (hm2 : sm_sz h' ≤ z0 + R.slots) (hs : sm_step lk RO NV cq ini nL d .aastore pc lv sk h = some (pc', lv', sk', h'))
    (k : ∀ (ls' : Array Slot) (H' : Heap) (locs' : List Loc) (cells' slots' : Nat), lv_has ls' nL (sm_lv (sm_ad st base) lv') → va_P D cl (sm_w (sm_ad st base) cA base h') H' → va_S (fun q => base ≤ q) s.heap H' locs' → n0 + cells' = h'.length → z0 + slots' = sm_sz h' → W p l e R s m args below meth c H' locs' cells' slots' Q (F0 m pc' ls' (sk'.map (sm_v (sm_ad st base))))) :
    W p l e R s m args below meth c H locs cells slots Q (F0 m pc ls (sk.map (sm_v (sm_ad st base)))) := by
    have hs1 := sm_r1_eq hs
    clear hs
    obtain ⟨v, s1, e0, hs⟩ := hs1
    subst e0
    have hs1 := sm_ai_eq hs
    clear hs
    obtain ⟨a, i, r, e0, hs⟩ := hs1
    subst e0
    split at hs
    · rename_i n f e1
      split at hs
      · rename_i fs e2
        split at hs
        · rename_i hi
          cases hs
          obtain ⟨r0, g1, g2⟩ := hcq
          subst g2
          obtain ⟨o1, o2, o3⟩ := sm_refs_at (ad := sm_ad st base) (cA := cA) (base := base) e1
          obtain ⟨v1, v2, v3⟩ := sm_obj_at (ad := sm_ad st base) (cA := cA) (base := base) e2
          show W p l e R s m args below meth c H locs cells slots Q (F0 m pc ls (.ref (sm_ad st base v) :: .int i :: .ref (sm_ad st base a) :: sk'.map (sm_v (sm_ad st base))))
          rw [sm_ad_own o1, sm_ad_own v1]
          refine va_astq hx hb hE.1 hP (sm_w_D _ _ _ _) hS (a - 8) 4 (v - 8) cq o3 rfl v3 g1 (sm_in_vp hi) hdg (fun H1 locs1 hP1 _ hS1 => k _ H1 locs1 _ _ hl ?_ hS1 (by rw [List.length_set]; exact hc1) (hc2.trans (sm_sz_set _ _ _ _ o2 (by rfl)).symm))
          rw [← sm_w_set]
          have hf : (fun j => (va_up f i.toNatClampNeg (some v) j).map (sm_ad st base)) = va_up (fun j => (f j).map (sm_ad st base)) i.toNatClampNeg (some (base + (v - 8))) := by
            funext j
            unfold va_up
            split
            · rw [← sm_ad_own (st := st) v1]; rfl
            · rfl
          show va_P D cl (List.set _ _ (_, .inl (cA 4, n, .inr (.inr (.inr (.inr (fun j => (va_up f i.toNatClampNeg (some v) j).map (sm_ad st base)))))))) H1
          rw [hf]
          exact hP1
        · cases hs
      · cases hs
    · cases hs
set_option maxHeartbeats 1000000 in
theorem sn_invokespecial {p : Program} {l : Launch} {e : Env} {R : Room} {s : State} {m : MethodId} {args : Array Value} {below : List Frame} {meth : Method} {c : Code} {H : Heap} {locs : List Loc} {cells slots : Nat} {Q : State → Prop} {cc : ByteArray} {nL n0 z0 d base : Nat} {st : Nat → Nat} {cA : Nat → ClassId} {D : va_G} {cl : List vw_C} {Cq own : String} {cq : Nat} {RO : List (Nat × (Nat → Int32))} {SF : List (String × String × String × Nat)} {Ts : List Jvm.Cond} {tyc : Nat → Nat → FieldType} {NV : Nat → List Value} {lk : Nat → Option sm_L} {ini : Bool} {ix : Nat}
    (hx : p.tables.exec = Jvm.exec) (hb : c.code = cc) (hml : c.maxLocals = nL) (hown : s.vm.findClass own = some m.cls) (hts : ∀ w ∈ Ts, w.before args s = true) (hok : ∀ ix q, lk ix = some q → sm_okL cl tyc SF Cq Ts own ix q) (hcl : sm_okC cl tyc NV Ts) (hcq : ∃ r : vw_C, cl[cq]? = some r ∧ r.1 = Cq)
    (hini : ini = true → meth.name = "<init>") (hE : sm_env D cl cA Cq RO SF st base s s.heap) (hb0 : s.heap.size = base + n0) (hd : d ≤ R.frames) (hdl : d * 100 ≤ R.locals) (har : ∀ q t, sm_aty q = some t → Jvm.Cond.arrayClass (newarray.typeOf q) ∈ Ts)
    {len pc pc' : Nat} {lv lv' : sm_V} {sk sk' : List Value} {h h' : sm_H} {ls : Array Slot} (hdg : decode cc pc = .ok ((.invokespecial ix), sm_len (.invokespecial ix) len)) (hl : lv_has ls nL (sm_lv (sm_ad st base) lv)) (hP : va_P D cl (sm_w (sm_ad st base) cA base h) H) (hS : va_S (fun q => base ≤ q) s.heap H locs) (hc1 : n0 + cells = h.length) (hc2 : z0 + slots = sm_sz h)
    (hm1 : h'.length ≤ n0 + R.cells) (hm2 : sm_sz h' ≤ z0 + R.slots) (hs : sm_step lk RO NV cq ini nL d (.invokespecial ix) pc lv sk h = some (pc', lv', sk', h'))
    (k : ∀ (ls' : Array Slot) (H' : Heap) (locs' : List Loc) (cells' slots' : Nat), lv_has ls' nL (sm_lv (sm_ad st base) lv') → va_P D cl (sm_w (sm_ad st base) cA base h') H' → va_S (fun q => base ≤ q) s.heap H' locs' → n0 + cells' = h'.length → z0 + slots' = sm_sz h' → W p l e R s m args below meth c H' locs' cells' slots' Q (F0 m pc' ls' (sk'.map (sm_v (sm_ad st base))))) :
    W p l e R s m args below meth c H locs cells slots Q (F0 m pc ls (sk.map (sm_v (sm_ad st base)))) := by
    dsimp only [sm_step] at hs
    split at hs
    · rename_i i9 k9 z9 e9
      have hs1 := sm_r1_eq hs
      clear hs
      obtain ⟨a, r, e0, hs⟩ := hs1
      subst e0
      split at hs
      · rename_i hq
        cases hs
        obtain ⟨g1, g2, g3⟩ := (hok ix _ e9).2.1 rfl
        have q9 : W p l e R s m args below meth c H locs cells slots Q (F0 m (pc + 3) ls (sk'.map (sm_v (sm_ad st base)))) := k _ _ _ _ _ hl hP hS hc1 hc2
        refine W.objInit hx hb hown (hts _ g1) (hts _ g2) (hts _ g3) (g := F0 m pc ls (.ref (sm_ad st base a) :: sk'.map (sm_v (sm_ad st base)))) rfl (by rw [hml]; exact hl.1) rfl hdg (by omega) ?_ ?_
        · have h8 := sm_sum_map (sm_ad st base) sk'
          have h9 : (F0 m pc ls (.ref (sm_ad st base a) :: sk'.map (sm_v (sm_ad st base)))).monitorRoom = 0 := rfl
          rw [h9, h8]
          omega
        · exact W.eq rfl q9
      · cases hs
    · cases hs
set_option maxHeartbeats 1000000 in
theorem sn_invokestatic {p : Program} {l : Launch} {e : Env} {R : Room} {s : State} {m : MethodId} {args : Array Value} {below : List Frame} {meth : Method} {c : Code} {H : Heap} {locs : List Loc} {cells slots : Nat} {Q : State → Prop} {cc : ByteArray} {nL n0 z0 d base : Nat} {st : Nat → Nat} {cA : Nat → ClassId} {D : va_G} {cl : List vw_C} {Cq own : String} {cq : Nat} {RO : List (Nat × (Nat → Int32))} {SF : List (String × String × String × Nat)} {Ts : List Jvm.Cond} {tyc : Nat → Nat → FieldType} {NV : Nat → List Value} {lk : Nat → Option sm_L} {ini : Bool} {ix : Nat}
    (hx : p.tables.exec = Jvm.exec) (hb : c.code = cc) (hml : c.maxLocals = nL) (hown : s.vm.findClass own = some m.cls) (hts : ∀ w ∈ Ts, w.before args s = true) (hok : ∀ ix q, lk ix = some q → sm_okL cl tyc SF Cq Ts own ix q) (hcl : sm_okC cl tyc NV Ts) (hcq : ∃ r : vw_C, cl[cq]? = some r ∧ r.1 = Cq)
    (hini : ini = true → meth.name = "<init>") (hE : sm_env D cl cA Cq RO SF st base s s.heap) (hb0 : s.heap.size = base + n0) (hd : d ≤ R.frames) (hdl : d * 100 ≤ R.locals) (har : ∀ q t, sm_aty q = some t → Jvm.Cond.arrayClass (newarray.typeOf q) ∈ Ts)
    {len pc pc' : Nat} {lv lv' : sm_V} {sk sk' : List Value} {h h' : sm_H} {ls : Array Slot} (hdg : decode cc pc = .ok ((.invokestatic ix), sm_len (.invokestatic ix) len)) (hl : lv_has ls nL (sm_lv (sm_ad st base) lv)) (hP : va_P D cl (sm_w (sm_ad st base) cA base h) H) (hS : va_S (fun q => base ≤ q) s.heap H locs) (hc1 : n0 + cells = h.length) (hc2 : z0 + slots = sm_sz h)
    (hm1 : h'.length ≤ n0 + R.cells) (hm2 : sm_sz h' ≤ z0 + R.slots) (hs : sm_step lk RO NV cq ini nL d (.invokestatic ix) pc lv sk h = some (pc', lv', sk', h'))
    (k : ∀ (ls' : Array Slot) (H' : Heap) (locs' : List Loc) (cells' slots' : Nat), lv_has ls' nL (sm_lv (sm_ad st base) lv') → va_P D cl (sm_w (sm_ad st base) cA base h') H' → va_S (fun q => base ≤ q) s.heap H' locs' → n0 + cells' = h'.length → z0 + slots' = sm_sz h' → W p l e R s m args below meth c H' locs' cells' slots' Q (F0 m pc' ls' (sk'.map (sm_v (sm_ad st base))))) :
    W p l e R s m args below meth c H locs cells slots Q (F0 m pc ls (sk.map (sm_v (sm_ad st base)))) := by
    dsimp only [sm_step] at hs
    split at hs
    · rename_i i9 k9 z9 e9
      have hs1 := sm_i2_eq hs
      clear hs
      obtain ⟨x, y, r, e0, hs⟩ := hs1
      subst e0
      split at hs
      · rename_i hq
        cases hs
        obtain ⟨g1, g2, g3, g4⟩ := (hok ix _ e9).2.2.2.2.2.2.1 rfl
        have h8 := sm_sum_map (sm_ad st base) r
        exact va_mmax hx hb (by rw [hml]; exact hl.1.symm) hown (hts _ g1) (hts _ g2) (hts _ g3) (hts _ g4) (by omega) (by rw [h8]; omega) (by omega) (by omega) hdg (k _ _ _ _ _ hl hP hS hc1 hc2)
      · cases hs
    · rename_i i9 k9 z9 e9
      have hs1 := sm_i2_eq hs
      clear hs
      obtain ⟨x, y, r, e0, hs⟩ := hs1
      subst e0
      split at hs
      · rename_i hq
        cases hs
        obtain ⟨g1, g2, g3, g4⟩ := (hok ix _ e9).2.2.2.2.2.2.2.1 rfl
        have h8 := sm_sum_map (sm_ad st base) r
        exact va_mmin hx hb (by rw [hml]; exact hl.1.symm) hown (hts _ g1) (hts _ g2) (hts _ g3) (hts _ g4) (by omega) (by rw [h8]; omega) (by omega) (by omega) hdg (k _ _ _ _ _ hl hP hS hc1 hc2)
      · cases hs
    · rename_i i9 k9 z9 e9
      have hs1 := sm_i1_eq hs
      clear hs
      obtain ⟨x, r, e0, hs⟩ := hs1
      subst e0
      split at hs
      · rename_i hq
        cases hs
        obtain ⟨g1, g2, g3, g4⟩ := (hok ix _ e9).2.2.2.2.2.2.2.2.1 rfl
        have h8 := sm_sum_map (sm_ad st base) r
        exact va_mabs hx hb (by rw [hml]; exact hl.1.symm) hown (hts _ g1) (hts _ g2) (hts _ g3) (hts _ g4) (by omega) (by rw [h8]; omega) (by omega) (by omega) hdg (k _ _ _ _ _ hl hP hS hc1 hc2)
      · cases hs
    · rename_i i9 k9 z9 e9
      have hs1 := sm_i2_eq hs
      clear hs
      obtain ⟨dp, n, s1, e0, hs⟩ := hs1
      subst e0
      have hs1 := sm_r1_eq hs
      clear hs
      obtain ⟨a, s2, e0, hs⟩ := hs1
      subst e0
      have hs1 := sm_ai_eq hs
      clear hs
      obtain ⟨a0, sp, r, e0, hs⟩ := hs1
      subst e0
      split at hs
      · rename_i hq
        obtain ⟨g1, g2, g3, g4⟩ := (hok ix _ e9).2.2.2.2.2.2.2.2.2 rfl
        have h8 := sm_sum_map (sm_ad st base) r
        split at hs
        · rename_i hh e5
          cases hs
          obtain ⟨n0', f, n1, g, x1, x2, x3, x4, rfl⟩ := sm_cpI_eq e5
          obtain ⟨o1, o2, o3⟩ := sm_ints_own (ad := sm_ad st base) (cA := cA) (base := base) x1
          obtain ⟨p1, p2, p3⟩ := sm_ints_own (ad := sm_ad st base) (cA := cA) (base := base) x2
          show W p l e R s m args below meth c H locs cells slots Q (F0 m pc ls (.int n :: .int dp :: .ref (sm_ad st base a) :: .int sp :: .ref (sm_ad st base a0) :: sk'.map (sm_v (sm_ad st base))))
          rw [sm_ad_own o1, sm_ad_own p1]
          refine va_copyi hx hb (by rw [hml]; exact hl.1.symm) hown (hts _ g1) (hts _ g2) (hts _ g3) (hts _ g4) hE.1 hP (sm_w_D _ _ _ _) hS (a0 - 8) (a - 8) 0 0 o3 p3 rfl rfl rfl hq.2.2.1 hq.2.2.2.1 hq.2.2.2.2 x3 x4 (fun _ _ => rfl) (by omega) (by rw [h8]; show _ + (7 + 11) ≤ _; omega) hdg (fun H1 locs1 hP1 _ hS1 => k _ H1 locs1 _ _ hl ?_ hS1 (by rw [List.length_set]; exact hc1) (hc2.trans (sm_sz_set _ _ _ _ p2 (by rfl)).symm))
          rw [← sm_w_set]
          exact hP1
        · split at hs
          · rename_i hh e5
            cases hs
            obtain ⟨n0', f, n1, g, x1, x2, x3, x4, rfl⟩ := sm_cpL_eq e5
            obtain ⟨o1, o2, o3⟩ := sm_longs_at (ad := sm_ad st base) (cA := cA) (base := base) x1
            obtain ⟨p1, p2, p3⟩ := sm_longs_at (ad := sm_ad st base) (cA := cA) (base := base) x2
            show W p l e R s m args below meth c H locs cells slots Q (F0 m pc ls (.int n :: .int dp :: .ref (sm_ad st base a) :: .int sp :: .ref (sm_ad st base a0) :: sk'.map (sm_v (sm_ad st base))))
            rw [sm_ad_own o1, sm_ad_own p1]
            refine va_copyl hx hb (by rw [hml]; exact hl.1.symm) hown (hts _ g1) (hts _ g2) (hts _ g3) (hts _ g4) hE.1 hP (sm_w_D _ _ _ _) hS (a0 - 8) (a - 8) 1 1 o3 p3 rfl rfl rfl hq.2.2.1 hq.2.2.2.1 hq.2.2.2.2 x3 x4 (fun _ _ => rfl) (by omega) (by rw [h8]; show _ + (7 + 11) ≤ _; omega) hdg (fun H1 locs1 hP1 _ hS1 => k _ H1 locs1 _ _ hl ?_ hS1 (by rw [List.length_set]; exact hc1) (hc2.trans (sm_sz_set _ _ _ _ p2 (by rfl)).symm))
            rw [← sm_w_set]
            exact hP1
          · cases hs
      · cases hs
    · cases hs
set_option maxHeartbeats 4000000 in
/-- one step of the small machine is the machine's -/
theorem sm_sound {p : Program} {l : Launch} {e : Env} {R : Room} {s : State} {m : MethodId} {args : Array Value} {below : List Frame} {meth : Method} {c : Code} {H : Heap} {locs : List Loc} {cells slots : Nat} {Q : State → Prop} {cc : ByteArray} {nL n0 z0 d base : Nat} {st : Nat → Nat} {cA : Nat → ClassId} {D : va_G} {cl : List vw_C} {Cq own : String} {cq : Nat} {RO : List (Nat × (Nat → Int32))} {SF : List (String × String × String × Nat)} {Ts : List Jvm.Cond} {tyc : Nat → Nat → FieldType} {NV : Nat → List Value} {lk : Nat → Option sm_L} {ini : Bool}
    (hx : p.tables.exec = Jvm.exec) (hb : c.code = cc) (hml : c.maxLocals = nL) (hown : s.vm.findClass own = some m.cls) (hts : ∀ w ∈ Ts, w.before args s = true) (hok : ∀ ix q, lk ix = some q → sm_okL cl tyc SF Cq Ts own ix q) (hcl : sm_okC cl tyc NV Ts) (hcq : ∃ r : vw_C, cl[cq]? = some r ∧ r.1 = Cq)
    (hini : ini = true → meth.name = "<init>") (hE : sm_env D cl cA Cq RO SF st base s s.heap) (hb0 : s.heap.size = base + n0) (hd : d ≤ R.frames) (hdl : d * 100 ≤ R.locals) (har : ∀ q t, sm_aty q = some t → Jvm.Cond.arrayClass (newarray.typeOf q) ∈ Ts)
    {ins : Instr} {len pc pc' : Nat} {lv lv' : sm_V} {sk sk' : List Value} {h h' : sm_H} {ls : Array Slot} (hdg : decode cc pc = .ok (ins, sm_len ins len)) (hl : lv_has ls nL (sm_lv (sm_ad st base) lv)) (hP : va_P D cl (sm_w (sm_ad st base) cA base h) H) (hS : va_S (fun q => base ≤ q) s.heap H locs) (hc1 : n0 + cells = h.length) (hc2 : z0 + slots = sm_sz h)
    (hm1 : h'.length ≤ n0 + R.cells) (hm2 : sm_sz h' ≤ z0 + R.slots) (hs : sm_step lk RO NV cq ini nL d ins pc lv sk h = some (pc', lv', sk', h'))
    (k : ∀ (ls' : Array Slot) (H' : Heap) (locs' : List Loc) (cells' slots' : Nat), lv_has ls' nL (sm_lv (sm_ad st base) lv') → va_P D cl (sm_w (sm_ad st base) cA base h') H' → va_S (fun q => base ≤ q) s.heap H' locs' → n0 + cells' = h'.length → z0 + slots' = sm_sz h' → W p l e R s m args below meth c H' locs' cells' slots' Q (F0 m pc' ls' (sk'.map (sm_v (sm_ad st base))))) :
    W p l e R s m args below meth c H locs cells slots Q (F0 m pc ls (sk.map (sm_v (sm_ad st base)))) := by
  cases ins
  case iconst a0 => exact sn_iconst hx hb hml hown hts hok hcl hcq hini hE hb0 hd hdl har hdg hl hP hS hc1 hc2 hm1 hm2 hs k
  case bipush a0 => exact sn_bipush hx hb hml hown hts hok hcl hcq hini hE hb0 hd hdl har hdg hl hP hS hc1 hc2 hm1 hm2 hs k
  case sipush a0 => exact sn_sipush hx hb hml hown hts hok hcl hcq hini hE hb0 hd hdl har hdg hl hP hS hc1 hc2 hm1 hm2 hs k
  case lconst a0 => exact sn_lconst hx hb hml hown hts hok hcl hcq hini hE hb0 hd hdl har hdg hl hP hS hc1 hc2 hm1 hm2 hs k
  case iload_n a0 => exact sn_iload_n hx hb hml hown hts hok hcl hcq hini hE hb0 hd hdl har hdg hl hP hS hc1 hc2 hm1 hm2 hs k
  case iload a0 => exact sn_iload hx hb hml hown hts hok hcl hcq hini hE hb0 hd hdl har hdg hl hP hS hc1 hc2 hm1 hm2 hs k
  case lload_n a0 => exact sn_lload_n hx hb hml hown hts hok hcl hcq hini hE hb0 hd hdl har hdg hl hP hS hc1 hc2 hm1 hm2 hs k
  case lload a0 => exact sn_lload hx hb hml hown hts hok hcl hcq hini hE hb0 hd hdl har hdg hl hP hS hc1 hc2 hm1 hm2 hs k
  case aload_n a0 => exact sn_aload_n hx hb hml hown hts hok hcl hcq hini hE hb0 hd hdl har hdg hl hP hS hc1 hc2 hm1 hm2 hs k
  case aload a0 => exact sn_aload hx hb hml hown hts hok hcl hcq hini hE hb0 hd hdl har hdg hl hP hS hc1 hc2 hm1 hm2 hs k
  case istore_n a0 => exact sn_istore_n hx hb hml hown hts hok hcl hcq hini hE hb0 hd hdl har hdg hl hP hS hc1 hc2 hm1 hm2 hs k
  case istore a0 => exact sn_istore hx hb hml hown hts hok hcl hcq hini hE hb0 hd hdl har hdg hl hP hS hc1 hc2 hm1 hm2 hs k
  case lstore_n a0 => exact sn_lstore_n hx hb hml hown hts hok hcl hcq hini hE hb0 hd hdl har hdg hl hP hS hc1 hc2 hm1 hm2 hs k
  case lstore a0 => exact sn_lstore hx hb hml hown hts hok hcl hcq hini hE hb0 hd hdl har hdg hl hP hS hc1 hc2 hm1 hm2 hs k
  case astore_n a0 => exact sn_astore_n hx hb hml hown hts hok hcl hcq hini hE hb0 hd hdl har hdg hl hP hS hc1 hc2 hm1 hm2 hs k
  case astore a0 => exact sn_astore hx hb hml hown hts hok hcl hcq hini hE hb0 hd hdl har hdg hl hP hS hc1 hc2 hm1 hm2 hs k
  case iinc a0 a1 => exact sn_iinc hx hb hml hown hts hok hcl hcq hini hE hb0 hd hdl har hdg hl hP hS hc1 hc2 hm1 hm2 hs k
  case iadd => exact sn_iadd hx hb hml hown hts hok hcl hcq hini hE hb0 hd hdl har hdg hl hP hS hc1 hc2 hm1 hm2 hs k
  case isub => exact sn_isub hx hb hml hown hts hok hcl hcq hini hE hb0 hd hdl har hdg hl hP hS hc1 hc2 hm1 hm2 hs k
  case imul => exact sn_imul hx hb hml hown hts hok hcl hcq hini hE hb0 hd hdl har hdg hl hP hS hc1 hc2 hm1 hm2 hs k
  case iand => exact sn_iand hx hb hml hown hts hok hcl hcq hini hE hb0 hd hdl har hdg hl hP hS hc1 hc2 hm1 hm2 hs k
  case ior => exact sn_ior hx hb hml hown hts hok hcl hcq hini hE hb0 hd hdl har hdg hl hP hS hc1 hc2 hm1 hm2 hs k
  case ixor => exact sn_ixor hx hb hml hown hts hok hcl hcq hini hE hb0 hd hdl har hdg hl hP hS hc1 hc2 hm1 hm2 hs k
  case ishl => exact sn_ishl hx hb hml hown hts hok hcl hcq hini hE hb0 hd hdl har hdg hl hP hS hc1 hc2 hm1 hm2 hs k
  case ishr => exact sn_ishr hx hb hml hown hts hok hcl hcq hini hE hb0 hd hdl har hdg hl hP hS hc1 hc2 hm1 hm2 hs k
  case iushr => exact sn_iushr hx hb hml hown hts hok hcl hcq hini hE hb0 hd hdl har hdg hl hP hS hc1 hc2 hm1 hm2 hs k
  case idiv => exact sn_idiv hx hb hml hown hts hok hcl hcq hini hE hb0 hd hdl har hdg hl hP hS hc1 hc2 hm1 hm2 hs k
  case irem => exact sn_irem hx hb hml hown hts hok hcl hcq hini hE hb0 hd hdl har hdg hl hP hS hc1 hc2 hm1 hm2 hs k
  case ladd => exact sn_ladd hx hb hml hown hts hok hcl hcq hini hE hb0 hd hdl har hdg hl hP hS hc1 hc2 hm1 hm2 hs k
  case lsub => exact sn_lsub hx hb hml hown hts hok hcl hcq hini hE hb0 hd hdl har hdg hl hP hS hc1 hc2 hm1 hm2 hs k
  case lmul => exact sn_lmul hx hb hml hown hts hok hcl hcq hini hE hb0 hd hdl har hdg hl hP hS hc1 hc2 hm1 hm2 hs k
  case land => exact sn_land hx hb hml hown hts hok hcl hcq hini hE hb0 hd hdl har hdg hl hP hS hc1 hc2 hm1 hm2 hs k
  case lor => exact sn_lor hx hb hml hown hts hok hcl hcq hini hE hb0 hd hdl har hdg hl hP hS hc1 hc2 hm1 hm2 hs k
  case ldiv => exact sn_ldiv hx hb hml hown hts hok hcl hcq hini hE hb0 hd hdl har hdg hl hP hS hc1 hc2 hm1 hm2 hs k
  case lrem => exact sn_lrem hx hb hml hown hts hok hcl hcq hini hE hb0 hd hdl har hdg hl hP hS hc1 hc2 hm1 hm2 hs k
  case lshl => exact sn_lshl hx hb hml hown hts hok hcl hcq hini hE hb0 hd hdl har hdg hl hP hS hc1 hc2 hm1 hm2 hs k
  case lushr => exact sn_lushr hx hb hml hown hts hok hcl hcq hini hE hb0 hd hdl har hdg hl hP hS hc1 hc2 hm1 hm2 hs k
  case lcmp => exact sn_lcmp hx hb hml hown hts hok hcl hcq hini hE hb0 hd hdl har hdg hl hP hS hc1 hc2 hm1 hm2 hs k
  case ineg => exact sn_ineg hx hb hml hown hts hok hcl hcq hini hE hb0 hd hdl har hdg hl hP hS hc1 hc2 hm1 hm2 hs k
  case i2l => exact sn_i2l hx hb hml hown hts hok hcl hcq hini hE hb0 hd hdl har hdg hl hP hS hc1 hc2 hm1 hm2 hs k
  case i2b => exact sn_i2b hx hb hml hown hts hok hcl hcq hini hE hb0 hd hdl har hdg hl hP hS hc1 hc2 hm1 hm2 hs k
  case i2s => exact sn_i2s hx hb hml hown hts hok hcl hcq hini hE hb0 hd hdl har hdg hl hP hS hc1 hc2 hm1 hm2 hs k
  case l2i => exact sn_l2i hx hb hml hown hts hok hcl hcq hini hE hb0 hd hdl har hdg hl hP hS hc1 hc2 hm1 hm2 hs k
  case dup => exact sn_dup hx hb hml hown hts hok hcl hcq hini hE hb0 hd hdl har hdg hl hP hS hc1 hc2 hm1 hm2 hs k
  case pop => exact sn_pop hx hb hml hown hts hok hcl hcq hini hE hb0 hd hdl har hdg hl hP hS hc1 hc2 hm1 hm2 hs k
  case dup2 => exact sn_dup2 hx hb hml hown hts hok hcl hcq hini hE hb0 hd hdl har hdg hl hP hS hc1 hc2 hm1 hm2 hs k
  case dup_x1 => exact sn_dup_x1 hx hb hml hown hts hok hcl hcq hini hE hb0 hd hdl har hdg hl hP hS hc1 hc2 hm1 hm2 hs k
  case goto a0 => exact sn_goto hx hb hml hown hts hok hcl hcq hini hE hb0 hd hdl har hdg hl hP hS hc1 hc2 hm1 hm2 hs k
  case tableswitch a0 a1 a2 a3 => exact sn_tableswitch hx hb hml hown hts hok hcl hcq hini hE hb0 hd hdl har hdg hl hP hS hc1 hc2 hm1 hm2 hs k
  case lookupswitch a0 a1 => exact sn_lookupswitch hx hb hml hown hts hok hcl hcq hini hE hb0 hd hdl har hdg hl hP hS hc1 hc2 hm1 hm2 hs k
  case getfield a0 => exact sn_getfield hx hb hml hown hts hok hcl hcq hini hE hb0 hd hdl har hdg hl hP hS hc1 hc2 hm1 hm2 hs k
  case putfield a0 => exact sn_putfield hx hb hml hown hts hok hcl hcq hini hE hb0 hd hdl har hdg hl hP hS hc1 hc2 hm1 hm2 hs k
  case getstatic a0 => exact sn_getstatic hx hb hml hown hts hok hcl hcq hini hE hb0 hd hdl har hdg hl hP hS hc1 hc2 hm1 hm2 hs k
  case ldc a0 => exact sn_ldc hx hb hml hown hts hok hcl hcq hini hE hb0 hd hdl har hdg hl hP hS hc1 hc2 hm1 hm2 hs k
  case ldc_w a0 => exact sn_ldc_w hx hb hml hown hts hok hcl hcq hini hE hb0 hd hdl har hdg hl hP hS hc1 hc2 hm1 hm2 hs k
  case ldc2_w a0 => exact sn_ldc2_w hx hb hml hown hts hok hcl hcq hini hE hb0 hd hdl har hdg hl hP hS hc1 hc2 hm1 hm2 hs k
  case new a0 => exact sn_new hx hb hml hown hts hok hcl hcq hini hE hb0 hd hdl har hdg hl hP hS hc1 hc2 hm1 hm2 hs k
  case newarray a0 => exact sn_newarray hx hb hml hown hts hok hcl hcq hini hE hb0 hd hdl har hdg hl hP hS hc1 hc2 hm1 hm2 hs k
  case anewarray a0 => exact sn_anewarray hx hb hml hown hts hok hcl hcq hini hE hb0 hd hdl har hdg hl hP hS hc1 hc2 hm1 hm2 hs k
  case baload => exact sn_baload hx hb hml hown hts hok hcl hcq hini hE hb0 hd hdl har hdg hl hP hS hc1 hc2 hm1 hm2 hs k
  case saload => exact sn_saload hx hb hml hown hts hok hcl hcq hini hE hb0 hd hdl har hdg hl hP hS hc1 hc2 hm1 hm2 hs k
  case laload => exact sn_laload hx hb hml hown hts hok hcl hcq hini hE hb0 hd hdl har hdg hl hP hS hc1 hc2 hm1 hm2 hs k
  case aaload => exact sn_aaload hx hb hml hown hts hok hcl hcq hini hE hb0 hd hdl har hdg hl hP hS hc1 hc2 hm1 hm2 hs k
  case iaload => exact sn_iaload hx hb hml hown hts hok hcl hcq hini hE hb0 hd hdl har hdg hl hP hS hc1 hc2 hm1 hm2 hs k
  case arraylength => exact sn_arraylength hx hb hml hown hts hok hcl hcq hini hE hb0 hd hdl har hdg hl hP hS hc1 hc2 hm1 hm2 hs k
  case iastore => exact sn_iastore hx hb hml hown hts hok hcl hcq hini hE hb0 hd hdl har hdg hl hP hS hc1 hc2 hm1 hm2 hs k
  case bastore => exact sn_bastore hx hb hml hown hts hok hcl hcq hini hE hb0 hd hdl har hdg hl hP hS hc1 hc2 hm1 hm2 hs k
  case sastore => exact sn_sastore hx hb hml hown hts hok hcl hcq hini hE hb0 hd hdl har hdg hl hP hS hc1 hc2 hm1 hm2 hs k
  case lastore => exact sn_lastore hx hb hml hown hts hok hcl hcq hini hE hb0 hd hdl har hdg hl hP hS hc1 hc2 hm1 hm2 hs k
  case aastore => exact sn_aastore hx hb hml hown hts hok hcl hcq hini hE hb0 hd hdl har hdg hl hP hS hc1 hc2 hm1 hm2 hs k
  case invokespecial a0 => exact sn_invokespecial hx hb hml hown hts hok hcl hcq hini hE hb0 hd hdl har hdg hl hP hS hc1 hc2 hm1 hm2 hs k
  case invokestatic a0 => exact sn_invokestatic hx hb hml hown hts hok hcl hcq hini hE hb0 hd hdl har hdg hl hP hS hc1 hc2 hm1 hm2 hs k
  case ifCond a0 a1 => cases a0 <;> first | exact sn_ifCond_eq hx hb hml hown hts hok hcl hcq hini hE hb0 hd hdl har hdg hl hP hS hc1 hc2 hm1 hm2 hs k | exact sn_ifCond_ne hx hb hml hown hts hok hcl hcq hini hE hb0 hd hdl har hdg hl hP hS hc1 hc2 hm1 hm2 hs k | exact sn_ifCond_lt hx hb hml hown hts hok hcl hcq hini hE hb0 hd hdl har hdg hl hP hS hc1 hc2 hm1 hm2 hs k | exact sn_ifCond_ge hx hb hml hown hts hok hcl hcq hini hE hb0 hd hdl har hdg hl hP hS hc1 hc2 hm1 hm2 hs k | exact sn_ifCond_gt hx hb hml hown hts hok hcl hcq hini hE hb0 hd hdl har hdg hl hP hS hc1 hc2 hm1 hm2 hs k | exact sn_ifCond_le hx hb hml hown hts hok hcl hcq hini hE hb0 hd hdl har hdg hl hP hS hc1 hc2 hm1 hm2 hs k
  case if_icmp a0 a1 => cases a0 <;> first | exact sn_if_icmp_eq hx hb hml hown hts hok hcl hcq hini hE hb0 hd hdl har hdg hl hP hS hc1 hc2 hm1 hm2 hs k | exact sn_if_icmp_ne hx hb hml hown hts hok hcl hcq hini hE hb0 hd hdl har hdg hl hP hS hc1 hc2 hm1 hm2 hs k | exact sn_if_icmp_lt hx hb hml hown hts hok hcl hcq hini hE hb0 hd hdl har hdg hl hP hS hc1 hc2 hm1 hm2 hs k | exact sn_if_icmp_ge hx hb hml hown hts hok hcl hcq hini hE hb0 hd hdl har hdg hl hP hS hc1 hc2 hm1 hm2 hs k | exact sn_if_icmp_gt hx hb hml hown hts hok hcl hcq hini hE hb0 hd hdl har hdg hl hP hS hc1 hc2 hm1 hm2 hs k | exact sn_if_icmp_le hx hb hml hown hts hok hcl hcq hini hE hb0 hd hdl har hdg hl hP hS hc1 hc2 hm1 hm2 hs k
  all_goals (exact absurd hs (by simp [sm_step]))
end
section
/-! The small machine's run: instructions and calls. -/
theorem sm_keepH {h : sm_H} : h.length ≤ h.length ∧ sm_sz h ≤ sm_sz h := ⟨Nat.le_refl _, Nat.le_refl _⟩
theorem sm_setH {h : sm_H} {k : Nat} {c d : sm_C} (hk : h[k]? = some d) (e : sm_cz c = sm_cz d) : h.length ≤ (h.set k c).length ∧ sm_sz h ≤ sm_sz (h.set k c) := ⟨by rw [List.length_set]; exact Nat.le_refl _, by rw [sm_sz_set _ _ _ _ hk e]; exact Nat.le_refl _⟩
theorem sm_appH {h : sm_H} {c : sm_C} : h.length ≤ (h ++ [c]).length ∧ sm_sz h ≤ sm_sz (h ++ [c]) := ⟨by rw [List.length_append]; exact Nat.le_add_right _ _, by rw [sm_sz_app]; exact Nat.le_add_right _ _⟩
theorem sz_putfield {lk : Nat → Option sm_L} {RO : List (Nat × (Nat → Int32))} {NV : Nat → List Value} {cq : Nat} {ini : Bool} {nL d : Nat} {pc pc' : Nat} {lv lv' : sm_V} {sk sk' : List Value} {h h' : sm_H} {ix : Nat} (hs : sm_step lk RO NV cq ini nL d (.putfield ix) pc lv sk h = some (pc', lv', sk', h')) : h.length ≤ h'.length ∧ sm_sz h ≤ sm_sz h' := by
    dsimp only [sm_step] at hs
    split at hs
    · split at hs
      · split at hs
        · rename_i fs e1
          split at hs
          · cases hs
            exact sm_setH (sm_obj_at (ad := id) (cA := fun _ => 0) (base := 0) e1).2.1 (by simp [sm_cz])
          · cases hs
        · cases hs
      · cases hs
    · cases hs
theorem sz_iastore {lk : Nat → Option sm_L} {RO : List (Nat × (Nat → Int32))} {NV : Nat → List Value} {cq : Nat} {ini : Bool} {nL d : Nat} {pc pc' : Nat} {lv lv' : sm_V} {sk sk' : List Value} {h h' : sm_H}  (hs : sm_step lk RO NV cq ini nL d .iastore pc lv sk h = some (pc', lv', sk', h')) : h.length ≤ h'.length ∧ sm_sz h ≤ sm_sz h' := by
    have hs1 := sm_i1_eq hs
    clear hs
    obtain ⟨x, s1, e0, hs⟩ := hs1
    have hs1 := sm_ai_eq hs
    clear hs
    obtain ⟨a, i, r, e0, hs⟩ := hs1
    split at hs
    · rename_i n f e1
      split at hs
      · cases hs
        exact sm_setH (sm_ints_own (ad := id) (cA := fun _ => 0) (base := 0) e1).2.1 (by rfl)
      · cases hs
    · cases hs
theorem sz_bastore {lk : Nat → Option sm_L} {RO : List (Nat × (Nat → Int32))} {NV : Nat → List Value} {cq : Nat} {ini : Bool} {nL d : Nat} {pc pc' : Nat} {lv lv' : sm_V} {sk sk' : List Value} {h h' : sm_H}  (hs : sm_step lk RO NV cq ini nL d .bastore pc lv sk h = some (pc', lv', sk', h')) : h.length ≤ h'.length ∧ sm_sz h ≤ sm_sz h' := by
    have hs1 := sm_i1_eq hs
    clear hs
    obtain ⟨x, s1, e0, hs⟩ := hs1
    have hs1 := sm_ai_eq hs
    clear hs
    obtain ⟨a, i, r, e0, hs⟩ := hs1
    split at hs
    · rename_i n f e1
      split at hs
      · cases hs
        exact sm_setH (sm_ints_own (ad := id) (cA := fun _ => 0) (base := 0) e1).2.1 (by rfl)
      · cases hs
    · cases hs
theorem sz_sastore {lk : Nat → Option sm_L} {RO : List (Nat × (Nat → Int32))} {NV : Nat → List Value} {cq : Nat} {ini : Bool} {nL d : Nat} {pc pc' : Nat} {lv lv' : sm_V} {sk sk' : List Value} {h h' : sm_H}  (hs : sm_step lk RO NV cq ini nL d .sastore pc lv sk h = some (pc', lv', sk', h')) : h.length ≤ h'.length ∧ sm_sz h ≤ sm_sz h' := by
    have hs1 := sm_i1_eq hs
    clear hs
    obtain ⟨x, s1, e0, hs⟩ := hs1
    have hs1 := sm_ai_eq hs
    clear hs
    obtain ⟨a, i, r, e0, hs⟩ := hs1
    split at hs
    · rename_i n f e1
      split at hs
      · cases hs
        exact sm_setH (sm_ints_own (ad := id) (cA := fun _ => 0) (base := 0) e1).2.1 (by rfl)
      · cases hs
    · cases hs
theorem sz_lastore {lk : Nat → Option sm_L} {RO : List (Nat × (Nat → Int32))} {NV : Nat → List Value} {cq : Nat} {ini : Bool} {nL d : Nat} {pc pc' : Nat} {lv lv' : sm_V} {sk sk' : List Value} {h h' : sm_H}  (hs : sm_step lk RO NV cq ini nL d .lastore pc lv sk h = some (pc', lv', sk', h')) : h.length ≤ h'.length ∧ sm_sz h ≤ sm_sz h' := by
    have hs1 := sm_l1_eq hs
    clear hs
    obtain ⟨x, s1, e0, hs⟩ := hs1
    have hs1 := sm_ai_eq hs
    clear hs
    obtain ⟨a, i, r, e0, hs⟩ := hs1
    split at hs
    · rename_i n f e1
      split at hs
      · cases hs
        exact sm_setH (sm_longs_at (ad := id) (cA := fun _ => 0) (base := 0) e1).2.1 (by rfl)
      · cases hs
    · cases hs
theorem sz_aastore {lk : Nat → Option sm_L} {RO : List (Nat × (Nat → Int32))} {NV : Nat → List Value} {cq : Nat} {ini : Bool} {nL d : Nat} {pc pc' : Nat} {lv lv' : sm_V} {sk sk' : List Value} {h h' : sm_H}  (hs : sm_step lk RO NV cq ini nL d .aastore pc lv sk h = some (pc', lv', sk', h')) : h.length ≤ h'.length ∧ sm_sz h ≤ sm_sz h' := by
    have hs1 := sm_r1_eq hs
    clear hs
    obtain ⟨x, s1, e0, hs⟩ := hs1
    have hs1 := sm_ai_eq hs
    clear hs
    obtain ⟨a, i, r, e0, hs⟩ := hs1
    split at hs
    · rename_i n f e1
      split at hs
      · split at hs
        · cases hs
          exact sm_setH (sm_refs_at (ad := id) (cA := fun _ => 0) (base := 0) e1).2.1 (by rfl)
        · cases hs
      · cases hs
    · cases hs
theorem sz_invokestatic {lk : Nat → Option sm_L} {RO : List (Nat × (Nat → Int32))} {NV : Nat → List Value} {cq : Nat} {ini : Bool} {nL d : Nat} {pc pc' : Nat} {lv lv' : sm_V} {sk sk' : List Value} {h h' : sm_H} {ix : Nat} (hs : sm_step lk RO NV cq ini nL d (.invokestatic ix) pc lv sk h = some (pc', lv', sk', h')) : h.length ≤ h'.length ∧ sm_sz h ≤ sm_sz h' := by
    dsimp only [sm_step] at hs
    split at hs
    · obtain ⟨x, y, r, e0, hs9⟩ := sm_i2_eq hs
      split at hs9
      · cases hs9
        exact sm_keepH
      · cases hs9
    · obtain ⟨x, y, r, e0, hs9⟩ := sm_i2_eq hs
      split at hs9
      · cases hs9
        exact sm_keepH
      · cases hs9
    · obtain ⟨x, r, e0, hs9⟩ := sm_i1_eq hs
      split at hs9
      · cases hs9
        exact sm_keepH
      · cases hs9
    · obtain ⟨dp, n, s1, e0, hs9⟩ := sm_i2_eq hs
      obtain ⟨a, s2, e0, hs8⟩ := sm_r1_eq hs9
      obtain ⟨a0, sp, r, e0, hs7⟩ := sm_ai_eq hs8
      split at hs7
      · split at hs7
        · rename_i hh e5
          cases hs7
          obtain ⟨n0', f, n1, g, x1, x2, x3, x4, rfl⟩ := sm_cpI_eq e5
          exact sm_setH (sm_ints_own (ad := id) (cA := fun _ => 0) (base := 0) x2).2.1 (by rfl)
        · split at hs7
          · rename_i hh e5
            cases hs7
            obtain ⟨n0', f, n1, g, x1, x2, x3, x4, rfl⟩ := sm_cpL_eq e5
            exact sm_setH (sm_longs_at (ad := id) (cA := fun _ => 0) (base := 0) x2).2.1 (by rfl)
          · cases hs7
      · cases hs7
    · cases hs
set_option maxHeartbeats 4000000 in
theorem sm_mono {lk : Nat → Option sm_L} {RO : List (Nat × (Nat → Int32))} {NV : Nat → List Value} {cq : Nat} {ini : Bool} {nL d : Nat} {pc pc' : Nat} {lv lv' : sm_V} {sk sk' : List Value} {h h' : sm_H} {ins : Instr} (hs : sm_step lk RO NV cq ini nL d ins pc lv sk h = some (pc', lv', sk', h')) : h.length ≤ h'.length ∧ sm_sz h ≤ sm_sz h' := by
  cases ins
  case putfield => exact sz_putfield hs
  case iastore => exact sz_iastore hs
  case bastore => exact sz_bastore hs
  case sastore => exact sz_sastore hs
  case lastore => exact sz_lastore hs
  case aastore => exact sz_aastore hs
  case invokestatic => exact sz_invokestatic hs
  all_goals (simp only [sm_step, sm_i1, sm_i2, sm_l1, sm_l2, sm_li, sm_ai, sm_r1, sm_jump, sm_br] at hs)
  all_goals (repeat' split at hs)
  all_goals first
    | (cases hs; exact sm_keepH)
    | (cases hs; exact sm_appH)
    | (cases hs; done)
def sm_ret (kind : Nat) (ins : Instr) (s : List Value) : Option (Option Value) := match ins with
  | .ireturn => match s with
    | [.int v] => if kind = 1 ∨ (kind = 3 ∧ (v = 0 ∨ v = 1)) then some (some (.int v)) else none
    | _ => none
  | .lreturn => match s with
    | [.long v] => if kind = 2 then some (some (.long v)) else none
    | _ => none
  | .return_ => match s with
    | [] => if kind = 0 then some none else none
    | _ => none
  | _ => none
def sm_call (lk : Nat → Option sm_L) (MA : Nat → Nat) (ins : Instr) (s : List Value) (h : sm_H) : Option (Nat × List Value × List Value) := match ins with
  | .invokevirtual ix => match lk ix with
    | some (1, k, ci, _) => match s.drop (MA k) with
      | .ref b :: rest => match sm_obj h b ci with
        | some _ => some (k, .ref b :: (s.take (MA k)).reverse, rest)
        | none => none
      | _ => none
    | _ => none
  | .invokestatic ix => match lk ix with
    | some (2, k, _, _) => if MA k ≤ s.length then some (k, (s.take (MA k)).reverse, s.drop (MA k)) else none
    | some (15, k, _, _) => if MA k ≤ s.length then some (k, (s.take (MA k)).reverse, s.drop (MA k)) else none
    | _ => none
  | .invokespecial ix => match lk ix with
    | some (3, k, _, _) => match s.drop (MA k) with
      | .ref b :: rest => some (k, .ref b :: (s.take (MA k)).reverse, rest)
      | _ => none
    | some (14, k, _, _) => match s.drop (MA k) with
      | .ref b :: rest => some (k, .ref b :: (s.take (MA k)).reverse, rest)
      | _ => none
    | _ => none
  | _ => none
/-- of a method: its class, its locals' number, what it answers (0 nothing, 1 int, 2 long, 3 boolean), its parameters' number, whether it is a constructor, its instructions -/
abbrev sm_M : Type := Nat × Nat × Nat × Nat × Bool × (Nat → Option (Instr × Nat))
def sm_run (MT : Nat → sm_M) (LK : Nat → Nat → Option sm_L) (RO : List (Nat × (Nat → Int32))) (NV : Nat → List Value) (cq : Nat) : Nat → Nat → Nat → Nat → sm_V → List Value → sm_H → Option (Option Value × sm_H)
  | 0, _, _, _, _, _, _ => none
  | f + 1, d, j, pc, lv, s, h => match (MT j).2.2.2.2.2 pc with
    | none => none
    | some (ins, len) => if len = sm_len ins len then (match sm_ret (MT j).2.2.1 ins s with
      | some r => some (r, h)
      | none => match sm_call (LK (MT j).1) (fun k => (MT k).2.2.2.1) ins s h with
        | some (k, as, rest) => match d with
          | 0 => none
          | d' + 1 => if sm_sum rest ≤ 8 ∧ (lg_sl as).length ≤ (MT k).2.1 then (match sm_run MT LK RO NV cq f d' k 0 (lv_args 0 as) [] h with
            | some (r, h1) => sm_run MT LK RO NV cq f (d' + 1) j (pc + 3) lv (r.toList ++ rest) h1
            | none => none) else none
        | none => match sm_step (LK (MT j).1) RO NV cq (MT j).2.2.2.2.1 (MT j).2.1 d ins pc lv s h with
          | some o => sm_run MT LK RO NV cq f d j o.1 o.2.1 o.2.2.1 o.2.2.2
          | none => none) else none
theorem sm_run_mono {MT : Nat → sm_M} {LK : Nat → Nat → Option sm_L} {RO : List (Nat × (Nat → Int32))} {NV : Nat → List Value} {cq : Nat} : ∀ (f d j pc : Nat) (lv : sm_V) (s : List Value) (h : sm_H) (r : Option Value) (h' : sm_H), sm_run MT LK RO NV cq f d j pc lv s h = some (r, h') → h.length ≤ h'.length ∧ sm_sz h ≤ sm_sz h' := by
  intro f
  induction f with
  | zero => intro d j pc lv s h r h' e; simp [sm_run] at e
  | succ f ih =>
    intro d j pc lv s h r h' e
    unfold sm_run at e
    split at e
    · cases e
    · split at e
      · split at e
        · cases e
          exact sm_keepH
        · split at e
          · split at e
            · cases e
            · split at e
              · split at e
                · rename_i r1 h1 e1
                  have a1 := ih _ _ _ _ _ _ _ _ e1
                  have a2 := ih _ _ _ _ _ _ _ _ e
                  exact ⟨Nat.le_trans a1.1 a2.1, Nat.le_trans a1.2 a2.2⟩
                · cases e
              · cases e
          · split at e
            · rename_i o e1
              have a1 := sm_mono (pc' := o.1) (lv' := o.2.1) (sk' := o.2.2.1) (h' := o.2.2.2) e1
              have a2 := ih _ _ _ _ _ _ _ _ e
              exact ⟨Nat.le_trans a1.1 a2.1, Nat.le_trans a1.2 a2.2⟩
            · cases e
      · cases e
theorem sm_run_ret {MT : Nat → sm_M} {LK : Nat → Nat → Option sm_L} {RO : List (Nat × (Nat → Int32))} {NV : Nat → List Value} {cq : Nat} : ∀ (f d j pc : Nat) (lv : sm_V) (s : List Value) (h : sm_H) (r : Option Value) (h' : sm_H), sm_run MT LK RO NV cq f d j pc lv s h = some (r, h') → ∃ ins s', sm_ret (MT j).2.2.1 ins s' = some r := by
  intro f
  induction f with
  | zero => intro d j pc lv s h r h' e; simp [sm_run] at e
  | succ f ih =>
    intro d j pc lv s h r h' e
    unfold sm_run at e
    split at e
    · cases e
    · split at e
      · split at e
        · rename_i e1
          cases e
          exact ⟨_, _, e1⟩
        · split at e
          · split at e
            · cases e
            · split at e
              · split at e
                · exact ih _ _ _ _ _ _ _ _ e
                · cases e
              · cases e
          · split at e
            · exact ih _ _ _ _ _ _ _ _ e
            · cases e
      · cases e
theorem sm_ret_eq {kind : Nat} {ins : Instr} {s : List Value} {r : Option Value} (h : sm_ret kind ins s = some r) :
    (∃ v, ins = .ireturn ∧ s = [.int v] ∧ r = some (.int v) ∧ (kind = 1 ∨ (kind = 3 ∧ (v = 0 ∨ v = 1)))) ∨ (∃ v, ins = .lreturn ∧ s = [.long v] ∧ r = some (.long v) ∧ kind = 2) ∨ (ins = .return_ ∧ s = [] ∧ r = none ∧ kind = 0) := by
  unfold sm_ret at h
  split at h
  · split at h
    · split at h
      · rename_i hk
        cases h
        exact Or.inl ⟨_, rfl, rfl, rfl, hk⟩
      · cases h
    · cases h
  · split at h
    · split at h
      · rename_i hk
        cases h
        exact Or.inr (Or.inl ⟨_, rfl, rfl, rfl, hk⟩)
      · cases h
    · cases h
  · split at h
    · split at h
      · rename_i hk
        cases h
        exact Or.inr (Or.inr ⟨rfl, rfl, rfl, hk⟩)
      · cases h
    · cases h
  · cases h
theorem sm_args_map (ad : Nat → Nat) : ∀ (as : List Value) (i : Nat), sm_lv ad (lv_args i as) = lv_args i (as.map (sm_v ad)) := by
  intro as
  induction as with
  | nil => intro i; rfl
  | cons v as ih =>
    intro i
    show (i, sm_v ad v) :: sm_lv ad (lv_args _ as) = (i, sm_v ad v) :: lv_args _ (as.map (sm_v ad))
    rw [ih, sm_v_cat]
theorem sm_sl_len (ad : Nat → Nat) (as : List Value) : (lg_sl (as.map (sm_v ad))).length = (lg_sl as).length := by
  unfold lg_sl
  induction as with
  | nil => rfl
  | cons v as ih =>
    simp only [List.map_cons, List.flatMap_cons, List.length_append, ih, sm_v_cat]
    split <;> rfl
end
section
/-! What the small machine answers, the machine answers: by induction on the small one's fuel. -/
def sm_rt (k : Nat) : Option FieldType := match k with
  | 0 => none
  | 1 => some .int
  | 2 => some .long
  | _ => some .boolean
/-- what the tables must say of a method -/
def sm_okM (MT : Nat → sm_M) (MN : Nat → MethodName) (MB : Nat → ByteArray) (CN : Nat → String) (Ts : List Jvm.Cond) (k : Nat) : Prop :=
  plainName (MN k).cls = true ∧ (MN k).cls = CN (MT k).1 ∧ Jvm.Cond.code (MN k) (MB k) (MT k).2.1 (sm_rt (MT k).2.2.1) ∈ Ts ∧
  ((MN k).cls ≠ "java/lang/invoke/MethodHandle" ∧ (MN k).cls ≠ "java/lang/invoke/VarHandle" ∧ (parseMethodDescriptor (MN k).desc).map (fun d => d.parameters.length) = some (MT k).2.2.2.1) ∧
  Jvm.Cond.initialized (MN k).cls ∈ Ts ∧ (MT k).2.1 ≤ 60 ∧ ((MT k).2.2.2.2.1 = true → (MN k).name = "<init>") ∧ (MT k).2.2.1 ≤ 3 ∧
  ∀ pc ins len, (MT k).2.2.2.2.2 pc = some (ins, len) → decode (MB k) pc = .ok (ins, len)
/-- what the tables must say of an entry that names a method, and that the method is known -/
def sm_okK (MT : Nat → sm_M) (MN : Nat → MethodName) (MB : Nat → ByteArray) (CN : Nat → String) (cl : List vw_C) (NL : List (String × Nat × MethodName × String)) (Ts : List Jvm.Cond) (own : String) (ix : Nat) (q : sm_L) : Prop :=
  (q.1 = 15 → (∃ host : String, (own, ix, MN q.2.1, host) ∈ NL) ∧ Jvm.Cond.static (MN q.2.1) ∈ Ts ∧ sm_okM MT MN MB CN Ts q.2.1) ∧
  (q.1 = 14 → (∃ host : String, (own, ix, MN q.2.1, host) ∈ NL) ∧ Jvm.Cond.instanceMethod (MN q.2.1) ∈ Ts ∧ (MN q.2.1).name = "<init>" ∧ (MT q.2.1).2.2.1 = 0 ∧ sm_okM MT MN MB CN Ts q.2.1) ∧
  (q.1 = 1 → (∃ r : vw_C, cl[q.2.2.1]? = some r ∧ Jvm.Cond.selects r.1 (MN q.2.1) (MN q.2.1) ∈ Ts) ∧ Jvm.Cond.methodLink own ix (MN q.2.1) ∈ Ts ∧ Jvm.Cond.instanceMethod (MN q.2.1) ∈ Ts ∧ sm_okM MT MN MB CN Ts q.2.1) ∧
  (q.1 = 2 → Jvm.Cond.methodLink own ix (MN q.2.1) ∈ Ts ∧ Jvm.Cond.static (MN q.2.1) ∈ Ts ∧ sm_okM MT MN MB CN Ts q.2.1) ∧
  (q.1 = 3 → Jvm.Cond.methodLink own ix (MN q.2.1) ∈ Ts ∧ Jvm.Cond.instanceMethod (MN q.2.1) ∈ Ts ∧ (MN q.2.1).name = "<init>" ∧ (MT q.2.1).2.2.1 = 0 ∧ sm_okM MT MN MB CN Ts q.2.1)
/-- entries that name a private constructor of a nest mate -/
def sm_nl (NL : List (String × Nat × MethodName × String)) (U : State) : Prop := ∀ q ∈ NL, va_Nw (.methodLinkNest q.1 q.2.1 q.2.2.1 q.2.2.2) U
/-- a method's end -/
def sm_QC (D : va_G) (cl : List vw_C) (ad : Nat → Nat) (cA : Nat → ClassId) (base : Nat) (r : Option Value) (hf : sm_H) : Array Value → State → Outcome → State → Prop := match r with
  | some (.int v) => va_Qi (S := Unit) (fun x _ => x = v) (fun _ t => t.heap.size = base + hf.length ∧ va_P D cl (sm_w ad cA base hf) t.heap) (fun q => base ≤ q)
  | some (.long v) => va_Ql (S := Unit) (fun x _ => x = v) (fun _ t => t.heap.size = base + hf.length ∧ va_P D cl (sm_w ad cA base hf) t.heap) (fun q => base ≤ q)
  | _ => va_Qv (S := Unit) (fun _ => True) (fun _ t => t.heap.size = base + hf.length ∧ va_P D cl (sm_w ad cA base hf) t.heap) (fun q => base ≤ q)
/-- a method's start -/
def sm_PC (D : va_G) (cl : List vw_C) (cA : Nat → ClassId) (Cq : String) (RO : List (Nat × (Nat → Int32))) (SF : List (String × String × String × Nat)) (st : Nat → Nat) (NL : List (String × Nat × MethodName × String)) (base : Nat) (as : List Value) (h : sm_H) : Array Value → State → Prop :=
  va_Pc (as.map (sm_v (sm_ad st base))) (fun U => U.heap.size = base + h.length ∧ va_P D cl (sm_w (sm_ad st base) cA base h) U.heap ∧ sm_env D cl cA Cq RO SF st base U U.heap ∧ sm_nl NL U)
theorem sm_PC_blind {D : va_G} {cl : List vw_C} {cA : Nat → ClassId} {Cq : String} {RO : List (Nat × (Nat → Int32))} {SF : List (String × String × String × Nat)} {st : Nat → Nat} {NL : List (String × Nat × MethodName × String)} {base : Nat} {as : List Value} {h : sm_H} : FrameBlind (sm_PC D cl cA Cq RO SF st NL base as h) :=
  fun a U g mk q => ⟨q.1, q.2.1, q.2.2.1, sm_env.moved (u := U) (U := U.calling g mk a) (Vm.Alike.refl U.vm) q.2.2.2.1, fun x hx => va_Nw.same (u := U) (U := U.calling g mk a) rfl rfl (q.2.2.2.2 x hx)⟩
section ADQ
variable {l : Launch} {D : va_G} {cl : List vw_C} {cA : Nat → ClassId} {Cq : String} {cq : Nat} {RO : List (Nat × (Nat → Int32))} {SF : List (String × String × String × Nat)} {st : Nat → Nat} {NL : List (String × Nat × MethodName × String)} {base : Nat} {Ts : List Jvm.Cond} {tyc : Nat → Nat → FieldType} {NV : Nat → List Value} {MT : Nat → sm_M} {LK : Nat → Nat → Option sm_L} {MN : Nat → MethodName} {MB : Nat → ByteArray} {CN : Nat → String}
/-- the statement, at a fuel -/
def sm_ADQ (l : Launch) (D : va_G) (cl : List vw_C) (cA : Nat → ClassId) (Cq : String) (cq : Nat) (RO : List (Nat × (Nat → Int32))) (SF : List (String × String × String × Nat)) (st : Nat → Nat) (NL : List (String × Nat × MethodName × String)) (base : Nat) (Ts : List Jvm.Cond) (NV : Nat → List Value) (MT : Nat → sm_M) (LK : Nat → Nat → Option sm_L) (MN : Nat → MethodName) (MB : Nat → ByteArray) (CN : Nat → String) (f : Nat) : Prop :=
  ∀ (d j pc : Nat) (lv : sm_V) (sk : List Value) (h : sm_H) (r : Option Value) (hf : sm_H), sm_run MT LK RO NV cq f d j pc lv sk h = some (r, hf) → 
  ∀ (p : Program) (e : Env) (R : Room) (s : State) (m : MethodId) (args : Array Value) (below : List Frame) (meth : Method) (c : Code) (H : Heap) (locs : List Loc) (cells slots : Nat) (Q : State → Prop) (n0 z0 : Nat) (ls : Array Slot),
  p.tables.exec = Jvm.exec → c.code = MB j → c.maxLocals = (MT j).2.1 → s.vm.findClass (CN (MT j).1) = some m.cls → (∀ w ∈ Ts, w.before args s = true) → ((MT j).2.2.2.2.1 = true → meth.name = "<init>") → (∀ pc ins len, (MT j).2.2.2.2.2 pc = some (ins, len) → decode (MB j) pc = .ok (ins, len)) →
  sm_env D cl cA Cq RO SF st base s s.heap → sm_nl NL s → s.heap.size = base + n0 → d ≤ R.frames → d * 100 ≤ R.locals → hf.length ≤ n0 + R.cells → sm_sz hf ≤ z0 + R.slots →
  lv_has ls (MT j).2.1 (sm_lv (sm_ad st base) lv) → va_P D cl (sm_w (sm_ad st base) cA base h) H → va_S (fun q => base ≤ q) s.heap H locs → n0 + cells = h.length → z0 + slots = sm_sz h →
  (∀ (ins : Instr) (pcR : Nat) (ls' : Array Slot) (H' : Heap) (locs' : List Loc) (cells' slots' : Nat), decode (MB j) pcR = .ok (ins, 1) → sm_ret (MT j).2.2.1 ins r.toList = some r → va_P D cl (sm_w (sm_ad st base) cA base hf) H' → va_S (fun q => base ≤ q) s.heap H' locs' → n0 + cells' = hf.length → z0 + slots' = sm_sz hf → W p l e R s m args below meth c H' locs' cells' slots' Q (F0 m pcR ls' (r.toList.map (sm_v (sm_ad st base))))) →
  W p l e R s m args below meth c H locs cells slots Q (F0 m pc ls (sk.map (sm_v (sm_ad st base))))
theorem sm_len_ret {ins : Instr} {len : Nat} {kind : Nat} {s : List Value} {r : Option Value} (h : sm_ret kind ins s = some r) : sm_len ins len = 1 ∧ s = r.toList := by
  rcases sm_ret_eq h with ⟨v, rfl, rfl, rfl, -⟩ | ⟨v, rfl, rfl, rfl, -⟩ | ⟨rfl, rfl, rfl, -⟩ <;> exact ⟨rfl, rfl⟩
set_option maxHeartbeats 4000000 in
/-- a method's contract out of its run -/
theorem sm_met {f d k : Nat} {as : List Value} {h hf : sm_H} {r : Option Value} (hA : sm_ADQ l D cl cA Cq cq RO SF st NL base Ts NV MT LK MN MB CN f) (hM : sm_okM MT MN MB CN Ts k) (hr : sm_run MT LK RO NV cq f d k 0 (lv_args 0 as) [] h = some (r, hf)) (hn : (lg_sl as).length ≤ (MT k).2.1) :
    Met l (MN k) (Jvm.Cond.code (MN k) (MB k) (MT k).2.1 (sm_rt (MT k).2.2.1) :: Ts) ({ frames := d, cells := hf.length - h.length, slots := sm_sz hf - sm_sz h, locals := d * 100 }) (sm_PC D cl cA Cq RO SF st NL base as h) (sm_QC D cl (sm_ad st base) cA base r hf) (hf.length - h.length) (sm_sz hf - sm_sz h) (fun q => base ≤ q) := by
  obtain ⟨m1, m2, m3, m4, m5, m6, m7, m8, m9⟩ := hM
  have hmono := sm_run_mono _ _ _ _ _ _ _ _ _ hr
  refine Met.ofW (cc := MB k) (maxL := (MT k).2.1) (ret := sm_rt (MT k).2.2.1) m1 rfl ?_
  intro p e s m args below meth c s₁ B hml hv
  obtain ⟨rfl, hsz, hP, hE, hNl⟩ := hv
  have hx := B.exec
  have hb := B.bytes
  have hrt := B.returns
  have hts0 := atoms_spec (ws := Jvm.Cond.code (MN k) (MB k) (MT k).2.1 (sm_rt (MT k).2.2.1) :: Ts) B.pre
  have hts : ∀ w ∈ Ts, w.before (as.map (sm_v (sm_ad st base))).toArray s = true := fun w hw => hts0 w (List.mem_cons_of_mem _ hw)
  have hown : s.vm.findClass (CN (MT k).1) = some m.cls := by rw [← m2]; exact findClass_of_methodNamed B.named
  have hlocks := B.notSynchronized
  have hin : meth.name = (MN k).name := (name_of_methodNamed B.named B.method).1
  rw [lg_entry_eq]
  have hl := lv_entry (as.map (sm_v (sm_ad st base))) (n := (MT k).2.1) (by rw [sm_sl_len]; exact hn)
  rw [← sm_args_map] at hl
  generalize (lg_sl (as.map (sm_v (sm_ad st base))) ++ List.replicate ((MT k).2.1 - (lg_sl (as.map (sm_v (sm_ad st base)))).length) Slot.unset).toArray = ls at hl ⊢
  refine hA d k 0 _ [] h r hf hr p e _ s m _ below meth c s.heap [] 0 0 _ h.length (sm_sz h) ls hx hb hml hown hts (fun q => hin.trans (m7 q)) m9 hE hNl hsz (Nat.le_refl _) (Nat.le_refl _) (by show _ ≤ h.length + (hf.length - h.length); omega) (by show _ ≤ sm_sz h + (sm_sz hf - sm_sz h); omega) hl hP va_S.rf rfl rfl ?_
  intro ins pcR ls' H' locs' cells' slots' hdg hret hP' hS' hc1 hc2
  have e1 : cells' = hf.length - h.length := by omega
  have e2 : slots' = sm_sz hf - sm_sz h := by omega
  intro T hT X
  have hz := sm_size hT X hP' hS'.1 hsz hc1
  subst e1
  subst e2
  rcases sm_ret_eq hret with ⟨v, rfl, -, rfl, hk⟩ | ⟨v, rfl, -, rfl, hk⟩ | ⟨rfl, -, rfl, hk⟩
  · have hq : ∀ t : State, t.heap = H' → s.WarmedH t.vm → sm_QC D cl (sm_ad st base) cA base (some (.int v)) hf (as.map (sm_v (sm_ad st base))).toArray s (.returned (some (.int v))) t := fun t ht hW => ⟨⟨v, (), rfl, rfl, by rw [ht]; exact hz, by rw [ht]; exact hP'⟩, hS'.F ht⟩
    rcases hk with hk | ⟨hk, hv⟩
    · exact W.iret (v := v) hx hb (by rw [hrt, hk]; rfl) hq hS'.2.2 hdg hlocks T hT X
    · exact W.zret (v := v) (ty := .boolean) hx hb (by rw [hrt, hk]; rfl) (by rcases hv with rfl | rfl <;> rfl) hq hS'.2.2 hdg hlocks T hT X
  · exact W.lret (v := v) hx hb (by rw [hrt, hk]; rfl) (fun t ht hW => ⟨⟨v, (), rfl, rfl, by rw [ht]; exact hz, by rw [ht]; exact hP'⟩, hS'.F ht⟩) hS'.2.2 hdg hlocks T hT X
  · exact W.vret hx hb (by rw [hrt, hk]; rfl) (fun t ht hW => ⟨⟨(), rfl, trivial, by rw [ht]; exact hz, by rw [ht]; exact hP'⟩, hS'.F ht⟩) hS'.2.2 hdg hlocks T hT X
set_option maxHeartbeats 4000000 in
theorem sm_adq (hok : ∀ o ix q, LK o ix = some q → sm_okL cl tyc SF Cq Ts (CN o) ix q) (hoK : ∀ o ix q, LK o ix = some q → sm_okK MT MN MB CN cl NL Ts (CN o) ix q) (hcl : sm_okC cl tyc NV Ts) (hcq : ∃ r : vw_C, cl[cq]? = some r ∧ r.1 = Cq) (har : ∀ q t, sm_aty q = some t → Jvm.Cond.arrayClass (newarray.typeOf q) ∈ Ts) (hG : GoodIn Ts Ts) :
    ∀ f, sm_ADQ l D cl cA Cq cq RO SF st NL base Ts NV MT LK MN MB CN f := by
  intro f
  induction f with
  | zero => intro d j pc lv sk h r hf e; simp [sm_run] at e
  | succ f ih =>
    intro d j pc lv sk h r hf e p e9 R s m args below meth c H locs cells slots Q n0 z0 ls hx hb hml hown hts hini hdec hE hNl hb0 hd hdl hm1 hm2 hl hP hS hc1 hc2 kk
    unfold sm_run at e
    split at e
    · cases e
    · rename_i ins len hfe
      have hdg := hdec _ _ _ hfe
      split at e
      · rename_i hlen
        rw [hlen] at hdg
        split at e
        · rename_i r' e1
          cases e
          obtain ⟨h1, h2⟩ := sm_len_ret (len := len) e1
          rw [h1] at hdg
          subst h2
          exact kk ins pc ls H locs cells slots hdg e1 hP hS hc1 hc2
        · split at e
          · rename_i k as rest e2
            split at e
            · cases e
            · rename_i d'
              split at e
              · rename_i hq
                split at e
                · rename_i r1 h1 e3
                  have mo1 := sm_run_mono _ _ _ _ _ _ _ _ _ e3
                  have mo2 := sm_run_mono _ _ _ _ _ _ _ _ _ e
                  have hsum : 2 * (F0 m pc ls (sk.map (sm_v (sm_ad st base)))).monitorRoom + ((rest.map (sm_v (sm_ad st base))).map fun v => v.category).sum ≤ 8 := by
                    have h9 : (F0 m pc ls (sk.map (sm_v (sm_ad st base)))).monitorRoom = 0 := rfl
                    rw [h9, sm_sum_map]
                    omega
                  have hfit : cells + (h1.length - h.length) ≤ R.cells ∧ slots + (sm_sz h1 - sm_sz h) ≤ R.slots := by omega
                  have hloc : ∀ ml : Nat, ml ≤ 60 → d' + 1 ≤ R.frames ∧ 8 + (ml + 11) + d' * 100 ≤ R.locals := fun ml hml9 => ⟨hd, by omega⟩
                  intro T hT X
                  have hz := sm_size hT X hP hS.1 hb0 hc1
                  have hpre : ∀ U : State, U.heap = H → s.WarmedH U.vm → sm_PC D cl cA Cq RO SF st NL base as h (as.map (sm_v (sm_ad st base))).toArray U := fun U hU hW => ⟨rfl, by rw [hU]; exact hz, by rw [hU]; exact hP, by rw [hU]; exact (hE.kept hS.2.1).moved hW.alike, fun x hx9 => va_Nw.warmM hW (hNl x hx9)⟩
                  have hmet : sm_okM MT MN MB CN Ts k → Met l (MN k) (Jvm.Cond.code (MN k) (MB k) (MT k).2.1 (sm_rt (MT k).2.2.1) :: Ts) ({ frames := d', cells := h1.length - h.length, slots := sm_sz h1 - sm_sz h, locals := d' * 100 }) (sm_PC D cl cA Cq RO SF st NL base as h) (sm_QC D cl (sm_ad st base) cA base r1 h1) (h1.length - h.length) (sm_sz h1 - sm_sz h) (fun q => base ≤ q) := fun hM => sm_met ih hM e3 hq.2
                  have hGk : sm_okM MT MN MB CN Ts k → GoodIn Ts (Jvm.Cond.code (MN k) (MB k) (MT k).2.1 (sm_rt (MT k).2.2.1) :: Ts) := fun hM w hw => (List.mem_cons.mp hw).elim (fun q => by subst q; exact hG _ hM.2.2.1) (fun q => hG w q)
                  have hrun : va_Run p l e9 R s m args below meth c H locs cells slots (h1.length - h.length) (sm_sz h1 - sm_sz h) (F0 m pc ls (sk.map (sm_v (sm_ad st base)))) (rest.map (sm_v (sm_ad st base))) (sm_QC D cl (sm_ad st base) cA base r1 h1 (as.map (sm_v (sm_ad st base))).toArray) (fun q => base ≤ q) := by
                    unfold sm_call at e2
                    split at e2
                    · skip
                      split at e2
                      · rename_i k' ci z9 e4
                        split at e2
                        · rename_i b rest' e5
                          split at e2
                          · rename_i fs e6
                            cases e2
                            obtain ⟨⟨r0, g1, g2⟩, g3, g4, g5⟩ := (hoK _ _ _ e4).2.2.1 rfl
                            obtain ⟨o1, o2, o3⟩ := sm_obj_at (ad := sm_ad st base) (cA := cA) (base := base) e6
                            have e5 : sk.drop (MT k).2.2.2.1 = .ref b :: rest := e5
                            have hlt : (MT k).2.2.2.1 ≤ sk.length := by
                              have h9 := congrArg List.length e5
                              rw [List.length_drop, List.length_cons] at h9
                              omega
                            refine va_runV (C := r0.1) (As := (sk.take (MT k).2.2.2.1).reverse.map (sm_v (sm_ad st base))) (n := (MT k).2.2.2.1) ⟨hx, hb, hml, hown, hts⟩ (hmet g5) ⟨callB_of _ hts (hGk g5) rfl rfl rfl (hts _ g5.2.2.2.2.1) (hts _ g3) g5.2.2.2.1 (hloc _ g5.2.2.2.2.2.1), hts _ g4, hts _ g2⟩ ⟨sm_PC_blind, ?_, fun U hU hW => hpre U hU hW⟩ rfl (by rw [List.length_map, List.length_reverse, List.length_take]; omega) hl.1 ?_ hsum hdg hfit
                            · show ∃ cellB, H[sm_ad st base b]? = some cellB ∧ _
                              rw [sm_ad_own o1]
                              exact va_recv hE.1 hP g1 o3
                            · show sk.map (sm_v (sm_ad st base)) = _
                              rw [← List.map_reverse, List.reverse_reverse]
                              conv => lhs; rw [← List.take_append_drop (MT k).2.2.2.1 sk, e5]
                              rw [List.map_append]
                              rfl
                          · cases e2
                        · cases e2
                      · cases e2
                    · skip
                      split at e2
                      · rename_i k' ci z9 e4
                        split at e2
                        · rename_i hlt
                          cases e2
                          have hlt : (MT k).2.2.2.1 ≤ sk.length := hlt
                          obtain ⟨g3, g4, g5⟩ := (hoK _ _ _ e4).2.2.2.1 rfl
                          refine va_runS (As := (sk.take (MT k).2.2.2.1).reverse.map (sm_v (sm_ad st base))) (n := (MT k).2.2.2.1) ⟨hx, hb, hml, hown, hts⟩ (hmet g5) ⟨callB_of _ hts (hGk g5) rfl rfl rfl (hts _ g5.2.2.2.2.1) (hts _ g3) g5.2.2.2.1 (hloc _ g5.2.2.2.2.2.1), hts _ g4⟩ ⟨sm_PC_blind, fun U hU hW => hpre U hU hW⟩ rfl (by rw [List.length_map, List.length_reverse, List.length_take]; omega) hl.1 ?_ hsum hdg hfit
                          show sk.map (sm_v (sm_ad st base)) = _
                          rw [← List.map_reverse, List.reverse_reverse, ← List.map_append, List.take_append_drop]
                        · cases e2
                      · rename_i k' ci z9 e4
                        split at e2
                        · rename_i hlt
                          cases e2
                          have hlt : (MT k).2.2.2.1 ≤ sk.length := hlt
                          obtain ⟨⟨host, g3⟩, g4, g5⟩ := (hoK _ _ _ e4).1 rfl
                          refine va_runSN (host := host) (As := (sk.take (MT k).2.2.2.1).reverse.map (sm_v (sm_ad st base))) (n := (MT k).2.2.2.1) ⟨hx, hb, hml, hown, hts⟩ (hmet g5) ⟨va_cnB _ hts (hGk g5) rfl rfl rfl (hNl _ g3) (hts _ g5.2.2.2.2.1) g5.2.2.2.1 (hloc _ g5.2.2.2.2.2.1), hts _ g4, trivial⟩ ⟨sm_PC_blind, fun U hU hW => hpre U hU hW⟩ rfl (by rw [List.length_map, List.length_reverse, List.length_take]; omega) hl.1 ?_ hsum hdg hfit
                          show sk.map (sm_v (sm_ad st base)) = _
                          rw [← List.map_reverse, List.reverse_reverse, ← List.map_append, List.take_append_drop]
                        · cases e2
                      · cases e2
                    · skip
                      split at e2
                      · rename_i k' ci z9 e4
                        split at e2
                        · rename_i b rest' e5
                          cases e2
                          obtain ⟨g3, g4, g6, g7, g5⟩ := (hoK _ _ _ e4).2.2.2.2 rfl
                          have e5 : sk.drop (MT k).2.2.2.1 = .ref b :: rest := e5
                          have hlt : (MT k).2.2.2.1 ≤ sk.length := by
                            have h9 := congrArg List.length e5
                            rw [List.length_drop, List.length_cons] at h9
                            omega
                          have hmet9 := hmet g5
                          have hGk9 := hGk g5
                          have hrt9 : sm_rt (MT k).2.2.1 = none := by rw [g7]; rfl
                          rw [hrt9] at hmet9 hGk9
                          refine va_runI (As := (sk.take (MT k).2.2.2.1).reverse.map (sm_v (sm_ad st base))) (n := (MT k).2.2.2.1) ⟨hx, hb, hml, hown, hts⟩ hmet9 ⟨callB_of _ hts hGk9 rfl rfl rfl (hts _ g5.2.2.2.2.1) (hts _ g3) g5.2.2.2.1 (hloc _ g5.2.2.2.2.2.1), g6, hts _ g4⟩ ⟨sm_PC_blind, fun U hU hW => hpre U hU hW⟩ rfl (by rw [List.length_map, List.length_reverse, List.length_take]; omega) hl.1 ?_ hsum hdg hfit
                          show sk.map (sm_v (sm_ad st base)) = _
                          rw [← List.map_reverse, List.reverse_reverse]
                          conv => lhs; rw [← List.take_append_drop (MT k).2.2.2.1 sk, e5]
                          rw [List.map_append]
                          rfl
                        · cases e2
                      · rename_i k' ci z9 e4
                        split at e2
                        · rename_i b rest' e5
                          cases e2
                          obtain ⟨⟨host, g3⟩, g4, g6, g7, g5⟩ := (hoK _ _ _ e4).2.1 rfl
                          have e5 : sk.drop (MT k).2.2.2.1 = .ref b :: rest := e5
                          have hlt : (MT k).2.2.2.1 ≤ sk.length := by
                            have h9 := congrArg List.length e5
                            rw [List.length_drop, List.length_cons] at h9
                            omega
                          have hmet9 := hmet g5
                          have hGk9 := hGk g5
                          have hrt9 : sm_rt (MT k).2.2.1 = none := by rw [g7]; rfl
                          rw [hrt9] at hmet9 hGk9
                          refine va_runIN (host := host) (As := (sk.take (MT k).2.2.2.1).reverse.map (sm_v (sm_ad st base))) (n := (MT k).2.2.2.1) ⟨hx, hb, hml, hown, hts⟩ hmet9 ⟨va_cnB _ hts hGk9 rfl rfl rfl (hNl _ g3) (hts _ g5.2.2.2.2.1) g5.2.2.2.1 (hloc _ g5.2.2.2.2.2.1), g6, hts _ g4⟩ ⟨sm_PC_blind, fun U hU hW => hpre U hU hW⟩ rfl (by rw [List.length_map, List.length_reverse, List.length_take]; omega) hl.1 ?_ hsum hdg hfit
                          show sk.map (sm_v (sm_ad st base)) = _
                          rw [← List.map_reverse, List.reverse_reverse]
                          conv => lhs; rw [← List.take_append_drop (MT k).2.2.2.1 sk, e5]
                          rw [List.map_append]
                          rfl
                        · cases e2
                      · cases e2
                    · cases e2
                  have hnext : ∀ (H1 : Heap) (locs1 : List Loc), va_P D cl (sm_w (sm_ad st base) cA base h1) H1 → va_S (fun q => base ≤ q) s.heap H1 locs1 → W p l e9 R s m args below meth c H1 locs1 (cells + (h1.length - h.length)) (slots + (sm_sz h1 - sm_sz h)) Q (F0 m (pc + 3) ls ((r1.toList ++ rest).map (sm_v (sm_ad st base)))) := fun H1 locs1 hP1 hS1 => ih _ _ _ _ _ _ _ _ e p e9 R s m args below meth c H1 locs1 _ _ Q n0 z0 ls hx hb hml hown hts hini hdec hE hNl hb0 hd hdl hm1 hm2 hl hP1 hS1 (by omega) (by omega) kk
                  obtain ⟨ins1, s1, hr1⟩ := sm_run_ret _ _ _ _ _ _ _ _ _ e3
                  rcases sm_ret_eq hr1 with ⟨v, -, -, rfl, -⟩ | ⟨v, -, -, rfl, -⟩ | ⟨-, -, rfl, -⟩
                  · exact va_calli (a := (as.map (sm_v (sm_ad st base))).toArray) hrun hS (fun q _ h9 => h9) (fun q h9 => h9) (fun x u t H1 locs1 ht hvm hw hB hz1 hk1 hS1 => by
                      subst hw
                      exact hnext H1 locs1 (by rw [← ht]; exact hB.2) hS1) T hT X
                  · exact va_calll (a := (as.map (sm_v (sm_ad st base))).toArray) hrun hS (fun q _ h9 => h9) (fun q h9 => h9) (fun x u t H1 locs1 ht hvm hw hB hz1 hk1 hS1 => by
                      subst hw
                      exact hnext H1 locs1 (by rw [← ht]; exact hB.2) hS1) T hT X
                  · exact va_callv (a := (as.map (sm_v (sm_ad st base))).toArray) hrun hS (fun q _ h9 => h9) (fun q h9 => h9) (fun u t H1 locs1 ht hvm hw hB hz1 hk1 hS1 => hnext H1 locs1 (by rw [← ht]; exact hB.2) hS1) T hT X
                · cases e
              · cases e
          · split at e
            · rename_i o e2
              have mo1 := sm_mono (pc' := o.1) (lv' := o.2.1) (sk' := o.2.2.1) (h' := o.2.2.2) e2
              have mo2 := sm_run_mono _ _ _ _ _ _ _ _ _ e
              exact sm_sound (pc' := o.1) (lv' := o.2.1) (sk' := o.2.2.1) (h' := o.2.2.2) hx hb hml hown hts (fun ix q hq => hok _ ix q hq) hcl hcq hini hE hb0 hd hdl har hdg hl hP hS hc1 hc2 (by omega) (by omega) e2 (fun ls' H' locs' cells' slots' hl' hP' hS' hc1' hc2' => ih _ _ _ _ _ _ _ _ e p e9 R s m args below meth c H' locs' cells' slots' Q n0 z0 ls' hx hb hml hown hts hini hdec hE hNl hb0 hd hdl hm1 hm2 hl' hP' hS' hc1' hc2' kk)
            · cases e
      · cases e
end ADQ
end
