/-! The small machine's steps are the machine's: from a state that the small one pictures, to a state that pictures its next. -/
def sm_kind (t : FieldType) : Int := match t with
  | .int => 0
  | .boolean => 1
  | .long => 2
  | .object _ => 3
  | .array _ => 3
  | _ => 4
def sm_TY (cA : Nat → ClassId) (Cq : String) : List (ClassId × FieldType) := [(cA 0, .int), (cA 1, .long), (cA 2, .byte), (cA 3, .short), (cA 4, .object Cq)]
/-- what the tables must say of an entry of a class's pool -/
def sm_okL (cl : List vw_C) (tyc : Nat → Nat → FieldType) (SF : List (String × String × String × Nat)) (Cq : String) (Ts : List Jvm.Cond) (own : String) (ix : Nat) (q : sm_L) : Prop :=
  (q.1 = 0 → ∃ r : vw_C, cl[q.2.1]? = some r ∧ q.2.2.1 < r.2.2 ∧ Jvm.Cond.fieldLink own ix (r.2.1 q.2.2.1).1 (r.2.1 q.2.2.1).2.1 (r.2.1 q.2.2.1).2.2.1 ∈ Ts ∧ sm_kind (tyc q.2.1 q.2.2.1) = q.2.2.2 % 4 ∧ (r.2.1 q.2.2.1).2.2.2 = decide (4 ≤ q.2.2.2) ∧ (4 ≤ q.2.2.2 ∧ q.2.2.2 < 8 → (r.2.1 q.2.2.1).1 = own)) ∧
  (q.1 = 4 → Jvm.Cond.methodLink own ix objectInit ∈ Ts ∧ Jvm.Cond.instanceMethod objectInit ∈ Ts ∧ Jvm.Cond.code objectInit ⟨#[0xb1]⟩ 1 none ∈ Ts) ∧
  (q.1 = 5 → ∃ r : vw_C, cl[q.2.1]? = some r ∧ Jvm.Cond.classLink own ix r.1 ∈ Ts ∧ Jvm.Cond.instantiable r.1 r.2.2 ∈ Ts ∧ Jvm.Cond.initialized r.1 ∈ Ts) ∧
  (q.1 = 6 → Jvm.Cond.constant own ix (Int32.ofInt q.2.2.2) ∈ Ts) ∧
  (q.1 = 7 → Jvm.Cond.constantLong own ix (Int64.ofInt q.2.2.2) ∈ Ts) ∧
  (q.1 = 8 → ∃ C n d : String, (C, n, d, q.2.1) ∈ SF ∧ Jvm.Cond.fieldLink own ix C n d ∈ Ts) ∧
  (q.1 = 9 → Jvm.Cond.methodLink own ix Lib.Math.max.name ∈ Ts ∧ Jvm.Cond.static Lib.Math.max.name ∈ Ts ∧ Jvm.Cond.initialized "java/lang/Math" ∈ Ts ∧ Jvm.Cond.code Lib.Math.max.name Lib.Math.max.code 2 (some .int) ∈ Ts) ∧
  (q.1 = 10 → Jvm.Cond.methodLink own ix Lib.Math.min.name ∈ Ts ∧ Jvm.Cond.static Lib.Math.min.name ∈ Ts ∧ Jvm.Cond.initialized "java/lang/Math" ∈ Ts ∧ Jvm.Cond.code Lib.Math.min.name Lib.Math.min.code 2 (some .int) ∈ Ts) ∧
  (q.1 = 11 → Jvm.Cond.methodLink own ix Lib.Math.abs.name ∈ Ts ∧ Jvm.Cond.static Lib.Math.abs.name ∈ Ts ∧ Jvm.Cond.initialized "java/lang/Math" ∈ Ts ∧ Jvm.Cond.code Lib.Math.abs.name Lib.Math.abs.code 1 (some .int) ∈ Ts) ∧
  (q.1 = 12 → Jvm.Cond.methodLink own ix arraycopyName ∈ Ts ∧ Jvm.Cond.native arraycopyName ∈ Ts ∧ Jvm.Cond.static arraycopyName ∈ Ts ∧ Jvm.Cond.initialized "java/lang/System" ∈ Ts)
/-- what the tables must say of the classes -/
def sm_okC (cl : List vw_C) (tyc : Nat → Nat → FieldType) (NV : Nat → List Value) (Ts : List Jvm.Cond) : Prop := ∀ (ci : Nat) (r : vw_C), cl[ci]? = some r →
  (∀ w ∈ u_ws r.1 r.2.1 r.2.2, w ∈ Ts) ∧ (∀ k, k < r.2.2 → parseFieldDescriptor (r.2.1 k).2.2.1 = some (tyc ci k)) ∧ (∀ a, a < r.2.2 → ∀ b, b < r.2.2 → a ≠ b → (r.2.1 a).2.1 ≠ (r.2.1 b).2.1) ∧
  (∀ j, j < r.2.2 → defaultValue (tyc ci j) = vp_V (NV ci) j) ∧ (NV ci).length = r.2.2 ∧ ∀ ad, (NV ci).map (sm_v ad) = NV ci
/-- what holds of the world beside the own cells: classes, array classes, arrays that are only read -/
def sm_env (D : va_G) (cl : List vw_C) (cA : Nat → ClassId) (Cq : String) (RO : List (Nat × (Nat → Int32))) (SF : List (String × String × String × Nat)) (st : Nat → Nat) (base : Nat) (U : State) (H : Heap) : Prop :=
  va_K D cl (sm_TY cA Cq) U ∧ (∀ (i : Nat) (x : Nat × (Nat → Int32)), RO[i]? = some x → va_T .int (st i) x.1 (fun j => .int (x.2 j)) (fun q => base ≤ q) U H) ∧
  (∀ q ∈ SF, va_Z q.1 q.2.1 q.2.2.1 (.ref (st q.2.2.2)) (fun q => base ≤ q) U H) ∧ va_AO Cq U
theorem sm_env.moved {D : va_G} {cl : List vw_C} {cA : Nat → ClassId} {Cq : String} {RO : List (Nat × (Nat → Int32))} {SF : List (String × String × String × Nat)} {st : Nat → Nat} {base : Nat} {u U : State} {H : Heap} (hvm : u.vm.Alike U.vm) (h : sm_env D cl cA Cq RO SF st base u H) : sm_env D cl cA Cq RO SF st base U H :=
  ⟨va_K.moved hvm h.1, fun i x hx => (h.2.1 i x hx).moved hvm, fun q hq => (h.2.2.1 q hq).moved hvm, va_AO.moved hvm h.2.2.2⟩
theorem sm_env.kept {D : va_G} {cl : List vw_C} {cA : Nat → ClassId} {Cq : String} {RO : List (Nat × (Nat → Int32))} {SF : List (String × String × String × Nat)} {st : Nat → Nat} {base : Nat} {U : State} {H H1 : Heap} (h : sm_env D cl cA Cq RO SF st base U H) (hq : ∀ a : Nat, a < H.size → ¬ base ≤ a → H1[a]? = H[a]?) : sm_env D cl cA Cq RO SF st base U H1 :=
  ⟨h.1, fun i x hx => (h.2.1 i x hx).kept hq, fun q hs => (h.2.2.1 q hs).kept hq, h.2.2.2⟩
theorem sm_may_ok {kind : Int} {v : Value} {ad : Nat → Nat} {ty : FieldType} (h : sm_may kind v = true) (hk : sm_kind ty = kind) : narrow ty (sm_v ad v) = sm_v ad v ∧ fits ty (sm_v ad v) = true := by
  subst hk
  revert h
  cases v <;> cases ty <;> intro h9 <;> first
    | exact ⟨rfl, rfl⟩
    | (exfalso; simp [sm_may, sm_kind] at h9; done)
    | (rcases (by simpa [sm_may, sm_kind] using h9 : _ = (0 : Int32) ∨ _ = (1 : Int32)) with h8 | h8 <;> subst h8 <;> exact ⟨rfl, rfl⟩)
theorem sm_ad_own {st : Nat → Nat} {base a : Nat} (h : ¬ a < 8) : sm_ad st base a = base + (a - 8) := by unfold sm_ad; rw [if_neg h]
theorem sm_ad_ro {st : Nat → Nat} {base a : Nat} (h : a < 8) : sm_ad st base a = st a := by unfold sm_ad; rw [if_pos h]
theorem sm_obj_at {ad : Nat → Nat} {cA : Nat → ClassId} {base : Nat} {h : sm_H} {a ci : Nat} {fs : List Value} (e : sm_obj h a ci = some fs) : ¬ a < 8 ∧ h[a - 8]? = some (.inr (ci, fs)) ∧ (sm_w ad cA base h)[a - 8]? = some (base + (a - 8), .inr (ci, fs.map (sm_v ad))) := by
  unfold sm_obj at e
  split at e
  · cases e
  · rename_i h8
    split at e
    · rename_i ci' fs' e1
      split at e
      · rename_i e2
        cases e
        subst e2
        exact ⟨h8, e1, by rw [sm_w_get, e1]; rfl⟩
      · cases e
    · cases e
theorem sm_ints_at {ad : Nat → Nat} {cA : Nat → ClassId} {base : Nat} {RO : List (Nat × (Nat → Int32))} {h : sm_H} {a t n : Nat} {f : Nat → Int32} (e : sm_ints RO h a t = some (n, f)) : (a < 8 ∧ t = 0 ∧ RO[a]? = some (n, f)) ∨ (¬ a < 8 ∧ h[a - 8]? = some (.inl (t, n, .inl f)) ∧ (sm_w ad cA base h)[a - 8]? = some (base + (a - 8), .inl (cA t, n, .inl f))) := by
  unfold sm_ints at e
  split at e
  · rename_i h8
    split at e
    · rename_i h0
      exact Or.inl ⟨h8, h0, e⟩
    · cases e
  · rename_i h8
    split at e
    · rename_i t' n' f' e1
      split at e
      · rename_i e2
        cases e
        subst e2
        exact Or.inr ⟨h8, e1, by rw [sm_w_get, e1]; rfl⟩
      · cases e
    · cases e
theorem sm_ints_own {ad : Nat → Nat} {cA : Nat → ClassId} {base : Nat} {h : sm_H} {a t n : Nat} {f : Nat → Int32} (e : sm_ints [] h a t = some (n, f)) : ¬ a < 8 ∧ h[a - 8]? = some (.inl (t, n, .inl f)) ∧ (sm_w ad cA base h)[a - 8]? = some (base + (a - 8), .inl (cA t, n, .inl f)) := by
  rcases sm_ints_at (ad := ad) (cA := cA) (base := base) e with h1 | h1
  · exact absurd h1.2.2 (by simp)
  · exact h1
theorem sm_longs_at {ad : Nat → Nat} {cA : Nat → ClassId} {base : Nat} {h : sm_H} {a n : Nat} {f : Nat → Int64} (e : sm_longs h a = some (n, f)) : ¬ a < 8 ∧ h[a - 8]? = some (.inl (1, n, .inr (.inl f))) ∧ (sm_w ad cA base h)[a - 8]? = some (base + (a - 8), .inl (cA 1, n, .inr (.inl f))) := by
  unfold sm_longs at e
  split at e
  · cases e
  · rename_i h8
    split at e
    · rename_i t' n' f' e1
      split at e
      · rename_i e2
        cases e
        subst e2
        exact ⟨h8, e1, by rw [sm_w_get, e1]; rfl⟩
      · cases e
    · cases e
theorem sm_refs_at {ad : Nat → Nat} {cA : Nat → ClassId} {base : Nat} {h : sm_H} {a n : Nat} {f : Nat → Option Nat} (e : sm_refs h a = some (n, f)) : ¬ a < 8 ∧ h[a - 8]? = some (.inl (4, n, .inr (.inr (.inr (.inr f))))) ∧ (sm_w ad cA base h)[a - 8]? = some (base + (a - 8), .inl (cA 4, n, .inr (.inr (.inr (.inr (fun j => (f j).map ad)))))) := by
  unfold sm_refs at e
  split at e
  · cases e
  · rename_i h8
    split at e
    · rename_i t' n' f' e1
      split at e
      · rename_i e2
        cases e
        subst e2
        exact ⟨h8, e1, by rw [sm_w_get, e1]; rfl⟩
      · cases e
    · cases e
theorem sm_size {p : Program} {l : Launch} {e : Env} {R : Room} {s : State} {m : MethodId} {args : Array Value} {below : List Frame} {meth : Method} {c : Code} {H : Heap} {locs : List Loc} {cells slots : Nat} {T : State} {D : va_G} {cl : List vw_C} {ad : Nat → Nat} {cA : Nat → ClassId} {base n0 : Nat} {h : sm_H}
    (hT : T.heap = H) (X : Stand p l e R s m args below meth c T locs cells slots) (hP : va_P D cl (sm_w ad cA base h) H) (hS : s.heap.size ≤ H.size) (hb0 : s.heap.size = base + n0) (hc1 : n0 + cells = h.length) : H.size = base + h.length := by
  have h1 : T.heap.size ≤ s.heap.size + cells := X.heapSize
  rw [hT] at h1
  rcases Nat.eq_zero_or_pos h.length with h0 | h0
  · omega
  · have hk : h[h.length - 1]? = some (h[h.length - 1]'(by omega)) := List.getElem?_eq_getElem (by omega)
    have h2 := (hP (h.length - 1) _ (by rw [sm_w_get, hk]; rfl)).lt
    have h3 : base + (h.length - 1) < H.size := h2
    omega
theorem sm_ad_new (st : Nat → Nat) (base n : Nat) : sm_ad st base (8 + n) = base + n := by
  unfold sm_ad
  rw [if_neg (by omega)]
  omega
theorem sm_v_rf (ad : Nat → Nat) (x : Option Nat) : sm_v ad (va_rf x) = va_rf (x.map ad) := by cases x <;> rfl
theorem sm_sum_map (ad : Nat → Nat) (r : List Value) : ((r.map (sm_v ad)).map fun v => v.category).sum = sm_sum r := by
  unfold sm_sum
  rw [List.map_map]
  congr 2
  funext v
  exact sm_v_cat ad v
theorem sm_aty_ok {cA : Nat → ClassId} {Cq : String} {ad : Nat → Nat} {q : ArrayType} {t : Nat} (h : sm_aty q = some t) : ∃ ty, newarray.typeOf q = ty ∧ (sm_TY cA Cq)[t]? = some (cA t, ty) ∧ componentBytes ty ≤ 8 ∧ (∀ (cB : ClassId) (n : Nat), vp_cell cB (sm_ar ad (sm_new t n)) = arrV cB n (fun _ => defaultValue ty)) ∧ (ty = .int ∨ ty = .long ∨ ty = .byte ∨ ty = .short) := by
  cases q <;> simp [sm_aty] at h <;> subst h <;> exact ⟨_, rfl, rfl, by decide, fun _ _ => rfl, by simp [newarray.typeOf]⟩
set_option maxHeartbeats 1000000 in
theorem sn_iconst {p : Program} {l : Launch} {e : Env} {R : Room} {s : State} {m : MethodId} {args : Array Value} {below : List Frame} {meth : Method} {c : Code} {H : Heap} {locs : List Loc} {cells slots : Nat} {Q : State → Prop} {cc : ByteArray} {nL n0 z0 d base : Nat} {st : Nat → Nat} {cA : Nat → ClassId} {D : va_G} {cl : List vw_C} {Cq own : String} {cq : Nat} {RO : List (Nat × (Nat → Int32))} {SF : List (String × String × String × Nat)} {Ts : List Jvm.Cond} {tyc : Nat → Nat → FieldType} {NV : Nat → List Value} {lk : Nat → Option sm_L} {ini : Bool} {n : Int}
    (hx : p.tables.exec = Jvm.exec) (hb : c.code = cc) (hml : c.maxLocals = nL) (hown : s.vm.findClass own = some m.cls) (hts : ∀ w ∈ Ts, w.before args s = true) (hok : ∀ ix q, lk ix = some q → sm_okL cl tyc SF Cq Ts own ix q) (hcl : sm_okC cl tyc NV Ts) (hcq : ∃ r : vw_C, cl[cq]? = some r ∧ r.1 = Cq)
    (hini : ini = true → meth.name = "<init>") (hE : sm_env D cl cA Cq RO SF st base s s.heap) (hb0 : s.heap.size = base + n0) (hd : d ≤ R.frames) (hdl : d * 100 ≤ R.locals) (har : ∀ q t, sm_aty q = some t → Jvm.Cond.arrayClass (newarray.typeOf q) ∈ Ts)
    {len pc pc' : Nat} {lv lv' : sm_V} {sk sk' : List Value} {h h' : sm_H} {ls : Array Slot} (hdg : decode cc pc = .ok ((.iconst n), sm_len (.iconst n) len)) (hl : lv_has ls nL (sm_lv (sm_ad st base) lv)) (hP : va_P D cl (sm_w (sm_ad st base) cA base h) H) (hS : va_S (fun q => base ≤ q) s.heap H locs) (hc1 : n0 + cells = h.length) (hc2 : z0 + slots = sm_sz h)
    (hm1 : h'.length ≤ n0 + R.cells) (hm2 : sm_sz h' ≤ z0 + R.slots) (hs : sm_step lk RO NV cq ini nL d (.iconst n) pc lv sk h = some (pc', lv', sk', h'))
    (k : ∀ (ls' : Array Slot) (H' : Heap) (locs' : List Loc) (cells' slots' : Nat), lv_has ls' nL (sm_lv (sm_ad st base) lv') → va_P D cl (sm_w (sm_ad st base) cA base h') H' → va_S (fun q => base ≤ q) s.heap H' locs' → n0 + cells' = h'.length → z0 + slots' = sm_sz h' → W p l e R s m args below meth c H' locs' cells' slots' Q (F0 m pc' ls' (sk'.map (sm_v (sm_ad st base))))) :
    W p l e R s m args below meth c H locs cells slots Q (F0 m pc ls (sk.map (sm_v (sm_ad st base)))) := by
    cases hs
    exact lv_iconst hx hb hdg rfl (k _ _ _ _ _ hl hP hS hc1 hc2)
set_option maxHeartbeats 1000000 in
theorem sn_bipush {p : Program} {l : Launch} {e : Env} {R : Room} {s : State} {m : MethodId} {args : Array Value} {below : List Frame} {meth : Method} {c : Code} {H : Heap} {locs : List Loc} {cells slots : Nat} {Q : State → Prop} {cc : ByteArray} {nL n0 z0 d base : Nat} {st : Nat → Nat} {cA : Nat → ClassId} {D : va_G} {cl : List vw_C} {Cq own : String} {cq : Nat} {RO : List (Nat × (Nat → Int32))} {SF : List (String × String × String × Nat)} {Ts : List Jvm.Cond} {tyc : Nat → Nat → FieldType} {NV : Nat → List Value} {lk : Nat → Option sm_L} {ini : Bool} {n : Int}
    (hx : p.tables.exec = Jvm.exec) (hb : c.code = cc) (hml : c.maxLocals = nL) (hown : s.vm.findClass own = some m.cls) (hts : ∀ w ∈ Ts, w.before args s = true) (hok : ∀ ix q, lk ix = some q → sm_okL cl tyc SF Cq Ts own ix q) (hcl : sm_okC cl tyc NV Ts) (hcq : ∃ r : vw_C, cl[cq]? = some r ∧ r.1 = Cq)
    (hini : ini = true → meth.name = "<init>") (hE : sm_env D cl cA Cq RO SF st base s s.heap) (hb0 : s.heap.size = base + n0) (hd : d ≤ R.frames) (hdl : d * 100 ≤ R.locals) (har : ∀ q t, sm_aty q = some t → Jvm.Cond.arrayClass (newarray.typeOf q) ∈ Ts)
    {len pc pc' : Nat} {lv lv' : sm_V} {sk sk' : List Value} {h h' : sm_H} {ls : Array Slot} (hdg : decode cc pc = .ok ((.bipush n), sm_len (.bipush n) len)) (hl : lv_has ls nL (sm_lv (sm_ad st base) lv)) (hP : va_P D cl (sm_w (sm_ad st base) cA base h) H) (hS : va_S (fun q => base ≤ q) s.heap H locs) (hc1 : n0 + cells = h.length) (hc2 : z0 + slots = sm_sz h)
    (hm1 : h'.length ≤ n0 + R.cells) (hm2 : sm_sz h' ≤ z0 + R.slots) (hs : sm_step lk RO NV cq ini nL d (.bipush n) pc lv sk h = some (pc', lv', sk', h'))
    (k : ∀ (ls' : Array Slot) (H' : Heap) (locs' : List Loc) (cells' slots' : Nat), lv_has ls' nL (sm_lv (sm_ad st base) lv') → va_P D cl (sm_w (sm_ad st base) cA base h') H' → va_S (fun q => base ≤ q) s.heap H' locs' → n0 + cells' = h'.length → z0 + slots' = sm_sz h' → W p l e R s m args below meth c H' locs' cells' slots' Q (F0 m pc' ls' (sk'.map (sm_v (sm_ad st base))))) :
    W p l e R s m args below meth c H locs cells slots Q (F0 m pc ls (sk.map (sm_v (sm_ad st base)))) := by
    cases hs
    exact lv_bipush hx hb hdg rfl (k _ _ _ _ _ hl hP hS hc1 hc2)
set_option maxHeartbeats 1000000 in
theorem sn_sipush {p : Program} {l : Launch} {e : Env} {R : Room} {s : State} {m : MethodId} {args : Array Value} {below : List Frame} {meth : Method} {c : Code} {H : Heap} {locs : List Loc} {cells slots : Nat} {Q : State → Prop} {cc : ByteArray} {nL n0 z0 d base : Nat} {st : Nat → Nat} {cA : Nat → ClassId} {D : va_G} {cl : List vw_C} {Cq own : String} {cq : Nat} {RO : List (Nat × (Nat → Int32))} {SF : List (String × String × String × Nat)} {Ts : List Jvm.Cond} {tyc : Nat → Nat → FieldType} {NV : Nat → List Value} {lk : Nat → Option sm_L} {ini : Bool} {n : Int}
    (hx : p.tables.exec = Jvm.exec) (hb : c.code = cc) (hml : c.maxLocals = nL) (hown : s.vm.findClass own = some m.cls) (hts : ∀ w ∈ Ts, w.before args s = true) (hok : ∀ ix q, lk ix = some q → sm_okL cl tyc SF Cq Ts own ix q) (hcl : sm_okC cl tyc NV Ts) (hcq : ∃ r : vw_C, cl[cq]? = some r ∧ r.1 = Cq)
    (hini : ini = true → meth.name = "<init>") (hE : sm_env D cl cA Cq RO SF st base s s.heap) (hb0 : s.heap.size = base + n0) (hd : d ≤ R.frames) (hdl : d * 100 ≤ R.locals) (har : ∀ q t, sm_aty q = some t → Jvm.Cond.arrayClass (newarray.typeOf q) ∈ Ts)
    {len pc pc' : Nat} {lv lv' : sm_V} {sk sk' : List Value} {h h' : sm_H} {ls : Array Slot} (hdg : decode cc pc = .ok ((.sipush n), sm_len (.sipush n) len)) (hl : lv_has ls nL (sm_lv (sm_ad st base) lv)) (hP : va_P D cl (sm_w (sm_ad st base) cA base h) H) (hS : va_S (fun q => base ≤ q) s.heap H locs) (hc1 : n0 + cells = h.length) (hc2 : z0 + slots = sm_sz h)
    (hm1 : h'.length ≤ n0 + R.cells) (hm2 : sm_sz h' ≤ z0 + R.slots) (hs : sm_step lk RO NV cq ini nL d (.sipush n) pc lv sk h = some (pc', lv', sk', h'))
    (k : ∀ (ls' : Array Slot) (H' : Heap) (locs' : List Loc) (cells' slots' : Nat), lv_has ls' nL (sm_lv (sm_ad st base) lv') → va_P D cl (sm_w (sm_ad st base) cA base h') H' → va_S (fun q => base ≤ q) s.heap H' locs' → n0 + cells' = h'.length → z0 + slots' = sm_sz h' → W p l e R s m args below meth c H' locs' cells' slots' Q (F0 m pc' ls' (sk'.map (sm_v (sm_ad st base))))) :
    W p l e R s m args below meth c H locs cells slots Q (F0 m pc ls (sk.map (sm_v (sm_ad st base)))) := by
    cases hs
    exact lv_sipush hx hb hdg rfl (k _ _ _ _ _ hl hP hS hc1 hc2)
set_option maxHeartbeats 1000000 in
theorem sn_lconst {p : Program} {l : Launch} {e : Env} {R : Room} {s : State} {m : MethodId} {args : Array Value} {below : List Frame} {meth : Method} {c : Code} {H : Heap} {locs : List Loc} {cells slots : Nat} {Q : State → Prop} {cc : ByteArray} {nL n0 z0 d base : Nat} {st : Nat → Nat} {cA : Nat → ClassId} {D : va_G} {cl : List vw_C} {Cq own : String} {cq : Nat} {RO : List (Nat × (Nat → Int32))} {SF : List (String × String × String × Nat)} {Ts : List Jvm.Cond} {tyc : Nat → Nat → FieldType} {NV : Nat → List Value} {lk : Nat → Option sm_L} {ini : Bool} {n : Fin 2}
    (hx : p.tables.exec = Jvm.exec) (hb : c.code = cc) (hml : c.maxLocals = nL) (hown : s.vm.findClass own = some m.cls) (hts : ∀ w ∈ Ts, w.before args s = true) (hok : ∀ ix q, lk ix = some q → sm_okL cl tyc SF Cq Ts own ix q) (hcl : sm_okC cl tyc NV Ts) (hcq : ∃ r : vw_C, cl[cq]? = some r ∧ r.1 = Cq)
    (hini : ini = true → meth.name = "<init>") (hE : sm_env D cl cA Cq RO SF st base s s.heap) (hb0 : s.heap.size = base + n0) (hd : d ≤ R.frames) (hdl : d * 100 ≤ R.locals) (har : ∀ q t, sm_aty q = some t → Jvm.Cond.arrayClass (newarray.typeOf q) ∈ Ts)
    {len pc pc' : Nat} {lv lv' : sm_V} {sk sk' : List Value} {h h' : sm_H} {ls : Array Slot} (hdg : decode cc pc = .ok ((.lconst n), sm_len (.lconst n) len)) (hl : lv_has ls nL (sm_lv (sm_ad st base) lv)) (hP : va_P D cl (sm_w (sm_ad st base) cA base h) H) (hS : va_S (fun q => base ≤ q) s.heap H locs) (hc1 : n0 + cells = h.length) (hc2 : z0 + slots = sm_sz h)
    (hm1 : h'.length ≤ n0 + R.cells) (hm2 : sm_sz h' ≤ z0 + R.slots) (hs : sm_step lk RO NV cq ini nL d (.lconst n) pc lv sk h = some (pc', lv', sk', h'))
    (k : ∀ (ls' : Array Slot) (H' : Heap) (locs' : List Loc) (cells' slots' : Nat), lv_has ls' nL (sm_lv (sm_ad st base) lv') → va_P D cl (sm_w (sm_ad st base) cA base h') H' → va_S (fun q => base ≤ q) s.heap H' locs' → n0 + cells' = h'.length → z0 + slots' = sm_sz h' → W p l e R s m args below meth c H' locs' cells' slots' Q (F0 m pc' ls' (sk'.map (sm_v (sm_ad st base))))) :
    W p l e R s m args below meth c H locs cells slots Q (F0 m pc ls (sk.map (sm_v (sm_ad st base)))) := by
    cases hs
    exact lv_lconst hx hb hdg rfl (k _ _ _ _ _ hl hP hS hc1 hc2)
set_option maxHeartbeats 1000000 in
theorem sn_iload_n {p : Program} {l : Launch} {e : Env} {R : Room} {s : State} {m : MethodId} {args : Array Value} {below : List Frame} {meth : Method} {c : Code} {H : Heap} {locs : List Loc} {cells slots : Nat} {Q : State → Prop} {cc : ByteArray} {nL n0 z0 d base : Nat} {st : Nat → Nat} {cA : Nat → ClassId} {D : va_G} {cl : List vw_C} {Cq own : String} {cq : Nat} {RO : List (Nat × (Nat → Int32))} {SF : List (String × String × String × Nat)} {Ts : List Jvm.Cond} {tyc : Nat → Nat → FieldType} {NV : Nat → List Value} {lk : Nat → Option sm_L} {ini : Bool} {n : Fin 4}
    (hx : p.tables.exec = Jvm.exec) (hb : c.code = cc) (hml : c.maxLocals = nL) (hown : s.vm.findClass own = some m.cls) (hts : ∀ w ∈ Ts, w.before args s = true) (hok : ∀ ix q, lk ix = some q → sm_okL cl tyc SF Cq Ts own ix q) (hcl : sm_okC cl tyc NV Ts) (hcq : ∃ r : vw_C, cl[cq]? = some r ∧ r.1 = Cq)
    (hini : ini = true → meth.name = "<init>") (hE : sm_env D cl cA Cq RO SF st base s s.heap) (hb0 : s.heap.size = base + n0) (hd : d ≤ R.frames) (hdl : d * 100 ≤ R.locals) (har : ∀ q t, sm_aty q = some t → Jvm.Cond.arrayClass (newarray.typeOf q) ∈ Ts)
    {len pc pc' : Nat} {lv lv' : sm_V} {sk sk' : List Value} {h h' : sm_H} {ls : Array Slot} (hdg : decode cc pc = .ok ((.iload_n n), sm_len (.iload_n n) len)) (hl : lv_has ls nL (sm_lv (sm_ad st base) lv)) (hP : va_P D cl (sm_w (sm_ad st base) cA base h) H) (hS : va_S (fun q => base ≤ q) s.heap H locs) (hc1 : n0 + cells = h.length) (hc2 : z0 + slots = sm_sz h)
    (hm1 : h'.length ≤ n0 + R.cells) (hm2 : sm_sz h' ≤ z0 + R.slots) (hs : sm_step lk RO NV cq ini nL d (.iload_n n) pc lv sk h = some (pc', lv', sk', h'))
    (k : ∀ (ls' : Array Slot) (H' : Heap) (locs' : List Loc) (cells' slots' : Nat), lv_has ls' nL (sm_lv (sm_ad st base) lv') → va_P D cl (sm_w (sm_ad st base) cA base h') H' → va_S (fun q => base ≤ q) s.heap H' locs' → n0 + cells' = h'.length → z0 + slots' = sm_sz h' → W p l e R s m args below meth c H' locs' cells' slots' Q (F0 m pc' ls' (sk'.map (sm_v (sm_ad st base))))) :
    W p l e R s m args below meth c H locs cells slots Q (F0 m pc ls (sk.map (sm_v (sm_ad st base)))) := by
    dsimp only [sm_step] at hs
    split at hs
    · rename_i x hx9
      cases hs
      exact lv_iload_n hx hb hdg rfl (sm_ld_at hl hx9) (k _ _ _ _ _ hl hP hS hc1 hc2)
    · cases hs
set_option maxHeartbeats 1000000 in
theorem sn_iload {p : Program} {l : Launch} {e : Env} {R : Room} {s : State} {m : MethodId} {args : Array Value} {below : List Frame} {meth : Method} {c : Code} {H : Heap} {locs : List Loc} {cells slots : Nat} {Q : State → Prop} {cc : ByteArray} {nL n0 z0 d base : Nat} {st : Nat → Nat} {cA : Nat → ClassId} {D : va_G} {cl : List vw_C} {Cq own : String} {cq : Nat} {RO : List (Nat × (Nat → Int32))} {SF : List (String × String × String × Nat)} {Ts : List Jvm.Cond} {tyc : Nat → Nat → FieldType} {NV : Nat → List Value} {lk : Nat → Option sm_L} {ini : Bool} {n : Nat}
    (hx : p.tables.exec = Jvm.exec) (hb : c.code = cc) (hml : c.maxLocals = nL) (hown : s.vm.findClass own = some m.cls) (hts : ∀ w ∈ Ts, w.before args s = true) (hok : ∀ ix q, lk ix = some q → sm_okL cl tyc SF Cq Ts own ix q) (hcl : sm_okC cl tyc NV Ts) (hcq : ∃ r : vw_C, cl[cq]? = some r ∧ r.1 = Cq)
    (hini : ini = true → meth.name = "<init>") (hE : sm_env D cl cA Cq RO SF st base s s.heap) (hb0 : s.heap.size = base + n0) (hd : d ≤ R.frames) (hdl : d * 100 ≤ R.locals) (har : ∀ q t, sm_aty q = some t → Jvm.Cond.arrayClass (newarray.typeOf q) ∈ Ts)
    {len pc pc' : Nat} {lv lv' : sm_V} {sk sk' : List Value} {h h' : sm_H} {ls : Array Slot} (hdg : decode cc pc = .ok ((.iload n), sm_len (.iload n) len)) (hl : lv_has ls nL (sm_lv (sm_ad st base) lv)) (hP : va_P D cl (sm_w (sm_ad st base) cA base h) H) (hS : va_S (fun q => base ≤ q) s.heap H locs) (hc1 : n0 + cells = h.length) (hc2 : z0 + slots = sm_sz h)
    (hm1 : h'.length ≤ n0 + R.cells) (hm2 : sm_sz h' ≤ z0 + R.slots) (hs : sm_step lk RO NV cq ini nL d (.iload n) pc lv sk h = some (pc', lv', sk', h'))
    (k : ∀ (ls' : Array Slot) (H' : Heap) (locs' : List Loc) (cells' slots' : Nat), lv_has ls' nL (sm_lv (sm_ad st base) lv') → va_P D cl (sm_w (sm_ad st base) cA base h') H' → va_S (fun q => base ≤ q) s.heap H' locs' → n0 + cells' = h'.length → z0 + slots' = sm_sz h' → W p l e R s m args below meth c H' locs' cells' slots' Q (F0 m pc' ls' (sk'.map (sm_v (sm_ad st base))))) :
    W p l e R s m args below meth c H locs cells slots Q (F0 m pc ls (sk.map (sm_v (sm_ad st base)))) := by
    dsimp only [sm_step] at hs
    split at hs
    · rename_i x hx9
      cases hs
      exact lv_iload hx hb hdg (sm_ld_at hl hx9) (k _ _ _ _ _ hl hP hS hc1 hc2)
    · cases hs
set_option maxHeartbeats 1000000 in
theorem sn_lload_n {p : Program} {l : Launch} {e : Env} {R : Room} {s : State} {m : MethodId} {args : Array Value} {below : List Frame} {meth : Method} {c : Code} {H : Heap} {locs : List Loc} {cells slots : Nat} {Q : State → Prop} {cc : ByteArray} {nL n0 z0 d base : Nat} {st : Nat → Nat} {cA : Nat → ClassId} {D : va_G} {cl : List vw_C} {Cq own : String} {cq : Nat} {RO : List (Nat × (Nat → Int32))} {SF : List (String × String × String × Nat)} {Ts : List Jvm.Cond} {tyc : Nat → Nat → FieldType} {NV : Nat → List Value} {lk : Nat → Option sm_L} {ini : Bool} {n : Fin 4}
    (hx : p.tables.exec = Jvm.exec) (hb : c.code = cc) (hml : c.maxLocals = nL) (hown : s.vm.findClass own = some m.cls) (hts : ∀ w ∈ Ts, w.before args s = true) (hok : ∀ ix q, lk ix = some q → sm_okL cl tyc SF Cq Ts own ix q) (hcl : sm_okC cl tyc NV Ts) (hcq : ∃ r : vw_C, cl[cq]? = some r ∧ r.1 = Cq)
    (hini : ini = true → meth.name = "<init>") (hE : sm_env D cl cA Cq RO SF st base s s.heap) (hb0 : s.heap.size = base + n0) (hd : d ≤ R.frames) (hdl : d * 100 ≤ R.locals) (har : ∀ q t, sm_aty q = some t → Jvm.Cond.arrayClass (newarray.typeOf q) ∈ Ts)
    {len pc pc' : Nat} {lv lv' : sm_V} {sk sk' : List Value} {h h' : sm_H} {ls : Array Slot} (hdg : decode cc pc = .ok ((.lload_n n), sm_len (.lload_n n) len)) (hl : lv_has ls nL (sm_lv (sm_ad st base) lv)) (hP : va_P D cl (sm_w (sm_ad st base) cA base h) H) (hS : va_S (fun q => base ≤ q) s.heap H locs) (hc1 : n0 + cells = h.length) (hc2 : z0 + slots = sm_sz h)
    (hm1 : h'.length ≤ n0 + R.cells) (hm2 : sm_sz h' ≤ z0 + R.slots) (hs : sm_step lk RO NV cq ini nL d (.lload_n n) pc lv sk h = some (pc', lv', sk', h'))
    (k : ∀ (ls' : Array Slot) (H' : Heap) (locs' : List Loc) (cells' slots' : Nat), lv_has ls' nL (sm_lv (sm_ad st base) lv') → va_P D cl (sm_w (sm_ad st base) cA base h') H' → va_S (fun q => base ≤ q) s.heap H' locs' → n0 + cells' = h'.length → z0 + slots' = sm_sz h' → W p l e R s m args below meth c H' locs' cells' slots' Q (F0 m pc' ls' (sk'.map (sm_v (sm_ad st base))))) :
    W p l e R s m args below meth c H locs cells slots Q (F0 m pc ls (sk.map (sm_v (sm_ad st base)))) := by
    dsimp only [sm_step] at hs
    split at hs
    · rename_i x hx9
      cases hs
      exact lv_lload_n hx hb hdg rfl (sm_ld_at hl hx9) (k _ _ _ _ _ hl hP hS hc1 hc2)
    · cases hs
set_option maxHeartbeats 1000000 in
theorem sn_lload {p : Program} {l : Launch} {e : Env} {R : Room} {s : State} {m : MethodId} {args : Array Value} {below : List Frame} {meth : Method} {c : Code} {H : Heap} {locs : List Loc} {cells slots : Nat} {Q : State → Prop} {cc : ByteArray} {nL n0 z0 d base : Nat} {st : Nat → Nat} {cA : Nat → ClassId} {D : va_G} {cl : List vw_C} {Cq own : String} {cq : Nat} {RO : List (Nat × (Nat → Int32))} {SF : List (String × String × String × Nat)} {Ts : List Jvm.Cond} {tyc : Nat → Nat → FieldType} {NV : Nat → List Value} {lk : Nat → Option sm_L} {ini : Bool} {n : Nat}
    (hx : p.tables.exec = Jvm.exec) (hb : c.code = cc) (hml : c.maxLocals = nL) (hown : s.vm.findClass own = some m.cls) (hts : ∀ w ∈ Ts, w.before args s = true) (hok : ∀ ix q, lk ix = some q → sm_okL cl tyc SF Cq Ts own ix q) (hcl : sm_okC cl tyc NV Ts) (hcq : ∃ r : vw_C, cl[cq]? = some r ∧ r.1 = Cq)
    (hini : ini = true → meth.name = "<init>") (hE : sm_env D cl cA Cq RO SF st base s s.heap) (hb0 : s.heap.size = base + n0) (hd : d ≤ R.frames) (hdl : d * 100 ≤ R.locals) (har : ∀ q t, sm_aty q = some t → Jvm.Cond.arrayClass (newarray.typeOf q) ∈ Ts)
    {len pc pc' : Nat} {lv lv' : sm_V} {sk sk' : List Value} {h h' : sm_H} {ls : Array Slot} (hdg : decode cc pc = .ok ((.lload n), sm_len (.lload n) len)) (hl : lv_has ls nL (sm_lv (sm_ad st base) lv)) (hP : va_P D cl (sm_w (sm_ad st base) cA base h) H) (hS : va_S (fun q => base ≤ q) s.heap H locs) (hc1 : n0 + cells = h.length) (hc2 : z0 + slots = sm_sz h)
    (hm1 : h'.length ≤ n0 + R.cells) (hm2 : sm_sz h' ≤ z0 + R.slots) (hs : sm_step lk RO NV cq ini nL d (.lload n) pc lv sk h = some (pc', lv', sk', h'))
    (k : ∀ (ls' : Array Slot) (H' : Heap) (locs' : List Loc) (cells' slots' : Nat), lv_has ls' nL (sm_lv (sm_ad st base) lv') → va_P D cl (sm_w (sm_ad st base) cA base h') H' → va_S (fun q => base ≤ q) s.heap H' locs' → n0 + cells' = h'.length → z0 + slots' = sm_sz h' → W p l e R s m args below meth c H' locs' cells' slots' Q (F0 m pc' ls' (sk'.map (sm_v (sm_ad st base))))) :
    W p l e R s m args below meth c H locs cells slots Q (F0 m pc ls (sk.map (sm_v (sm_ad st base)))) := by
    dsimp only [sm_step] at hs
    split at hs
    · rename_i x hx9
      cases hs
      exact lv_lload hx hb hdg (sm_ld_at hl hx9) (k _ _ _ _ _ hl hP hS hc1 hc2)
    · cases hs
set_option maxHeartbeats 1000000 in
theorem sn_aload_n {p : Program} {l : Launch} {e : Env} {R : Room} {s : State} {m : MethodId} {args : Array Value} {below : List Frame} {meth : Method} {c : Code} {H : Heap} {locs : List Loc} {cells slots : Nat} {Q : State → Prop} {cc : ByteArray} {nL n0 z0 d base : Nat} {st : Nat → Nat} {cA : Nat → ClassId} {D : va_G} {cl : List vw_C} {Cq own : String} {cq : Nat} {RO : List (Nat × (Nat → Int32))} {SF : List (String × String × String × Nat)} {Ts : List Jvm.Cond} {tyc : Nat → Nat → FieldType} {NV : Nat → List Value} {lk : Nat → Option sm_L} {ini : Bool} {n : Fin 4}
    (hx : p.tables.exec = Jvm.exec) (hb : c.code = cc) (hml : c.maxLocals = nL) (hown : s.vm.findClass own = some m.cls) (hts : ∀ w ∈ Ts, w.before args s = true) (hok : ∀ ix q, lk ix = some q → sm_okL cl tyc SF Cq Ts own ix q) (hcl : sm_okC cl tyc NV Ts) (hcq : ∃ r : vw_C, cl[cq]? = some r ∧ r.1 = Cq)
    (hini : ini = true → meth.name = "<init>") (hE : sm_env D cl cA Cq RO SF st base s s.heap) (hb0 : s.heap.size = base + n0) (hd : d ≤ R.frames) (hdl : d * 100 ≤ R.locals) (har : ∀ q t, sm_aty q = some t → Jvm.Cond.arrayClass (newarray.typeOf q) ∈ Ts)
    {len pc pc' : Nat} {lv lv' : sm_V} {sk sk' : List Value} {h h' : sm_H} {ls : Array Slot} (hdg : decode cc pc = .ok ((.aload_n n), sm_len (.aload_n n) len)) (hl : lv_has ls nL (sm_lv (sm_ad st base) lv)) (hP : va_P D cl (sm_w (sm_ad st base) cA base h) H) (hS : va_S (fun q => base ≤ q) s.heap H locs) (hc1 : n0 + cells = h.length) (hc2 : z0 + slots = sm_sz h)
    (hm1 : h'.length ≤ n0 + R.cells) (hm2 : sm_sz h' ≤ z0 + R.slots) (hs : sm_step lk RO NV cq ini nL d (.aload_n n) pc lv sk h = some (pc', lv', sk', h'))
    (k : ∀ (ls' : Array Slot) (H' : Heap) (locs' : List Loc) (cells' slots' : Nat), lv_has ls' nL (sm_lv (sm_ad st base) lv') → va_P D cl (sm_w (sm_ad st base) cA base h') H' → va_S (fun q => base ≤ q) s.heap H' locs' → n0 + cells' = h'.length → z0 + slots' = sm_sz h' → W p l e R s m args below meth c H' locs' cells' slots' Q (F0 m pc' ls' (sk'.map (sm_v (sm_ad st base))))) :
    W p l e R s m args below meth c H locs cells slots Q (F0 m pc ls (sk.map (sm_v (sm_ad st base)))) := by
    dsimp only [sm_step] at hs
    split at hs
    · rename_i x hx9
      cases hs
      exact lv_aload_n hx hb hdg rfl (sm_ld_at hl hx9) (k _ _ _ _ _ hl hP hS hc1 hc2)
    · cases hs
set_option maxHeartbeats 1000000 in
theorem sn_aload {p : Program} {l : Launch} {e : Env} {R : Room} {s : State} {m : MethodId} {args : Array Value} {below : List Frame} {meth : Method} {c : Code} {H : Heap} {locs : List Loc} {cells slots : Nat} {Q : State → Prop} {cc : ByteArray} {nL n0 z0 d base : Nat} {st : Nat → Nat} {cA : Nat → ClassId} {D : va_G} {cl : List vw_C} {Cq own : String} {cq : Nat} {RO : List (Nat × (Nat → Int32))} {SF : List (String × String × String × Nat)} {Ts : List Jvm.Cond} {tyc : Nat → Nat → FieldType} {NV : Nat → List Value} {lk : Nat → Option sm_L} {ini : Bool} {n : Nat}
    (hx : p.tables.exec = Jvm.exec) (hb : c.code = cc) (hml : c.maxLocals = nL) (hown : s.vm.findClass own = some m.cls) (hts : ∀ w ∈ Ts, w.before args s = true) (hok : ∀ ix q, lk ix = some q → sm_okL cl tyc SF Cq Ts own ix q) (hcl : sm_okC cl tyc NV Ts) (hcq : ∃ r : vw_C, cl[cq]? = some r ∧ r.1 = Cq)
    (hini : ini = true → meth.name = "<init>") (hE : sm_env D cl cA Cq RO SF st base s s.heap) (hb0 : s.heap.size = base + n0) (hd : d ≤ R.frames) (hdl : d * 100 ≤ R.locals) (har : ∀ q t, sm_aty q = some t → Jvm.Cond.arrayClass (newarray.typeOf q) ∈ Ts)
    {len pc pc' : Nat} {lv lv' : sm_V} {sk sk' : List Value} {h h' : sm_H} {ls : Array Slot} (hdg : decode cc pc = .ok ((.aload n), sm_len (.aload n) len)) (hl : lv_has ls nL (sm_lv (sm_ad st base) lv)) (hP : va_P D cl (sm_w (sm_ad st base) cA base h) H) (hS : va_S (fun q => base ≤ q) s.heap H locs) (hc1 : n0 + cells = h.length) (hc2 : z0 + slots = sm_sz h)
    (hm1 : h'.length ≤ n0 + R.cells) (hm2 : sm_sz h' ≤ z0 + R.slots) (hs : sm_step lk RO NV cq ini nL d (.aload n) pc lv sk h = some (pc', lv', sk', h'))
    (k : ∀ (ls' : Array Slot) (H' : Heap) (locs' : List Loc) (cells' slots' : Nat), lv_has ls' nL (sm_lv (sm_ad st base) lv') → va_P D cl (sm_w (sm_ad st base) cA base h') H' → va_S (fun q => base ≤ q) s.heap H' locs' → n0 + cells' = h'.length → z0 + slots' = sm_sz h' → W p l e R s m args below meth c H' locs' cells' slots' Q (F0 m pc' ls' (sk'.map (sm_v (sm_ad st base))))) :
    W p l e R s m args below meth c H locs cells slots Q (F0 m pc ls (sk.map (sm_v (sm_ad st base)))) := by
    dsimp only [sm_step] at hs
    split at hs
    · rename_i x hx9
      cases hs
      exact lv_aload hx hb hdg (sm_ld_at hl hx9) (k _ _ _ _ _ hl hP hS hc1 hc2)
    · cases hs
set_option maxHeartbeats 1000000 in
theorem sn_istore_n {p : Program} {l : Launch} {e : Env} {R : Room} {s : State} {m : MethodId} {args : Array Value} {below : List Frame} {meth : Method} {c : Code} {H : Heap} {locs : List Loc} {cells slots : Nat} {Q : State → Prop} {cc : ByteArray} {nL n0 z0 d base : Nat} {st : Nat → Nat} {cA : Nat → ClassId} {D : va_G} {cl : List vw_C} {Cq own : String} {cq : Nat} {RO : List (Nat × (Nat → Int32))} {SF : List (String × String × String × Nat)} {Ts : List Jvm.Cond} {tyc : Nat → Nat → FieldType} {NV : Nat → List Value} {lk : Nat → Option sm_L} {ini : Bool} {n : Fin 4}
    (hx : p.tables.exec = Jvm.exec) (hb : c.code = cc) (hml : c.maxLocals = nL) (hown : s.vm.findClass own = some m.cls) (hts : ∀ w ∈ Ts, w.before args s = true) (hok : ∀ ix q, lk ix = some q → sm_okL cl tyc SF Cq Ts own ix q) (hcl : sm_okC cl tyc NV Ts) (hcq : ∃ r : vw_C, cl[cq]? = some r ∧ r.1 = Cq)
    (hini : ini = true → meth.name = "<init>") (hE : sm_env D cl cA Cq RO SF st base s s.heap) (hb0 : s.heap.size = base + n0) (hd : d ≤ R.frames) (hdl : d * 100 ≤ R.locals) (har : ∀ q t, sm_aty q = some t → Jvm.Cond.arrayClass (newarray.typeOf q) ∈ Ts)
    {len pc pc' : Nat} {lv lv' : sm_V} {sk sk' : List Value} {h h' : sm_H} {ls : Array Slot} (hdg : decode cc pc = .ok ((.istore_n n), sm_len (.istore_n n) len)) (hl : lv_has ls nL (sm_lv (sm_ad st base) lv)) (hP : va_P D cl (sm_w (sm_ad st base) cA base h) H) (hS : va_S (fun q => base ≤ q) s.heap H locs) (hc1 : n0 + cells = h.length) (hc2 : z0 + slots = sm_sz h)
    (hm1 : h'.length ≤ n0 + R.cells) (hm2 : sm_sz h' ≤ z0 + R.slots) (hs : sm_step lk RO NV cq ini nL d (.istore_n n) pc lv sk h = some (pc', lv', sk', h'))
    (k : ∀ (ls' : Array Slot) (H' : Heap) (locs' : List Loc) (cells' slots' : Nat), lv_has ls' nL (sm_lv (sm_ad st base) lv') → va_P D cl (sm_w (sm_ad st base) cA base h') H' → va_S (fun q => base ≤ q) s.heap H' locs' → n0 + cells' = h'.length → z0 + slots' = sm_sz h' → W p l e R s m args below meth c H' locs' cells' slots' Q (F0 m pc' ls' (sk'.map (sm_v (sm_ad st base))))) :
    W p l e R s m args below meth c H locs cells slots Q (F0 m pc ls (sk.map (sm_v (sm_ad st base)))) := by
    have hs1 := sm_i1_eq hs
    clear hs
    obtain ⟨x, r, e0, hs⟩ := hs1
    subst e0
    split at hs
    · rename_i hn
      cases hs
      exact lv_istore_n hx hb hdg rfl hl hn (sm_s1_map _ _ _ (.int x)) (fun ls' hl' => k _ _ _ _ _ hl' hP hS hc1 hc2)
    · cases hs
set_option maxHeartbeats 1000000 in
theorem sn_istore {p : Program} {l : Launch} {e : Env} {R : Room} {s : State} {m : MethodId} {args : Array Value} {below : List Frame} {meth : Method} {c : Code} {H : Heap} {locs : List Loc} {cells slots : Nat} {Q : State → Prop} {cc : ByteArray} {nL n0 z0 d base : Nat} {st : Nat → Nat} {cA : Nat → ClassId} {D : va_G} {cl : List vw_C} {Cq own : String} {cq : Nat} {RO : List (Nat × (Nat → Int32))} {SF : List (String × String × String × Nat)} {Ts : List Jvm.Cond} {tyc : Nat → Nat → FieldType} {NV : Nat → List Value} {lk : Nat → Option sm_L} {ini : Bool} {n : Nat}
    (hx : p.tables.exec = Jvm.exec) (hb : c.code = cc) (hml : c.maxLocals = nL) (hown : s.vm.findClass own = some m.cls) (hts : ∀ w ∈ Ts, w.before args s = true) (hok : ∀ ix q, lk ix = some q → sm_okL cl tyc SF Cq Ts own ix q) (hcl : sm_okC cl tyc NV Ts) (hcq : ∃ r : vw_C, cl[cq]? = some r ∧ r.1 = Cq)
    (hini : ini = true → meth.name = "<init>") (hE : sm_env D cl cA Cq RO SF st base s s.heap) (hb0 : s.heap.size = base + n0) (hd : d ≤ R.frames) (hdl : d * 100 ≤ R.locals) (har : ∀ q t, sm_aty q = some t → Jvm.Cond.arrayClass (newarray.typeOf q) ∈ Ts)
    {len pc pc' : Nat} {lv lv' : sm_V} {sk sk' : List Value} {h h' : sm_H} {ls : Array Slot} (hdg : decode cc pc = .ok ((.istore n), sm_len (.istore n) len)) (hl : lv_has ls nL (sm_lv (sm_ad st base) lv)) (hP : va_P D cl (sm_w (sm_ad st base) cA base h) H) (hS : va_S (fun q => base ≤ q) s.heap H locs) (hc1 : n0 + cells = h.length) (hc2 : z0 + slots = sm_sz h)
    (hm1 : h'.length ≤ n0 + R.cells) (hm2 : sm_sz h' ≤ z0 + R.slots) (hs : sm_step lk RO NV cq ini nL d (.istore n) pc lv sk h = some (pc', lv', sk', h'))
    (k : ∀ (ls' : Array Slot) (H' : Heap) (locs' : List Loc) (cells' slots' : Nat), lv_has ls' nL (sm_lv (sm_ad st base) lv') → va_P D cl (sm_w (sm_ad st base) cA base h') H' → va_S (fun q => base ≤ q) s.heap H' locs' → n0 + cells' = h'.length → z0 + slots' = sm_sz h' → W p l e R s m args below meth c H' locs' cells' slots' Q (F0 m pc' ls' (sk'.map (sm_v (sm_ad st base))))) :
    W p l e R s m args below meth c H locs cells slots Q (F0 m pc ls (sk.map (sm_v (sm_ad st base)))) := by
    have hs1 := sm_i1_eq hs
    clear hs
    obtain ⟨x, r, e0, hs⟩ := hs1
    subst e0
    split at hs
    · rename_i hn
      cases hs
      exact lv_istore hx hb hdg hl hn (sm_s1_map _ _ _ (.int x)) (fun ls' hl' => k _ _ _ _ _ hl' hP hS hc1 hc2)
    · cases hs
set_option maxHeartbeats 1000000 in
theorem sn_lstore_n {p : Program} {l : Launch} {e : Env} {R : Room} {s : State} {m : MethodId} {args : Array Value} {below : List Frame} {meth : Method} {c : Code} {H : Heap} {locs : List Loc} {cells slots : Nat} {Q : State → Prop} {cc : ByteArray} {nL n0 z0 d base : Nat} {st : Nat → Nat} {cA : Nat → ClassId} {D : va_G} {cl : List vw_C} {Cq own : String} {cq : Nat} {RO : List (Nat × (Nat → Int32))} {SF : List (String × String × String × Nat)} {Ts : List Jvm.Cond} {tyc : Nat → Nat → FieldType} {NV : Nat → List Value} {lk : Nat → Option sm_L} {ini : Bool} {n : Fin 4}
    (hx : p.tables.exec = Jvm.exec) (hb : c.code = cc) (hml : c.maxLocals = nL) (hown : s.vm.findClass own = some m.cls) (hts : ∀ w ∈ Ts, w.before args s = true) (hok : ∀ ix q, lk ix = some q → sm_okL cl tyc SF Cq Ts own ix q) (hcl : sm_okC cl tyc NV Ts) (hcq : ∃ r : vw_C, cl[cq]? = some r ∧ r.1 = Cq)
    (hini : ini = true → meth.name = "<init>") (hE : sm_env D cl cA Cq RO SF st base s s.heap) (hb0 : s.heap.size = base + n0) (hd : d ≤ R.frames) (hdl : d * 100 ≤ R.locals) (har : ∀ q t, sm_aty q = some t → Jvm.Cond.arrayClass (newarray.typeOf q) ∈ Ts)
    {len pc pc' : Nat} {lv lv' : sm_V} {sk sk' : List Value} {h h' : sm_H} {ls : Array Slot} (hdg : decode cc pc = .ok ((.lstore_n n), sm_len (.lstore_n n) len)) (hl : lv_has ls nL (sm_lv (sm_ad st base) lv)) (hP : va_P D cl (sm_w (sm_ad st base) cA base h) H) (hS : va_S (fun q => base ≤ q) s.heap H locs) (hc1 : n0 + cells = h.length) (hc2 : z0 + slots = sm_sz h)
    (hm1 : h'.length ≤ n0 + R.cells) (hm2 : sm_sz h' ≤ z0 + R.slots) (hs : sm_step lk RO NV cq ini nL d (.lstore_n n) pc lv sk h = some (pc', lv', sk', h'))
    (k : ∀ (ls' : Array Slot) (H' : Heap) (locs' : List Loc) (cells' slots' : Nat), lv_has ls' nL (sm_lv (sm_ad st base) lv') → va_P D cl (sm_w (sm_ad st base) cA base h') H' → va_S (fun q => base ≤ q) s.heap H' locs' → n0 + cells' = h'.length → z0 + slots' = sm_sz h' → W p l e R s m args below meth c H' locs' cells' slots' Q (F0 m pc' ls' (sk'.map (sm_v (sm_ad st base))))) :
    W p l e R s m args below meth c H locs cells slots Q (F0 m pc ls (sk.map (sm_v (sm_ad st base)))) := by
    have hs1 := sm_l1_eq hs
    clear hs
    obtain ⟨x, r, e0, hs⟩ := hs1
    subst e0
    split at hs
    · rename_i hn
      cases hs
      exact lv_lstore_n hx hb hdg rfl hl hn (sm_s2_map _ _ _ (.long x)) (fun ls' hl' => k _ _ _ _ _ hl' hP hS hc1 hc2)
    · cases hs
set_option maxHeartbeats 1000000 in
theorem sn_lstore {p : Program} {l : Launch} {e : Env} {R : Room} {s : State} {m : MethodId} {args : Array Value} {below : List Frame} {meth : Method} {c : Code} {H : Heap} {locs : List Loc} {cells slots : Nat} {Q : State → Prop} {cc : ByteArray} {nL n0 z0 d base : Nat} {st : Nat → Nat} {cA : Nat → ClassId} {D : va_G} {cl : List vw_C} {Cq own : String} {cq : Nat} {RO : List (Nat × (Nat → Int32))} {SF : List (String × String × String × Nat)} {Ts : List Jvm.Cond} {tyc : Nat → Nat → FieldType} {NV : Nat → List Value} {lk : Nat → Option sm_L} {ini : Bool} {n : Nat}
    (hx : p.tables.exec = Jvm.exec) (hb : c.code = cc) (hml : c.maxLocals = nL) (hown : s.vm.findClass own = some m.cls) (hts : ∀ w ∈ Ts, w.before args s = true) (hok : ∀ ix q, lk ix = some q → sm_okL cl tyc SF Cq Ts own ix q) (hcl : sm_okC cl tyc NV Ts) (hcq : ∃ r : vw_C, cl[cq]? = some r ∧ r.1 = Cq)
    (hini : ini = true → meth.name = "<init>") (hE : sm_env D cl cA Cq RO SF st base s s.heap) (hb0 : s.heap.size = base + n0) (hd : d ≤ R.frames) (hdl : d * 100 ≤ R.locals) (har : ∀ q t, sm_aty q = some t → Jvm.Cond.arrayClass (newarray.typeOf q) ∈ Ts)
    {len pc pc' : Nat} {lv lv' : sm_V} {sk sk' : List Value} {h h' : sm_H} {ls : Array Slot} (hdg : decode cc pc = .ok ((.lstore n), sm_len (.lstore n) len)) (hl : lv_has ls nL (sm_lv (sm_ad st base) lv)) (hP : va_P D cl (sm_w (sm_ad st base) cA base h) H) (hS : va_S (fun q => base ≤ q) s.heap H locs) (hc1 : n0 + cells = h.length) (hc2 : z0 + slots = sm_sz h)
    (hm1 : h'.length ≤ n0 + R.cells) (hm2 : sm_sz h' ≤ z0 + R.slots) (hs : sm_step lk RO NV cq ini nL d (.lstore n) pc lv sk h = some (pc', lv', sk', h'))
    (k : ∀ (ls' : Array Slot) (H' : Heap) (locs' : List Loc) (cells' slots' : Nat), lv_has ls' nL (sm_lv (sm_ad st base) lv') → va_P D cl (sm_w (sm_ad st base) cA base h') H' → va_S (fun q => base ≤ q) s.heap H' locs' → n0 + cells' = h'.length → z0 + slots' = sm_sz h' → W p l e R s m args below meth c H' locs' cells' slots' Q (F0 m pc' ls' (sk'.map (sm_v (sm_ad st base))))) :
    W p l e R s m args below meth c H locs cells slots Q (F0 m pc ls (sk.map (sm_v (sm_ad st base)))) := by
    have hs1 := sm_l1_eq hs
    clear hs
    obtain ⟨x, r, e0, hs⟩ := hs1
    subst e0
    split at hs
    · rename_i hn
      cases hs
      exact lv_lstore hx hb hdg hl hn (sm_s2_map _ _ _ (.long x)) (fun ls' hl' => k _ _ _ _ _ hl' hP hS hc1 hc2)
    · cases hs
set_option maxHeartbeats 1000000 in
theorem sn_astore_n {p : Program} {l : Launch} {e : Env} {R : Room} {s : State} {m : MethodId} {args : Array Value} {below : List Frame} {meth : Method} {c : Code} {H : Heap} {locs : List Loc} {cells slots : Nat} {Q : State → Prop} {cc : ByteArray} {nL n0 z0 d base : Nat} {st : Nat → Nat} {cA : Nat → ClassId} {D : va_G} {cl : List vw_C} {Cq own : String} {cq : Nat} {RO : List (Nat × (Nat → Int32))} {SF : List (String × String × String × Nat)} {Ts : List Jvm.Cond} {tyc : Nat → Nat → FieldType} {NV : Nat → List Value} {lk : Nat → Option sm_L} {ini : Bool} {n : Fin 4}
    (hx : p.tables.exec = Jvm.exec) (hb : c.code = cc) (hml : c.maxLocals = nL) (hown : s.vm.findClass own = some m.cls) (hts : ∀ w ∈ Ts, w.before args s = true) (hok : ∀ ix q, lk ix = some q → sm_okL cl tyc SF Cq Ts own ix q) (hcl : sm_okC cl tyc NV Ts) (hcq : ∃ r : vw_C, cl[cq]? = some r ∧ r.1 = Cq)
    (hini : ini = true → meth.name = "<init>") (hE : sm_env D cl cA Cq RO SF st base s s.heap) (hb0 : s.heap.size = base + n0) (hd : d ≤ R.frames) (hdl : d * 100 ≤ R.locals) (har : ∀ q t, sm_aty q = some t → Jvm.Cond.arrayClass (newarray.typeOf q) ∈ Ts)
    {len pc pc' : Nat} {lv lv' : sm_V} {sk sk' : List Value} {h h' : sm_H} {ls : Array Slot} (hdg : decode cc pc = .ok ((.astore_n n), sm_len (.astore_n n) len)) (hl : lv_has ls nL (sm_lv (sm_ad st base) lv)) (hP : va_P D cl (sm_w (sm_ad st base) cA base h) H) (hS : va_S (fun q => base ≤ q) s.heap H locs) (hc1 : n0 + cells = h.length) (hc2 : z0 + slots = sm_sz h)
    (hm1 : h'.length ≤ n0 + R.cells) (hm2 : sm_sz h' ≤ z0 + R.slots) (hs : sm_step lk RO NV cq ini nL d (.astore_n n) pc lv sk h = some (pc', lv', sk', h'))
    (k : ∀ (ls' : Array Slot) (H' : Heap) (locs' : List Loc) (cells' slots' : Nat), lv_has ls' nL (sm_lv (sm_ad st base) lv') → va_P D cl (sm_w (sm_ad st base) cA base h') H' → va_S (fun q => base ≤ q) s.heap H' locs' → n0 + cells' = h'.length → z0 + slots' = sm_sz h' → W p l e R s m args below meth c H' locs' cells' slots' Q (F0 m pc' ls' (sk'.map (sm_v (sm_ad st base))))) :
    W p l e R s m args below meth c H locs cells slots Q (F0 m pc ls (sk.map (sm_v (sm_ad st base)))) := by
    have hs1 := sm_r1_eq hs
    clear hs
    obtain ⟨x, r, e0, hs⟩ := hs1
    subst e0
    split at hs
    · rename_i hn
      cases hs
      exact lv_astore_n hx hb hdg rfl hl hn (sm_s1_map _ _ _ (.ref x)) (fun ls' hl' => k _ _ _ _ _ hl' hP hS hc1 hc2)
    · cases hs
set_option maxHeartbeats 1000000 in
theorem sn_astore {p : Program} {l : Launch} {e : Env} {R : Room} {s : State} {m : MethodId} {args : Array Value} {below : List Frame} {meth : Method} {c : Code} {H : Heap} {locs : List Loc} {cells slots : Nat} {Q : State → Prop} {cc : ByteArray} {nL n0 z0 d base : Nat} {st : Nat → Nat} {cA : Nat → ClassId} {D : va_G} {cl : List vw_C} {Cq own : String} {cq : Nat} {RO : List (Nat × (Nat → Int32))} {SF : List (String × String × String × Nat)} {Ts : List Jvm.Cond} {tyc : Nat → Nat → FieldType} {NV : Nat → List Value} {lk : Nat → Option sm_L} {ini : Bool} {n : Nat}
    (hx : p.tables.exec = Jvm.exec) (hb : c.code = cc) (hml : c.maxLocals = nL) (hown : s.vm.findClass own = some m.cls) (hts : ∀ w ∈ Ts, w.before args s = true) (hok : ∀ ix q, lk ix = some q → sm_okL cl tyc SF Cq Ts own ix q) (hcl : sm_okC cl tyc NV Ts) (hcq : ∃ r : vw_C, cl[cq]? = some r ∧ r.1 = Cq)
    (hini : ini = true → meth.name = "<init>") (hE : sm_env D cl cA Cq RO SF st base s s.heap) (hb0 : s.heap.size = base + n0) (hd : d ≤ R.frames) (hdl : d * 100 ≤ R.locals) (har : ∀ q t, sm_aty q = some t → Jvm.Cond.arrayClass (newarray.typeOf q) ∈ Ts)
    {len pc pc' : Nat} {lv lv' : sm_V} {sk sk' : List Value} {h h' : sm_H} {ls : Array Slot} (hdg : decode cc pc = .ok ((.astore n), sm_len (.astore n) len)) (hl : lv_has ls nL (sm_lv (sm_ad st base) lv)) (hP : va_P D cl (sm_w (sm_ad st base) cA base h) H) (hS : va_S (fun q => base ≤ q) s.heap H locs) (hc1 : n0 + cells = h.length) (hc2 : z0 + slots = sm_sz h)
    (hm1 : h'.length ≤ n0 + R.cells) (hm2 : sm_sz h' ≤ z0 + R.slots) (hs : sm_step lk RO NV cq ini nL d (.astore n) pc lv sk h = some (pc', lv', sk', h'))
    (k : ∀ (ls' : Array Slot) (H' : Heap) (locs' : List Loc) (cells' slots' : Nat), lv_has ls' nL (sm_lv (sm_ad st base) lv') → va_P D cl (sm_w (sm_ad st base) cA base h') H' → va_S (fun q => base ≤ q) s.heap H' locs' → n0 + cells' = h'.length → z0 + slots' = sm_sz h' → W p l e R s m args below meth c H' locs' cells' slots' Q (F0 m pc' ls' (sk'.map (sm_v (sm_ad st base))))) :
    W p l e R s m args below meth c H locs cells slots Q (F0 m pc ls (sk.map (sm_v (sm_ad st base)))) := by
    have hs1 := sm_r1_eq hs
    clear hs
    obtain ⟨x, r, e0, hs⟩ := hs1
    subst e0
    split at hs
    · rename_i hn
      cases hs
      exact lv_astore hx hb hdg hl hn (sm_s1_map _ _ _ (.ref x)) (fun ls' hl' => k _ _ _ _ _ hl' hP hS hc1 hc2)
    · cases hs
set_option maxHeartbeats 1000000 in
theorem sn_iinc {p : Program} {l : Launch} {e : Env} {R : Room} {s : State} {m : MethodId} {args : Array Value} {below : List Frame} {meth : Method} {c : Code} {H : Heap} {locs : List Loc} {cells slots : Nat} {Q : State → Prop} {cc : ByteArray} {nL n0 z0 d base : Nat} {st : Nat → Nat} {cA : Nat → ClassId} {D : va_G} {cl : List vw_C} {Cq own : String} {cq : Nat} {RO : List (Nat × (Nat → Int32))} {SF : List (String × String × String × Nat)} {Ts : List Jvm.Cond} {tyc : Nat → Nat → FieldType} {NV : Nat → List Value} {lk : Nat → Option sm_L} {ini : Bool} {i : Nat} {n : Int}
    (hx : p.tables.exec = Jvm.exec) (hb : c.code = cc) (hml : c.maxLocals = nL) (hown : s.vm.findClass own = some m.cls) (hts : ∀ w ∈ Ts, w.before args s = true) (hok : ∀ ix q, lk ix = some q → sm_okL cl tyc SF Cq Ts own ix q) (hcl : sm_okC cl tyc NV Ts) (hcq : ∃ r : vw_C, cl[cq]? = some r ∧ r.1 = Cq)
    (hini : ini = true → meth.name = "<init>") (hE : sm_env D cl cA Cq RO SF st base s s.heap) (hb0 : s.heap.size = base + n0) (hd : d ≤ R.frames) (hdl : d * 100 ≤ R.locals) (har : ∀ q t, sm_aty q = some t → Jvm.Cond.arrayClass (newarray.typeOf q) ∈ Ts)
    {len pc pc' : Nat} {lv lv' : sm_V} {sk sk' : List Value} {h h' : sm_H} {ls : Array Slot} (hdg : decode cc pc = .ok ((.iinc i n), sm_len (.iinc i n) len)) (hl : lv_has ls nL (sm_lv (sm_ad st base) lv)) (hP : va_P D cl (sm_w (sm_ad st base) cA base h) H) (hS : va_S (fun q => base ≤ q) s.heap H locs) (hc1 : n0 + cells = h.length) (hc2 : z0 + slots = sm_sz h)
    (hm1 : h'.length ≤ n0 + R.cells) (hm2 : sm_sz h' ≤ z0 + R.slots) (hs : sm_step lk RO NV cq ini nL d (.iinc i n) pc lv sk h = some (pc', lv', sk', h'))
    (k : ∀ (ls' : Array Slot) (H' : Heap) (locs' : List Loc) (cells' slots' : Nat), lv_has ls' nL (sm_lv (sm_ad st base) lv') → va_P D cl (sm_w (sm_ad st base) cA base h') H' → va_S (fun q => base ≤ q) s.heap H' locs' → n0 + cells' = h'.length → z0 + slots' = sm_sz h' → W p l e R s m args below meth c H' locs' cells' slots' Q (F0 m pc' ls' (sk'.map (sm_v (sm_ad st base))))) :
    W p l e R s m args below meth c H locs cells slots Q (F0 m pc ls (sk.map (sm_v (sm_ad st base)))) := by
    dsimp only [sm_step] at hs
    split at hs
    · rename_i x hx9
      split at hs
      · rename_i hn
        cases hs
        obtain ⟨j, hj⟩ := List.mem_iff_getElem?.mp (List.mem_map.mpr ⟨(i, .int x), sm_ld_mem hx9, rfl⟩ : (i, .int x) ∈ sm_lv (sm_ad st base) lv)
        exact lv_iinc hx hb hdg hl hj rfl hn (sm_s1_map _ _ _ (.int (x + Int32.ofInt n))) (fun ls' hl' => k _ _ _ _ _ hl' hP hS hc1 hc2)
      · cases hs
    · cases hs
set_option maxHeartbeats 1000000 in
theorem sn_iadd {p : Program} {l : Launch} {e : Env} {R : Room} {s : State} {m : MethodId} {args : Array Value} {below : List Frame} {meth : Method} {c : Code} {H : Heap} {locs : List Loc} {cells slots : Nat} {Q : State → Prop} {cc : ByteArray} {nL n0 z0 d base : Nat} {st : Nat → Nat} {cA : Nat → ClassId} {D : va_G} {cl : List vw_C} {Cq own : String} {cq : Nat} {RO : List (Nat × (Nat → Int32))} {SF : List (String × String × String × Nat)} {Ts : List Jvm.Cond} {tyc : Nat → Nat → FieldType} {NV : Nat → List Value} {lk : Nat → Option sm_L} {ini : Bool} 
    (hx : p.tables.exec = Jvm.exec) (hb : c.code = cc) (hml : c.maxLocals = nL) (hown : s.vm.findClass own = some m.cls) (hts : ∀ w ∈ Ts, w.before args s = true) (hok : ∀ ix q, lk ix = some q → sm_okL cl tyc SF Cq Ts own ix q) (hcl : sm_okC cl tyc NV Ts) (hcq : ∃ r : vw_C, cl[cq]? = some r ∧ r.1 = Cq)
    (hini : ini = true → meth.name = "<init>") (hE : sm_env D cl cA Cq RO SF st base s s.heap) (hb0 : s.heap.size = base + n0) (hd : d ≤ R.frames) (hdl : d * 100 ≤ R.locals) (har : ∀ q t, sm_aty q = some t → Jvm.Cond.arrayClass (newarray.typeOf q) ∈ Ts)
    {len pc pc' : Nat} {lv lv' : sm_V} {sk sk' : List Value} {h h' : sm_H} {ls : Array Slot} (hdg : decode cc pc = .ok (.iadd, sm_len .iadd len)) (hl : lv_has ls nL (sm_lv (sm_ad st base) lv)) (hP : va_P D cl (sm_w (sm_ad st base) cA base h) H) (hS : va_S (fun q => base ≤ q) s.heap H locs) (hc1 : n0 + cells = h.length) (hc2 : z0 + slots = sm_sz h)
    (hm1 : h'.length ≤ n0 + R.cells) (hm2 : sm_sz h' ≤ z0 + R.slots) (hs : sm_step lk RO NV cq ini nL d .iadd pc lv sk h = some (pc', lv', sk', h'))
    (k : ∀ (ls' : Array Slot) (H' : Heap) (locs' : List Loc) (cells' slots' : Nat), lv_has ls' nL (sm_lv (sm_ad st base) lv') → va_P D cl (sm_w (sm_ad st base) cA base h') H' → va_S (fun q => base ≤ q) s.heap H' locs' → n0 + cells' = h'.length → z0 + slots' = sm_sz h' → W p l e R s m args below meth c H' locs' cells' slots' Q (F0 m pc' ls' (sk'.map (sm_v (sm_ad st base))))) :
    W p l e R s m args below meth c H locs cells slots Q (F0 m pc ls (sk.map (sm_v (sm_ad st base)))) := by
    have hs1 := sm_i2_eq hs
    clear hs
    obtain ⟨x, y, r, e0, hs⟩ := hs1
    subst e0
    cases hs
    exact lv_iadd hx hb hdg (k _ _ _ _ _ hl hP hS hc1 hc2)
set_option maxHeartbeats 1000000 in
theorem sn_isub {p : Program} {l : Launch} {e : Env} {R : Room} {s : State} {m : MethodId} {args : Array Value} {below : List Frame} {meth : Method} {c : Code} {H : Heap} {locs : List Loc} {cells slots : Nat} {Q : State → Prop} {cc : ByteArray} {nL n0 z0 d base : Nat} {st : Nat → Nat} {cA : Nat → ClassId} {D : va_G} {cl : List vw_C} {Cq own : String} {cq : Nat} {RO : List (Nat × (Nat → Int32))} {SF : List (String × String × String × Nat)} {Ts : List Jvm.Cond} {tyc : Nat → Nat → FieldType} {NV : Nat → List Value} {lk : Nat → Option sm_L} {ini : Bool} 
    (hx : p.tables.exec = Jvm.exec) (hb : c.code = cc) (hml : c.maxLocals = nL) (hown : s.vm.findClass own = some m.cls) (hts : ∀ w ∈ Ts, w.before args s = true) (hok : ∀ ix q, lk ix = some q → sm_okL cl tyc SF Cq Ts own ix q) (hcl : sm_okC cl tyc NV Ts) (hcq : ∃ r : vw_C, cl[cq]? = some r ∧ r.1 = Cq)
    (hini : ini = true → meth.name = "<init>") (hE : sm_env D cl cA Cq RO SF st base s s.heap) (hb0 : s.heap.size = base + n0) (hd : d ≤ R.frames) (hdl : d * 100 ≤ R.locals) (har : ∀ q t, sm_aty q = some t → Jvm.Cond.arrayClass (newarray.typeOf q) ∈ Ts)
    {len pc pc' : Nat} {lv lv' : sm_V} {sk sk' : List Value} {h h' : sm_H} {ls : Array Slot} (hdg : decode cc pc = .ok (.isub, sm_len .isub len)) (hl : lv_has ls nL (sm_lv (sm_ad st base) lv)) (hP : va_P D cl (sm_w (sm_ad st base) cA base h) H) (hS : va_S (fun q => base ≤ q) s.heap H locs) (hc1 : n0 + cells = h.length) (hc2 : z0 + slots = sm_sz h)
    (hm1 : h'.length ≤ n0 + R.cells) (hm2 : sm_sz h' ≤ z0 + R.slots) (hs : sm_step lk RO NV cq ini nL d .isub pc lv sk h = some (pc', lv', sk', h'))
    (k : ∀ (ls' : Array Slot) (H' : Heap) (locs' : List Loc) (cells' slots' : Nat), lv_has ls' nL (sm_lv (sm_ad st base) lv') → va_P D cl (sm_w (sm_ad st base) cA base h') H' → va_S (fun q => base ≤ q) s.heap H' locs' → n0 + cells' = h'.length → z0 + slots' = sm_sz h' → W p l e R s m args below meth c H' locs' cells' slots' Q (F0 m pc' ls' (sk'.map (sm_v (sm_ad st base))))) :
    W p l e R s m args below meth c H locs cells slots Q (F0 m pc ls (sk.map (sm_v (sm_ad st base)))) := by
    have hs1 := sm_i2_eq hs
    clear hs
    obtain ⟨x, y, r, e0, hs⟩ := hs1
    subst e0
    cases hs
    exact lv_isub hx hb hdg (k _ _ _ _ _ hl hP hS hc1 hc2)
set_option maxHeartbeats 1000000 in
theorem sn_imul {p : Program} {l : Launch} {e : Env} {R : Room} {s : State} {m : MethodId} {args : Array Value} {below : List Frame} {meth : Method} {c : Code} {H : Heap} {locs : List Loc} {cells slots : Nat} {Q : State → Prop} {cc : ByteArray} {nL n0 z0 d base : Nat} {st : Nat → Nat} {cA : Nat → ClassId} {D : va_G} {cl : List vw_C} {Cq own : String} {cq : Nat} {RO : List (Nat × (Nat → Int32))} {SF : List (String × String × String × Nat)} {Ts : List Jvm.Cond} {tyc : Nat → Nat → FieldType} {NV : Nat → List Value} {lk : Nat → Option sm_L} {ini : Bool} 
    (hx : p.tables.exec = Jvm.exec) (hb : c.code = cc) (hml : c.maxLocals = nL) (hown : s.vm.findClass own = some m.cls) (hts : ∀ w ∈ Ts, w.before args s = true) (hok : ∀ ix q, lk ix = some q → sm_okL cl tyc SF Cq Ts own ix q) (hcl : sm_okC cl tyc NV Ts) (hcq : ∃ r : vw_C, cl[cq]? = some r ∧ r.1 = Cq)
    (hini : ini = true → meth.name = "<init>") (hE : sm_env D cl cA Cq RO SF st base s s.heap) (hb0 : s.heap.size = base + n0) (hd : d ≤ R.frames) (hdl : d * 100 ≤ R.locals) (har : ∀ q t, sm_aty q = some t → Jvm.Cond.arrayClass (newarray.typeOf q) ∈ Ts)
    {len pc pc' : Nat} {lv lv' : sm_V} {sk sk' : List Value} {h h' : sm_H} {ls : Array Slot} (hdg : decode cc pc = .ok (.imul, sm_len .imul len)) (hl : lv_has ls nL (sm_lv (sm_ad st base) lv)) (hP : va_P D cl (sm_w (sm_ad st base) cA base h) H) (hS : va_S (fun q => base ≤ q) s.heap H locs) (hc1 : n0 + cells = h.length) (hc2 : z0 + slots = sm_sz h)
    (hm1 : h'.length ≤ n0 + R.cells) (hm2 : sm_sz h' ≤ z0 + R.slots) (hs : sm_step lk RO NV cq ini nL d .imul pc lv sk h = some (pc', lv', sk', h'))
    (k : ∀ (ls' : Array Slot) (H' : Heap) (locs' : List Loc) (cells' slots' : Nat), lv_has ls' nL (sm_lv (sm_ad st base) lv') → va_P D cl (sm_w (sm_ad st base) cA base h') H' → va_S (fun q => base ≤ q) s.heap H' locs' → n0 + cells' = h'.length → z0 + slots' = sm_sz h' → W p l e R s m args below meth c H' locs' cells' slots' Q (F0 m pc' ls' (sk'.map (sm_v (sm_ad st base))))) :
    W p l e R s m args below meth c H locs cells slots Q (F0 m pc ls (sk.map (sm_v (sm_ad st base)))) := by
    have hs1 := sm_i2_eq hs
    clear hs
    obtain ⟨x, y, r, e0, hs⟩ := hs1
    subst e0
    cases hs
    exact lv_imul hx hb hdg (k _ _ _ _ _ hl hP hS hc1 hc2)
set_option maxHeartbeats 1000000 in
theorem sn_iand {p : Program} {l : Launch} {e : Env} {R : Room} {s : State} {m : MethodId} {args : Array Value} {below : List Frame} {meth : Method} {c : Code} {H : Heap} {locs : List Loc} {cells slots : Nat} {Q : State → Prop} {cc : ByteArray} {nL n0 z0 d base : Nat} {st : Nat → Nat} {cA : Nat → ClassId} {D : va_G} {cl : List vw_C} {Cq own : String} {cq : Nat} {RO : List (Nat × (Nat → Int32))} {SF : List (String × String × String × Nat)} {Ts : List Jvm.Cond} {tyc : Nat → Nat → FieldType} {NV : Nat → List Value} {lk : Nat → Option sm_L} {ini : Bool} 
    (hx : p.tables.exec = Jvm.exec) (hb : c.code = cc) (hml : c.maxLocals = nL) (hown : s.vm.findClass own = some m.cls) (hts : ∀ w ∈ Ts, w.before args s = true) (hok : ∀ ix q, lk ix = some q → sm_okL cl tyc SF Cq Ts own ix q) (hcl : sm_okC cl tyc NV Ts) (hcq : ∃ r : vw_C, cl[cq]? = some r ∧ r.1 = Cq)
    (hini : ini = true → meth.name = "<init>") (hE : sm_env D cl cA Cq RO SF st base s s.heap) (hb0 : s.heap.size = base + n0) (hd : d ≤ R.frames) (hdl : d * 100 ≤ R.locals) (har : ∀ q t, sm_aty q = some t → Jvm.Cond.arrayClass (newarray.typeOf q) ∈ Ts)
    {len pc pc' : Nat} {lv lv' : sm_V} {sk sk' : List Value} {h h' : sm_H} {ls : Array Slot} (hdg : decode cc pc = .ok (.iand, sm_len .iand len)) (hl : lv_has ls nL (sm_lv (sm_ad st base) lv)) (hP : va_P D cl (sm_w (sm_ad st base) cA base h) H) (hS : va_S (fun q => base ≤ q) s.heap H locs) (hc1 : n0 + cells = h.length) (hc2 : z0 + slots = sm_sz h)
    (hm1 : h'.length ≤ n0 + R.cells) (hm2 : sm_sz h' ≤ z0 + R.slots) (hs : sm_step lk RO NV cq ini nL d .iand pc lv sk h = some (pc', lv', sk', h'))
    (k : ∀ (ls' : Array Slot) (H' : Heap) (locs' : List Loc) (cells' slots' : Nat), lv_has ls' nL (sm_lv (sm_ad st base) lv') → va_P D cl (sm_w (sm_ad st base) cA base h') H' → va_S (fun q => base ≤ q) s.heap H' locs' → n0 + cells' = h'.length → z0 + slots' = sm_sz h' → W p l e R s m args below meth c H' locs' cells' slots' Q (F0 m pc' ls' (sk'.map (sm_v (sm_ad st base))))) :
    W p l e R s m args below meth c H locs cells slots Q (F0 m pc ls (sk.map (sm_v (sm_ad st base)))) := by
    have hs1 := sm_i2_eq hs
    clear hs
    obtain ⟨x, y, r, e0, hs⟩ := hs1
    subst e0
    cases hs
    exact lv_iand hx hb hdg (k _ _ _ _ _ hl hP hS hc1 hc2)
set_option maxHeartbeats 1000000 in
theorem sn_ior {p : Program} {l : Launch} {e : Env} {R : Room} {s : State} {m : MethodId} {args : Array Value} {below : List Frame} {meth : Method} {c : Code} {H : Heap} {locs : List Loc} {cells slots : Nat} {Q : State → Prop} {cc : ByteArray} {nL n0 z0 d base : Nat} {st : Nat → Nat} {cA : Nat → ClassId} {D : va_G} {cl : List vw_C} {Cq own : String} {cq : Nat} {RO : List (Nat × (Nat → Int32))} {SF : List (String × String × String × Nat)} {Ts : List Jvm.Cond} {tyc : Nat → Nat → FieldType} {NV : Nat → List Value} {lk : Nat → Option sm_L} {ini : Bool} 
    (hx : p.tables.exec = Jvm.exec) (hb : c.code = cc) (hml : c.maxLocals = nL) (hown : s.vm.findClass own = some m.cls) (hts : ∀ w ∈ Ts, w.before args s = true) (hok : ∀ ix q, lk ix = some q → sm_okL cl tyc SF Cq Ts own ix q) (hcl : sm_okC cl tyc NV Ts) (hcq : ∃ r : vw_C, cl[cq]? = some r ∧ r.1 = Cq)
    (hini : ini = true → meth.name = "<init>") (hE : sm_env D cl cA Cq RO SF st base s s.heap) (hb0 : s.heap.size = base + n0) (hd : d ≤ R.frames) (hdl : d * 100 ≤ R.locals) (har : ∀ q t, sm_aty q = some t → Jvm.Cond.arrayClass (newarray.typeOf q) ∈ Ts)
    {len pc pc' : Nat} {lv lv' : sm_V} {sk sk' : List Value} {h h' : sm_H} {ls : Array Slot} (hdg : decode cc pc = .ok (.ior, sm_len .ior len)) (hl : lv_has ls nL (sm_lv (sm_ad st base) lv)) (hP : va_P D cl (sm_w (sm_ad st base) cA base h) H) (hS : va_S (fun q => base ≤ q) s.heap H locs) (hc1 : n0 + cells = h.length) (hc2 : z0 + slots = sm_sz h)
    (hm1 : h'.length ≤ n0 + R.cells) (hm2 : sm_sz h' ≤ z0 + R.slots) (hs : sm_step lk RO NV cq ini nL d .ior pc lv sk h = some (pc', lv', sk', h'))
    (k : ∀ (ls' : Array Slot) (H' : Heap) (locs' : List Loc) (cells' slots' : Nat), lv_has ls' nL (sm_lv (sm_ad st base) lv') → va_P D cl (sm_w (sm_ad st base) cA base h') H' → va_S (fun q => base ≤ q) s.heap H' locs' → n0 + cells' = h'.length → z0 + slots' = sm_sz h' → W p l e R s m args below meth c H' locs' cells' slots' Q (F0 m pc' ls' (sk'.map (sm_v (sm_ad st base))))) :
    W p l e R s m args below meth c H locs cells slots Q (F0 m pc ls (sk.map (sm_v (sm_ad st base)))) := by
    have hs1 := sm_i2_eq hs
    clear hs
    obtain ⟨x, y, r, e0, hs⟩ := hs1
    subst e0
    cases hs
    exact lv_ior hx hb hdg (k _ _ _ _ _ hl hP hS hc1 hc2)
set_option maxHeartbeats 1000000 in
theorem sn_ixor {p : Program} {l : Launch} {e : Env} {R : Room} {s : State} {m : MethodId} {args : Array Value} {below : List Frame} {meth : Method} {c : Code} {H : Heap} {locs : List Loc} {cells slots : Nat} {Q : State → Prop} {cc : ByteArray} {nL n0 z0 d base : Nat} {st : Nat → Nat} {cA : Nat → ClassId} {D : va_G} {cl : List vw_C} {Cq own : String} {cq : Nat} {RO : List (Nat × (Nat → Int32))} {SF : List (String × String × String × Nat)} {Ts : List Jvm.Cond} {tyc : Nat → Nat → FieldType} {NV : Nat → List Value} {lk : Nat → Option sm_L} {ini : Bool} 
    (hx : p.tables.exec = Jvm.exec) (hb : c.code = cc) (hml : c.maxLocals = nL) (hown : s.vm.findClass own = some m.cls) (hts : ∀ w ∈ Ts, w.before args s = true) (hok : ∀ ix q, lk ix = some q → sm_okL cl tyc SF Cq Ts own ix q) (hcl : sm_okC cl tyc NV Ts) (hcq : ∃ r : vw_C, cl[cq]? = some r ∧ r.1 = Cq)
    (hini : ini = true → meth.name = "<init>") (hE : sm_env D cl cA Cq RO SF st base s s.heap) (hb0 : s.heap.size = base + n0) (hd : d ≤ R.frames) (hdl : d * 100 ≤ R.locals) (har : ∀ q t, sm_aty q = some t → Jvm.Cond.arrayClass (newarray.typeOf q) ∈ Ts)
    {len pc pc' : Nat} {lv lv' : sm_V} {sk sk' : List Value} {h h' : sm_H} {ls : Array Slot} (hdg : decode cc pc = .ok (.ixor, sm_len .ixor len)) (hl : lv_has ls nL (sm_lv (sm_ad st base) lv)) (hP : va_P D cl (sm_w (sm_ad st base) cA base h) H) (hS : va_S (fun q => base ≤ q) s.heap H locs) (hc1 : n0 + cells = h.length) (hc2 : z0 + slots = sm_sz h)
    (hm1 : h'.length ≤ n0 + R.cells) (hm2 : sm_sz h' ≤ z0 + R.slots) (hs : sm_step lk RO NV cq ini nL d .ixor pc lv sk h = some (pc', lv', sk', h'))
    (k : ∀ (ls' : Array Slot) (H' : Heap) (locs' : List Loc) (cells' slots' : Nat), lv_has ls' nL (sm_lv (sm_ad st base) lv') → va_P D cl (sm_w (sm_ad st base) cA base h') H' → va_S (fun q => base ≤ q) s.heap H' locs' → n0 + cells' = h'.length → z0 + slots' = sm_sz h' → W p l e R s m args below meth c H' locs' cells' slots' Q (F0 m pc' ls' (sk'.map (sm_v (sm_ad st base))))) :
    W p l e R s m args below meth c H locs cells slots Q (F0 m pc ls (sk.map (sm_v (sm_ad st base)))) := by
    have hs1 := sm_i2_eq hs
    clear hs
    obtain ⟨x, y, r, e0, hs⟩ := hs1
    subst e0
    cases hs
    exact lv_ixor hx hb hdg (k _ _ _ _ _ hl hP hS hc1 hc2)
set_option maxHeartbeats 1000000 in
theorem sn_ishl {p : Program} {l : Launch} {e : Env} {R : Room} {s : State} {m : MethodId} {args : Array Value} {below : List Frame} {meth : Method} {c : Code} {H : Heap} {locs : List Loc} {cells slots : Nat} {Q : State → Prop} {cc : ByteArray} {nL n0 z0 d base : Nat} {st : Nat → Nat} {cA : Nat → ClassId} {D : va_G} {cl : List vw_C} {Cq own : String} {cq : Nat} {RO : List (Nat × (Nat → Int32))} {SF : List (String × String × String × Nat)} {Ts : List Jvm.Cond} {tyc : Nat → Nat → FieldType} {NV : Nat → List Value} {lk : Nat → Option sm_L} {ini : Bool} 
    (hx : p.tables.exec = Jvm.exec) (hb : c.code = cc) (hml : c.maxLocals = nL) (hown : s.vm.findClass own = some m.cls) (hts : ∀ w ∈ Ts, w.before args s = true) (hok : ∀ ix q, lk ix = some q → sm_okL cl tyc SF Cq Ts own ix q) (hcl : sm_okC cl tyc NV Ts) (hcq : ∃ r : vw_C, cl[cq]? = some r ∧ r.1 = Cq)
    (hini : ini = true → meth.name = "<init>") (hE : sm_env D cl cA Cq RO SF st base s s.heap) (hb0 : s.heap.size = base + n0) (hd : d ≤ R.frames) (hdl : d * 100 ≤ R.locals) (har : ∀ q t, sm_aty q = some t → Jvm.Cond.arrayClass (newarray.typeOf q) ∈ Ts)
    {len pc pc' : Nat} {lv lv' : sm_V} {sk sk' : List Value} {h h' : sm_H} {ls : Array Slot} (hdg : decode cc pc = .ok (.ishl, sm_len .ishl len)) (hl : lv_has ls nL (sm_lv (sm_ad st base) lv)) (hP : va_P D cl (sm_w (sm_ad st base) cA base h) H) (hS : va_S (fun q => base ≤ q) s.heap H locs) (hc1 : n0 + cells = h.length) (hc2 : z0 + slots = sm_sz h)
    (hm1 : h'.length ≤ n0 + R.cells) (hm2 : sm_sz h' ≤ z0 + R.slots) (hs : sm_step lk RO NV cq ini nL d .ishl pc lv sk h = some (pc', lv', sk', h'))
    (k : ∀ (ls' : Array Slot) (H' : Heap) (locs' : List Loc) (cells' slots' : Nat), lv_has ls' nL (sm_lv (sm_ad st base) lv') → va_P D cl (sm_w (sm_ad st base) cA base h') H' → va_S (fun q => base ≤ q) s.heap H' locs' → n0 + cells' = h'.length → z0 + slots' = sm_sz h' → W p l e R s m args below meth c H' locs' cells' slots' Q (F0 m pc' ls' (sk'.map (sm_v (sm_ad st base))))) :
    W p l e R s m args below meth c H locs cells slots Q (F0 m pc ls (sk.map (sm_v (sm_ad st base)))) := by
    have hs1 := sm_i2_eq hs
    clear hs
    obtain ⟨x, y, r, e0, hs⟩ := hs1
    subst e0
    cases hs
    exact lv_ishl hx hb hdg (k _ _ _ _ _ hl hP hS hc1 hc2)
set_option maxHeartbeats 1000000 in
theorem sn_ishr {p : Program} {l : Launch} {e : Env} {R : Room} {s : State} {m : MethodId} {args : Array Value} {below : List Frame} {meth : Method} {c : Code} {H : Heap} {locs : List Loc} {cells slots : Nat} {Q : State → Prop} {cc : ByteArray} {nL n0 z0 d base : Nat} {st : Nat → Nat} {cA : Nat → ClassId} {D : va_G} {cl : List vw_C} {Cq own : String} {cq : Nat} {RO : List (Nat × (Nat → Int32))} {SF : List (String × String × String × Nat)} {Ts : List Jvm.Cond} {tyc : Nat → Nat → FieldType} {NV : Nat → List Value} {lk : Nat → Option sm_L} {ini : Bool} 
    (hx : p.tables.exec = Jvm.exec) (hb : c.code = cc) (hml : c.maxLocals = nL) (hown : s.vm.findClass own = some m.cls) (hts : ∀ w ∈ Ts, w.before args s = true) (hok : ∀ ix q, lk ix = some q → sm_okL cl tyc SF Cq Ts own ix q) (hcl : sm_okC cl tyc NV Ts) (hcq : ∃ r : vw_C, cl[cq]? = some r ∧ r.1 = Cq)
    (hini : ini = true → meth.name = "<init>") (hE : sm_env D cl cA Cq RO SF st base s s.heap) (hb0 : s.heap.size = base + n0) (hd : d ≤ R.frames) (hdl : d * 100 ≤ R.locals) (har : ∀ q t, sm_aty q = some t → Jvm.Cond.arrayClass (newarray.typeOf q) ∈ Ts)
    {len pc pc' : Nat} {lv lv' : sm_V} {sk sk' : List Value} {h h' : sm_H} {ls : Array Slot} (hdg : decode cc pc = .ok (.ishr, sm_len .ishr len)) (hl : lv_has ls nL (sm_lv (sm_ad st base) lv)) (hP : va_P D cl (sm_w (sm_ad st base) cA base h) H) (hS : va_S (fun q => base ≤ q) s.heap H locs) (hc1 : n0 + cells = h.length) (hc2 : z0 + slots = sm_sz h)
    (hm1 : h'.length ≤ n0 + R.cells) (hm2 : sm_sz h' ≤ z0 + R.slots) (hs : sm_step lk RO NV cq ini nL d .ishr pc lv sk h = some (pc', lv', sk', h'))
    (k : ∀ (ls' : Array Slot) (H' : Heap) (locs' : List Loc) (cells' slots' : Nat), lv_has ls' nL (sm_lv (sm_ad st base) lv') → va_P D cl (sm_w (sm_ad st base) cA base h') H' → va_S (fun q => base ≤ q) s.heap H' locs' → n0 + cells' = h'.length → z0 + slots' = sm_sz h' → W p l e R s m args below meth c H' locs' cells' slots' Q (F0 m pc' ls' (sk'.map (sm_v (sm_ad st base))))) :
    W p l e R s m args below meth c H locs cells slots Q (F0 m pc ls (sk.map (sm_v (sm_ad st base)))) := by
    have hs1 := sm_i2_eq hs
    clear hs
    obtain ⟨x, y, r, e0, hs⟩ := hs1
    subst e0
    cases hs
    exact lv_ishr hx hb hdg (k _ _ _ _ _ hl hP hS hc1 hc2)
set_option maxHeartbeats 1000000 in
theorem sn_iushr {p : Program} {l : Launch} {e : Env} {R : Room} {s : State} {m : MethodId} {args : Array Value} {below : List Frame} {meth : Method} {c : Code} {H : Heap} {locs : List Loc} {cells slots : Nat} {Q : State → Prop} {cc : ByteArray} {nL n0 z0 d base : Nat} {st : Nat → Nat} {cA : Nat → ClassId} {D : va_G} {cl : List vw_C} {Cq own : String} {cq : Nat} {RO : List (Nat × (Nat → Int32))} {SF : List (String × String × String × Nat)} {Ts : List Jvm.Cond} {tyc : Nat → Nat → FieldType} {NV : Nat → List Value} {lk : Nat → Option sm_L} {ini : Bool} 
    (hx : p.tables.exec = Jvm.exec) (hb : c.code = cc) (hml : c.maxLocals = nL) (hown : s.vm.findClass own = some m.cls) (hts : ∀ w ∈ Ts, w.before args s = true) (hok : ∀ ix q, lk ix = some q → sm_okL cl tyc SF Cq Ts own ix q) (hcl : sm_okC cl tyc NV Ts) (hcq : ∃ r : vw_C, cl[cq]? = some r ∧ r.1 = Cq)
    (hini : ini = true → meth.name = "<init>") (hE : sm_env D cl cA Cq RO SF st base s s.heap) (hb0 : s.heap.size = base + n0) (hd : d ≤ R.frames) (hdl : d * 100 ≤ R.locals) (har : ∀ q t, sm_aty q = some t → Jvm.Cond.arrayClass (newarray.typeOf q) ∈ Ts)
    {len pc pc' : Nat} {lv lv' : sm_V} {sk sk' : List Value} {h h' : sm_H} {ls : Array Slot} (hdg : decode cc pc = .ok (.iushr, sm_len .iushr len)) (hl : lv_has ls nL (sm_lv (sm_ad st base) lv)) (hP : va_P D cl (sm_w (sm_ad st base) cA base h) H) (hS : va_S (fun q => base ≤ q) s.heap H locs) (hc1 : n0 + cells = h.length) (hc2 : z0 + slots = sm_sz h)
    (hm1 : h'.length ≤ n0 + R.cells) (hm2 : sm_sz h' ≤ z0 + R.slots) (hs : sm_step lk RO NV cq ini nL d .iushr pc lv sk h = some (pc', lv', sk', h'))
    (k : ∀ (ls' : Array Slot) (H' : Heap) (locs' : List Loc) (cells' slots' : Nat), lv_has ls' nL (sm_lv (sm_ad st base) lv') → va_P D cl (sm_w (sm_ad st base) cA base h') H' → va_S (fun q => base ≤ q) s.heap H' locs' → n0 + cells' = h'.length → z0 + slots' = sm_sz h' → W p l e R s m args below meth c H' locs' cells' slots' Q (F0 m pc' ls' (sk'.map (sm_v (sm_ad st base))))) :
    W p l e R s m args below meth c H locs cells slots Q (F0 m pc ls (sk.map (sm_v (sm_ad st base)))) := by
    have hs1 := sm_i2_eq hs
    clear hs
    obtain ⟨x, y, r, e0, hs⟩ := hs1
    subst e0
    cases hs
    exact lv_iushr hx hb hdg rfl (k _ _ _ _ _ hl hP hS hc1 hc2)
set_option maxHeartbeats 1000000 in
theorem sn_idiv {p : Program} {l : Launch} {e : Env} {R : Room} {s : State} {m : MethodId} {args : Array Value} {below : List Frame} {meth : Method} {c : Code} {H : Heap} {locs : List Loc} {cells slots : Nat} {Q : State → Prop} {cc : ByteArray} {nL n0 z0 d base : Nat} {st : Nat → Nat} {cA : Nat → ClassId} {D : va_G} {cl : List vw_C} {Cq own : String} {cq : Nat} {RO : List (Nat × (Nat → Int32))} {SF : List (String × String × String × Nat)} {Ts : List Jvm.Cond} {tyc : Nat → Nat → FieldType} {NV : Nat → List Value} {lk : Nat → Option sm_L} {ini : Bool} 
    (hx : p.tables.exec = Jvm.exec) (hb : c.code = cc) (hml : c.maxLocals = nL) (hown : s.vm.findClass own = some m.cls) (hts : ∀ w ∈ Ts, w.before args s = true) (hok : ∀ ix q, lk ix = some q → sm_okL cl tyc SF Cq Ts own ix q) (hcl : sm_okC cl tyc NV Ts) (hcq : ∃ r : vw_C, cl[cq]? = some r ∧ r.1 = Cq)
    (hini : ini = true → meth.name = "<init>") (hE : sm_env D cl cA Cq RO SF st base s s.heap) (hb0 : s.heap.size = base + n0) (hd : d ≤ R.frames) (hdl : d * 100 ≤ R.locals) (har : ∀ q t, sm_aty q = some t → Jvm.Cond.arrayClass (newarray.typeOf q) ∈ Ts)
    {len pc pc' : Nat} {lv lv' : sm_V} {sk sk' : List Value} {h h' : sm_H} {ls : Array Slot} (hdg : decode cc pc = .ok (.idiv, sm_len .idiv len)) (hl : lv_has ls nL (sm_lv (sm_ad st base) lv)) (hP : va_P D cl (sm_w (sm_ad st base) cA base h) H) (hS : va_S (fun q => base ≤ q) s.heap H locs) (hc1 : n0 + cells = h.length) (hc2 : z0 + slots = sm_sz h)
    (hm1 : h'.length ≤ n0 + R.cells) (hm2 : sm_sz h' ≤ z0 + R.slots) (hs : sm_step lk RO NV cq ini nL d .idiv pc lv sk h = some (pc', lv', sk', h'))
    (k : ∀ (ls' : Array Slot) (H' : Heap) (locs' : List Loc) (cells' slots' : Nat), lv_has ls' nL (sm_lv (sm_ad st base) lv') → va_P D cl (sm_w (sm_ad st base) cA base h') H' → va_S (fun q => base ≤ q) s.heap H' locs' → n0 + cells' = h'.length → z0 + slots' = sm_sz h' → W p l e R s m args below meth c H' locs' cells' slots' Q (F0 m pc' ls' (sk'.map (sm_v (sm_ad st base))))) :
    W p l e R s m args below meth c H locs cells slots Q (F0 m pc ls (sk.map (sm_v (sm_ad st base)))) := by
    have hs1 := sm_i2_eq hs
    clear hs
    obtain ⟨x, y, r, e0, hs⟩ := hs1
    subst e0
    split at hs
    · cases hs
    · rename_i hy
      cases hs
      exact lv_idiv hx hb hdg hy (k _ _ _ _ _ hl hP hS hc1 hc2)
set_option maxHeartbeats 1000000 in
theorem sn_irem {p : Program} {l : Launch} {e : Env} {R : Room} {s : State} {m : MethodId} {args : Array Value} {below : List Frame} {meth : Method} {c : Code} {H : Heap} {locs : List Loc} {cells slots : Nat} {Q : State → Prop} {cc : ByteArray} {nL n0 z0 d base : Nat} {st : Nat → Nat} {cA : Nat → ClassId} {D : va_G} {cl : List vw_C} {Cq own : String} {cq : Nat} {RO : List (Nat × (Nat → Int32))} {SF : List (String × String × String × Nat)} {Ts : List Jvm.Cond} {tyc : Nat → Nat → FieldType} {NV : Nat → List Value} {lk : Nat → Option sm_L} {ini : Bool} 
    (hx : p.tables.exec = Jvm.exec) (hb : c.code = cc) (hml : c.maxLocals = nL) (hown : s.vm.findClass own = some m.cls) (hts : ∀ w ∈ Ts, w.before args s = true) (hok : ∀ ix q, lk ix = some q → sm_okL cl tyc SF Cq Ts own ix q) (hcl : sm_okC cl tyc NV Ts) (hcq : ∃ r : vw_C, cl[cq]? = some r ∧ r.1 = Cq)
    (hini : ini = true → meth.name = "<init>") (hE : sm_env D cl cA Cq RO SF st base s s.heap) (hb0 : s.heap.size = base + n0) (hd : d ≤ R.frames) (hdl : d * 100 ≤ R.locals) (har : ∀ q t, sm_aty q = some t → Jvm.Cond.arrayClass (newarray.typeOf q) ∈ Ts)
    {len pc pc' : Nat} {lv lv' : sm_V} {sk sk' : List Value} {h h' : sm_H} {ls : Array Slot} (hdg : decode cc pc = .ok (.irem, sm_len .irem len)) (hl : lv_has ls nL (sm_lv (sm_ad st base) lv)) (hP : va_P D cl (sm_w (sm_ad st base) cA base h) H) (hS : va_S (fun q => base ≤ q) s.heap H locs) (hc1 : n0 + cells = h.length) (hc2 : z0 + slots = sm_sz h)
    (hm1 : h'.length ≤ n0 + R.cells) (hm2 : sm_sz h' ≤ z0 + R.slots) (hs : sm_step lk RO NV cq ini nL d .irem pc lv sk h = some (pc', lv', sk', h'))
    (k : ∀ (ls' : Array Slot) (H' : Heap) (locs' : List Loc) (cells' slots' : Nat), lv_has ls' nL (sm_lv (sm_ad st base) lv') → va_P D cl (sm_w (sm_ad st base) cA base h') H' → va_S (fun q => base ≤ q) s.heap H' locs' → n0 + cells' = h'.length → z0 + slots' = sm_sz h' → W p l e R s m args below meth c H' locs' cells' slots' Q (F0 m pc' ls' (sk'.map (sm_v (sm_ad st base))))) :
    W p l e R s m args below meth c H locs cells slots Q (F0 m pc ls (sk.map (sm_v (sm_ad st base)))) := by
    have hs1 := sm_i2_eq hs
    clear hs
    obtain ⟨x, y, r, e0, hs⟩ := hs1
    subst e0
    split at hs
    · cases hs
    · rename_i hy
      cases hs
      exact lv_irem hx hb hdg hy (k _ _ _ _ _ hl hP hS hc1 hc2)
set_option maxHeartbeats 1000000 in
theorem sn_ladd {p : Program} {l : Launch} {e : Env} {R : Room} {s : State} {m : MethodId} {args : Array Value} {below : List Frame} {meth : Method} {c : Code} {H : Heap} {locs : List Loc} {cells slots : Nat} {Q : State → Prop} {cc : ByteArray} {nL n0 z0 d base : Nat} {st : Nat → Nat} {cA : Nat → ClassId} {D : va_G} {cl : List vw_C} {Cq own : String} {cq : Nat} {RO : List (Nat × (Nat → Int32))} {SF : List (String × String × String × Nat)} {Ts : List Jvm.Cond} {tyc : Nat → Nat → FieldType} {NV : Nat → List Value} {lk : Nat → Option sm_L} {ini : Bool} 
    (hx : p.tables.exec = Jvm.exec) (hb : c.code = cc) (hml : c.maxLocals = nL) (hown : s.vm.findClass own = some m.cls) (hts : ∀ w ∈ Ts, w.before args s = true) (hok : ∀ ix q, lk ix = some q → sm_okL cl tyc SF Cq Ts own ix q) (hcl : sm_okC cl tyc NV Ts) (hcq : ∃ r : vw_C, cl[cq]? = some r ∧ r.1 = Cq)
    (hini : ini = true → meth.name = "<init>") (hE : sm_env D cl cA Cq RO SF st base s s.heap) (hb0 : s.heap.size = base + n0) (hd : d ≤ R.frames) (hdl : d * 100 ≤ R.locals) (har : ∀ q t, sm_aty q = some t → Jvm.Cond.arrayClass (newarray.typeOf q) ∈ Ts)
    {len pc pc' : Nat} {lv lv' : sm_V} {sk sk' : List Value} {h h' : sm_H} {ls : Array Slot} (hdg : decode cc pc = .ok (.ladd, sm_len .ladd len)) (hl : lv_has ls nL (sm_lv (sm_ad st base) lv)) (hP : va_P D cl (sm_w (sm_ad st base) cA base h) H) (hS : va_S (fun q => base ≤ q) s.heap H locs) (hc1 : n0 + cells = h.length) (hc2 : z0 + slots = sm_sz h)
    (hm1 : h'.length ≤ n0 + R.cells) (hm2 : sm_sz h' ≤ z0 + R.slots) (hs : sm_step lk RO NV cq ini nL d .ladd pc lv sk h = some (pc', lv', sk', h'))
    (k : ∀ (ls' : Array Slot) (H' : Heap) (locs' : List Loc) (cells' slots' : Nat), lv_has ls' nL (sm_lv (sm_ad st base) lv') → va_P D cl (sm_w (sm_ad st base) cA base h') H' → va_S (fun q => base ≤ q) s.heap H' locs' → n0 + cells' = h'.length → z0 + slots' = sm_sz h' → W p l e R s m args below meth c H' locs' cells' slots' Q (F0 m pc' ls' (sk'.map (sm_v (sm_ad st base))))) :
    W p l e R s m args below meth c H locs cells slots Q (F0 m pc ls (sk.map (sm_v (sm_ad st base)))) := by
    have hs1 := sm_l2_eq hs
    clear hs
    obtain ⟨x, y, r, e0, hs⟩ := hs1
    subst e0
    cases hs
    exact lv_ladd hx hb hdg (k _ _ _ _ _ hl hP hS hc1 hc2)
set_option maxHeartbeats 1000000 in
theorem sn_lsub {p : Program} {l : Launch} {e : Env} {R : Room} {s : State} {m : MethodId} {args : Array Value} {below : List Frame} {meth : Method} {c : Code} {H : Heap} {locs : List Loc} {cells slots : Nat} {Q : State → Prop} {cc : ByteArray} {nL n0 z0 d base : Nat} {st : Nat → Nat} {cA : Nat → ClassId} {D : va_G} {cl : List vw_C} {Cq own : String} {cq : Nat} {RO : List (Nat × (Nat → Int32))} {SF : List (String × String × String × Nat)} {Ts : List Jvm.Cond} {tyc : Nat → Nat → FieldType} {NV : Nat → List Value} {lk : Nat → Option sm_L} {ini : Bool} 
    (hx : p.tables.exec = Jvm.exec) (hb : c.code = cc) (hml : c.maxLocals = nL) (hown : s.vm.findClass own = some m.cls) (hts : ∀ w ∈ Ts, w.before args s = true) (hok : ∀ ix q, lk ix = some q → sm_okL cl tyc SF Cq Ts own ix q) (hcl : sm_okC cl tyc NV Ts) (hcq : ∃ r : vw_C, cl[cq]? = some r ∧ r.1 = Cq)
    (hini : ini = true → meth.name = "<init>") (hE : sm_env D cl cA Cq RO SF st base s s.heap) (hb0 : s.heap.size = base + n0) (hd : d ≤ R.frames) (hdl : d * 100 ≤ R.locals) (har : ∀ q t, sm_aty q = some t → Jvm.Cond.arrayClass (newarray.typeOf q) ∈ Ts)
    {len pc pc' : Nat} {lv lv' : sm_V} {sk sk' : List Value} {h h' : sm_H} {ls : Array Slot} (hdg : decode cc pc = .ok (.lsub, sm_len .lsub len)) (hl : lv_has ls nL (sm_lv (sm_ad st base) lv)) (hP : va_P D cl (sm_w (sm_ad st base) cA base h) H) (hS : va_S (fun q => base ≤ q) s.heap H locs) (hc1 : n0 + cells = h.length) (hc2 : z0 + slots = sm_sz h)
    (hm1 : h'.length ≤ n0 + R.cells) (hm2 : sm_sz h' ≤ z0 + R.slots) (hs : sm_step lk RO NV cq ini nL d .lsub pc lv sk h = some (pc', lv', sk', h'))
    (k : ∀ (ls' : Array Slot) (H' : Heap) (locs' : List Loc) (cells' slots' : Nat), lv_has ls' nL (sm_lv (sm_ad st base) lv') → va_P D cl (sm_w (sm_ad st base) cA base h') H' → va_S (fun q => base ≤ q) s.heap H' locs' → n0 + cells' = h'.length → z0 + slots' = sm_sz h' → W p l e R s m args below meth c H' locs' cells' slots' Q (F0 m pc' ls' (sk'.map (sm_v (sm_ad st base))))) :
    W p l e R s m args below meth c H locs cells slots Q (F0 m pc ls (sk.map (sm_v (sm_ad st base)))) := by
    have hs1 := sm_l2_eq hs
    clear hs
    obtain ⟨x, y, r, e0, hs⟩ := hs1
    subst e0
    cases hs
    exact lv_lsub hx hb hdg (k _ _ _ _ _ hl hP hS hc1 hc2)
set_option maxHeartbeats 1000000 in
theorem sn_lmul {p : Program} {l : Launch} {e : Env} {R : Room} {s : State} {m : MethodId} {args : Array Value} {below : List Frame} {meth : Method} {c : Code} {H : Heap} {locs : List Loc} {cells slots : Nat} {Q : State → Prop} {cc : ByteArray} {nL n0 z0 d base : Nat} {st : Nat → Nat} {cA : Nat → ClassId} {D : va_G} {cl : List vw_C} {Cq own : String} {cq : Nat} {RO : List (Nat × (Nat → Int32))} {SF : List (String × String × String × Nat)} {Ts : List Jvm.Cond} {tyc : Nat → Nat → FieldType} {NV : Nat → List Value} {lk : Nat → Option sm_L} {ini : Bool} 
    (hx : p.tables.exec = Jvm.exec) (hb : c.code = cc) (hml : c.maxLocals = nL) (hown : s.vm.findClass own = some m.cls) (hts : ∀ w ∈ Ts, w.before args s = true) (hok : ∀ ix q, lk ix = some q → sm_okL cl tyc SF Cq Ts own ix q) (hcl : sm_okC cl tyc NV Ts) (hcq : ∃ r : vw_C, cl[cq]? = some r ∧ r.1 = Cq)
    (hini : ini = true → meth.name = "<init>") (hE : sm_env D cl cA Cq RO SF st base s s.heap) (hb0 : s.heap.size = base + n0) (hd : d ≤ R.frames) (hdl : d * 100 ≤ R.locals) (har : ∀ q t, sm_aty q = some t → Jvm.Cond.arrayClass (newarray.typeOf q) ∈ Ts)
    {len pc pc' : Nat} {lv lv' : sm_V} {sk sk' : List Value} {h h' : sm_H} {ls : Array Slot} (hdg : decode cc pc = .ok (.lmul, sm_len .lmul len)) (hl : lv_has ls nL (sm_lv (sm_ad st base) lv)) (hP : va_P D cl (sm_w (sm_ad st base) cA base h) H) (hS : va_S (fun q => base ≤ q) s.heap H locs) (hc1 : n0 + cells = h.length) (hc2 : z0 + slots = sm_sz h)
    (hm1 : h'.length ≤ n0 + R.cells) (hm2 : sm_sz h' ≤ z0 + R.slots) (hs : sm_step lk RO NV cq ini nL d .lmul pc lv sk h = some (pc', lv', sk', h'))
    (k : ∀ (ls' : Array Slot) (H' : Heap) (locs' : List Loc) (cells' slots' : Nat), lv_has ls' nL (sm_lv (sm_ad st base) lv') → va_P D cl (sm_w (sm_ad st base) cA base h') H' → va_S (fun q => base ≤ q) s.heap H' locs' → n0 + cells' = h'.length → z0 + slots' = sm_sz h' → W p l e R s m args below meth c H' locs' cells' slots' Q (F0 m pc' ls' (sk'.map (sm_v (sm_ad st base))))) :
    W p l e R s m args below meth c H locs cells slots Q (F0 m pc ls (sk.map (sm_v (sm_ad st base)))) := by
    have hs1 := sm_l2_eq hs
    clear hs
    obtain ⟨x, y, r, e0, hs⟩ := hs1
    subst e0
    cases hs
    exact lv_lmul hx hb hdg (k _ _ _ _ _ hl hP hS hc1 hc2)
set_option maxHeartbeats 1000000 in
theorem sn_land {p : Program} {l : Launch} {e : Env} {R : Room} {s : State} {m : MethodId} {args : Array Value} {below : List Frame} {meth : Method} {c : Code} {H : Heap} {locs : List Loc} {cells slots : Nat} {Q : State → Prop} {cc : ByteArray} {nL n0 z0 d base : Nat} {st : Nat → Nat} {cA : Nat → ClassId} {D : va_G} {cl : List vw_C} {Cq own : String} {cq : Nat} {RO : List (Nat × (Nat → Int32))} {SF : List (String × String × String × Nat)} {Ts : List Jvm.Cond} {tyc : Nat → Nat → FieldType} {NV : Nat → List Value} {lk : Nat → Option sm_L} {ini : Bool} 
    (hx : p.tables.exec = Jvm.exec) (hb : c.code = cc) (hml : c.maxLocals = nL) (hown : s.vm.findClass own = some m.cls) (hts : ∀ w ∈ Ts, w.before args s = true) (hok : ∀ ix q, lk ix = some q → sm_okL cl tyc SF Cq Ts own ix q) (hcl : sm_okC cl tyc NV Ts) (hcq : ∃ r : vw_C, cl[cq]? = some r ∧ r.1 = Cq)
    (hini : ini = true → meth.name = "<init>") (hE : sm_env D cl cA Cq RO SF st base s s.heap) (hb0 : s.heap.size = base + n0) (hd : d ≤ R.frames) (hdl : d * 100 ≤ R.locals) (har : ∀ q t, sm_aty q = some t → Jvm.Cond.arrayClass (newarray.typeOf q) ∈ Ts)
    {len pc pc' : Nat} {lv lv' : sm_V} {sk sk' : List Value} {h h' : sm_H} {ls : Array Slot} (hdg : decode cc pc = .ok (.land, sm_len .land len)) (hl : lv_has ls nL (sm_lv (sm_ad st base) lv)) (hP : va_P D cl (sm_w (sm_ad st base) cA base h) H) (hS : va_S (fun q => base ≤ q) s.heap H locs) (hc1 : n0 + cells = h.length) (hc2 : z0 + slots = sm_sz h)
    (hm1 : h'.length ≤ n0 + R.cells) (hm2 : sm_sz h' ≤ z0 + R.slots) (hs : sm_step lk RO NV cq ini nL d .land pc lv sk h = some (pc', lv', sk', h'))
    (k : ∀ (ls' : Array Slot) (H' : Heap) (locs' : List Loc) (cells' slots' : Nat), lv_has ls' nL (sm_lv (sm_ad st base) lv') → va_P D cl (sm_w (sm_ad st base) cA base h') H' → va_S (fun q => base ≤ q) s.heap H' locs' → n0 + cells' = h'.length → z0 + slots' = sm_sz h' → W p l e R s m args below meth c H' locs' cells' slots' Q (F0 m pc' ls' (sk'.map (sm_v (sm_ad st base))))) :
    W p l e R s m args below meth c H locs cells slots Q (F0 m pc ls (sk.map (sm_v (sm_ad st base)))) := by
    have hs1 := sm_l2_eq hs
    clear hs
    obtain ⟨x, y, r, e0, hs⟩ := hs1
    subst e0
    cases hs
    exact lv_land hx hb hdg (k _ _ _ _ _ hl hP hS hc1 hc2)
set_option maxHeartbeats 1000000 in
theorem sn_lor {p : Program} {l : Launch} {e : Env} {R : Room} {s : State} {m : MethodId} {args : Array Value} {below : List Frame} {meth : Method} {c : Code} {H : Heap} {locs : List Loc} {cells slots : Nat} {Q : State → Prop} {cc : ByteArray} {nL n0 z0 d base : Nat} {st : Nat → Nat} {cA : Nat → ClassId} {D : va_G} {cl : List vw_C} {Cq own : String} {cq : Nat} {RO : List (Nat × (Nat → Int32))} {SF : List (String × String × String × Nat)} {Ts : List Jvm.Cond} {tyc : Nat → Nat → FieldType} {NV : Nat → List Value} {lk : Nat → Option sm_L} {ini : Bool} 
    (hx : p.tables.exec = Jvm.exec) (hb : c.code = cc) (hml : c.maxLocals = nL) (hown : s.vm.findClass own = some m.cls) (hts : ∀ w ∈ Ts, w.before args s = true) (hok : ∀ ix q, lk ix = some q → sm_okL cl tyc SF Cq Ts own ix q) (hcl : sm_okC cl tyc NV Ts) (hcq : ∃ r : vw_C, cl[cq]? = some r ∧ r.1 = Cq)
    (hini : ini = true → meth.name = "<init>") (hE : sm_env D cl cA Cq RO SF st base s s.heap) (hb0 : s.heap.size = base + n0) (hd : d ≤ R.frames) (hdl : d * 100 ≤ R.locals) (har : ∀ q t, sm_aty q = some t → Jvm.Cond.arrayClass (newarray.typeOf q) ∈ Ts)
    {len pc pc' : Nat} {lv lv' : sm_V} {sk sk' : List Value} {h h' : sm_H} {ls : Array Slot} (hdg : decode cc pc = .ok (.lor, sm_len .lor len)) (hl : lv_has ls nL (sm_lv (sm_ad st base) lv)) (hP : va_P D cl (sm_w (sm_ad st base) cA base h) H) (hS : va_S (fun q => base ≤ q) s.heap H locs) (hc1 : n0 + cells = h.length) (hc2 : z0 + slots = sm_sz h)
    (hm1 : h'.length ≤ n0 + R.cells) (hm2 : sm_sz h' ≤ z0 + R.slots) (hs : sm_step lk RO NV cq ini nL d .lor pc lv sk h = some (pc', lv', sk', h'))
    (k : ∀ (ls' : Array Slot) (H' : Heap) (locs' : List Loc) (cells' slots' : Nat), lv_has ls' nL (sm_lv (sm_ad st base) lv') → va_P D cl (sm_w (sm_ad st base) cA base h') H' → va_S (fun q => base ≤ q) s.heap H' locs' → n0 + cells' = h'.length → z0 + slots' = sm_sz h' → W p l e R s m args below meth c H' locs' cells' slots' Q (F0 m pc' ls' (sk'.map (sm_v (sm_ad st base))))) :
    W p l e R s m args below meth c H locs cells slots Q (F0 m pc ls (sk.map (sm_v (sm_ad st base)))) := by
    have hs1 := sm_l2_eq hs
    clear hs
    obtain ⟨x, y, r, e0, hs⟩ := hs1
    subst e0
    cases hs
    exact lv_lor hx hb hdg (k _ _ _ _ _ hl hP hS hc1 hc2)
set_option maxHeartbeats 1000000 in
theorem sn_ldiv {p : Program} {l : Launch} {e : Env} {R : Room} {s : State} {m : MethodId} {args : Array Value} {below : List Frame} {meth : Method} {c : Code} {H : Heap} {locs : List Loc} {cells slots : Nat} {Q : State → Prop} {cc : ByteArray} {nL n0 z0 d base : Nat} {st : Nat → Nat} {cA : Nat → ClassId} {D : va_G} {cl : List vw_C} {Cq own : String} {cq : Nat} {RO : List (Nat × (Nat → Int32))} {SF : List (String × String × String × Nat)} {Ts : List Jvm.Cond} {tyc : Nat → Nat → FieldType} {NV : Nat → List Value} {lk : Nat → Option sm_L} {ini : Bool} 
    (hx : p.tables.exec = Jvm.exec) (hb : c.code = cc) (hml : c.maxLocals = nL) (hown : s.vm.findClass own = some m.cls) (hts : ∀ w ∈ Ts, w.before args s = true) (hok : ∀ ix q, lk ix = some q → sm_okL cl tyc SF Cq Ts own ix q) (hcl : sm_okC cl tyc NV Ts) (hcq : ∃ r : vw_C, cl[cq]? = some r ∧ r.1 = Cq)
    (hini : ini = true → meth.name = "<init>") (hE : sm_env D cl cA Cq RO SF st base s s.heap) (hb0 : s.heap.size = base + n0) (hd : d ≤ R.frames) (hdl : d * 100 ≤ R.locals) (har : ∀ q t, sm_aty q = some t → Jvm.Cond.arrayClass (newarray.typeOf q) ∈ Ts)
    {len pc pc' : Nat} {lv lv' : sm_V} {sk sk' : List Value} {h h' : sm_H} {ls : Array Slot} (hdg : decode cc pc = .ok (.ldiv, sm_len .ldiv len)) (hl : lv_has ls nL (sm_lv (sm_ad st base) lv)) (hP : va_P D cl (sm_w (sm_ad st base) cA base h) H) (hS : va_S (fun q => base ≤ q) s.heap H locs) (hc1 : n0 + cells = h.length) (hc2 : z0 + slots = sm_sz h)
    (hm1 : h'.length ≤ n0 + R.cells) (hm2 : sm_sz h' ≤ z0 + R.slots) (hs : sm_step lk RO NV cq ini nL d .ldiv pc lv sk h = some (pc', lv', sk', h'))
    (k : ∀ (ls' : Array Slot) (H' : Heap) (locs' : List Loc) (cells' slots' : Nat), lv_has ls' nL (sm_lv (sm_ad st base) lv') → va_P D cl (sm_w (sm_ad st base) cA base h') H' → va_S (fun q => base ≤ q) s.heap H' locs' → n0 + cells' = h'.length → z0 + slots' = sm_sz h' → W p l e R s m args below meth c H' locs' cells' slots' Q (F0 m pc' ls' (sk'.map (sm_v (sm_ad st base))))) :
    W p l e R s m args below meth c H locs cells slots Q (F0 m pc ls (sk.map (sm_v (sm_ad st base)))) := by
    have hs1 := sm_l2_eq hs
    clear hs
    obtain ⟨x, y, r, e0, hs⟩ := hs1
    subst e0
    split at hs
    · cases hs
    · rename_i hy
      cases hs
      exact lv_ldiv hx hb hdg hy (k _ _ _ _ _ hl hP hS hc1 hc2)
set_option maxHeartbeats 1000000 in
theorem sn_lrem {p : Program} {l : Launch} {e : Env} {R : Room} {s : State} {m : MethodId} {args : Array Value} {below : List Frame} {meth : Method} {c : Code} {H : Heap} {locs : List Loc} {cells slots : Nat} {Q : State → Prop} {cc : ByteArray} {nL n0 z0 d base : Nat} {st : Nat → Nat} {cA : Nat → ClassId} {D : va_G} {cl : List vw_C} {Cq own : String} {cq : Nat} {RO : List (Nat × (Nat → Int32))} {SF : List (String × String × String × Nat)} {Ts : List Jvm.Cond} {tyc : Nat → Nat → FieldType} {NV : Nat → List Value} {lk : Nat → Option sm_L} {ini : Bool} 
    (hx : p.tables.exec = Jvm.exec) (hb : c.code = cc) (hml : c.maxLocals = nL) (hown : s.vm.findClass own = some m.cls) (hts : ∀ w ∈ Ts, w.before args s = true) (hok : ∀ ix q, lk ix = some q → sm_okL cl tyc SF Cq Ts own ix q) (hcl : sm_okC cl tyc NV Ts) (hcq : ∃ r : vw_C, cl[cq]? = some r ∧ r.1 = Cq)
    (hini : ini = true → meth.name = "<init>") (hE : sm_env D cl cA Cq RO SF st base s s.heap) (hb0 : s.heap.size = base + n0) (hd : d ≤ R.frames) (hdl : d * 100 ≤ R.locals) (har : ∀ q t, sm_aty q = some t → Jvm.Cond.arrayClass (newarray.typeOf q) ∈ Ts)
    {len pc pc' : Nat} {lv lv' : sm_V} {sk sk' : List Value} {h h' : sm_H} {ls : Array Slot} (hdg : decode cc pc = .ok (.lrem, sm_len .lrem len)) (hl : lv_has ls nL (sm_lv (sm_ad st base) lv)) (hP : va_P D cl (sm_w (sm_ad st base) cA base h) H) (hS : va_S (fun q => base ≤ q) s.heap H locs) (hc1 : n0 + cells = h.length) (hc2 : z0 + slots = sm_sz h)
    (hm1 : h'.length ≤ n0 + R.cells) (hm2 : sm_sz h' ≤ z0 + R.slots) (hs : sm_step lk RO NV cq ini nL d .lrem pc lv sk h = some (pc', lv', sk', h'))
    (k : ∀ (ls' : Array Slot) (H' : Heap) (locs' : List Loc) (cells' slots' : Nat), lv_has ls' nL (sm_lv (sm_ad st base) lv') → va_P D cl (sm_w (sm_ad st base) cA base h') H' → va_S (fun q => base ≤ q) s.heap H' locs' → n0 + cells' = h'.length → z0 + slots' = sm_sz h' → W p l e R s m args below meth c H' locs' cells' slots' Q (F0 m pc' ls' (sk'.map (sm_v (sm_ad st base))))) :
    W p l e R s m args below meth c H locs cells slots Q (F0 m pc ls (sk.map (sm_v (sm_ad st base)))) := by
    have hs1 := sm_l2_eq hs
    clear hs
    obtain ⟨x, y, r, e0, hs⟩ := hs1
    subst e0
    split at hs
    · cases hs
    · rename_i hy
      cases hs
      exact lv_lrem hx hb hdg hy (k _ _ _ _ _ hl hP hS hc1 hc2)
set_option maxHeartbeats 1000000 in
theorem sn_lshl {p : Program} {l : Launch} {e : Env} {R : Room} {s : State} {m : MethodId} {args : Array Value} {below : List Frame} {meth : Method} {c : Code} {H : Heap} {locs : List Loc} {cells slots : Nat} {Q : State → Prop} {cc : ByteArray} {nL n0 z0 d base : Nat} {st : Nat → Nat} {cA : Nat → ClassId} {D : va_G} {cl : List vw_C} {Cq own : String} {cq : Nat} {RO : List (Nat × (Nat → Int32))} {SF : List (String × String × String × Nat)} {Ts : List Jvm.Cond} {tyc : Nat → Nat → FieldType} {NV : Nat → List Value} {lk : Nat → Option sm_L} {ini : Bool} 
    (hx : p.tables.exec = Jvm.exec) (hb : c.code = cc) (hml : c.maxLocals = nL) (hown : s.vm.findClass own = some m.cls) (hts : ∀ w ∈ Ts, w.before args s = true) (hok : ∀ ix q, lk ix = some q → sm_okL cl tyc SF Cq Ts own ix q) (hcl : sm_okC cl tyc NV Ts) (hcq : ∃ r : vw_C, cl[cq]? = some r ∧ r.1 = Cq)
    (hini : ini = true → meth.name = "<init>") (hE : sm_env D cl cA Cq RO SF st base s s.heap) (hb0 : s.heap.size = base + n0) (hd : d ≤ R.frames) (hdl : d * 100 ≤ R.locals) (har : ∀ q t, sm_aty q = some t → Jvm.Cond.arrayClass (newarray.typeOf q) ∈ Ts)
    {len pc pc' : Nat} {lv lv' : sm_V} {sk sk' : List Value} {h h' : sm_H} {ls : Array Slot} (hdg : decode cc pc = .ok (.lshl, sm_len .lshl len)) (hl : lv_has ls nL (sm_lv (sm_ad st base) lv)) (hP : va_P D cl (sm_w (sm_ad st base) cA base h) H) (hS : va_S (fun q => base ≤ q) s.heap H locs) (hc1 : n0 + cells = h.length) (hc2 : z0 + slots = sm_sz h)
    (hm1 : h'.length ≤ n0 + R.cells) (hm2 : sm_sz h' ≤ z0 + R.slots) (hs : sm_step lk RO NV cq ini nL d .lshl pc lv sk h = some (pc', lv', sk', h'))
    (k : ∀ (ls' : Array Slot) (H' : Heap) (locs' : List Loc) (cells' slots' : Nat), lv_has ls' nL (sm_lv (sm_ad st base) lv') → va_P D cl (sm_w (sm_ad st base) cA base h') H' → va_S (fun q => base ≤ q) s.heap H' locs' → n0 + cells' = h'.length → z0 + slots' = sm_sz h' → W p l e R s m args below meth c H' locs' cells' slots' Q (F0 m pc' ls' (sk'.map (sm_v (sm_ad st base))))) :
    W p l e R s m args below meth c H locs cells slots Q (F0 m pc ls (sk.map (sm_v (sm_ad st base)))) := by
    have hs1 := sm_li_eq hs
    clear hs
    obtain ⟨x, y, r, e0, hs⟩ := hs1
    subst e0
    cases hs
    exact lv_lshl hx hb hdg rfl (k _ _ _ _ _ hl hP hS hc1 hc2)
set_option maxHeartbeats 1000000 in
theorem sn_lushr {p : Program} {l : Launch} {e : Env} {R : Room} {s : State} {m : MethodId} {args : Array Value} {below : List Frame} {meth : Method} {c : Code} {H : Heap} {locs : List Loc} {cells slots : Nat} {Q : State → Prop} {cc : ByteArray} {nL n0 z0 d base : Nat} {st : Nat → Nat} {cA : Nat → ClassId} {D : va_G} {cl : List vw_C} {Cq own : String} {cq : Nat} {RO : List (Nat × (Nat → Int32))} {SF : List (String × String × String × Nat)} {Ts : List Jvm.Cond} {tyc : Nat → Nat → FieldType} {NV : Nat → List Value} {lk : Nat → Option sm_L} {ini : Bool} 
    (hx : p.tables.exec = Jvm.exec) (hb : c.code = cc) (hml : c.maxLocals = nL) (hown : s.vm.findClass own = some m.cls) (hts : ∀ w ∈ Ts, w.before args s = true) (hok : ∀ ix q, lk ix = some q → sm_okL cl tyc SF Cq Ts own ix q) (hcl : sm_okC cl tyc NV Ts) (hcq : ∃ r : vw_C, cl[cq]? = some r ∧ r.1 = Cq)
    (hini : ini = true → meth.name = "<init>") (hE : sm_env D cl cA Cq RO SF st base s s.heap) (hb0 : s.heap.size = base + n0) (hd : d ≤ R.frames) (hdl : d * 100 ≤ R.locals) (har : ∀ q t, sm_aty q = some t → Jvm.Cond.arrayClass (newarray.typeOf q) ∈ Ts)
    {len pc pc' : Nat} {lv lv' : sm_V} {sk sk' : List Value} {h h' : sm_H} {ls : Array Slot} (hdg : decode cc pc = .ok (.lushr, sm_len .lushr len)) (hl : lv_has ls nL (sm_lv (sm_ad st base) lv)) (hP : va_P D cl (sm_w (sm_ad st base) cA base h) H) (hS : va_S (fun q => base ≤ q) s.heap H locs) (hc1 : n0 + cells = h.length) (hc2 : z0 + slots = sm_sz h)
    (hm1 : h'.length ≤ n0 + R.cells) (hm2 : sm_sz h' ≤ z0 + R.slots) (hs : sm_step lk RO NV cq ini nL d .lushr pc lv sk h = some (pc', lv', sk', h'))
    (k : ∀ (ls' : Array Slot) (H' : Heap) (locs' : List Loc) (cells' slots' : Nat), lv_has ls' nL (sm_lv (sm_ad st base) lv') → va_P D cl (sm_w (sm_ad st base) cA base h') H' → va_S (fun q => base ≤ q) s.heap H' locs' → n0 + cells' = h'.length → z0 + slots' = sm_sz h' → W p l e R s m args below meth c H' locs' cells' slots' Q (F0 m pc' ls' (sk'.map (sm_v (sm_ad st base))))) :
    W p l e R s m args below meth c H locs cells slots Q (F0 m pc ls (sk.map (sm_v (sm_ad st base)))) := by
    have hs1 := sm_li_eq hs
    clear hs
    obtain ⟨x, y, r, e0, hs⟩ := hs1
    subst e0
    cases hs
    exact lv_lushr hx hb hdg rfl (k _ _ _ _ _ hl hP hS hc1 hc2)
set_option maxHeartbeats 1000000 in
theorem sn_lcmp {p : Program} {l : Launch} {e : Env} {R : Room} {s : State} {m : MethodId} {args : Array Value} {below : List Frame} {meth : Method} {c : Code} {H : Heap} {locs : List Loc} {cells slots : Nat} {Q : State → Prop} {cc : ByteArray} {nL n0 z0 d base : Nat} {st : Nat → Nat} {cA : Nat → ClassId} {D : va_G} {cl : List vw_C} {Cq own : String} {cq : Nat} {RO : List (Nat × (Nat → Int32))} {SF : List (String × String × String × Nat)} {Ts : List Jvm.Cond} {tyc : Nat → Nat → FieldType} {NV : Nat → List Value} {lk : Nat → Option sm_L} {ini : Bool} 
    (hx : p.tables.exec = Jvm.exec) (hb : c.code = cc) (hml : c.maxLocals = nL) (hown : s.vm.findClass own = some m.cls) (hts : ∀ w ∈ Ts, w.before args s = true) (hok : ∀ ix q, lk ix = some q → sm_okL cl tyc SF Cq Ts own ix q) (hcl : sm_okC cl tyc NV Ts) (hcq : ∃ r : vw_C, cl[cq]? = some r ∧ r.1 = Cq)
    (hini : ini = true → meth.name = "<init>") (hE : sm_env D cl cA Cq RO SF st base s s.heap) (hb0 : s.heap.size = base + n0) (hd : d ≤ R.frames) (hdl : d * 100 ≤ R.locals) (har : ∀ q t, sm_aty q = some t → Jvm.Cond.arrayClass (newarray.typeOf q) ∈ Ts)
    {len pc pc' : Nat} {lv lv' : sm_V} {sk sk' : List Value} {h h' : sm_H} {ls : Array Slot} (hdg : decode cc pc = .ok (.lcmp, sm_len .lcmp len)) (hl : lv_has ls nL (sm_lv (sm_ad st base) lv)) (hP : va_P D cl (sm_w (sm_ad st base) cA base h) H) (hS : va_S (fun q => base ≤ q) s.heap H locs) (hc1 : n0 + cells = h.length) (hc2 : z0 + slots = sm_sz h)
    (hm1 : h'.length ≤ n0 + R.cells) (hm2 : sm_sz h' ≤ z0 + R.slots) (hs : sm_step lk RO NV cq ini nL d .lcmp pc lv sk h = some (pc', lv', sk', h'))
    (k : ∀ (ls' : Array Slot) (H' : Heap) (locs' : List Loc) (cells' slots' : Nat), lv_has ls' nL (sm_lv (sm_ad st base) lv') → va_P D cl (sm_w (sm_ad st base) cA base h') H' → va_S (fun q => base ≤ q) s.heap H' locs' → n0 + cells' = h'.length → z0 + slots' = sm_sz h' → W p l e R s m args below meth c H' locs' cells' slots' Q (F0 m pc' ls' (sk'.map (sm_v (sm_ad st base))))) :
    W p l e R s m args below meth c H locs cells slots Q (F0 m pc ls (sk.map (sm_v (sm_ad st base)))) := by
    have hs1 := sm_l2_eq hs
    clear hs
    obtain ⟨x, y, r, e0, hs⟩ := hs1
    subst e0
    cases hs
    exact W.lcmp hx hb hdg (k _ _ _ _ _ hl hP hS hc1 hc2)
set_option maxHeartbeats 1000000 in
theorem sn_ineg {p : Program} {l : Launch} {e : Env} {R : Room} {s : State} {m : MethodId} {args : Array Value} {below : List Frame} {meth : Method} {c : Code} {H : Heap} {locs : List Loc} {cells slots : Nat} {Q : State → Prop} {cc : ByteArray} {nL n0 z0 d base : Nat} {st : Nat → Nat} {cA : Nat → ClassId} {D : va_G} {cl : List vw_C} {Cq own : String} {cq : Nat} {RO : List (Nat × (Nat → Int32))} {SF : List (String × String × String × Nat)} {Ts : List Jvm.Cond} {tyc : Nat → Nat → FieldType} {NV : Nat → List Value} {lk : Nat → Option sm_L} {ini : Bool} 
    (hx : p.tables.exec = Jvm.exec) (hb : c.code = cc) (hml : c.maxLocals = nL) (hown : s.vm.findClass own = some m.cls) (hts : ∀ w ∈ Ts, w.before args s = true) (hok : ∀ ix q, lk ix = some q → sm_okL cl tyc SF Cq Ts own ix q) (hcl : sm_okC cl tyc NV Ts) (hcq : ∃ r : vw_C, cl[cq]? = some r ∧ r.1 = Cq)
    (hini : ini = true → meth.name = "<init>") (hE : sm_env D cl cA Cq RO SF st base s s.heap) (hb0 : s.heap.size = base + n0) (hd : d ≤ R.frames) (hdl : d * 100 ≤ R.locals) (har : ∀ q t, sm_aty q = some t → Jvm.Cond.arrayClass (newarray.typeOf q) ∈ Ts)
    {len pc pc' : Nat} {lv lv' : sm_V} {sk sk' : List Value} {h h' : sm_H} {ls : Array Slot} (hdg : decode cc pc = .ok (.ineg, sm_len .ineg len)) (hl : lv_has ls nL (sm_lv (sm_ad st base) lv)) (hP : va_P D cl (sm_w (sm_ad st base) cA base h) H) (hS : va_S (fun q => base ≤ q) s.heap H locs) (hc1 : n0 + cells = h.length) (hc2 : z0 + slots = sm_sz h)
    (hm1 : h'.length ≤ n0 + R.cells) (hm2 : sm_sz h' ≤ z0 + R.slots) (hs : sm_step lk RO NV cq ini nL d .ineg pc lv sk h = some (pc', lv', sk', h'))
    (k : ∀ (ls' : Array Slot) (H' : Heap) (locs' : List Loc) (cells' slots' : Nat), lv_has ls' nL (sm_lv (sm_ad st base) lv') → va_P D cl (sm_w (sm_ad st base) cA base h') H' → va_S (fun q => base ≤ q) s.heap H' locs' → n0 + cells' = h'.length → z0 + slots' = sm_sz h' → W p l e R s m args below meth c H' locs' cells' slots' Q (F0 m pc' ls' (sk'.map (sm_v (sm_ad st base))))) :
    W p l e R s m args below meth c H locs cells slots Q (F0 m pc ls (sk.map (sm_v (sm_ad st base)))) := by
    have hs1 := sm_i1_eq hs
    clear hs
    obtain ⟨x, r, e0, hs⟩ := hs1
    subst e0
    cases hs
    exact lv_ineg hx hb hdg (k _ _ _ _ _ hl hP hS hc1 hc2)
set_option maxHeartbeats 1000000 in
theorem sn_i2l {p : Program} {l : Launch} {e : Env} {R : Room} {s : State} {m : MethodId} {args : Array Value} {below : List Frame} {meth : Method} {c : Code} {H : Heap} {locs : List Loc} {cells slots : Nat} {Q : State → Prop} {cc : ByteArray} {nL n0 z0 d base : Nat} {st : Nat → Nat} {cA : Nat → ClassId} {D : va_G} {cl : List vw_C} {Cq own : String} {cq : Nat} {RO : List (Nat × (Nat → Int32))} {SF : List (String × String × String × Nat)} {Ts : List Jvm.Cond} {tyc : Nat → Nat → FieldType} {NV : Nat → List Value} {lk : Nat → Option sm_L} {ini : Bool} 
    (hx : p.tables.exec = Jvm.exec) (hb : c.code = cc) (hml : c.maxLocals = nL) (hown : s.vm.findClass own = some m.cls) (hts : ∀ w ∈ Ts, w.before args s = true) (hok : ∀ ix q, lk ix = some q → sm_okL cl tyc SF Cq Ts own ix q) (hcl : sm_okC cl tyc NV Ts) (hcq : ∃ r : vw_C, cl[cq]? = some r ∧ r.1 = Cq)
    (hini : ini = true → meth.name = "<init>") (hE : sm_env D cl cA Cq RO SF st base s s.heap) (hb0 : s.heap.size = base + n0) (hd : d ≤ R.frames) (hdl : d * 100 ≤ R.locals) (har : ∀ q t, sm_aty q = some t → Jvm.Cond.arrayClass (newarray.typeOf q) ∈ Ts)
    {len pc pc' : Nat} {lv lv' : sm_V} {sk sk' : List Value} {h h' : sm_H} {ls : Array Slot} (hdg : decode cc pc = .ok (.i2l, sm_len .i2l len)) (hl : lv_has ls nL (sm_lv (sm_ad st base) lv)) (hP : va_P D cl (sm_w (sm_ad st base) cA base h) H) (hS : va_S (fun q => base ≤ q) s.heap H locs) (hc1 : n0 + cells = h.length) (hc2 : z0 + slots = sm_sz h)
    (hm1 : h'.length ≤ n0 + R.cells) (hm2 : sm_sz h' ≤ z0 + R.slots) (hs : sm_step lk RO NV cq ini nL d .i2l pc lv sk h = some (pc', lv', sk', h'))
    (k : ∀ (ls' : Array Slot) (H' : Heap) (locs' : List Loc) (cells' slots' : Nat), lv_has ls' nL (sm_lv (sm_ad st base) lv') → va_P D cl (sm_w (sm_ad st base) cA base h') H' → va_S (fun q => base ≤ q) s.heap H' locs' → n0 + cells' = h'.length → z0 + slots' = sm_sz h' → W p l e R s m args below meth c H' locs' cells' slots' Q (F0 m pc' ls' (sk'.map (sm_v (sm_ad st base))))) :
    W p l e R s m args below meth c H locs cells slots Q (F0 m pc ls (sk.map (sm_v (sm_ad st base)))) := by
    have hs1 := sm_i1_eq hs
    clear hs
    obtain ⟨x, r, e0, hs⟩ := hs1
    subst e0
    cases hs
    exact lv_i2l hx hb hdg rfl (k _ _ _ _ _ hl hP hS hc1 hc2)
set_option maxHeartbeats 1000000 in
theorem sn_i2b {p : Program} {l : Launch} {e : Env} {R : Room} {s : State} {m : MethodId} {args : Array Value} {below : List Frame} {meth : Method} {c : Code} {H : Heap} {locs : List Loc} {cells slots : Nat} {Q : State → Prop} {cc : ByteArray} {nL n0 z0 d base : Nat} {st : Nat → Nat} {cA : Nat → ClassId} {D : va_G} {cl : List vw_C} {Cq own : String} {cq : Nat} {RO : List (Nat × (Nat → Int32))} {SF : List (String × String × String × Nat)} {Ts : List Jvm.Cond} {tyc : Nat → Nat → FieldType} {NV : Nat → List Value} {lk : Nat → Option sm_L} {ini : Bool} 
    (hx : p.tables.exec = Jvm.exec) (hb : c.code = cc) (hml : c.maxLocals = nL) (hown : s.vm.findClass own = some m.cls) (hts : ∀ w ∈ Ts, w.before args s = true) (hok : ∀ ix q, lk ix = some q → sm_okL cl tyc SF Cq Ts own ix q) (hcl : sm_okC cl tyc NV Ts) (hcq : ∃ r : vw_C, cl[cq]? = some r ∧ r.1 = Cq)
    (hini : ini = true → meth.name = "<init>") (hE : sm_env D cl cA Cq RO SF st base s s.heap) (hb0 : s.heap.size = base + n0) (hd : d ≤ R.frames) (hdl : d * 100 ≤ R.locals) (har : ∀ q t, sm_aty q = some t → Jvm.Cond.arrayClass (newarray.typeOf q) ∈ Ts)
    {len pc pc' : Nat} {lv lv' : sm_V} {sk sk' : List Value} {h h' : sm_H} {ls : Array Slot} (hdg : decode cc pc = .ok (.i2b, sm_len .i2b len)) (hl : lv_has ls nL (sm_lv (sm_ad st base) lv)) (hP : va_P D cl (sm_w (sm_ad st base) cA base h) H) (hS : va_S (fun q => base ≤ q) s.heap H locs) (hc1 : n0 + cells = h.length) (hc2 : z0 + slots = sm_sz h)
    (hm1 : h'.length ≤ n0 + R.cells) (hm2 : sm_sz h' ≤ z0 + R.slots) (hs : sm_step lk RO NV cq ini nL d .i2b pc lv sk h = some (pc', lv', sk', h'))
    (k : ∀ (ls' : Array Slot) (H' : Heap) (locs' : List Loc) (cells' slots' : Nat), lv_has ls' nL (sm_lv (sm_ad st base) lv') → va_P D cl (sm_w (sm_ad st base) cA base h') H' → va_S (fun q => base ≤ q) s.heap H' locs' → n0 + cells' = h'.length → z0 + slots' = sm_sz h' → W p l e R s m args below meth c H' locs' cells' slots' Q (F0 m pc' ls' (sk'.map (sm_v (sm_ad st base))))) :
    W p l e R s m args below meth c H locs cells slots Q (F0 m pc ls (sk.map (sm_v (sm_ad st base)))) := by
    have hs1 := sm_i1_eq hs
    clear hs
    obtain ⟨x, r, e0, hs⟩ := hs1
    subst e0
    cases hs
    exact lv_i2b hx hb hdg rfl (k _ _ _ _ _ hl hP hS hc1 hc2)
set_option maxHeartbeats 1000000 in
theorem sn_i2s {p : Program} {l : Launch} {e : Env} {R : Room} {s : State} {m : MethodId} {args : Array Value} {below : List Frame} {meth : Method} {c : Code} {H : Heap} {locs : List Loc} {cells slots : Nat} {Q : State → Prop} {cc : ByteArray} {nL n0 z0 d base : Nat} {st : Nat → Nat} {cA : Nat → ClassId} {D : va_G} {cl : List vw_C} {Cq own : String} {cq : Nat} {RO : List (Nat × (Nat → Int32))} {SF : List (String × String × String × Nat)} {Ts : List Jvm.Cond} {tyc : Nat → Nat → FieldType} {NV : Nat → List Value} {lk : Nat → Option sm_L} {ini : Bool} 
    (hx : p.tables.exec = Jvm.exec) (hb : c.code = cc) (hml : c.maxLocals = nL) (hown : s.vm.findClass own = some m.cls) (hts : ∀ w ∈ Ts, w.before args s = true) (hok : ∀ ix q, lk ix = some q → sm_okL cl tyc SF Cq Ts own ix q) (hcl : sm_okC cl tyc NV Ts) (hcq : ∃ r : vw_C, cl[cq]? = some r ∧ r.1 = Cq)
    (hini : ini = true → meth.name = "<init>") (hE : sm_env D cl cA Cq RO SF st base s s.heap) (hb0 : s.heap.size = base + n0) (hd : d ≤ R.frames) (hdl : d * 100 ≤ R.locals) (har : ∀ q t, sm_aty q = some t → Jvm.Cond.arrayClass (newarray.typeOf q) ∈ Ts)
    {len pc pc' : Nat} {lv lv' : sm_V} {sk sk' : List Value} {h h' : sm_H} {ls : Array Slot} (hdg : decode cc pc = .ok (.i2s, sm_len .i2s len)) (hl : lv_has ls nL (sm_lv (sm_ad st base) lv)) (hP : va_P D cl (sm_w (sm_ad st base) cA base h) H) (hS : va_S (fun q => base ≤ q) s.heap H locs) (hc1 : n0 + cells = h.length) (hc2 : z0 + slots = sm_sz h)
    (hm1 : h'.length ≤ n0 + R.cells) (hm2 : sm_sz h' ≤ z0 + R.slots) (hs : sm_step lk RO NV cq ini nL d .i2s pc lv sk h = some (pc', lv', sk', h'))
    (k : ∀ (ls' : Array Slot) (H' : Heap) (locs' : List Loc) (cells' slots' : Nat), lv_has ls' nL (sm_lv (sm_ad st base) lv') → va_P D cl (sm_w (sm_ad st base) cA base h') H' → va_S (fun q => base ≤ q) s.heap H' locs' → n0 + cells' = h'.length → z0 + slots' = sm_sz h' → W p l e R s m args below meth c H' locs' cells' slots' Q (F0 m pc' ls' (sk'.map (sm_v (sm_ad st base))))) :
    W p l e R s m args below meth c H locs cells slots Q (F0 m pc ls (sk.map (sm_v (sm_ad st base)))) := by
    have hs1 := sm_i1_eq hs
    clear hs
    obtain ⟨x, r, e0, hs⟩ := hs1
    subst e0
    cases hs
    exact lv_i2s hx hb hdg rfl (k _ _ _ _ _ hl hP hS hc1 hc2)
set_option maxHeartbeats 1000000 in
theorem sn_l2i {p : Program} {l : Launch} {e : Env} {R : Room} {s : State} {m : MethodId} {args : Array Value} {below : List Frame} {meth : Method} {c : Code} {H : Heap} {locs : List Loc} {cells slots : Nat} {Q : State → Prop} {cc : ByteArray} {nL n0 z0 d base : Nat} {st : Nat → Nat} {cA : Nat → ClassId} {D : va_G} {cl : List vw_C} {Cq own : String} {cq : Nat} {RO : List (Nat × (Nat → Int32))} {SF : List (String × String × String × Nat)} {Ts : List Jvm.Cond} {tyc : Nat → Nat → FieldType} {NV : Nat → List Value} {lk : Nat → Option sm_L} {ini : Bool} 
    (hx : p.tables.exec = Jvm.exec) (hb : c.code = cc) (hml : c.maxLocals = nL) (hown : s.vm.findClass own = some m.cls) (hts : ∀ w ∈ Ts, w.before args s = true) (hok : ∀ ix q, lk ix = some q → sm_okL cl tyc SF Cq Ts own ix q) (hcl : sm_okC cl tyc NV Ts) (hcq : ∃ r : vw_C, cl[cq]? = some r ∧ r.1 = Cq)
    (hini : ini = true → meth.name = "<init>") (hE : sm_env D cl cA Cq RO SF st base s s.heap) (hb0 : s.heap.size = base + n0) (hd : d ≤ R.frames) (hdl : d * 100 ≤ R.locals) (har : ∀ q t, sm_aty q = some t → Jvm.Cond.arrayClass (newarray.typeOf q) ∈ Ts)
    {len pc pc' : Nat} {lv lv' : sm_V} {sk sk' : List Value} {h h' : sm_H} {ls : Array Slot} (hdg : decode cc pc = .ok (.l2i, sm_len .l2i len)) (hl : lv_has ls nL (sm_lv (sm_ad st base) lv)) (hP : va_P D cl (sm_w (sm_ad st base) cA base h) H) (hS : va_S (fun q => base ≤ q) s.heap H locs) (hc1 : n0 + cells = h.length) (hc2 : z0 + slots = sm_sz h)
    (hm1 : h'.length ≤ n0 + R.cells) (hm2 : sm_sz h' ≤ z0 + R.slots) (hs : sm_step lk RO NV cq ini nL d .l2i pc lv sk h = some (pc', lv', sk', h'))
    (k : ∀ (ls' : Array Slot) (H' : Heap) (locs' : List Loc) (cells' slots' : Nat), lv_has ls' nL (sm_lv (sm_ad st base) lv') → va_P D cl (sm_w (sm_ad st base) cA base h') H' → va_S (fun q => base ≤ q) s.heap H' locs' → n0 + cells' = h'.length → z0 + slots' = sm_sz h' → W p l e R s m args below meth c H' locs' cells' slots' Q (F0 m pc' ls' (sk'.map (sm_v (sm_ad st base))))) :
    W p l e R s m args below meth c H locs cells slots Q (F0 m pc ls (sk.map (sm_v (sm_ad st base)))) := by
    have hs1 := sm_l1_eq hs
    clear hs
    obtain ⟨x, r, e0, hs⟩ := hs1
    subst e0
    cases hs
    exact lv_l2i hx hb hdg rfl (k _ _ _ _ _ hl hP hS hc1 hc2)
set_option maxHeartbeats 1000000 in
theorem sn_dup {p : Program} {l : Launch} {e : Env} {R : Room} {s : State} {m : MethodId} {args : Array Value} {below : List Frame} {meth : Method} {c : Code} {H : Heap} {locs : List Loc} {cells slots : Nat} {Q : State → Prop} {cc : ByteArray} {nL n0 z0 d base : Nat} {st : Nat → Nat} {cA : Nat → ClassId} {D : va_G} {cl : List vw_C} {Cq own : String} {cq : Nat} {RO : List (Nat × (Nat → Int32))} {SF : List (String × String × String × Nat)} {Ts : List Jvm.Cond} {tyc : Nat → Nat → FieldType} {NV : Nat → List Value} {lk : Nat → Option sm_L} {ini : Bool} 
    (hx : p.tables.exec = Jvm.exec) (hb : c.code = cc) (hml : c.maxLocals = nL) (hown : s.vm.findClass own = some m.cls) (hts : ∀ w ∈ Ts, w.before args s = true) (hok : ∀ ix q, lk ix = some q → sm_okL cl tyc SF Cq Ts own ix q) (hcl : sm_okC cl tyc NV Ts) (hcq : ∃ r : vw_C, cl[cq]? = some r ∧ r.1 = Cq)
    (hini : ini = true → meth.name = "<init>") (hE : sm_env D cl cA Cq RO SF st base s s.heap) (hb0 : s.heap.size = base + n0) (hd : d ≤ R.frames) (hdl : d * 100 ≤ R.locals) (har : ∀ q t, sm_aty q = some t → Jvm.Cond.arrayClass (newarray.typeOf q) ∈ Ts)
    {len pc pc' : Nat} {lv lv' : sm_V} {sk sk' : List Value} {h h' : sm_H} {ls : Array Slot} (hdg : decode cc pc = .ok (.dup, sm_len .dup len)) (hl : lv_has ls nL (sm_lv (sm_ad st base) lv)) (hP : va_P D cl (sm_w (sm_ad st base) cA base h) H) (hS : va_S (fun q => base ≤ q) s.heap H locs) (hc1 : n0 + cells = h.length) (hc2 : z0 + slots = sm_sz h)
    (hm1 : h'.length ≤ n0 + R.cells) (hm2 : sm_sz h' ≤ z0 + R.slots) (hs : sm_step lk RO NV cq ini nL d .dup pc lv sk h = some (pc', lv', sk', h'))
    (k : ∀ (ls' : Array Slot) (H' : Heap) (locs' : List Loc) (cells' slots' : Nat), lv_has ls' nL (sm_lv (sm_ad st base) lv') → va_P D cl (sm_w (sm_ad st base) cA base h') H' → va_S (fun q => base ≤ q) s.heap H' locs' → n0 + cells' = h'.length → z0 + slots' = sm_sz h' → W p l e R s m args below meth c H' locs' cells' slots' Q (F0 m pc' ls' (sk'.map (sm_v (sm_ad st base))))) :
    W p l e R s m args below meth c H locs cells slots Q (F0 m pc ls (sk.map (sm_v (sm_ad st base)))) := by
    dsimp only [sm_step] at hs
    split at hs
    · split at hs
      · rename_i hv
        cases hs
        exact lv_dup hx hb hdg ((sm_v_cat _ _).trans hv) (k _ _ _ _ _ hl hP hS hc1 hc2)
      · cases hs
    · cases hs
set_option maxHeartbeats 1000000 in
theorem sn_pop {p : Program} {l : Launch} {e : Env} {R : Room} {s : State} {m : MethodId} {args : Array Value} {below : List Frame} {meth : Method} {c : Code} {H : Heap} {locs : List Loc} {cells slots : Nat} {Q : State → Prop} {cc : ByteArray} {nL n0 z0 d base : Nat} {st : Nat → Nat} {cA : Nat → ClassId} {D : va_G} {cl : List vw_C} {Cq own : String} {cq : Nat} {RO : List (Nat × (Nat → Int32))} {SF : List (String × String × String × Nat)} {Ts : List Jvm.Cond} {tyc : Nat → Nat → FieldType} {NV : Nat → List Value} {lk : Nat → Option sm_L} {ini : Bool} 
    (hx : p.tables.exec = Jvm.exec) (hb : c.code = cc) (hml : c.maxLocals = nL) (hown : s.vm.findClass own = some m.cls) (hts : ∀ w ∈ Ts, w.before args s = true) (hok : ∀ ix q, lk ix = some q → sm_okL cl tyc SF Cq Ts own ix q) (hcl : sm_okC cl tyc NV Ts) (hcq : ∃ r : vw_C, cl[cq]? = some r ∧ r.1 = Cq)
    (hini : ini = true → meth.name = "<init>") (hE : sm_env D cl cA Cq RO SF st base s s.heap) (hb0 : s.heap.size = base + n0) (hd : d ≤ R.frames) (hdl : d * 100 ≤ R.locals) (har : ∀ q t, sm_aty q = some t → Jvm.Cond.arrayClass (newarray.typeOf q) ∈ Ts)
    {len pc pc' : Nat} {lv lv' : sm_V} {sk sk' : List Value} {h h' : sm_H} {ls : Array Slot} (hdg : decode cc pc = .ok (.pop, sm_len .pop len)) (hl : lv_has ls nL (sm_lv (sm_ad st base) lv)) (hP : va_P D cl (sm_w (sm_ad st base) cA base h) H) (hS : va_S (fun q => base ≤ q) s.heap H locs) (hc1 : n0 + cells = h.length) (hc2 : z0 + slots = sm_sz h)
    (hm1 : h'.length ≤ n0 + R.cells) (hm2 : sm_sz h' ≤ z0 + R.slots) (hs : sm_step lk RO NV cq ini nL d .pop pc lv sk h = some (pc', lv', sk', h'))
    (k : ∀ (ls' : Array Slot) (H' : Heap) (locs' : List Loc) (cells' slots' : Nat), lv_has ls' nL (sm_lv (sm_ad st base) lv') → va_P D cl (sm_w (sm_ad st base) cA base h') H' → va_S (fun q => base ≤ q) s.heap H' locs' → n0 + cells' = h'.length → z0 + slots' = sm_sz h' → W p l e R s m args below meth c H' locs' cells' slots' Q (F0 m pc' ls' (sk'.map (sm_v (sm_ad st base))))) :
    W p l e R s m args below meth c H locs cells slots Q (F0 m pc ls (sk.map (sm_v (sm_ad st base)))) := by
    dsimp only [sm_step] at hs
    split at hs
    · split at hs
      · rename_i hv
        cases hs
        exact lv_pop hx hb hdg ((sm_v_cat _ _).trans hv) (k _ _ _ _ _ hl hP hS hc1 hc2)
      · cases hs
    · cases hs
set_option maxHeartbeats 1000000 in
theorem sn_pop2 {p : Program} {l : Launch} {e : Env} {R : Room} {s : State} {m : MethodId} {args : Array Value} {below : List Frame} {meth : Method} {c : Code} {H : Heap} {locs : List Loc} {cells slots : Nat} {Q : State → Prop} {cc : ByteArray} {nL n0 z0 d base : Nat} {st : Nat → Nat} {cA : Nat → ClassId} {D : va_G} {cl : List vw_C} {Cq own : String} {cq : Nat} {RO : List (Nat × (Nat → Int32))} {SF : List (String × String × String × Nat)} {Ts : List Jvm.Cond} {tyc : Nat → Nat → FieldType} {NV : Nat → List Value} {lk : Nat → Option sm_L} {ini : Bool} 
    (hx : p.tables.exec = Jvm.exec) (hb : c.code = cc) (hml : c.maxLocals = nL) (hown : s.vm.findClass own = some m.cls) (hts : ∀ w ∈ Ts, w.before args s = true) (hok : ∀ ix q, lk ix = some q → sm_okL cl tyc SF Cq Ts own ix q) (hcl : sm_okC cl tyc NV Ts) (hcq : ∃ r : vw_C, cl[cq]? = some r ∧ r.1 = Cq)
    (hini : ini = true → meth.name = "<init>") (hE : sm_env D cl cA Cq RO SF st base s s.heap) (hb0 : s.heap.size = base + n0) (hd : d ≤ R.frames) (hdl : d * 100 ≤ R.locals) (har : ∀ q t, sm_aty q = some t → Jvm.Cond.arrayClass (newarray.typeOf q) ∈ Ts)
    {len pc pc' : Nat} {lv lv' : sm_V} {sk sk' : List Value} {h h' : sm_H} {ls : Array Slot} (hdg : decode cc pc = .ok (.pop2, sm_len .pop2 len)) (hl : lv_has ls nL (sm_lv (sm_ad st base) lv)) (hP : va_P D cl (sm_w (sm_ad st base) cA base h) H) (hS : va_S (fun q => base ≤ q) s.heap H locs) (hc1 : n0 + cells = h.length) (hc2 : z0 + slots = sm_sz h)
    (hm1 : h'.length ≤ n0 + R.cells) (hm2 : sm_sz h' ≤ z0 + R.slots) (hs : sm_step lk RO NV cq ini nL d .pop2 pc lv sk h = some (pc', lv', sk', h'))
    (k : ∀ (ls' : Array Slot) (H' : Heap) (locs' : List Loc) (cells' slots' : Nat), lv_has ls' nL (sm_lv (sm_ad st base) lv') → va_P D cl (sm_w (sm_ad st base) cA base h') H' → va_S (fun q => base ≤ q) s.heap H' locs' → n0 + cells' = h'.length → z0 + slots' = sm_sz h' → W p l e R s m args below meth c H' locs' cells' slots' Q (F0 m pc' ls' (sk'.map (sm_v (sm_ad st base))))) :
    W p l e R s m args below meth c H locs cells slots Q (F0 m pc ls (sk.map (sm_v (sm_ad st base)))) := by
    dsimp only [sm_step] at hs
    split at hs
    · split at hs
      · rename_i hv
        cases hs
        exact lv_pop2_2 hx hb hdg ((sm_v_cat _ _).trans hv) (k _ _ _ _ _ hl hP hS hc1 hc2)
      · cases hs
    · cases hs
set_option maxHeartbeats 1000000 in
theorem sn_dup2 {p : Program} {l : Launch} {e : Env} {R : Room} {s : State} {m : MethodId} {args : Array Value} {below : List Frame} {meth : Method} {c : Code} {H : Heap} {locs : List Loc} {cells slots : Nat} {Q : State → Prop} {cc : ByteArray} {nL n0 z0 d base : Nat} {st : Nat → Nat} {cA : Nat → ClassId} {D : va_G} {cl : List vw_C} {Cq own : String} {cq : Nat} {RO : List (Nat × (Nat → Int32))} {SF : List (String × String × String × Nat)} {Ts : List Jvm.Cond} {tyc : Nat → Nat → FieldType} {NV : Nat → List Value} {lk : Nat → Option sm_L} {ini : Bool} 
    (hx : p.tables.exec = Jvm.exec) (hb : c.code = cc) (hml : c.maxLocals = nL) (hown : s.vm.findClass own = some m.cls) (hts : ∀ w ∈ Ts, w.before args s = true) (hok : ∀ ix q, lk ix = some q → sm_okL cl tyc SF Cq Ts own ix q) (hcl : sm_okC cl tyc NV Ts) (hcq : ∃ r : vw_C, cl[cq]? = some r ∧ r.1 = Cq)
    (hini : ini = true → meth.name = "<init>") (hE : sm_env D cl cA Cq RO SF st base s s.heap) (hb0 : s.heap.size = base + n0) (hd : d ≤ R.frames) (hdl : d * 100 ≤ R.locals) (har : ∀ q t, sm_aty q = some t → Jvm.Cond.arrayClass (newarray.typeOf q) ∈ Ts)
    {len pc pc' : Nat} {lv lv' : sm_V} {sk sk' : List Value} {h h' : sm_H} {ls : Array Slot} (hdg : decode cc pc = .ok (.dup2, sm_len .dup2 len)) (hl : lv_has ls nL (sm_lv (sm_ad st base) lv)) (hP : va_P D cl (sm_w (sm_ad st base) cA base h) H) (hS : va_S (fun q => base ≤ q) s.heap H locs) (hc1 : n0 + cells = h.length) (hc2 : z0 + slots = sm_sz h)
    (hm1 : h'.length ≤ n0 + R.cells) (hm2 : sm_sz h' ≤ z0 + R.slots) (hs : sm_step lk RO NV cq ini nL d .dup2 pc lv sk h = some (pc', lv', sk', h'))
    (k : ∀ (ls' : Array Slot) (H' : Heap) (locs' : List Loc) (cells' slots' : Nat), lv_has ls' nL (sm_lv (sm_ad st base) lv') → va_P D cl (sm_w (sm_ad st base) cA base h') H' → va_S (fun q => base ≤ q) s.heap H' locs' → n0 + cells' = h'.length → z0 + slots' = sm_sz h' → W p l e R s m args below meth c H' locs' cells' slots' Q (F0 m pc' ls' (sk'.map (sm_v (sm_ad st base))))) :
    W p l e R s m args below meth c H locs cells slots Q (F0 m pc ls (sk.map (sm_v (sm_ad st base)))) := by
    dsimp only [sm_step] at hs
    split at hs
    · split at hs
      · rename_i hv
        cases hs
        exact lv_dup2_11 hx hb hdg ((sm_v_cat _ _).trans hv.1) ((sm_v_cat _ _).trans hv.2) (k _ _ _ _ _ hl hP hS hc1 hc2)
      · cases hs
    · cases hs
set_option maxHeartbeats 1000000 in
theorem sn_dup_x1 {p : Program} {l : Launch} {e : Env} {R : Room} {s : State} {m : MethodId} {args : Array Value} {below : List Frame} {meth : Method} {c : Code} {H : Heap} {locs : List Loc} {cells slots : Nat} {Q : State → Prop} {cc : ByteArray} {nL n0 z0 d base : Nat} {st : Nat → Nat} {cA : Nat → ClassId} {D : va_G} {cl : List vw_C} {Cq own : String} {cq : Nat} {RO : List (Nat × (Nat → Int32))} {SF : List (String × String × String × Nat)} {Ts : List Jvm.Cond} {tyc : Nat → Nat → FieldType} {NV : Nat → List Value} {lk : Nat → Option sm_L} {ini : Bool} 
    (hx : p.tables.exec = Jvm.exec) (hb : c.code = cc) (hml : c.maxLocals = nL) (hown : s.vm.findClass own = some m.cls) (hts : ∀ w ∈ Ts, w.before args s = true) (hok : ∀ ix q, lk ix = some q → sm_okL cl tyc SF Cq Ts own ix q) (hcl : sm_okC cl tyc NV Ts) (hcq : ∃ r : vw_C, cl[cq]? = some r ∧ r.1 = Cq)
    (hini : ini = true → meth.name = "<init>") (hE : sm_env D cl cA Cq RO SF st base s s.heap) (hb0 : s.heap.size = base + n0) (hd : d ≤ R.frames) (hdl : d * 100 ≤ R.locals) (har : ∀ q t, sm_aty q = some t → Jvm.Cond.arrayClass (newarray.typeOf q) ∈ Ts)
    {len pc pc' : Nat} {lv lv' : sm_V} {sk sk' : List Value} {h h' : sm_H} {ls : Array Slot} (hdg : decode cc pc = .ok (.dup_x1, sm_len .dup_x1 len)) (hl : lv_has ls nL (sm_lv (sm_ad st base) lv)) (hP : va_P D cl (sm_w (sm_ad st base) cA base h) H) (hS : va_S (fun q => base ≤ q) s.heap H locs) (hc1 : n0 + cells = h.length) (hc2 : z0 + slots = sm_sz h)
    (hm1 : h'.length ≤ n0 + R.cells) (hm2 : sm_sz h' ≤ z0 + R.slots) (hs : sm_step lk RO NV cq ini nL d .dup_x1 pc lv sk h = some (pc', lv', sk', h'))
    (k : ∀ (ls' : Array Slot) (H' : Heap) (locs' : List Loc) (cells' slots' : Nat), lv_has ls' nL (sm_lv (sm_ad st base) lv') → va_P D cl (sm_w (sm_ad st base) cA base h') H' → va_S (fun q => base ≤ q) s.heap H' locs' → n0 + cells' = h'.length → z0 + slots' = sm_sz h' → W p l e R s m args below meth c H' locs' cells' slots' Q (F0 m pc' ls' (sk'.map (sm_v (sm_ad st base))))) :
    W p l e R s m args below meth c H locs cells slots Q (F0 m pc ls (sk.map (sm_v (sm_ad st base)))) := by
    dsimp only [sm_step] at hs
    split at hs
    · split at hs
      · rename_i hv
        cases hs
        exact lv_dup_x1 hx hb hdg ((sm_v_cat _ _).trans hv.1) ((sm_v_cat _ _).trans hv.2) (k _ _ _ _ _ hl hP hS hc1 hc2)
      · cases hs
    · cases hs
set_option maxHeartbeats 1000000 in
theorem sn_goto {p : Program} {l : Launch} {e : Env} {R : Room} {s : State} {m : MethodId} {args : Array Value} {below : List Frame} {meth : Method} {c : Code} {H : Heap} {locs : List Loc} {cells slots : Nat} {Q : State → Prop} {cc : ByteArray} {nL n0 z0 d base : Nat} {st : Nat → Nat} {cA : Nat → ClassId} {D : va_G} {cl : List vw_C} {Cq own : String} {cq : Nat} {RO : List (Nat × (Nat → Int32))} {SF : List (String × String × String × Nat)} {Ts : List Jvm.Cond} {tyc : Nat → Nat → FieldType} {NV : Nat → List Value} {lk : Nat → Option sm_L} {ini : Bool} {off : Int}
    (hx : p.tables.exec = Jvm.exec) (hb : c.code = cc) (hml : c.maxLocals = nL) (hown : s.vm.findClass own = some m.cls) (hts : ∀ w ∈ Ts, w.before args s = true) (hok : ∀ ix q, lk ix = some q → sm_okL cl tyc SF Cq Ts own ix q) (hcl : sm_okC cl tyc NV Ts) (hcq : ∃ r : vw_C, cl[cq]? = some r ∧ r.1 = Cq)
    (hini : ini = true → meth.name = "<init>") (hE : sm_env D cl cA Cq RO SF st base s s.heap) (hb0 : s.heap.size = base + n0) (hd : d ≤ R.frames) (hdl : d * 100 ≤ R.locals) (har : ∀ q t, sm_aty q = some t → Jvm.Cond.arrayClass (newarray.typeOf q) ∈ Ts)
    {len pc pc' : Nat} {lv lv' : sm_V} {sk sk' : List Value} {h h' : sm_H} {ls : Array Slot} (hdg : decode cc pc = .ok ((.goto off), sm_len (.goto off) len)) (hl : lv_has ls nL (sm_lv (sm_ad st base) lv)) (hP : va_P D cl (sm_w (sm_ad st base) cA base h) H) (hS : va_S (fun q => base ≤ q) s.heap H locs) (hc1 : n0 + cells = h.length) (hc2 : z0 + slots = sm_sz h)
    (hm1 : h'.length ≤ n0 + R.cells) (hm2 : sm_sz h' ≤ z0 + R.slots) (hs : sm_step lk RO NV cq ini nL d (.goto off) pc lv sk h = some (pc', lv', sk', h'))
    (k : ∀ (ls' : Array Slot) (H' : Heap) (locs' : List Loc) (cells' slots' : Nat), lv_has ls' nL (sm_lv (sm_ad st base) lv') → va_P D cl (sm_w (sm_ad st base) cA base h') H' → va_S (fun q => base ≤ q) s.heap H' locs' → n0 + cells' = h'.length → z0 + slots' = sm_sz h' → W p l e R s m args below meth c H' locs' cells' slots' Q (F0 m pc' ls' (sk'.map (sm_v (sm_ad st base))))) :
    W p l e R s m args below meth c H locs cells slots Q (F0 m pc ls (sk.map (sm_v (sm_ad st base)))) := by
    obtain ⟨t, ht, hs⟩ := sm_jump_eq hs
    cases hs
    exact lv_goto hx hb hdg (sm_tg_eq ht) (k _ _ _ _ _ hl hP hS hc1 hc2)
set_option maxHeartbeats 1000000 in
theorem sn_ifCond_eq {p : Program} {l : Launch} {e : Env} {R : Room} {s : State} {m : MethodId} {args : Array Value} {below : List Frame} {meth : Method} {c : Code} {H : Heap} {locs : List Loc} {cells slots : Nat} {Q : State → Prop} {cc : ByteArray} {nL n0 z0 d base : Nat} {st : Nat → Nat} {cA : Nat → ClassId} {D : va_G} {cl : List vw_C} {Cq own : String} {cq : Nat} {RO : List (Nat × (Nat → Int32))} {SF : List (String × String × String × Nat)} {Ts : List Jvm.Cond} {tyc : Nat → Nat → FieldType} {NV : Nat → List Value} {lk : Nat → Option sm_L} {ini : Bool} {off : Int}
    (hx : p.tables.exec = Jvm.exec) (hb : c.code = cc) (hml : c.maxLocals = nL) (hown : s.vm.findClass own = some m.cls) (hts : ∀ w ∈ Ts, w.before args s = true) (hok : ∀ ix q, lk ix = some q → sm_okL cl tyc SF Cq Ts own ix q) (hcl : sm_okC cl tyc NV Ts) (hcq : ∃ r : vw_C, cl[cq]? = some r ∧ r.1 = Cq)
    (hini : ini = true → meth.name = "<init>") (hE : sm_env D cl cA Cq RO SF st base s s.heap) (hb0 : s.heap.size = base + n0) (hd : d ≤ R.frames) (hdl : d * 100 ≤ R.locals) (har : ∀ q t, sm_aty q = some t → Jvm.Cond.arrayClass (newarray.typeOf q) ∈ Ts)
    {len pc pc' : Nat} {lv lv' : sm_V} {sk sk' : List Value} {h h' : sm_H} {ls : Array Slot} (hdg : decode cc pc = .ok ((.ifCond .eq off), sm_len (.ifCond .eq off) len)) (hl : lv_has ls nL (sm_lv (sm_ad st base) lv)) (hP : va_P D cl (sm_w (sm_ad st base) cA base h) H) (hS : va_S (fun q => base ≤ q) s.heap H locs) (hc1 : n0 + cells = h.length) (hc2 : z0 + slots = sm_sz h)
    (hm1 : h'.length ≤ n0 + R.cells) (hm2 : sm_sz h' ≤ z0 + R.slots) (hs : sm_step lk RO NV cq ini nL d (.ifCond .eq off) pc lv sk h = some (pc', lv', sk', h'))
    (k : ∀ (ls' : Array Slot) (H' : Heap) (locs' : List Loc) (cells' slots' : Nat), lv_has ls' nL (sm_lv (sm_ad st base) lv') → va_P D cl (sm_w (sm_ad st base) cA base h') H' → va_S (fun q => base ≤ q) s.heap H' locs' → n0 + cells' = h'.length → z0 + slots' = sm_sz h' → W p l e R s m args below meth c H' locs' cells' slots' Q (F0 m pc' ls' (sk'.map (sm_v (sm_ad st base))))) :
    W p l e R s m args below meth c H locs cells slots Q (F0 m pc ls (sk.map (sm_v (sm_ad st base)))) := by
    have hs1 := sm_i1_eq hs
    clear hs
    obtain ⟨x, r, e0, hs⟩ := hs1
    subst e0
    obtain ⟨t, ht, hs⟩ := sm_br_eq hs
    cases hs
    refine lv_if_eq hx hb hdg (sm_tg_eq ht) (fun h9 => ?_) (fun h9 => ?_)
    · have k9 := k _ _ _ _ _ hl hP hS hc1 hc2
      rw [if_pos (show sm_c1 .eq x = true from by unfold sm_c1; simpa using h9)] at k9
      exact k9
    · have k9 := k _ _ _ _ _ hl hP hS hc1 hc2
      rw [if_neg (show ¬ sm_c1 .eq x = true from by unfold sm_c1; simpa using h9)] at k9
      exact k9
set_option maxHeartbeats 1000000 in
theorem sn_if_icmp_eq {p : Program} {l : Launch} {e : Env} {R : Room} {s : State} {m : MethodId} {args : Array Value} {below : List Frame} {meth : Method} {c : Code} {H : Heap} {locs : List Loc} {cells slots : Nat} {Q : State → Prop} {cc : ByteArray} {nL n0 z0 d base : Nat} {st : Nat → Nat} {cA : Nat → ClassId} {D : va_G} {cl : List vw_C} {Cq own : String} {cq : Nat} {RO : List (Nat × (Nat → Int32))} {SF : List (String × String × String × Nat)} {Ts : List Jvm.Cond} {tyc : Nat → Nat → FieldType} {NV : Nat → List Value} {lk : Nat → Option sm_L} {ini : Bool} {off : Int}
    (hx : p.tables.exec = Jvm.exec) (hb : c.code = cc) (hml : c.maxLocals = nL) (hown : s.vm.findClass own = some m.cls) (hts : ∀ w ∈ Ts, w.before args s = true) (hok : ∀ ix q, lk ix = some q → sm_okL cl tyc SF Cq Ts own ix q) (hcl : sm_okC cl tyc NV Ts) (hcq : ∃ r : vw_C, cl[cq]? = some r ∧ r.1 = Cq)
    (hini : ini = true → meth.name = "<init>") (hE : sm_env D cl cA Cq RO SF st base s s.heap) (hb0 : s.heap.size = base + n0) (hd : d ≤ R.frames) (hdl : d * 100 ≤ R.locals) (har : ∀ q t, sm_aty q = some t → Jvm.Cond.arrayClass (newarray.typeOf q) ∈ Ts)
    {len pc pc' : Nat} {lv lv' : sm_V} {sk sk' : List Value} {h h' : sm_H} {ls : Array Slot} (hdg : decode cc pc = .ok ((.if_icmp .eq off), sm_len (.if_icmp .eq off) len)) (hl : lv_has ls nL (sm_lv (sm_ad st base) lv)) (hP : va_P D cl (sm_w (sm_ad st base) cA base h) H) (hS : va_S (fun q => base ≤ q) s.heap H locs) (hc1 : n0 + cells = h.length) (hc2 : z0 + slots = sm_sz h)
    (hm1 : h'.length ≤ n0 + R.cells) (hm2 : sm_sz h' ≤ z0 + R.slots) (hs : sm_step lk RO NV cq ini nL d (.if_icmp .eq off) pc lv sk h = some (pc', lv', sk', h'))
    (k : ∀ (ls' : Array Slot) (H' : Heap) (locs' : List Loc) (cells' slots' : Nat), lv_has ls' nL (sm_lv (sm_ad st base) lv') → va_P D cl (sm_w (sm_ad st base) cA base h') H' → va_S (fun q => base ≤ q) s.heap H' locs' → n0 + cells' = h'.length → z0 + slots' = sm_sz h' → W p l e R s m args below meth c H' locs' cells' slots' Q (F0 m pc' ls' (sk'.map (sm_v (sm_ad st base))))) :
    W p l e R s m args below meth c H locs cells slots Q (F0 m pc ls (sk.map (sm_v (sm_ad st base)))) := by
    have hs1 := sm_i2_eq hs
    clear hs
    obtain ⟨x, y, r, e0, hs⟩ := hs1
    subst e0
    obtain ⟨t, ht, hs⟩ := sm_br_eq hs
    cases hs
    refine lv_icmp_eq hx hb hdg (sm_tg_eq ht) (fun h9 => ?_) (fun h9 => ?_)
    · have k9 := k _ _ _ _ _ hl hP hS hc1 hc2
      rw [if_pos (show sm_c2 .eq x y = true from by unfold sm_c2; simpa using h9)] at k9
      exact k9
    · have k9 := k _ _ _ _ _ hl hP hS hc1 hc2
      rw [if_neg (show ¬ sm_c2 .eq x y = true from by unfold sm_c2; simpa using h9)] at k9
      exact k9
set_option maxHeartbeats 1000000 in
theorem sn_ifCond_ne {p : Program} {l : Launch} {e : Env} {R : Room} {s : State} {m : MethodId} {args : Array Value} {below : List Frame} {meth : Method} {c : Code} {H : Heap} {locs : List Loc} {cells slots : Nat} {Q : State → Prop} {cc : ByteArray} {nL n0 z0 d base : Nat} {st : Nat → Nat} {cA : Nat → ClassId} {D : va_G} {cl : List vw_C} {Cq own : String} {cq : Nat} {RO : List (Nat × (Nat → Int32))} {SF : List (String × String × String × Nat)} {Ts : List Jvm.Cond} {tyc : Nat → Nat → FieldType} {NV : Nat → List Value} {lk : Nat → Option sm_L} {ini : Bool} {off : Int}
    (hx : p.tables.exec = Jvm.exec) (hb : c.code = cc) (hml : c.maxLocals = nL) (hown : s.vm.findClass own = some m.cls) (hts : ∀ w ∈ Ts, w.before args s = true) (hok : ∀ ix q, lk ix = some q → sm_okL cl tyc SF Cq Ts own ix q) (hcl : sm_okC cl tyc NV Ts) (hcq : ∃ r : vw_C, cl[cq]? = some r ∧ r.1 = Cq)
    (hini : ini = true → meth.name = "<init>") (hE : sm_env D cl cA Cq RO SF st base s s.heap) (hb0 : s.heap.size = base + n0) (hd : d ≤ R.frames) (hdl : d * 100 ≤ R.locals) (har : ∀ q t, sm_aty q = some t → Jvm.Cond.arrayClass (newarray.typeOf q) ∈ Ts)
    {len pc pc' : Nat} {lv lv' : sm_V} {sk sk' : List Value} {h h' : sm_H} {ls : Array Slot} (hdg : decode cc pc = .ok ((.ifCond .ne off), sm_len (.ifCond .ne off) len)) (hl : lv_has ls nL (sm_lv (sm_ad st base) lv)) (hP : va_P D cl (sm_w (sm_ad st base) cA base h) H) (hS : va_S (fun q => base ≤ q) s.heap H locs) (hc1 : n0 + cells = h.length) (hc2 : z0 + slots = sm_sz h)
    (hm1 : h'.length ≤ n0 + R.cells) (hm2 : sm_sz h' ≤ z0 + R.slots) (hs : sm_step lk RO NV cq ini nL d (.ifCond .ne off) pc lv sk h = some (pc', lv', sk', h'))
    (k : ∀ (ls' : Array Slot) (H' : Heap) (locs' : List Loc) (cells' slots' : Nat), lv_has ls' nL (sm_lv (sm_ad st base) lv') → va_P D cl (sm_w (sm_ad st base) cA base h') H' → va_S (fun q => base ≤ q) s.heap H' locs' → n0 + cells' = h'.length → z0 + slots' = sm_sz h' → W p l e R s m args below meth c H' locs' cells' slots' Q (F0 m pc' ls' (sk'.map (sm_v (sm_ad st base))))) :
    W p l e R s m args below meth c H locs cells slots Q (F0 m pc ls (sk.map (sm_v (sm_ad st base)))) := by
    have hs1 := sm_i1_eq hs
    clear hs
    obtain ⟨x, r, e0, hs⟩ := hs1
    subst e0
    obtain ⟨t, ht, hs⟩ := sm_br_eq hs
    cases hs
    refine lv_if_ne hx hb hdg (sm_tg_eq ht) (fun h9 => ?_) (fun h9 => ?_)
    · have k9 := k _ _ _ _ _ hl hP hS hc1 hc2
      rw [if_pos (show sm_c1 .ne x = true from by unfold sm_c1; simpa using h9)] at k9
      exact k9
    · have k9 := k _ _ _ _ _ hl hP hS hc1 hc2
      rw [if_neg (show ¬ sm_c1 .ne x = true from by unfold sm_c1; simpa using h9)] at k9
      exact k9
set_option maxHeartbeats 1000000 in
theorem sn_if_icmp_ne {p : Program} {l : Launch} {e : Env} {R : Room} {s : State} {m : MethodId} {args : Array Value} {below : List Frame} {meth : Method} {c : Code} {H : Heap} {locs : List Loc} {cells slots : Nat} {Q : State → Prop} {cc : ByteArray} {nL n0 z0 d base : Nat} {st : Nat → Nat} {cA : Nat → ClassId} {D : va_G} {cl : List vw_C} {Cq own : String} {cq : Nat} {RO : List (Nat × (Nat → Int32))} {SF : List (String × String × String × Nat)} {Ts : List Jvm.Cond} {tyc : Nat → Nat → FieldType} {NV : Nat → List Value} {lk : Nat → Option sm_L} {ini : Bool} {off : Int}
    (hx : p.tables.exec = Jvm.exec) (hb : c.code = cc) (hml : c.maxLocals = nL) (hown : s.vm.findClass own = some m.cls) (hts : ∀ w ∈ Ts, w.before args s = true) (hok : ∀ ix q, lk ix = some q → sm_okL cl tyc SF Cq Ts own ix q) (hcl : sm_okC cl tyc NV Ts) (hcq : ∃ r : vw_C, cl[cq]? = some r ∧ r.1 = Cq)
    (hini : ini = true → meth.name = "<init>") (hE : sm_env D cl cA Cq RO SF st base s s.heap) (hb0 : s.heap.size = base + n0) (hd : d ≤ R.frames) (hdl : d * 100 ≤ R.locals) (har : ∀ q t, sm_aty q = some t → Jvm.Cond.arrayClass (newarray.typeOf q) ∈ Ts)
    {len pc pc' : Nat} {lv lv' : sm_V} {sk sk' : List Value} {h h' : sm_H} {ls : Array Slot} (hdg : decode cc pc = .ok ((.if_icmp .ne off), sm_len (.if_icmp .ne off) len)) (hl : lv_has ls nL (sm_lv (sm_ad st base) lv)) (hP : va_P D cl (sm_w (sm_ad st base) cA base h) H) (hS : va_S (fun q => base ≤ q) s.heap H locs) (hc1 : n0 + cells = h.length) (hc2 : z0 + slots = sm_sz h)
    (hm1 : h'.length ≤ n0 + R.cells) (hm2 : sm_sz h' ≤ z0 + R.slots) (hs : sm_step lk RO NV cq ini nL d (.if_icmp .ne off) pc lv sk h = some (pc', lv', sk', h'))
    (k : ∀ (ls' : Array Slot) (H' : Heap) (locs' : List Loc) (cells' slots' : Nat), lv_has ls' nL (sm_lv (sm_ad st base) lv') → va_P D cl (sm_w (sm_ad st base) cA base h') H' → va_S (fun q => base ≤ q) s.heap H' locs' → n0 + cells' = h'.length → z0 + slots' = sm_sz h' → W p l e R s m args below meth c H' locs' cells' slots' Q (F0 m pc' ls' (sk'.map (sm_v (sm_ad st base))))) :
    W p l e R s m args below meth c H locs cells slots Q (F0 m pc ls (sk.map (sm_v (sm_ad st base)))) := by
    have hs1 := sm_i2_eq hs
    clear hs
    obtain ⟨x, y, r, e0, hs⟩ := hs1
    subst e0
    obtain ⟨t, ht, hs⟩ := sm_br_eq hs
    cases hs
    refine lv_icmp_ne hx hb hdg (sm_tg_eq ht) (fun h9 => ?_) (fun h9 => ?_)
    · have k9 := k _ _ _ _ _ hl hP hS hc1 hc2
      rw [if_pos (show sm_c2 .ne x y = true from by unfold sm_c2; simpa using h9)] at k9
      exact k9
    · have k9 := k _ _ _ _ _ hl hP hS hc1 hc2
      rw [if_neg (show ¬ sm_c2 .ne x y = true from by unfold sm_c2; simpa using h9)] at k9
      exact k9
set_option maxHeartbeats 1000000 in
theorem sn_ifCond_lt {p : Program} {l : Launch} {e : Env} {R : Room} {s : State} {m : MethodId} {args : Array Value} {below : List Frame} {meth : Method} {c : Code} {H : Heap} {locs : List Loc} {cells slots : Nat} {Q : State → Prop} {cc : ByteArray} {nL n0 z0 d base : Nat} {st : Nat → Nat} {cA : Nat → ClassId} {D : va_G} {cl : List vw_C} {Cq own : String} {cq : Nat} {RO : List (Nat × (Nat → Int32))} {SF : List (String × String × String × Nat)} {Ts : List Jvm.Cond} {tyc : Nat → Nat → FieldType} {NV : Nat → List Value} {lk : Nat → Option sm_L} {ini : Bool} {off : Int}
    (hx : p.tables.exec = Jvm.exec) (hb : c.code = cc) (hml : c.maxLocals = nL) (hown : s.vm.findClass own = some m.cls) (hts : ∀ w ∈ Ts, w.before args s = true) (hok : ∀ ix q, lk ix = some q → sm_okL cl tyc SF Cq Ts own ix q) (hcl : sm_okC cl tyc NV Ts) (hcq : ∃ r : vw_C, cl[cq]? = some r ∧ r.1 = Cq)
    (hini : ini = true → meth.name = "<init>") (hE : sm_env D cl cA Cq RO SF st base s s.heap) (hb0 : s.heap.size = base + n0) (hd : d ≤ R.frames) (hdl : d * 100 ≤ R.locals) (har : ∀ q t, sm_aty q = some t → Jvm.Cond.arrayClass (newarray.typeOf q) ∈ Ts)
    {len pc pc' : Nat} {lv lv' : sm_V} {sk sk' : List Value} {h h' : sm_H} {ls : Array Slot} (hdg : decode cc pc = .ok ((.ifCond .lt off), sm_len (.ifCond .lt off) len)) (hl : lv_has ls nL (sm_lv (sm_ad st base) lv)) (hP : va_P D cl (sm_w (sm_ad st base) cA base h) H) (hS : va_S (fun q => base ≤ q) s.heap H locs) (hc1 : n0 + cells = h.length) (hc2 : z0 + slots = sm_sz h)
    (hm1 : h'.length ≤ n0 + R.cells) (hm2 : sm_sz h' ≤ z0 + R.slots) (hs : sm_step lk RO NV cq ini nL d (.ifCond .lt off) pc lv sk h = some (pc', lv', sk', h'))
    (k : ∀ (ls' : Array Slot) (H' : Heap) (locs' : List Loc) (cells' slots' : Nat), lv_has ls' nL (sm_lv (sm_ad st base) lv') → va_P D cl (sm_w (sm_ad st base) cA base h') H' → va_S (fun q => base ≤ q) s.heap H' locs' → n0 + cells' = h'.length → z0 + slots' = sm_sz h' → W p l e R s m args below meth c H' locs' cells' slots' Q (F0 m pc' ls' (sk'.map (sm_v (sm_ad st base))))) :
    W p l e R s m args below meth c H locs cells slots Q (F0 m pc ls (sk.map (sm_v (sm_ad st base)))) := by
    have hs1 := sm_i1_eq hs
    clear hs
    obtain ⟨x, r, e0, hs⟩ := hs1
    subst e0
    obtain ⟨t, ht, hs⟩ := sm_br_eq hs
    cases hs
    refine lv_if_lt hx hb hdg (sm_tg_eq ht) (fun h9 => ?_) (fun h9 => ?_)
    · have k9 := k _ _ _ _ _ hl hP hS hc1 hc2
      rw [if_pos (show sm_c1 .lt x = true from by unfold sm_c1; simpa using h9)] at k9
      exact k9
    · have k9 := k _ _ _ _ _ hl hP hS hc1 hc2
      rw [if_neg (show ¬ sm_c1 .lt x = true from by unfold sm_c1; simpa using h9)] at k9
      exact k9
set_option maxHeartbeats 1000000 in
theorem sn_if_icmp_lt {p : Program} {l : Launch} {e : Env} {R : Room} {s : State} {m : MethodId} {args : Array Value} {below : List Frame} {meth : Method} {c : Code} {H : Heap} {locs : List Loc} {cells slots : Nat} {Q : State → Prop} {cc : ByteArray} {nL n0 z0 d base : Nat} {st : Nat → Nat} {cA : Nat → ClassId} {D : va_G} {cl : List vw_C} {Cq own : String} {cq : Nat} {RO : List (Nat × (Nat → Int32))} {SF : List (String × String × String × Nat)} {Ts : List Jvm.Cond} {tyc : Nat → Nat → FieldType} {NV : Nat → List Value} {lk : Nat → Option sm_L} {ini : Bool} {off : Int}
    (hx : p.tables.exec = Jvm.exec) (hb : c.code = cc) (hml : c.maxLocals = nL) (hown : s.vm.findClass own = some m.cls) (hts : ∀ w ∈ Ts, w.before args s = true) (hok : ∀ ix q, lk ix = some q → sm_okL cl tyc SF Cq Ts own ix q) (hcl : sm_okC cl tyc NV Ts) (hcq : ∃ r : vw_C, cl[cq]? = some r ∧ r.1 = Cq)
    (hini : ini = true → meth.name = "<init>") (hE : sm_env D cl cA Cq RO SF st base s s.heap) (hb0 : s.heap.size = base + n0) (hd : d ≤ R.frames) (hdl : d * 100 ≤ R.locals) (har : ∀ q t, sm_aty q = some t → Jvm.Cond.arrayClass (newarray.typeOf q) ∈ Ts)
    {len pc pc' : Nat} {lv lv' : sm_V} {sk sk' : List Value} {h h' : sm_H} {ls : Array Slot} (hdg : decode cc pc = .ok ((.if_icmp .lt off), sm_len (.if_icmp .lt off) len)) (hl : lv_has ls nL (sm_lv (sm_ad st base) lv)) (hP : va_P D cl (sm_w (sm_ad st base) cA base h) H) (hS : va_S (fun q => base ≤ q) s.heap H locs) (hc1 : n0 + cells = h.length) (hc2 : z0 + slots = sm_sz h)
    (hm1 : h'.length ≤ n0 + R.cells) (hm2 : sm_sz h' ≤ z0 + R.slots) (hs : sm_step lk RO NV cq ini nL d (.if_icmp .lt off) pc lv sk h = some (pc', lv', sk', h'))
    (k : ∀ (ls' : Array Slot) (H' : Heap) (locs' : List Loc) (cells' slots' : Nat), lv_has ls' nL (sm_lv (sm_ad st base) lv') → va_P D cl (sm_w (sm_ad st base) cA base h') H' → va_S (fun q => base ≤ q) s.heap H' locs' → n0 + cells' = h'.length → z0 + slots' = sm_sz h' → W p l e R s m args below meth c H' locs' cells' slots' Q (F0 m pc' ls' (sk'.map (sm_v (sm_ad st base))))) :
    W p l e R s m args below meth c H locs cells slots Q (F0 m pc ls (sk.map (sm_v (sm_ad st base)))) := by
    have hs1 := sm_i2_eq hs
    clear hs
    obtain ⟨x, y, r, e0, hs⟩ := hs1
    subst e0
    obtain ⟨t, ht, hs⟩ := sm_br_eq hs
    cases hs
    refine lv_icmp_lt hx hb hdg (sm_tg_eq ht) (fun h9 => ?_) (fun h9 => ?_)
    · have k9 := k _ _ _ _ _ hl hP hS hc1 hc2
      rw [if_pos (show sm_c2 .lt x y = true from by unfold sm_c2; simpa using h9)] at k9
      exact k9
    · have k9 := k _ _ _ _ _ hl hP hS hc1 hc2
      rw [if_neg (show ¬ sm_c2 .lt x y = true from by unfold sm_c2; simpa using h9)] at k9
      exact k9
set_option maxHeartbeats 1000000 in
theorem sn_ifCond_ge {p : Program} {l : Launch} {e : Env} {R : Room} {s : State} {m : MethodId} {args : Array Value} {below : List Frame} {meth : Method} {c : Code} {H : Heap} {locs : List Loc} {cells slots : Nat} {Q : State → Prop} {cc : ByteArray} {nL n0 z0 d base : Nat} {st : Nat → Nat} {cA : Nat → ClassId} {D : va_G} {cl : List vw_C} {Cq own : String} {cq : Nat} {RO : List (Nat × (Nat → Int32))} {SF : List (String × String × String × Nat)} {Ts : List Jvm.Cond} {tyc : Nat → Nat → FieldType} {NV : Nat → List Value} {lk : Nat → Option sm_L} {ini : Bool} {off : Int}
    (hx : p.tables.exec = Jvm.exec) (hb : c.code = cc) (hml : c.maxLocals = nL) (hown : s.vm.findClass own = some m.cls) (hts : ∀ w ∈ Ts, w.before args s = true) (hok : ∀ ix q, lk ix = some q → sm_okL cl tyc SF Cq Ts own ix q) (hcl : sm_okC cl tyc NV Ts) (hcq : ∃ r : vw_C, cl[cq]? = some r ∧ r.1 = Cq)
    (hini : ini = true → meth.name = "<init>") (hE : sm_env D cl cA Cq RO SF st base s s.heap) (hb0 : s.heap.size = base + n0) (hd : d ≤ R.frames) (hdl : d * 100 ≤ R.locals) (har : ∀ q t, sm_aty q = some t → Jvm.Cond.arrayClass (newarray.typeOf q) ∈ Ts)
    {len pc pc' : Nat} {lv lv' : sm_V} {sk sk' : List Value} {h h' : sm_H} {ls : Array Slot} (hdg : decode cc pc = .ok ((.ifCond .ge off), sm_len (.ifCond .ge off) len)) (hl : lv_has ls nL (sm_lv (sm_ad st base) lv)) (hP : va_P D cl (sm_w (sm_ad st base) cA base h) H) (hS : va_S (fun q => base ≤ q) s.heap H locs) (hc1 : n0 + cells = h.length) (hc2 : z0 + slots = sm_sz h)
    (hm1 : h'.length ≤ n0 + R.cells) (hm2 : sm_sz h' ≤ z0 + R.slots) (hs : sm_step lk RO NV cq ini nL d (.ifCond .ge off) pc lv sk h = some (pc', lv', sk', h'))
    (k : ∀ (ls' : Array Slot) (H' : Heap) (locs' : List Loc) (cells' slots' : Nat), lv_has ls' nL (sm_lv (sm_ad st base) lv') → va_P D cl (sm_w (sm_ad st base) cA base h') H' → va_S (fun q => base ≤ q) s.heap H' locs' → n0 + cells' = h'.length → z0 + slots' = sm_sz h' → W p l e R s m args below meth c H' locs' cells' slots' Q (F0 m pc' ls' (sk'.map (sm_v (sm_ad st base))))) :
    W p l e R s m args below meth c H locs cells slots Q (F0 m pc ls (sk.map (sm_v (sm_ad st base)))) := by
    have hs1 := sm_i1_eq hs
    clear hs
    obtain ⟨x, r, e0, hs⟩ := hs1
    subst e0
    obtain ⟨t, ht, hs⟩ := sm_br_eq hs
    cases hs
    refine lv_if_ge hx hb hdg (sm_tg_eq ht) (fun h9 => ?_) (fun h9 => ?_)
    · have k9 := k _ _ _ _ _ hl hP hS hc1 hc2
      rw [if_pos (show sm_c1 .ge x = true from by unfold sm_c1; simpa using h9)] at k9
      exact k9
    · have k9 := k _ _ _ _ _ hl hP hS hc1 hc2
      rw [if_neg (show ¬ sm_c1 .ge x = true from by unfold sm_c1; simpa using h9)] at k9
      exact k9
set_option maxHeartbeats 1000000 in
theorem sn_if_icmp_ge {p : Program} {l : Launch} {e : Env} {R : Room} {s : State} {m : MethodId} {args : Array Value} {below : List Frame} {meth : Method} {c : Code} {H : Heap} {locs : List Loc} {cells slots : Nat} {Q : State → Prop} {cc : ByteArray} {nL n0 z0 d base : Nat} {st : Nat → Nat} {cA : Nat → ClassId} {D : va_G} {cl : List vw_C} {Cq own : String} {cq : Nat} {RO : List (Nat × (Nat → Int32))} {SF : List (String × String × String × Nat)} {Ts : List Jvm.Cond} {tyc : Nat → Nat → FieldType} {NV : Nat → List Value} {lk : Nat → Option sm_L} {ini : Bool} {off : Int}
    (hx : p.tables.exec = Jvm.exec) (hb : c.code = cc) (hml : c.maxLocals = nL) (hown : s.vm.findClass own = some m.cls) (hts : ∀ w ∈ Ts, w.before args s = true) (hok : ∀ ix q, lk ix = some q → sm_okL cl tyc SF Cq Ts own ix q) (hcl : sm_okC cl tyc NV Ts) (hcq : ∃ r : vw_C, cl[cq]? = some r ∧ r.1 = Cq)
    (hini : ini = true → meth.name = "<init>") (hE : sm_env D cl cA Cq RO SF st base s s.heap) (hb0 : s.heap.size = base + n0) (hd : d ≤ R.frames) (hdl : d * 100 ≤ R.locals) (har : ∀ q t, sm_aty q = some t → Jvm.Cond.arrayClass (newarray.typeOf q) ∈ Ts)
    {len pc pc' : Nat} {lv lv' : sm_V} {sk sk' : List Value} {h h' : sm_H} {ls : Array Slot} (hdg : decode cc pc = .ok ((.if_icmp .ge off), sm_len (.if_icmp .ge off) len)) (hl : lv_has ls nL (sm_lv (sm_ad st base) lv)) (hP : va_P D cl (sm_w (sm_ad st base) cA base h) H) (hS : va_S (fun q => base ≤ q) s.heap H locs) (hc1 : n0 + cells = h.length) (hc2 : z0 + slots = sm_sz h)
    (hm1 : h'.length ≤ n0 + R.cells) (hm2 : sm_sz h' ≤ z0 + R.slots) (hs : sm_step lk RO NV cq ini nL d (.if_icmp .ge off) pc lv sk h = some (pc', lv', sk', h'))
    (k : ∀ (ls' : Array Slot) (H' : Heap) (locs' : List Loc) (cells' slots' : Nat), lv_has ls' nL (sm_lv (sm_ad st base) lv') → va_P D cl (sm_w (sm_ad st base) cA base h') H' → va_S (fun q => base ≤ q) s.heap H' locs' → n0 + cells' = h'.length → z0 + slots' = sm_sz h' → W p l e R s m args below meth c H' locs' cells' slots' Q (F0 m pc' ls' (sk'.map (sm_v (sm_ad st base))))) :
    W p l e R s m args below meth c H locs cells slots Q (F0 m pc ls (sk.map (sm_v (sm_ad st base)))) := by
    have hs1 := sm_i2_eq hs
    clear hs
    obtain ⟨x, y, r, e0, hs⟩ := hs1
    subst e0
    obtain ⟨t, ht, hs⟩ := sm_br_eq hs
    cases hs
    refine lv_icmp_ge hx hb hdg (sm_tg_eq ht) (fun h9 => ?_) (fun h9 => ?_)
    · have k9 := k _ _ _ _ _ hl hP hS hc1 hc2
      rw [if_pos (show sm_c2 .ge x y = true from by unfold sm_c2; simpa using h9)] at k9
      exact k9
    · have k9 := k _ _ _ _ _ hl hP hS hc1 hc2
      rw [if_neg (show ¬ sm_c2 .ge x y = true from by unfold sm_c2; simpa using h9)] at k9
      exact k9
set_option maxHeartbeats 1000000 in
theorem sn_ifCond_gt {p : Program} {l : Launch} {e : Env} {R : Room} {s : State} {m : MethodId} {args : Array Value} {below : List Frame} {meth : Method} {c : Code} {H : Heap} {locs : List Loc} {cells slots : Nat} {Q : State → Prop} {cc : ByteArray} {nL n0 z0 d base : Nat} {st : Nat → Nat} {cA : Nat → ClassId} {D : va_G} {cl : List vw_C} {Cq own : String} {cq : Nat} {RO : List (Nat × (Nat → Int32))} {SF : List (String × String × String × Nat)} {Ts : List Jvm.Cond} {tyc : Nat → Nat → FieldType} {NV : Nat → List Value} {lk : Nat → Option sm_L} {ini : Bool} {off : Int}
    (hx : p.tables.exec = Jvm.exec) (hb : c.code = cc) (hml : c.maxLocals = nL) (hown : s.vm.findClass own = some m.cls) (hts : ∀ w ∈ Ts, w.before args s = true) (hok : ∀ ix q, lk ix = some q → sm_okL cl tyc SF Cq Ts own ix q) (hcl : sm_okC cl tyc NV Ts) (hcq : ∃ r : vw_C, cl[cq]? = some r ∧ r.1 = Cq)
    (hini : ini = true → meth.name = "<init>") (hE : sm_env D cl cA Cq RO SF st base s s.heap) (hb0 : s.heap.size = base + n0) (hd : d ≤ R.frames) (hdl : d * 100 ≤ R.locals) (har : ∀ q t, sm_aty q = some t → Jvm.Cond.arrayClass (newarray.typeOf q) ∈ Ts)
    {len pc pc' : Nat} {lv lv' : sm_V} {sk sk' : List Value} {h h' : sm_H} {ls : Array Slot} (hdg : decode cc pc = .ok ((.ifCond .gt off), sm_len (.ifCond .gt off) len)) (hl : lv_has ls nL (sm_lv (sm_ad st base) lv)) (hP : va_P D cl (sm_w (sm_ad st base) cA base h) H) (hS : va_S (fun q => base ≤ q) s.heap H locs) (hc1 : n0 + cells = h.length) (hc2 : z0 + slots = sm_sz h)
    (hm1 : h'.length ≤ n0 + R.cells) (hm2 : sm_sz h' ≤ z0 + R.slots) (hs : sm_step lk RO NV cq ini nL d (.ifCond .gt off) pc lv sk h = some (pc', lv', sk', h'))
    (k : ∀ (ls' : Array Slot) (H' : Heap) (locs' : List Loc) (cells' slots' : Nat), lv_has ls' nL (sm_lv (sm_ad st base) lv') → va_P D cl (sm_w (sm_ad st base) cA base h') H' → va_S (fun q => base ≤ q) s.heap H' locs' → n0 + cells' = h'.length → z0 + slots' = sm_sz h' → W p l e R s m args below meth c H' locs' cells' slots' Q (F0 m pc' ls' (sk'.map (sm_v (sm_ad st base))))) :
    W p l e R s m args below meth c H locs cells slots Q (F0 m pc ls (sk.map (sm_v (sm_ad st base)))) := by
    have hs1 := sm_i1_eq hs
    clear hs
    obtain ⟨x, r, e0, hs⟩ := hs1
    subst e0
    obtain ⟨t, ht, hs⟩ := sm_br_eq hs
    cases hs
    refine lv_if_gt hx hb hdg (sm_tg_eq ht) (fun h9 => ?_) (fun h9 => ?_)
    · have k9 := k _ _ _ _ _ hl hP hS hc1 hc2
      rw [if_pos (show sm_c1 .gt x = true from by unfold sm_c1; simpa using h9)] at k9
      exact k9
    · have k9 := k _ _ _ _ _ hl hP hS hc1 hc2
      rw [if_neg (show ¬ sm_c1 .gt x = true from by unfold sm_c1; simpa using h9)] at k9
      exact k9
set_option maxHeartbeats 1000000 in
theorem sn_if_icmp_gt {p : Program} {l : Launch} {e : Env} {R : Room} {s : State} {m : MethodId} {args : Array Value} {below : List Frame} {meth : Method} {c : Code} {H : Heap} {locs : List Loc} {cells slots : Nat} {Q : State → Prop} {cc : ByteArray} {nL n0 z0 d base : Nat} {st : Nat → Nat} {cA : Nat → ClassId} {D : va_G} {cl : List vw_C} {Cq own : String} {cq : Nat} {RO : List (Nat × (Nat → Int32))} {SF : List (String × String × String × Nat)} {Ts : List Jvm.Cond} {tyc : Nat → Nat → FieldType} {NV : Nat → List Value} {lk : Nat → Option sm_L} {ini : Bool} {off : Int}
    (hx : p.tables.exec = Jvm.exec) (hb : c.code = cc) (hml : c.maxLocals = nL) (hown : s.vm.findClass own = some m.cls) (hts : ∀ w ∈ Ts, w.before args s = true) (hok : ∀ ix q, lk ix = some q → sm_okL cl tyc SF Cq Ts own ix q) (hcl : sm_okC cl tyc NV Ts) (hcq : ∃ r : vw_C, cl[cq]? = some r ∧ r.1 = Cq)
    (hini : ini = true → meth.name = "<init>") (hE : sm_env D cl cA Cq RO SF st base s s.heap) (hb0 : s.heap.size = base + n0) (hd : d ≤ R.frames) (hdl : d * 100 ≤ R.locals) (har : ∀ q t, sm_aty q = some t → Jvm.Cond.arrayClass (newarray.typeOf q) ∈ Ts)
    {len pc pc' : Nat} {lv lv' : sm_V} {sk sk' : List Value} {h h' : sm_H} {ls : Array Slot} (hdg : decode cc pc = .ok ((.if_icmp .gt off), sm_len (.if_icmp .gt off) len)) (hl : lv_has ls nL (sm_lv (sm_ad st base) lv)) (hP : va_P D cl (sm_w (sm_ad st base) cA base h) H) (hS : va_S (fun q => base ≤ q) s.heap H locs) (hc1 : n0 + cells = h.length) (hc2 : z0 + slots = sm_sz h)
    (hm1 : h'.length ≤ n0 + R.cells) (hm2 : sm_sz h' ≤ z0 + R.slots) (hs : sm_step lk RO NV cq ini nL d (.if_icmp .gt off) pc lv sk h = some (pc', lv', sk', h'))
    (k : ∀ (ls' : Array Slot) (H' : Heap) (locs' : List Loc) (cells' slots' : Nat), lv_has ls' nL (sm_lv (sm_ad st base) lv') → va_P D cl (sm_w (sm_ad st base) cA base h') H' → va_S (fun q => base ≤ q) s.heap H' locs' → n0 + cells' = h'.length → z0 + slots' = sm_sz h' → W p l e R s m args below meth c H' locs' cells' slots' Q (F0 m pc' ls' (sk'.map (sm_v (sm_ad st base))))) :
    W p l e R s m args below meth c H locs cells slots Q (F0 m pc ls (sk.map (sm_v (sm_ad st base)))) := by
    have hs1 := sm_i2_eq hs
    clear hs
    obtain ⟨x, y, r, e0, hs⟩ := hs1
    subst e0
    obtain ⟨t, ht, hs⟩ := sm_br_eq hs
    cases hs
    refine lv_icmp_gt hx hb hdg (sm_tg_eq ht) (fun h9 => ?_) (fun h9 => ?_)
    · have k9 := k _ _ _ _ _ hl hP hS hc1 hc2
      rw [if_pos (show sm_c2 .gt x y = true from by unfold sm_c2; simpa using h9)] at k9
      exact k9
    · have k9 := k _ _ _ _ _ hl hP hS hc1 hc2
      rw [if_neg (show ¬ sm_c2 .gt x y = true from by unfold sm_c2; simpa using h9)] at k9
      exact k9
set_option maxHeartbeats 1000000 in
theorem sn_ifCond_le {p : Program} {l : Launch} {e : Env} {R : Room} {s : State} {m : MethodId} {args : Array Value} {below : List Frame} {meth : Method} {c : Code} {H : Heap} {locs : List Loc} {cells slots : Nat} {Q : State → Prop} {cc : ByteArray} {nL n0 z0 d base : Nat} {st : Nat → Nat} {cA : Nat → ClassId} {D : va_G} {cl : List vw_C} {Cq own : String} {cq : Nat} {RO : List (Nat × (Nat → Int32))} {SF : List (String × String × String × Nat)} {Ts : List Jvm.Cond} {tyc : Nat → Nat → FieldType} {NV : Nat → List Value} {lk : Nat → Option sm_L} {ini : Bool} {off : Int}
    (hx : p.tables.exec = Jvm.exec) (hb : c.code = cc) (hml : c.maxLocals = nL) (hown : s.vm.findClass own = some m.cls) (hts : ∀ w ∈ Ts, w.before args s = true) (hok : ∀ ix q, lk ix = some q → sm_okL cl tyc SF Cq Ts own ix q) (hcl : sm_okC cl tyc NV Ts) (hcq : ∃ r : vw_C, cl[cq]? = some r ∧ r.1 = Cq)
    (hini : ini = true → meth.name = "<init>") (hE : sm_env D cl cA Cq RO SF st base s s.heap) (hb0 : s.heap.size = base + n0) (hd : d ≤ R.frames) (hdl : d * 100 ≤ R.locals) (har : ∀ q t, sm_aty q = some t → Jvm.Cond.arrayClass (newarray.typeOf q) ∈ Ts)
    {len pc pc' : Nat} {lv lv' : sm_V} {sk sk' : List Value} {h h' : sm_H} {ls : Array Slot} (hdg : decode cc pc = .ok ((.ifCond .le off), sm_len (.ifCond .le off) len)) (hl : lv_has ls nL (sm_lv (sm_ad st base) lv)) (hP : va_P D cl (sm_w (sm_ad st base) cA base h) H) (hS : va_S (fun q => base ≤ q) s.heap H locs) (hc1 : n0 + cells = h.length) (hc2 : z0 + slots = sm_sz h)
    (hm1 : h'.length ≤ n0 + R.cells) (hm2 : sm_sz h' ≤ z0 + R.slots) (hs : sm_step lk RO NV cq ini nL d (.ifCond .le off) pc lv sk h = some (pc', lv', sk', h'))
    (k : ∀ (ls' : Array Slot) (H' : Heap) (locs' : List Loc) (cells' slots' : Nat), lv_has ls' nL (sm_lv (sm_ad st base) lv') → va_P D cl (sm_w (sm_ad st base) cA base h') H' → va_S (fun q => base ≤ q) s.heap H' locs' → n0 + cells' = h'.length → z0 + slots' = sm_sz h' → W p l e R s m args below meth c H' locs' cells' slots' Q (F0 m pc' ls' (sk'.map (sm_v (sm_ad st base))))) :
    W p l e R s m args below meth c H locs cells slots Q (F0 m pc ls (sk.map (sm_v (sm_ad st base)))) := by
    have hs1 := sm_i1_eq hs
    clear hs
    obtain ⟨x, r, e0, hs⟩ := hs1
    subst e0
    obtain ⟨t, ht, hs⟩ := sm_br_eq hs
    cases hs
    refine lv_if_le hx hb hdg (sm_tg_eq ht) (fun h9 => ?_) (fun h9 => ?_)
    · have k9 := k _ _ _ _ _ hl hP hS hc1 hc2
      rw [if_pos (show sm_c1 .le x = true from by unfold sm_c1; simpa using h9)] at k9
      exact k9
    · have k9 := k _ _ _ _ _ hl hP hS hc1 hc2
      rw [if_neg (show ¬ sm_c1 .le x = true from by unfold sm_c1; simpa using h9)] at k9
      exact k9
set_option maxHeartbeats 1000000 in
theorem sn_if_icmp_le {p : Program} {l : Launch} {e : Env} {R : Room} {s : State} {m : MethodId} {args : Array Value} {below : List Frame} {meth : Method} {c : Code} {H : Heap} {locs : List Loc} {cells slots : Nat} {Q : State → Prop} {cc : ByteArray} {nL n0 z0 d base : Nat} {st : Nat → Nat} {cA : Nat → ClassId} {D : va_G} {cl : List vw_C} {Cq own : String} {cq : Nat} {RO : List (Nat × (Nat → Int32))} {SF : List (String × String × String × Nat)} {Ts : List Jvm.Cond} {tyc : Nat → Nat → FieldType} {NV : Nat → List Value} {lk : Nat → Option sm_L} {ini : Bool} {off : Int}
    (hx : p.tables.exec = Jvm.exec) (hb : c.code = cc) (hml : c.maxLocals = nL) (hown : s.vm.findClass own = some m.cls) (hts : ∀ w ∈ Ts, w.before args s = true) (hok : ∀ ix q, lk ix = some q → sm_okL cl tyc SF Cq Ts own ix q) (hcl : sm_okC cl tyc NV Ts) (hcq : ∃ r : vw_C, cl[cq]? = some r ∧ r.1 = Cq)
    (hini : ini = true → meth.name = "<init>") (hE : sm_env D cl cA Cq RO SF st base s s.heap) (hb0 : s.heap.size = base + n0) (hd : d ≤ R.frames) (hdl : d * 100 ≤ R.locals) (har : ∀ q t, sm_aty q = some t → Jvm.Cond.arrayClass (newarray.typeOf q) ∈ Ts)
    {len pc pc' : Nat} {lv lv' : sm_V} {sk sk' : List Value} {h h' : sm_H} {ls : Array Slot} (hdg : decode cc pc = .ok ((.if_icmp .le off), sm_len (.if_icmp .le off) len)) (hl : lv_has ls nL (sm_lv (sm_ad st base) lv)) (hP : va_P D cl (sm_w (sm_ad st base) cA base h) H) (hS : va_S (fun q => base ≤ q) s.heap H locs) (hc1 : n0 + cells = h.length) (hc2 : z0 + slots = sm_sz h)
    (hm1 : h'.length ≤ n0 + R.cells) (hm2 : sm_sz h' ≤ z0 + R.slots) (hs : sm_step lk RO NV cq ini nL d (.if_icmp .le off) pc lv sk h = some (pc', lv', sk', h'))
    (k : ∀ (ls' : Array Slot) (H' : Heap) (locs' : List Loc) (cells' slots' : Nat), lv_has ls' nL (sm_lv (sm_ad st base) lv') → va_P D cl (sm_w (sm_ad st base) cA base h') H' → va_S (fun q => base ≤ q) s.heap H' locs' → n0 + cells' = h'.length → z0 + slots' = sm_sz h' → W p l e R s m args below meth c H' locs' cells' slots' Q (F0 m pc' ls' (sk'.map (sm_v (sm_ad st base))))) :
    W p l e R s m args below meth c H locs cells slots Q (F0 m pc ls (sk.map (sm_v (sm_ad st base)))) := by
    have hs1 := sm_i2_eq hs
    clear hs
    obtain ⟨x, y, r, e0, hs⟩ := hs1
    subst e0
    obtain ⟨t, ht, hs⟩ := sm_br_eq hs
    cases hs
    refine lv_icmp_le hx hb hdg (sm_tg_eq ht) (fun h9 => ?_) (fun h9 => ?_)
    · have k9 := k _ _ _ _ _ hl hP hS hc1 hc2
      rw [if_pos (show sm_c2 .le x y = true from by unfold sm_c2; simpa using h9)] at k9
      exact k9
    · have k9 := k _ _ _ _ _ hl hP hS hc1 hc2
      rw [if_neg (show ¬ sm_c2 .le x y = true from by unfold sm_c2; simpa using h9)] at k9
      exact k9
set_option maxHeartbeats 1000000 in
theorem sn_tableswitch {p : Program} {l : Launch} {e : Env} {R : Room} {s : State} {m : MethodId} {args : Array Value} {below : List Frame} {meth : Method} {c : Code} {H : Heap} {locs : List Loc} {cells slots : Nat} {Q : State → Prop} {cc : ByteArray} {nL n0 z0 d base : Nat} {st : Nat → Nat} {cA : Nat → ClassId} {D : va_G} {cl : List vw_C} {Cq own : String} {cq : Nat} {RO : List (Nat × (Nat → Int32))} {SF : List (String × String × String × Nat)} {Ts : List Jvm.Cond} {tyc : Nat → Nat → FieldType} {NV : Nat → List Value} {lk : Nat → Option sm_L} {ini : Bool} {dflt lo hi : Int} {offs : Array Int}
    (hx : p.tables.exec = Jvm.exec) (hb : c.code = cc) (hml : c.maxLocals = nL) (hown : s.vm.findClass own = some m.cls) (hts : ∀ w ∈ Ts, w.before args s = true) (hok : ∀ ix q, lk ix = some q → sm_okL cl tyc SF Cq Ts own ix q) (hcl : sm_okC cl tyc NV Ts) (hcq : ∃ r : vw_C, cl[cq]? = some r ∧ r.1 = Cq)
    (hini : ini = true → meth.name = "<init>") (hE : sm_env D cl cA Cq RO SF st base s s.heap) (hb0 : s.heap.size = base + n0) (hd : d ≤ R.frames) (hdl : d * 100 ≤ R.locals) (har : ∀ q t, sm_aty q = some t → Jvm.Cond.arrayClass (newarray.typeOf q) ∈ Ts)
    {len pc pc' : Nat} {lv lv' : sm_V} {sk sk' : List Value} {h h' : sm_H} {ls : Array Slot} (hdg : decode cc pc = .ok ((.tableswitch dflt lo hi offs), sm_len (.tableswitch dflt lo hi offs) len)) (hl : lv_has ls nL (sm_lv (sm_ad st base) lv)) (hP : va_P D cl (sm_w (sm_ad st base) cA base h) H) (hS : va_S (fun q => base ≤ q) s.heap H locs) (hc1 : n0 + cells = h.length) (hc2 : z0 + slots = sm_sz h)
    (hm1 : h'.length ≤ n0 + R.cells) (hm2 : sm_sz h' ≤ z0 + R.slots) (hs : sm_step lk RO NV cq ini nL d (.tableswitch dflt lo hi offs) pc lv sk h = some (pc', lv', sk', h'))
    (k : ∀ (ls' : Array Slot) (H' : Heap) (locs' : List Loc) (cells' slots' : Nat), lv_has ls' nL (sm_lv (sm_ad st base) lv') → va_P D cl (sm_w (sm_ad st base) cA base h') H' → va_S (fun q => base ≤ q) s.heap H' locs' → n0 + cells' = h'.length → z0 + slots' = sm_sz h' → W p l e R s m args below meth c H' locs' cells' slots' Q (F0 m pc' ls' (sk'.map (sm_v (sm_ad st base))))) :
    W p l e R s m args below meth c H locs cells slots Q (F0 m pc ls (sk.map (sm_v (sm_ad st base)))) := by
    have hs1 := sm_i1_eq hs
    clear hs
    obtain ⟨x, r, e0, hs⟩ := hs1
    subst e0
    split at hs
    · rename_i hq
      obtain ⟨t, ht, hs⟩ := sm_jump_eq hs
      cases hs
      exact lv_tableOut hx hb hdg hq (sm_tg_eq ht) (k _ _ _ _ _ hl hP hS hc1 hc2)
    · rename_i hq
      split at hs
      · rename_i o ho
        obtain ⟨t, ht, hs⟩ := sm_jump_eq hs
        cases hs
        exact lv_tableIn hx hb hdg (fun h => hq (Or.inl h)) (fun h => hq (Or.inr h)) ho (sm_tg_eq ht) (k _ _ _ _ _ hl hP hS hc1 hc2)
      · cases hs
set_option maxHeartbeats 1000000 in
theorem sn_lookupswitch {p : Program} {l : Launch} {e : Env} {R : Room} {s : State} {m : MethodId} {args : Array Value} {below : List Frame} {meth : Method} {c : Code} {H : Heap} {locs : List Loc} {cells slots : Nat} {Q : State → Prop} {cc : ByteArray} {nL n0 z0 d base : Nat} {st : Nat → Nat} {cA : Nat → ClassId} {D : va_G} {cl : List vw_C} {Cq own : String} {cq : Nat} {RO : List (Nat × (Nat → Int32))} {SF : List (String × String × String × Nat)} {Ts : List Jvm.Cond} {tyc : Nat → Nat → FieldType} {NV : Nat → List Value} {lk : Nat → Option sm_L} {ini : Bool} {dflt : Int} {ps : Array (Int × Int)}
    (hx : p.tables.exec = Jvm.exec) (hb : c.code = cc) (hml : c.maxLocals = nL) (hown : s.vm.findClass own = some m.cls) (hts : ∀ w ∈ Ts, w.before args s = true) (hok : ∀ ix q, lk ix = some q → sm_okL cl tyc SF Cq Ts own ix q) (hcl : sm_okC cl tyc NV Ts) (hcq : ∃ r : vw_C, cl[cq]? = some r ∧ r.1 = Cq)
    (hini : ini = true → meth.name = "<init>") (hE : sm_env D cl cA Cq RO SF st base s s.heap) (hb0 : s.heap.size = base + n0) (hd : d ≤ R.frames) (hdl : d * 100 ≤ R.locals) (har : ∀ q t, sm_aty q = some t → Jvm.Cond.arrayClass (newarray.typeOf q) ∈ Ts)
    {len pc pc' : Nat} {lv lv' : sm_V} {sk sk' : List Value} {h h' : sm_H} {ls : Array Slot} (hdg : decode cc pc = .ok ((.lookupswitch dflt ps), sm_len (.lookupswitch dflt ps) len)) (hl : lv_has ls nL (sm_lv (sm_ad st base) lv)) (hP : va_P D cl (sm_w (sm_ad st base) cA base h) H) (hS : va_S (fun q => base ≤ q) s.heap H locs) (hc1 : n0 + cells = h.length) (hc2 : z0 + slots = sm_sz h)
    (hm1 : h'.length ≤ n0 + R.cells) (hm2 : sm_sz h' ≤ z0 + R.slots) (hs : sm_step lk RO NV cq ini nL d (.lookupswitch dflt ps) pc lv sk h = some (pc', lv', sk', h'))
    (k : ∀ (ls' : Array Slot) (H' : Heap) (locs' : List Loc) (cells' slots' : Nat), lv_has ls' nL (sm_lv (sm_ad st base) lv') → va_P D cl (sm_w (sm_ad st base) cA base h') H' → va_S (fun q => base ≤ q) s.heap H' locs' → n0 + cells' = h'.length → z0 + slots' = sm_sz h' → W p l e R s m args below meth c H' locs' cells' slots' Q (F0 m pc' ls' (sk'.map (sm_v (sm_ad st base))))) :
    W p l e R s m args below meth c H locs cells slots Q (F0 m pc ls (sk.map (sm_v (sm_ad st base)))) := by
    have hs1 := sm_i1_eq hs
    clear hs
    obtain ⟨x, r, e0, hs⟩ := hs1
    subst e0
    split at hs
    · rename_i hq
      obtain ⟨t, ht, hs⟩ := sm_jump_eq hs
      cases hs
      exact lv_lookup hx hb hdg hq rfl (sm_tg_eq ht) (k _ _ _ _ _ hl hP hS hc1 hc2)
    · cases hs
set_option maxHeartbeats 1000000 in
theorem sn_getfield {p : Program} {l : Launch} {e : Env} {R : Room} {s : State} {m : MethodId} {args : Array Value} {below : List Frame} {meth : Method} {c : Code} {H : Heap} {locs : List Loc} {cells slots : Nat} {Q : State → Prop} {cc : ByteArray} {nL n0 z0 d base : Nat} {st : Nat → Nat} {cA : Nat → ClassId} {D : va_G} {cl : List vw_C} {Cq own : String} {cq : Nat} {RO : List (Nat × (Nat → Int32))} {SF : List (String × String × String × Nat)} {Ts : List Jvm.Cond} {tyc : Nat → Nat → FieldType} {NV : Nat → List Value} {lk : Nat → Option sm_L} {ini : Bool} {ix : Nat}
    (hx : p.tables.exec = Jvm.exec) (hb : c.code = cc) (hml : c.maxLocals = nL) (hown : s.vm.findClass own = some m.cls) (hts : ∀ w ∈ Ts, w.before args s = true) (hok : ∀ ix q, lk ix = some q → sm_okL cl tyc SF Cq Ts own ix q) (hcl : sm_okC cl tyc NV Ts) (hcq : ∃ r : vw_C, cl[cq]? = some r ∧ r.1 = Cq)
    (hini : ini = true → meth.name = "<init>") (hE : sm_env D cl cA Cq RO SF st base s s.heap) (hb0 : s.heap.size = base + n0) (hd : d ≤ R.frames) (hdl : d * 100 ≤ R.locals) (har : ∀ q t, sm_aty q = some t → Jvm.Cond.arrayClass (newarray.typeOf q) ∈ Ts)
    {len pc pc' : Nat} {lv lv' : sm_V} {sk sk' : List Value} {h h' : sm_H} {ls : Array Slot} (hdg : decode cc pc = .ok ((.getfield ix), sm_len (.getfield ix) len)) (hl : lv_has ls nL (sm_lv (sm_ad st base) lv)) (hP : va_P D cl (sm_w (sm_ad st base) cA base h) H) (hS : va_S (fun q => base ≤ q) s.heap H locs) (hc1 : n0 + cells = h.length) (hc2 : z0 + slots = sm_sz h)
    (hm1 : h'.length ≤ n0 + R.cells) (hm2 : sm_sz h' ≤ z0 + R.slots) (hs : sm_step lk RO NV cq ini nL d (.getfield ix) pc lv sk h = some (pc', lv', sk', h'))
    (k : ∀ (ls' : Array Slot) (H' : Heap) (locs' : List Loc) (cells' slots' : Nat), lv_has ls' nL (sm_lv (sm_ad st base) lv') → va_P D cl (sm_w (sm_ad st base) cA base h') H' → va_S (fun q => base ≤ q) s.heap H' locs' → n0 + cells' = h'.length → z0 + slots' = sm_sz h' → W p l e R s m args below meth c H' locs' cells' slots' Q (F0 m pc' ls' (sk'.map (sm_v (sm_ad st base))))) :
    W p l e R s m args below meth c H locs cells slots Q (F0 m pc ls (sk.map (sm_v (sm_ad st base)))) := by
    dsimp only [sm_step] at hs
    split at hs
    · rename_i ci k9 z9 e9
      have hs1 := sm_r1_eq hs
      clear hs
      obtain ⟨a, r, e0, hs⟩ := hs1
      subst e0
      split at hs
      · rename_i fs e1
        split at hs
        · rename_i v e2
          cases hs
          obtain ⟨r0, g1, g2, g3, g4, g5, g6⟩ := (hok ix _ e9).1 rfl
          obtain ⟨o1, o2, o3⟩ := sm_obj_at (ad := sm_ad st base) (cA := cA) (base := base) e1
          have q9 : W p l e R s m args below meth c H locs cells slots Q (F0 m (pc + 3) ls (sm_v (sm_ad st base) v :: r.map (sm_v (sm_ad st base)))) := k _ _ _ _ _ hl hP hS hc1 hc2
          show W p l e R s m args below meth c H locs cells slots Q (F0 m pc ls (.ref (sm_ad st base a) :: r.map (sm_v (sm_ad st base))))
          rw [sm_ad_own o1]
          exact va_get hx hb hts (hcl ci r0 g1).1 hown hE.1 hP (a - 8) o3 g1 k9 g2 (hts _ g3) (fun _ h => h) (by rw [List.getElem?_map, e2]; rfl) hdg q9
        · cases hs
      · cases hs
    · cases hs
set_option maxHeartbeats 1000000 in
theorem sn_putfield {p : Program} {l : Launch} {e : Env} {R : Room} {s : State} {m : MethodId} {args : Array Value} {below : List Frame} {meth : Method} {c : Code} {H : Heap} {locs : List Loc} {cells slots : Nat} {Q : State → Prop} {cc : ByteArray} {nL n0 z0 d base : Nat} {st : Nat → Nat} {cA : Nat → ClassId} {D : va_G} {cl : List vw_C} {Cq own : String} {cq : Nat} {RO : List (Nat × (Nat → Int32))} {SF : List (String × String × String × Nat)} {Ts : List Jvm.Cond} {tyc : Nat → Nat → FieldType} {NV : Nat → List Value} {lk : Nat → Option sm_L} {ini : Bool} {ix : Nat}
    (hx : p.tables.exec = Jvm.exec) (hb : c.code = cc) (hml : c.maxLocals = nL) (hown : s.vm.findClass own = some m.cls) (hts : ∀ w ∈ Ts, w.before args s = true) (hok : ∀ ix q, lk ix = some q → sm_okL cl tyc SF Cq Ts own ix q) (hcl : sm_okC cl tyc NV Ts) (hcq : ∃ r : vw_C, cl[cq]? = some r ∧ r.1 = Cq)
    (hini : ini = true → meth.name = "<init>") (hE : sm_env D cl cA Cq RO SF st base s s.heap) (hb0 : s.heap.size = base + n0) (hd : d ≤ R.frames) (hdl : d * 100 ≤ R.locals) (har : ∀ q t, sm_aty q = some t → Jvm.Cond.arrayClass (newarray.typeOf q) ∈ Ts)
    {len pc pc' : Nat} {lv lv' : sm_V} {sk sk' : List Value} {h h' : sm_H} {ls : Array Slot} (hdg : decode cc pc = .ok ((.putfield ix), sm_len (.putfield ix) len)) (hl : lv_has ls nL (sm_lv (sm_ad st base) lv)) (hP : va_P D cl (sm_w (sm_ad st base) cA base h) H) (hS : va_S (fun q => base ≤ q) s.heap H locs) (hc1 : n0 + cells = h.length) (hc2 : z0 + slots = sm_sz h)
    (hm1 : h'.length ≤ n0 + R.cells) (hm2 : sm_sz h' ≤ z0 + R.slots) (hs : sm_step lk RO NV cq ini nL d (.putfield ix) pc lv sk h = some (pc', lv', sk', h'))
    (k : ∀ (ls' : Array Slot) (H' : Heap) (locs' : List Loc) (cells' slots' : Nat), lv_has ls' nL (sm_lv (sm_ad st base) lv') → va_P D cl (sm_w (sm_ad st base) cA base h') H' → va_S (fun q => base ≤ q) s.heap H' locs' → n0 + cells' = h'.length → z0 + slots' = sm_sz h' → W p l e R s m args below meth c H' locs' cells' slots' Q (F0 m pc' ls' (sk'.map (sm_v (sm_ad st base))))) :
    W p l e R s m args below meth c H locs cells slots Q (F0 m pc ls (sk.map (sm_v (sm_ad st base)))) := by
    dsimp only [sm_step] at hs
    split at hs
    · rename_i ci k9 z9 e9
      split at hs
      · rename_i v a r
        split at hs
        · rename_i fs e1
          split at hs
          · rename_i hq
            cases hs
            obtain ⟨r0, g1, g2, g3, g4, g5, g6⟩ := (hok ix _ e9).1 rfl
            obtain ⟨o1, o2, o3⟩ := sm_obj_at (ad := sm_ad st base) (cA := cA) (base := base) e1
            obtain ⟨w1, w2, w3, w4, w5, w6⟩ := hcl ci r0 g1
            obtain ⟨m1, m2⟩ := sm_may_ok (ad := sm_ad st base) hq.2.1 g4
            have hk2 : ∀ (H1 : Heap) (locs1 : List Loc), va_P D cl ((sm_w (sm_ad st base) cA base h).set (a - 8) (base + (a - 8), .inr (ci, (fs.map (sm_v (sm_ad st base))).set k9 (sm_v (sm_ad st base) v)))) H1 → va_S (fun q => base ≤ q) s.heap H1 locs1 → W p l e R s m args below meth c H1 locs1 cells slots Q (F0 m (pc + 3) ls (sk'.map (sm_v (sm_ad st base)))) := by
              intro H1 locs1 hP1 hS1
              refine k _ H1 locs1 _ _ hl ?_ hS1 (by rw [List.length_set]; exact hc1) (by rw [sm_sz_set _ _ _ _ o2 (by simp [sm_cz])]; exact hc2)
              rw [← sm_w_set]
              show va_P D cl (List.set _ _ (_, .inr (ci, (fs.set k9 v).map (sm_v (sm_ad st base))))) H1
              rw [List.map_set]
              exact hP1
            show W p l e R s m args below meth c H locs cells slots Q (F0 m pc ls (sm_v (sm_ad st base) v :: .ref (sm_ad st base a) :: sk'.map (sm_v (sm_ad st base))))
            rw [sm_ad_own o1]
            by_cases hz : 4 ≤ z9
            · have hi9 : ini = true ∧ z9 < 8 := hq.2.2.elim (fun q => absurd q (by omega)) id
              exact va_putF hx hb hts w1 (tyc ci) w2 w3 hown hE.1 hP (sm_w_D _ _ _ _) hS (a - 8) o3 g1 k9 g2 (hts _ g3) (fun _ h => h) (by rw [g5]; exact decide_eq_true hz) (hini hi9.1) (g6 ⟨hz, hi9.2⟩) (w2 k9 g2) m1 m2 (by rw [List.length_map]; exact hq.1) hdg (fun H1 locs1 hP1 _ hS1 => hk2 H1 locs1 hP1 hS1)
            · exact va_put hx hb hts w1 (tyc ci) w2 w3 hown hE.1 hP (sm_w_D _ _ _ _) hS (a - 8) o3 g1 k9 g2 (hts _ g3) (fun _ h => h) (by rw [g5]; exact decide_eq_false hz) (w2 k9 g2) m1 m2 (by rw [List.length_map]; exact hq.1) hdg (fun H1 locs1 hP1 _ hS1 => hk2 H1 locs1 hP1 hS1)
          · cases hs
        · cases hs
      · cases hs
    · cases hs
set_option maxHeartbeats 1000000 in
theorem sn_getstatic {p : Program} {l : Launch} {e : Env} {R : Room} {s : State} {m : MethodId} {args : Array Value} {below : List Frame} {meth : Method} {c : Code} {H : Heap} {locs : List Loc} {cells slots : Nat} {Q : State → Prop} {cc : ByteArray} {nL n0 z0 d base : Nat} {st : Nat → Nat} {cA : Nat → ClassId} {D : va_G} {cl : List vw_C} {Cq own : String} {cq : Nat} {RO : List (Nat × (Nat → Int32))} {SF : List (String × String × String × Nat)} {Ts : List Jvm.Cond} {tyc : Nat → Nat → FieldType} {NV : Nat → List Value} {lk : Nat → Option sm_L} {ini : Bool} {ix : Nat}
    (hx : p.tables.exec = Jvm.exec) (hb : c.code = cc) (hml : c.maxLocals = nL) (hown : s.vm.findClass own = some m.cls) (hts : ∀ w ∈ Ts, w.before args s = true) (hok : ∀ ix q, lk ix = some q → sm_okL cl tyc SF Cq Ts own ix q) (hcl : sm_okC cl tyc NV Ts) (hcq : ∃ r : vw_C, cl[cq]? = some r ∧ r.1 = Cq)
    (hini : ini = true → meth.name = "<init>") (hE : sm_env D cl cA Cq RO SF st base s s.heap) (hb0 : s.heap.size = base + n0) (hd : d ≤ R.frames) (hdl : d * 100 ≤ R.locals) (har : ∀ q t, sm_aty q = some t → Jvm.Cond.arrayClass (newarray.typeOf q) ∈ Ts)
    {len pc pc' : Nat} {lv lv' : sm_V} {sk sk' : List Value} {h h' : sm_H} {ls : Array Slot} (hdg : decode cc pc = .ok ((.getstatic ix), sm_len (.getstatic ix) len)) (hl : lv_has ls nL (sm_lv (sm_ad st base) lv)) (hP : va_P D cl (sm_w (sm_ad st base) cA base h) H) (hS : va_S (fun q => base ≤ q) s.heap H locs) (hc1 : n0 + cells = h.length) (hc2 : z0 + slots = sm_sz h)
    (hm1 : h'.length ≤ n0 + R.cells) (hm2 : sm_sz h' ≤ z0 + R.slots) (hs : sm_step lk RO NV cq ini nL d (.getstatic ix) pc lv sk h = some (pc', lv', sk', h'))
    (k : ∀ (ls' : Array Slot) (H' : Heap) (locs' : List Loc) (cells' slots' : Nat), lv_has ls' nL (sm_lv (sm_ad st base) lv') → va_P D cl (sm_w (sm_ad st base) cA base h') H' → va_S (fun q => base ≤ q) s.heap H' locs' → n0 + cells' = h'.length → z0 + slots' = sm_sz h' → W p l e R s m args below meth c H' locs' cells' slots' Q (F0 m pc' ls' (sk'.map (sm_v (sm_ad st base))))) :
    W p l e R s m args below meth c H locs cells slots Q (F0 m pc ls (sk.map (sm_v (sm_ad st base)))) := by
    dsimp only [sm_step] at hs
    split at hs
    · rename_i i k9 z9 e9
      split at hs
      · rename_i hi
        cases hs
        obtain ⟨C, n, d9, g1, g2⟩ := (hok ix _ e9).2.2.2.2.2.1 rfl
        have q9 : W p l e R s m args below meth c H locs cells slots Q (F0 m (pc + 3) ls (.ref (sm_ad st base i) :: sk.map (sm_v (sm_ad st base)))) := k _ _ _ _ _ hl hP hS hc1 hc2
        rw [sm_ad_ro hi] at q9
        exact va_gets hx hb (hE.2.2.1 _ g1) hS hown (hts _ g2) (fun _ h => h) hdg q9
      · cases hs
    · cases hs
set_option maxHeartbeats 1000000 in
theorem sn_ldc {p : Program} {l : Launch} {e : Env} {R : Room} {s : State} {m : MethodId} {args : Array Value} {below : List Frame} {meth : Method} {c : Code} {H : Heap} {locs : List Loc} {cells slots : Nat} {Q : State → Prop} {cc : ByteArray} {nL n0 z0 d base : Nat} {st : Nat → Nat} {cA : Nat → ClassId} {D : va_G} {cl : List vw_C} {Cq own : String} {cq : Nat} {RO : List (Nat × (Nat → Int32))} {SF : List (String × String × String × Nat)} {Ts : List Jvm.Cond} {tyc : Nat → Nat → FieldType} {NV : Nat → List Value} {lk : Nat → Option sm_L} {ini : Bool} {ix : Nat}
    (hx : p.tables.exec = Jvm.exec) (hb : c.code = cc) (hml : c.maxLocals = nL) (hown : s.vm.findClass own = some m.cls) (hts : ∀ w ∈ Ts, w.before args s = true) (hok : ∀ ix q, lk ix = some q → sm_okL cl tyc SF Cq Ts own ix q) (hcl : sm_okC cl tyc NV Ts) (hcq : ∃ r : vw_C, cl[cq]? = some r ∧ r.1 = Cq)
    (hini : ini = true → meth.name = "<init>") (hE : sm_env D cl cA Cq RO SF st base s s.heap) (hb0 : s.heap.size = base + n0) (hd : d ≤ R.frames) (hdl : d * 100 ≤ R.locals) (har : ∀ q t, sm_aty q = some t → Jvm.Cond.arrayClass (newarray.typeOf q) ∈ Ts)
    {len pc pc' : Nat} {lv lv' : sm_V} {sk sk' : List Value} {h h' : sm_H} {ls : Array Slot} (hdg : decode cc pc = .ok ((.ldc ix), sm_len (.ldc ix) len)) (hl : lv_has ls nL (sm_lv (sm_ad st base) lv)) (hP : va_P D cl (sm_w (sm_ad st base) cA base h) H) (hS : va_S (fun q => base ≤ q) s.heap H locs) (hc1 : n0 + cells = h.length) (hc2 : z0 + slots = sm_sz h)
    (hm1 : h'.length ≤ n0 + R.cells) (hm2 : sm_sz h' ≤ z0 + R.slots) (hs : sm_step lk RO NV cq ini nL d (.ldc ix) pc lv sk h = some (pc', lv', sk', h'))
    (k : ∀ (ls' : Array Slot) (H' : Heap) (locs' : List Loc) (cells' slots' : Nat), lv_has ls' nL (sm_lv (sm_ad st base) lv') → va_P D cl (sm_w (sm_ad st base) cA base h') H' → va_S (fun q => base ≤ q) s.heap H' locs' → n0 + cells' = h'.length → z0 + slots' = sm_sz h' → W p l e R s m args below meth c H' locs' cells' slots' Q (F0 m pc' ls' (sk'.map (sm_v (sm_ad st base))))) :
    W p l e R s m args below meth c H locs cells slots Q (F0 m pc ls (sk.map (sm_v (sm_ad st base)))) := by
    dsimp only [sm_step] at hs
    split at hs
    · rename_i i9 k9 z9 e9
      cases hs
      exact lv_ldc hx hb hown (hts _ ((hok ix _ e9).2.2.2.1 rfl)) hdg (k _ _ _ _ _ hl hP hS hc1 hc2)
    · cases hs
set_option maxHeartbeats 1000000 in
theorem sn_ldc_w {p : Program} {l : Launch} {e : Env} {R : Room} {s : State} {m : MethodId} {args : Array Value} {below : List Frame} {meth : Method} {c : Code} {H : Heap} {locs : List Loc} {cells slots : Nat} {Q : State → Prop} {cc : ByteArray} {nL n0 z0 d base : Nat} {st : Nat → Nat} {cA : Nat → ClassId} {D : va_G} {cl : List vw_C} {Cq own : String} {cq : Nat} {RO : List (Nat × (Nat → Int32))} {SF : List (String × String × String × Nat)} {Ts : List Jvm.Cond} {tyc : Nat → Nat → FieldType} {NV : Nat → List Value} {lk : Nat → Option sm_L} {ini : Bool} {ix : Nat}
    (hx : p.tables.exec = Jvm.exec) (hb : c.code = cc) (hml : c.maxLocals = nL) (hown : s.vm.findClass own = some m.cls) (hts : ∀ w ∈ Ts, w.before args s = true) (hok : ∀ ix q, lk ix = some q → sm_okL cl tyc SF Cq Ts own ix q) (hcl : sm_okC cl tyc NV Ts) (hcq : ∃ r : vw_C, cl[cq]? = some r ∧ r.1 = Cq)
    (hini : ini = true → meth.name = "<init>") (hE : sm_env D cl cA Cq RO SF st base s s.heap) (hb0 : s.heap.size = base + n0) (hd : d ≤ R.frames) (hdl : d * 100 ≤ R.locals) (har : ∀ q t, sm_aty q = some t → Jvm.Cond.arrayClass (newarray.typeOf q) ∈ Ts)
    {len pc pc' : Nat} {lv lv' : sm_V} {sk sk' : List Value} {h h' : sm_H} {ls : Array Slot} (hdg : decode cc pc = .ok ((.ldc_w ix), sm_len (.ldc_w ix) len)) (hl : lv_has ls nL (sm_lv (sm_ad st base) lv)) (hP : va_P D cl (sm_w (sm_ad st base) cA base h) H) (hS : va_S (fun q => base ≤ q) s.heap H locs) (hc1 : n0 + cells = h.length) (hc2 : z0 + slots = sm_sz h)
    (hm1 : h'.length ≤ n0 + R.cells) (hm2 : sm_sz h' ≤ z0 + R.slots) (hs : sm_step lk RO NV cq ini nL d (.ldc_w ix) pc lv sk h = some (pc', lv', sk', h'))
    (k : ∀ (ls' : Array Slot) (H' : Heap) (locs' : List Loc) (cells' slots' : Nat), lv_has ls' nL (sm_lv (sm_ad st base) lv') → va_P D cl (sm_w (sm_ad st base) cA base h') H' → va_S (fun q => base ≤ q) s.heap H' locs' → n0 + cells' = h'.length → z0 + slots' = sm_sz h' → W p l e R s m args below meth c H' locs' cells' slots' Q (F0 m pc' ls' (sk'.map (sm_v (sm_ad st base))))) :
    W p l e R s m args below meth c H locs cells slots Q (F0 m pc ls (sk.map (sm_v (sm_ad st base)))) := by
    dsimp only [sm_step] at hs
    split at hs
    · rename_i i9 k9 z9 e9
      cases hs
      exact lv_ldcw hx hb hown (hts _ ((hok ix _ e9).2.2.2.1 rfl)) hdg (k _ _ _ _ _ hl hP hS hc1 hc2)
    · cases hs
set_option maxHeartbeats 1000000 in
theorem sn_ldc2_w {p : Program} {l : Launch} {e : Env} {R : Room} {s : State} {m : MethodId} {args : Array Value} {below : List Frame} {meth : Method} {c : Code} {H : Heap} {locs : List Loc} {cells slots : Nat} {Q : State → Prop} {cc : ByteArray} {nL n0 z0 d base : Nat} {st : Nat → Nat} {cA : Nat → ClassId} {D : va_G} {cl : List vw_C} {Cq own : String} {cq : Nat} {RO : List (Nat × (Nat → Int32))} {SF : List (String × String × String × Nat)} {Ts : List Jvm.Cond} {tyc : Nat → Nat → FieldType} {NV : Nat → List Value} {lk : Nat → Option sm_L} {ini : Bool} {ix : Nat}
    (hx : p.tables.exec = Jvm.exec) (hb : c.code = cc) (hml : c.maxLocals = nL) (hown : s.vm.findClass own = some m.cls) (hts : ∀ w ∈ Ts, w.before args s = true) (hok : ∀ ix q, lk ix = some q → sm_okL cl tyc SF Cq Ts own ix q) (hcl : sm_okC cl tyc NV Ts) (hcq : ∃ r : vw_C, cl[cq]? = some r ∧ r.1 = Cq)
    (hini : ini = true → meth.name = "<init>") (hE : sm_env D cl cA Cq RO SF st base s s.heap) (hb0 : s.heap.size = base + n0) (hd : d ≤ R.frames) (hdl : d * 100 ≤ R.locals) (har : ∀ q t, sm_aty q = some t → Jvm.Cond.arrayClass (newarray.typeOf q) ∈ Ts)
    {len pc pc' : Nat} {lv lv' : sm_V} {sk sk' : List Value} {h h' : sm_H} {ls : Array Slot} (hdg : decode cc pc = .ok ((.ldc2_w ix), sm_len (.ldc2_w ix) len)) (hl : lv_has ls nL (sm_lv (sm_ad st base) lv)) (hP : va_P D cl (sm_w (sm_ad st base) cA base h) H) (hS : va_S (fun q => base ≤ q) s.heap H locs) (hc1 : n0 + cells = h.length) (hc2 : z0 + slots = sm_sz h)
    (hm1 : h'.length ≤ n0 + R.cells) (hm2 : sm_sz h' ≤ z0 + R.slots) (hs : sm_step lk RO NV cq ini nL d (.ldc2_w ix) pc lv sk h = some (pc', lv', sk', h'))
    (k : ∀ (ls' : Array Slot) (H' : Heap) (locs' : List Loc) (cells' slots' : Nat), lv_has ls' nL (sm_lv (sm_ad st base) lv') → va_P D cl (sm_w (sm_ad st base) cA base h') H' → va_S (fun q => base ≤ q) s.heap H' locs' → n0 + cells' = h'.length → z0 + slots' = sm_sz h' → W p l e R s m args below meth c H' locs' cells' slots' Q (F0 m pc' ls' (sk'.map (sm_v (sm_ad st base))))) :
    W p l e R s m args below meth c H locs cells slots Q (F0 m pc ls (sk.map (sm_v (sm_ad st base)))) := by
    dsimp only [sm_step] at hs
    split at hs
    · rename_i i9 k9 z9 e9
      cases hs
      exact lv_ldc2 hx hb hown (hts _ ((hok ix _ e9).2.2.2.2.1 rfl)) hdg (k _ _ _ _ _ hl hP hS hc1 hc2)
    · cases hs
set_option maxHeartbeats 1000000 in
theorem sn_new {p : Program} {l : Launch} {e : Env} {R : Room} {s : State} {m : MethodId} {args : Array Value} {below : List Frame} {meth : Method} {c : Code} {H : Heap} {locs : List Loc} {cells slots : Nat} {Q : State → Prop} {cc : ByteArray} {nL n0 z0 d base : Nat} {st : Nat → Nat} {cA : Nat → ClassId} {D : va_G} {cl : List vw_C} {Cq own : String} {cq : Nat} {RO : List (Nat × (Nat → Int32))} {SF : List (String × String × String × Nat)} {Ts : List Jvm.Cond} {tyc : Nat → Nat → FieldType} {NV : Nat → List Value} {lk : Nat → Option sm_L} {ini : Bool} {ix : Nat}
    (hx : p.tables.exec = Jvm.exec) (hb : c.code = cc) (hml : c.maxLocals = nL) (hown : s.vm.findClass own = some m.cls) (hts : ∀ w ∈ Ts, w.before args s = true) (hok : ∀ ix q, lk ix = some q → sm_okL cl tyc SF Cq Ts own ix q) (hcl : sm_okC cl tyc NV Ts) (hcq : ∃ r : vw_C, cl[cq]? = some r ∧ r.1 = Cq)
    (hini : ini = true → meth.name = "<init>") (hE : sm_env D cl cA Cq RO SF st base s s.heap) (hb0 : s.heap.size = base + n0) (hd : d ≤ R.frames) (hdl : d * 100 ≤ R.locals) (har : ∀ q t, sm_aty q = some t → Jvm.Cond.arrayClass (newarray.typeOf q) ∈ Ts)
    {len pc pc' : Nat} {lv lv' : sm_V} {sk sk' : List Value} {h h' : sm_H} {ls : Array Slot} (hdg : decode cc pc = .ok ((.new ix), sm_len (.new ix) len)) (hl : lv_has ls nL (sm_lv (sm_ad st base) lv)) (hP : va_P D cl (sm_w (sm_ad st base) cA base h) H) (hS : va_S (fun q => base ≤ q) s.heap H locs) (hc1 : n0 + cells = h.length) (hc2 : z0 + slots = sm_sz h)
    (hm1 : h'.length ≤ n0 + R.cells) (hm2 : sm_sz h' ≤ z0 + R.slots) (hs : sm_step lk RO NV cq ini nL d (.new ix) pc lv sk h = some (pc', lv', sk', h'))
    (k : ∀ (ls' : Array Slot) (H' : Heap) (locs' : List Loc) (cells' slots' : Nat), lv_has ls' nL (sm_lv (sm_ad st base) lv') → va_P D cl (sm_w (sm_ad st base) cA base h') H' → va_S (fun q => base ≤ q) s.heap H' locs' → n0 + cells' = h'.length → z0 + slots' = sm_sz h' → W p l e R s m args below meth c H' locs' cells' slots' Q (F0 m pc' ls' (sk'.map (sm_v (sm_ad st base))))) :
    W p l e R s m args below meth c H locs cells slots Q (F0 m pc ls (sk.map (sm_v (sm_ad st base)))) := by
    dsimp only [sm_step] at hs
    split at hs
    · rename_i ci k9 z9 e9
      cases hs
      obtain ⟨r0, g1, g2, g3, g4⟩ := (hok ix _ e9).2.2.1 rfl
      obtain ⟨w1, w2, w3, w4, w5, w6⟩ := hcl ci r0 g1
      have hKn := hE.1.1 ci r0 g1
      rw [List.length_append, List.length_cons, List.length_nil] at hm1
      rw [sm_sz_app] at hm2
      have hcz : sm_cz (.inr (ci, NV ci)) = r0.2.2 := w5
      rw [hcz] at hm2
      intro T hT X
      have hz := sm_size hT X hP hS.1 hb0 hc1
      refine W.newcK hx hb hown (hts _ g2) (hts _ g3) (hts _ g4) (g := F0 m pc ls (sk.map (sm_v (sm_ad st base)))) rfl hdg (by omega) (by omega) hKn.2.1 hz (fun H1 kC hkC e1 z1 o1 => ?_) T hT X
      have hk : ∀ (j : Nat) (x : Nat × va_E), (sm_w (sm_ad st base) cA base h)[j]? = some x → H1[x.1]? = H[x.1]? := fun j x hx9 => o1 x.1 (by rw [← hz]; exact (hP j x hx9).lt)
      have hP1 : va_P D cl (sm_w (sm_ad st base) cA base (h ++ [.inr (ci, NV ci)])) H1 := by
        rw [sm_w_app]
        refine (hP.kept hk).app (fun j x hx9 => ?_)
        have hj : j < 1 := (List.getElem?_eq_some_iff.mp hx9).1
        rw [show j = 0 by omega] at hx9
        cases hx9
        show va_at D cl (base + h.length, .inr (ci, (NV ci).map (sm_v (sm_ad st base)))) H1
        rw [w6]
        exact ⟨r0, g1, (u_born (tyc ci) hts w1 hKn hkC e1 w2).to w4⟩
      have hS1 : va_S (fun q => base ≤ q) s.heap H1 locs := ⟨Nat.le_trans hS.1 (by omega), fun x h1 h2 => (o1 x (by rw [← hz]; exact Nat.lt_of_lt_of_le h1 hS.1)).trans (hS.2.1 x h1 h2), hS.2.2⟩
      have q9 : W p l e R s m args below meth c H1 locs (cells + 1) (slots + r0.2.2) Q (F0 m (pc + 3) ls (.ref (sm_ad st base (8 + h.length)) :: sk.map (sm_v (sm_ad st base)))) := k _ _ _ _ _ hl hP1 hS1 (by rw [List.length_append, List.length_cons, List.length_nil]; omega) (by rw [sm_sz_app, hcz]; omega)
      rw [sm_ad_new] at q9
      exact q9
    · cases hs
set_option maxHeartbeats 1000000 in
theorem sn_newarray {p : Program} {l : Launch} {e : Env} {R : Room} {s : State} {m : MethodId} {args : Array Value} {below : List Frame} {meth : Method} {c : Code} {H : Heap} {locs : List Loc} {cells slots : Nat} {Q : State → Prop} {cc : ByteArray} {nL n0 z0 d base : Nat} {st : Nat → Nat} {cA : Nat → ClassId} {D : va_G} {cl : List vw_C} {Cq own : String} {cq : Nat} {RO : List (Nat × (Nat → Int32))} {SF : List (String × String × String × Nat)} {Ts : List Jvm.Cond} {tyc : Nat → Nat → FieldType} {NV : Nat → List Value} {lk : Nat → Option sm_L} {ini : Bool} {q : ArrayType}
    (hx : p.tables.exec = Jvm.exec) (hb : c.code = cc) (hml : c.maxLocals = nL) (hown : s.vm.findClass own = some m.cls) (hts : ∀ w ∈ Ts, w.before args s = true) (hok : ∀ ix q, lk ix = some q → sm_okL cl tyc SF Cq Ts own ix q) (hcl : sm_okC cl tyc NV Ts) (hcq : ∃ r : vw_C, cl[cq]? = some r ∧ r.1 = Cq)
    (hini : ini = true → meth.name = "<init>") (hE : sm_env D cl cA Cq RO SF st base s s.heap) (hb0 : s.heap.size = base + n0) (hd : d ≤ R.frames) (hdl : d * 100 ≤ R.locals) (har : ∀ q t, sm_aty q = some t → Jvm.Cond.arrayClass (newarray.typeOf q) ∈ Ts)
    {len pc pc' : Nat} {lv lv' : sm_V} {sk sk' : List Value} {h h' : sm_H} {ls : Array Slot} (hdg : decode cc pc = .ok ((.newarray q), sm_len (.newarray q) len)) (hl : lv_has ls nL (sm_lv (sm_ad st base) lv)) (hP : va_P D cl (sm_w (sm_ad st base) cA base h) H) (hS : va_S (fun q => base ≤ q) s.heap H locs) (hc1 : n0 + cells = h.length) (hc2 : z0 + slots = sm_sz h)
    (hm1 : h'.length ≤ n0 + R.cells) (hm2 : sm_sz h' ≤ z0 + R.slots) (hs : sm_step lk RO NV cq ini nL d (.newarray q) pc lv sk h = some (pc', lv', sk', h'))
    (k : ∀ (ls' : Array Slot) (H' : Heap) (locs' : List Loc) (cells' slots' : Nat), lv_has ls' nL (sm_lv (sm_ad st base) lv') → va_P D cl (sm_w (sm_ad st base) cA base h') H' → va_S (fun q => base ≤ q) s.heap H' locs' → n0 + cells' = h'.length → z0 + slots' = sm_sz h' → W p l e R s m args below meth c H' locs' cells' slots' Q (F0 m pc' ls' (sk'.map (sm_v (sm_ad st base))))) :
    W p l e R s m args below meth c H locs cells slots Q (F0 m pc ls (sk.map (sm_v (sm_ad st base)))) := by
    dsimp only [sm_step] at hs
    split at hs
    · rename_i t e9
      have hs1 := sm_i1_eq hs
      clear hs
      obtain ⟨n, r, e0, hs⟩ := hs1
      subst e0
      split at hs
      · rename_i hq
        cases hs
        obtain ⟨ty, y1, y2, y3, y4⟩ := sm_aty_ok (cA := cA) (Cq := Cq) (ad := sm_ad st base) e9
        rw [List.length_append, List.length_cons, List.length_nil] at hm1
        rw [sm_sz_app] at hm2
        have hcz : sm_cz (.inl (t, sm_new t n.toNatClampNeg)) = n.toNatClampNeg := by show (sm_new t n.toNatClampNeg).1 = _; unfold sm_new; split <;> rfl
        rw [hcz] at hm2
        intro T hT X
        have hz := sm_size hT X hP hS.1 hb0 hc1
        refine va_newaK hx hb (hts _ (har q t e9)) (g := F0 m pc ls (.int n :: r.map (sm_v (sm_ad st base)))) rfl hdg rfl hq.1 rfl (by rw [y1]; exact Nat.le_trans (Nat.mul_le_mul hq.2 y3) (by decide)) (by omega) (by omega) hz (fun H1 cA' e1 z1 o1 hAr hNm => ?_) T hT X
        rw [y1] at e1 hAr hNm
        have hc9 : cA' = cA t := by
          have h9 := (hE.1.2 t _ y2).2
          rcases y4.2 with rfl | rfl | rfl | rfl <;> exact Option.some.inj (hNm.symm.trans h9)
        subst hc9
        have hk : ∀ (j : Nat) (x : Nat × va_E), (sm_w (sm_ad st base) cA base h)[j]? = some x → H1[x.1]? = H[x.1]? := fun j x hx9 => o1 x.1 (by rw [← hz]; exact (hP j x hx9).lt)
        have hP1 : va_P D cl (sm_w (sm_ad st base) cA base (h ++ [.inl (t, sm_new t n.toNatClampNeg)])) H1 := by
          rw [sm_w_app]
          refine (hP.kept hk).app (fun j x hx9 => ?_)
          have hj : j < 1 := (List.getElem?_eq_some_iff.mp hx9).1
          rw [show j = 0 by omega] at hx9
          cases hx9
          show H1[base + h.length]? = some (vp_cell (cA t) (sm_ar (sm_ad st base) (sm_new t n.toNatClampNeg)))
          rw [y4.1]
          exact e1
        have hS1 : va_S (fun q => base ≤ q) s.heap H1 locs := ⟨Nat.le_trans hS.1 (by omega), fun x h1 h2 => (o1 x (by rw [← hz]; exact Nat.lt_of_lt_of_le h1 hS.1)).trans (hS.2.1 x h1 h2), hS.2.2⟩
        have q9 : W p l e R s m args below meth c H1 locs (cells + 1) (slots + n.toNatClampNeg) Q (F0 m (pc + 2) ls (.ref (sm_ad st base (8 + h.length)) :: r.map (sm_v (sm_ad st base)))) := k _ _ _ _ _ hl hP1 hS1 (by rw [List.length_append, List.length_cons, List.length_nil]; omega) (by rw [sm_sz_app, hcz]; omega)
        rw [sm_ad_new] at q9
        exact q9
      · cases hs
    · cases hs
set_option maxHeartbeats 1000000 in
theorem sn_anewarray {p : Program} {l : Launch} {e : Env} {R : Room} {s : State} {m : MethodId} {args : Array Value} {below : List Frame} {meth : Method} {c : Code} {H : Heap} {locs : List Loc} {cells slots : Nat} {Q : State → Prop} {cc : ByteArray} {nL n0 z0 d base : Nat} {st : Nat → Nat} {cA : Nat → ClassId} {D : va_G} {cl : List vw_C} {Cq own : String} {cq : Nat} {RO : List (Nat × (Nat → Int32))} {SF : List (String × String × String × Nat)} {Ts : List Jvm.Cond} {tyc : Nat → Nat → FieldType} {NV : Nat → List Value} {lk : Nat → Option sm_L} {ini : Bool} {ix : Nat}
    (hx : p.tables.exec = Jvm.exec) (hb : c.code = cc) (hml : c.maxLocals = nL) (hown : s.vm.findClass own = some m.cls) (hts : ∀ w ∈ Ts, w.before args s = true) (hok : ∀ ix q, lk ix = some q → sm_okL cl tyc SF Cq Ts own ix q) (hcl : sm_okC cl tyc NV Ts) (hcq : ∃ r : vw_C, cl[cq]? = some r ∧ r.1 = Cq)
    (hini : ini = true → meth.name = "<init>") (hE : sm_env D cl cA Cq RO SF st base s s.heap) (hb0 : s.heap.size = base + n0) (hd : d ≤ R.frames) (hdl : d * 100 ≤ R.locals) (har : ∀ q t, sm_aty q = some t → Jvm.Cond.arrayClass (newarray.typeOf q) ∈ Ts)
    {len pc pc' : Nat} {lv lv' : sm_V} {sk sk' : List Value} {h h' : sm_H} {ls : Array Slot} (hdg : decode cc pc = .ok ((.anewarray ix), sm_len (.anewarray ix) len)) (hl : lv_has ls nL (sm_lv (sm_ad st base) lv)) (hP : va_P D cl (sm_w (sm_ad st base) cA base h) H) (hS : va_S (fun q => base ≤ q) s.heap H locs) (hc1 : n0 + cells = h.length) (hc2 : z0 + slots = sm_sz h)
    (hm1 : h'.length ≤ n0 + R.cells) (hm2 : sm_sz h' ≤ z0 + R.slots) (hs : sm_step lk RO NV cq ini nL d (.anewarray ix) pc lv sk h = some (pc', lv', sk', h'))
    (k : ∀ (ls' : Array Slot) (H' : Heap) (locs' : List Loc) (cells' slots' : Nat), lv_has ls' nL (sm_lv (sm_ad st base) lv') → va_P D cl (sm_w (sm_ad st base) cA base h') H' → va_S (fun q => base ≤ q) s.heap H' locs' → n0 + cells' = h'.length → z0 + slots' = sm_sz h' → W p l e R s m args below meth c H' locs' cells' slots' Q (F0 m pc' ls' (sk'.map (sm_v (sm_ad st base))))) :
    W p l e R s m args below meth c H locs cells slots Q (F0 m pc ls (sk.map (sm_v (sm_ad st base)))) := by
    dsimp only [sm_step] at hs
    split at hs
    · rename_i i9 k9 z9 e9
      have hs1 := sm_i1_eq hs
      clear hs
      obtain ⟨n, r, e0, hs⟩ := hs1
      subst e0
      split at hs
      · rename_i hq
        cases hs
        obtain ⟨rq, rq1, rq2⟩ := hcq
        obtain ⟨r0, r1, g1, -, -⟩ := (hok ix _ e9).2.2.1 rfl
        obtain ⟨hq1, hq2, rfl⟩ := hq
        rw [rq1] at r1
        cases r1
        rw [rq2] at g1
        have hq : ¬ n < 0 ∧ n.toNatClampNeg ≤ 1000000 := ⟨hq1, hq2⟩
        rw [List.length_append, List.length_cons, List.length_nil] at hm1
        rw [sm_sz_app] at hm2
        have hcz : sm_cz (.inl (4, n.toNatClampNeg, .inr (.inr (.inr (.inr (fun _ => none)))))) = n.toNatClampNeg := rfl
        rw [hcz] at hm2
        intro T hT X
        have hz := sm_size hT X hP hS.1 hb0 hc1
        refine W.anew hx hb hown (hts _ g1) (va_AO.use hE.2.2.2) (g := F0 m pc ls (.int n :: r.map (sm_v (sm_ad st base)))) rfl hdg rfl hq.1 (Nat.le_trans (Nat.mul_le_mul hq.2 (Nat.le_refl 4)) (by decide)) (by omega) (by omega) (fun cA' kA comp f1 f2 f3 f4 => ?_) T hT X
        have hc9 : cA' = cA 4 := by
          obtain ⟨kA2, comp2, x1, x2, x3, x4⟩ := (hE.1.2 4 _ rfl).2
          exact Option.some.inj (f1.symm.trans x4)
        subst hc9
        generalize hH1 : H.push ({ cls := cA 4, slots := Array.replicate n.toNatClampNeg .null, vm := .none } : Cell) = H1
        have z1 : H1.size = H.size + 1 := by rw [← hH1, Array.size_push]
        have e1 : H1[H.size]? = some (arrV (cA 4) n.toNatClampNeg (fun _ => .null)) := by rw [← hH1, Array.getElem?_push_size, ← arrV_new]
        have o1 : ∀ q : Nat, q < H.size → H1[q]? = H[q]? := fun q hq => by rw [← hH1, Array.getElem?_push, if_neg (Nat.ne_of_lt hq)]
        have hk : ∀ (j : Nat) (x : Nat × va_E), (sm_w (sm_ad st base) cA base h)[j]? = some x → H1[x.1]? = H[x.1]? := fun j x hx9 => o1 x.1 (hP j x hx9).lt
        have hP1 : va_P D cl (sm_w (sm_ad st base) cA base (h ++ [.inl (4, n.toNatClampNeg, .inr (.inr (.inr (.inr (fun _ => none)))))])) H1 := by
          rw [sm_w_app]
          refine (hP.kept hk).app (fun j x hx9 => ?_)
          have hj : j < 1 := (List.getElem?_eq_some_iff.mp hx9).1
          rw [show j = 0 by omega] at hx9
          cases hx9
          show H1[base + h.length]? = some (vp_cell (cA 4) (n.toNatClampNeg, .inr (.inr (.inr (.inr (fun j => Option.map (sm_ad st base) none))))))
          rw [← hz, vp_cell_q]
          exact e1
        have hS1 : va_S (fun q => base ≤ q) s.heap H1 locs := ⟨Nat.le_trans hS.1 (by omega), fun x h1 h2 => (o1 x (Nat.lt_of_lt_of_le h1 hS.1)).trans (hS.2.1 x h1 h2), hS.2.2⟩
        have q9 : W p l e R s m args below meth c H1 locs (cells + 1) (slots + n.toNatClampNeg) Q (F0 m (pc + 3) ls (.ref (sm_ad st base (8 + h.length)) :: r.map (sm_v (sm_ad st base)))) := k _ _ _ _ _ hl hP1 hS1 (by rw [List.length_append, List.length_cons, List.length_nil]; omega) (by rw [sm_sz_app, hcz]; omega)
        rw [sm_ad_new, ← hz] at q9
        exact q9
      · cases hs
    · cases hs
set_option maxHeartbeats 1000000 in
theorem sn_baload {p : Program} {l : Launch} {e : Env} {R : Room} {s : State} {m : MethodId} {args : Array Value} {below : List Frame} {meth : Method} {c : Code} {H : Heap} {locs : List Loc} {cells slots : Nat} {Q : State → Prop} {cc : ByteArray} {nL n0 z0 d base : Nat} {st : Nat → Nat} {cA : Nat → ClassId} {D : va_G} {cl : List vw_C} {Cq own : String} {cq : Nat} {RO : List (Nat × (Nat → Int32))} {SF : List (String × String × String × Nat)} {Ts : List Jvm.Cond} {tyc : Nat → Nat → FieldType} {NV : Nat → List Value} {lk : Nat → Option sm_L} {ini : Bool} 
    (hx : p.tables.exec = Jvm.exec) (hb : c.code = cc) (hml : c.maxLocals = nL) (hown : s.vm.findClass own = some m.cls) (hts : ∀ w ∈ Ts, w.before args s = true) (hok : ∀ ix q, lk ix = some q → sm_okL cl tyc SF Cq Ts own ix q) (hcl : sm_okC cl tyc NV Ts) (hcq : ∃ r : vw_C, cl[cq]? = some r ∧ r.1 = Cq)
    (hini : ini = true → meth.name = "<init>") (hE : sm_env D cl cA Cq RO SF st base s s.heap) (hb0 : s.heap.size = base + n0) (hd : d ≤ R.frames) (hdl : d * 100 ≤ R.locals) (har : ∀ q t, sm_aty q = some t → Jvm.Cond.arrayClass (newarray.typeOf q) ∈ Ts)
    {len pc pc' : Nat} {lv lv' : sm_V} {sk sk' : List Value} {h h' : sm_H} {ls : Array Slot} (hdg : decode cc pc = .ok (.baload, sm_len .baload len)) (hl : lv_has ls nL (sm_lv (sm_ad st base) lv)) (hP : va_P D cl (sm_w (sm_ad st base) cA base h) H) (hS : va_S (fun q => base ≤ q) s.heap H locs) (hc1 : n0 + cells = h.length) (hc2 : z0 + slots = sm_sz h)
    (hm1 : h'.length ≤ n0 + R.cells) (hm2 : sm_sz h' ≤ z0 + R.slots) (hs : sm_step lk RO NV cq ini nL d .baload pc lv sk h = some (pc', lv', sk', h'))
    (k : ∀ (ls' : Array Slot) (H' : Heap) (locs' : List Loc) (cells' slots' : Nat), lv_has ls' nL (sm_lv (sm_ad st base) lv') → va_P D cl (sm_w (sm_ad st base) cA base h') H' → va_S (fun q => base ≤ q) s.heap H' locs' → n0 + cells' = h'.length → z0 + slots' = sm_sz h' → W p l e R s m args below meth c H' locs' cells' slots' Q (F0 m pc' ls' (sk'.map (sm_v (sm_ad st base))))) :
    W p l e R s m args below meth c H locs cells slots Q (F0 m pc ls (sk.map (sm_v (sm_ad st base)))) := by
    have hs1 := sm_ai_eq hs
    clear hs
    obtain ⟨a, i, r, e0, hs⟩ := hs1
    subst e0
    split at hs
    · rename_i n f e1
      split at hs
      · rename_i hi
        cases hs
        obtain ⟨o1, o2, o3⟩ := sm_ints_own (ad := sm_ad st base) (cA := cA) (base := base) e1
        have q9 : W p l e R s m args below meth c H locs cells slots Q (F0 m (pc + 1) ls (.int (f i.toNatClampNeg) :: r.map (sm_v (sm_ad st base)))) := k _ _ _ _ _ hl hP hS hc1 hc2
        show W p l e R s m args below meth c H locs cells slots Q (F0 m pc ls (.int i :: .ref (sm_ad st base a) :: r.map (sm_v (sm_ad st base))))
        rw [sm_ad_own o1]
        exact va_bald hx hb hE.1 hP (a - 8) 2 o3 rfl (sm_in_vp hi) hdg q9
      · cases hs
    · cases hs
set_option maxHeartbeats 1000000 in
theorem sn_saload {p : Program} {l : Launch} {e : Env} {R : Room} {s : State} {m : MethodId} {args : Array Value} {below : List Frame} {meth : Method} {c : Code} {H : Heap} {locs : List Loc} {cells slots : Nat} {Q : State → Prop} {cc : ByteArray} {nL n0 z0 d base : Nat} {st : Nat → Nat} {cA : Nat → ClassId} {D : va_G} {cl : List vw_C} {Cq own : String} {cq : Nat} {RO : List (Nat × (Nat → Int32))} {SF : List (String × String × String × Nat)} {Ts : List Jvm.Cond} {tyc : Nat → Nat → FieldType} {NV : Nat → List Value} {lk : Nat → Option sm_L} {ini : Bool} 
    (hx : p.tables.exec = Jvm.exec) (hb : c.code = cc) (hml : c.maxLocals = nL) (hown : s.vm.findClass own = some m.cls) (hts : ∀ w ∈ Ts, w.before args s = true) (hok : ∀ ix q, lk ix = some q → sm_okL cl tyc SF Cq Ts own ix q) (hcl : sm_okC cl tyc NV Ts) (hcq : ∃ r : vw_C, cl[cq]? = some r ∧ r.1 = Cq)
    (hini : ini = true → meth.name = "<init>") (hE : sm_env D cl cA Cq RO SF st base s s.heap) (hb0 : s.heap.size = base + n0) (hd : d ≤ R.frames) (hdl : d * 100 ≤ R.locals) (har : ∀ q t, sm_aty q = some t → Jvm.Cond.arrayClass (newarray.typeOf q) ∈ Ts)
    {len pc pc' : Nat} {lv lv' : sm_V} {sk sk' : List Value} {h h' : sm_H} {ls : Array Slot} (hdg : decode cc pc = .ok (.saload, sm_len .saload len)) (hl : lv_has ls nL (sm_lv (sm_ad st base) lv)) (hP : va_P D cl (sm_w (sm_ad st base) cA base h) H) (hS : va_S (fun q => base ≤ q) s.heap H locs) (hc1 : n0 + cells = h.length) (hc2 : z0 + slots = sm_sz h)
    (hm1 : h'.length ≤ n0 + R.cells) (hm2 : sm_sz h' ≤ z0 + R.slots) (hs : sm_step lk RO NV cq ini nL d .saload pc lv sk h = some (pc', lv', sk', h'))
    (k : ∀ (ls' : Array Slot) (H' : Heap) (locs' : List Loc) (cells' slots' : Nat), lv_has ls' nL (sm_lv (sm_ad st base) lv') → va_P D cl (sm_w (sm_ad st base) cA base h') H' → va_S (fun q => base ≤ q) s.heap H' locs' → n0 + cells' = h'.length → z0 + slots' = sm_sz h' → W p l e R s m args below meth c H' locs' cells' slots' Q (F0 m pc' ls' (sk'.map (sm_v (sm_ad st base))))) :
    W p l e R s m args below meth c H locs cells slots Q (F0 m pc ls (sk.map (sm_v (sm_ad st base)))) := by
    have hs1 := sm_ai_eq hs
    clear hs
    obtain ⟨a, i, r, e0, hs⟩ := hs1
    subst e0
    split at hs
    · rename_i n f e1
      split at hs
      · rename_i hi
        cases hs
        obtain ⟨o1, o2, o3⟩ := sm_ints_own (ad := sm_ad st base) (cA := cA) (base := base) e1
        have q9 : W p l e R s m args below meth c H locs cells slots Q (F0 m (pc + 1) ls (.int (f i.toNatClampNeg) :: r.map (sm_v (sm_ad st base)))) := k _ _ _ _ _ hl hP hS hc1 hc2
        show W p l e R s m args below meth c H locs cells slots Q (F0 m pc ls (.int i :: .ref (sm_ad st base a) :: r.map (sm_v (sm_ad st base))))
        rw [sm_ad_own o1]
        exact va_sald hx hb hE.1 hP (a - 8) 3 o3 rfl (sm_in_vp hi) hdg q9
      · cases hs
    · cases hs
set_option maxHeartbeats 1000000 in
theorem sn_laload {p : Program} {l : Launch} {e : Env} {R : Room} {s : State} {m : MethodId} {args : Array Value} {below : List Frame} {meth : Method} {c : Code} {H : Heap} {locs : List Loc} {cells slots : Nat} {Q : State → Prop} {cc : ByteArray} {nL n0 z0 d base : Nat} {st : Nat → Nat} {cA : Nat → ClassId} {D : va_G} {cl : List vw_C} {Cq own : String} {cq : Nat} {RO : List (Nat × (Nat → Int32))} {SF : List (String × String × String × Nat)} {Ts : List Jvm.Cond} {tyc : Nat → Nat → FieldType} {NV : Nat → List Value} {lk : Nat → Option sm_L} {ini : Bool} 
    (hx : p.tables.exec = Jvm.exec) (hb : c.code = cc) (hml : c.maxLocals = nL) (hown : s.vm.findClass own = some m.cls) (hts : ∀ w ∈ Ts, w.before args s = true) (hok : ∀ ix q, lk ix = some q → sm_okL cl tyc SF Cq Ts own ix q) (hcl : sm_okC cl tyc NV Ts) (hcq : ∃ r : vw_C, cl[cq]? = some r ∧ r.1 = Cq)
    (hini : ini = true → meth.name = "<init>") (hE : sm_env D cl cA Cq RO SF st base s s.heap) (hb0 : s.heap.size = base + n0) (hd : d ≤ R.frames) (hdl : d * 100 ≤ R.locals) (har : ∀ q t, sm_aty q = some t → Jvm.Cond.arrayClass (newarray.typeOf q) ∈ Ts)
    {len pc pc' : Nat} {lv lv' : sm_V} {sk sk' : List Value} {h h' : sm_H} {ls : Array Slot} (hdg : decode cc pc = .ok (.laload, sm_len .laload len)) (hl : lv_has ls nL (sm_lv (sm_ad st base) lv)) (hP : va_P D cl (sm_w (sm_ad st base) cA base h) H) (hS : va_S (fun q => base ≤ q) s.heap H locs) (hc1 : n0 + cells = h.length) (hc2 : z0 + slots = sm_sz h)
    (hm1 : h'.length ≤ n0 + R.cells) (hm2 : sm_sz h' ≤ z0 + R.slots) (hs : sm_step lk RO NV cq ini nL d .laload pc lv sk h = some (pc', lv', sk', h'))
    (k : ∀ (ls' : Array Slot) (H' : Heap) (locs' : List Loc) (cells' slots' : Nat), lv_has ls' nL (sm_lv (sm_ad st base) lv') → va_P D cl (sm_w (sm_ad st base) cA base h') H' → va_S (fun q => base ≤ q) s.heap H' locs' → n0 + cells' = h'.length → z0 + slots' = sm_sz h' → W p l e R s m args below meth c H' locs' cells' slots' Q (F0 m pc' ls' (sk'.map (sm_v (sm_ad st base))))) :
    W p l e R s m args below meth c H locs cells slots Q (F0 m pc ls (sk.map (sm_v (sm_ad st base)))) := by
    have hs1 := sm_ai_eq hs
    clear hs
    obtain ⟨a, i, r, e0, hs⟩ := hs1
    subst e0
    split at hs
    · rename_i n f e1
      split at hs
      · rename_i hi
        cases hs
        obtain ⟨o1, o2, o3⟩ := sm_longs_at (ad := sm_ad st base) (cA := cA) (base := base) e1
        have q9 : W p l e R s m args below meth c H locs cells slots Q (F0 m (pc + 1) ls (.long (f i.toNatClampNeg) :: r.map (sm_v (sm_ad st base)))) := k _ _ _ _ _ hl hP hS hc1 hc2
        show W p l e R s m args below meth c H locs cells slots Q (F0 m pc ls (.int i :: .ref (sm_ad st base a) :: r.map (sm_v (sm_ad st base))))
        rw [sm_ad_own o1]
        exact va_lald hx hb hE.1 hP (a - 8) 1 o3 rfl (sm_in_vp hi) hdg q9
      · cases hs
    · cases hs
set_option maxHeartbeats 1000000 in
theorem sn_aaload {p : Program} {l : Launch} {e : Env} {R : Room} {s : State} {m : MethodId} {args : Array Value} {below : List Frame} {meth : Method} {c : Code} {H : Heap} {locs : List Loc} {cells slots : Nat} {Q : State → Prop} {cc : ByteArray} {nL n0 z0 d base : Nat} {st : Nat → Nat} {cA : Nat → ClassId} {D : va_G} {cl : List vw_C} {Cq own : String} {cq : Nat} {RO : List (Nat × (Nat → Int32))} {SF : List (String × String × String × Nat)} {Ts : List Jvm.Cond} {tyc : Nat → Nat → FieldType} {NV : Nat → List Value} {lk : Nat → Option sm_L} {ini : Bool} 
    (hx : p.tables.exec = Jvm.exec) (hb : c.code = cc) (hml : c.maxLocals = nL) (hown : s.vm.findClass own = some m.cls) (hts : ∀ w ∈ Ts, w.before args s = true) (hok : ∀ ix q, lk ix = some q → sm_okL cl tyc SF Cq Ts own ix q) (hcl : sm_okC cl tyc NV Ts) (hcq : ∃ r : vw_C, cl[cq]? = some r ∧ r.1 = Cq)
    (hini : ini = true → meth.name = "<init>") (hE : sm_env D cl cA Cq RO SF st base s s.heap) (hb0 : s.heap.size = base + n0) (hd : d ≤ R.frames) (hdl : d * 100 ≤ R.locals) (har : ∀ q t, sm_aty q = some t → Jvm.Cond.arrayClass (newarray.typeOf q) ∈ Ts)
    {len pc pc' : Nat} {lv lv' : sm_V} {sk sk' : List Value} {h h' : sm_H} {ls : Array Slot} (hdg : decode cc pc = .ok (.aaload, sm_len .aaload len)) (hl : lv_has ls nL (sm_lv (sm_ad st base) lv)) (hP : va_P D cl (sm_w (sm_ad st base) cA base h) H) (hS : va_S (fun q => base ≤ q) s.heap H locs) (hc1 : n0 + cells = h.length) (hc2 : z0 + slots = sm_sz h)
    (hm1 : h'.length ≤ n0 + R.cells) (hm2 : sm_sz h' ≤ z0 + R.slots) (hs : sm_step lk RO NV cq ini nL d .aaload pc lv sk h = some (pc', lv', sk', h'))
    (k : ∀ (ls' : Array Slot) (H' : Heap) (locs' : List Loc) (cells' slots' : Nat), lv_has ls' nL (sm_lv (sm_ad st base) lv') → va_P D cl (sm_w (sm_ad st base) cA base h') H' → va_S (fun q => base ≤ q) s.heap H' locs' → n0 + cells' = h'.length → z0 + slots' = sm_sz h' → W p l e R s m args below meth c H' locs' cells' slots' Q (F0 m pc' ls' (sk'.map (sm_v (sm_ad st base))))) :
    W p l e R s m args below meth c H locs cells slots Q (F0 m pc ls (sk.map (sm_v (sm_ad st base)))) := by
    have hs1 := sm_ai_eq hs
    clear hs
    obtain ⟨a, i, r, e0, hs⟩ := hs1
    subst e0
    split at hs
    · rename_i n f e1
      split at hs
      · rename_i hi
        cases hs
        obtain ⟨o1, o2, o3⟩ := sm_refs_at (ad := sm_ad st base) (cA := cA) (base := base) e1
        have q9 : W p l e R s m args below meth c H locs cells slots Q (F0 m (pc + 1) ls (sm_v (sm_ad st base) (va_rf (f i.toNatClampNeg)) :: r.map (sm_v (sm_ad st base)))) := k _ _ _ _ _ hl hP hS hc1 hc2
        rw [sm_v_rf] at q9
        show W p l e R s m args below meth c H locs cells slots Q (F0 m pc ls (.int i :: .ref (sm_ad st base a) :: r.map (sm_v (sm_ad st base))))
        rw [sm_ad_own o1]
        exact va_aldq hx hb hE.1 hP (a - 8) 4 o3 rfl (sm_in_vp hi) hdg q9
      · cases hs
    · cases hs
set_option maxHeartbeats 1000000 in
theorem sn_iaload {p : Program} {l : Launch} {e : Env} {R : Room} {s : State} {m : MethodId} {args : Array Value} {below : List Frame} {meth : Method} {c : Code} {H : Heap} {locs : List Loc} {cells slots : Nat} {Q : State → Prop} {cc : ByteArray} {nL n0 z0 d base : Nat} {st : Nat → Nat} {cA : Nat → ClassId} {D : va_G} {cl : List vw_C} {Cq own : String} {cq : Nat} {RO : List (Nat × (Nat → Int32))} {SF : List (String × String × String × Nat)} {Ts : List Jvm.Cond} {tyc : Nat → Nat → FieldType} {NV : Nat → List Value} {lk : Nat → Option sm_L} {ini : Bool} 
    (hx : p.tables.exec = Jvm.exec) (hb : c.code = cc) (hml : c.maxLocals = nL) (hown : s.vm.findClass own = some m.cls) (hts : ∀ w ∈ Ts, w.before args s = true) (hok : ∀ ix q, lk ix = some q → sm_okL cl tyc SF Cq Ts own ix q) (hcl : sm_okC cl tyc NV Ts) (hcq : ∃ r : vw_C, cl[cq]? = some r ∧ r.1 = Cq)
    (hini : ini = true → meth.name = "<init>") (hE : sm_env D cl cA Cq RO SF st base s s.heap) (hb0 : s.heap.size = base + n0) (hd : d ≤ R.frames) (hdl : d * 100 ≤ R.locals) (har : ∀ q t, sm_aty q = some t → Jvm.Cond.arrayClass (newarray.typeOf q) ∈ Ts)
    {len pc pc' : Nat} {lv lv' : sm_V} {sk sk' : List Value} {h h' : sm_H} {ls : Array Slot} (hdg : decode cc pc = .ok (.iaload, sm_len .iaload len)) (hl : lv_has ls nL (sm_lv (sm_ad st base) lv)) (hP : va_P D cl (sm_w (sm_ad st base) cA base h) H) (hS : va_S (fun q => base ≤ q) s.heap H locs) (hc1 : n0 + cells = h.length) (hc2 : z0 + slots = sm_sz h)
    (hm1 : h'.length ≤ n0 + R.cells) (hm2 : sm_sz h' ≤ z0 + R.slots) (hs : sm_step lk RO NV cq ini nL d .iaload pc lv sk h = some (pc', lv', sk', h'))
    (k : ∀ (ls' : Array Slot) (H' : Heap) (locs' : List Loc) (cells' slots' : Nat), lv_has ls' nL (sm_lv (sm_ad st base) lv') → va_P D cl (sm_w (sm_ad st base) cA base h') H' → va_S (fun q => base ≤ q) s.heap H' locs' → n0 + cells' = h'.length → z0 + slots' = sm_sz h' → W p l e R s m args below meth c H' locs' cells' slots' Q (F0 m pc' ls' (sk'.map (sm_v (sm_ad st base))))) :
    W p l e R s m args below meth c H locs cells slots Q (F0 m pc ls (sk.map (sm_v (sm_ad st base)))) := by
    have hs1 := sm_ai_eq hs
    clear hs
    obtain ⟨a, i, r, e0, hs⟩ := hs1
    subst e0
    split at hs
    · rename_i n f e1
      split at hs
      · rename_i hi
        cases hs
        have q9 : W p l e R s m args below meth c H locs cells slots Q (F0 m (pc + 1) ls (.int (f i.toNatClampNeg) :: r.map (sm_v (sm_ad st base)))) := k _ _ _ _ _ hl hP hS hc1 hc2
        show W p l e R s m args below meth c H locs cells slots Q (F0 m pc ls (.int i :: .ref (sm_ad st base a) :: r.map (sm_v (sm_ad st base))))
        rcases sm_ints_at (ad := sm_ad st base) (cA := cA) (base := base) e1 with ⟨o1, o2, o3⟩ | ⟨o1, o2, o3⟩
        · rw [sm_ad_ro o1]
          exact va_ti hx hb (hE.2.1 a _ o3) hS (sm_in_vp hi) rfl hdg q9
        · rw [sm_ad_own o1]
          exact va_iald hx hb hE.1 hP (a - 8) 0 o3 rfl (sm_in_vp hi) hdg q9
      · cases hs
    · cases hs
set_option maxHeartbeats 1000000 in
theorem sn_arraylength {p : Program} {l : Launch} {e : Env} {R : Room} {s : State} {m : MethodId} {args : Array Value} {below : List Frame} {meth : Method} {c : Code} {H : Heap} {locs : List Loc} {cells slots : Nat} {Q : State → Prop} {cc : ByteArray} {nL n0 z0 d base : Nat} {st : Nat → Nat} {cA : Nat → ClassId} {D : va_G} {cl : List vw_C} {Cq own : String} {cq : Nat} {RO : List (Nat × (Nat → Int32))} {SF : List (String × String × String × Nat)} {Ts : List Jvm.Cond} {tyc : Nat → Nat → FieldType} {NV : Nat → List Value} {lk : Nat → Option sm_L} {ini : Bool} 
    (hx : p.tables.exec = Jvm.exec) (hb : c.code = cc) (hml : c.maxLocals = nL) (hown : s.vm.findClass own = some m.cls) (hts : ∀ w ∈ Ts, w.before args s = true) (hok : ∀ ix q, lk ix = some q → sm_okL cl tyc SF Cq Ts own ix q) (hcl : sm_okC cl tyc NV Ts) (hcq : ∃ r : vw_C, cl[cq]? = some r ∧ r.1 = Cq)
    (hini : ini = true → meth.name = "<init>") (hE : sm_env D cl cA Cq RO SF st base s s.heap) (hb0 : s.heap.size = base + n0) (hd : d ≤ R.frames) (hdl : d * 100 ≤ R.locals) (har : ∀ q t, sm_aty q = some t → Jvm.Cond.arrayClass (newarray.typeOf q) ∈ Ts)
    {len pc pc' : Nat} {lv lv' : sm_V} {sk sk' : List Value} {h h' : sm_H} {ls : Array Slot} (hdg : decode cc pc = .ok (.arraylength, sm_len .arraylength len)) (hl : lv_has ls nL (sm_lv (sm_ad st base) lv)) (hP : va_P D cl (sm_w (sm_ad st base) cA base h) H) (hS : va_S (fun q => base ≤ q) s.heap H locs) (hc1 : n0 + cells = h.length) (hc2 : z0 + slots = sm_sz h)
    (hm1 : h'.length ≤ n0 + R.cells) (hm2 : sm_sz h' ≤ z0 + R.slots) (hs : sm_step lk RO NV cq ini nL d .arraylength pc lv sk h = some (pc', lv', sk', h'))
    (k : ∀ (ls' : Array Slot) (H' : Heap) (locs' : List Loc) (cells' slots' : Nat), lv_has ls' nL (sm_lv (sm_ad st base) lv') → va_P D cl (sm_w (sm_ad st base) cA base h') H' → va_S (fun q => base ≤ q) s.heap H' locs' → n0 + cells' = h'.length → z0 + slots' = sm_sz h' → W p l e R s m args below meth c H' locs' cells' slots' Q (F0 m pc' ls' (sk'.map (sm_v (sm_ad st base))))) :
    W p l e R s m args below meth c H locs cells slots Q (F0 m pc ls (sk.map (sm_v (sm_ad st base)))) := by
    have hs1 := sm_r1_eq hs
    clear hs
    obtain ⟨a, r, e0, hs⟩ := hs1
    subst e0
    split at hs
    · rename_i n f e1
      cases hs
      have q9 : W p l e R s m args below meth c H locs cells slots Q (F0 m (pc + 1) ls (.int (Int32.ofNat n) :: r.map (sm_v (sm_ad st base)))) := k _ _ _ _ _ hl hP hS hc1 hc2
      show W p l e R s m args below meth c H locs cells slots Q (F0 m pc ls (.ref (sm_ad st base a) :: r.map (sm_v (sm_ad st base))))
      rcases sm_ints_at (ad := sm_ad st base) (cA := cA) (base := base) e1 with ⟨o1, o2, o3⟩ | ⟨o1, o2, o3⟩
      · rw [sm_ad_ro o1]
        exact va_tlen hx hb (hE.2.1 a _ o3) hS rfl hdg q9
      · rw [sm_ad_own o1]
        exact va_alen hx hb hE.1 hP (a - 8) 0 o3 rfl rfl hdg q9
    · cases hs
set_option maxHeartbeats 1000000 in
theorem sn_iastore {p : Program} {l : Launch} {e : Env} {R : Room} {s : State} {m : MethodId} {args : Array Value} {below : List Frame} {meth : Method} {c : Code} {H : Heap} {locs : List Loc} {cells slots : Nat} {Q : State → Prop} {cc : ByteArray} {nL n0 z0 d base : Nat} {st : Nat → Nat} {cA : Nat → ClassId} {D : va_G} {cl : List vw_C} {Cq own : String} {cq : Nat} {RO : List (Nat × (Nat → Int32))} {SF : List (String × String × String × Nat)} {Ts : List Jvm.Cond} {tyc : Nat → Nat → FieldType} {NV : Nat → List Value} {lk : Nat → Option sm_L} {ini : Bool} 
    (hx : p.tables.exec = Jvm.exec) (hb : c.code = cc) (hml : c.maxLocals = nL) (hown : s.vm.findClass own = some m.cls) (hts : ∀ w ∈ Ts, w.before args s = true) (hok : ∀ ix q, lk ix = some q → sm_okL cl tyc SF Cq Ts own ix q) (hcl : sm_okC cl tyc NV Ts) (hcq : ∃ r : vw_C, cl[cq]? = some r ∧ r.1 = Cq)
    (hini : ini = true → meth.name = "<init>") (hE : sm_env D cl cA Cq RO SF st base s s.heap) (hb0 : s.heap.size = base + n0) (hd : d ≤ R.frames) (hdl : d * 100 ≤ R.locals) (har : ∀ q t, sm_aty q = some t → Jvm.Cond.arrayClass (newarray.typeOf q) ∈ Ts)
    {len pc pc' : Nat} {lv lv' : sm_V} {sk sk' : List Value} {h h' : sm_H} {ls : Array Slot} (hdg : decode cc pc = .ok (.iastore, sm_len .iastore len)) (hl : lv_has ls nL (sm_lv (sm_ad st base) lv)) (hP : va_P D cl (sm_w (sm_ad st base) cA base h) H) (hS : va_S (fun q => base ≤ q) s.heap H locs) (hc1 : n0 + cells = h.length) (hc2 : z0 + slots = sm_sz h)
    (hm1 : h'.length ≤ n0 + R.cells) (hm2 : sm_sz h' ≤ z0 + R.slots) (hs : sm_step lk RO NV cq ini nL d .iastore pc lv sk h = some (pc', lv', sk', h'))
    (k : ∀ (ls' : Array Slot) (H' : Heap) (locs' : List Loc) (cells' slots' : Nat), lv_has ls' nL (sm_lv (sm_ad st base) lv') → va_P D cl (sm_w (sm_ad st base) cA base h') H' → va_S (fun q => base ≤ q) s.heap H' locs' → n0 + cells' = h'.length → z0 + slots' = sm_sz h' → W p l e R s m args below meth c H' locs' cells' slots' Q (F0 m pc' ls' (sk'.map (sm_v (sm_ad st base))))) :
    W p l e R s m args below meth c H locs cells slots Q (F0 m pc ls (sk.map (sm_v (sm_ad st base)))) := by
    have hs1 := sm_i1_eq hs
    clear hs
    obtain ⟨x, s1, e0, hs⟩ := hs1
    subst e0
    have hs1 := sm_ai_eq hs
    clear hs
    obtain ⟨a, i, r, e0, hs⟩ := hs1
    subst e0
    split at hs
    · rename_i n f e1
      split at hs
      · rename_i hi
        cases hs
        obtain ⟨o1, o2, o3⟩ := sm_ints_own (ad := sm_ad st base) (cA := cA) (base := base) e1
        show W p l e R s m args below meth c H locs cells slots Q (F0 m pc ls (.int x :: .int i :: .ref (sm_ad st base a) :: sk'.map (sm_v (sm_ad st base))))
        rw [sm_ad_own o1]
        refine va_iast hx hb hE.1 hP (sm_w_D _ _ _ _) hS (a - 8) 0 o3 rfl (sm_in_vp hi) hdg (fun H1 locs1 hP1 _ hS1 => k _ H1 locs1 _ _ hl ?_ hS1 (by rw [List.length_set]; exact hc1) (hc2.trans (sm_sz_set _ _ _ _ o2 (by rfl)).symm))
        rw [← sm_w_set]
        exact hP1
      · cases hs
    · cases hs
set_option maxHeartbeats 1000000 in
theorem sn_bastore {p : Program} {l : Launch} {e : Env} {R : Room} {s : State} {m : MethodId} {args : Array Value} {below : List Frame} {meth : Method} {c : Code} {H : Heap} {locs : List Loc} {cells slots : Nat} {Q : State → Prop} {cc : ByteArray} {nL n0 z0 d base : Nat} {st : Nat → Nat} {cA : Nat → ClassId} {D : va_G} {cl : List vw_C} {Cq own : String} {cq : Nat} {RO : List (Nat × (Nat → Int32))} {SF : List (String × String × String × Nat)} {Ts : List Jvm.Cond} {tyc : Nat → Nat → FieldType} {NV : Nat → List Value} {lk : Nat → Option sm_L} {ini : Bool} 
    (hx : p.tables.exec = Jvm.exec) (hb : c.code = cc) (hml : c.maxLocals = nL) (hown : s.vm.findClass own = some m.cls) (hts : ∀ w ∈ Ts, w.before args s = true) (hok : ∀ ix q, lk ix = some q → sm_okL cl tyc SF Cq Ts own ix q) (hcl : sm_okC cl tyc NV Ts) (hcq : ∃ r : vw_C, cl[cq]? = some r ∧ r.1 = Cq)
    (hini : ini = true → meth.name = "<init>") (hE : sm_env D cl cA Cq RO SF st base s s.heap) (hb0 : s.heap.size = base + n0) (hd : d ≤ R.frames) (hdl : d * 100 ≤ R.locals) (har : ∀ q t, sm_aty q = some t → Jvm.Cond.arrayClass (newarray.typeOf q) ∈ Ts)
    {len pc pc' : Nat} {lv lv' : sm_V} {sk sk' : List Value} {h h' : sm_H} {ls : Array Slot} (hdg : decode cc pc = .ok (.bastore, sm_len .bastore len)) (hl : lv_has ls nL (sm_lv (sm_ad st base) lv)) (hP : va_P D cl (sm_w (sm_ad st base) cA base h) H) (hS : va_S (fun q => base ≤ q) s.heap H locs) (hc1 : n0 + cells = h.length) (hc2 : z0 + slots = sm_sz h)
    (hm1 : h'.length ≤ n0 + R.cells) (hm2 : sm_sz h' ≤ z0 + R.slots) (hs : sm_step lk RO NV cq ini nL d .bastore pc lv sk h = some (pc', lv', sk', h'))
    (k : ∀ (ls' : Array Slot) (H' : Heap) (locs' : List Loc) (cells' slots' : Nat), lv_has ls' nL (sm_lv (sm_ad st base) lv') → va_P D cl (sm_w (sm_ad st base) cA base h') H' → va_S (fun q => base ≤ q) s.heap H' locs' → n0 + cells' = h'.length → z0 + slots' = sm_sz h' → W p l e R s m args below meth c H' locs' cells' slots' Q (F0 m pc' ls' (sk'.map (sm_v (sm_ad st base))))) :
    W p l e R s m args below meth c H locs cells slots Q (F0 m pc ls (sk.map (sm_v (sm_ad st base)))) := by
    have hs1 := sm_i1_eq hs
    clear hs
    obtain ⟨x, s1, e0, hs⟩ := hs1
    subst e0
    have hs1 := sm_ai_eq hs
    clear hs
    obtain ⟨a, i, r, e0, hs⟩ := hs1
    subst e0
    split at hs
    · rename_i n f e1
      split at hs
      · rename_i hi
        cases hs
        obtain ⟨o1, o2, o3⟩ := sm_ints_own (ad := sm_ad st base) (cA := cA) (base := base) e1
        show W p l e R s m args below meth c H locs cells slots Q (F0 m pc ls (.int x :: .int i :: .ref (sm_ad st base a) :: sk'.map (sm_v (sm_ad st base))))
        rw [sm_ad_own o1]
        refine va_bast hx hb hE.1 hP (sm_w_D _ _ _ _) hS (a - 8) 2 o3 rfl (sm_in_vp hi) hdg (fun H1 locs1 hP1 _ hS1 => k _ H1 locs1 _ _ hl ?_ hS1 (by rw [List.length_set]; exact hc1) (hc2.trans (sm_sz_set _ _ _ _ o2 (by rfl)).symm))
        rw [vp_nar_byte] at hP1
        rw [← sm_w_set]
        exact hP1
      · cases hs
    · cases hs
set_option maxHeartbeats 1000000 in
theorem sn_sastore {p : Program} {l : Launch} {e : Env} {R : Room} {s : State} {m : MethodId} {args : Array Value} {below : List Frame} {meth : Method} {c : Code} {H : Heap} {locs : List Loc} {cells slots : Nat} {Q : State → Prop} {cc : ByteArray} {nL n0 z0 d base : Nat} {st : Nat → Nat} {cA : Nat → ClassId} {D : va_G} {cl : List vw_C} {Cq own : String} {cq : Nat} {RO : List (Nat × (Nat → Int32))} {SF : List (String × String × String × Nat)} {Ts : List Jvm.Cond} {tyc : Nat → Nat → FieldType} {NV : Nat → List Value} {lk : Nat → Option sm_L} {ini : Bool} 
    (hx : p.tables.exec = Jvm.exec) (hb : c.code = cc) (hml : c.maxLocals = nL) (hown : s.vm.findClass own = some m.cls) (hts : ∀ w ∈ Ts, w.before args s = true) (hok : ∀ ix q, lk ix = some q → sm_okL cl tyc SF Cq Ts own ix q) (hcl : sm_okC cl tyc NV Ts) (hcq : ∃ r : vw_C, cl[cq]? = some r ∧ r.1 = Cq)
    (hini : ini = true → meth.name = "<init>") (hE : sm_env D cl cA Cq RO SF st base s s.heap) (hb0 : s.heap.size = base + n0) (hd : d ≤ R.frames) (hdl : d * 100 ≤ R.locals) (har : ∀ q t, sm_aty q = some t → Jvm.Cond.arrayClass (newarray.typeOf q) ∈ Ts)
    {len pc pc' : Nat} {lv lv' : sm_V} {sk sk' : List Value} {h h' : sm_H} {ls : Array Slot} (hdg : decode cc pc = .ok (.sastore, sm_len .sastore len)) (hl : lv_has ls nL (sm_lv (sm_ad st base) lv)) (hP : va_P D cl (sm_w (sm_ad st base) cA base h) H) (hS : va_S (fun q => base ≤ q) s.heap H locs) (hc1 : n0 + cells = h.length) (hc2 : z0 + slots = sm_sz h)
    (hm1 : h'.length ≤ n0 + R.cells) (hm2 : sm_sz h' ≤ z0 + R.slots) (hs : sm_step lk RO NV cq ini nL d .sastore pc lv sk h = some (pc', lv', sk', h'))
    (k : ∀ (ls' : Array Slot) (H' : Heap) (locs' : List Loc) (cells' slots' : Nat), lv_has ls' nL (sm_lv (sm_ad st base) lv') → va_P D cl (sm_w (sm_ad st base) cA base h') H' → va_S (fun q => base ≤ q) s.heap H' locs' → n0 + cells' = h'.length → z0 + slots' = sm_sz h' → W p l e R s m args below meth c H' locs' cells' slots' Q (F0 m pc' ls' (sk'.map (sm_v (sm_ad st base))))) :
    W p l e R s m args below meth c H locs cells slots Q (F0 m pc ls (sk.map (sm_v (sm_ad st base)))) := by
    have hs1 := sm_i1_eq hs
    clear hs
    obtain ⟨x, s1, e0, hs⟩ := hs1
    subst e0
    have hs1 := sm_ai_eq hs
    clear hs
    obtain ⟨a, i, r, e0, hs⟩ := hs1
    subst e0
    split at hs
    · rename_i n f e1
      split at hs
      · rename_i hi
        cases hs
        obtain ⟨o1, o2, o3⟩ := sm_ints_own (ad := sm_ad st base) (cA := cA) (base := base) e1
        show W p l e R s m args below meth c H locs cells slots Q (F0 m pc ls (.int x :: .int i :: .ref (sm_ad st base a) :: sk'.map (sm_v (sm_ad st base))))
        rw [sm_ad_own o1]
        refine va_sast hx hb hE.1 hP (sm_w_D _ _ _ _) hS (a - 8) 3 o3 rfl (sm_in_vp hi) hdg (fun H1 locs1 hP1 _ hS1 => k _ H1 locs1 _ _ hl ?_ hS1 (by rw [List.length_set]; exact hc1) (hc2.trans (sm_sz_set _ _ _ _ o2 (by rfl)).symm))
        rw [vp_nar_short] at hP1
        rw [← sm_w_set]
        exact hP1
      · cases hs
    · cases hs
set_option maxHeartbeats 1000000 in
theorem sn_lastore {p : Program} {l : Launch} {e : Env} {R : Room} {s : State} {m : MethodId} {args : Array Value} {below : List Frame} {meth : Method} {c : Code} {H : Heap} {locs : List Loc} {cells slots : Nat} {Q : State → Prop} {cc : ByteArray} {nL n0 z0 d base : Nat} {st : Nat → Nat} {cA : Nat → ClassId} {D : va_G} {cl : List vw_C} {Cq own : String} {cq : Nat} {RO : List (Nat × (Nat → Int32))} {SF : List (String × String × String × Nat)} {Ts : List Jvm.Cond} {tyc : Nat → Nat → FieldType} {NV : Nat → List Value} {lk : Nat → Option sm_L} {ini : Bool} 
    (hx : p.tables.exec = Jvm.exec) (hb : c.code = cc) (hml : c.maxLocals = nL) (hown : s.vm.findClass own = some m.cls) (hts : ∀ w ∈ Ts, w.before args s = true) (hok : ∀ ix q, lk ix = some q → sm_okL cl tyc SF Cq Ts own ix q) (hcl : sm_okC cl tyc NV Ts) (hcq : ∃ r : vw_C, cl[cq]? = some r ∧ r.1 = Cq)
    (hini : ini = true → meth.name = "<init>") (hE : sm_env D cl cA Cq RO SF st base s s.heap) (hb0 : s.heap.size = base + n0) (hd : d ≤ R.frames) (hdl : d * 100 ≤ R.locals) (har : ∀ q t, sm_aty q = some t → Jvm.Cond.arrayClass (newarray.typeOf q) ∈ Ts)
    {len pc pc' : Nat} {lv lv' : sm_V} {sk sk' : List Value} {h h' : sm_H} {ls : Array Slot} (hdg : decode cc pc = .ok (.lastore, sm_len .lastore len)) (hl : lv_has ls nL (sm_lv (sm_ad st base) lv)) (hP : va_P D cl (sm_w (sm_ad st base) cA base h) H) (hS : va_S (fun q => base ≤ q) s.heap H locs) (hc1 : n0 + cells = h.length) (hc2 : z0 + slots = sm_sz h)
    (hm1 : h'.length ≤ n0 + R.cells) (hm2 : sm_sz h' ≤ z0 + R.slots) (hs : sm_step lk RO NV cq ini nL d .lastore pc lv sk h = some (pc', lv', sk', h'))
    (k : ∀ (ls' : Array Slot) (H' : Heap) (locs' : List Loc) (cells' slots' : Nat), lv_has ls' nL (sm_lv (sm_ad st base) lv') → va_P D cl (sm_w (sm_ad st base) cA base h') H' → va_S (fun q => base ≤ q) s.heap H' locs' → n0 + cells' = h'.length → z0 + slots' = sm_sz h' → W p l e R s m args below meth c H' locs' cells' slots' Q (F0 m pc' ls' (sk'.map (sm_v (sm_ad st base))))) :
    W p l e R s m args below meth c H locs cells slots Q (F0 m pc ls (sk.map (sm_v (sm_ad st base)))) := by
    have hs1 := sm_l1_eq hs
    clear hs
    obtain ⟨x, s1, e0, hs⟩ := hs1
    subst e0
    have hs1 := sm_ai_eq hs
    clear hs
    obtain ⟨a, i, r, e0, hs⟩ := hs1
    subst e0
    split at hs
    · rename_i n f e1
      split at hs
      · rename_i hi
        cases hs
        obtain ⟨o1, o2, o3⟩ := sm_longs_at (ad := sm_ad st base) (cA := cA) (base := base) e1
        show W p l e R s m args below meth c H locs cells slots Q (F0 m pc ls (.long x :: .int i :: .ref (sm_ad st base a) :: sk'.map (sm_v (sm_ad st base))))
        rw [sm_ad_own o1]
        refine va_last hx hb hE.1 hP (sm_w_D _ _ _ _) hS (a - 8) 1 o3 rfl (sm_in_vp hi) hdg (fun H1 locs1 hP1 _ hS1 => k _ H1 locs1 _ _ hl ?_ hS1 (by rw [List.length_set]; exact hc1) (hc2.trans (sm_sz_set _ _ _ _ o2 (by rfl)).symm))
        rw [← sm_w_set]
        exact hP1
      · cases hs
    · cases hs
set_option maxHeartbeats 1000000 in
theorem sn_aastore {p : Program} {l : Launch} {e : Env} {R : Room} {s : State} {m : MethodId} {args : Array Value} {below : List Frame} {meth : Method} {c : Code} {H : Heap} {locs : List Loc} {cells slots : Nat} {Q : State → Prop} {cc : ByteArray} {nL n0 z0 d base : Nat} {st : Nat → Nat} {cA : Nat → ClassId} {D : va_G} {cl : List vw_C} {Cq own : String} {cq : Nat} {RO : List (Nat × (Nat → Int32))} {SF : List (String × String × String × Nat)} {Ts : List Jvm.Cond} {tyc : Nat → Nat → FieldType} {NV : Nat → List Value} {lk : Nat → Option sm_L} {ini : Bool} 
    (hx : p.tables.exec = Jvm.exec) (hb : c.code = cc) (hml : c.maxLocals = nL) (hown : s.vm.findClass own = some m.cls) (hts : ∀ w ∈ Ts, w.before args s = true) (hok : ∀ ix q, lk ix = some q → sm_okL cl tyc SF Cq Ts own ix q) (hcl : sm_okC cl tyc NV Ts) (hcq : ∃ r : vw_C, cl[cq]? = some r ∧ r.1 = Cq)
    (hini : ini = true → meth.name = "<init>") (hE : sm_env D cl cA Cq RO SF st base s s.heap) (hb0 : s.heap.size = base + n0) (hd : d ≤ R.frames) (hdl : d * 100 ≤ R.locals) (har : ∀ q t, sm_aty q = some t → Jvm.Cond.arrayClass (newarray.typeOf q) ∈ Ts)
    {len pc pc' : Nat} {lv lv' : sm_V} {sk sk' : List Value} {h h' : sm_H} {ls : Array Slot} (hdg : decode cc pc = .ok (.aastore, sm_len .aastore len)) (hl : lv_has ls nL (sm_lv (sm_ad st base) lv)) (hP : va_P D cl (sm_w (sm_ad st base) cA base h) H) (hS : va_S (fun q => base ≤ q) s.heap H locs) (hc1 : n0 + cells = h.length) (hc2 : z0 + slots = sm_sz h)
    (hm1 : h'.length ≤ n0 + R.cells) (hm2 : sm_sz h' ≤ z0 + R.slots) (hs : sm_step lk RO NV cq ini nL d .aastore pc lv sk h = some (pc', lv', sk', h'))
    (k : ∀ (ls' : Array Slot) (H' : Heap) (locs' : List Loc) (cells' slots' : Nat), lv_has ls' nL (sm_lv (sm_ad st base) lv') → va_P D cl (sm_w (sm_ad st base) cA base h') H' → va_S (fun q => base ≤ q) s.heap H' locs' → n0 + cells' = h'.length → z0 + slots' = sm_sz h' → W p l e R s m args below meth c H' locs' cells' slots' Q (F0 m pc' ls' (sk'.map (sm_v (sm_ad st base))))) :
    W p l e R s m args below meth c H locs cells slots Q (F0 m pc ls (sk.map (sm_v (sm_ad st base)))) := by
    have hs1 := sm_r1_eq hs
    clear hs
    obtain ⟨v, s1, e0, hs⟩ := hs1
    subst e0
    have hs1 := sm_ai_eq hs
    clear hs
    obtain ⟨a, i, r, e0, hs⟩ := hs1
    subst e0
    split at hs
    · rename_i n f e1
      split at hs
      · rename_i fs e2
        split at hs
        · rename_i hi
          cases hs
          obtain ⟨r0, g1, g2⟩ := hcq
          subst g2
          obtain ⟨o1, o2, o3⟩ := sm_refs_at (ad := sm_ad st base) (cA := cA) (base := base) e1
          obtain ⟨v1, v2, v3⟩ := sm_obj_at (ad := sm_ad st base) (cA := cA) (base := base) e2
          show W p l e R s m args below meth c H locs cells slots Q (F0 m pc ls (.ref (sm_ad st base v) :: .int i :: .ref (sm_ad st base a) :: sk'.map (sm_v (sm_ad st base))))
          rw [sm_ad_own o1, sm_ad_own v1]
          refine va_astq hx hb hE.1 hP (sm_w_D _ _ _ _) hS (a - 8) 4 (v - 8) cq o3 rfl v3 g1 (sm_in_vp hi) hdg (fun H1 locs1 hP1 _ hS1 => k _ H1 locs1 _ _ hl ?_ hS1 (by rw [List.length_set]; exact hc1) (hc2.trans (sm_sz_set _ _ _ _ o2 (by rfl)).symm))
          rw [← sm_w_set]
          have hf : (fun j => (va_up f i.toNatClampNeg (some v) j).map (sm_ad st base)) = va_up (fun j => (f j).map (sm_ad st base)) i.toNatClampNeg (some (base + (v - 8))) := by
            funext j
            unfold va_up
            split
            · rw [← sm_ad_own (st := st) v1]; rfl
            · rfl
          show va_P D cl (List.set _ _ (_, .inl (cA 4, n, .inr (.inr (.inr (.inr (fun j => (va_up f i.toNatClampNeg (some v) j).map (sm_ad st base)))))))) H1
          rw [hf]
          exact hP1
        · cases hs
      · cases hs
    · cases hs
set_option maxHeartbeats 1000000 in
theorem sn_invokespecial {p : Program} {l : Launch} {e : Env} {R : Room} {s : State} {m : MethodId} {args : Array Value} {below : List Frame} {meth : Method} {c : Code} {H : Heap} {locs : List Loc} {cells slots : Nat} {Q : State → Prop} {cc : ByteArray} {nL n0 z0 d base : Nat} {st : Nat → Nat} {cA : Nat → ClassId} {D : va_G} {cl : List vw_C} {Cq own : String} {cq : Nat} {RO : List (Nat × (Nat → Int32))} {SF : List (String × String × String × Nat)} {Ts : List Jvm.Cond} {tyc : Nat → Nat → FieldType} {NV : Nat → List Value} {lk : Nat → Option sm_L} {ini : Bool} {ix : Nat}
    (hx : p.tables.exec = Jvm.exec) (hb : c.code = cc) (hml : c.maxLocals = nL) (hown : s.vm.findClass own = some m.cls) (hts : ∀ w ∈ Ts, w.before args s = true) (hok : ∀ ix q, lk ix = some q → sm_okL cl tyc SF Cq Ts own ix q) (hcl : sm_okC cl tyc NV Ts) (hcq : ∃ r : vw_C, cl[cq]? = some r ∧ r.1 = Cq)
    (hini : ini = true → meth.name = "<init>") (hE : sm_env D cl cA Cq RO SF st base s s.heap) (hb0 : s.heap.size = base + n0) (hd : d ≤ R.frames) (hdl : d * 100 ≤ R.locals) (har : ∀ q t, sm_aty q = some t → Jvm.Cond.arrayClass (newarray.typeOf q) ∈ Ts)
    {len pc pc' : Nat} {lv lv' : sm_V} {sk sk' : List Value} {h h' : sm_H} {ls : Array Slot} (hdg : decode cc pc = .ok ((.invokespecial ix), sm_len (.invokespecial ix) len)) (hl : lv_has ls nL (sm_lv (sm_ad st base) lv)) (hP : va_P D cl (sm_w (sm_ad st base) cA base h) H) (hS : va_S (fun q => base ≤ q) s.heap H locs) (hc1 : n0 + cells = h.length) (hc2 : z0 + slots = sm_sz h)
    (hm1 : h'.length ≤ n0 + R.cells) (hm2 : sm_sz h' ≤ z0 + R.slots) (hs : sm_step lk RO NV cq ini nL d (.invokespecial ix) pc lv sk h = some (pc', lv', sk', h'))
    (k : ∀ (ls' : Array Slot) (H' : Heap) (locs' : List Loc) (cells' slots' : Nat), lv_has ls' nL (sm_lv (sm_ad st base) lv') → va_P D cl (sm_w (sm_ad st base) cA base h') H' → va_S (fun q => base ≤ q) s.heap H' locs' → n0 + cells' = h'.length → z0 + slots' = sm_sz h' → W p l e R s m args below meth c H' locs' cells' slots' Q (F0 m pc' ls' (sk'.map (sm_v (sm_ad st base))))) :
    W p l e R s m args below meth c H locs cells slots Q (F0 m pc ls (sk.map (sm_v (sm_ad st base)))) := by
    dsimp only [sm_step] at hs
    split at hs
    · rename_i i9 k9 z9 e9
      have hs1 := sm_r1_eq hs
      clear hs
      obtain ⟨a, r, e0, hs⟩ := hs1
      subst e0
      split at hs
      · rename_i hq
        cases hs
        obtain ⟨g1, g2, g3⟩ := (hok ix _ e9).2.1 rfl
        have q9 : W p l e R s m args below meth c H locs cells slots Q (F0 m (pc + 3) ls (sk'.map (sm_v (sm_ad st base)))) := k _ _ _ _ _ hl hP hS hc1 hc2
        refine W.objInit hx hb hown (hts _ g1) (hts _ g2) (hts _ g3) (g := F0 m pc ls (.ref (sm_ad st base a) :: sk'.map (sm_v (sm_ad st base)))) rfl (by rw [hml]; exact hl.1) rfl hdg (by omega) ?_ ?_
        · have h8 := sm_sum_map (sm_ad st base) sk'
          have h9 : (F0 m pc ls (.ref (sm_ad st base a) :: sk'.map (sm_v (sm_ad st base)))).monitorRoom = 0 := rfl
          rw [h9, h8]
          omega
        · exact W.eq rfl q9
      · cases hs
    · cases hs
set_option maxHeartbeats 1000000 in
theorem sn_invokestatic {p : Program} {l : Launch} {e : Env} {R : Room} {s : State} {m : MethodId} {args : Array Value} {below : List Frame} {meth : Method} {c : Code} {H : Heap} {locs : List Loc} {cells slots : Nat} {Q : State → Prop} {cc : ByteArray} {nL n0 z0 d base : Nat} {st : Nat → Nat} {cA : Nat → ClassId} {D : va_G} {cl : List vw_C} {Cq own : String} {cq : Nat} {RO : List (Nat × (Nat → Int32))} {SF : List (String × String × String × Nat)} {Ts : List Jvm.Cond} {tyc : Nat → Nat → FieldType} {NV : Nat → List Value} {lk : Nat → Option sm_L} {ini : Bool} {ix : Nat}
    (hx : p.tables.exec = Jvm.exec) (hb : c.code = cc) (hml : c.maxLocals = nL) (hown : s.vm.findClass own = some m.cls) (hts : ∀ w ∈ Ts, w.before args s = true) (hok : ∀ ix q, lk ix = some q → sm_okL cl tyc SF Cq Ts own ix q) (hcl : sm_okC cl tyc NV Ts) (hcq : ∃ r : vw_C, cl[cq]? = some r ∧ r.1 = Cq)
    (hini : ini = true → meth.name = "<init>") (hE : sm_env D cl cA Cq RO SF st base s s.heap) (hb0 : s.heap.size = base + n0) (hd : d ≤ R.frames) (hdl : d * 100 ≤ R.locals) (har : ∀ q t, sm_aty q = some t → Jvm.Cond.arrayClass (newarray.typeOf q) ∈ Ts)
    {len pc pc' : Nat} {lv lv' : sm_V} {sk sk' : List Value} {h h' : sm_H} {ls : Array Slot} (hdg : decode cc pc = .ok ((.invokestatic ix), sm_len (.invokestatic ix) len)) (hl : lv_has ls nL (sm_lv (sm_ad st base) lv)) (hP : va_P D cl (sm_w (sm_ad st base) cA base h) H) (hS : va_S (fun q => base ≤ q) s.heap H locs) (hc1 : n0 + cells = h.length) (hc2 : z0 + slots = sm_sz h)
    (hm1 : h'.length ≤ n0 + R.cells) (hm2 : sm_sz h' ≤ z0 + R.slots) (hs : sm_step lk RO NV cq ini nL d (.invokestatic ix) pc lv sk h = some (pc', lv', sk', h'))
    (k : ∀ (ls' : Array Slot) (H' : Heap) (locs' : List Loc) (cells' slots' : Nat), lv_has ls' nL (sm_lv (sm_ad st base) lv') → va_P D cl (sm_w (sm_ad st base) cA base h') H' → va_S (fun q => base ≤ q) s.heap H' locs' → n0 + cells' = h'.length → z0 + slots' = sm_sz h' → W p l e R s m args below meth c H' locs' cells' slots' Q (F0 m pc' ls' (sk'.map (sm_v (sm_ad st base))))) :
    W p l e R s m args below meth c H locs cells slots Q (F0 m pc ls (sk.map (sm_v (sm_ad st base)))) := by
    dsimp only [sm_step] at hs
    split at hs
    · rename_i i9 k9 z9 e9
      have hs1 := sm_i2_eq hs
      clear hs
      obtain ⟨x, y, r, e0, hs⟩ := hs1
      subst e0
      split at hs
      · rename_i hq
        cases hs
        obtain ⟨g1, g2, g3, g4⟩ := (hok ix _ e9).2.2.2.2.2.2.1 rfl
        have h8 := sm_sum_map (sm_ad st base) r
        exact va_mmax hx hb (by rw [hml]; exact hl.1.symm) hown (hts _ g1) (hts _ g2) (hts _ g3) (hts _ g4) (by omega) (by rw [h8]; omega) (by omega) (by omega) hdg (k _ _ _ _ _ hl hP hS hc1 hc2)
      · cases hs
    · rename_i i9 k9 z9 e9
      have hs1 := sm_i2_eq hs
      clear hs
      obtain ⟨x, y, r, e0, hs⟩ := hs1
      subst e0
      split at hs
      · rename_i hq
        cases hs
        obtain ⟨g1, g2, g3, g4⟩ := (hok ix _ e9).2.2.2.2.2.2.2.1 rfl
        have h8 := sm_sum_map (sm_ad st base) r
        exact va_mmin hx hb (by rw [hml]; exact hl.1.symm) hown (hts _ g1) (hts _ g2) (hts _ g3) (hts _ g4) (by omega) (by rw [h8]; omega) (by omega) (by omega) hdg (k _ _ _ _ _ hl hP hS hc1 hc2)
      · cases hs
    · rename_i i9 k9 z9 e9
      have hs1 := sm_i1_eq hs
      clear hs
      obtain ⟨x, r, e0, hs⟩ := hs1
      subst e0
      split at hs
      · rename_i hq
        cases hs
        obtain ⟨g1, g2, g3, g4⟩ := (hok ix _ e9).2.2.2.2.2.2.2.2.1 rfl
        have h8 := sm_sum_map (sm_ad st base) r
        exact va_mabs hx hb (by rw [hml]; exact hl.1.symm) hown (hts _ g1) (hts _ g2) (hts _ g3) (hts _ g4) (by omega) (by rw [h8]; omega) (by omega) (by omega) hdg (k _ _ _ _ _ hl hP hS hc1 hc2)
      · cases hs
    · rename_i i9 k9 z9 e9
      have hs1 := sm_i2_eq hs
      clear hs
      obtain ⟨dp, n, s1, e0, hs⟩ := hs1
      subst e0
      have hs1 := sm_r1_eq hs
      clear hs
      obtain ⟨a, s2, e0, hs⟩ := hs1
      subst e0
      have hs1 := sm_ai_eq hs
      clear hs
      obtain ⟨a0, sp, r, e0, hs⟩ := hs1
      subst e0
      split at hs
      · rename_i hq
        obtain ⟨g1, g2, g3, g4⟩ := (hok ix _ e9).2.2.2.2.2.2.2.2.2 rfl
        have h8 := sm_sum_map (sm_ad st base) r
        split at hs
        · rename_i hh e5
          cases hs
          obtain ⟨n0', f, n1, g, x1, x2, x3, x4, rfl⟩ := sm_cpI_eq e5
          obtain ⟨o1, o2, o3⟩ := sm_ints_own (ad := sm_ad st base) (cA := cA) (base := base) x1
          obtain ⟨p1, p2, p3⟩ := sm_ints_own (ad := sm_ad st base) (cA := cA) (base := base) x2
          show W p l e R s m args below meth c H locs cells slots Q (F0 m pc ls (.int n :: .int dp :: .ref (sm_ad st base a) :: .int sp :: .ref (sm_ad st base a0) :: sk'.map (sm_v (sm_ad st base))))
          rw [sm_ad_own o1, sm_ad_own p1]
          refine va_copyi hx hb (by rw [hml]; exact hl.1.symm) hown (hts _ g1) (hts _ g2) (hts _ g3) (hts _ g4) hE.1 hP (sm_w_D _ _ _ _) hS (a0 - 8) (a - 8) 0 0 o3 p3 rfl rfl rfl hq.2.2.1 hq.2.2.2.1 hq.2.2.2.2 x3 x4 (fun _ _ => rfl) (by omega) (by rw [h8]; show _ + (7 + 11) ≤ _; omega) hdg (fun H1 locs1 hP1 _ hS1 => k _ H1 locs1 _ _ hl ?_ hS1 (by rw [List.length_set]; exact hc1) (hc2.trans (sm_sz_set _ _ _ _ p2 (by rfl)).symm))
          rw [← sm_w_set]
          exact hP1
        · split at hs
          · rename_i hh e5
            cases hs
            obtain ⟨n0', f, n1, g, x1, x2, x3, x4, rfl⟩ := sm_cpL_eq e5
            obtain ⟨o1, o2, o3⟩ := sm_longs_at (ad := sm_ad st base) (cA := cA) (base := base) x1
            obtain ⟨p1, p2, p3⟩ := sm_longs_at (ad := sm_ad st base) (cA := cA) (base := base) x2
            show W p l e R s m args below meth c H locs cells slots Q (F0 m pc ls (.int n :: .int dp :: .ref (sm_ad st base a) :: .int sp :: .ref (sm_ad st base a0) :: sk'.map (sm_v (sm_ad st base))))
            rw [sm_ad_own o1, sm_ad_own p1]
            refine va_copyl hx hb (by rw [hml]; exact hl.1.symm) hown (hts _ g1) (hts _ g2) (hts _ g3) (hts _ g4) hE.1 hP (sm_w_D _ _ _ _) hS (a0 - 8) (a - 8) 1 1 o3 p3 rfl rfl rfl hq.2.2.1 hq.2.2.2.1 hq.2.2.2.2 x3 x4 (fun _ _ => rfl) (by omega) (by rw [h8]; show _ + (7 + 11) ≤ _; omega) hdg (fun H1 locs1 hP1 _ hS1 => k _ H1 locs1 _ _ hl ?_ hS1 (by rw [List.length_set]; exact hc1) (hc2.trans (sm_sz_set _ _ _ _ p2 (by rfl)).symm))
            rw [← sm_w_set]
            exact hP1
          · cases hs
      · cases hs
    · cases hs
set_option maxHeartbeats 4000000 in
/-- one step of the small machine is the machine's -/
theorem sm_sound {p : Program} {l : Launch} {e : Env} {R : Room} {s : State} {m : MethodId} {args : Array Value} {below : List Frame} {meth : Method} {c : Code} {H : Heap} {locs : List Loc} {cells slots : Nat} {Q : State → Prop} {cc : ByteArray} {nL n0 z0 d base : Nat} {st : Nat → Nat} {cA : Nat → ClassId} {D : va_G} {cl : List vw_C} {Cq own : String} {cq : Nat} {RO : List (Nat × (Nat → Int32))} {SF : List (String × String × String × Nat)} {Ts : List Jvm.Cond} {tyc : Nat → Nat → FieldType} {NV : Nat → List Value} {lk : Nat → Option sm_L} {ini : Bool}
    (hx : p.tables.exec = Jvm.exec) (hb : c.code = cc) (hml : c.maxLocals = nL) (hown : s.vm.findClass own = some m.cls) (hts : ∀ w ∈ Ts, w.before args s = true) (hok : ∀ ix q, lk ix = some q → sm_okL cl tyc SF Cq Ts own ix q) (hcl : sm_okC cl tyc NV Ts) (hcq : ∃ r : vw_C, cl[cq]? = some r ∧ r.1 = Cq)
    (hini : ini = true → meth.name = "<init>") (hE : sm_env D cl cA Cq RO SF st base s s.heap) (hb0 : s.heap.size = base + n0) (hd : d ≤ R.frames) (hdl : d * 100 ≤ R.locals) (har : ∀ q t, sm_aty q = some t → Jvm.Cond.arrayClass (newarray.typeOf q) ∈ Ts)
    {ins : Instr} {len pc pc' : Nat} {lv lv' : sm_V} {sk sk' : List Value} {h h' : sm_H} {ls : Array Slot} (hdg : decode cc pc = .ok (ins, sm_len ins len)) (hl : lv_has ls nL (sm_lv (sm_ad st base) lv)) (hP : va_P D cl (sm_w (sm_ad st base) cA base h) H) (hS : va_S (fun q => base ≤ q) s.heap H locs) (hc1 : n0 + cells = h.length) (hc2 : z0 + slots = sm_sz h)
    (hm1 : h'.length ≤ n0 + R.cells) (hm2 : sm_sz h' ≤ z0 + R.slots) (hs : sm_step lk RO NV cq ini nL d ins pc lv sk h = some (pc', lv', sk', h'))
    (k : ∀ (ls' : Array Slot) (H' : Heap) (locs' : List Loc) (cells' slots' : Nat), lv_has ls' nL (sm_lv (sm_ad st base) lv') → va_P D cl (sm_w (sm_ad st base) cA base h') H' → va_S (fun q => base ≤ q) s.heap H' locs' → n0 + cells' = h'.length → z0 + slots' = sm_sz h' → W p l e R s m args below meth c H' locs' cells' slots' Q (F0 m pc' ls' (sk'.map (sm_v (sm_ad st base))))) :
    W p l e R s m args below meth c H locs cells slots Q (F0 m pc ls (sk.map (sm_v (sm_ad st base)))) := by
  cases ins
  case iconst a0 => exact sn_iconst hx hb hml hown hts hok hcl hcq hini hE hb0 hd hdl har hdg hl hP hS hc1 hc2 hm1 hm2 hs k
  case bipush a0 => exact sn_bipush hx hb hml hown hts hok hcl hcq hini hE hb0 hd hdl har hdg hl hP hS hc1 hc2 hm1 hm2 hs k
  case sipush a0 => exact sn_sipush hx hb hml hown hts hok hcl hcq hini hE hb0 hd hdl har hdg hl hP hS hc1 hc2 hm1 hm2 hs k
  case lconst a0 => exact sn_lconst hx hb hml hown hts hok hcl hcq hini hE hb0 hd hdl har hdg hl hP hS hc1 hc2 hm1 hm2 hs k
  case iload_n a0 => exact sn_iload_n hx hb hml hown hts hok hcl hcq hini hE hb0 hd hdl har hdg hl hP hS hc1 hc2 hm1 hm2 hs k
  case iload a0 => exact sn_iload hx hb hml hown hts hok hcl hcq hini hE hb0 hd hdl har hdg hl hP hS hc1 hc2 hm1 hm2 hs k
  case lload_n a0 => exact sn_lload_n hx hb hml hown hts hok hcl hcq hini hE hb0 hd hdl har hdg hl hP hS hc1 hc2 hm1 hm2 hs k
  case lload a0 => exact sn_lload hx hb hml hown hts hok hcl hcq hini hE hb0 hd hdl har hdg hl hP hS hc1 hc2 hm1 hm2 hs k
  case aload_n a0 => exact sn_aload_n hx hb hml hown hts hok hcl hcq hini hE hb0 hd hdl har hdg hl hP hS hc1 hc2 hm1 hm2 hs k
  case aload a0 => exact sn_aload hx hb hml hown hts hok hcl hcq hini hE hb0 hd hdl har hdg hl hP hS hc1 hc2 hm1 hm2 hs k
  case istore_n a0 => exact sn_istore_n hx hb hml hown hts hok hcl hcq hini hE hb0 hd hdl har hdg hl hP hS hc1 hc2 hm1 hm2 hs k
  case istore a0 => exact sn_istore hx hb hml hown hts hok hcl hcq hini hE hb0 hd hdl har hdg hl hP hS hc1 hc2 hm1 hm2 hs k
  case lstore_n a0 => exact sn_lstore_n hx hb hml hown hts hok hcl hcq hini hE hb0 hd hdl har hdg hl hP hS hc1 hc2 hm1 hm2 hs k
  case lstore a0 => exact sn_lstore hx hb hml hown hts hok hcl hcq hini hE hb0 hd hdl har hdg hl hP hS hc1 hc2 hm1 hm2 hs k
  case astore_n a0 => exact sn_astore_n hx hb hml hown hts hok hcl hcq hini hE hb0 hd hdl har hdg hl hP hS hc1 hc2 hm1 hm2 hs k
  case astore a0 => exact sn_astore hx hb hml hown hts hok hcl hcq hini hE hb0 hd hdl har hdg hl hP hS hc1 hc2 hm1 hm2 hs k
  case iinc a0 a1 => exact sn_iinc hx hb hml hown hts hok hcl hcq hini hE hb0 hd hdl har hdg hl hP hS hc1 hc2 hm1 hm2 hs k
  case iadd => exact sn_iadd hx hb hml hown hts hok hcl hcq hini hE hb0 hd hdl har hdg hl hP hS hc1 hc2 hm1 hm2 hs k
  case isub => exact sn_isub hx hb hml hown hts hok hcl hcq hini hE hb0 hd hdl har hdg hl hP hS hc1 hc2 hm1 hm2 hs k
  case imul => exact sn_imul hx hb hml hown hts hok hcl hcq hini hE hb0 hd hdl har hdg hl hP hS hc1 hc2 hm1 hm2 hs k
  case iand => exact sn_iand hx hb hml hown hts hok hcl hcq hini hE hb0 hd hdl har hdg hl hP hS hc1 hc2 hm1 hm2 hs k
  case ior => exact sn_ior hx hb hml hown hts hok hcl hcq hini hE hb0 hd hdl har hdg hl hP hS hc1 hc2 hm1 hm2 hs k
  case ixor => exact sn_ixor hx hb hml hown hts hok hcl hcq hini hE hb0 hd hdl har hdg hl hP hS hc1 hc2 hm1 hm2 hs k
  case ishl => exact sn_ishl hx hb hml hown hts hok hcl hcq hini hE hb0 hd hdl har hdg hl hP hS hc1 hc2 hm1 hm2 hs k
  case ishr => exact sn_ishr hx hb hml hown hts hok hcl hcq hini hE hb0 hd hdl har hdg hl hP hS hc1 hc2 hm1 hm2 hs k
  case iushr => exact sn_iushr hx hb hml hown hts hok hcl hcq hini hE hb0 hd hdl har hdg hl hP hS hc1 hc2 hm1 hm2 hs k
  case idiv => exact sn_idiv hx hb hml hown hts hok hcl hcq hini hE hb0 hd hdl har hdg hl hP hS hc1 hc2 hm1 hm2 hs k
  case irem => exact sn_irem hx hb hml hown hts hok hcl hcq hini hE hb0 hd hdl har hdg hl hP hS hc1 hc2 hm1 hm2 hs k
  case ladd => exact sn_ladd hx hb hml hown hts hok hcl hcq hini hE hb0 hd hdl har hdg hl hP hS hc1 hc2 hm1 hm2 hs k
  case lsub => exact sn_lsub hx hb hml hown hts hok hcl hcq hini hE hb0 hd hdl har hdg hl hP hS hc1 hc2 hm1 hm2 hs k
  case lmul => exact sn_lmul hx hb hml hown hts hok hcl hcq hini hE hb0 hd hdl har hdg hl hP hS hc1 hc2 hm1 hm2 hs k
  case land => exact sn_land hx hb hml hown hts hok hcl hcq hini hE hb0 hd hdl har hdg hl hP hS hc1 hc2 hm1 hm2 hs k
  case lor => exact sn_lor hx hb hml hown hts hok hcl hcq hini hE hb0 hd hdl har hdg hl hP hS hc1 hc2 hm1 hm2 hs k
  case ldiv => exact sn_ldiv hx hb hml hown hts hok hcl hcq hini hE hb0 hd hdl har hdg hl hP hS hc1 hc2 hm1 hm2 hs k
  case lrem => exact sn_lrem hx hb hml hown hts hok hcl hcq hini hE hb0 hd hdl har hdg hl hP hS hc1 hc2 hm1 hm2 hs k
  case lshl => exact sn_lshl hx hb hml hown hts hok hcl hcq hini hE hb0 hd hdl har hdg hl hP hS hc1 hc2 hm1 hm2 hs k
  case lushr => exact sn_lushr hx hb hml hown hts hok hcl hcq hini hE hb0 hd hdl har hdg hl hP hS hc1 hc2 hm1 hm2 hs k
  case lcmp => exact sn_lcmp hx hb hml hown hts hok hcl hcq hini hE hb0 hd hdl har hdg hl hP hS hc1 hc2 hm1 hm2 hs k
  case ineg => exact sn_ineg hx hb hml hown hts hok hcl hcq hini hE hb0 hd hdl har hdg hl hP hS hc1 hc2 hm1 hm2 hs k
  case i2l => exact sn_i2l hx hb hml hown hts hok hcl hcq hini hE hb0 hd hdl har hdg hl hP hS hc1 hc2 hm1 hm2 hs k
  case i2b => exact sn_i2b hx hb hml hown hts hok hcl hcq hini hE hb0 hd hdl har hdg hl hP hS hc1 hc2 hm1 hm2 hs k
  case i2s => exact sn_i2s hx hb hml hown hts hok hcl hcq hini hE hb0 hd hdl har hdg hl hP hS hc1 hc2 hm1 hm2 hs k
  case l2i => exact sn_l2i hx hb hml hown hts hok hcl hcq hini hE hb0 hd hdl har hdg hl hP hS hc1 hc2 hm1 hm2 hs k
  case dup => exact sn_dup hx hb hml hown hts hok hcl hcq hini hE hb0 hd hdl har hdg hl hP hS hc1 hc2 hm1 hm2 hs k
  case pop => exact sn_pop hx hb hml hown hts hok hcl hcq hini hE hb0 hd hdl har hdg hl hP hS hc1 hc2 hm1 hm2 hs k
  case pop2 => exact sn_pop2 hx hb hml hown hts hok hcl hcq hini hE hb0 hd hdl har hdg hl hP hS hc1 hc2 hm1 hm2 hs k
  case dup2 => exact sn_dup2 hx hb hml hown hts hok hcl hcq hini hE hb0 hd hdl har hdg hl hP hS hc1 hc2 hm1 hm2 hs k
  case dup_x1 => exact sn_dup_x1 hx hb hml hown hts hok hcl hcq hini hE hb0 hd hdl har hdg hl hP hS hc1 hc2 hm1 hm2 hs k
  case goto a0 => exact sn_goto hx hb hml hown hts hok hcl hcq hini hE hb0 hd hdl har hdg hl hP hS hc1 hc2 hm1 hm2 hs k
  case tableswitch a0 a1 a2 a3 => exact sn_tableswitch hx hb hml hown hts hok hcl hcq hini hE hb0 hd hdl har hdg hl hP hS hc1 hc2 hm1 hm2 hs k
  case lookupswitch a0 a1 => exact sn_lookupswitch hx hb hml hown hts hok hcl hcq hini hE hb0 hd hdl har hdg hl hP hS hc1 hc2 hm1 hm2 hs k
  case getfield a0 => exact sn_getfield hx hb hml hown hts hok hcl hcq hini hE hb0 hd hdl har hdg hl hP hS hc1 hc2 hm1 hm2 hs k
  case putfield a0 => exact sn_putfield hx hb hml hown hts hok hcl hcq hini hE hb0 hd hdl har hdg hl hP hS hc1 hc2 hm1 hm2 hs k
  case getstatic a0 => exact sn_getstatic hx hb hml hown hts hok hcl hcq hini hE hb0 hd hdl har hdg hl hP hS hc1 hc2 hm1 hm2 hs k
  case ldc a0 => exact sn_ldc hx hb hml hown hts hok hcl hcq hini hE hb0 hd hdl har hdg hl hP hS hc1 hc2 hm1 hm2 hs k
  case ldc_w a0 => exact sn_ldc_w hx hb hml hown hts hok hcl hcq hini hE hb0 hd hdl har hdg hl hP hS hc1 hc2 hm1 hm2 hs k
  case ldc2_w a0 => exact sn_ldc2_w hx hb hml hown hts hok hcl hcq hini hE hb0 hd hdl har hdg hl hP hS hc1 hc2 hm1 hm2 hs k
  case new a0 => exact sn_new hx hb hml hown hts hok hcl hcq hini hE hb0 hd hdl har hdg hl hP hS hc1 hc2 hm1 hm2 hs k
  case newarray a0 => exact sn_newarray hx hb hml hown hts hok hcl hcq hini hE hb0 hd hdl har hdg hl hP hS hc1 hc2 hm1 hm2 hs k
  case anewarray a0 => exact sn_anewarray hx hb hml hown hts hok hcl hcq hini hE hb0 hd hdl har hdg hl hP hS hc1 hc2 hm1 hm2 hs k
  case baload => exact sn_baload hx hb hml hown hts hok hcl hcq hini hE hb0 hd hdl har hdg hl hP hS hc1 hc2 hm1 hm2 hs k
  case saload => exact sn_saload hx hb hml hown hts hok hcl hcq hini hE hb0 hd hdl har hdg hl hP hS hc1 hc2 hm1 hm2 hs k
  case laload => exact sn_laload hx hb hml hown hts hok hcl hcq hini hE hb0 hd hdl har hdg hl hP hS hc1 hc2 hm1 hm2 hs k
  case aaload => exact sn_aaload hx hb hml hown hts hok hcl hcq hini hE hb0 hd hdl har hdg hl hP hS hc1 hc2 hm1 hm2 hs k
  case iaload => exact sn_iaload hx hb hml hown hts hok hcl hcq hini hE hb0 hd hdl har hdg hl hP hS hc1 hc2 hm1 hm2 hs k
  case arraylength => exact sn_arraylength hx hb hml hown hts hok hcl hcq hini hE hb0 hd hdl har hdg hl hP hS hc1 hc2 hm1 hm2 hs k
  case iastore => exact sn_iastore hx hb hml hown hts hok hcl hcq hini hE hb0 hd hdl har hdg hl hP hS hc1 hc2 hm1 hm2 hs k
  case bastore => exact sn_bastore hx hb hml hown hts hok hcl hcq hini hE hb0 hd hdl har hdg hl hP hS hc1 hc2 hm1 hm2 hs k
  case sastore => exact sn_sastore hx hb hml hown hts hok hcl hcq hini hE hb0 hd hdl har hdg hl hP hS hc1 hc2 hm1 hm2 hs k
  case lastore => exact sn_lastore hx hb hml hown hts hok hcl hcq hini hE hb0 hd hdl har hdg hl hP hS hc1 hc2 hm1 hm2 hs k
  case aastore => exact sn_aastore hx hb hml hown hts hok hcl hcq hini hE hb0 hd hdl har hdg hl hP hS hc1 hc2 hm1 hm2 hs k
  case invokespecial a0 => exact sn_invokespecial hx hb hml hown hts hok hcl hcq hini hE hb0 hd hdl har hdg hl hP hS hc1 hc2 hm1 hm2 hs k
  case invokestatic a0 => exact sn_invokestatic hx hb hml hown hts hok hcl hcq hini hE hb0 hd hdl har hdg hl hP hS hc1 hc2 hm1 hm2 hs k
  case ifCond a0 a1 => cases a0 <;> first | exact sn_ifCond_eq hx hb hml hown hts hok hcl hcq hini hE hb0 hd hdl har hdg hl hP hS hc1 hc2 hm1 hm2 hs k | exact sn_ifCond_ne hx hb hml hown hts hok hcl hcq hini hE hb0 hd hdl har hdg hl hP hS hc1 hc2 hm1 hm2 hs k | exact sn_ifCond_lt hx hb hml hown hts hok hcl hcq hini hE hb0 hd hdl har hdg hl hP hS hc1 hc2 hm1 hm2 hs k | exact sn_ifCond_ge hx hb hml hown hts hok hcl hcq hini hE hb0 hd hdl har hdg hl hP hS hc1 hc2 hm1 hm2 hs k | exact sn_ifCond_gt hx hb hml hown hts hok hcl hcq hini hE hb0 hd hdl har hdg hl hP hS hc1 hc2 hm1 hm2 hs k | exact sn_ifCond_le hx hb hml hown hts hok hcl hcq hini hE hb0 hd hdl har hdg hl hP hS hc1 hc2 hm1 hm2 hs k
  case if_icmp a0 a1 => cases a0 <;> first | exact sn_if_icmp_eq hx hb hml hown hts hok hcl hcq hini hE hb0 hd hdl har hdg hl hP hS hc1 hc2 hm1 hm2 hs k | exact sn_if_icmp_ne hx hb hml hown hts hok hcl hcq hini hE hb0 hd hdl har hdg hl hP hS hc1 hc2 hm1 hm2 hs k | exact sn_if_icmp_lt hx hb hml hown hts hok hcl hcq hini hE hb0 hd hdl har hdg hl hP hS hc1 hc2 hm1 hm2 hs k | exact sn_if_icmp_ge hx hb hml hown hts hok hcl hcq hini hE hb0 hd hdl har hdg hl hP hS hc1 hc2 hm1 hm2 hs k | exact sn_if_icmp_gt hx hb hml hown hts hok hcl hcq hini hE hb0 hd hdl har hdg hl hP hS hc1 hc2 hm1 hm2 hs k | exact sn_if_icmp_le hx hb hml hown hts hok hcl hcq hini hE hb0 hd hdl har hdg hl hP hS hc1 hc2 hm1 hm2 hs k
  all_goals (exact absurd hs (by simp [sm_step]))
