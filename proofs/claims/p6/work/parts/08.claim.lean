/-! THE CLAIM OUT OF ONE WALK OF THE LAW'S BODY. Your part is whole_start (and what it stands on); all else here is the same for every law, but numbers. -/
def R_law : String := "AskedFireLaw"
def lw_P (b : Addr) (xs : List Int32) (args : Array Value) (s : State) : Prop := args = #[.ref b] ∧ s.IntsAt b xs ∧ xs.length ≤ 3072 ∧ (Jvm.Cond.and given_1 narrow_1).before args s = true
def lw_Q (_ : Array Value) (s : State) (o : Outcome) (t : State) : Prop := o = .returned (some (.int 1)) ∧ Framed s o t [] 600000 7302250
def lw_Z (below : List Frame) (a : Array Value) (s : State) : State → Prop := fun t => ∃ o, t.status = .running ∧ Ended t below o ∧ lw_Q a s o t
/-- the law's own end, with 1 on the stack, nothing written that was there before, its room as the claim has it -/
theorem lw_ret {p : Program} {l : Launch} {e : Env} {s : State} {m : MethodId} {below : List Frame} {meth : Method} {c : Code} {b : Nat} (hx : p.tables.exec = Jvm.exec) (hb : c.code = code) (hr : meth.sig.returnType = ret) (hlocks : meth.locks = false) {pc : Nat} {H : Heap} {ls : Array Slot} (hdg : decode code pc = .ok (.ireturn, 1)) : W p l e room_1 s m #[Value.ref b] below meth c H [] 600000 7302250 (lw_Z below #[Value.ref b] s) (F0 m pc ls [.int 1]) := by
  intro T hT X
  obtain ⟨fs, hret, hrun, hended, hW, hframe⟩ := X.leave (v := some (.int 1)) (hlocks := hlocks) (fun h => by rw [hr] at h; cases h)
  have hmeth' : T.vm.method? m = some meth := X.method'
  refine ⟨T.setFrames fs, ?_, .returned (some (.int 1)), hrun, hended, rfl, ⟨_, rfl⟩, hW, hframe⟩
  jvm_step X.here [X.here.top, hx, hb, hdg, hmeth', hr, ret, narrow_b1]
  (try refine ⟨rfl, ?_⟩); (try refine ⟨rfl, ?_⟩)
  first | (intro acts; rw [hret _ acts rfl rfl rfl]) | rw [hret _ _ rfl rfl rfl]
  exact Steps.refl _
/-- what holds at the law's entry: the machine, the code, the tables' words (any of lw_tbl by 'hts w (by decide +kernel)'), the script of L ints xs at the cell b, what the Statement gives of the start (any of its parts by flat_of_before) -/
def lw_At (p : Program) (s : State) (m : MethodId) (meth : Method) (c : Code) (b L : Nat) (xs : Nat → Int32) : Prop :=
  p.tables.exec = Jvm.exec ∧ c.code = code ∧ meth.sig.returnType = ret ∧ c.maxLocals = 4 ∧ s.vm.findClass R_law = some m.cls ∧ (∀ w ∈ lw_tbl, w.before #[Value.ref b] s = true) ∧ va_X b L xs s s.heap ∧ b < s.heap.size ∧ meth.locks = false ∧ (Jvm.Cond.and given_1 narrow_1).before #[Value.ref b] s = true
def sm_IP : List (Nat × Nat) := [(2, 0), (1, 24), (1, 211), (2, 50), (2, 18), (1, 80), (1, 176), (2, 74), (1, 136), (1, 16), (5, 25)]
def sm_SP : List (List (Nat × Nat)) := [[(2, 134), (1, 1)], [(2, 136), (1, 1)], [(4, 190), (1, 9)], [(4, 188), (1, 9)]]

def law_flat : List Jvm.Cond := flatC (Jvm.Cond.and given_1 narrow_1)
noncomputable def law_chkS : Bool := (List.range sm_SF.length).all (fun i => match sm_SF[i]?, sm_SV[i]? with
  | some f, some v => Nat.beq f.2.2.2 (i + 1) && decide (v.length < 1000) && decide (Jvm.Cond.arrayOf (.static f.1 f.2.1 f.2.2.1) .int ∈ law_flat) && decide (Jvm.Cond.eq (.length (.static f.1 f.2.1 f.2.2.1)) (.int (Int32.ofNat v.length)) ∈ law_flat) &&
    (List.range v.length).all (fun j => decide (Jvm.Cond.eq (.elem (.static f.1 f.2.1 f.2.2.1) (.int (Int32.ofNat j))) (.int (v.getD j 0)) ∈ law_flat)) &&
    decide (sm_tw ((sm_SP.getD i []).getD 0 (99, 0)).1 ((sm_SP.getD i []).getD 0 (99, 0)).2 = some (.laysStatic f.1 f.2.1 f.2.2.1)) && decide (sm_tw ((sm_SP.getD i []).getD 1 (99, 0)).1 ((sm_SP.getD i []).getD 1 (99, 0)).2 = some (.initialized f.1))
  | _, _ => false)
set_option maxRecDepth 100000 in
theorem law_chkS_ok : law_chkS = true := by decide +kernel
theorem law_SV_len : sm_SV.length = sm_SF.length := rfl
set_option maxRecDepth 100000 in
theorem law_chkI : (List.range sm_cl.length).all (fun ci => match sm_cl[ci]? with
  | some r => sm_hs (sm_IP.getD ci (99, 0)) (.instantiable r.1 r.2.2)
  | none => true) = true := by decide +kernel
theorem law_arr {s : State} {args : Array Value} {ty : FieldType} (h : (Jvm.Cond.arrayClass ty).before args s = true) (hty : ∀ C, ty ≠ .object C) : ∃ cA, ArrOfT s cA ty ∧ va_RA s cA ty := by
  obtain ⟨cA, kA, comp, h1, h2, h3⟩ := Cond.arrayClass_spec h
  refine ⟨cA, fun N z => ⟨(fun k h => by cases h), kA, h2, comp, h3⟩, ?_⟩
  cases ty <;> first | exact h1 | exact absurd rfl (hty _)
theorem law_arrO {s : State} {args : Array Value} {C : String} (h : (Jvm.Cond.arrayOver (.object C)).before args s = true) : ∃ cA, ArrOfT s cA (.object C) ∧ va_RA s cA (.object C) := by
  obtain ⟨comp, cA, kA, h1, h2, h3, h4, h5⟩ := Cond.arrayOver_spec h
  exact ⟨cA, fun N z => ⟨(fun k h => by cases h), kA, h3, comp, h4⟩, kA, comp, h3, h4, h1, h5⟩
set_option maxHeartbeats 4000000 in
theorem law_env {s : State} {b L : Nat} {xs : Nat → Int32} (hts : ∀ w ∈ lw_tbl, w.before #[Value.ref b] s = true) (hX : va_X b L xs s s.heap) (hbl : b < s.heap.size) (hgv : (Jvm.Cond.and given_1 narrow_1).before #[Value.ref b] s = true) :
    ∃ (D : va_G) (cA : Nat → ClassId) (st : Nat → Nat), st 0 = b ∧ sm_env D sm_cl cA sm_Cq (sm_RO L xs) sm_SF st s.heap.size s s.heap := by
  have hflat : ∀ c ∈ law_flat, c.before #[Value.ref b] s = true := flat_of_before _ hgv
  have hT0 : ∀ w ∈ sm_T0, w.before #[Value.ref b] s = true := fun w hw => hts w (List.mem_filter.mp hw).1
  have hA : ∀ a : Nat, a < s.heap.size → ¬ s.heap.size ≤ a := fun a h => Nat.not_le.mpr h
  have hkn : ∀ ci : Nat, ∃ q : ClassId × (Nat → Nat), ∀ r, sm_cl[ci]? = some r → u_Kn s r.1 r.2.1 r.2.2 q.1 q.2 := by
    intro ci
    cases hr : sm_cl[ci]? with
    | none => exact ⟨(0, fun _ => 0), fun r h => by cases h⟩
    | some r =>
      have h1 := List.all_eq_true.mp law_chkI ci (List.mem_range.mpr (List.getElem?_eq_some_iff.mp hr).1)
      rw [hr] at h1
      obtain ⟨cC, iS, h2⟩ := u_known (C := r.1) (T := r.2.1) (N := r.2.2) hT0 (sm_okC_all ci r hr).1 (hT0 _ (sm_hs_T h1))
      exact ⟨(cC, iS), fun r' h => by cases h; exact h2⟩
  obtain ⟨cI, aI⟩ := law_arr (hT0 _ (sm_har .int 0 rfl)) (fun C h => by cases h)
  obtain ⟨cJ, aJ⟩ := law_arr (hT0 _ (sm_har .long 1 rfl)) (fun C h => by cases h)
  obtain ⟨cB, aB⟩ := law_arr (hT0 _ (sm_har .byte 2 rfl)) (fun C h => by cases h)
  obtain ⟨cS, aS⟩ := law_arr (hT0 _ (sm_har .short 3 rfl)) (fun C h => by cases h)
  obtain ⟨cO, aO⟩ := law_arrO (hts _ sm_hao)
  have hst : ∀ i : Nat, ∃ t : Nat, ∀ f v, sm_SF[i]? = some f → sm_SV[i]? = some v → va_T .int t v.length (fun j => .int (v.getD j 0)) (fun q => s.heap.size ≤ q) s s.heap ∧ va_Z f.1 f.2.1 f.2.2.1 (.ref t) (fun q => s.heap.size ≤ q) s s.heap ∧ f.2.2.2 = i + 1 := by
    intro i
    cases hf : sm_SF[i]? with
    | none => exact ⟨0, fun f v h => by cases h⟩
    | some f =>
      cases hv : sm_SV[i]? with
      | none => exact ⟨0, fun f v h h2 => by cases h2⟩
      | some v =>
        have h1 := List.all_eq_true.mp law_chkS_ok i (List.mem_range.mpr (List.getElem?_eq_some_iff.mp hf).1)
        rw [hf, hv] at h1
        simp only [Bool.and_eq_true, decide_eq_true_eq] at h1
        obtain ⟨⟨⟨⟨⟨⟨h1, h2⟩, h3⟩, h4⟩, h5⟩, h6⟩, h7⟩ := h1
        obtain ⟨t, ht, hT⟩ := va_Tof (tm := .static f.1 f.2.1 f.2.2.1) (ty := .int) (N := v.length) (f := fun j => .int (v.getD j 0)) (A := fun q => s.heap.size ≤ q) (Nat.lt_trans h2 (by decide)) (hflat _ h3) (va_eqt (hflat _ h4)) (fun j hj => va_eqt (hflat _ (of_decide_eq_true (List.all_eq_true.mp h5 j (List.mem_range.mpr hj))))) hA
        exact ⟨t, fun f' v' e1 e2 => by cases e1; cases e2; exact ⟨hT, va_Zof (hts _ (sm_tw_mem h6)) (hts _ (sm_tw_mem h7)) ht hA, Nat.eq_of_beq_eq_true h1⟩⟩
  refine ⟨(fun ci => (Classical.choose (hkn ci)).1, fun ci => (Classical.choose (hkn ci)).2), fun t => if t = 0 then cI else if t = 1 then cJ else if t = 2 then cB else if t = 3 then cS else cO, fun k => if k = 0 then b else Classical.choose (hst (k - 1)), rfl, ⟨fun ci r hr => Classical.choose_spec (hkn ci) r hr, ?_⟩, ?_, ?_, va_AO.of (hts _ sm_hao)⟩
  · intro k q hk
    match k, hk with
    | 0, hk => cases hk; exact aI
    | 1, hk => cases hk; exact aJ
    | 2, hk => cases hk; exact aB
    | 3, hk => cases hk; exact aS
    | 4, hk => cases hk; exact aO
    | k + 5, hk => simp [sm_TY] at hk
  · intro i x hx
    cases i with
    | zero =>
      cases hx
      obtain ⟨scr, h1, h2, h3, h4, h5⟩ := hX
      exact ⟨scr, h1, h2, h3, by rw [h4]; exact Nat.le_refl _, by rw [h4], h5, hA b hbl⟩
    | succ i =>
      have hx : (sm_SV.map (fun v => (v.length, fun j => v.getD j 0)))[i]? = some x := hx
      rw [List.getElem?_map] at hx
      obtain ⟨v, hv, rfl⟩ := Option.map_eq_some_iff.mp hx
      have hlt : i < sm_SF.length := by rw [← law_SV_len]; exact (List.getElem?_eq_some_iff.mp hv).1
      exact (Classical.choose_spec (hst i) _ v (List.getElem?_eq_getElem hlt) hv).1
  · intro q hq
    obtain ⟨i, hi⟩ := List.mem_iff_getElem?.mp hq
    have hlt : i < sm_SV.length := by rw [law_SV_len]; exact (List.getElem?_eq_some_iff.mp hi).1
    have h1 := Classical.choose_spec (hst i) q _ hi (List.getElem?_eq_getElem hlt)
    show va_Z q.1 q.2.1 q.2.2.1 (.ref (if q.2.2.2 = 0 then b else Classical.choose (hst (q.2.2.2 - 1)))) _ s s.heap
    rw [h1.2.2, if_neg (by omega)]
    exact h1.2.1
theorem law_nlw : ∀ i, i < sm_NL.length → (match sm_NL[i]?, sm_NP[i]? with
  | some q, some p => decide (sm_tw p.1 p.2 = some (.methodLinkNest q.1 q.2.1 q.2.2.1 q.2.2.2))
  | _, _ => false) = true := by decide +kernel
theorem law_nl {s : State} {args : Array Value} (hts : ∀ w ∈ lw_tbl, w.before args s = true) : sm_nl sm_NL s := by
  intro q hq
  obtain ⟨i, hi⟩ := List.mem_iff_getElem?.mp hq
  have h1 := law_nlw i (List.getElem?_eq_some_iff.mp hi).1
  rw [hi] at h1
  split at h1
  · rename_i q' p e1 e2
    cases e1
    exact va_Nw.of rfl (hts _ (sm_tw_mem (of_decide_eq_true h1)))
  · cases h1
noncomputable def law_chkR (a n : Nat) : Bool := (List.range n).all (fun i => match fI0 (a + i) with
  | some q => decide (decode code (a + i) = .ok q)
  | none => true)
theorem law_chkR_ok {a n pc : Nat} {q : Instr × Nat} (h : law_chkR a n = true) (h1 : a ≤ pc) (h2 : pc < a + n) (e : fI0 pc = some q) : decode code pc = .ok q := by
  have h3 := List.all_eq_true.mp h (pc - a) (List.mem_range.mpr (by omega))
  rw [show a + (pc - a) = pc by omega, e] at h3
  exact of_decide_eq_true h3
set_option maxRecDepth 100000 in
theorem law_d0 : law_chkR 0 60 = true := by decide +kernel
set_option maxRecDepth 100000 in
theorem law_d1 : law_chkR 60 60 = true := by decide +kernel
set_option maxRecDepth 100000 in
theorem law_d2 : law_chkR 120 60 = true := by decide +kernel
set_option maxRecDepth 100000 in
theorem law_d3 : law_chkR 180 60 = true := by decide +kernel
set_option maxRecDepth 100000 in
theorem law_d4 : law_chkR 240 60 = true := by decide +kernel
set_option maxRecDepth 100000 in
theorem law_d5 : law_chkR 300 60 = true := by decide +kernel
set_option maxRecDepth 100000 in
theorem law_d6 : law_chkR 360 60 = true := by decide +kernel
set_option maxRecDepth 100000 in
theorem law_d7 : law_chkR 420 60 = true := by decide +kernel
set_option maxRecDepth 100000 in
theorem law_d8 : law_chkR 480 60 = true := by decide +kernel
set_option maxRecDepth 100000 in
theorem law_d9 : law_chkR 540 60 = true := by decide +kernel
set_option maxRecDepth 100000 in
theorem law_d10 : law_chkR 600 60 = true := by decide +kernel
set_option maxRecDepth 100000 in
theorem law_d11 : law_chkR 660 60 = true := by decide +kernel
set_option maxRecDepth 100000 in
theorem law_d12 : law_chkR 720 60 = true := by decide +kernel
set_option maxRecDepth 100000 in
theorem law_d13 : law_chkR 780 60 = true := by decide +kernel
set_option maxRecDepth 100000 in
theorem law_d14 : law_chkR 840 60 = true := by decide +kernel
set_option maxRecDepth 100000 in
theorem law_d15 : law_chkR 900 60 = true := by decide +kernel
set_option maxRecDepth 100000 in
theorem law_d16 : law_chkR 960 60 = true := by decide +kernel
set_option maxRecDepth 100000 in
theorem law_d17 : law_chkR 1020 60 = true := by decide +kernel
set_option maxRecDepth 100000 in
theorem law_d18 : law_chkR 1080 60 = true := by decide +kernel
set_option maxRecDepth 100000 in
theorem law_d19 : law_chkR 1140 60 = true := by decide +kernel
set_option maxRecDepth 100000 in
theorem law_d20 : law_chkR 1200 60 = true := by decide +kernel
set_option maxRecDepth 100000 in
theorem law_d21 : law_chkR 1260 60 = true := by decide +kernel
set_option maxRecDepth 100000 in
theorem law_d22 : law_chkR 1320 60 = true := by decide +kernel
set_option maxRecDepth 100000 in
theorem law_d23 : law_chkR 1380 60 = true := by decide +kernel
set_option maxRecDepth 100000 in
theorem law_d24 : law_chkR 1440 60 = true := by decide +kernel
set_option maxRecDepth 100000 in
theorem law_d25 : law_chkR 1500 60 = true := by decide +kernel
theorem law_dec : ∀ pc ins len, (sm_MT 0).2.2.2.2.2 pc = some (ins, len) → decode (sm_MB 0) pc = .ok (ins, len) := by
  intro pc ins len h
  have h : fI0 pc = some (ins, len) := h
  have hlt : pc < 1523 := by
    have h9 := h
    unfold fI0 at h9
    exact Nat.le_of_ble_eq_true (sm_bif h9).1
  show decode code pc = .ok (ins, len)
  by_cases g0 : pc < 60
  · exact law_chkR_ok law_d0 (by omega) (by omega) h
  by_cases g1 : pc < 120
  · exact law_chkR_ok law_d1 (by omega) (by omega) h
  by_cases g2 : pc < 180
  · exact law_chkR_ok law_d2 (by omega) (by omega) h
  by_cases g3 : pc < 240
  · exact law_chkR_ok law_d3 (by omega) (by omega) h
  by_cases g4 : pc < 300
  · exact law_chkR_ok law_d4 (by omega) (by omega) h
  by_cases g5 : pc < 360
  · exact law_chkR_ok law_d5 (by omega) (by omega) h
  by_cases g6 : pc < 420
  · exact law_chkR_ok law_d6 (by omega) (by omega) h
  by_cases g7 : pc < 480
  · exact law_chkR_ok law_d7 (by omega) (by omega) h
  by_cases g8 : pc < 540
  · exact law_chkR_ok law_d8 (by omega) (by omega) h
  by_cases g9 : pc < 600
  · exact law_chkR_ok law_d9 (by omega) (by omega) h
  by_cases g10 : pc < 660
  · exact law_chkR_ok law_d10 (by omega) (by omega) h
  by_cases g11 : pc < 720
  · exact law_chkR_ok law_d11 (by omega) (by omega) h
  by_cases g12 : pc < 780
  · exact law_chkR_ok law_d12 (by omega) (by omega) h
  by_cases g13 : pc < 840
  · exact law_chkR_ok law_d13 (by omega) (by omega) h
  by_cases g14 : pc < 900
  · exact law_chkR_ok law_d14 (by omega) (by omega) h
  by_cases g15 : pc < 960
  · exact law_chkR_ok law_d15 (by omega) (by omega) h
  by_cases g16 : pc < 1020
  · exact law_chkR_ok law_d16 (by omega) (by omega) h
  by_cases g17 : pc < 1080
  · exact law_chkR_ok law_d17 (by omega) (by omega) h
  by_cases g18 : pc < 1140
  · exact law_chkR_ok law_d18 (by omega) (by omega) h
  by_cases g19 : pc < 1200
  · exact law_chkR_ok law_d19 (by omega) (by omega) h
  by_cases g20 : pc < 1260
  · exact law_chkR_ok law_d20 (by omega) (by omega) h
  by_cases g21 : pc < 1320
  · exact law_chkR_ok law_d21 (by omega) (by omega) h
  by_cases g22 : pc < 1380
  · exact law_chkR_ok law_d22 (by omega) (by omega) h
  by_cases g23 : pc < 1440
  · exact law_chkR_ok law_d23 (by omega) (by omega) h
  by_cases g24 : pc < 1500
  · exact law_chkR_ok law_d24 (by omega) (by omega) h
  by_cases g25 : pc < 1560
  · exact law_chkR_ok law_d25 (by omega) (by omega) h
  omega
