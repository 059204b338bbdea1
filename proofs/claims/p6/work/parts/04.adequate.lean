/-! What the small machine answers, the machine answers: by induction on the small one's fuel. -/
def sm_rt (k : Nat) : Option FieldType := match k with
  | 0 => none
  | 1 => some .int
  | 2 => some .long
  | _ => some .boolean
/-- what the tables must say of a method -/
def sm_okM (MT : Nat → sm_M) (MN : Nat → MethodName) (MB : Nat → ByteArray) (CN : Nat → String) (Ts : List Jvm.Cond) (k : Nat) : Prop :=
  plainName (MN k).cls = true ∧ (MN k).cls = CN (MT k).1 ∧ Jvm.Cond.code (MN k) (MB k) (MT k).2.1 (sm_rt (MT k).2.2.1) ∈ Ts ∧
  ((MN k).cls ≠ "java/lang/invoke/MethodHandle" ∧ (MN k).cls ≠ "java/lang/invoke/VarHandle" ∧ (parseMethodDescriptor (MN k).desc).map (fun d => d.parameters.length) = some (MT k).2.2.2.1) ∧
  Jvm.Cond.initialized (MN k).cls ∈ Ts ∧ (MT k).2.1 ≤ 60 ∧ ((MT k).2.2.2.2.1 = true → (MN k).name = "<init>") ∧ (MT k).2.2.1 ≤ 3 ∧
  ∀ pc ins len, (MT k).2.2.2.2.2 pc = some (ins, len) → decode (MB k) pc = .ok (ins, len)
/-- what the tables must say of an entry that names a method, and that the method is known -/
def sm_okK (MT : Nat → sm_M) (MN : Nat → MethodName) (MB : Nat → ByteArray) (CN : Nat → String) (cl : List vw_C) (NL : List (String × Nat × MethodName × String)) (Ts : List Jvm.Cond) (own : String) (ix : Nat) (q : sm_L) : Prop :=
  (q.1 = 15 → (∃ host : String, (own, ix, MN q.2.1, host) ∈ NL) ∧ Jvm.Cond.static (MN q.2.1) ∈ Ts ∧ sm_okM MT MN MB CN Ts q.2.1) ∧
  (q.1 = 14 → (∃ host : String, (own, ix, MN q.2.1, host) ∈ NL) ∧ Jvm.Cond.instanceMethod (MN q.2.1) ∈ Ts ∧ (MN q.2.1).name = "<init>" ∧ (MT q.2.1).2.2.1 = 0 ∧ sm_okM MT MN MB CN Ts q.2.1) ∧
  (q.1 = 1 → (∃ r : vw_C, cl[q.2.2.1]? = some r ∧ Jvm.Cond.selects r.1 (MN q.2.1) (MN q.2.1) ∈ Ts) ∧ Jvm.Cond.methodLink own ix (MN q.2.1) ∈ Ts ∧ Jvm.Cond.instanceMethod (MN q.2.1) ∈ Ts ∧ sm_okM MT MN MB CN Ts q.2.1) ∧
  (q.1 = 2 → Jvm.Cond.methodLink own ix (MN q.2.1) ∈ Ts ∧ Jvm.Cond.static (MN q.2.1) ∈ Ts ∧ sm_okM MT MN MB CN Ts q.2.1) ∧
  (q.1 = 3 → Jvm.Cond.methodLink own ix (MN q.2.1) ∈ Ts ∧ Jvm.Cond.instanceMethod (MN q.2.1) ∈ Ts ∧ (MN q.2.1).name = "<init>" ∧ (MT q.2.1).2.2.1 = 0 ∧ sm_okM MT MN MB CN Ts q.2.1)
/-- entries that name a private constructor of a nest mate -/
def sm_nl (NL : List (String × Nat × MethodName × String)) (U : State) : Prop := ∀ q ∈ NL, va_Nw (.methodLinkNest q.1 q.2.1 q.2.2.1 q.2.2.2) U
/-- a method's end -/
def sm_QC (D : va_G) (cl : List vw_C) (ad : Nat → Nat) (cA : Nat → ClassId) (base : Nat) (r : Option Value) (hf : sm_H) : Array Value → State → Outcome → State → Prop := match r with
  | some (.int v) => va_Qi (S := Unit) (fun x _ => x = v) (fun _ t => t.heap.size = base + hf.length ∧ va_P D cl (sm_w ad cA base hf) t.heap) (fun q => base ≤ q)
  | some (.long v) => va_Ql (S := Unit) (fun x _ => x = v) (fun _ t => t.heap.size = base + hf.length ∧ va_P D cl (sm_w ad cA base hf) t.heap) (fun q => base ≤ q)
  | _ => va_Qv (S := Unit) (fun _ => True) (fun _ t => t.heap.size = base + hf.length ∧ va_P D cl (sm_w ad cA base hf) t.heap) (fun q => base ≤ q)
/-- a method's start -/
def sm_PC (D : va_G) (cl : List vw_C) (cA : Nat → ClassId) (Cq : String) (RO : List (Nat × (Nat → Int32))) (SF : List (String × String × String × Nat)) (st : Nat → Nat) (NL : List (String × Nat × MethodName × String)) (base : Nat) (as : List Value) (h : sm_H) : Array Value → State → Prop :=
  va_Pc (as.map (sm_v (sm_ad st base))) (fun U => U.heap.size = base + h.length ∧ va_P D cl (sm_w (sm_ad st base) cA base h) U.heap ∧ sm_env D cl cA Cq RO SF st base U U.heap ∧ sm_nl NL U)
theorem sm_PC_blind {D : va_G} {cl : List vw_C} {cA : Nat → ClassId} {Cq : String} {RO : List (Nat × (Nat → Int32))} {SF : List (String × String × String × Nat)} {st : Nat → Nat} {NL : List (String × Nat × MethodName × String)} {base : Nat} {as : List Value} {h : sm_H} : FrameBlind (sm_PC D cl cA Cq RO SF st NL base as h) :=
  fun a U g mk q => ⟨q.1, q.2.1, q.2.2.1, sm_env.moved (u := U) (U := U.calling g mk a) (Vm.Alike.refl U.vm) q.2.2.2.1, fun x hx => va_Nw.same (u := U) (U := U.calling g mk a) rfl rfl (q.2.2.2.2 x hx)⟩
section ADQ
variable {l : Launch} {D : va_G} {cl : List vw_C} {cA : Nat → ClassId} {Cq : String} {cq : Nat} {RO : List (Nat × (Nat → Int32))} {SF : List (String × String × String × Nat)} {st : Nat → Nat} {NL : List (String × Nat × MethodName × String)} {base : Nat} {Ts : List Jvm.Cond} {tyc : Nat → Nat → FieldType} {NV : Nat → List Value} {MT : Nat → sm_M} {LK : Nat → Nat → Option sm_L} {MN : Nat → MethodName} {MB : Nat → ByteArray} {CN : Nat → String}
/-- the statement, at a fuel -/
def sm_ADQ (l : Launch) (D : va_G) (cl : List vw_C) (cA : Nat → ClassId) (Cq : String) (cq : Nat) (RO : List (Nat × (Nat → Int32))) (SF : List (String × String × String × Nat)) (st : Nat → Nat) (NL : List (String × Nat × MethodName × String)) (base : Nat) (Ts : List Jvm.Cond) (NV : Nat → List Value) (MT : Nat → sm_M) (LK : Nat → Nat → Option sm_L) (MN : Nat → MethodName) (MB : Nat → ByteArray) (CN : Nat → String) (f : Nat) : Prop :=
  ∀ (d j pc : Nat) (lv : sm_V) (sk : List Value) (h : sm_H) (r : Option Value) (hf : sm_H), sm_run MT LK RO NV cq f d j pc lv sk h = some (r, hf) → 
  ∀ (p : Program) (e : Env) (R : Room) (s : State) (m : MethodId) (args : Array Value) (below : List Frame) (meth : Method) (c : Code) (H : Heap) (locs : List Loc) (cells slots : Nat) (Q : State → Prop) (n0 z0 : Nat) (ls : Array Slot),
  p.tables.exec = Jvm.exec → c.code = MB j → c.maxLocals = (MT j).2.1 → s.vm.findClass (CN (MT j).1) = some m.cls → (∀ w ∈ Ts, w.before args s = true) → ((MT j).2.2.2.2.1 = true → meth.name = "<init>") → (∀ pc ins len, (MT j).2.2.2.2.2 pc = some (ins, len) → decode (MB j) pc = .ok (ins, len)) →
  sm_env D cl cA Cq RO SF st base s s.heap → sm_nl NL s → s.heap.size = base + n0 → d ≤ R.frames → d * 100 ≤ R.locals → hf.length ≤ n0 + R.cells → sm_sz hf ≤ z0 + R.slots →
  lv_has ls (MT j).2.1 (sm_lv (sm_ad st base) lv) → va_P D cl (sm_w (sm_ad st base) cA base h) H → va_S (fun q => base ≤ q) s.heap H locs → n0 + cells = h.length → z0 + slots = sm_sz h →
  (∀ (ins : Instr) (pcR : Nat) (ls' : Array Slot) (H' : Heap) (locs' : List Loc) (cells' slots' : Nat), decode (MB j) pcR = .ok (ins, 1) → sm_ret (MT j).2.2.1 ins r.toList = some r → va_P D cl (sm_w (sm_ad st base) cA base hf) H' → va_S (fun q => base ≤ q) s.heap H' locs' → n0 + cells' = hf.length → z0 + slots' = sm_sz hf → W p l e R s m args below meth c H' locs' cells' slots' Q (F0 m pcR ls' (r.toList.map (sm_v (sm_ad st base))))) →
  W p l e R s m args below meth c H locs cells slots Q (F0 m pc ls (sk.map (sm_v (sm_ad st base))))
theorem sm_len_ret {ins : Instr} {len : Nat} {kind : Nat} {s : List Value} {r : Option Value} (h : sm_ret kind ins s = some r) : sm_len ins len = 1 ∧ s = r.toList := by
  rcases sm_ret_eq h with ⟨v, rfl, rfl, rfl, -⟩ | ⟨v, rfl, rfl, rfl, -⟩ | ⟨rfl, rfl, rfl, -⟩ <;> exact ⟨rfl, rfl⟩
set_option maxHeartbeats 4000000 in
/-- a method's contract out of its run -/
theorem sm_met {f d k : Nat} {as : List Value} {h hf : sm_H} {r : Option Value} (hA : sm_ADQ l D cl cA Cq cq RO SF st NL base Ts NV MT LK MN MB CN f) (hM : sm_okM MT MN MB CN Ts k) (hr : sm_run MT LK RO NV cq f d k 0 (lv_args 0 as) [] h = some (r, hf)) (hn : (lg_sl as).length ≤ (MT k).2.1) :
    Met l (MN k) (Jvm.Cond.code (MN k) (MB k) (MT k).2.1 (sm_rt (MT k).2.2.1) :: Ts) ({ frames := d, cells := hf.length - h.length, slots := sm_sz hf - sm_sz h, locals := d * 100 }) (sm_PC D cl cA Cq RO SF st NL base as h) (sm_QC D cl (sm_ad st base) cA base r hf) (hf.length - h.length) (sm_sz hf - sm_sz h) (fun q => base ≤ q) := by
  obtain ⟨m1, m2, m3, m4, m5, m6, m7, m8, m9⟩ := hM
  have hmono := sm_run_mono _ _ _ _ _ _ _ _ _ hr
  refine Met.ofW (cc := MB k) (maxL := (MT k).2.1) (ret := sm_rt (MT k).2.2.1) m1 rfl ?_
  intro p e s m args below meth c s₁ B hml hv
  obtain ⟨rfl, hsz, hP, hE, hNl⟩ := hv
  have hx := B.exec
  have hb := B.bytes
  have hrt := B.returns
  have hts0 := atoms_spec (ws := Jvm.Cond.code (MN k) (MB k) (MT k).2.1 (sm_rt (MT k).2.2.1) :: Ts) B.pre
  have hts : ∀ w ∈ Ts, w.before (as.map (sm_v (sm_ad st base))).toArray s = true := fun w hw => hts0 w (List.mem_cons_of_mem _ hw)
  have hown : s.vm.findClass (CN (MT k).1) = some m.cls := by rw [← m2]; exact findClass_of_methodNamed B.named
  have hlocks := B.notSynchronized
  have hin : meth.name = (MN k).name := (name_of_methodNamed B.named B.method).1
  rw [lg_entry_eq]
  have hl := lv_entry (as.map (sm_v (sm_ad st base))) (n := (MT k).2.1) (by rw [sm_sl_len]; exact hn)
  rw [← sm_args_map] at hl
  generalize (lg_sl (as.map (sm_v (sm_ad st base))) ++ List.replicate ((MT k).2.1 - (lg_sl (as.map (sm_v (sm_ad st base)))).length) Slot.unset).toArray = ls at hl ⊢
  refine hA d k 0 _ [] h r hf hr p e _ s m _ below meth c s.heap [] 0 0 _ h.length (sm_sz h) ls hx hb hml hown hts (fun q => hin.trans (m7 q)) m9 hE hNl hsz (Nat.le_refl _) (Nat.le_refl _) (by show _ ≤ h.length + (hf.length - h.length); omega) (by show _ ≤ sm_sz h + (sm_sz hf - sm_sz h); omega) hl hP va_S.rf rfl rfl ?_
  intro ins pcR ls' H' locs' cells' slots' hdg hret hP' hS' hc1 hc2
  have e1 : cells' = hf.length - h.length := by omega
  have e2 : slots' = sm_sz hf - sm_sz h := by omega
  intro T hT X
  have hz := sm_size hT X hP' hS'.1 hsz hc1
  subst e1
  subst e2
  rcases sm_ret_eq hret with ⟨v, rfl, -, rfl, hk⟩ | ⟨v, rfl, -, rfl, hk⟩ | ⟨rfl, -, rfl, hk⟩
  · have hq : ∀ t : State, t.heap = H' → s.WarmedH t.vm → sm_QC D cl (sm_ad st base) cA base (some (.int v)) hf (as.map (sm_v (sm_ad st base))).toArray s (.returned (some (.int v))) t := fun t ht hW => ⟨⟨v, (), rfl, rfl, by rw [ht]; exact hz, by rw [ht]; exact hP'⟩, hS'.F ht⟩
    rcases hk with hk | ⟨hk, hv⟩
    · exact W.iret (v := v) hx hb (by rw [hrt, hk]; rfl) hq hS'.2.2 hdg hlocks T hT X
    · exact W.zret (v := v) (ty := .boolean) hx hb (by rw [hrt, hk]; rfl) (by rcases hv with rfl | rfl <;> rfl) hq hS'.2.2 hdg hlocks T hT X
  · exact W.lret (v := v) hx hb (by rw [hrt, hk]; rfl) (fun t ht hW => ⟨⟨v, (), rfl, rfl, by rw [ht]; exact hz, by rw [ht]; exact hP'⟩, hS'.F ht⟩) hS'.2.2 hdg hlocks T hT X
  · exact W.vret hx hb (by rw [hrt, hk]; rfl) (fun t ht hW => ⟨⟨(), rfl, trivial, by rw [ht]; exact hz, by rw [ht]; exact hP'⟩, hS'.F ht⟩) hS'.2.2 hdg hlocks T hT X
set_option maxHeartbeats 4000000 in
theorem sm_adq (hok : ∀ o ix q, LK o ix = some q → sm_okL cl tyc SF Cq Ts (CN o) ix q) (hoK : ∀ o ix q, LK o ix = some q → sm_okK MT MN MB CN cl NL Ts (CN o) ix q) (hcl : sm_okC cl tyc NV Ts) (hcq : ∃ r : vw_C, cl[cq]? = some r ∧ r.1 = Cq) (har : ∀ q t, sm_aty q = some t → Jvm.Cond.arrayClass (newarray.typeOf q) ∈ Ts) (hG : GoodIn Ts Ts) :
    ∀ f, sm_ADQ l D cl cA Cq cq RO SF st NL base Ts NV MT LK MN MB CN f := by
  intro f
  induction f with
  | zero => intro d j pc lv sk h r hf e; simp [sm_run] at e
  | succ f ih =>
    intro d j pc lv sk h r hf e p e9 R s m args below meth c H locs cells slots Q n0 z0 ls hx hb hml hown hts hini hdec hE hNl hb0 hd hdl hm1 hm2 hl hP hS hc1 hc2 kk
    unfold sm_run at e
    split at e
    · cases e
    · rename_i ins len hfe
      have hdg := hdec _ _ _ hfe
      split at e
      · rename_i hlen
        rw [hlen] at hdg
        split at e
        · rename_i r' e1
          cases e
          obtain ⟨h1, h2⟩ := sm_len_ret (len := len) e1
          rw [h1] at hdg
          subst h2
          exact kk ins pc ls H locs cells slots hdg e1 hP hS hc1 hc2
        · split at e
          · rename_i k as rest e2
            split at e
            · cases e
            · rename_i d'
              split at e
              · rename_i hq
                split at e
                · rename_i r1 h1 e3
                  have mo1 := sm_run_mono _ _ _ _ _ _ _ _ _ e3
                  have mo2 := sm_run_mono _ _ _ _ _ _ _ _ _ e
                  have hsum : 2 * (F0 m pc ls (sk.map (sm_v (sm_ad st base)))).monitorRoom + ((rest.map (sm_v (sm_ad st base))).map fun v => v.category).sum ≤ 8 := by
                    have h9 : (F0 m pc ls (sk.map (sm_v (sm_ad st base)))).monitorRoom = 0 := rfl
                    rw [h9, sm_sum_map]
                    omega
                  have hfit : cells + (h1.length - h.length) ≤ R.cells ∧ slots + (sm_sz h1 - sm_sz h) ≤ R.slots := by omega
                  have hloc : ∀ ml : Nat, ml ≤ 60 → d' + 1 ≤ R.frames ∧ 8 + (ml + 11) + d' * 100 ≤ R.locals := fun ml hml9 => ⟨hd, by omega⟩
                  intro T hT X
                  have hz := sm_size hT X hP hS.1 hb0 hc1
                  have hpre : ∀ U : State, U.heap = H → s.WarmedH U.vm → sm_PC D cl cA Cq RO SF st NL base as h (as.map (sm_v (sm_ad st base))).toArray U := fun U hU hW => ⟨rfl, by rw [hU]; exact hz, by rw [hU]; exact hP, by rw [hU]; exact (hE.kept hS.2.1).moved hW.alike, fun x hx9 => va_Nw.warmM hW (hNl x hx9)⟩
                  have hmet : sm_okM MT MN MB CN Ts k → Met l (MN k) (Jvm.Cond.code (MN k) (MB k) (MT k).2.1 (sm_rt (MT k).2.2.1) :: Ts) ({ frames := d', cells := h1.length - h.length, slots := sm_sz h1 - sm_sz h, locals := d' * 100 }) (sm_PC D cl cA Cq RO SF st NL base as h) (sm_QC D cl (sm_ad st base) cA base r1 h1) (h1.length - h.length) (sm_sz h1 - sm_sz h) (fun q => base ≤ q) := fun hM => sm_met ih hM e3 hq.2
                  have hGk : sm_okM MT MN MB CN Ts k → GoodIn Ts (Jvm.Cond.code (MN k) (MB k) (MT k).2.1 (sm_rt (MT k).2.2.1) :: Ts) := fun hM w hw => (List.mem_cons.mp hw).elim (fun q => by subst q; exact hG _ hM.2.2.1) (fun q => hG w q)
                  have hrun : va_Run p l e9 R s m args below meth c H locs cells slots (h1.length - h.length) (sm_sz h1 - sm_sz h) (F0 m pc ls (sk.map (sm_v (sm_ad st base)))) (rest.map (sm_v (sm_ad st base))) (sm_QC D cl (sm_ad st base) cA base r1 h1 (as.map (sm_v (sm_ad st base))).toArray) (fun q => base ≤ q) := by
                    unfold sm_call at e2
                    split at e2
                    · skip
                      split at e2
                      · rename_i k' ci z9 e4
                        split at e2
                        · rename_i b rest' e5
                          split at e2
                          · rename_i fs e6
                            cases e2
                            obtain ⟨⟨r0, g1, g2⟩, g3, g4, g5⟩ := (hoK _ _ _ e4).2.2.1 rfl
                            obtain ⟨o1, o2, o3⟩ := sm_obj_at (ad := sm_ad st base) (cA := cA) (base := base) e6
                            have e5 : sk.drop (MT k).2.2.2.1 = .ref b :: rest := e5
                            have hlt : (MT k).2.2.2.1 ≤ sk.length := by
                              have h9 := congrArg List.length e5
                              rw [List.length_drop, List.length_cons] at h9
                              omega
                            refine va_runV (C := r0.1) (As := (sk.take (MT k).2.2.2.1).reverse.map (sm_v (sm_ad st base))) (n := (MT k).2.2.2.1) ⟨hx, hb, hml, hown, hts⟩ (hmet g5) ⟨callB_of _ hts (hGk g5) rfl rfl rfl (hts _ g5.2.2.2.2.1) (hts _ g3) g5.2.2.2.1 (hloc _ g5.2.2.2.2.2.1), hts _ g4, hts _ g2⟩ ⟨sm_PC_blind, ?_, fun U hU hW => hpre U hU hW⟩ rfl (by rw [List.length_map, List.length_reverse, List.length_take]; omega) hl.1 ?_ hsum hdg hfit
                            · show ∃ cellB, H[sm_ad st base b]? = some cellB ∧ _
                              rw [sm_ad_own o1]
                              exact va_recv hE.1 hP g1 o3
                            · show sk.map (sm_v (sm_ad st base)) = _
                              rw [← List.map_reverse, List.reverse_reverse]
                              conv => lhs; rw [← List.take_append_drop (MT k).2.2.2.1 sk, e5]
                              rw [List.map_append]
                              rfl
                          · cases e2
                        · cases e2
                      · cases e2
                    · skip
                      split at e2
                      · rename_i k' ci z9 e4
                        split at e2
                        · rename_i hlt
                          cases e2
                          have hlt : (MT k).2.2.2.1 ≤ sk.length := hlt
                          obtain ⟨g3, g4, g5⟩ := (hoK _ _ _ e4).2.2.2.1 rfl
                          refine va_runS (As := (sk.take (MT k).2.2.2.1).reverse.map (sm_v (sm_ad st base))) (n := (MT k).2.2.2.1) ⟨hx, hb, hml, hown, hts⟩ (hmet g5) ⟨callB_of _ hts (hGk g5) rfl rfl rfl (hts _ g5.2.2.2.2.1) (hts _ g3) g5.2.2.2.1 (hloc _ g5.2.2.2.2.2.1), hts _ g4⟩ ⟨sm_PC_blind, fun U hU hW => hpre U hU hW⟩ rfl (by rw [List.length_map, List.length_reverse, List.length_take]; omega) hl.1 ?_ hsum hdg hfit
                          show sk.map (sm_v (sm_ad st base)) = _
                          rw [← List.map_reverse, List.reverse_reverse, ← List.map_append, List.take_append_drop]
                        · cases e2
                      · rename_i k' ci z9 e4
                        split at e2
                        · rename_i hlt
                          cases e2
                          have hlt : (MT k).2.2.2.1 ≤ sk.length := hlt
                          obtain ⟨⟨host, g3⟩, g4, g5⟩ := (hoK _ _ _ e4).1 rfl
                          refine va_runSN (host := host) (As := (sk.take (MT k).2.2.2.1).reverse.map (sm_v (sm_ad st base))) (n := (MT k).2.2.2.1) ⟨hx, hb, hml, hown, hts⟩ (hmet g5) ⟨va_cnB _ hts (hGk g5) rfl rfl rfl (hNl _ g3) (hts _ g5.2.2.2.2.1) g5.2.2.2.1 (hloc _ g5.2.2.2.2.2.1), hts _ g4, trivial⟩ ⟨sm_PC_blind, fun U hU hW => hpre U hU hW⟩ rfl (by rw [List.length_map, List.length_reverse, List.length_take]; omega) hl.1 ?_ hsum hdg hfit
                          show sk.map (sm_v (sm_ad st base)) = _
                          rw [← List.map_reverse, List.reverse_reverse, ← List.map_append, List.take_append_drop]
                        · cases e2
                      · cases e2
                    · skip
                      split at e2
                      · rename_i k' ci z9 e4
                        split at e2
                        · rename_i b rest' e5
                          cases e2
                          obtain ⟨g3, g4, g6, g7, g5⟩ := (hoK _ _ _ e4).2.2.2.2 rfl
                          have e5 : sk.drop (MT k).2.2.2.1 = .ref b :: rest := e5
                          have hlt : (MT k).2.2.2.1 ≤ sk.length := by
                            have h9 := congrArg List.length e5
                            rw [List.length_drop, List.length_cons] at h9
                            omega
                          have hmet9 := hmet g5
                          have hGk9 := hGk g5
                          have hrt9 : sm_rt (MT k).2.2.1 = none := by rw [g7]; rfl
                          rw [hrt9] at hmet9 hGk9
                          refine va_runI (As := (sk.take (MT k).2.2.2.1).reverse.map (sm_v (sm_ad st base))) (n := (MT k).2.2.2.1) ⟨hx, hb, hml, hown, hts⟩ hmet9 ⟨callB_of _ hts hGk9 rfl rfl rfl (hts _ g5.2.2.2.2.1) (hts _ g3) g5.2.2.2.1 (hloc _ g5.2.2.2.2.2.1), g6, hts _ g4⟩ ⟨sm_PC_blind, fun U hU hW => hpre U hU hW⟩ rfl (by rw [List.length_map, List.length_reverse, List.length_take]; omega) hl.1 ?_ hsum hdg hfit
                          show sk.map (sm_v (sm_ad st base)) = _
                          rw [← List.map_reverse, List.reverse_reverse]
                          conv => lhs; rw [← List.take_append_drop (MT k).2.2.2.1 sk, e5]
                          rw [List.map_append]
                          rfl
                        · cases e2
                      · rename_i k' ci z9 e4
                        split at e2
                        · rename_i b rest' e5
                          cases e2
                          obtain ⟨⟨host, g3⟩, g4, g6, g7, g5⟩ := (hoK _ _ _ e4).2.1 rfl
                          have e5 : sk.drop (MT k).2.2.2.1 = .ref b :: rest := e5
                          have hlt : (MT k).2.2.2.1 ≤ sk.length := by
                            have h9 := congrArg List.length e5
                            rw [List.length_drop, List.length_cons] at h9
                            omega
                          have hmet9 := hmet g5
                          have hGk9 := hGk g5
                          have hrt9 : sm_rt (MT k).2.2.1 = none := by rw [g7]; rfl
                          rw [hrt9] at hmet9 hGk9
                          refine va_runIN (host := host) (As := (sk.take (MT k).2.2.2.1).reverse.map (sm_v (sm_ad st base))) (n := (MT k).2.2.2.1) ⟨hx, hb, hml, hown, hts⟩ hmet9 ⟨va_cnB _ hts hGk9 rfl rfl rfl (hNl _ g3) (hts _ g5.2.2.2.2.1) g5.2.2.2.1 (hloc _ g5.2.2.2.2.2.1), g6, hts _ g4⟩ ⟨sm_PC_blind, fun U hU hW => hpre U hU hW⟩ rfl (by rw [List.length_map, List.length_reverse, List.length_take]; omega) hl.1 ?_ hsum hdg hfit
                          show sk.map (sm_v (sm_ad st base)) = _
                          rw [← List.map_reverse, List.reverse_reverse]
                          conv => lhs; rw [← List.take_append_drop (MT k).2.2.2.1 sk, e5]
                          rw [List.map_append]
                          rfl
                        · cases e2
                      · cases e2
                    · cases e2
                  have hnext : ∀ (H1 : Heap) (locs1 : List Loc), va_P D cl (sm_w (sm_ad st base) cA base h1) H1 → va_S (fun q => base ≤ q) s.heap H1 locs1 → W p l e9 R s m args below meth c H1 locs1 (cells + (h1.length - h.length)) (slots + (sm_sz h1 - sm_sz h)) Q (F0 m (pc + 3) ls ((r1.toList ++ rest).map (sm_v (sm_ad st base)))) := fun H1 locs1 hP1 hS1 => ih _ _ _ _ _ _ _ _ e p e9 R s m args below meth c H1 locs1 _ _ Q n0 z0 ls hx hb hml hown hts hini hdec hE hNl hb0 hd hdl hm1 hm2 hl hP1 hS1 (by omega) (by omega) kk
                  obtain ⟨ins1, s1, hr1⟩ := sm_run_ret _ _ _ _ _ _ _ _ _ e3
                  rcases sm_ret_eq hr1 with ⟨v, -, -, rfl, -⟩ | ⟨v, -, -, rfl, -⟩ | ⟨-, -, rfl, -⟩
                  · exact va_calli (a := (as.map (sm_v (sm_ad st base))).toArray) hrun hS (fun q _ h9 => h9) (fun q h9 => h9) (fun x u t H1 locs1 ht hvm hw hB hz1 hk1 hS1 => by
                      subst hw
                      exact hnext H1 locs1 (by rw [← ht]; exact hB.2) hS1) T hT X
                  · exact va_calll (a := (as.map (sm_v (sm_ad st base))).toArray) hrun hS (fun q _ h9 => h9) (fun q h9 => h9) (fun x u t H1 locs1 ht hvm hw hB hz1 hk1 hS1 => by
                      subst hw
                      exact hnext H1 locs1 (by rw [← ht]; exact hB.2) hS1) T hT X
                  · exact va_callv (a := (as.map (sm_v (sm_ad st base))).toArray) hrun hS (fun q _ h9 => h9) (fun q h9 => h9) (fun u t H1 locs1 ht hvm hw hB hz1 hk1 hS1 => hnext H1 locs1 (by rw [← ht]; exact hB.2) hS1) T hT X
                · cases e
              · cases e
          · split at e
            · rename_i o e2
              have mo1 := sm_mono (pc' := o.1) (lv' := o.2.1) (sk' := o.2.2.1) (h' := o.2.2.2) e2
              have mo2 := sm_run_mono _ _ _ _ _ _ _ _ _ e
              exact sm_sound (pc' := o.1) (lv' := o.2.1) (sk' := o.2.2.1) (h' := o.2.2.2) hx hb hml hown hts (fun ix q hq => hok _ ix q hq) hcl hcq hini hE hb0 hd hdl har hdg hl hP hS hc1 hc2 (by omega) (by omega) e2 (fun ls' H' locs' cells' slots' hl' hP' hS' hc1' hc2' => ih _ _ _ _ _ _ _ _ e p e9 R s m args below meth c H' locs' cells' slots' Q n0 z0 ls' hx hb hml hown hts hini hdec hE hNl hb0 hd hdl hm1 hm2 hl' hP' hS' hc1' hc2' kk)
            · cases e
      · cases e
end ADQ
