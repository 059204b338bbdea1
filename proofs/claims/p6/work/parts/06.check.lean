/-! The tables are right: each word that the small machine rests on stands in the Statement's tables, each instruction is what the bytes decode to. -/
def sm_T0 : List Jvm.Cond := lw_tbl.filter goodWord
theorem sm_tw_mem {k i : Nat} {w : Jvm.Cond} (h : sm_tw k i = some w) : w ∈ lw_tbl := by
  unfold lw_tbl tables_1
  unfold sm_tw at h
  split at h
  · exact List.mem_append_left _ (List.mem_of_getElem? h)
  · exact List.mem_append_right _ (List.mem_append_left _ (List.mem_of_getElem? h))
  · exact List.mem_append_right _ (List.mem_append_right _ (List.mem_append_left _ (List.mem_of_getElem? h)))
  · exact List.mem_append_right _ (List.mem_append_right _ (List.mem_append_right _ (List.mem_append_left _ (List.mem_of_getElem? h))))
  · exact List.mem_append_right _ (List.mem_append_right _ (List.mem_append_right _ (List.mem_append_right _ (List.mem_append_left _ (List.mem_of_getElem? h)))))
  · exact List.mem_append_right _ (List.mem_append_right _ (List.mem_append_right _ (List.mem_append_right _ (List.mem_append_right _ (List.mem_append_left _ (List.mem_of_getElem? h))))))
  · exact List.mem_append_right _ (List.mem_append_right _ (List.mem_append_right _ (List.mem_append_right _ (List.mem_append_right _ (List.mem_append_right _ (List.mem_append_left _ (List.mem_of_getElem? h)))))))
  · exact List.mem_append_right _ (List.mem_append_right _ (List.mem_append_right _ (List.mem_append_right _ (List.mem_append_right _ (List.mem_append_right _ (List.mem_append_right _ (List.mem_of_getElem? h)))))))
  · cases h
def sm_hs (p : Nat × Nat) (w : Jvm.Cond) : Bool := decide (sm_tw p.1 p.2 = some w) && goodWord w
theorem sm_hs_T {p : Nat × Nat} {w : Jvm.Cond} (h : sm_hs p w = true) : w ∈ sm_T0 := by
  unfold sm_hs at h
  rw [Bool.and_eq_true, decide_eq_true_eq] at h
  exact List.mem_filter.mpr ⟨sm_tw_mem h.1, h.2⟩
theorem sm_T0_good : GoodIn sm_T0 sm_T0 := fun w hw => ⟨hw, good_of_word (List.mem_filter.mp hw).2⟩
-- classes
def sm_chkC (ci : Nat) (r : vw_C) : Bool :=
  (List.range r.2.2).all (fun k => sm_hs ((sm_lays.getD ci []).getD k (99, 0)) (u_lay r.1 r.2.1 k) && decide (parseFieldDescriptor (r.2.1 k).2.2.1 = some (sm_tyc ci k)) && decide (defaultValue (sm_tyc ci k) = vp_V (sm_NV ci) k) && (List.range r.2.2).all (fun b => decide (k = b) || !decide ((r.2.1 k).2.1 = (r.2.1 b).2.1))) &&
  decide ((sm_NV ci).length = r.2.2) && (sm_NV ci).all (fun v => match v with
    | .ref _ => false
    | _ => true)
set_option maxRecDepth 100000 in
theorem sm_chkC_all : (List.range sm_cl.length).all (fun ci => match sm_cl[ci]? with
    | some r => sm_chkC ci r
    | none => true) = true := by decide +kernel
theorem sm_okC_all : sm_okC sm_cl sm_tyc sm_NV sm_T0 := by
  intro ci r hr
  have hlt : ci < sm_cl.length := (List.getElem?_eq_some_iff.mp hr).1
  have h := List.all_eq_true.mp sm_chkC_all ci (List.mem_range.mpr hlt)
  rw [hr] at h
  replace h : sm_chkC ci r = true := h
  unfold sm_chkC at h
  rw [Bool.and_eq_true, Bool.and_eq_true, decide_eq_true_eq] at h
  obtain ⟨⟨h1, h2⟩, h3⟩ := h
  have h4 : ∀ k, k < r.2.2 → _ := fun k hk => List.all_eq_true.mp h1 k (List.mem_range.mpr hk)
  simp only [Bool.and_eq_true, decide_eq_true_eq] at h4
  refine ⟨fun w hw => ?_, fun k hk => (h4 k hk).1.1.2, fun a ha b hb hab => ?_, fun j hj => (h4 j hj).1.2, h2, fun ad => ?_⟩
  · obtain ⟨k, hk, rfl⟩ := List.mem_map.mp hw
    exact sm_hs_T (h4 k (List.mem_range.mp hk)).1.1.1
  · have h5 := List.all_eq_true.mp (h4 a ha).2 b (List.mem_range.mpr hb)
    intro he
    simp [hab, he] at h5
  · have h5 := List.all_eq_true.mp h3
    refine (List.map_congr_left (g := id) fun v hv => ?_).trans (List.map_id _)
    have h6 := h5 v hv
    cases v <;> first | rfl | simp at h6
-- methods
noncomputable def sm_chkF (k : Nat) (pcs : Nat) : Bool := (List.range pcs).all (fun pc => match (sm_MT k).2.2.2.2.2 pc with
    | some q => decide (decode (sm_MB k) pc = .ok q)
    | none => true)
theorem sm_bif {b : Bool} {α : Type} {x : Option α} {v : α} (h : (bif b then x else none) = some v) : b = true ∧ x = some v := by
  cases b with
  | true => exact ⟨rfl, h⟩
  | false => cases h
theorem sm_chkF_ok {k N : Nat} (hb : ∀ pc v, (sm_MT k).2.2.2.2.2 pc = some v → pc < N) (h : sm_chkF k N = true) : ∀ pc ins len, (sm_MT k).2.2.2.2.2 pc = some (ins, len) → decode (sm_MB k) pc = .ok (ins, len) := by
  intro pc ins len e
  have h1 := List.all_eq_true.mp h pc (List.mem_range.mpr (hb _ _ e))
  rw [e] at h1
  exact of_decide_eq_true h1
noncomputable def sm_chkM (k : Nat) : Bool :=
  plainName (sm_MN k).cls && decide ((sm_MN k).cls = sm_CN (sm_MT k).1) &&
  !decide ((sm_MN k).cls = "java/lang/invoke/MethodHandle") && !decide ((sm_MN k).cls = "java/lang/invoke/VarHandle") && decide ((parseMethodDescriptor (sm_MN k).desc).map (fun d => d.parameters.length) = some (sm_MT k).2.2.2.1) &&
  sm_hs ((sm_MP.getD k []).getD 1 (99, 0)) (.initialized (sm_MN k).cls) && Nat.ble (sm_MT k).2.1 60 && (!(sm_MT k).2.2.2.2.1 || decide ((sm_MN k).name = "<init>")) && Nat.ble (sm_MT k).2.2.1 3
theorem sm_code_T {k i : Nat} {y : MethodName} {b : ByteArray} {ml : Nat} {r : Option FieldType} (h : sm_tw k i = some (.code y b ml r)) : Jvm.Cond.code y b ml r ∈ sm_T0 := List.mem_filter.mpr ⟨sm_tw_mem h, rfl⟩
theorem sm_chkM_ok {k : Nat} (h3 : Jvm.Cond.code (sm_MN k) (sm_MB k) (sm_MT k).2.1 (sm_rt (sm_MT k).2.2.1) ∈ sm_T0) (h : sm_chkM k = true) (hf : ∀ pc ins len, (sm_MT k).2.2.2.2.2 pc = some (ins, len) → decode (sm_MB k) pc = .ok (ins, len)) : sm_okM sm_MT sm_MN sm_MB sm_CN sm_T0 k := by
  unfold sm_chkM at h
  simp only [Bool.and_eq_true, decide_eq_true_eq, Bool.not_eq_true', decide_eq_false_iff_not, Bool.or_eq_true] at h
  obtain ⟨⟨⟨⟨⟨⟨⟨⟨h1, h2⟩, h4⟩, h5⟩, h6⟩, h7⟩, h8⟩, h9⟩, h10⟩ := h
  refine ⟨h1, h2, h3, ⟨h4, h5, h6⟩, sm_hs_T h7, Nat.le_of_ble_eq_true h8, fun q => ?_, Nat.le_of_ble_eq_true h10, hf⟩
  rcases h9 with h9 | h9
  · rw [q] at h9; cases h9
  · exact h9
-- pool entries
def sm_km (k : Nat) : Bool := Nat.blt 0 k && Nat.blt k sm_nM
theorem sm_km_ok {k : Nat} (h : sm_km k = true) : 0 < k ∧ k < sm_nM := by
  unfold sm_km at h
  rw [Bool.and_eq_true] at h
  exact ⟨Nat.le_of_ble_eq_true h.1, Nat.le_of_ble_eq_true h.2⟩
def sm_p (pl : List (Nat × Nat)) (i : Nat) : Nat × Nat := pl.getD i (99, 0)
noncomputable def sm_chkL (o ix : Nat) (q : sm_L) (pl : List (Nat × Nat)) : Bool :=
  bif Nat.beq q.1 0 then (match sm_cl[q.2.1]? with
    | some r => Nat.blt q.2.2.1 r.2.2 && sm_hs (sm_p pl 0) (.fieldLink (sm_CN o) ix (r.2.1 q.2.2.1).1 (r.2.1 q.2.2.1).2.1 (r.2.1 q.2.2.1).2.2.1) && decide (sm_kind (sm_tyc q.2.1 q.2.2.1) = q.2.2.2 % 4) && decide ((r.2.1 q.2.2.1).2.2.2 = decide (4 ≤ q.2.2.2)) && (!decide (4 ≤ q.2.2.2 ∧ q.2.2.2 < 8) || decide ((r.2.1 q.2.2.1).1 = sm_CN o))
    | none => false)
  else bif Nat.beq q.1 1 then (match sm_cl[q.2.2.1]? with
    | some r => sm_hs (sm_p pl 0) (.selects r.1 (sm_MN q.2.1) (sm_MN q.2.1)) && sm_hs (sm_p pl 1) (.methodLink (sm_CN o) ix (sm_MN q.2.1)) && sm_hs (sm_p pl 2) (.instanceMethod (sm_MN q.2.1)) && sm_km q.2.1
    | none => false)
  else bif Nat.beq q.1 2 then sm_hs (sm_p pl 0) (.methodLink (sm_CN o) ix (sm_MN q.2.1)) && sm_hs (sm_p pl 1) (.static (sm_MN q.2.1)) && sm_km q.2.1
  else bif Nat.beq q.1 3 then sm_hs (sm_p pl 0) (.methodLink (sm_CN o) ix (sm_MN q.2.1)) && sm_hs (sm_p pl 1) (.instanceMethod (sm_MN q.2.1)) && decide ((sm_MN q.2.1).name = "<init>") && Nat.beq (sm_MT q.2.1).2.2.1 0 && sm_km q.2.1
  else bif Nat.beq q.1 4 then sm_hs (sm_p pl 0) (.methodLink (sm_CN o) ix objectInit) && sm_hs (sm_p pl 1) (.instanceMethod objectInit) && sm_hs (sm_p pl 2) (.code objectInit ⟨#[0xb1]⟩ 1 none)
  else bif Nat.beq q.1 5 then (match sm_cl[q.2.1]? with
    | some r => sm_hs (sm_p pl 0) (.classLink (sm_CN o) ix r.1) && sm_hs (sm_p pl 1) (.instantiable r.1 r.2.2) && sm_hs (sm_p pl 2) (.initialized r.1)
    | none => false)
  else bif Nat.beq q.1 6 then sm_hs (sm_p pl 0) (.constant (sm_CN o) ix (Int32.ofInt q.2.2.2))
  else bif Nat.beq q.1 7 then sm_hs (sm_p pl 0) (.constantLong (sm_CN o) ix (Int64.ofInt q.2.2.2))
  else bif Nat.beq q.1 8 then sm_SF.any (fun f => Nat.beq f.2.2.2 q.2.1 && sm_hs (sm_p pl 0) (.fieldLink (sm_CN o) ix f.1 f.2.1 f.2.2.1))
  else bif Nat.beq q.1 9 then sm_hs (sm_p pl 0) (.methodLink (sm_CN o) ix Lib.Math.max.name) && sm_hs (sm_p pl 1) (.static Lib.Math.max.name) && sm_hs (sm_p pl 2) (.initialized "java/lang/Math") && sm_hs (sm_p pl 3) (.code Lib.Math.max.name Lib.Math.max.code 2 (some .int))
  else bif Nat.beq q.1 10 then sm_hs (sm_p pl 0) (.methodLink (sm_CN o) ix Lib.Math.min.name) && sm_hs (sm_p pl 1) (.static Lib.Math.min.name) && sm_hs (sm_p pl 2) (.initialized "java/lang/Math") && sm_hs (sm_p pl 3) (.code Lib.Math.min.name Lib.Math.min.code 2 (some .int))
  else bif Nat.beq q.1 11 then sm_hs (sm_p pl 0) (.methodLink (sm_CN o) ix Lib.Math.abs.name) && sm_hs (sm_p pl 1) (.static Lib.Math.abs.name) && sm_hs (sm_p pl 2) (.initialized "java/lang/Math") && sm_hs (sm_p pl 3) (.code Lib.Math.abs.name Lib.Math.abs.code 1 (some .int))
  else bif Nat.beq q.1 12 then sm_hs (sm_p pl 0) (.methodLink (sm_CN o) ix arraycopyName) && sm_hs (sm_p pl 1) (.native arraycopyName) && sm_hs (sm_p pl 2) (.static arraycopyName) && sm_hs (sm_p pl 3) (.initialized "java/lang/System")
  else bif Nat.beq q.1 14 then sm_NL.any (fun f => decide (f.1 = sm_CN o) && Nat.beq f.2.1 ix && decide (f.2.2.1 = sm_MN q.2.1)) && sm_hs (sm_p pl 0) (.instanceMethod (sm_MN q.2.1)) && decide ((sm_MN q.2.1).name = "<init>") && Nat.beq (sm_MT q.2.1).2.2.1 0 && sm_km q.2.1
  else bif Nat.beq q.1 15 then sm_NL.any (fun f => decide (f.1 = sm_CN o) && Nat.beq f.2.1 ix && decide (f.2.2.1 = sm_MN q.2.1)) && sm_hs (sm_p pl 0) (.static (sm_MN q.2.1)) && sm_km q.2.1
  else false
theorem sm_chkL_L {o ix : Nat} {q : sm_L} {pl : List (Nat × Nat)} (h : sm_chkL o ix q pl = true) : sm_okL sm_cl sm_tyc sm_SF sm_Cq sm_T0 (sm_CN o) ix q := by
  unfold sm_chkL at h
  refine ⟨fun e => ?_, fun e => ?_, fun e => ?_, fun e => ?_, fun e => ?_, fun e => ?_, fun e => ?_, fun e => ?_, fun e => ?_, fun e => ?_⟩ <;> rw [e] at h <;> dsimp only [Nat.beq, cond_true, cond_false] at h
  · split at h
    · rename_i r hr
      simp only [Bool.and_eq_true, decide_eq_true_eq, Bool.or_eq_true, Bool.not_eq_true', decide_eq_false_iff_not] at h
      obtain ⟨⟨⟨⟨h1, h2⟩, h3⟩, h4⟩, h5⟩ := h
      exact ⟨r, hr, Nat.le_of_ble_eq_true h1, sm_hs_T h2, h3, h4, fun h9 => h5.elim (fun q => absurd h9 q) id⟩
    · cases h
  · simp only [Bool.and_eq_true] at h
    exact ⟨sm_hs_T h.1.1, sm_hs_T h.1.2, sm_hs_T h.2⟩
  · split at h
    · rename_i r hr
      simp only [Bool.and_eq_true] at h
      exact ⟨r, hr, sm_hs_T h.1.1, sm_hs_T h.1.2, sm_hs_T h.2⟩
    · cases h
  · exact sm_hs_T h
  · exact sm_hs_T h
  · obtain ⟨f, hf, hf2⟩ := List.any_eq_true.mp h
    rw [Bool.and_eq_true] at hf2
    refine ⟨f.1, f.2.1, f.2.2.1, ?_, sm_hs_T hf2.2⟩
    rw [← Nat.eq_of_beq_eq_true hf2.1]
    exact hf
  · simp only [Bool.and_eq_true] at h
    exact ⟨sm_hs_T h.1.1.1, sm_hs_T h.1.1.2, sm_hs_T h.1.2, sm_hs_T h.2⟩
  · simp only [Bool.and_eq_true] at h
    exact ⟨sm_hs_T h.1.1.1, sm_hs_T h.1.1.2, sm_hs_T h.1.2, sm_hs_T h.2⟩
  · simp only [Bool.and_eq_true] at h
    exact ⟨sm_hs_T h.1.1.1, sm_hs_T h.1.1.2, sm_hs_T h.1.2, sm_hs_T h.2⟩
  · simp only [Bool.and_eq_true] at h
    exact ⟨sm_hs_T h.1.1.1, sm_hs_T h.1.1.2, sm_hs_T h.1.2, sm_hs_T h.2⟩
theorem sm_chkL_K {o ix : Nat} {q : sm_L} {pl : List (Nat × Nat)} (hM : ∀ k, 0 < k ∧ k < sm_nM → sm_okM sm_MT sm_MN sm_MB sm_CN sm_T0 k) (h : sm_chkL o ix q pl = true) : sm_okK sm_MT sm_MN sm_MB sm_CN sm_cl sm_NL sm_T0 (sm_CN o) ix q := by
  unfold sm_chkL at h
  have hnl : ∀ {y : MethodName}, sm_NL.any (fun f => decide (f.1 = sm_CN o) && Nat.beq f.2.1 ix && decide (f.2.2.1 = y)) = true → ∃ host : String, (sm_CN o, ix, y, host) ∈ sm_NL := by
    intro y h9
    obtain ⟨f, hf, hf2⟩ := List.any_eq_true.mp h9
    simp only [Bool.and_eq_true, decide_eq_true_eq] at hf2
    obtain ⟨⟨a1, a2⟩, a3⟩ := hf2
    have a2 := Nat.eq_of_beq_eq_true a2
    exact ⟨f.2.2.2, by rw [← a1, ← a2, ← a3]; exact hf⟩
  refine ⟨fun e => ?_, fun e => ?_, fun e => ?_, fun e => ?_, fun e => ?_⟩ <;> rw [e] at h <;> dsimp only [Nat.beq, cond_true, cond_false] at h
  · simp only [Bool.and_eq_true] at h
    exact ⟨hnl h.1.1, sm_hs_T h.1.2, hM _ (sm_km_ok h.2)⟩
  · simp only [Bool.and_eq_true, decide_eq_true_eq] at h
    exact ⟨hnl h.1.1.1.1, sm_hs_T h.1.1.1.2, h.1.1.2, Nat.eq_of_beq_eq_true h.1.2, hM _ (sm_km_ok h.2)⟩
  · split at h
    · rename_i r hr
      simp only [Bool.and_eq_true] at h
      exact ⟨⟨r, hr, sm_hs_T h.1.1.1⟩, sm_hs_T h.1.1.2, sm_hs_T h.1.2, hM _ (sm_km_ok h.2)⟩
    · cases h
  · simp only [Bool.and_eq_true] at h
    exact ⟨sm_hs_T h.1.1, sm_hs_T h.1.2, hM _ (sm_km_ok h.2)⟩
  · simp only [Bool.and_eq_true, decide_eq_true_eq] at h
    exact ⟨sm_hs_T h.1.1.1.1, sm_hs_T h.1.1.1.2, h.1.1.2, Nat.eq_of_beq_eq_true h.1.2, hM _ (sm_km_ok h.2)⟩
theorem sm_inE {fL : Nat → Option sm_L} {fE : List (Nat × sm_L × List (Nat × Nat))} {N ix : Nat} {q : sm_L} (hN : ix < N) (hc : (List.range N).all (fun ix => match fL ix with
    | none => true
    | some q => fE.any (fun e => Nat.beq e.1 ix && decide (e.2.1 = q))) = true) (h : fL ix = some q) : ∃ pl, (ix, q, pl) ∈ fE := by
  have h1 := List.all_eq_true.mp hc ix (List.mem_range.mpr hN)
  rw [h] at h1
  obtain ⟨e, he, h2⟩ := List.any_eq_true.mp h1
  rw [Bool.and_eq_true, decide_eq_true_eq] at h2
  exact ⟨e.2.2, by rw [← Nat.eq_of_beq_eq_true h2.1, ← h2.2]; exact he⟩
