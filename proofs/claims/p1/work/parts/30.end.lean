/-! p1: the law, on every script. -/
section
def p1_pc (v : Nat) : Nat := [212, 235, 268, 311, 354, 387, 410, 423, 456, 489, 522, 545, 578, 622, 656, 690, 723, 746, 789, 822, 876, 899, 922, 965, 1008, 1031, 1054, 1077, 1090, 1103, 1116, 1129, 1152, 1195, 1218, 1251, 1294, 1367, 1401, 1464, 1497, 1520].getD v 1520
set_option maxRecDepth 100000 in
theorem p1_tab : (List.range 64).all (fun v => decide ((if (v : Int) < 0 ∨ 40 < (v : Int) then sm_tg 33 1487 else (match (#[179, 202, 235, 278, 321, 354, 377, 390, 423, 456, 489, 512, 545, 589, 623, 657, 690, 713, 756, 789, 843, 866, 889, 932, 975, 998, 1021, 1044, 1057, 1070, 1083, 1096, 1119, 1162, 1185, 1218, 1261, 1334, 1368, 1431, 1464] : Array Int)[((v : Int) - 0).toNat]? with
    | some o => sm_tg 33 o
    | none => none)) = some (p1_pc v))) = true := by decide +kernel
theorem p1_63 (x : Int32) : 0 ≤ (x &&& 63).toInt ∧ (x &&& 63).toInt ≤ 63 := by
  have h : ((x &&& 63).toInt) = ((x.toBitVec &&& 63#32).toNat : Int) := by
    have h1 : (x &&& 63).toInt = (x.toBitVec &&& 63#32).toInt := rfl
    rw [h1]
    apply BitVec.toInt_eq_toNat_of_lt
    have := Nat.and_le_right (n := x.toBitVec.toNat) (m := 63)
    rw [BitVec.toNat_and]
    show 2 * (x.toBitVec.toNat &&& 63) < 2 ^ 32
    omega
  rw [h, BitVec.toNat_and]
  have := Nat.and_le_right (n := x.toBitVec.toNat) (m := 63)
  constructor
  · omega
  · show ((x.toBitVec.toNat &&& 63 : Nat) : Int) ≤ 63
    omega
theorem p1_nF (xs : Nat → Int32) : ∀ q ∈ ([] : List (Nat × Int × Int)), q.1 < 8 ∧ sx_w q.2 (p1_rho xs q.1) := fun q hq => by cases hq
theorem p1_15 (xs : Nat → Int32) : p1_R 6 xs 100 (p1_pc 15) p1_lv [] cl_h := by
  have w := sx_w32 (xs 1)
  have w1 : sx_lo32 ≤ (xs 1).toInt := w.1
  have w2 : (xs 1).toInt ≤ sx_hi32 := w.2
  have one : ∀ {lo hi : Int}, p1_go p1_dd (fun _ _ _ _ => none) 100000 690 [(2, lo, hi)] = true → lo ≤ (xs 1).toInt → (xs 1).toInt ≤ hi → p1_R 6 xs 100 (p1_pc 15) p1_lv [] cl_h := by
    intro lo hi h h1 h2
    refine p1_fin p1_nohk h (fun q hq => ?_)
    have := List.mem_singleton.mp hq
    subst this
    exact ⟨Nat.le_of_ble_eq_true rfl, h1, h2⟩
  by_cases c0 : (xs 1).toInt ≤ -1
  · exact one p1_op15_0 w1 c0
  by_cases c1 : (xs 1).toInt ≤ 0
  · exact one p1_op15_1 (by omega) c1
  by_cases c2 : (xs 1).toInt ≤ 1
  · exact one p1_op15_2 (by omega) c2
  by_cases c3 : (xs 1).toInt ≤ 2
  · exact one p1_op15_3 (by omega) c3
  by_cases c4 : (xs 1).toInt ≤ 3
  · exact one p1_op15_4 (by omega) c4
  by_cases c5 : (xs 1).toInt ≤ 4
  · exact one p1_op15_5 (by omega) c5
  exact one p1_op15_6 (by omega) w2
theorem p1_op (xs : Nat → Int32) (v : Nat) (hv : v ≤ 63) : p1_R 6 xs 100 (p1_pc v) p1_lv [] cl_h := by
  match v, hv with
  | 0, _ => exact p1_fin p1_nohk p1_op0 (p1_nF xs)
  | 1, _ => exact p1_fin p1_nohk p1_op1 (p1_nF xs)
  | 2, _ => exact p1_fin p1_nohk p1_op2 (p1_nF xs)
  | 3, _ => exact p1_fin p1_nohk p1_op3 (p1_nF xs)
  | 4, _ => exact p1_fin p1_nohk p1_op4 (p1_nF xs)
  | 5, _ => exact p1_fin p1_nohk p1_op5 (p1_nF xs)
  | 6, _ => exact p1_fin p1_nohk p1_op6 (p1_nF xs)
  | 7, _ => exact p1_fin p1_nohk p1_op7 (p1_nF xs)
  | 8, _ => exact p1_fin p1_nohk p1_op8 (p1_nF xs)
  | 9, _ => exact p1_fin p1_nohk p1_op9 (p1_nF xs)
  | 10, _ => exact p1_fin p1_nohk p1_op10 (p1_nF xs)
  | 11, _ => exact p1_fin p1_nohk p1_op11 (p1_nF xs)
  | 12, _ => exact p1_fin p1_nohk p1_op12 (p1_nF xs)
  | 13, _ => exact p1_fin p1_nohk p1_op13 (p1_nF xs)
  | 14, _ => exact p1_fin p1_nohk p1_op14 (p1_nF xs)
  | 15, _ => exact p1_15 xs
  | 16, _ => exact p1_fin p1_nohk p1_op16 (p1_nF xs)
  | 17, _ => exact p1_fin p1_nohk p1_op17 (p1_nF xs)
  | 18, _ => exact p1_fin p1_nohk p1_op18 (p1_nF xs)
  | 19, _ => exact p1_fin p1_nohk p1_op19 (p1_nF xs)
  | 20, _ => exact p1_fin p1_nohk p1_op20 (p1_nF xs)
  | 21, _ => exact p1_fin p1_nohk p1_op21 (p1_nF xs)
  | 22, _ => exact p1_fin p1_nohk p1_op22 (p1_nF xs)
  | 23, _ => exact p1_fin (dr_hok xs) p1_op23 (p1_nF xs)
  | 24, _ => exact p1_fin p1_nohk p1_op24 (p1_nF xs)
  | 25, _ => exact p1_fin p1_nohk p1_op25 (p1_nF xs)
  | 26, _ => exact p1_fin p1_nohk p1_op26 (p1_nF xs)
  | 27, _ => exact p1_fin p1_nohk p1_op27 (p1_nF xs)
  | 28, _ => exact p1_fin p1_nohk p1_op28 (p1_nF xs)
  | 29, _ => exact p1_fin p1_nohk p1_op29 (p1_nF xs)
  | 30, _ => exact p1_fin p1_nohk p1_op30 (p1_nF xs)
  | 31, _ => exact p1_fin p1_nohk p1_op31 (p1_nF xs)
  | 32, _ => exact p1_fin p1_nohk p1_op32 (p1_nF xs)
  | 33, _ => exact p1_fin p1_nohk p1_op33 (p1_nF xs)
  | 34, _ => exact p1_fin p1_nohk p1_op34 (p1_nF xs)
  | 35, _ => exact p1_fin p1_nohk p1_op35 (p1_nF xs)
  | 36, _ => exact p1_fin p1_nohk p1_op36 (p1_nF xs)
  | 37, _ => exact p1_fin p1_nohk p1_op37 (p1_nF xs)
  | 38, _ => exact p1_fin p1_nohk p1_op38 (p1_nF xs)
  | 39, _ => exact p1_fin p1_nohk p1_op39 (p1_nF xs)
  | 40, _ => exact p1_fin p1_nohk p1_op40 (p1_nF xs)
  | v + 41, _ =>
    have : p1_pc (v + 41) = 1520 := by
      unfold p1_pc
      rw [List.getD_eq_getElem?_getD]
      match v with
      | 0 => rfl
      | v + 1 => rw [List.getElem?_eq_none (by show 42 ≤ v + 1 + 41; omega)]; rfl
    rw [this]
    exact p1_fin p1_nohk p1_op41 (p1_nF xs)
theorem law_runs (L : Nat) (hL : L ≤ 6) (xs : Nat → Int32) : ∃ (f d : Nat) (hf : sm_H), sm_run sm_MT sm_LK (sm_RO L xs) sm_NV sm_cq f d 0 0 [(0, .ref 0)] [] [] = some (some (.int 1), hf) ∧ d ≤ room_1.frames ∧ d * 100 ≤ room_1.locals ∧ hf.length ≤ room_1.cells ∧ sm_sz hf ≤ room_1.slots := by
  have main : p1_R L xs 100 18 p1_lv [] cl_h := by
    by_cases h : L < 6
    · refine p1_short h ?_
      rw [cl_h_eq]
      exact cl_small _
    · have h6 : L = 6 := by omega
      obtain ⟨b1, b2⟩ := p1_63 (xs 0)
      have hv : (xs 0 &&& 63).toInt = (((xs 0 &&& 63).toInt.toNat : Nat) : Int) := (Int.toNat_of_nonneg b1).symm
      have hle : (xs 0 &&& 63).toInt.toNat ≤ 63 := by omega
      have ht := of_decide_eq_true (List.all_eq_true.mp p1_tab (xs 0 &&& 63).toInt.toNat (List.mem_range.mpr (by omega)))
      refine p1_long h6 _ _ hv ht ?_
      subst h6
      exact p1_op xs _ hle
  obtain ⟨F, hf, e, e1, e2⟩ := p1_pre main
  exact ⟨F, 100, hf, e, Nat.le_of_ble_eq_true rfl, Nat.le_of_ble_eq_true rfl, e1, e2⟩
end
set_option maxHeartbeats 4000000 in
set_option maxRecDepth 100000 in
theorem whole_start {p : Program} {e : Env} {s : State} {m : MethodId} {below : List Frame} {meth : Method} {c : Code} (l : Launch) (hflags : l.flags = flags0) {b L : Nat} {xs : Nat → Int32} (hL : L ≤ 6) (C0 : lw_At p s m meth c b L xs) : W p l e room_1 s m #[Value.ref b] below meth c s.heap [] 0 0 (lw_Z below #[Value.ref b] s) (entryFrame m ([Value.ref b] : List Value).toArray 4) := by
  obtain ⟨hx, hb, hr, hml, hown, hts, hX, hbl, hlocks, hgv⟩ := id C0
  obtain ⟨f, d, hf, hrun, hd1, hd2, hf1, hf2⟩ := law_runs L hL xs
  obtain ⟨D, cA, st, hb0, hE⟩ := law_env hts hX hbl hgv
  have hT0 : ∀ w ∈ sm_T0, w.before #[Value.ref b] s = true := fun w hw => hts w (List.mem_filter.mp hw).1
  have hl := lv_entry ([.ref b]) (n := 4) (Nat.le_of_ble_eq_true rfl)
  rw [lg_entry_eq]
  generalize (lg_sl ([.ref b]) ++ List.replicate (4 - (lg_sl ([.ref b])).length) Slot.unset).toArray = ls at hl ⊢
  have hl : lv_has ls 4 (sm_lv (sm_ad st s.heap.size) [(0, .ref 0)]) := by
    have h9 : sm_lv (sm_ad st s.heap.size) [(0, .ref 0)] = [(0, .ref b)] := by rw [← hb0]; rfl
    rw [h9]
    exact hl
  have hP : va_P D sm_cl (sm_w (sm_ad st s.heap.size) cA s.heap.size []) s.heap := fun k q h => by simp [sm_w] at h
  refine sm_adq (cq := sm_cq) (tyc := sm_tyc) (fun o ix q h => (fJ_all o ix q h).1) (fun o ix q h => (fJ_all o ix q h).2) sm_okC_all sm_hcq sm_har sm_T0_good f d 0 0 _ [] [] (some (.int 1)) hf hrun p e room_1 s m _ below meth c s.heap [] 0 0 _ 0 0 ls hx hb hml hown hT0 (fun h => by cases h) law_dec hE (law_nl hts) rfl hd1 hd2 (by rw [Nat.zero_add]; exact hf1) (by rw [Nat.zero_add]; exact hf2) hl hP va_S.rf rfl rfl ?_
  intro ins pcR ls' H' locs' cells' slots' hdg hret hP' hS' hc1 hc2
  rcases sm_ret_eq hret with ⟨v, rfl, -, h9, hk⟩ | ⟨v, rfl, -, h9, hk⟩ | ⟨rfl, -, h9, hk⟩
  · cases h9
    refine va_forget hS'.2.2 ?_
    refine W.widen (k := 600000) (n := 7302250) (by have : hf.length ≤ 600000 := hf1; omega) (by have : sm_sz hf ≤ 7302250 := hf2; omega) ?_
    exact lw_ret hx hb hr hlocks hdg
  · cases h9
  · cases h9
set_option maxHeartbeats 4000000 in
theorem lw_walk (l : Launch) (hflags : l.flags = flags0) (b : Addr) (xs : List Int32) : MetFree l x (headSpec (Jvm.Cond.code x code maxLocals ret :: tables_1) room_1) (lw_P b xs) (fun _ _ _ _ _ => True) lw_Q := by
  refine MetFree.of_bodyS (code := code) (maxLocals := maxLocals) (ret := ret) (by decide) ?_ ?_
  · intro args s m h hn
    obtain ⟨meth, c, h1, h2, h3, h4, h5, h6, -, -⟩ := Cond.code_spec hn (atoms_spec (ws := Jvm.Cond.code x code maxLocals ret :: tables_1) h _ List.mem_cons_self)
    exact ⟨meth, c, h1, h2, h3, h4, h5, h6⟩
  · intro p e s m args below meth c s₁ B hml0 hP _
    obtain ⟨rfl, hx, hbd, hgv⟩ := hP
    obtain ⟨scr, harrAt, hlist, hof, hsmall⟩ := hx
    obtain ⟨hcb, hkn, -, -⟩ := State.arrayAt?_spec harrAt
    have hown : s.vm.findClass R_law = some m.cls := findClass_of_methodNamed B.named
    have hts0 : ∀ c ∈ (Jvm.Cond.code x code maxLocals ret :: tables_1), c.before #[Value.ref b] s = true := atoms_spec (ws := Jvm.Cond.code x code maxLocals ret :: tables_1) B.pre
    have hts : ∀ w ∈ lw_tbl, w.before #[Value.ref b] s = true := k2_hts_sels lw_privs (fun w hw => hts0 w (List.mem_cons_of_mem _ hw)) lw_privs_ok
    have hml : c.maxLocals = 4 := B.maxLocals_eq (hts0 _ List.mem_cons_self)
    have X₀ : Stand p l e room_1 s m #[Value.ref b] below meth c s₁ [] 0 0 := Stand.of_body B
    have hh0 : s₁.heap = s.heap := by rw [B.state]; rfl
    have hsz : scr.slots.size = xs.length := by rw [← Array.length_toList, hlist, List.length_map]
    have hval : ∀ j : Nat, j < xs.length → scr.slots[j]? = some (.int (xs.getD j 0)) := fun j hj => by
      rw [← Array.getElem?_toList, hlist]
      simp [hj]
    have hbl : b < s.heap.size := (Array.getElem?_eq_some_iff.mp hcb).1
    have hX : va_X b xs.length (fun j => xs.getD j 0) s s.heap := ⟨scr, hcb, hof, hkn, hsz, hval⟩
    have K : W p l e room_1 s m #[Value.ref b] below meth c s₁.heap [] 0 0 (lw_Z below #[Value.ref b] s) (entryFrame m ([Value.ref b] : List Value).toArray 4) := by
      rw [hh0]
      exact whole_start l hflags hbd ⟨B.exec, B.bytes, B.returns, hml, hown, hts, hX, hbl, B.notSynchronized, hgv⟩
    obtain ⟨t, a1, o, b1, b2, b3⟩ := K s₁ rfl X₀
    exact ⟨t, o, a1, b1, b2, b3⟩
theorem lw_pre_spec {args : Array Value} {s : State} (h : (Jvm.Cond.and given_1 narrow_1).before args s = true) (hr : rest_1_c.before args s = true) : ∃ (b : Addr) (xs : List Int32), lw_P b xs args s := by
  have hs := flat_of_before _ h
  have hq := flat_of_before _ hr
  have hc : (Cond.count 1).before args s = true := hs _ (by decide +kernel)
  have harr : (Cond.arrayOf (.arg 0) .int).before args s = true := hs _ (by decide +kernel)
  have hle : (Cond.le (.length (.arg 0)) (.int 6)).before args s = true := hs _ (by decide +kernel)
  have hlen : (Cond.isInt (.length (.arg 0))).before args s = true := hq _ (by decide +kernel)
  have hall : (Cond.all (.arg 0) (.isInt (.elem (.arg 0) (.index 0)))).before args s = true := hq _ (by decide +kernel)
  obtain ⟨b, xs, hb, hx⟩ := State.ints_of_pre rfl harr hlen hall
  have hsm : xs.length < 2 ^ 31 := hx.choose_spec.2.2.2
  have hev : (Term.length (.arg 0)).eval args s none [] s = some (.int xs.length.toInt32) := hx.length_eval hb
  have hv := Cond.le_ints hev (show (Term.int 6).eval args s none [] s = some (.int 6) from rfl)
  have hd : xs.length.toInt32 ≤ 6 := by
    simpa [Cond.before, Cond.holds, hv] using hle
  have hN : xs.length ≤ 6 := (Int32.ofNat_le_ofNat hsm (by decide)).mp (show Int32.ofNat xs.length ≤ Int32.ofNat 6 from hd)
  exact ⟨b, xs, Cond.one_arg hc (show args[0]? = some (.ref b) from hb), hx, hN, h⟩
theorem lw_comes (l : Launch) (hflags : l.flags = flags0) : Comes l x (Jvm.Cond.code x code maxLocals ret :: tables_1) room_1 (fun tb e args s => Calls_1 tb e args s ∧ rest_1 tb e args s ∧ Pre_1 tb e args s)
    (fun _ _ args s o t => lw_Q args s o t) := by
  intro p e ha hc hk s m args below hf hfit hheap happ hpre
  obtain ⟨b, xs, hP⟩ := lw_pre_spec hpre.2.2 hpre.2.1
  obtain ⟨k, o, h1, h2, h3, hQ⟩ := lw_walk l hflags b xs p e ha hc hk s m args below hf ((Spec.applies_iff_loose hf).mp happ).1 hP trivial
  exact ⟨k, o, h1, h2, h3, hQ⟩
theorem lw_frame {s t : State} {o : Outcome} {args : Array Value} (h : Framed s o t [] 600000 7302250) :
    Framed s o t (fieldLocs frame_1_writes args s ++ arrayLocs frame_1_arrays args s ++ staticLocs frame_1_statics s) 600000 7302250 := h
theorem lw_limb (L : Cond) (hL : ∀ (args : Array Value) (s t : State), L.after args s (.returned (some (.int 1))) t = true) :
    ArmFor flags0 classFile x code maxLocals ret World_1 tables_1 room_1 Calls_1 rest_1 Pre_1
      (fun tb e a s o t => postC L tb e a s o t ∧ Framed s o t (fieldLocs frame_1_writes a s ++ arrayLocs frame_1_arrays a s ++ staticLocs frame_1_statics s) 600000 7302250) := by
  intro l hflags _ _ p e ha hc hk s m args below hf hfit hheap happ hpre
  obtain ⟨k, o, h1, h2, h3, rfl, hF⟩ := lw_comes l hflags p e ha hc hk s m args below hf hfit hheap happ hpre
  exact ⟨k, _, h1, h2, h3, hL args s _, lw_frame hF⟩
theorem i_vc : Claimed_1_1 ∧ Claimed_1_2 := ⟨lw_limb limb_1_1 (fun args s t => by simp [limb_1_1, Cond.after, Cond.holds, Cond.value]), lw_limb limb_1_2 (fun args s t => Cond.after_iff.mpr (by
  first | (rw [show limb_1_2 = Cond.eq .result (.int 1) from rfl, Cond.eq_ints (x := 1) (y := 1) rfl rfl]; simp; done) | (simp [limb_1_2, Cond.value, Term.eval]; done)))⟩
