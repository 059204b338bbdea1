/-! The law: from its first instruction to its loop, and the loop. -/
section
theorem sm_ints_ro {RO : List (Nat × (Nat → Int32))} {h : sm_H} {a t : Nat} {x : Nat × (Nat → Int32)} (e : sm_ints [] h a t = some x) : sm_ints RO h a t = some x := by
  unfold sm_ints at e ⊢
  by_cases h8 : a < 8
  · rw [if_pos h8] at e
    split at e
    · cases e
    · cases e
  · rw [if_neg h8] at e ⊢
    exact e
theorem sm_step_ro {lk : Nat → Option sm_L} {RO : List (Nat × (Nat → Int32))} {NV : Nat → List Value} {cq : Nat} {ini : Bool} {nL d pc : Nat} {ins : Instr} {lv : sm_V} {s : List Value} {h : sm_H} {o : sm_S} (e : sm_step lk [] NV cq ini nL d ins pc lv s h = some o) : sm_step lk RO NV cq ini nL d ins pc lv s h = some o := by
  cases ins
  case iaload =>
    have e9 := sm_ai_eq e
    clear e
    obtain ⟨a, i, r, rfl, e⟩ := e9
    show (match sm_ints RO h a 0 with
      | some (n, f) => if sm_in i n = true then some (pc + 1, lv, .int (f i.toNatClampNeg) :: r, h) else none
      | none => none) = some o
    cases e1 : sm_ints [] h a 0 with
    | none => rw [e1] at e; cases e
    | some x =>
      rw [e1] at e
      rw [sm_ints_ro e1]
      exact e
  case arraylength =>
    have e9 := sm_r1_eq e
    clear e
    obtain ⟨a, r, rfl, e⟩ := e9
    show (match sm_ints RO h a 0 with
      | some (n, _) => some (pc + 1, lv, .int (Int32.ofNat n) :: r, h)
      | none => none) = some o
    cases e1 : sm_ints [] h a 0 with
    | none => rw [e1] at e; cases e
    | some x =>
      rw [e1] at e
      rw [sm_ints_ro e1]
      exact e
  all_goals exact e
theorem sm_run_ro {MT : Nat → sm_M} {LK : Nat → Nat → Option sm_L} {RO : List (Nat × (Nat → Int32))} {NV : Nat → List Value} {cq : Nat} : ∀ (f d j pc : Nat) (lv : sm_V) (s : List Value) (h : sm_H) (r : Option Value × sm_H), sm_run MT LK [] NV cq f d j pc lv s h = some r → sm_run MT LK RO NV cq f d j pc lv s h = some r := by
  intro f
  induction f with
  | zero => intro d j pc lv s h r e; cases e
  | succ f ih =>
    intro d j pc lv s h r e
    rw [sm_run_s] at e
    rw [sm_run_s]
    split at e
    · cases e
    · split at e
      · rename_i hl
        rw [if_pos hl]
        split at e
        · exact e
        · split at e
          · cases d with
            | zero => cases e
            | succ d =>
              dsimp only at e ⊢
              split at e
              · rename_i hc
                rw [if_pos hc]
                split at e
                · rename_i r1 h1 e1
                  rw [ih _ _ _ _ _ _ _ e1]
                  exact ih _ _ _ _ _ _ _ e
                · cases e
              · cases e
          · split at e
            · rename_i o e1
              rw [sm_step_ro e1]
              exact ih _ _ _ _ _ _ _ e
            · cases e
      · cases e
/-- it runs to an answer 1 and a heap that is small enough -/
def la_R (L : Nat) (xs : Nat → Int32) (d pc : Nat) (lv : sm_V) (s : List Value) (h : sm_H) : Prop := ∃ F hf, sm_run sm_MT sm_LK (sm_RO L xs) sm_NV sm_cq F d 0 pc lv s h = some (some (.int 1), hf) ∧ hf.length ≤ 600000 ∧ sm_sz hf ≤ 7302250
variable {L : Nat} {xs : Nat → Int32} {d pc : Nat} {lv : sm_V} {s : List Value} {h : sm_H}
theorem la_st {ins : Instr} {len : Nat} {o : sm_S} (hf : (sm_MT 0).2.2.2.2.2 pc = some (ins, len)) (hl : len = sm_len ins len) (hr : sm_ret (sm_MT 0).2.2.1 ins s = none) (hc : sm_call (sm_LK (sm_MT 0).1) (fun k => (sm_MT k).2.2.2.1) ins s h = none) (hs : sm_step (sm_LK (sm_MT 0).1) (sm_RO L xs) sm_NV sm_cq (sm_MT 0).2.2.2.2.1 (sm_MT 0).2.1 d ins pc lv s h = some o) (k : la_R L xs d o.1 o.2.1 o.2.2.1 o.2.2.2) : la_R L xs d pc lv s h := by
  obtain ⟨F, hf9, e, e1⟩ := k
  refine ⟨F + 1, hf9, ?_, e1⟩
  rw [sm_run_f hf hl, hr, hc, hs]
  exact e
theorem la_ca {ins : Instr} {len k : Nat} {as rest : List Value} {h1 : sm_H} {F1 : Nat} (hf : (sm_MT 0).2.2.2.2.2 pc = some (ins, len)) (hl : len = sm_len ins len) (hr : sm_ret (sm_MT 0).2.2.1 ins s = none) (hc : sm_call (sm_LK (sm_MT 0).1) (fun k => (sm_MT k).2.2.2.1) ins s h = some (k, as, rest)) (hq : sm_sum rest ≤ 8 ∧ (lg_sl as).length ≤ (sm_MT k).2.1) (hrun : sm_run sm_MT sm_LK (sm_RO L xs) sm_NV sm_cq F1 d k 0 (lv_args 0 as) [] h = some (none, h1)) (kk : la_R L xs (d + 1) (pc + 3) lv rest h1) : la_R L xs (d + 1) pc lv s h := by
  obtain ⟨F, hf9, e, e1⟩ := kk
  refine ⟨max F F1 + 1, hf9, ?_, e1⟩
  rw [sm_run_f hf hl, hr, hc]
  show (if sm_sum rest ≤ 8 ∧ (lg_sl as).length ≤ (sm_MT k).2.1 then _ else none) = _
  rw [if_pos hq, sm_fuel hrun (Nat.le_max_right _ _)]
  exact sm_fuel e (Nat.le_max_left _ _)
def la_lv (i : Int32) : sm_V := [(3, .int i), (2, .ref 53), (1, .ref 8), (0, .ref 0)]
set_option maxRecDepth 100000 in
theorem la_pre (k : la_R L xs 100 18 (la_lv 0) [] cl_h) : la_R L xs 100 0 [(0, .ref 0)] [] [] := by
  refine la_st (pc := 0) (ins := .new 7) (len := 3) rfl rfl rfl rfl rfl ?_
  refine la_st (pc := 3) (ins := .dup) (len := 1) rfl rfl rfl rfl rfl ?_
  refine la_ca (d := 99) (pc := 4) (ins := .invokespecial 9) (len := 3) (k := 1) (as := [.ref 8]) (rest := [.ref 8]) (h1 := cl_gt cl_r1) (F1 := 5000) rfl rfl rfl rfl ⟨by decide, Nat.le_of_ble_eq_true rfl⟩ (sm_run_ro _ _ _ _ _ _ _ _ (cl_is_eq cl_r1_is)) ?_
  refine la_st (pc := 7) (ins := .astore_n 1) (len := 1) rfl rfl rfl rfl (o := (8, [(1, .ref 8), (0, .ref 0)], [], cl_gt cl_r1)) rfl ?_
  refine la_st (pc := 8) (ins := .new 10) (len := 3) rfl rfl rfl rfl (o := (11, [(1, .ref 8), (0, .ref 0)], [.ref (8 + (cl_gt cl_r1).length)], cl_gt cl_r1 ++ [.inr (10, sm_NV 10)])) rfl ?_
  rw [cl_r1_len]
  refine la_st (pc := 11) (ins := .dup) (len := 1) rfl rfl rfl rfl (o := (12, [(1, .ref 8), (0, .ref 0)], [.ref 53, .ref 53], cl_gt cl_r1 ++ [.inr (10, sm_NV 10)])) rfl ?_
  refine la_ca (d := 99) (pc := 12) (ins := .invokespecial 12) (len := 3) (k := 152) (as := [.ref 53]) (rest := [.ref 53]) (h1 := cl_gt cl_r2) (F1 := 5000) rfl rfl rfl rfl ⟨by decide, Nat.le_of_ble_eq_true rfl⟩ (sm_run_ro _ _ _ _ _ _ _ _ (cl_is_eq cl_r2_is)) ?_
  refine la_st (pc := 15) (ins := .astore_n 2) (len := 1) rfl rfl rfl rfl (o := (16, [(2, .ref 53), (1, .ref 8), (0, .ref 0)], [], cl_gt cl_r2)) rfl ?_
  refine la_st (pc := 16) (ins := .iconst 0) (len := 1) rfl rfl rfl rfl (o := (17, [(2, .ref 53), (1, .ref 8), (0, .ref 0)], [.int (Int32.ofInt 0)], cl_gt cl_r2)) rfl ?_
  refine la_st (pc := 17) (ins := .istore_n 3) (len := 1) rfl rfl rfl rfl (o := (18, la_lv 0, [], cl_gt cl_r2)) rfl ?_
  exact k
theorem sm_sz_mapIdx : ∀ (l : List sx_H) (g : Nat → sx_H → sm_C), (∀ k h, sm_cz (g k h) = sx_sz h) → sm_sz (l.mapIdx g) = (l.map sx_sz).sum := by
  intro l
  induction l with
  | nil => intro g _; rfl
  | cons a l ih =>
    intro g hg
    rw [List.mapIdx_cons, List.map_cons, List.sum_cons]
    show sm_cz (g 0 a) + sm_sz (l.mapIdx fun i => g (i + 1)) = _
    rw [hg, ih _ (fun k h => hg _ _)]
theorem sx_hc_sz (f : Nat → Int) (g : Nat → Option Nat) (h : sx_H) : sm_cz (sx_hc f g h) = sx_sz h := by
  unfold sx_hc sx_sz
  by_cases h0 : h.1 = 0
  · rw [if_pos h0, if_pos h0]
    split
    · rfl
    · split <;> rfl
  · rw [if_neg h0, if_neg h0]
    show (h.2.2.2.2.mapIdx _).length = _
    rw [List.length_mapIdx]
theorem cl_sum : (cl_lay.map sx_sz).sum ≤ 7302250 := by decide +kernel
theorem cl_small (M : Nat → Nat → Int) : (sx_HH cl_lay cl_rf M).length ≤ 600000 ∧ sm_sz (sx_HH cl_lay cl_rf M) ≤ 7302250 := by
  refine ⟨?_, ?_⟩
  · unfold sx_HH
    rw [List.length_mapIdx, cl_lay_len]
    decide
  · unfold sx_HH
    rw [sm_sz_mapIdx _ _ (fun k h => sx_hc_sz _ _ h)]
    exact cl_sum

variable {i : Nat} {M M' : Nat → Nat → Int} {ρ : Nat → Int} {t : sx_S}
/-- two fields that hold the same -/
abbrev la_P : Type := (Nat × Nat) × (Nat × Nat) × (Int × Int)
noncomputable def la_ad (t : sx_S) (k p : Nat) (v : sx_A) : sx_S := (t.1, t.2.1, t.2.2.1, sx_ts 7 t.2.2.2 k ((sx_tg 7 t.2.2.2 k).1, ((0, Int.ofNat p), v) :: (sx_tg 7 t.2.2.2 k).2))
noncomputable def la_cp (l : List la_P) : sx_S → sx_S := l.rec (fun t => t) (fun q _ ih t => ih (la_ad (sx_frl t q.1.1 (0, Int.ofNat q.1.2) q.2.2).2 q.2.1.1 q.2.1.2 (t.1, 0)))
def la_eq (l : List la_P) (M : Nat → Nat → Int) : Prop := ∀ q ∈ l, sx_w q.2.2 (M q.1.1 q.1.2) ∧ M q.1.1 q.1.2 = M q.2.1.1 q.2.1.2
def la_gd (l : List la_P) : Bool := l.all fun q => sx_an (sx_an (Nat.blt q.1.1 128) (Nat.blt q.2.1.1 128)) (sx_in q.2.2 sx_r64)
noncomputable def la_keq (l : List la_P) (t : sx_S) : Bool := l.all fun q => sx_an (sx_an (Nat.blt q.1.1 128) (Nat.blt q.2.1.1 128)) (match jv t q.1, jv t q.2.1 with
  | some v, some w => sx_an (sx_ae v w) (sx_in (sx_iv t v) q.2.2)
  | _, _ => false)
section
variable {ly : Nat → Option sx_H} {ib : sx_A} {M0 : Nat → Nat → Int}
theorem la_ad_ok {k p : Nat} {v : sx_A} (hs : sx_sat ly ib xs L M0 ρ M t) (hk : k < 128) (hv : v.1 < t.1) (h : M k p = sx_val ρ v) : sx_sat ly ib xs L M0 ρ M (la_ad t k p v) := by
  refine ⟨hs.1, hs.2.1, hs.2.2.1, hs.2.2.2.1, hs.2.2.2.2.1, hs.2.2.2.2.2.1, fun k' hk' => ?_, hs.2.2.2.2.2.2.2⟩
  show sx_leaf ρ t.1 (M0 k') (M k') (sx_tg 7 (sx_ts 7 t.2.2.2 k _) k')
  rw [sx_tg_ts 7 _ _ _ _ hk hk']
  split
  · rename_i e
    subst e
    obtain ⟨l1, g0, l2, l3, l4⟩ := hs.2.2.2.2.2.2.1 k' hk'
    have i0 : sx_val ρ (0, Int.ofNat p) = (p : Int) := sx_v0 hs _
    refine ⟨fun e he => ?_, g0, l2, ?_, l4⟩
    · rcases List.mem_cons.mp he with rfl | he
      · exact ⟨sx_0lt hs, hv, by rw [i0]; omega⟩
      · exact l1 e he
    · funext j
      show M k' j = sx_fup (sx_app ρ (sx_tg 7 t.2.2.2 k').2 g0) (sx_val ρ (0, Int.ofNat p)).toNat (sx_val ρ v) j
      unfold sx_fup
      rw [i0]
      by_cases hj : j = ((p : Nat) : Int).toNat
      · rw [if_pos hj, hj, ← h]
        rfl
      · rw [if_neg hj, ← l3]
  · exact hs.2.2.2.2.2.2.1 k' hk'
theorem la_cp_ok : ∀ {l : List la_P} {ρ : Nat → Int} {t : sx_S}, sx_sat ly ib xs L M0 ρ M t → la_gd l = true → la_eq l M → ∃ ρ', sx_ext t.1 ρ ρ' ∧ t.1 ≤ (la_cp l t).1 ∧ sx_sat ly ib xs L M0 ρ' M (la_cp l t) := by
  intro l
  induction l with
  | nil => intro ρ t hs _ _; exact ⟨ρ, sx_ext_rfl, Nat.le_refl _, hs⟩
  | cons q l ih =>
    intro ρ t hs hg he
    obtain ⟨e1, e2⟩ := he q List.mem_cons_self
    obtain ⟨g1, g2⟩ := sx_an_iff.mp (List.all_eq_true.mp hg q List.mem_cons_self)
    obtain ⟨g1, g3⟩ := sx_an_iff.mp g1
    have g1 := sx_blt g1
    have g3 := sx_blt g3
    have g2 := sx_in_iff.mp g2
    have i0 : sx_val ρ (0, Int.ofNat q.1.2) = (q.1.2 : Int) := sx_v0 hs _
    have i1 : (sx_val ρ (0, Int.ofNat q.1.2)).toNat = q.1.2 := by rw [i0]; rfl
    have st := sx_frl_ok hs g1 (i := (0, Int.ofNat q.1.2)) (sx_0lt hs) (by rw [i0]; omega) (r := q.2.2) (by rw [i1]; exact e1) (by rw [i1]; exact ⟨Int.le_trans g2.1 e1.1, Int.le_trans e1.2 g2.2⟩)
    rw [i1] at st
    have s2 := la_ad_ok (k := q.2.1.1) (p := q.2.1.2) (v := (t.1, 0)) st g3 (Nat.lt_succ_self _) (by rw [sx_nu_at, e2])
    obtain ⟨ρ', a1, a2, a3⟩ := ih s2 (List.all_eq_true.mpr fun w hw => List.all_eq_true.mp hg w (List.mem_cons_of_mem _ hw)) (fun w hw => he w (List.mem_cons_of_mem _ hw))
    exact ⟨ρ', sx_ext_tr sx_nu_ext a1 (Nat.le_succ _), Nat.le_trans (Nat.le_succ _) a2, a3⟩
theorem la_keq_ok {l : List la_P} (hs : sx_sat ly ib xs L M0 ρ M t) (h : la_keq l t = true) : la_eq l M := by
  intro q hq
  obtain ⟨h1, h2⟩ := sx_an_iff.mp (List.all_eq_true.mp h q hq)
  obtain ⟨h1, h3⟩ := sx_an_iff.mp h1
  cases e1 : jv t q.1 with
  | none => rw [e1] at h2; cases h2
  | some v =>
    cases e2 : jv t q.2.1 with
    | none => rw [e1, e2] at h2; cases h2
    | some w =>
      rw [e1, e2] at h2
      obtain ⟨h4, h5⟩ := sx_an_iff.mp h2
      have h4 := sx_ae_iff.mp h4
      have h5 := sx_in_iff.mp h5
      have hi := sx_iv_ok hs v
      rw [(jv_ok hs (sx_blt h1) e1).1, (jv_ok hs (sx_blt h3) e2).1, ← h4]
      exact ⟨⟨Int.le_trans h5.1 hi.1, Int.le_trans hi.2 h5.2⟩, rfl⟩
end
-- the body of the loop
def la_rho (xs : Nat → Int32) (L i : Nat) (s : Nat) : Int := if s = 0 then 0 else if s ≤ 6 then (xs (i + (s - 1))).toInt else if s = 7 then (L : Int) else if s = 8 then (i : Int) else 0
noncomputable def la_t0 : sx_S := (9, [(8, 0, 3066), (7, 6, 3072), (1, sx_r32), (2, sx_r32), (3, sx_r32), (4, sx_r32), (5, sx_r32), (6, sx_r32)], ([], []), sx_t0 7 (0, []))
theorem la_rho32 (hL : L ≤ 3072) (hi : i + 6 ≤ L) (s : Nat) : sx_w sx_r32 (la_rho xs L i s) := by
  unfold la_rho
  split
  · exact sx_w0
  · split
    · exact sx_w32 _
    · split
      · rw [sx_r32_iff]; omega
      · split
        · rw [sx_r32_iff]; omega
        · exact sx_w0
theorem la_sat0 (hL : L ≤ 3072) (hi : i + 6 ≤ L) (hm : sx_mok cl_ly M) : sx_sat cl_ly (8, 0) xs L M (la_rho xs L i) M la_t0 := by
  refine ⟨Nat.le_refl _, rfl, fun s => sx_32_64 (la_rho32 hL hi s), fun q hq => ?_, ⟨fun q hq => (by cases hq), fun q hq => (by cases hq)⟩, hm, fun k _ => ?_, rfl, by omega, Nat.le_refl _, fun c hc _ => ?_⟩
  · have h32 := la_rho32 (xs := xs) hL hi q.1
    simp only [la_t0, List.mem_cons, List.not_mem_nil, or_false] at hq
    rcases hq with rfl | rfl | rfl | rfl | rfl | rfl | rfl | rfl
    · refine ⟨Nat.le_of_ble_eq_true rfl, ?_, ?_⟩
      · show (0 : Int) ≤ (i : Int); omega
      · show (i : Int) ≤ 3066; omega
    · refine ⟨Nat.le_of_ble_eq_true rfl, ?_, ?_⟩
      · show (6 : Int) ≤ (L : Int); omega
      · show (L : Int) ≤ 3072; omega
    all_goals exact ⟨Nat.le_of_ble_eq_true rfl, h32⟩
  · show sx_leaf _ _ (M k) (M k) (sx_tg 7 (sx_t0 7 (0, [])) k)
    rw [sx_tg_t0]
    exact ⟨(fun e he => by cases he), M k, (fun _ => rfl), rfl, fun _ => rfl⟩
  · have hv : sx_val (la_rho xs L i) (8, 0) = (i : Int) := Int.add_zero _
    rw [hv]
    refine ⟨by omega, ?_⟩
    have : ((i : Int) + (c : Int)).toNat = i + c := by omega
    rw [this]
    unfold la_rho
    rw [if_neg (by omega), if_pos (by omega)]
    rfl
variable {WF : (Nat → Nat → Int) → Prop}
def la_gi : List ct_G := [(10, 210, 0, 29), (53, 14, 0, 40), (53, 15, 0, 40)]
/-- what holds at the loop's head -/
def la_I (WF : (Nat → Nat → Int) → Prop) (cps : List la_P) (M : Nat → Nat → Int) : Prop := sx_mok cl_ly M ∧ JJ M ∧ WF M ∧ sx_w (0, 29) (M 10 210) ∧ la_eq cps M
noncomputable def la_sk (cps : List la_P) (t0 t : sx_S) : Bool := sx_an (sx_an (jx t0 t) (cz_zs.all fun z => sx_an (Nat.blt z 128) (sx_an (Nat.beq (sx_tg 7 t.2.2.2 z).1 0) true))) (sx_an (match jv t (10, 210) with
  | some v => jin t v 0 29
  | none => false) (la_keq cps t))
/-- but for what a call of another kind changes -/
noncomputable def la_go (cps : List la_P) : sx_S := la_cp cps (ct_get la_gi la_t0)
def la_lq : List (Nat × ct_Q) := [(3, 0, 0, 0), (2, 2, 53, 53), (1, 2, 8, 8), (0, 2, 0, 0)]
def la_l0 : sx_L := [(3, 0, 8, 0), (2, 2, 0, 53), (1, 2, 0, 8), (0, 2, 0, 0)]
/-- the locals: i and what is added, and the three references -/
noncomputable def la_lk (c : Int) (lv : sx_L) : Bool := sx_an (mt_nd (lv.map fun q => q.1)) (match mt_at la_lq lv with
  | some [a, b, e, f] => sx_an (sx_an (Nat.beq a.1 0) (sx_ae a.2 (8, c))) (sx_an (sx_an (Nat.beq b.1 2) (sx_eq b.2.2 53)) (sx_an (sx_an (Nat.beq e.1 2) (sx_eq e.2.2 8)) (sx_an (Nat.beq f.1 2) (sx_eq f.2.2 0))))
  | _ => false)
/-- a call that is taken by hand: where, of what, its contract -/
abbrev la_S : Type := Nat × Nat × ct_C
noncomputable def la_call (q : la_S) (s : List sx_V) (t : sx_S) : Bool := match (sm_MT 0).2.2.2.2.2 q.1 with
  | some (ins, len) => sx_an (sx_an (Nat.beq len (sm_len ins len)) (Nat.beq len 3)) (match sx_call cl_ly (sm_LK (sm_MT 0).1) (fun k => (sm_MT k).2.2.2.1) ins s with
    | some (k, as, rest) => sx_an (sx_an (Nat.beq k q.2.1) (Nat.beq rest.length 0)) (sx_an (Nat.ble (sx_sum as) (sm_MT k).2.1) (sx_an (sx_an (ct_fvs t q.2.2.1 as) (q.2.2.2.1.all (ct_fg cl_ly t))) (sx_an (Nat.ble q.2.2.2.2.2.2.2.1 99) (match q.2.2.2.2.2.2.1 with
      | some w => Nat.beq w.1 0
      | none => false))))
    | none => false)
  | none => false
theorem la_sk_ok {cps : List la_P} {t0 : sx_S} {ρ0 : Nat → Int} {M0 : Nat → Nat → Int} (hz : ∀ M M' : Nat → Nat → Int, (∀ z ∈ cz_zs, M' z = M z) → WF M → WF M') (hs0 : sx_sat cl_ly (8, 0) xs L M0 ρ0 M0 t0) (hx : sx_ext t0.1 ρ0 ρ) (hs : sx_sat cl_ly (8, 0) xs L M0 ρ M t) (h : la_sk cps t0 t = true) (hJ : JJ M0) (hW : WF M0) : la_I WF cps M := by
  obtain ⟨h1, h2⟩ := sx_an_iff.mp h
  obtain ⟨h1, h3⟩ := sx_an_iff.mp h1
  obtain ⟨h2, h4⟩ := sx_an_iff.mp h2
  refine ⟨hs.2.2.2.2.2.1, jx_ok' hs0 hx hs h1 hJ, hz M0 M (fun z hzz => ?_) hW, ?_, la_keq_ok hs h4⟩
  · obtain ⟨a, b⟩ := sx_an_iff.mp (List.all_eq_true.mp h3 z hzz)
    obtain ⟨-, g0, -, -, l4⟩ := hs.2.2.2.2.2.2.1 z (sx_blt a)
    exact l4 (sx_nbeq.mp (sx_an_iff.mp b).1)
  · cases e : jv t (10, 210) with
    | none => rw [e] at h2; cases h2
    | some v =>
      rw [e] at h2
      have := jin_ok hs h2
      rw [← (jv_ok hs (p := (10, 210)) (by decide) e).1] at this
      exact this
theorem la_lk_ok {c : Int} {lv : sx_L} (hl : sx_okl ρ t.1 lv) (h : la_lk c lv = true) : (lo_nd (sx_cl1 ρ lv)) ∧ ∀ k v, sm_ld (la_lv (Int32.ofInt (ρ 8 + c))) k = some v → sm_ld (sx_cl1 ρ lv) k = some v := by
  obtain ⟨h1, h2⟩ := sx_an_iff.mp h
  refine ⟨mt_cl_nd (mt_nd_ok h1), ?_⟩
  cases e : mt_at la_lq lv with
  | none => rw [e] at h2; cases h2
  | some vs =>
    rw [e] at h2
    match vs, h2, e with
    | [a, b, e9, f], h2, e =>
      obtain ⟨-, a2⟩ := mt_at_ok hl e
      obtain ⟨k1, k2⟩ := sx_an_iff.mp h2
      obtain ⟨k1, k3⟩ := sx_an_iff.mp k1
      obtain ⟨k4, k5⟩ := sx_an_iff.mp k2
      obtain ⟨k5, k6⟩ := sx_an_iff.mp k5
      obtain ⟨k4, k7⟩ := sx_an_iff.mp k4
      obtain ⟨k5, k8⟩ := sx_an_iff.mp k5
      obtain ⟨k6, k9⟩ := sx_an_iff.mp k6
      have ez : mt_zv la_lq (sx_cs1 ρ [a, b, e9, f]) = la_lv (Int32.ofInt (ρ 8 + c)) := by
        show [(3, sx_cv1 ρ a), (2, sx_cv1 ρ b), (1, sx_cv1 ρ e9), (0, sx_cv1 ρ f)] = _
        rw [sx_cvk0 (sx_nbeq.mp k1), sx_ae_iff.mp k3, sx_cvk2 (sx_nbeq.mp k4), sx_cvk2 (sx_nbeq.mp k5), sx_cvk2 (sx_nbeq.mp k6), sx_eq_iff.mp k7, sx_eq_iff.mp k8, sx_eq_iff.mp k9]
        rfl
      intro k v hv
      rw [← ez] at hv
      exact a2 k v hv
theorem la_lv_nd (i : Int32) : lo_nd (la_lv i) := by
  show ([3, 2, 1, 0] : List Nat).Nodup
  decide
/-- what a call taken by hand does -/
def la_sp (WF : (Nat → Nat → Int) → Prop) (L : Nat) (xs : Nat → Int32) (k : Nat) (c : ct_C) : Prop := ∀ d as M, c.2.2.2.2.2.1 ≤ d → ct_vs c.1 as → ct_g c.2.1 M → sx_mok cl_ly M → JJ M → WF M → ∃ F r M', sm_run sm_MT sm_LK (sm_RO L xs) sm_NV sm_cq F d k 0 (lv_args 0 as) [] (sx_HH cl_lay cl_rf M) = some (r, sx_HH cl_lay cl_rf M') ∧ sx_mok cl_ly M' ∧ ct_fr c M M' ∧ ct_g c.2.2.1 M' ∧ ct_r c.2.2.2.2.1 r ∧ JJ M' ∧ WF M'
end
