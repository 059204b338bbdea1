/-! From the law's first instruction to its loop; p1's start. -/
section
theorem sm_ints_ro {RO : List (Nat × (Nat → Int32))} {h : sm_H} {a t : Nat} {x : Nat × (Nat → Int32)} (e : sm_ints [] h a t = some x) : sm_ints RO h a t = some x := by
  unfold sm_ints at e ⊢
  by_cases h8 : a < 8
  · rw [if_pos h8] at e
    split at e
    · cases e
    · cases e
  · rw [if_neg h8] at e ⊢
    exact e
theorem sm_step_ro {lk : Nat → Option sm_L} {RO : List (Nat × (Nat → Int32))} {NV : Nat → List Value} {cq : Nat} {ini : Bool} {nL d pc : Nat} {ins : Instr} {lv : sm_V} {s : List Value} {h : sm_H} {o : sm_S} (e : sm_step lk [] NV cq ini nL d ins pc lv s h = some o) : sm_step lk RO NV cq ini nL d ins pc lv s h = some o := by
  cases ins
  case iaload =>
    have e9 := sm_ai_eq e
    clear e
    obtain ⟨a, i, r, rfl, e⟩ := e9
    show (match sm_ints RO h a 0 with
      | some (n, f) => if sm_in i n = true then some (pc + 1, lv, .int (f i.toNatClampNeg) :: r, h) else none
      | none => none) = some o
    cases e1 : sm_ints [] h a 0 with
    | none => rw [e1] at e; cases e
    | some x =>
      rw [e1] at e
      rw [sm_ints_ro e1]
      exact e
  case arraylength =>
    have e9 := sm_r1_eq e
    clear e
    obtain ⟨a, r, rfl, e⟩ := e9
    show (match sm_ints RO h a 0 with
      | some (n, _) => some (pc + 1, lv, .int (Int32.ofNat n) :: r, h)
      | none => none) = some o
    cases e1 : sm_ints [] h a 0 with
    | none => rw [e1] at e; cases e
    | some x =>
      rw [e1] at e
      rw [sm_ints_ro e1]
      exact e
  all_goals exact e
theorem sm_run_ro {MT : Nat → sm_M} {LK : Nat → Nat → Option sm_L} {RO : List (Nat × (Nat → Int32))} {NV : Nat → List Value} {cq : Nat} : ∀ (f d j pc : Nat) (lv : sm_V) (s : List Value) (h : sm_H) (r : Option Value × sm_H), sm_run MT LK [] NV cq f d j pc lv s h = some r → sm_run MT LK RO NV cq f d j pc lv s h = some r := by
  intro f
  induction f with
  | zero => intro d j pc lv s h r e; cases e
  | succ f ih =>
    intro d j pc lv s h r e
    rw [sm_run_s] at e
    rw [sm_run_s]
    split at e
    · cases e
    · split at e
      · rename_i hl
        rw [if_pos hl]
        split at e
        · exact e
        · split at e
          · cases d with
            | zero => cases e
            | succ d =>
              dsimp only at e ⊢
              split at e
              · rename_i hc
                rw [if_pos hc]
                split at e
                · rename_i r1 h1 e1
                  rw [ih _ _ _ _ _ _ _ e1]
                  exact ih _ _ _ _ _ _ _ e
                · cases e
              · cases e
          · split at e
            · rename_i o e1
              rw [sm_step_ro e1]
              exact ih _ _ _ _ _ _ _ e
            · cases e
      · cases e
/-- it runs to an answer 1 and a heap that is small enough -/
def p1_R (L : Nat) (xs : Nat → Int32) (d pc : Nat) (lv : sm_V) (s : List Value) (h : sm_H) : Prop := ∃ F hf, sm_run sm_MT sm_LK (sm_RO L xs) sm_NV sm_cq F d 0 pc lv s h = some (some (.int 1), hf) ∧ hf.length ≤ 600000 ∧ sm_sz hf ≤ 7302250
variable {L : Nat} {xs : Nat → Int32} {d pc : Nat} {lv : sm_V} {s : List Value} {h : sm_H}
theorem p1_st {ins : Instr} {len : Nat} {o : sm_S} (hf : (sm_MT 0).2.2.2.2.2 pc = some (ins, len)) (hl : len = sm_len ins len) (hr : sm_ret (sm_MT 0).2.2.1 ins s = none) (hc : sm_call (sm_LK (sm_MT 0).1) (fun k => (sm_MT k).2.2.2.1) ins s h = none) (hs : sm_step (sm_LK (sm_MT 0).1) (sm_RO L xs) sm_NV sm_cq (sm_MT 0).2.2.2.2.1 (sm_MT 0).2.1 d ins pc lv s h = some o) (k : p1_R L xs d o.1 o.2.1 o.2.2.1 o.2.2.2) : p1_R L xs d pc lv s h := by
  obtain ⟨F, hf9, e, e1⟩ := k
  refine ⟨F + 1, hf9, ?_, e1⟩
  rw [sm_run_f hf hl, hr, hc, hs]
  exact e
theorem p1_ca {ins : Instr} {len k : Nat} {as rest : List Value} {h1 : sm_H} {F1 : Nat} (hf : (sm_MT 0).2.2.2.2.2 pc = some (ins, len)) (hl : len = sm_len ins len) (hr : sm_ret (sm_MT 0).2.2.1 ins s = none) (hc : sm_call (sm_LK (sm_MT 0).1) (fun k => (sm_MT k).2.2.2.1) ins s h = some (k, as, rest)) (hq : sm_sum rest ≤ 8 ∧ (lg_sl as).length ≤ (sm_MT k).2.1) (hrun : sm_run sm_MT sm_LK (sm_RO L xs) sm_NV sm_cq F1 d k 0 (lv_args 0 as) [] h = some (none, h1)) (kk : p1_R L xs (d + 1) (pc + 3) lv rest h1) : p1_R L xs (d + 1) pc lv s h := by
  obtain ⟨F, hf9, e, e1⟩ := kk
  refine ⟨max F F1 + 1, hf9, ?_, e1⟩
  rw [sm_run_f hf hl, hr, hc]
  show (if sm_sum rest ≤ 8 ∧ (lg_sl as).length ≤ (sm_MT k).2.1 then _ else none) = _
  rw [if_pos hq, sm_fuel hrun (Nat.le_max_right _ _)]
  exact sm_fuel e (Nat.le_max_left _ _)
def p1_lv : sm_V := [(3, .int 0), (2, .ref 53), (1, .ref 8), (0, .ref 0)]
set_option maxRecDepth 100000 in
theorem p1_pre (k : p1_R L xs 100 18 p1_lv [] cl_h) : p1_R L xs 100 0 [(0, .ref 0)] [] [] := by
  refine p1_st (pc := 0) (ins := .new 7) (len := 3) rfl rfl rfl rfl rfl ?_
  refine p1_st (pc := 3) (ins := .dup) (len := 1) rfl rfl rfl rfl rfl ?_
  refine p1_ca (d := 99) (pc := 4) (ins := .invokespecial 9) (len := 3) (k := 1) (as := [.ref 8]) (rest := [.ref 8]) (h1 := cl_gt cl_r1) (F1 := 5000) rfl rfl rfl rfl ⟨by decide, Nat.le_of_ble_eq_true rfl⟩ (sm_run_ro _ _ _ _ _ _ _ _ (cl_is_eq cl_r1_is)) ?_
  refine p1_st (pc := 7) (ins := .astore_n 1) (len := 1) rfl rfl rfl rfl (o := (8, [(1, .ref 8), (0, .ref 0)], [], cl_gt cl_r1)) rfl ?_
  refine p1_st (pc := 8) (ins := .new 10) (len := 3) rfl rfl rfl rfl (o := (11, [(1, .ref 8), (0, .ref 0)], [.ref (8 + (cl_gt cl_r1).length)], cl_gt cl_r1 ++ [.inr (10, sm_NV 10)])) rfl ?_
  rw [cl_r1_len]
  refine p1_st (pc := 11) (ins := .dup) (len := 1) rfl rfl rfl rfl (o := (12, [(1, .ref 8), (0, .ref 0)], [.ref 53, .ref 53], cl_gt cl_r1 ++ [.inr (10, sm_NV 10)])) rfl ?_
  refine p1_ca (d := 99) (pc := 12) (ins := .invokespecial 12) (len := 3) (k := 152) (as := [.ref 53]) (rest := [.ref 53]) (h1 := cl_gt cl_r2) (F1 := 5000) rfl rfl rfl rfl ⟨by decide, Nat.le_of_ble_eq_true rfl⟩ (sm_run_ro _ _ _ _ _ _ _ _ (cl_is_eq cl_r2_is)) ?_
  refine p1_st (pc := 15) (ins := .astore_n 2) (len := 1) rfl rfl rfl rfl (o := (16, [(2, .ref 53), (1, .ref 8), (0, .ref 0)], [], cl_gt cl_r2)) rfl ?_
  refine p1_st (pc := 16) (ins := .iconst 0) (len := 1) rfl rfl rfl rfl (o := (17, [(2, .ref 53), (1, .ref 8), (0, .ref 0)], [.int (Int32.ofInt 0)], cl_gt cl_r2)) rfl ?_
  refine p1_st (pc := 17) (ins := .istore_n 3) (len := 1) rfl rfl rfl rfl (o := (18, p1_lv, [], cl_gt cl_r2)) rfl ?_
  exact k
theorem p1_fetch (k : Nat) : True := trivial
set_option maxRecDepth 100000 in
/-- less than six ints: nothing is called -/
theorem p1_short (hL : L < 6) (hlen : cl_h.length ≤ 600000 ∧ sm_sz cl_h ≤ 7302250) : p1_R L xs 100 18 p1_lv [] cl_h := by
  refine p1_st (pc := 18) (ins := .iload_n 3) (len := 1) rfl rfl rfl rfl (o := (19, p1_lv, [.int 0], cl_h)) rfl ?_
  refine p1_st (pc := 19) (ins := .aload_n 0) (len := 1) rfl rfl rfl rfl (o := (20, p1_lv, [.ref 0, .int 0], cl_h)) rfl ?_
  refine p1_st (pc := 20) (ins := .arraylength) (len := 1) rfl rfl rfl rfl (o := (21, p1_lv, [.int (Int32.ofNat L), .int 0], cl_h)) rfl ?_
  refine p1_st (pc := 21) (ins := .bipush 6) (len := 2) rfl rfl rfl rfl (o := (23, p1_lv, [.int 6, .int (Int32.ofNat L), .int 0], cl_h)) rfl ?_
  refine p1_st (pc := 23) (ins := .isub) (len := 1) rfl rfl rfl rfl (o := (24, p1_lv, [.int (Int32.ofNat L - 6), .int 0], cl_h)) rfl ?_
  refine p1_st (pc := 24) (ins := .if_icmp .gt 1502) (len := 3) rfl rfl rfl rfl (o := (24 + 1502, p1_lv, [], cl_h)) ?_ ?_
  · have : sm_c2 .gt 0 (Int32.ofNat L - 6) = true := by
      have h9 : L = 0 ∨ L = 1 ∨ L = 2 ∨ L = 3 ∨ L = 4 ∨ L = 5 := by omega
      rcases h9 with rfl | rfl | rfl | rfl | rfl | rfl <;> rfl
    show sm_br (sm_tg 24 1502) (sm_c2 .gt 0 (Int32.ofNat L - 6)) 24 p1_lv [] cl_h = _
    rw [this]
    rfl
  refine p1_st (pc := 24 + 1502) (ins := .iconst 1) (len := 1) rfl rfl rfl rfl (o := (25 + 1502, p1_lv, [.int 1], cl_h)) rfl ?_
  refine ⟨1, cl_h, ?_, hlen⟩
  rw [sm_run_f (ins := .ireturn) (len := 1) rfl rfl]
  rfl
set_option maxRecDepth 100000 in
theorem p1_long (hL : L = 6) (v : Nat) (g : Nat) (hv : (xs 0 &&& 63).toInt = v) (hg : (if (v : Int) < 0 ∨ 40 < (v : Int) then sm_tg 33 1487 else (match (#[179, 202, 235, 278, 321, 354, 377, 390, 423, 456, 489, 512, 545, 589, 623, 657, 690, 713, 756, 789, 843, 866, 889, 932, 975, 998, 1021, 1044, 1057, 1070, 1083, 1096, 1119, 1162, 1185, 1218, 1261, 1334, 1368, 1431, 1464] : Array Int)[((v : Int) - 0).toNat]? with
    | some o => sm_tg 33 o
    | none => none)) = some g) (k : p1_R L xs 100 g p1_lv [] cl_h) : p1_R L xs 100 18 p1_lv [] cl_h := by
  subst hL
  refine p1_st (pc := 18) (ins := .iload_n 3) (len := 1) rfl rfl rfl rfl (o := (19, p1_lv, [.int 0], cl_h)) rfl ?_
  refine p1_st (pc := 19) (ins := .aload_n 0) (len := 1) rfl rfl rfl rfl (o := (20, p1_lv, [.ref 0, .int 0], cl_h)) rfl ?_
  refine p1_st (pc := 20) (ins := .arraylength) (len := 1) rfl rfl rfl rfl (o := (21, p1_lv, [.int (Int32.ofNat 6), .int 0], cl_h)) rfl ?_
  refine p1_st (pc := 21) (ins := .bipush 6) (len := 2) rfl rfl rfl rfl (o := (23, p1_lv, [.int 6, .int (Int32.ofNat 6), .int 0], cl_h)) rfl ?_
  refine p1_st (pc := 23) (ins := .isub) (len := 1) rfl rfl rfl rfl (o := (24, p1_lv, [.int (Int32.ofNat 6 - 6), .int 0], cl_h)) rfl ?_
  refine p1_st (pc := 24) (ins := .if_icmp .gt 1502) (len := 3) rfl rfl rfl rfl (o := (27, p1_lv, [], cl_h)) rfl ?_
  refine p1_st (pc := 27) (ins := .aload_n 0) (len := 1) rfl rfl rfl rfl (o := (28, p1_lv, [.ref 0], cl_h)) rfl ?_
  refine p1_st (pc := 28) (ins := .iload_n 3) (len := 1) rfl rfl rfl rfl (o := (29, p1_lv, [.int 0, .ref 0], cl_h)) rfl ?_
  refine p1_st (pc := 29) (ins := .iaload) (len := 1) rfl rfl rfl rfl (o := (30, p1_lv, [.int (xs 0)], cl_h)) rfl ?_
  refine p1_st (pc := 30) (ins := .bipush 63) (len := 2) rfl rfl rfl rfl (o := (32, p1_lv, [.int 63, .int (xs 0)], cl_h)) rfl ?_
  refine p1_st (pc := 32) (ins := .iand) (len := 1) rfl rfl rfl rfl (o := (33, p1_lv, [.int (xs 0 &&& 63)], cl_h)) rfl ?_
  refine p1_st (pc := 33) (ins := .tableswitch 1487 0 40 #[179, 202, 235, 278, 321, 354, 377, 390, 423, 456, 489, 512, 545, 589, 623, 657, 690, 713, 756, 789, 843, 866, 889, 932, 975, 998, 1021, 1044, 1057, 1070, 1083, 1096, 1119, 1162, 1185, 1218, 1261, 1334, 1368, 1431, 1464]) (len := 179) rfl rfl rfl rfl (o := (g, p1_lv, [], cl_h)) ?_ k
  show (if (xs 0 &&& 63).toInt < 0 ∨ 40 < (xs 0 &&& 63).toInt then sm_jump (sm_tg 33 1487) p1_lv [] cl_h else match (#[179, 202, 235, 278, 321, 354, 377, 390, 423, 456, 489, 512, 545, 589, 623, 657, 690, 713, 756, 789, 843, 866, 889, 932, 975, 998, 1021, 1044, 1057, 1070, 1083, 1096, 1119, 1162, 1185, 1218, 1261, 1334, 1368, 1431, 1464] : Array Int)[((xs 0 &&& 63).toInt - 0).toNat]? with
    | some o => sm_jump (sm_tg 33 o) p1_lv [] cl_h
    | none => none) = _
  rw [hv]
  by_cases hc : (v : Int) < 0 ∨ 40 < (v : Int)
  · rw [if_pos hc] at hg ⊢
    rw [hg]; rfl
  · rw [if_neg hc] at hg ⊢
    cases e : (#[179, 202, 235, 278, 321, 354, 377, 390, 423, 456, 489, 512, 545, 589, 623, 657, 690, 713, 756, 789, 843, 866, 889, 932, 975, 998, 1021, 1044, 1057, 1070, 1083, 1096, 1119, 1162, 1185, 1218, 1261, 1334, 1368, 1431, 1464] : Array Int)[((v : Int) - 0).toNat]? with
    | none => rw [e] at hg; cases hg
    | some o =>
      rw [e] at hg
      have hg : sm_tg 33 o = some g := hg
      show sm_jump (sm_tg 33 o) p1_lv [] cl_h = _
      rw [hg]; rfl
-- the symbolic start
def p1_F0 : List (Nat × Int × Int) := [(7, 6, 6), (1, sx_r32), (2, sx_r32), (3, sx_r32), (4, sx_r32), (5, sx_r32), (6, sx_r32)]
noncomputable def p1_t0 (F : List (Nat × Int × Int)) : sx_S := (8, F ++ p1_F0, [], sx_t0 7 (false, []))
def p1_l0 : sx_L := [(3, 0, 0, 0), (2, 2, 0, 53), (1, 2, 0, 8), (0, 2, 0, 0)]
def p1_ok (o : sx_R) : Bool := match o.1 with
  | some v => sx_an (Nat.beq v.1 0) (sx_ae v.2 (0, 1))
  | none => false
def p1_rho (xs : Nat → Int32) (s : Nat) : Int := if s = 0 then 0 else if s ≤ 6 then (xs (s - 1)).toInt else if s = 7 then 6 else 0
theorem sx_tg_t0 (v : sx_F) : ∀ (n k : Nat), sx_tg n (sx_t0 n v) k = v := by
  intro n
  induction n with
  | zero => intro k; rfl
  | succ n ih =>
    intro k
    show (bif Nat.beq (Nat.mod k 2) 0 then sx_tg n (sx_t0 n v) (Nat.div k 2) else sx_tg n (sx_t0 n v) (Nat.div k 2)) = v
    rw [ih]
    cases Nat.beq (Nat.mod k 2) 0 <;> rfl
theorem p1_rho32 (xs : Nat → Int32) (s : Nat) : sx_w sx_r32 (p1_rho xs s) := by
  unfold p1_rho
  split
  · exact sx_w0
  · split
    · exact sx_w32 _
    · split <;> exact ⟨by decide, by decide⟩
theorem p1_sat (xs : Nat → Int32) {F : List (Nat × Int × Int)} (hF : ∀ q ∈ F, q.1 < 8 ∧ sx_w q.2 (p1_rho xs q.1)) : sx_sat cl_ly (0, 0) xs 6 cl_M0 (p1_rho xs) cl_M0 (p1_t0 F) := by
  refine ⟨Nat.le_refl _, rfl, fun s => sx_32_64 (p1_rho32 xs s), fun q hq => ?_, (fun q hq => by cases hq), cl_mok, fun k _ => ?_, rfl, by decide, by decide, fun c hc _ => ?_⟩
  · rcases List.mem_append.mp hq with hq | hq
    · exact hF q hq
    · have h32 := p1_rho32 xs q.1
      simp only [p1_F0, List.mem_cons, List.not_mem_nil, or_false] at hq
      rcases hq with rfl | rfl | rfl | rfl | rfl | rfl | rfl
      · exact ⟨Nat.le_of_ble_eq_true rfl, show (6 : Int) ≤ 6 by decide, show (6 : Int) ≤ 6 by decide⟩
      all_goals exact ⟨Nat.le_of_ble_eq_true rfl, h32⟩
  · show sx_leaf _ _ (cl_M0 k) (cl_M0 k) (sx_tg 7 (sx_t0 7 (false, [])) k)
    rw [sx_tg_t0]
    generalize cl_M0 k = z
    exact ⟨(fun e he => by cases he), z, fun _ => rfl, rfl⟩
  · have hv : sx_val (p1_rho xs) (0, 0) = 0 := rfl
    rw [hv]
    refine ⟨by omega, ?_⟩
    have : ((0 : Int) + (c : Int)).toNat = c := by omega
    rw [this]
    unfold p1_rho
    rw [if_neg (by omega), if_pos (by omega)]
    rfl
theorem sm_sz_mapIdx : ∀ (l : List sx_H) (g : Nat → sx_H → sm_C), (∀ k h, sm_cz (g k h) = sx_sz h) → sm_sz (l.mapIdx g) = (l.map sx_sz).sum := by
  intro l
  induction l with
  | nil => intro g _; rfl
  | cons a l ih =>
    intro g hg
    rw [List.mapIdx_cons, List.map_cons, List.sum_cons]
    show sm_cz (g 0 a) + sm_sz (l.mapIdx fun i => g (i + 1)) = _
    rw [hg, ih _ (fun k h => hg _ _)]
theorem sx_hc_sz (f : Nat → Int) (g : Nat → Option Nat) (h : sx_H) : sm_cz (sx_hc f g h) = sx_sz h := by
  unfold sx_hc sx_sz
  by_cases h0 : h.1 = 0
  · rw [if_pos h0, if_pos h0]
    split
    · rfl
    · split <;> rfl
  · rw [if_neg h0, if_neg h0]
    show (h.2.2.2.2.mapIdx _).length = _
    rw [List.length_mapIdx]
theorem cl_sum : (cl_lay.map sx_sz).sum ≤ 7302250 := by decide +kernel
theorem cl_small (M : Nat → Nat → Int) : (sx_HH cl_lay cl_rf M).length ≤ 600000 ∧ sm_sz (sx_HH cl_lay cl_rf M) ≤ 7302250 := by
  refine ⟨?_, ?_⟩
  · unfold sx_HH
    rw [List.length_mapIdx, cl_lay_len]
    decide
  · unfold sx_HH
    rw [sm_sz_mapIdx _ _ (fun k h => sx_hc_sz _ _ h)]
    exact cl_sum
abbrev p1_HK : Type := Nat → Nat → List sx_V → sx_S → Option (List sx_R)
noncomputable def p1_go (dd : Nat → Bool) (hk : p1_HK) (f pc : Nat) (F : List (Nat × Int × Int)) : Bool := match sx_run cl_bs cl_ly cl_rc (0, 0) true sm_MT sm_LK dd hk f 100 0 pc p1_l0 [] (p1_t0 F) with
  | some l => l.all p1_ok
  | none => false
theorem p1_fin {dd : Nat → Bool} {hk : p1_HK} {f g : Nat} {F : List (Nat × Int × Int)} (hhk : sx_hok sm_MT sm_LK (sm_RO 6 xs) sm_NV sm_cq cl_ly (0, 0) xs 6 cl_M0 cl_lay cl_rf hk) (h : p1_go dd hk f g F = true) (hF : ∀ q ∈ F, q.1 < 8 ∧ sx_w q.2 (p1_rho xs q.1)) : p1_R 6 xs 100 g p1_lv [] cl_h := by
  unfold p1_go at h
  cases e : sx_run cl_bs cl_ly cl_rc (0, 0) true sm_MT sm_LK dd hk f 100 0 g p1_l0 [] (p1_t0 F) with
  | none => rw [e] at h; cases h
  | some l =>
    rw [e] at h
    have hsat := p1_sat xs hF
    have hokl : sx_okl (p1_rho xs) (p1_t0 F).1 p1_l0 := by
      intro q hq
      simp only [p1_l0, List.mem_cons, List.not_mem_nil, or_false] at hq
      rcases hq with rfl | rfl | rfl | rfl
      · exact sx_ck0 hsat sx_w0
      all_goals exact sx_ck2 hsat _
    obtain ⟨o, om, ρ', M', x1, x2, x3, x4, F1, x5⟩ := sx_run_ok (NV := sm_NV) (cq := sm_cq) cl_lok cl_hbs cl_hrf (cl_hro 6 xs) hhk f 100 0 g p1_l0 [] (p1_t0 F) l (p1_rho xs) cl_M0 e hsat hokl (fun v hv => by cases hv)
    refine ⟨F1, sx_HH cl_lay cl_rf M', ?_, cl_small M'⟩
    have ho := List.all_eq_true.mp h o om
    have e1 : o.1.map (sx_cv1 ρ') = some (.int 1) := by
      unfold p1_ok at ho
      cases eo : o.1 with
      | none => rw [eo] at ho; cases ho
      | some v =>
        rw [eo] at ho
        obtain ⟨a, b⟩ := sx_an_iff.mp ho
        show some (sx_cv1 ρ' v) = _
        rw [sx_cvk0 (sx_nbeq.mp a), sx_ae_iff.mp b, sx_v0 x3]
        rfl
    rw [e1] at x5
    have e2 : sx_cl1 (p1_rho xs) p1_l0 = p1_lv := rfl
    rw [e2] at x5
    rw [cl_h_eq]
    exact x5
theorem p1_nohk : sx_hok sm_MT sm_LK (sm_RO 6 xs) sm_NV sm_cq cl_ly (0, 0) xs 6 cl_M0 cl_lay cl_rf (fun _ _ _ _ => none) := fun _ _ _ _ _ _ _ h => by cases h
end
