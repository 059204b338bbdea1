/-! The reference's parser: a whole text. -/
section
variable {L : Nat} {xs : Nat → Int32} {M M' MM M0 M1 M2 M3 : Nat → Nat → Int} {ρ : Nat → Int}
/-- what readText may change -/
def rq_c : ct_C := ([(2, 53, 53)], [], [(53, 21, sx_r32), (53, 22, sx_r32), (53, 23, sx_r32), (53, 24, sx_r32), (53, 25, sx_r32)], [67, 68, 69, 70, 71], none, 60, false)
theorem lz_at (h : ct_fr lz_c M0 M) {a i : Nat} (ha : a < 128) (h1 : ¬ (67 ≤ a ∧ a ≤ 71)) (h2 : a = 53 → ¬ (22 ≤ i ∧ i ≤ 25)) : M a i = M0 a i :=
  h a i ha (fun hm => h1 (by
    simp only [lz_c, List.mem_cons, List.not_mem_nil, or_false] at hm
    omega)) (fun g hg e1 e2 => by
    simp only [lz_c, List.mem_cons, List.not_mem_nil, or_false] at hg
    have h3 := h2
    rcases hg with rfl | rfl | rfl | rfl <;> (dsimp only at e1 e2; have h3 := h2 e1.symm; omega))
theorem rq_mk (h : ∀ a i : Nat, a < 128 → ¬ (67 ≤ a ∧ a ≤ 71) → (a = 53 → ¬ (21 ≤ i ∧ i ≤ 25)) → M' a i = M a i) : ct_fr rq_c M M' := fun a i ha hm hp => h a i ha (fun h1 => hm (by
    have : a = 67 ∨ a = 68 ∨ a = 69 ∨ a = 70 ∨ a = 71 := by omega
    rcases this with rfl | rfl | rfl | rfl | rfl <;> simp [rq_c])) (fun e h1 => by
    have : i = 21 ∨ i = 22 ∨ i = 23 ∨ i = 24 ∨ i = 25 := by omega
    exact hp (53, i, sx_r32) (by rcases this with rfl | rfl | rfl | rfl | rfl <;> simp [rq_c]) e.symm rfl)
theorem cz_lt {z : Nat} (h : z ∈ cz_zs) : z < 128 ∧ z ≠ 53 := by
  simp only [cz_zs, List.mem_cons, List.not_mem_nil, or_false] at h
  omega
/-- what readText does -/
def rq_R (M M' : Nat → Nat → Int) : Prop := sx_mok cl_ly M' ∧ ct_fr rq_c M M' ∧ M' 53 21 = 0 ∧ WF M'
def rq_Q (M : Nat → Nat → Int) (r : Option Value) (M' : Nat → Nat → Int) : Prop := ∃ z : Int, r = some (.int (Int32.ofInt z)) ∧ -1 ≤ z ∧ z ≤ 120 ∧ rq_R M M'
theorem rq_fr (hB : ct_fr lz_c M0 M) (hx : rt_x M M') {a i : Nat} (ha : a < 128) (h67 : ¬ (67 ≤ a ∧ a ≤ 71)) (h53 : a = 53 → ¬ (21 ≤ i ∧ i ≤ 25)) : M' a i = M0 a i := by
  obtain ⟨x1, x2, x3, x4⟩ := hx
  by_cases e : a = 53
  · have h9 := h53 e
    subst e
    rw [x3 i (by omega) (by omega)]
    exact lz_at hB ha h67 (fun _ => by omega)
  · rw [x4 a ha e]
    exact lz_at hB ha h67 (fun e' => absurd e' e)
theorem rq_kend {z : Int} (h1 : 0 ≤ z) (h2 : z ≤ 120) (hw : WF M0) (hB : rt_B M0 M) (hx : rt_x M M') : rq_Q M0 (some (.int (Int32.ofInt z))) M' :=
  ⟨z, rfl, by omega, h2, hx.1, rq_mk (fun _ _ ha h67 h53 => rq_fr hB.2.1 hx ha h67 h53), hx.2.1, WF_zs M M' (fun k hk => hx.2.2.2 k (cz_lt hk).1 (cz_lt hk).2) (rt_WF hB hw)⟩
theorem rq_kcopy (hL : L < 2 ^ 31) {n : Nat} (hI : rt_I 1 M0 M n) (hx : rt_x M M') : rz_fin (rq_Q M0) L xs 174 47 105 [(0, .ref 53), (1, .int (Int32.ofInt 0)), (2, .int (Int32.ofInt 0))] [] M' := by
  obtain ⟨hB, ⟨p1, p2, p3, p4, p5, p6, p7, p8⟩, i1, i2, i3, i4, i5⟩ := hI
  have hx0 := hx
  obtain ⟨x1, x2, x3, x4⟩ := hx
  have hT := pz_T p1
  have e25 : M' 53 25 = M 53 25 := x3 25 (by decide) (by decide)
  have e67 := x4 67 (by decide) (by decide)
  have e68 := x4 68 (by decide) (by decide)
  have e69 := x4 69 (by decide) (by decide)
  have e70 := x4 70 (by decide) (by decide)
  have e71 := x4 71 (by decide) (by decide)
  have m691 : M' 69 1 = (n : Int) := by rw [e69]; exact i2
  have b25 : 0 ≤ M' 53 25 ∧ M' 53 25 ≤ 121 := by omega
  have b69 : 0 ≤ M' 69 1 ∧ M' 69 1 ≤ 61 := by omega
  have main := rt_cp1 (Q := rq_Q M0) (xs := xs) (M2 := M') hL b25 b69 (fun M3 M4 hK hm4 q4 q40 q41 => by
    obtain ⟨k1, k2, k3, k4⟩ := hK
    have e691 : M3 69 1 = (n : Int) := by rw [k2 69 (by decide) (by decide) (by decide)]; exact m691
    have a0 : M4 69 0 = (n : Int) := by rw [q40, e691]
    have a1 : M4 69 1 = (n : Int) := by rw [q41 1 (by decide), e691]
    have c0 : 0 ≤ M4 69 0 ∧ M4 69 0 ≤ 60 := by omega
    have c1 : 0 ≤ M4 69 1 ∧ M4 69 1 ≤ 61 := by omega
    have f67 := q4 67 (by decide) (by decide)
    have f68 := q4 68 (by decide) (by decide)
    have f70 := (q4 70 (by decide) (by decide)).trans (k2 70 (by decide) (by decide) (by decide))
    have f71 := (q4 71 (by decide) (by decide)).trans (k2 71 (by decide) (by decide) (by decide))
    have main2 := rt_cp2 (Q := rq_Q M0) (xs := xs) (M2 := M4) hL c0 c1 (fun M5 M6 hK5 hm6 q6 => by
      obtain ⟨l1, l2, l3, l4⟩ := hK5
      have hw5 : WF M5 := rt_new (M := M) (n := n) i5 (by omega) (by omega) (by rw [l2 69 (by decide) (by decide) (by decide)]; exact a0) (fun i hi => by
        obtain ⟨u1, u2⟩ := k4 i (by omega)
        rw [l2 67 (by decide) (by decide) (by decide), l2 68 (by decide) (by decide) (by decide), f67, f68, u1, u2, e67, e68]
        exact ⟨rfl, rfl⟩) (fun i hi => by
        obtain ⟨u1, u2⟩ := l4 i (by omega)
        rw [u1, u2, f70, f71, e70, e71]
        exact ⟨rfl, rfl⟩)
      have e6 : ∀ a i : Nat, a < 128 → ¬ (67 ≤ a ∧ a ≤ 71) → M6 a i = M' a i := fun a i ha h67 => by
        rw [q6 a ha, l2 a ha (by omega) (by omega), q4 a ha (by omega), k2 a ha (by omega) (by omega)]
      refine ⟨-1, rfl, by decide, by decide, hm6, rq_mk (fun a i ha h67 h53 => ?_), ?_, WF_zs M5 M6 (fun z hz => q6 z (cz_lt hz).1) hw5⟩
      · rw [e6 a i ha h67]
        exact rq_fr hB.2.1 hx0 ha h67 h53
      · rw [e6 53 21 (by decide) (by decide)]
        exact x2) _ 0 M4 ⟨hm4, fun a _ _ _ => rfl, fun i _ => ⟨rfl, rfl⟩, fun i hi => absurd hi (Nat.not_lt_zero _)⟩ c0.1 rfl
    exact main2) _ 0 M' ⟨x1, fun a _ _ _ => rfl, fun i _ => ⟨rfl, rfl⟩, fun i hi => absurd hi (Nat.not_lt_zero _)⟩ b25.1 rfl
  exact main
theorem rt_text (hL : L < 2 ^ 31) (hm : sx_mok cl_ly M0) (hw : WF M0) : rz_fin (rq_Q M0) L xs 174 47 0 [(0, .ref 53), (1, .int (Int32.ofInt 0))] [] M0 := by
  have hvs : ct_vs [(0, ((0 : Int), (0 : Int)))] [.int (Int32.ofInt 0)] := ⟨Or.inl ⟨rfl, 0, rfl, ⟨by decide, by decide⟩, sx_w0⟩, trivial⟩
  obtain ⟨ρ, a1, a2, s, a4, a5⟩ := mt_as_ok hvs (mt_tr_sat (MM := M0) (M := M0) (mod := []) (xs := xs) hL (fun a ha => by cases ha) hm (fun a _ _ => rfl))
  have s : sx_sat cl_ly (0, -100) xs L M0 ρ M0 rt_t0 := s
  obtain ⟨o, ρ', M1, rec, x1, x2, x3, x4⟩ := gs_use rt_c1 s (rt_okl s (show 0 < 10 by decide) (sx_ck2 s _)) (fun v hv => by cases hv)
  have z0 : sx_val ρ (0, 0) = 0 := sx_v0 s 0
  have el : sx_cl1 ρ rt_lv = [(0, .ref 53), (1, .int (Int32.ofInt 0))] := by
    show [(0, Value.ref 53), (1, sx_cv1 ρ (0, 0, 0))] = _
    rw [sx_cvk0 (v := (0, 0, 0)) rfl, z0]
  rw [el] at x4
  unfold rt_r1 at rec
  cases eo : o.1 with
  | some r => rw [eo] at rec; cases rec
  | none =>
    rw [eo] at rec
    have ok' : sx_okl ρ' o.2.2.2.2.1 o.2.2.1 := by
      rcases x4 with ⟨r, w1, -⟩ | ⟨-, -, w3, -⟩
      · rw [w1] at eo; cases eo
      · exact w3
    obtain ⟨k1, k2⟩ := sx_an_iff.mp rec
    obtain ⟨k1, k3⟩ := sx_an_iff.mp k1
    obtain ⟨k2, k4⟩ := sx_an_iff.mp k2
    obtain ⟨k4, k5⟩ := sx_an_iff.mp k4
    obtain ⟨f, v, n, m⟩ := lw_ok s x1 x3 k4
    have c0 : ∀ c : Int, sx_val ρ' (0, c) = c := fun c => sx_v0 x3 c
    have v22 : M1 53 22 = 0 := (v (22, (0, 0)) (by simp)).trans (c0 0)
    have v23 : M1 53 23 = -1 := (v (23, (0, -1)) (by simp)).trans (c0 (-1))
    have v24 : M1 53 24 = 0 := (v (24, (0, 0)) (by simp)).trans (c0 0)
    have v25 : M1 53 25 = 0 := (v (25, (0, 0)) (by simp)).trans (c0 0)
    obtain ⟨u1, u2⟩ := lw_one_ok (by decide) x3 k5 (by rw [c0]; decide)
    rw [c0, c0] at u1
    rw [c0] at u2
    have u1 : M1 69 1 = 0 := u1
    have n21 : M1 53 21 = M0 53 21 := n 21 (by simp)
    have hT := pz_T hm
    have hle := pc_lkv_ok ok' k2
    rw [c0] at hle
    refine rz_cont eo (sx_nbeq.mp k1) hle (pc_sk_ok k3) x4 (rt_lines (M0 := M0) hL (fun r M M' h1 h2 hB hx => rq_kend h1 h2 hw hB hx) (fun n M M' hI hx => rq_kcopy hL hI hx) _ 0 M1 28 (Or.inl rfl) ⟨⟨x3.2.2.2.2.2.1, f, fun i _ => ?_, fun i hi => u2 i (by omega), fun i _ => ?_⟩, ⟨x3.2.2.2.2.2.1, v23, by omega, by omega, by omega, by omega, by omega, by omega⟩, v24, u1, by omega, ?_, fun l hl => absurd hl (Nat.not_lt_zero _)⟩ rfl)
    · rw [m 67 (by decide) (by decide) (by decide), m 68 (by decide) (by decide) (by decide)]
      exact ⟨rfl, rfl⟩
    · rw [m 70 (by decide) (by decide) (by decide), m 71 (by decide) (by decide) (by decide)]
      exact ⟨rfl, rfl⟩
    · rw [v25]
      rfl
end
/-! The reference's law(). -/
section
variable {L : Nat} {xs : Nat → Int32} {M M' MM M0 M1 M2 M3 : Nat → Nat → Int} {ρ : Nat → Int} {Q : Option Value → (Nat → Nat → Int) → Prop}
/-- a part with arguments and an answer is called -/
theorem rz_callv {j k d pc ix : Nat} {lv : sm_V} {s as rest : List Value} {R : Option Value → (Nat → Nat → Int) → Prop} (hf : (sm_MT j).2.2.2.2.2 pc = some (.invokevirtual ix, 3)) (hc : sm_call (sm_LK (sm_MT j).1) (fun k => (sm_MT k).2.2.2.1) (.invokevirtual ix) s (sx_HH cl_lay cl_rf M) = some (k, as, rest)) (hq : sm_sum rest ≤ 8 ∧ (lg_sl as).length ≤ (sm_MT k).2.1) (hS : rz_fin R L xs k d 0 (lv_args 0 as) [] M) (next : ∀ r M', R r M' → rz_fin Q L xs j (d + 1) (pc + 3) lv (r.toList ++ rest) M') : rz_fin Q L xs j (d + 1) pc lv s M := by
  obtain ⟨F1, r1, M1, f1, f2⟩ := hS
  obtain ⟨F2, r, M2, g1, g2⟩ := next r1 M1 f2
  obtain ⟨F, hF⟩ := gs_call (xs := xs) (L := L) (j := j) (d := d) (pc := pc) (len := 3) (k := k) (ins := .invokevirtual ix) (lv := lv) (s := s) (as := as) (rest := rest) (ro := r1) hf rfl rfl hc hq f1 g1
  exact ⟨F, r, M2, hF, g2⟩
def ml_lv : sx_L := [(0, 2, 0, 53)]
noncomputable def ml_t : sx_S := (mt_as [(0, (-1, 120))] (mt_tr [])).2
def ml_cc : ct_C := ([(2, 53, 53)], [], [(53, 33, (0, 1))], [], none, 60, false)
noncomputable def ml_r1 (o : sx_P) : Bool := match o.1 with
  | some (some v) => sx_an (Nat.beq v.1 0) (sx_an (jin o.2.2.2.2 v.2 (-220) 1) (mt_cells ml_cc ml_t o.2.2.2.2))
  | _ => false
theorem ml_c1 : gs_chk (fun _ => false) ml_r1 400 400 48 173 5 ml_lv [(0, 9, 0)] ml_t = true := by decide +kernel
theorem ml_f0 : (sm_MT 173).2.2.2.2.2 0 = some (.aload_n 0, 1) := rfl
theorem ml_f1 : (sm_MT 173).2.2.2.2.2 1 = some (.iconst 0, 1) := rfl
theorem ml_f2 : (sm_MT 173).2.2.2.2.2 2 = some (.invokevirtual 258, 3) := rfl
/-- one step that is no call -/
theorem rz_st {j d pc : Nat} {ins : Instr} {len : Nat} {lv lv' : sm_V} {s s' : List Value} {pc' : Nat} (hf : (sm_MT j).2.2.2.2.2 pc = some (ins, len)) (hl : len = sm_len ins len) (hr : sm_ret (sm_MT j).2.2.1 ins s = none) (hc : sm_call (sm_LK (sm_MT j).1) (fun k => (sm_MT k).2.2.2.1) ins s (sx_HH cl_lay cl_rf M) = none) (hs : sm_step (sm_LK (sm_MT j).1) (sm_RO L xs) sm_NV sm_cq (sm_MT j).2.2.2.2.1 (sm_MT j).2.1 d ins pc lv s (sx_HH cl_lay cl_rf M) = some (pc', lv', s', sx_HH cl_lay cl_rf M)) (k : rz_fin Q L xs j d pc' lv' s' M) : rz_fin Q L xs j d pc lv s M := by
  obtain ⟨F, r, M', e, e1⟩ := k
  have k1 := gs_st (L := L) (xs := xs) (j := j) (d := d) (pc := pc) (len := len) (F := F) (ins := ins) (lv := lv) (s := s) (h := sx_HH cl_lay cl_rf M) (o := (pc', lv', s', sx_HH cl_lay cl_rf M)) (res := (r, sx_HH cl_lay cl_rf M'))
  have k2 := k1 hf hl
  have k3 := k2 hr
  have k4 := k3 hc
  have k5 := k4 hs
  dsimp only at k5
  exact ⟨F + 1, r, M', k5 e, e1⟩
def ml_Q (M : Nat → Nat → Int) (r : Option Value) (M' : Nat → Nat → Int) : Prop := ∃ z : Int, r = some (.int (Int32.ofInt z)) ∧ -220 ≤ z ∧ z ≤ 1 ∧ sx_mok cl_ly M' ∧ (∀ a i : Nat, a < 128 → ¬ (67 ≤ a ∧ a ≤ 71) → (a = 53 → i ≠ 33 ∧ ¬ (21 ≤ i ∧ i ≤ 25)) → M' a i = M a i) ∧ M' 53 21 = 0 ∧ WF M'
theorem rq_at (h : ct_fr rq_c M0 M) {a i : Nat} (ha : a < 128) (h1 : ¬ (67 ≤ a ∧ a ≤ 71)) (h2 : a = 53 → ¬ (21 ≤ i ∧ i ≤ 25)) : M a i = M0 a i :=
  h a i ha (fun hm => h1 (by
    simp only [rq_c, List.mem_cons, List.not_mem_nil, or_false] at hm
    omega)) (fun g hg e1 e2 => by
    simp only [rq_c, List.mem_cons, List.not_mem_nil, or_false] at hg
    rcases hg with rfl | rfl | rfl | rfl | rfl <;> (dsimp only at e1 e2; have h3 := h2 e1.symm; omega))
theorem ml_call (s : List Value) : sm_call (sm_LK (sm_MT 173).1) (fun k => (sm_MT k).2.2.2.1) (.invokevirtual 258) [.int (Int32.ofInt 0), .ref 53] (sx_HH cl_lay cl_rf M) = some (174, [.ref 53, .int (Int32.ofInt 0)], []) := by
  have hok : sx_oks (fun _ => 0) 1 [(0, 0, 0), (2, 0, 53)] := fun v hv => by
    simp only [List.mem_cons, List.not_mem_nil, or_false] at hv
    rcases hv with rfl | rfl
    · exact ⟨Nat.lt_succ_self _, fun _ => sx_w0, fun h => by cases h⟩
    · exact ⟨Nat.lt_succ_self _, (fun h => by cases h), fun h => by cases h⟩
  have hc : sx_call cl_ly (sm_LK (sm_MT 173).1) (fun k => (sm_MT k).2.2.2.1) (.invokevirtual 258) [(0, 0, 0), (2, 0, 53)] = some (174, [(2, 0, 53), (0, 0, 0)], []) := rfl
  exact (sx_call_ok (ρ := fun _ => 0) (M := M) (lay := cl_lay) (rf := cl_rf) cl_lok hok hc).1
theorem ml_fin (hL : L < 2 ^ 31) (hm : sx_mok cl_ly M0) (hw : WF M0) : rz_fin (ml_Q M0) L xs 173 48 0 [(0, .ref 53)] [] M0 := by
  refine rz_st ml_f0 rfl rfl rfl (pc' := 1) (lv' := [(0, .ref 53)]) (s' := [.ref 53]) rfl ?_
  refine rz_st ml_f1 rfl rfl rfl (pc' := 2) (lv' := [(0, .ref 53)]) (s' := [.int (Int32.ofInt 0), .ref 53]) rfl ?_
  refine rz_callv (d := 47) (k := 174) ml_f2 (ml_call []) ⟨Nat.zero_le _, Nat.le_of_ble_eq_true rfl⟩ (rt_text hL hm hw) (fun r M1 hR => ?_)
  obtain ⟨z, rfl, z1, z2, q1, q2, q3, q4⟩ := hR
  have w32 : sx_w sx_r32 z := by rw [sx_r32_iff]; omega
  have hvs : ct_vs [(0, ((-1 : Int), (120 : Int)))] [.int (Int32.ofInt z)] := ⟨Or.inl ⟨rfl, z, rfl, ⟨z1, z2⟩, w32⟩, trivial⟩
  obtain ⟨ρ, a1, a2, s, a4, a5⟩ := mt_as_ok hvs (mt_tr_sat (MM := M1) (M := M1) (mod := []) (xs := xs) hL (fun a ha => by cases ha) q1 (fun a _ _ => rfl))
  have s : sx_sat cl_ly (0, -100) xs L M1 ρ M1 ml_t := s
  have e1 : (mt_as [(0, ((-1 : Int), (120 : Int)))] (mt_tr [])).1 = [(0, 9, 0)] := rfl
  rw [e1] at a4 a5
  obtain ⟨o, ρ', M2, rec, x1, x2, x3, x4⟩ := gs_use ml_c1 s (fun q hq => by
    rw [List.mem_singleton.mp hq]
    exact sx_ck2 s _) a5
  have el : sx_cl1 ρ ml_lv = [(0, .ref 53)] := rfl
  rw [el, a4] at x4
  unfold ml_r1 at rec
  split at rec
  · rename_i v eo
    rcases x4 with ⟨r, w1, w2, F, w3⟩ | ⟨w1, -⟩
    · rw [eo] at w1
      cases w1
      obtain ⟨k1, k2⟩ := sx_an_iff.mp rec
      obtain ⟨k2, k3⟩ := sx_an_iff.mp k2
      have k2 := jin_ok x3 k2
      have fr := mt_cells_ok s x1 (fun _ _ _ _ _ => rfl) x3 k3
      have fr1 : ∀ a i : Nat, a < 128 → (a = 53 → i ≠ 33) → M2 a i = M1 a i := fun a i ha h9 => fr a i ha (fun h => by cases h) (fun g hg e1 e2 => by
        rw [List.mem_singleton.mp hg] at e1 e2
        exact h9 e1.symm e2.symm)
      refine ⟨F, _, M2, w3, ?_⟩
      show ml_Q M0 (some (sx_cv1 ρ' v)) M2
      rw [sx_cvk0 (sx_nbeq.mp k1)]
      refine ⟨_, rfl, k2.1, k2.2, x3.2.2.2.2.2.1, fun a i ha h67 h53 => ?_, ?_, WF_zs M1 M2 (fun k hk => ?_) q4⟩
      · rw [fr1 a i ha (fun e => (h53 e).1)]
        exact rq_at q2 ha h67 (fun e => (h53 e).2)
      · rw [fr1 53 21 (by decide) (fun _ => by decide)]
        exact q3
      · funext i
        exact fr1 k i (cz_lt hk).1 (fun e => absurd e (cz_lt hk).2)
    · rw [eo] at w1; cases w1
  · cases rec
theorem ml_JJ (hJ : JJ M) (h : ∀ a i : Nat, a < 128 → ¬ (67 ≤ a ∧ a ≤ 71) → (a = 53 → i ≠ 33 ∧ ¬ (21 ≤ i ∧ i ≤ 25)) → M' a i = M a i) : JJ M' := by
  obtain ⟨j1, j2, j3, j4⟩ := hJ
  have e : ∀ a i : Nat, a < 128 → ¬ (67 ≤ a ∧ a ≤ 71) → a ≠ 53 → M' a i = M a i := fun a i h1 h2 h3 => h a i h1 h2 (fun e => absurd e h3)
  refine ⟨fun q hq => ?_, fun q hq => ?_, ?_, ?_⟩
  · have := j1 q hq
    dsimp only [jx0, jx1, jx2, jx3] at this ⊢
    rw [e 33 _ (by decide) (by decide) (by decide), e 33 _ (by decide) (by decide) (by decide), e 33 _ (by decide) (by decide) (by decide), e 33 _ (by decide) (by decide) (by decide)]
    exact this
  · have := j2 q hq
    dsimp only [jm0, jm1, jm2, jm3] at this ⊢
    rw [e 62 _ (by decide) (by decide) (by decide), e 63 _ (by decide) (by decide) (by decide), e 64 _ (by decide) (by decide) (by decide), e 65 _ (by decide) (by decide) (by decide)]
    exact this
  · rw [e 32 1 (by decide) (by decide) (by decide), e 32 2 (by decide) (by decide) (by decide)]
    exact j3
  · rw [h 53 14 (by decide) (by decide) (fun _ => by decide), h 53 15 (by decide) (by decide) (fun _ => by decide)]
    exact j4
def k_mlawS : ct_C := ([(2, .ofNat 53, .ofNat 53)], [], [(53, 21, .ofNat 0, .ofNat 0), (53, 22, .negSucc 2147483647, .ofNat 2147483647), (53, 23, .negSucc 2147483647, .ofNat 2147483647), (53, 24, .negSucc 2147483647, .ofNat 2147483647), (53, 25, .negSucc 2147483647, .ofNat 2147483647), (53, 33, .ofNat 0, .ofNat 1)], [67, 68, 69, 70, 71], (some (0, .negSucc 219, .ofNat 1)), 60, false)
theorem ml_ok (hL : L < 2 ^ 31) : la_sp WF L xs 173 k_mlawS := by
  intro d as M hd has hg hm hJ hW
  match as, has with
  | [a], has =>
    have ea : a = .ref 53 := by
      rcases has.1 with ⟨k0, -⟩ | ⟨k0, -⟩ | ⟨-, e⟩
      · cases k0
      · cases k0
      · exact e
    subst ea
    obtain ⟨F, r, M', e, z, rfl, z1, z2, q1, q2, q3, q4⟩ := ml_fin (xs := xs) hL hm hW
    have hd : 60 ≤ d := hd
    refine ⟨F, _, M', mt_d e (by omega), q1, fun a i ha hmod hp => q2 a i ha (fun h => hmod ?_) (fun h => ⟨fun h9 => ?_, fun h9 => ?_⟩), fun g hg => ?_, Or.inl ⟨rfl, z, rfl, ⟨z1, z2⟩, by rw [sx_r32_iff]; omega⟩, ml_JJ hJ q2, q4⟩
    · have : a = 67 ∨ a = 68 ∨ a = 69 ∨ a = 70 ∨ a = 71 := by omega
      rcases this with rfl | rfl | rfl | rfl | rfl <;> simp [k_mlawS]
    · exact hp (53, 33, .ofNat 0, .ofNat 1) (by simp [k_mlawS]) h.symm h9.symm
    · have : i = 21 ∨ i = 22 ∨ i = 23 ∨ i = 24 ∨ i = 25 := by omega
      rcases this with rfl | rfl | rfl | rfl | rfl
      · exact hp (53, 21, .ofNat 0, .ofNat 0) (by simp [k_mlawS]) h.symm rfl
      · exact hp (53, 22, .negSucc 2147483647, .ofNat 2147483647) (by simp [k_mlawS]) h.symm rfl
      · exact hp (53, 23, .negSucc 2147483647, .ofNat 2147483647) (by simp [k_mlawS]) h.symm rfl
      · exact hp (53, 24, .negSucc 2147483647, .ofNat 2147483647) (by simp [k_mlawS]) h.symm rfl
      · exact hp (53, 25, .negSucc 2147483647, .ofNat 2147483647) (by simp [k_mlawS]) h.symm rfl
    · simp only [k_mlawS, List.mem_cons, List.not_mem_nil, or_false] at hg
      rcases hg with rfl | rfl | rfl | rfl | rfl | rfl
      · show sx_w (.ofNat 0, .ofNat 0) (M' 53 21)
        rw [q3]
        exact ⟨by decide, by decide⟩
      · exact cv_ly_ok (g := (53, 22, .negSucc 2147483647, .ofNat 2147483647)) q1 (by decide +kernel)
      · exact cv_ly_ok (g := (53, 23, .negSucc 2147483647, .ofNat 2147483647)) q1 (by decide +kernel)
      · exact cv_ly_ok (g := (53, 24, .negSucc 2147483647, .ofNat 2147483647)) q1 (by decide +kernel)
      · exact cv_ly_ok (g := (53, 25, .negSucc 2147483647, .ofNat 2147483647)) q1 (by decide +kernel)
      · exact cv_ly_ok (g := (53, 33, .ofNat 0, .ofNat 1)) q1 (by decide +kernel)
  | [], has => cases has
  | _ :: _ :: _, has => cases has.2
end
