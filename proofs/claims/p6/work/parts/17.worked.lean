/-! The reference's evaluator on programs that are well formed. -/
section
variable {L : Nat} {xs : Nat → Int32} {M MM : Nat → Nat → Int}
/-- how high the pile is behind a step -/
def wf_st (M : Nat → Nat → Int) (k n : Nat) : Option Nat := if M 67 k = 1 then some (n + 1) else if M 67 k = 2 then (if 0 ≤ M 68 k ∧ M 68 k ≤ 5 then some (n + 1) else none) else if M 67 k = 3 ∨ M 67 k = 4 then (if 1 ≤ n then some n else none) else (if 2 ≤ n then some (n - 1) else none)
def wf_run (M : Nat → Nat → Int) : Nat → Nat → Nat → Option Nat
  | 0, _, n => some n
  | c + 1, k, n => match wf_st M k n with
    | some m => wf_run M c (k + 1) m
    | none => none
theorem wf_st_congr {M M' : Nat → Nat → Int} (h1 : M' 67 = M 67) (h2 : M' 68 = M 68) (k n : Nat) : wf_st M' k n = wf_st M k n := by
  unfold wf_st
  rw [h1, h2]
theorem wf_run_congr {M M' : Nat → Nat → Int} (h1 : M' 67 = M 67) (h2 : M' 68 = M 68) : ∀ (c k n : Nat), wf_run M' c k n = wf_run M c k n := by
  intro c
  induction c with
  | zero => intro k n; rfl
  | succ c ih =>
    intro k n
    show (match wf_st M' k n with
      | some m => wf_run M' c (k + 1) m
      | none => none) = (match wf_st M k n with
      | some m => wf_run M c (k + 1) m
      | none => none)
    rw [wf_st_congr h1 h2]
    cases wf_st M k n with
    | none => rfl
    | some m => exact ih _ _
def wk_c : ct_C := ([(2, 53, 53), (0, 0, 0), (0, 0, 130), (0, 0, 130)], [], [], [73], some (0, sx_r32), 4, false)
def wk_K : mt_K := (12, [(0, 2, 53, 53), (1, 0, 0, 0), (2, 0, 0, 130), (3, 0, 0, 130), (4, 0, 0, 130), (5, 0, 0, 130)], [], [], [], 0, none)
/-- from the loop's head: n from, to; act from, to; with from, to -/
def wk_q (n : Int × Int) : List ct_Q := [(2, 53, 53), (0, 0, 0), (0, 0, 130), (0, 0, 130), (0, n), (0, 0, 130)]
noncomputable def wk_t (n a w : Int × Int) : sx_S := (sx_frl (sx_frl (mt_as (wk_q n) (mt_tr [73])).2 67 (13, 0) a).2 68 (13, 0) w).2
noncomputable def wk_l (n : Int × Int) : sx_L := mt_lv (wk_K.2.1) (mt_as (wk_q n) (mt_tr [73])).1
noncomputable def wk_ck (dn : Int) (vs : List sx_V) (_ : sx_S) : Bool := match vs with
  | [_, _, a, b, e, f] => sx_an (sx_an (sx_ae a.2 (10, 0)) (sx_ae b.2 (11, 0))) (sx_an (sx_ae e.2 (12, dn)) (sx_ae f.2 (13, 1)))
  | _ => false
theorem wk_push : mw_sg cl_ly cl_rc sm_MT sm_LK [] [] 300 300 197 wk_c [wk_K] (wk_ck 1) 12 (wk_l (0, 129)) (wk_t (0, 129) (1, 1) sx_r32) = true := by decide +kernel
theorem wk_name : mw_sg cl_ly cl_rc sm_MT sm_LK [] [] 300 300 197 wk_c [wk_K] (wk_ck 1) 12 (wk_l (0, 129)) (wk_t (0, 129) (2, 2) (0, 5)) = true := by decide +kernel
theorem wk_un : mw_sg cl_ly cl_rc sm_MT sm_LK [] [] 300 300 197 wk_c [wk_K] (wk_ck 0) 12 (wk_l (1, 130)) (wk_t (1, 130) (3, 4) sx_r32) = true := by decide +kernel
theorem wk_bin0 : mw_sg cl_ly cl_rc sm_MT sm_LK [] [] 300 300 197 wk_c [wk_K] (wk_ck (-1)) 12 (wk_l (2, 130)) (wk_t (2, 130) (-128, 0) sx_r32) = true := by decide +kernel
theorem wk_bin1 : mw_sg cl_ly cl_rc sm_MT sm_LK [] [] 300 300 197 wk_c [wk_K] (wk_ck (-1)) 12 (wk_l (2, 130)) (wk_t (2, 130) (5, 127) sx_r32) = true := by decide +kernel
-- the end: k is end
def wk_q9 : List ct_Q := [(2, 53, 53), (0, 0, 0), (0, 0, 130), (0, 0, 130), (0, 0, 130)]
noncomputable def wk_t9 : sx_S := (mt_as wk_q9 (mt_tr [73])).2
def wk_l9 : sx_L := [(0, 2, 0, 53), (1, 0, 9, 0), (2, 0, 10, 0), (3, 0, 11, 0), (4, 0, 12, 0), (5, 0, 11, 0)]
theorem wk_end : mw_sg cl_ly cl_rc sm_MT sm_LK [] [] 300 300 197 wk_c [wk_K] (fun _ _ => false) 12 wk_l9 wk_t9 = true := by decide +kernel
noncomputable def wk_ck0 (vs : List sx_V) (_ : sx_S) : Bool := match vs with
  | [_, _, a, b, e, f] => sx_an (sx_an (sx_ae a.2 (10, 0)) (sx_ae b.2 (11, 0))) (sx_an (sx_ae e.2 (0, 0)) (sx_ae f.2 (10, 0)))
  | _ => false
theorem wk_ini : mw_sg cl_ly cl_rc sm_MT sm_LK [] [] 300 300 197 wk_c [wk_K] wk_ck0 0 (sx_args 0 (mt_as wk_c.1 (mt_tr [])).1) (mt_as wk_c.1 (mt_tr [])).2 = true := by decide +kernel
def wk_vs (first fin n k : Int) : List Value := [.ref 53, .int (Int32.ofInt 0), .int (Int32.ofInt first), .int (Int32.ofInt fin), .int (Int32.ofInt n), .int (Int32.ofInt k)]
def wk_fin (L : Nat) (xs : Nat → Int32) (MM : Nat → Nat → Int) (pc : Nat) (lv : sm_V) (h : sm_H) : Prop := mt_fin sm_MT sm_LK (sm_RO L xs) sm_NV sm_cq cl_ly cl_lay cl_rf MM wk_c 197 pc lv [] h
theorem wk_agr (hfr : ct_fr wk_c MM M) : mt_agr [73] MM M := fun a ha hm => by
  funext i
  exact hfr a i ha hm (fun g hg => by cases hg)
theorem wk_int {z lo hi : Int} (h1 : lo ≤ z) (h2 : z ≤ hi) (h3 : -2147483648 ≤ lo) (h4 : hi ≤ 2147483647) : ct_v (0, lo, hi) (.int (Int32.ofInt z)) := Or.inl ⟨rfl, z, rfl, ⟨h1, h2⟩, by rw [sx_r32_iff]; omega⟩
theorem wk_ref : ct_v (2, 53, 53) (.ref 53) := Or.inr (Or.inr ⟨rfl, rfl⟩)
theorem wk_case {first fin n k : Int} {nr a w : Int × Int} {dn : Int} (hL : L < 2 ^ 31) (hchk : mw_sg cl_ly cl_rc sm_MT sm_LK [] [] 300 300 197 wk_c [wk_K] (wk_ck dn) 12 (wk_l nr) (wk_t nr a w) = true) (hm : sx_mok cl_ly M) (hfr : ct_fr wk_c MM M) (h1 : 0 ≤ first ∧ first ≤ 130) (h2 : 0 ≤ fin ∧ fin ≤ 130) (h3 : nr.1 ≤ n ∧ n ≤ nr.2) (h3' : 0 ≤ nr.1 ∧ nr.2 ≤ 130) (h4 : 0 ≤ k ∧ k ≤ 130) (ha : sx_w a (M 67 k.toNat)) (hw : sx_w w (M 68 k.toNat)) (ha4 : sx_in a sx_r64 = true) (hw4 : sx_in w sx_r64 = true) (next : ∀ M3, sx_mok cl_ly M3 → ct_fr wk_c MM M3 → wk_fin L xs MM 12 (mt_zv wk_K.2.1 (wk_vs first fin (n + dn) (k + 1))) (sx_HH cl_lay cl_rf M3)) : wk_fin L xs MM 12 (mt_zv wk_K.2.1 (wk_vs first fin n k)) (sx_HH cl_lay cl_rf M) := by
  have hvs : ct_vs (wk_q nr) (wk_vs first fin n k) := ⟨wk_ref, wk_int (by omega) (by omega) (by decide) (by decide), wk_int h1.1 h1.2 (by decide) (by decide), wk_int h2.1 h2.2 (by decide) (by decide), wk_int h3.1 h3.2 (by omega) (by omega), wk_int h4.1 h4.2 (by decide) (by decide), trivial⟩
  have hmod : ∀ a ∈ ([73] : List Nat), a < 128 := fun a ha => by
    rw [List.mem_singleton.mp ha]; decide
  obtain ⟨ρ1, a1, a2, a3, a4, a5⟩ := mt_as_ok hvs (mt_tr_sat (xs := xs) hL hmod hm (wk_agr hfr))
  have e1 : (mt_as (wk_q nr) (mt_tr [73])).1 = [(2, 0, 53), (0, 9, 0), (0, 10, 0), (0, 11, 0), (0, 12, 0), (0, 13, 0)] := rfl
  have e2 : (mt_as (wk_q nr) (mt_tr [73])).2.1 = 14 := rfl
  have v4 := a4
  rw [e1] at v4
  have w32 : ∀ s, s < 14 → s = 10 ∨ s = 11 ∨ s = 12 ∨ s = 13 → sx_w sx_r32 (ρ1 s) := by
    intro s hs h9
    have ho := a5
    rw [e1] at ho
    have : sx_ok ρ1 (mt_as (wk_q nr) (mt_tr [73])).2.1 (0, s, 0) := ho _ (by
      rcases h9 with rfl | rfl | rfl | rfl <;> simp)
    have := this.2.1 rfl
    unfold sx_val at this
    rw [Int.add_zero] at this
    exact this
  have inj : ∀ {x y : Int}, sx_w sx_r32 x → sx_w sx_r32 y → Value.int (Int32.ofInt x) = Value.int (Int32.ofInt y) → x = y := by
    intro x y hx hy h9
    have := congrArg Int32.toInt (Value.int.inj h9)
    rw [sx_i32 hx, sx_i32 hy] at this
    exact this
  have vl : ∀ s : Nat, sx_cv1 ρ1 (0, s, 0) = Value.int (Int32.ofInt (ρ1 s)) := fun s => by
    rw [sx_cvk0 rfl]
    show Value.int (Int32.ofInt (ρ1 s + 0)) = _
    rw [Int.add_zero]
  have v4' : [Value.ref 53, sx_cv1 ρ1 (0, 9, 0), sx_cv1 ρ1 (0, 10, 0), sx_cv1 ρ1 (0, 11, 0), sx_cv1 ρ1 (0, 12, 0), sx_cv1 ρ1 (0, 13, 0)] = wk_vs first fin n k := v4
  unfold wk_vs at v4'
  simp only [vl, List.cons.injEq, and_true, true_and] at v4'
  obtain ⟨-, q10, q11, q12, q13⟩ := v4'
  have q10 := inj (w32 10 (by omega) (by omega)) (by rw [sx_r32_iff]; omega) q10
  have q11 := inj (w32 11 (by omega) (by omega)) (by rw [sx_r32_iff]; omega) q11
  have q12 := inj (w32 12 (by omega) (by omega)) (by rw [sx_r32_iff]; omega) q12
  have q13 := inj (w32 13 (by omega) (by omega)) (by rw [sx_r32_iff]; omega) q13
  have hv13 : sx_val ρ1 (13, 0) = k := by unfold sx_val; rw [q13]; exact Int.add_zero _
  have a4i := sx_in_iff.mp ha4
  have w4i := sx_in_iff.mp hw4
  have s1 := sx_frl_ok a3 (k := 67) (i := (13, 0)) (by decide) (by rw [e2]; exact Nat.lt_succ_self 13) (by rw [hv13]; exact h4.1) (r := a) (by rw [hv13]; exact ha) (by rw [hv13]; exact ⟨Int.le_trans a4i.1 ha.1, Int.le_trans ha.2 a4i.2⟩)
  rw [hv13] at s1
  have x1 : sx_ext 14 ρ1 (sx_nu ρ1 14 (M 67 k.toNat)) := sx_nu_ext
  have hv13' : sx_val (sx_nu ρ1 14 (M 67 k.toNat)) (13, 0) = k := by rw [sx_ext_val x1 (by decide)]; exact hv13
  have s2 := sx_frl_ok s1 (k := 68) (i := (13, 0)) (by decide) (show 13 < 15 by decide) (by rw [show sx_val (sx_nu ρ1 (mt_as (wk_q nr) (mt_tr [73])).2.1 (M 67 k.toNat)) (13, 0) = k from hv13']; exact h4.1) (r := w) (by rw [show sx_val (sx_nu ρ1 (mt_as (wk_q nr) (mt_tr [73])).2.1 (M 67 k.toNat)) (13, 0) = k from hv13']; exact hw) (by rw [show sx_val (sx_nu ρ1 (mt_as (wk_q nr) (mt_tr [73])).2.1 (M 67 k.toNat)) (13, 0) = k from hv13']; exact ⟨Int.le_trans w4i.1 hw.1, Int.le_trans hw.2 w4i.2⟩)
  generalize hR : sx_nu (sx_nu ρ1 (mt_as (wk_q nr) (mt_tr [73])).2.1 (M 67 k.toNat)) (sx_frl (mt_as (wk_q nr) (mt_tr [73])).2 67 (13, 0) a).2.1 (M 68 (sx_val (sx_nu ρ1 (mt_as (wk_q nr) (mt_tr [73])).2.1 (M 67 k.toNat)) (13, 0)).toNat) = ρ2 at s2
  have x2 : sx_ext 14 ρ1 ρ2 := by
    rw [← hR]
    exact sx_ext_tr x1 (sx_nu_ext (n := 15)) (by omega)
  have okl : sx_okl ρ2 (wk_t nr a w).1 (wk_l nr) := mt_lv_okl (sx_ext_oks x2 (show 14 ≤ 16 by decide) a5)
  have lvz : sx_cl1 ρ2 (wk_l nr) = mt_zv wk_K.2.1 (wk_vs first fin n k) := by
    show sx_cl1 ρ2 (mt_lv wk_K.2.1 (mt_as (wk_q nr) (mt_tr [73])).1) = _
    rw [mt_lv_cl, sx_ext_cs x2 a5, a4]
  have r10 : ρ2 10 = first := by rw [x2 10 (by decide)]; exact q10
  have r11 : ρ2 11 = fin := by rw [x2 11 (by decide)]; exact q11
  have r12 : ρ2 12 = n := by rw [x2 12 (by decide)]; exact q12
  have r13 : ρ2 13 = k := by rw [x2 13 (by decide)]; exact q13
  have fin9 := mw_sg_ok (II := fun _ => True) (zs := []) (RO := sm_RO L xs) (NV := sm_NV) (cq := sm_cq) cl_lok cl_hrf (cl_hro L xs) (fun _ _ _ _ => trivial) (fun _ => trivial) (fun c hc => by cases hc) (fun K hK => by rw [List.mem_singleton.mp hK]; decide) hchk s2 hfr okl (fun K hK vs ρ' t' M3 hx hle hsat hoks hck hvs' _ _ hm' hfr' => by
    rw [List.mem_singleton.mp hK] at hvs' ⊢
    have he : sx_cs1 ρ' vs = wk_vs first fin (n + dn) (k + 1) := by
      unfold wk_ck at hck
      split at hck
      · rename_i p0 p1 b0 b1 b2 b3
        obtain ⟨c1, c2⟩ := sx_an_iff.mp hck
        obtain ⟨c1, c3⟩ := sx_an_iff.mp c1
        obtain ⟨c2, c4⟩ := sx_an_iff.mp c2
        obtain ⟨g0, g1, g2, g3, g4, g5, -⟩ := hvs'
        have val : ∀ {v : sx_V} {lo hi : Int}, ct_v (0, lo, hi) (sx_cv1 ρ' v) → sx_cv1 ρ' v = Value.int (Int32.ofInt (sx_val ρ' v.2)) := by
          intro v lo hi hv
          by_cases k0 : v.1 = 0
          · exact sx_cvk0 k0
          · rcases hv with ⟨-, z, e, -⟩ | ⟨k1, -⟩ | ⟨k1, -⟩
            · by_cases k1 : v.1 = 1
              · rw [sx_cvk1 k1] at e; cases e
              · exfalso
                obtain ⟨vk, va⟩ := v
                match vk, k0, k1, e with
                | 0, k0, _, _ => exact k0 rfl
                | 1, _, k1, _ => exact k1 rfl
                | vk + 2, _, _, e => cases e
            · cases k1
            · cases k1
        have y : ∀ s, s < 16 → ρ' s = ρ2 s := fun s hs => hx s hs
        have z0 : sx_cv1 ρ' p0 = Value.ref 53 := by
          rcases g0 with ⟨k1, -⟩ | ⟨k1, -⟩ | ⟨-, e⟩
          · cases k1
          · cases k1
          · exact e
        have z1 : sx_cv1 ρ' p1 = Value.int (Int32.ofInt 0) := by
          rcases g1 with ⟨-, z, e, hz, -⟩ | ⟨k1, -⟩ | ⟨k1, -⟩
          · have : z = 0 := Int.le_antisymm hz.2 hz.1
            rw [e, this]
          · cases k1
          · cases k1
        show [sx_cv1 ρ' p0, sx_cv1 ρ' p1, sx_cv1 ρ' b0, sx_cv1 ρ' b1, sx_cv1 ρ' b2, sx_cv1 ρ' b3] = _
        rw [z0, z1, val g2, val g3, val g4, val g5, sx_ae_iff.mp c1, sx_ae_iff.mp c3, sx_ae_iff.mp c2, sx_ae_iff.mp c4]
        unfold sx_val wk_vs
        rw [y 10 (by decide), y 11 (by decide), y 12 (by decide), y 13 (by decide), r10, r11, r12, r13, Int.add_zero, Int.add_zero]
      · cases hck
    rw [he]
    exact next M3 hm' hfr')
  rw [lvz] at fin9
  exact fin9
end
