/-! The reference's evaluator: worked and gives. -/
section
variable {L : Nat} {xs : Nat → Int32} {M MM : Nat → Nat → Int}
theorem wk_m67 (hm : sx_mok cl_ly M) {k : Nat} (hk : k < 260) : sx_w (-128, 127) (M 67 k) := hm 67 _ k _ rfl hk rfl
theorem wk_m68 (hm : sx_mok cl_ly M) {k : Nat} (hk : k < 260) : sx_w sx_r32 (M 68 k) := hm 68 _ k _ rfl hk rfl
theorem wk_end_ok {first fin n : Int} (hL : L < 2 ^ 31) (hm : sx_mok cl_ly M) (hfr : ct_fr wk_c MM M) (h1 : 0 ≤ first ∧ first ≤ 130) (h2 : 0 ≤ fin ∧ fin ≤ 130) (h3 : 0 ≤ n ∧ n ≤ 130) : wk_fin L xs MM 12 (mt_zv wk_K.2.1 (wk_vs first fin n fin)) (sx_HH cl_lay cl_rf M) := by
  have hvs : ct_vs wk_q9 [.ref 53, .int (Int32.ofInt 0), .int (Int32.ofInt first), .int (Int32.ofInt fin), .int (Int32.ofInt n)] := ⟨wk_ref, wk_int (by omega) (by omega) (by decide) (by decide), wk_int h1.1 h1.2 (by decide) (by decide), wk_int h2.1 h2.2 (by decide) (by decide), wk_int h3.1 h3.2 (by decide) (by decide), trivial⟩
  have hmod : ∀ a ∈ ([73] : List Nat), a < 128 := fun a ha => by
    rw [List.mem_singleton.mp ha]; decide
  obtain ⟨ρ1, a1, a2, a3, a4, a5⟩ := mt_as_ok hvs (mt_tr_sat (xs := xs) hL hmod hm (wk_agr hfr))
  have e1 : (mt_as wk_q9 (mt_tr [73])).1 = [(2, 0, 53), (0, 9, 0), (0, 10, 0), (0, 11, 0), (0, 12, 0)] := rfl
  rw [e1] at a4 a5
  have okl : sx_okl ρ1 wk_t9.1 wk_l9 := by
    intro q hq
    simp only [wk_l9, List.mem_cons, List.not_mem_nil, or_false] at hq
    rcases hq with rfl | rfl | rfl | rfl | rfl | rfl
    all_goals exact a5 _ (by simp)
  have lvz : sx_cl1 ρ1 wk_l9 = mt_zv wk_K.2.1 (wk_vs first fin n fin) := by
    have v4 : [sx_cv1 ρ1 (2, 0, 53), sx_cv1 ρ1 (0, 9, 0), sx_cv1 ρ1 (0, 10, 0), sx_cv1 ρ1 (0, 11, 0), sx_cv1 ρ1 (0, 12, 0)] = [.ref 53, .int (Int32.ofInt 0), .int (Int32.ofInt first), .int (Int32.ofInt fin), .int (Int32.ofInt n)] := a4
    simp only [List.cons.injEq, and_true] at v4
    obtain ⟨v0, v1, v2, v3, v4⟩ := v4
    show [(0, sx_cv1 ρ1 (2, 0, 53)), (1, sx_cv1 ρ1 (0, 9, 0)), (2, sx_cv1 ρ1 (0, 10, 0)), (3, sx_cv1 ρ1 (0, 11, 0)), (4, sx_cv1 ρ1 (0, 12, 0)), (5, sx_cv1 ρ1 (0, 11, 0))] = _
    rw [v0, v1, v2, v3, v4]
    rfl
  have fin9 := mw_sg_ok (II := fun _ => True) (zs := []) (RO := sm_RO L xs) (NV := sm_NV) (cq := sm_cq) cl_lok cl_hrf (cl_hro L xs) (fun _ _ _ _ => trivial) (fun _ => trivial) (fun c hc => by cases hc) (fun K hK => by rw [List.mem_singleton.mp hK]; decide) wk_end a3 hfr okl (fun K hK vs ρ' t' M3 hx hle hsat hoks hck hvs' _ _ hm' hfr' => by cases hck)
  rw [lvz] at fin9
  exact fin9
theorem wk_main (hL : L < 2 ^ 31) : ∀ (m first fin k n : Nat) (M : Nat → Nat → Int), fin - k = m → k ≤ fin → fin ≤ 130 → first ≤ 130 → n ≤ k → sx_mok cl_ly M → ct_fr wk_c MM M → (wf_run M (fin - k) k n).isSome = true → wk_fin L xs MM 12 (mt_zv wk_K.2.1 (wk_vs (first : Int) (fin : Int) (n : Int) (k : Int))) (sx_HH cl_lay cl_rf M) := by
  intro m
  induction m with
  | zero =>
    intro first fin k n M h1 h2 h3 h4 h5 hm hfr _
    have : k = fin := by omega
    subst this
    exact wk_end_ok hL hm hfr (by omega) (by omega) (by omega)
  | succ m ih =>
    intro first fin k n M h1 h2 h3 h4 h5 hm hfr hw
    rw [h1] at hw
    have hw : (match wf_st M k n with
      | some n' => wf_run M m (k + 1) n'
      | none => none).isSome = true := hw
    have kt : ((k : Int)).toNat = k := rfl
    have w7 := wk_m67 hm (k := k) (by omega)
    have w8 := wk_m68 hm (k := k) (by omega)
    have go : ∀ {nr a w : Int × Int} {dn : Int} {n' : Nat}, mw_sg cl_ly cl_rc sm_MT sm_LK [] [] 300 300 197 wk_c [wk_K] (wk_ck dn) 12 (wk_l nr) (wk_t nr a w) = true → wf_st M k n = some n' → (n' : Int) = n + dn → n' ≤ k + 1 → nr.1 ≤ n ∧ (n : Int) ≤ nr.2 → 0 ≤ nr.1 ∧ nr.2 ≤ 130 → sx_w a (M 67 k) → sx_w w (M 68 k) → sx_in a sx_r64 = true → sx_in w sx_r64 = true → wk_fin L xs MM 12 (mt_zv wk_K.2.1 (wk_vs (first : Int) (fin : Int) (n : Int) (k : Int))) (sx_HH cl_lay cl_rf M) := by
      intro nr a w dn n' hc hst hn hle hr hr' ha hb ha4 hb4
      rw [hst] at hw
      refine wk_case hL hc hm hfr (by omega) (by omega) hr hr' (by omega) (by rw [kt]; exact ha) (by rw [kt]; exact hb) ha4 hb4 (fun M3 hm3 hfr3 => ?_)
      have f67 : M3 67 = M 67 := by
        funext i
        exact (hfr3 67 i (by decide) (by decide) (fun g hg => by cases hg)).trans (hfr 67 i (by decide) (by decide) (fun g hg => by cases hg)).symm
      have f68 : M3 68 = M 68 := by
        funext i
        exact (hfr3 68 i (by decide) (by decide) (fun g hg => by cases hg)).trans (hfr 68 i (by decide) (by decide) (fun g hg => by cases hg)).symm
      have := ih first fin (k + 1) n' M3 (by omega) (by omega) h3 h4 hle hm3 hfr3 (by
        rw [show fin - (k + 1) = m by omega, wf_run_congr f67 f68]
        exact hw)
      rw [← hn]
      push_cast at this ⊢
      exact this
    cases hst : wf_st M k n with
    | none => rw [hst] at hw; cases hw
    | some n' =>
      have hst0 := hst
      unfold wf_st at hst
      by_cases c1 : M 67 k = 1
      · rw [if_pos c1] at hst
        cases hst
        exact go wk_push hst0 (by push_cast; rfl) (by omega) ⟨by show (0 : Int) ≤ n; omega, by show (n : Int) ≤ 129; omega⟩ ⟨by decide, by decide⟩ (by rw [c1]; exact ⟨by decide, by decide⟩) w8 (by decide) (by decide)
      · rw [if_neg c1] at hst
        by_cases c2 : M 67 k = 2
        · rw [if_pos c2] at hst
          by_cases c3 : 0 ≤ M 68 k ∧ M 68 k ≤ 5
          · rw [if_pos c3] at hst
            cases hst
            exact go wk_name hst0 (by push_cast; rfl) (by omega) ⟨by show (0 : Int) ≤ n; omega, by show (n : Int) ≤ 129; omega⟩ ⟨by decide, by decide⟩ (by rw [c2]; exact ⟨by decide, by decide⟩) c3 (by decide) (by decide)
          · rw [if_neg c3] at hst; cases hst
        · rw [if_neg c2] at hst
          by_cases c3 : M 67 k = 3 ∨ M 67 k = 4
          · rw [if_pos c3] at hst
            by_cases c4 : 1 ≤ n
            · rw [if_pos c4] at hst
              cases hst
              exact go wk_un hst0 (by omega) (by omega) ⟨by show (1 : Int) ≤ n; omega, by show (n : Int) ≤ 130; omega⟩ ⟨by decide, by decide⟩ (by rcases c3 with c3 | c3 <;> rw [c3] <;> exact ⟨by decide, by decide⟩) w8 (by decide) (by decide)
            · rw [if_neg c4] at hst; cases hst
          · rw [if_neg c3] at hst
            by_cases c4 : 2 ≤ n
            · rw [if_pos c4] at hst
              cases hst
              have w71 : (-128 : Int) ≤ M 67 k := w7.1
              have w72 : M 67 k ≤ (127 : Int) := w7.2
              by_cases c5 : M 67 k ≤ 0
              · exact go wk_bin0 hst0 (by omega) (by omega) ⟨by show (2 : Int) ≤ n; omega, by show (n : Int) ≤ 130; omega⟩ ⟨by decide, by decide⟩ ⟨w71, c5⟩ w8 (by decide) (by decide)
              · exact go wk_bin1 hst0 (by omega) (by omega) ⟨by show (2 : Int) ≤ n; omega, by show (n : Int) ≤ 130; omega⟩ ⟨by decide, by decide⟩ ⟨by show (5 : Int) ≤ _; omega, w72⟩ w8 (by decide) (by decide)
            · rw [if_neg c4] at hst; cases hst
/-- worked -/
theorem wk_ok (hL : L < 2 ^ 31) {first fin : Nat} (h1 : first ≤ fin) (h2 : fin ≤ 130) (hm : sx_mok cl_ly M) (hw : (wf_run M (fin - first) first 0).isSome = true) : ∃ F r M', sm_run sm_MT sm_LK (sm_RO L xs) sm_NV sm_cq F 4 197 0 (lv_args 0 [.ref 53, .int 0, .int (Int32.ofInt (first : Int)), .int (Int32.ofInt (fin : Int))]) [] (sx_HH cl_lay cl_rf M) = some (some (.int r), sx_HH cl_lay cl_rf M') ∧ sx_mok cl_ly M' ∧ ct_fr wk_c M M' := by
  have hvs : ct_vs wk_c.1 [.ref 53, .int 0, .int (Int32.ofInt (first : Int)), .int (Int32.ofInt (fin : Int))] := ⟨wk_ref, wk_int (z := 0) (by omega) (by omega) (by decide) (by decide), wk_int (by omega) (by omega) (by decide) (by decide), wk_int (by omega) (by omega) (by decide) (by decide), trivial⟩
  obtain ⟨ρ1, a1, a2, a3, a4, a5⟩ := mt_as_ok hvs (mt_tr_sat (MM := M) (mod := []) (xs := xs) hL (fun a ha => by cases ha) hm (fun a _ _ => rfl))
  have e1 : (mt_as wk_c.1 (mt_tr [])).1 = [(2, 0, 53), (0, 9, 0), (0, 10, 0), (0, 11, 0)] := rfl
  have v4 := a4
  rw [e1] at v4
  have v4 : [sx_cv1 ρ1 (2, 0, 53), sx_cv1 ρ1 (0, 9, 0), sx_cv1 ρ1 (0, 10, 0), sx_cv1 ρ1 (0, 11, 0)] = [.ref 53, .int 0, .int (Int32.ofInt (first : Int)), .int (Int32.ofInt (fin : Int))] := v4
  simp only [List.cons.injEq, and_true] at v4
  obtain ⟨-, -, v2, v3⟩ := v4
  have hfr0 : ct_fr wk_c M M := fun _ _ _ _ _ => rfl
  have fin9 := mw_sg_ok (II := fun _ => True) (zs := []) (RO := sm_RO L xs) (NV := sm_NV) (cq := sm_cq) cl_lok cl_hrf (cl_hro L xs) (fun _ _ _ _ => trivial) (fun _ => trivial) (fun c hc => by cases hc) (fun K hK => by rw [List.mem_singleton.mp hK]; decide) wk_ini a3 hfr0 (sx_args_okl a5) (fun K hK vs ρ' t' M3 hx hle hsat hoks hck hvs' _ _ hm' hfr' => by
    rw [List.mem_singleton.mp hK] at hvs' ⊢
    have he : sx_cs1 ρ' vs = wk_vs (first : Int) (fin : Int) 0 (first : Int) := by
      unfold wk_ck0 at hck
      split at hck
      · rename_i p0 p1 b0 b1 b2 b3
        obtain ⟨c1, c2⟩ := sx_an_iff.mp hck
        obtain ⟨c1, c3⟩ := sx_an_iff.mp c1
        obtain ⟨c2, c4⟩ := sx_an_iff.mp c2
        obtain ⟨g0, g1, g2, g3, g4, g5, -⟩ := hvs'
        have kd : ∀ {v : sx_V} {lo hi : Int}, ct_v (0, lo, hi) (sx_cv1 ρ' v) → v.1 = 0 := by
          intro v lo hi hv
          by_cases k0 : v.1 = 0
          · exact k0
          · rcases hv with ⟨-, z, e, -⟩ | ⟨k1, -⟩ | ⟨k1, -⟩
            · by_cases k1 : v.1 = 1
              · rw [sx_cvk1 k1] at e; cases e
              · exfalso
                obtain ⟨vk, va⟩ := v
                match vk, k0, k1, e with
                | 0, k0, _, _ => exact k0 rfl
                | 1, _, k1, _ => exact k1 rfl
                | vk + 2, _, _, e => cases e
            · cases k1
            · cases k1
        have z0 : sx_cv1 ρ' p0 = Value.ref 53 := by
          rcases g0 with ⟨k1, -⟩ | ⟨k1, -⟩ | ⟨-, e⟩
          · cases k1
          · cases k1
          · exact e
        have z1 : sx_cv1 ρ' p1 = Value.int (Int32.ofInt 0) := by
          rcases g1 with ⟨-, z, e, hz, -⟩ | ⟨k1, -⟩ | ⟨k1, -⟩
          · have : z = 0 := Int.le_antisymm hz.2 hz.1
            rw [e, this]
          · cases k1
          · cases k1
        have y : ∀ s, s < 12 → ρ' s = ρ1 s := fun s hs => hx s hs
        have u2 : Value.int (Int32.ofInt (ρ1 10 + 0)) = .int (Int32.ofInt (first : Int)) := v2
        have u3 : Value.int (Int32.ofInt (ρ1 11 + 0)) = .int (Int32.ofInt (fin : Int)) := v3
        show [sx_cv1 ρ' p0, sx_cv1 ρ' p1, sx_cv1 ρ' b0, sx_cv1 ρ' b1, sx_cv1 ρ' b2, sx_cv1 ρ' b3] = _
        rw [z0, z1, sx_cvk0 (kd g2), sx_cvk0 (kd g3), sx_cvk0 (kd g4), sx_cvk0 (kd g5), sx_ae_iff.mp c1, sx_ae_iff.mp c3, sx_ae_iff.mp c2, sx_ae_iff.mp c4, sx_v0 hsat]
        unfold sx_val wk_vs
        show [_, _, Value.int (Int32.ofInt (ρ' 10 + 0)), Value.int (Int32.ofInt (ρ' 11 + 0)), _, Value.int (Int32.ofInt (ρ' 10 + 0))] = _
        rw [y 10 (by decide), y 11 (by decide), u2, u3]
      · cases hck
    rw [he]
    exact wk_main hL (fin - first) first fin first 0 M3 rfl h1 h2 (by omega) (Nat.zero_le _) hm' hfr' (by
      have f67 : M3 67 = M 67 := by
        funext i
        exact hfr' 67 i (by decide) (by decide) (fun g hg => by cases hg)
      have f68 : M3 68 = M 68 := by
        funext i
        exact hfr' 68 i (by decide) (by decide) (fun g hg => by cases hg)
      rw [wf_run_congr f67 f68]
      exact hw))
  rw [← sx_args_ok, a4] at fin9
  obtain ⟨F, r, M', f1, f2, f3, -, f5⟩ := fin9
  cases r with
  | none => cases f5
  | some v =>
    rcases f5 with ⟨-, z, e, -⟩ | ⟨k1, -⟩ | ⟨k1, -⟩
    · rw [e] at f1
      exact ⟨F, _, M', f1, f2, f3⟩
    · cases k1
    · cases k1
end
