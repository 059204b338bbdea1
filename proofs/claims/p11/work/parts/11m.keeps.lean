/-! Contracts of those that change what an invariant speaks of. -/
section
variable {JJ : (Nat → Nat → Int) → Prop} {MT : Nat → sm_M} {LK : Nat → Nat → Option sm_L} {RO : List (Nat × (Nat → Int32))} {NV : Nat → List Value} {cq : Nat} {ly : Nat → Option sx_H} {xs : Nat → Int32} {L : Nat} {MM : Nat → Nat → Int} {lay : List sx_H} {rf : Nat → Nat → Option Nat} {rc : List (List Int)}
def ct_oki (MT : Nat → sm_M) (LK : Nat → Nat → Option sm_L) (RO : List (Nat × (Nat → Int32))) (NV : Nat → List Value) (cq : Nat) (ly : Nat → Option sx_H) (lay : List sx_H) (rf : Nat → Nat → Option Nat) (JJ : (Nat → Nat → Int) → Prop) (k : Nat) (c : ct_C) : Prop :=
  ∀ d as M, c.2.2.2.2.2.1 ≤ d → ct_vs c.1 as → ct_g c.2.1 M → sx_mok ly M → JJ M → ∃ F r M', sm_run MT LK RO NV cq F d k 0 (lv_args 0 as) [] (sx_HH lay rf M) = some (r, sx_HH lay rf M') ∧ sx_mok ly M' ∧ ct_fr c M M' ∧ ct_g c.2.2.1 M' ∧ ct_r c.2.2.2.2.1 r ∧ JJ M'
theorem ci_sub_ok {k : Nat} {c c' : ct_C} (h : cv_sub ly c c' = true) (hc : ct_oki MT LK RO NV cq ly lay rf JJ k c') : ct_oki MT LK RO NV cq ly lay rf JJ k c := by
  intro d as M hd has hpre hm hI
  obtain ⟨h1, h⟩ := sx_an_iff.mp h
  obtain ⟨h2, h⟩ := sx_an_iff.mp h
  obtain ⟨h3, h⟩ := sx_an_iff.mp h
  obtain ⟨h3, h4⟩ := sx_an_iff.mp h3
  obtain ⟨h5, h⟩ := sx_an_iff.mp h
  obtain ⟨h6, h⟩ := sx_an_iff.mp h
  obtain ⟨h7, h8⟩ := sx_an_iff.mp h
  obtain ⟨F, r, M', x1, x2, x3, x4, x5, x6⟩ := hc d as M (Nat.le_trans (Nat.le_of_ble_eq_true h7) hd) (cv_qs_ok h1 has) (fun g' hg' => by
    have k1 := List.all_eq_true.mp h2 g' hg'
    cases e : c.2.1.any (fun g => sx_an (cv_pl g g') (sx_in g.2.2 g'.2.2))
    · rw [e] at k1
      exact cv_ly_ok hm k1
    · obtain ⟨g, hg, k2⟩ := List.any_eq_true.mp e
      obtain ⟨k2, k3⟩ := sx_an_iff.mp k2
      obtain ⟨k4, k5⟩ := cv_pl_ok k2
      have k3 := sx_in_iff.mp k3
      have := hpre g hg
      rw [k4, k5] at this
      exact ⟨Int.le_trans k3.1 this.1, Int.le_trans this.2 k3.2⟩) hm hI
  refine ⟨F, r, M', x1, x2, fun a i ha hmod hp => x3 a i ha (fun hmem => hmod (cv_any (List.all_eq_true.mp h3 a hmem))) (fun g' hg' e1 e2 => ?_), fun g hg => ?_, ?_, x6⟩
  · have k1 := List.all_eq_true.mp h4 g' hg'
    cases e : c.2.2.2.1.any (Nat.beq g'.1)
    · rw [e] at k1
      obtain ⟨g, hg, k2⟩ := List.any_eq_true.mp k1
      obtain ⟨k4, k5⟩ := cv_pl_ok k2
      exact hp g hg (k4.trans e1) (k5.trans e2)
    · exact hmod (by rw [← e1]; exact cv_any e)
  · have k1 := List.all_eq_true.mp h5 g hg
    cases e : c'.2.2.1.any (fun g' => sx_an (cv_pl g g') (sx_in g'.2.2 g.2.2))
    · rw [e] at k1
      cases e9 : cv_ly ly g
      · rw [e9] at k1
        exact cv_st_ok k1 x3 hpre
      · exact cv_ly_ok x2 e9
    · obtain ⟨g', hg', k2⟩ := List.any_eq_true.mp e
      obtain ⟨k2, k3⟩ := sx_an_iff.mp k2
      obtain ⟨k4, k5⟩ := cv_pl_ok k2
      have k3 := sx_in_iff.mp k3
      have := x4 g' hg'
      rw [k4, k5]
      exact ⟨Int.le_trans k3.1 this.1, Int.le_trans this.2 k3.2⟩
  · cases e1 : c.2.2.2.2.1 with
    | none =>
      cases e2 : c'.2.2.2.2.1 with
      | none => rw [e2] at x5; exact x5
      | some q' => rw [e1, e2] at h6; cases h6
    | some q =>
      cases e2 : c'.2.2.2.2.1 with
      | none => rw [e1, e2] at h6; cases h6
      | some q' =>
        rw [e1, e2] at h6
        rw [e2] at x5
        cases r with
        | none => cases x5
        | some v => exact cv_q_ok h6 x5
theorem ci_a_ok {k : Nat} {c : ct_C} {i : Nat} {ms : List ((Int × Int) × ct_C)} (hall : ∀ m ∈ ms, ct_oki MT LK RO NV cq ly lay rf JJ k m.2) (h : cv_a ly c i ms = true) : ct_oki MT LK RO NV cq ly lay rf JJ k c := by
  unfold cv_a at h
  cases e : c.1[i]? with
  | none => rw [e] at h; cases h
  | some q =>
    rw [e] at h
    obtain ⟨h1, h⟩ := sx_an_iff.mp h
    obtain ⟨h2, h3⟩ := sx_an_iff.mp h
    intro d as M hd has hpre hm hI
    obtain ⟨v, v1, v2, v3⟩ := cv_seta_ok e (Nat.le_of_ble_eq_true h1) has
    obtain ⟨r, hr, r1, r2⟩ := cv_r_ok h2 v1 v2
    obtain ⟨m, hmm, rfl⟩ := List.mem_map.mp hr
    exact ci_sub_ok (c := (cv_seta m.1 c.1 i, c.2)) (List.all_eq_true.mp h3 m hmm) (hall m hmm) d as M hd (v3 _ r1 r2) hpre hm hI
theorem ci_g_ok {k : Nat} {c : ct_C} {i : Nat} {ms : List ((Int × Int) × ct_C)} (hall : ∀ m ∈ ms, ct_oki MT LK RO NV cq ly lay rf JJ k m.2) (h : cv_g ly c i ms = true) : ct_oki MT LK RO NV cq ly lay rf JJ k c := by
  unfold cv_g at h
  cases e : c.2.1[i]? with
  | none => rw [e] at h; cases h
  | some q =>
    rw [e] at h
    obtain ⟨h2, h3⟩ := sx_an_iff.mp h
    intro d as M hd has hpre hm hI
    have hq := hpre q (List.mem_of_getElem? e)
    obtain ⟨r, hr, r1, r2⟩ := cv_r_ok h2 hq.1 hq.2
    obtain ⟨m, hmm, rfl⟩ := List.mem_map.mp hr
    exact ci_sub_ok (c := (c.1, cv_setg m.1 c.2.1 i, c.2.2)) (List.all_eq_true.mp h3 m hmm) (hall m hmm) d as M hd has (cv_setg_ok e hpre r1 r2) hm hI
/-- one of them fits -/
theorem ci_j_ok {k : Nat} {c : ct_C} {ms : List ct_C} (hall : ∀ m ∈ ms, ct_oki MT LK RO NV cq ly lay rf JJ k m) (hsel : ∀ M, sx_mok ly M → JJ M → ct_g c.2.1 M → ∃ m ∈ ms, ct_g m.2.1 M) (h : ms.all (fun m => cv_sub ly (c.1, m.2.1 ++ c.2.1, c.2.2) m) = true) : ct_oki MT LK RO NV cq ly lay rf JJ k c := by
  intro d as M hd has hpre hm hI
  obtain ⟨m, hmm, hg⟩ := hsel M hm hI hpre
  exact ci_sub_ok (c := (c.1, m.2.1 ++ c.2.1, c.2.2)) (List.all_eq_true.mp h m hmm) (hall m hmm) d as M hd has (fun g h9 => (List.mem_append.mp h9).elim (hg g) (hpre g)) hm hI
abbrev mi_X : Type := sx_S → sx_S → Bool
noncomputable def mi_nohk : Nat → Nat → List sx_V → sx_S → Option (List sx_R) := fun _ _ _ _ => none
noncomputable def mi_out (ly : Nat → Option sx_H) (c : ct_C) (cuts : List mt_K) (xk : mi_X) (src : Option (List (Int × sx_A) × Int)) (t0 : sx_S) (o : sx_P) : Bool := sx_an (xk t0 o.2.2.2.2) (mt_out ly c cuts src t0 o)
noncomputable def mi_sg (ly : Nat → Option sx_H) (rc : List (List Int)) (MT : Nat → sm_M) (LK : Nat → Nat → Option sm_L) (fc f j : Nat) (c : ct_C) (cuts : List mt_K) (xk : mi_X) (src : Option (List (Int × sx_A) × Int)) (pc : Nat) (lv : sx_L) (t : sx_S) : Bool := match sx_seg (fun _ _ => none) ly rc (0, -100) false MT LK (fun _ => false) mi_nohk (mt_stp cuts) fc f c.2.2.2.2.2.1 j true pc lv [] t with
  | some os => os.all (mi_out ly c cuts xk src t)
  | none => false
noncomputable def mi_c1 (ly : Nat → Option sx_H) (rc : List (List Int)) (MT : Nat → sm_M) (LK : Nat → Nat → Option sm_L) (fc f j : Nat) (c : ct_C) (cuts : List mt_K) (xk : mi_X) (K : mt_K) : Bool := sx_an (mt_nd (K.2.1.map fun q => q.1)) (sx_an (sx_an (Nat.beq K.2.2.1.length 0) (mt_gd K.2.2.2.1)) (sx_an (sx_le (mt_ub (mt_ct [] K) (mt_ng (mt_lin K.2.2.2.2.1 (mt_cv [] K)))) K.2.2.2.2.2.1) (mi_sg ly rc MT LK fc f j c cuts xk (some (mt_lin K.2.2.2.2.1 (mt_cv [] K), K.2.2.2.2.2.1)) K.1 (mt_lv K.2.1 (mt_cv [] K)) (mt_ct [] K))))
noncomputable def mi_cs (ly : Nat → Option sx_H) (rc : List (List Int)) (MT : Nat → sm_M) (LK : Nat → Nat → Option sm_L) (fc f j : Nat) (c : ct_C) (cuts : List mt_K) (xk : mi_X) (K : mt_K) : Bool := match K.2.2.2.2.2.2 with
  | none => mi_c1 ly rc MT LK fc f j c cuts xk K
  | some i => match K.2.1[i]? with
    | some q => sx_an (sx_an (mt_nd (K.2.1.map fun q => q.1)) (Nat.ble q.2.1 1)) ((sx_rn (q.2.2.2 - q.2.2.1 + 1).toNat q.2.2.1).all fun v => mi_c1 ly rc MT LK fc f j c cuts xk (K.1, mt_set v K.2.1 i, K.2.2))
    | none => false
noncomputable def mi_chk (ly : Nat → Option sx_H) (rc : List (List Int)) (MT : Nat → sm_M) (LK : Nat → Nat → Option sm_L) (fc f j : Nat) (c : ct_C) (cuts : List mt_K) (xk : mi_X) : Bool := sx_an (mt_gd c.2.1) (sx_an (mi_sg ly rc MT LK fc f j c cuts xk none 0 (sx_args 0 (mt_as c.1 (mt_tr [])).1) (ct_get c.2.1 (mt_as c.1 (mt_tr [])).2)) (cuts.all (mi_cs ly rc MT LK fc f j c cuts xk)))
def mi_xk (ly : Nat → Option sx_H) (xk : mi_X) (JJ : (Nat → Nat → Int) → Prop) : Prop := ∀ (xs : Nat → Int32) (L : Nat) (t0 t : sx_S) (ρ0 ρ : Nat → Int) (M0 M : Nat → Nat → Int), xk t0 t = true → sx_sat ly (0, -100) xs L M0 ρ0 M0 t0 → sx_ext t0.1 ρ0 ρ → sx_sat ly (0, -100) xs L M0 ρ M t → JJ M0 → JJ M
def mi_fin (MT : Nat → sm_M) (LK : Nat → Nat → Option sm_L) (RO : List (Nat × (Nat → Int32))) (NV : Nat → List Value) (cq : Nat) (ly : Nat → Option sx_H) (lay : List sx_H) (rf : Nat → Nat → Option Nat) (JJ : (Nat → Nat → Int) → Prop) (MM : Nat → Nat → Int) (c : ct_C) (j pc : Nat) (lv : sm_V) (s : List Value) (h : sm_H) : Prop := ∃ F r M', sm_run MT LK RO NV cq F c.2.2.2.2.2.1 j pc lv s h = some (r, sx_HH lay rf M') ∧ sx_mok ly M' ∧ ct_fr c MM M' ∧ ct_g c.2.2.1 M' ∧ ct_r c.2.2.2.2.1 r ∧ JJ M'
theorem mi_sg_ok {fc f j : Nat} {c : ct_C} {cuts : List mt_K} {xk : mi_X} {src : Option (List (Int × sx_A) × Int)} {pc : Nat} {lv : sx_L} {t : sx_S} {ρ : Nat → Int} (hlo : sx_lok ly lay) (hrf : sx_hrf ly rf) (hro : sx_hro rc RO xs L) (hx : mi_xk ly xk JJ) (hJ : JJ MM) (hnd : ∀ K ∈ cuts, (K.2.1.map fun q => q.1).Nodup) (h : mi_sg ly rc MT LK fc f j c cuts xk src pc lv t = true) (hs : sx_sat ly (0, -100) xs L MM ρ MM t) (hl : sx_okl ρ t.1 lv) (hsrc : ∀ w, src = some w → ∀ q ∈ w.1, q.2.1 < t.1) (hk : ∀ K ∈ cuts, ∀ vs M3, ct_vs (K.2.1.map fun q => q.2) vs → ct_g K.2.2.2.1 M3 → sx_mok ly M3 → ct_fr c MM M3 → JJ M3 → (∀ w, src = some w → mt_mu K.2.2.2.2.1 vs + K.2.2.2.2.2.1 ≤ mt_ev ρ w.1 + w.2 - 1) → mi_fin MT LK RO NV cq ly lay rf JJ M3 c j K.1 (mt_zv K.2.1 vs) [] (sx_HH lay rf M3)) : mi_fin MT LK RO NV cq ly lay rf JJ MM c j pc (sx_cl1 ρ lv) [] (sx_HH lay rf MM) := by
  unfold mi_sg at h
  cases e : sx_seg (fun _ _ => none) ly rc (0, -100) false MT LK (fun _ => false) mi_nohk (mt_stp cuts) fc f c.2.2.2.2.2.1 j true pc lv [] t with
  | none => rw [e] at h; cases h
  | some os =>
    rw [e] at h
    have hbs : sx_hbs ly (fun _ _ => none) MM := fun k h i c _ _ _ e => by cases e
    have hfr : ct_fr c MM MM := fun _ _ _ _ _ => rfl
    have hnh : sx_hok MT LK RO NV cq ly (0, -100) xs L MM lay rf mi_nohk := fun _ _ _ _ _ _ _ h => by cases h
    obtain ⟨o, om, ρ', M', x1, x2, x3, x4⟩ := sx_seg_ok (NV := NV) (cq := cq) (RO := RO) hlo hbs hrf hro hnh f c.2.2.2.2.2.1 j true pc lv [] t os ρ MM e hs hl (fun v hv => by cases hv)
    obtain ⟨hxo, ho⟩ := sx_an_iff.mp (List.all_eq_true.mp h o om)
    have hJ' : JJ M' := hx xs L t o.2.2.2.2 ρ ρ' MM M' hxo hs x1 x3 hJ
    unfold mt_out at ho
    rcases x4 with ⟨r, w1, w2, F, w3⟩ | ⟨w1, w2, w3, w4, w5⟩
    · rw [w1] at ho
      obtain ⟨a, b, c9⟩ := mt_end_ok hs x1 hfr x3 w2 ho
      exact ⟨F, _, M', w3, x3.2.2.2.2.2.1, a, b, c9, hJ'⟩
    · rw [w1] at ho
      obtain ⟨K, hK, e1⟩ := List.any_eq_true.mp ho
      obtain ⟨e1, e2⟩ := sx_an_iff.mp e1
      have e1 := sx_nbeq.mp e1
      unfold mt_stop at e2
      cases eat : mt_at K.2.1 o.2.2.1 with
      | none => rw [eat] at e2; cases e2
      | some vs =>
        cases es : o.2.2.2.1 with
        | cons v r => rw [eat, es] at e2; cases e2
        | nil =>
          rw [eat, es] at e2
          obtain ⟨b1, e2⟩ := sx_an_iff.mp e2
          obtain ⟨b2, e2⟩ := sx_an_iff.mp e2
          obtain ⟨b2, b2'⟩ := sx_an_iff.mp b2
          obtain ⟨b3, e2⟩ := sx_an_iff.mp e2
          obtain ⟨b4, b5⟩ := sx_an_iff.mp e2
          obtain ⟨a1, a2⟩ := mt_at_ok w3 eat
          have fr1 := mt_cells_ok hs x1 hfr x3 b3
          obtain ⟨F, r, M2, f1, f2, f3, f4, f5, f6⟩ := hk K hK (sx_cs1 ρ' vs) M' (ct_fvs_ok x3 a1 b1) (fun g hg => ct_fg_ok x3 (List.all_eq_true.mp b2' g hg)) x3.2.2.2.2.2.1 fr1 hJ' (fun w hw => by
            rw [hw] at b5
            have b5 := sx_le_iff.mp b5
            have u := mt_ub_ok x3 (mt_lin K.2.2.2.2.1 vs ++ mt_ng w.1)
            rw [mt_ev_app, mt_ev_ng, mt_lin_ok x3.2.1 a1, mt_ev_ext x1 (hsrc w hw)] at u
            omega)
          have g1 := lo_run F c.2.2.2.2.2.1 j K.1 (mt_zv K.2.1 (sx_cs1 ρ' vs)) (sx_cl1 ρ' o.2.2.1) [] (sx_HH lay rf M') _ ⟨mt_zv_nd (hnd K hK), mt_cl_nd (mt_nd_ok b4), a2⟩ f1
          rw [e1] at g1
          rw [es] at w5
          obtain ⟨F', g2⟩ := w5 F r _ g1
          exact ⟨F', r, M2, g2, f2, fun a i ha hm hp => (f3 a i ha hm hp).trans (fr1 a i ha hm hp), f4, f5, f6⟩
theorem mi_ct_ok {K : mt_K} {vs : List Value} {M3 : Nat → Nat → Int} (hL : L < 2 ^ 31) (hg0 : K.2.2.1.length = 0) (hg2 : mt_gd K.2.2.2.1 = true) (hm3 : sx_mok ly M3) (hvs : ct_vs (K.2.1.map fun q => q.2) vs) (h2 : ct_g K.2.2.2.1 M3) : ∃ ρ, sx_sat ly (0, -100) xs L M3 ρ M3 (mt_ct [] K) ∧ sx_cs1 ρ (mt_cv [] K) = vs ∧ sx_oks ρ (mt_ct [] K).1 (mt_cv [] K) :=
  mt_ct_ok (c := ([], [], [], [], none, 0, false)) hL (fun a ha => by cases ha) rfl (by rw [List.eq_nil_of_length_eq_zero hg0]; rfl) hg2 hm3 hm3 (fun _ _ _ _ _ => rfl) hvs (by rw [List.eq_nil_of_length_eq_zero hg0]; intro g hg; cases hg) h2
theorem mi_ok {fc f j : Nat} {c : ct_C} {cuts : List mt_K} {xk : mi_X} (hlo : sx_lok ly lay) (hrf : sx_hrf ly rf) (hro : sx_hro rc RO xs L) (hL : L < 2 ^ 31) (hx : mi_xk ly xk JJ) (h : mi_chk ly rc MT LK fc f j c cuts xk = true) : ct_oki MT LK RO NV cq ly lay rf JJ j c := by
  obtain ⟨h0, h⟩ := sx_an_iff.mp h
  obtain ⟨h2, h3⟩ := sx_an_iff.mp h
  have hc1 : ∀ K ∈ cuts, mi_cs ly rc MT LK fc f j c cuts xk K = true := fun K hK => List.all_eq_true.mp h3 K hK
  intro d as M hd has hpre hmok hI
  have hnar : ∀ K ∈ cuts, ∀ vs, ct_vs (K.2.1.map fun q => q.2) vs → ∃ l, (l.map fun q => q.1) = (K.2.1.map fun q => q.1) ∧ ct_vs (l.map fun q => q.2) vs ∧ mi_c1 ly rc MT LK fc f j c cuts xk (K.1, l, K.2.2) = true := by
    intro K hK vs hvs
    have h9 := hc1 K hK
    unfold mi_cs at h9
    cases es : K.2.2.2.2.2.2 with
    | none => rw [es] at h9; exact ⟨K.2.1, rfl, hvs, h9⟩
    | some i =>
      rw [es] at h9
      dsimp only at h9
      cases eq : K.2.1[i]? with
      | none => rw [eq] at h9; cases h9
      | some q =>
        rw [eq] at h9
        obtain ⟨k1, k2⟩ := sx_an_iff.mp h9
        obtain ⟨-, k1⟩ := sx_an_iff.mp k1
        obtain ⟨v, v1, v2, v3⟩ := mt_set_ok eq (Nat.le_of_ble_eq_true k1) hvs
        exact ⟨_, mt_set_fst .., v3, List.all_eq_true.mp k2 v (sx_rn_mem v1 (by omega))⟩
  have hnd : ∀ K ∈ cuts, (K.2.1.map fun q => q.1).Nodup := fun K hK => by
    have h9 := hc1 K hK
    unfold mi_cs at h9
    cases es : K.2.2.2.2.2.2 with
    | none => rw [es] at h9; exact mt_nd_ok (sx_an_iff.mp h9).1
    | some i =>
      rw [es] at h9
      dsimp only at h9
      cases eq : K.2.1[i]? with
      | none => rw [eq] at h9; cases h9
      | some q =>
        rw [eq] at h9
        exact mt_nd_ok (sx_an_iff.mp (sx_an_iff.mp h9).1).1
  have main : ∀ (n : Nat) (K : mt_K), K ∈ cuts → ∀ vs M3, ct_vs (K.2.1.map fun q => q.2) vs → ct_g K.2.2.2.1 M3 → sx_mok ly M3 → JJ M3 → mt_mu K.2.2.2.2.1 vs + K.2.2.2.2.2.1 < (n : Int) → mi_fin MT LK RO NV cq ly lay rf JJ M3 c j K.1 (mt_zv K.2.1 vs) [] (sx_HH lay rf M3) := by
    intro n
    induction n with
    | zero =>
      intro K hK vs M3 hvs hg hm hJ hn
      exfalso
      obtain ⟨l, l1, l2, l3⟩ := hnar K hK vs hvs
      obtain ⟨-, k2⟩ := sx_an_iff.mp l3
      obtain ⟨k2, k3⟩ := sx_an_iff.mp k2
      obtain ⟨k1, k2⟩ := sx_an_iff.mp k2
      obtain ⟨k3, -⟩ := sx_an_iff.mp k3
      have k3 := sx_le_iff.mp k3
      obtain ⟨ρ2, b3, u2, u3⟩ := mi_ct_ok (xs := xs) (K := (K.1, l, K.2.2)) hL (sx_nbeq.mp k1) k2 hm l2 hg
      have u := mt_ub_ok b3 (mt_ng (mt_lin K.2.2.2.2.1 (mt_cv [] (K.1, l, K.2.2))))
      rw [mt_ev_ng, mt_lin_ok b3.2.1 u3, u2] at u
      have u : -mt_mu K.2.2.2.2.1 vs ≤ mt_ub (mt_ct [] (K.1, l, K.2.2)) (mt_ng (mt_lin K.2.2.2.2.1 (mt_cv [] (K.1, l, K.2.2)))) := u
      have k3 : mt_ub (mt_ct [] (K.1, l, K.2.2)) (mt_ng (mt_lin K.2.2.2.2.1 (mt_cv [] (K.1, l, K.2.2)))) ≤ K.2.2.2.2.2.1 := k3
      have hn : mt_mu K.2.2.2.2.1 vs + K.2.2.2.2.2.1 < 0 := hn
      omega
    | succ n ih =>
      intro K hK vs M3 hvs hg hm hJ hn
      obtain ⟨l, l1, l2, l3⟩ := hnar K hK vs hvs
      obtain ⟨-, k2⟩ := sx_an_iff.mp l3
      obtain ⟨k2, k3⟩ := sx_an_iff.mp k2
      obtain ⟨k1, k2⟩ := sx_an_iff.mp k2
      obtain ⟨-, k4⟩ := sx_an_iff.mp k3
      obtain ⟨ρ2, b3, u2, u3⟩ := mi_ct_ok (xs := xs) (K := (K.1, l, K.2.2)) hL (sx_nbeq.mp k1) k2 hm l2 hg
      have fin := mi_sg_ok (RO := RO) (NV := NV) (cq := cq) hlo hrf hro hx hJ hnd k4 b3 (mt_lv_okl u3) (fun w hw q hq => by
        cases hw
        exact mt_lin_sym (sx_0lt b3) u3 q hq) (fun K' hK' vs' M4 hvs' hg2 hm' _ hJ' hdec => by
        refine ih K' hK' vs' M4 hvs' hg2 hm' hJ' ?_
        have h7 : mt_mu K'.2.2.2.2.1 vs' + K'.2.2.2.2.2.1 ≤ mt_ev ρ2 (mt_lin K.2.2.2.2.1 (mt_cv [] (K.1, l, K.2.2))) + K.2.2.2.2.2.1 - 1 := hdec _ rfl
        have e : mt_ev ρ2 (mt_lin K.2.2.2.2.1 (mt_cv [] (K.1, l, K.2.2))) = mt_mu K.2.2.2.2.1 vs := by rw [mt_lin_ok b3.2.1 u3, u2]
        rw [e] at h7
        push_cast at hn
        omega)
      rw [mt_lv_cl, u2, mt_zv_congr l1] at fin
      exact fin
  obtain ⟨ρ1, a1, a2, a3, a4, a5⟩ := mt_as_ok has (mt_tr_sat (MM := M) (mod := []) (xs := xs) hL (fun a ha => by cases ha) hmok (fun a _ _ => rfl))
  obtain ⟨ρ2, b1, b2, b3⟩ := ct_get_ok (l := c.2.1) a3 (mt_gd_ok h0 hpre)
  have u2 : sx_cs1 ρ2 (mt_as c.1 (mt_tr [])).1 = as := (sx_ext_cs b1 a5).trans a4
  have fin := mi_sg_ok (RO := RO) (NV := NV) (cq := cq) hlo hrf hro hx hI hnd h2 b3 (sx_args_okl (sx_ext_oks b1 b2 a5)) (fun w hw => by cases hw) (fun K hK vs M3 hvs hg hm hfr hJ _ => main (mt_mu K.2.2.2.2.1 vs + K.2.2.2.2.2.1).toNat.succ K hK vs M3 hvs hg hm hJ (by push_cast; omega))
  rw [← sx_args_ok, u2] at fin
  obtain ⟨F, r, M', f1, f2, f3, f4, f5, f6⟩ := fin
  exact ⟨F, r, M', mt_d f1 hd, f2, f3, f4, f5, f6⟩
end
