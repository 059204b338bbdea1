/-! A method's contract, out of its segments: the theorem itself. -/
section
variable {II : (Nat → Nat → Int) → Prop} {zs : List Nat} {MT : Nat → sm_M} {LK : Nat → Nat → Option sm_L} {RO : List (Nat × (Nat → Int32))} {NV : Nat → List Value} {cq : Nat} {ly : Nat → Option sx_H} {xs : Nat → Int32} {L : Nat} {MM : Nat → Nat → Int} {lay : List sx_H} {rf : Nat → Nat → Option Nat} {rc : List (List Int)}
theorem mt_ev_ext {n : Nat} {ρ ρ' : Nat → Int} (h : sx_ext n ρ ρ') : ∀ {l : List (Int × sx_A)}, (∀ q ∈ l, q.2.1 < n) → mt_ev ρ' l = mt_ev ρ l := by
  intro l
  induction l with
  | nil => intro _; rfl
  | cons q l ih =>
    intro hl
    show q.1 * sx_val ρ' q.2 + mt_ev ρ' l = q.1 * sx_val ρ q.2 + mt_ev ρ l
    rw [sx_ext_val h (hl q List.mem_cons_self), ih (fun w hw => hl w (List.mem_cons_of_mem _ hw))]
theorem mt_lin_sym {ρ : Nat → Int} {n : Nat} {m : List (Int × Nat)} {vs : List sx_V} (hn : 0 < n) (hv : sx_oks ρ n vs) : ∀ q ∈ mt_lin m vs, q.2.1 < n := by
  intro q hq
  obtain ⟨w, -, rfl⟩ := List.mem_map.mp hq
  show (mt_av ((sx_nth vs w.2).getD (0, 0, 0))).1 < n
  rw [sx_nth_eq]
  cases e : vs[w.2]? with
  | none => exact hn
  | some v =>
    show (bif Nat.ble v.1 1 then v.2 else (0, 0)).1 < n
    cases Nat.ble v.1 1
    · exact hn
    · exact (hv v (List.mem_of_getElem? e)).1
theorem mt_sg_ok {cts : List (Nat × ct_C)} {fc f j : Nat} {c : ct_C} {cuts : List mt_K} {src : Option (List (Int × sx_A) × Int)} {pc : Nat} {lv : sx_L} {t : sx_S} {ρ : Nat → Int} {M1 : Nat → Nat → Int} (hlo : sx_lok ly lay) (hrf : sx_hrf ly rf) (hro : sx_hro rc RO xs L) (hz : ∀ M M' : Nat → Nat → Int, (∀ z ∈ zs, M' z = M z) → II M → II M') (hI : c.2.2.2.2.2.2 = true → II MM) (hall : ∀ c ∈ cts, ct_ok MT LK RO NV cq ly lay rf II c.1 c.2) (hnd : ∀ K ∈ cuts, (K.2.1.map fun q => q.1).Nodup) (h : mt_sg ly rc MT LK zs cts fc f j c cuts src pc lv t = true) (hs : sx_sat ly (0, -100) xs L MM ρ M1 t) (hfr : ct_fr c MM M1) (hl : sx_okl ρ t.1 lv) (hsrc : ∀ w, src = some w → ∀ q ∈ w.1, q.2.1 < t.1) (hk : ∀ K ∈ cuts, ∀ vs M3, ct_vs (K.2.1.map fun q => q.2) vs → ct_g K.2.2.1 M3 → ct_g K.2.2.2.1 M3 → sx_mok ly M3 → ct_fr c MM M3 → (∀ w, src = some w → mt_mu K.2.2.2.2.1 vs + K.2.2.2.2.2.1 ≤ mt_ev ρ w.1 + w.2 - 1) → mt_fin MT LK RO NV cq ly lay rf MM c j K.1 (mt_zv K.2.1 vs) [] (sx_HH lay rf M3)) : mt_fin MT LK RO NV cq ly lay rf MM c j pc (sx_cl1 ρ lv) [] (sx_HH lay rf M1) := by
  unfold mt_sg at h
  cases e : sx_seg (fun _ _ => none) ly rc (0, -100) false MT LK (fun _ => false) (ct_hk ly c.2.2.2.2.2.2 zs cts) (mt_stp cuts) fc f c.2.2.2.2.2.1 j true pc lv [] t with
  | none => rw [e] at h; cases h
  | some os =>
    rw [e] at h
    have hbs : sx_hbs ly (fun _ _ => none) MM := fun k h i c _ _ _ e => by cases e
    obtain ⟨o, om, ρ', M', x1, x2, x3, x4⟩ := sx_seg_ok (NV := NV) (cq := cq) (RO := RO) hlo hbs hrf hro (ct_hk_ok hz hI hall) f c.2.2.2.2.2.1 j true pc lv [] t os ρ M1 e hs hl (fun v hv => by cases hv)
    have ho := List.all_eq_true.mp h o om
    unfold mt_out at ho
    rcases x4 with ⟨r, w1, w2, F, w3⟩ | ⟨w1, w2, w3, w4, w5⟩
    · rw [w1] at ho
      obtain ⟨a, b, c9⟩ := mt_end_ok hs x1 hfr x3 w2 ho
      exact ⟨F, _, M', w3, x3.2.2.2.2.2.1, a, b, c9⟩
    · rw [w1] at ho
      obtain ⟨K, hK, e1⟩ := List.any_eq_true.mp ho
      obtain ⟨e1, e2⟩ := sx_an_iff.mp e1
      have e1 := sx_nbeq.mp e1
      unfold mt_stop at e2
      cases eat : mt_at K.2.1 o.2.2.1 with
      | none => rw [eat] at e2; cases e2
      | some vs =>
        cases es : o.2.2.2.1 with
        | cons v r => rw [eat, es] at e2; cases e2
        | nil =>
          rw [eat, es] at e2
          obtain ⟨b1, e2⟩ := sx_an_iff.mp e2
          obtain ⟨b2, e2⟩ := sx_an_iff.mp e2
          obtain ⟨b2, b2'⟩ := sx_an_iff.mp b2
          obtain ⟨b3, e2⟩ := sx_an_iff.mp e2
          obtain ⟨b4, b5⟩ := sx_an_iff.mp e2
          obtain ⟨a1, a2⟩ := mt_at_ok w3 eat
          obtain ⟨F, r, M2, f1, f2, f3, f4, f5⟩ := hk K hK (sx_cs1 ρ' vs) M' (ct_fvs_ok x3 a1 b1) (fun g hg => ct_fg_ok x3 (List.all_eq_true.mp b2 g hg)) (fun g hg => ct_fg_ok x3 (List.all_eq_true.mp b2' g hg)) x3.2.2.2.2.2.1 (mt_cells_ok hs x1 hfr x3 b3) (fun w hw => by
            rw [hw] at b5
            have b5 := sx_le_iff.mp b5
            have u := mt_ub_ok x3 (mt_lin K.2.2.2.2.1 vs ++ mt_ng w.1)
            rw [mt_ev_app, mt_ev_ng, mt_lin_ok x3.2.1 a1, mt_ev_ext x1 (hsrc w hw)] at u
            omega)
          have g1 := lo_run F c.2.2.2.2.2.1 j K.1 (mt_zv K.2.1 (sx_cs1 ρ' vs)) (sx_cl1 ρ' o.2.2.1) [] (sx_HH lay rf M') _ ⟨mt_zv_nd (hnd K hK), mt_cl_nd (mt_nd_ok b4), a2⟩ f1
          rw [e1] at g1
          rw [es] at w5
          obtain ⟨F', g2⟩ := w5 F r _ g1
          exact ⟨F', r, M2, g2, f2, f3, f4, f5⟩
theorem mt_gd_ok {l : List ct_G} {M : Nat → Nat → Int} (h : mt_gd l = true) (hg : ct_g l M) : ∀ g ∈ l, g.1 < 128 ∧ sx_w g.2.2 (M g.1 g.2.1) ∧ sx_w sx_r64 (M g.1 g.2.1) := by
  intro g hm
  obtain ⟨a, b⟩ := sx_an_iff.mp (List.all_eq_true.mp h g hm)
  have b := sx_in_iff.mp b
  have w := hg g hm
  exact ⟨sx_blt a, w, Int.le_trans b.1 w.1, Int.le_trans w.2 b.2⟩
/-- the start of a cut -/
theorem mt_ct_ok {c : ct_C} {K : mt_K} {vs : List Value} {M3 : Nat → Nat → Int} (hL : L < 2 ^ 31) (hmod : ∀ a ∈ c.2.2.2.1, a < 128) (hkw : mt_kw c K = true) (hg1 : mt_gd K.2.2.1 = true) (hg2 : mt_gd K.2.2.2.1 = true) (hm : sx_mok ly MM) (hm3 : sx_mok ly M3) (hfr : ct_fr c MM M3) (hvs : ct_vs (K.2.1.map fun q => q.2) vs) (h1 : ct_g K.2.2.1 M3) (h2 : ct_g K.2.2.2.1 M3) : ∃ ρ, sx_sat ly (0, -100) xs L MM ρ M3 (mt_ct c.2.2.2.1 K) ∧ sx_cs1 ρ (mt_cv c.2.2.2.1 K) = vs ∧ sx_oks ρ (mt_ct c.2.2.2.1 K).1 (mt_cv c.2.2.2.1 K) := by
  have s0 := mt_tr_sat (MM := MM) (M := fun a i => if a ∈ c.2.2.2.1 then M3 a i else MM a i) (mod := c.2.2.2.1) (ly := ly) (xs := xs) hL hmod (ct_mix hm hm3 (fun a i => by
    by_cases h : a ∈ c.2.2.2.1
    · right; exact if_pos h
    · left; exact if_neg h)) (fun a _ h => by funext i; exact if_neg h)
  obtain ⟨ρ1, a1, a2, a3, a4, a5⟩ := mt_as_ok hvs s0
  obtain ⟨ρ2, b1, b2, b3⟩ := ct_put_ok (l := K.2.2.1) hm3 a3 (mt_gd_ok hg1 h1)
  have b3 := ct_congr b3 hm3 (fun a ha => by
    funext i
    unfold ct_mm
    by_cases h1 : ∃ g ∈ K.2.2.1, g.1 = a ∧ g.2.1 = i
    · rw [if_pos h1]
    · rw [if_neg h1]
      by_cases h2 : a ∈ c.2.2.2.1
      · exact (if_pos h2).symm
      · refine Eq.trans (hfr a i ha h2 (fun g hg e1 e2 => ?_)) (if_neg h2).symm
        have k1 := List.all_eq_true.mp hkw g hg
        cases e : c.2.2.2.1.any (Nat.beq g.1)
        · rw [e] at k1
          obtain ⟨w, hw, k2⟩ := List.any_eq_true.mp k1
          obtain ⟨k2, k3⟩ := sx_an_iff.mp k2
          exact h1 ⟨w, hw, (sx_nbeq.mp k2).trans e1, (sx_nbeq.mp k3).trans e2⟩
        · obtain ⟨b, hb, e3⟩ := List.any_eq_true.mp e
          have := sx_nbeq.mp e3
          exact h2 (by rw [← e1, this]; exact hb))
  obtain ⟨ρ3, c1, c2, c3⟩ := ct_get_ok (l := K.2.2.2.1) b3 (mt_gd_ok hg2 h2)
  have x1 := sx_ext_tr b1 c1 b2
  refine ⟨ρ3, c3, (sx_ext_cs x1 a5).trans a4, sx_ext_oks x1 (Nat.le_trans b2 c2) a5⟩
theorem mt_set_fst {v : Int} : ∀ {l : List (Nat × ct_Q)} {i : Nat}, ((mt_set v l i).map fun q => q.1) = l.map fun q => q.1 := by
  intro l
  induction l with
  | nil => intro i; cases i <;> rfl
  | cons q l ih =>
    intro i
    cases i with
    | zero => rfl
    | succ i => exact congrArg (List.cons q.1) ih
theorem mt_set_ok : ∀ {l : List (Nat × ct_Q)} {i : Nat} {vs : List Value} {q : Nat × ct_Q}, l[i]? = some q → q.2.1 ≤ 1 → ct_vs (l.map fun q => q.2) vs → ∃ v, q.2.2.1 ≤ v ∧ v ≤ q.2.2.2 ∧ ct_vs ((mt_set v l i).map fun q => q.2) vs := by
  intro l
  induction l with
  | nil => intro i vs q h; cases h
  | cons p l ih =>
    intro i vs q h hq hv
    cases vs with
    | nil => cases hv
    | cons a vs =>
      cases i with
      | zero =>
        cases h
        obtain ⟨ha, hr⟩ := hv
        rcases ha with ⟨k0, z, e1, e2, e3⟩ | ⟨k0, z, e1, e2, e3⟩ | ⟨k0, e1⟩
        · exact ⟨z, e2.1, e2.2, Or.inl ⟨k0, z, e1, ⟨Int.le_refl _, Int.le_refl _⟩, e3⟩, hr⟩
        · exact ⟨z, e2.1, e2.2, Or.inr (Or.inl ⟨k0, z, e1, ⟨Int.le_refl _, Int.le_refl _⟩, e3⟩), hr⟩
        · have k0 : p.2.1 = 2 := k0
          omega
      | succ i =>
        obtain ⟨v, v1, v2, v3⟩ := ih (i := i) h hq hv.2
        exact ⟨v, v1, v2, hv.1, v3⟩
theorem mt_zv_congr : ∀ {l l' : List (Nat × ct_Q)} {vs : List Value}, (l.map fun q => q.1) = (l'.map fun q => q.1) → mt_zv l vs = mt_zv l' vs := by
  intro l
  induction l with
  | nil =>
    intro l' vs h
    cases l' with
    | nil => rfl
    | cons q l' => cases h
  | cons p l ih =>
    intro l' vs h
    cases l' with
    | nil => cases h
    | cons q l' =>
      cases vs with
      | nil => rfl
      | cons v vs =>
        obtain ⟨h1, h2⟩ := List.cons.inj (show p.1 :: (l.map fun q => q.1) = q.1 :: (l'.map fun q => q.1) from h)
        show (p.1, v) :: mt_zv l vs = (q.1, v) :: mt_zv l' vs
        rw [h1, ih h2]
theorem mt_ok {cts : List (Nat × ct_C)} {fc f j : Nat} {c : ct_C} {cuts : List mt_K} (hlo : sx_lok ly lay) (hrf : sx_hrf ly rf) (hro : sx_hro rc RO xs L) (hL : L < 2 ^ 31) (hz : ∀ M M' : Nat → Nat → Int, (∀ z ∈ zs, M' z = M z) → II M → II M') (hall : ∀ c ∈ cts, ct_ok MT LK RO NV cq ly lay rf II c.1 c.2) (h : mt_chk ly rc MT LK zs cts fc f j c cuts = true) : ct_ok MT LK RO NV cq ly lay rf II j c := by
  obtain ⟨h0, h⟩ := sx_an_iff.mp h
  obtain ⟨h1, h⟩ := sx_an_iff.mp h
  obtain ⟨h2, h3⟩ := sx_an_iff.mp h
  have hmod : ∀ a ∈ c.2.2.2.1, a < 128 := fun a ha => sx_blt (List.all_eq_true.mp h1 a ha)
  have hc1 : ∀ K ∈ cuts, mt_cs ly rc MT LK zs cts fc f j c cuts K = true := fun K hK => List.all_eq_true.mp h3 K hK
  intro d as M hd has hpre hmok hI
  have hnd0 : ∀ K : mt_K, mt_c1 ly rc MT LK zs cts fc f j c cuts K = true → (K.2.1.map fun q => q.1).Nodup := fun K hK => mt_nd_ok (sx_an_iff.mp hK).1
  have hnar : ∀ K ∈ cuts, ∀ vs, ct_vs (K.2.1.map fun q => q.2) vs → ∃ l, (l.map fun q => q.1) = (K.2.1.map fun q => q.1) ∧ ct_vs (l.map fun q => q.2) vs ∧ mt_c1 ly rc MT LK zs cts fc f j c cuts (K.1, l, K.2.2) = true := by
    intro K hK vs hvs
    have h9 := hc1 K hK
    unfold mt_cs at h9
    cases es : K.2.2.2.2.2.2 with
    | none => rw [es] at h9; exact ⟨K.2.1, rfl, hvs, h9⟩
    | some i =>
      rw [es] at h9
      dsimp only at h9
      cases eq : K.2.1[i]? with
      | none => rw [eq] at h9; cases h9
      | some q =>
        rw [eq] at h9
        obtain ⟨k1, k2⟩ := sx_an_iff.mp h9
        obtain ⟨-, k1⟩ := sx_an_iff.mp k1
        obtain ⟨v, v1, v2, v3⟩ := mt_set_ok eq (Nat.le_of_ble_eq_true k1) hvs
        exact ⟨_, mt_set_fst .., v3, List.all_eq_true.mp k2 v (sx_rn_mem v1 (by omega))⟩
  have hnd : ∀ K ∈ cuts, (K.2.1.map fun q => q.1).Nodup := fun K hK => by
    have h9 := hc1 K hK
    unfold mt_cs at h9
    cases es : K.2.2.2.2.2.2 with
    | none => rw [es] at h9; exact hnd0 _ h9
    | some i =>
      rw [es] at h9
      dsimp only at h9
      cases eq : K.2.1[i]? with
      | none => rw [eq] at h9; cases h9
      | some q =>
        rw [eq] at h9
        exact mt_nd_ok (sx_an_iff.mp (sx_an_iff.mp h9).1).1
  have main : ∀ (n : Nat) (K : mt_K), K ∈ cuts → ∀ vs M3, ct_vs (K.2.1.map fun q => q.2) vs → ct_g K.2.2.1 M3 → ct_g K.2.2.2.1 M3 → sx_mok ly M3 → ct_fr c M M3 → mt_mu K.2.2.2.2.1 vs + K.2.2.2.2.2.1 < (n : Int) → mt_fin MT LK RO NV cq ly lay rf M c j K.1 (mt_zv K.2.1 vs) [] (sx_HH lay rf M3) := by
    intro n
    induction n with
    | zero =>
      intro K hK vs M3 hvs hg hg' hm hfr hn
      exfalso
      obtain ⟨l, l1, l2, l3⟩ := hnar K hK vs hvs
      obtain ⟨-, k2⟩ := sx_an_iff.mp l3
      obtain ⟨k2, k3⟩ := sx_an_iff.mp k2
      obtain ⟨k1, k2⟩ := sx_an_iff.mp k2
      obtain ⟨k2, k2'⟩ := sx_an_iff.mp k2
      obtain ⟨k3, -⟩ := sx_an_iff.mp k3
      have k3 := sx_le_iff.mp k3
      obtain ⟨ρ2, b3, u2, u3⟩ := mt_ct_ok (xs := xs) (K := (K.1, l, K.2.2)) hL hmod k1 k2 k2' hmok hm hfr l2 hg hg'
      have u := mt_ub_ok b3 (mt_ng (mt_lin K.2.2.2.2.1 (mt_cv c.2.2.2.1 (K.1, l, K.2.2))))
      rw [mt_ev_ng, mt_lin_ok b3.2.1 u3, u2] at u
      have u : -mt_mu K.2.2.2.2.1 vs ≤ mt_ub (mt_ct c.2.2.2.1 (K.1, l, K.2.2)) (mt_ng (mt_lin K.2.2.2.2.1 (mt_cv c.2.2.2.1 (K.1, l, K.2.2)))) := u
      have k3 : mt_ub (mt_ct c.2.2.2.1 (K.1, l, K.2.2)) (mt_ng (mt_lin K.2.2.2.2.1 (mt_cv c.2.2.2.1 (K.1, l, K.2.2)))) ≤ K.2.2.2.2.2.1 := k3
      have hn : mt_mu K.2.2.2.2.1 vs + K.2.2.2.2.2.1 < 0 := hn
      omega
    | succ n ih =>
      intro K hK vs M3 hvs hg hg' hm hfr hn
      obtain ⟨l, l1, l2, l3⟩ := hnar K hK vs hvs
      obtain ⟨-, k2⟩ := sx_an_iff.mp l3
      obtain ⟨k2, k3⟩ := sx_an_iff.mp k2
      obtain ⟨k1, k2⟩ := sx_an_iff.mp k2
      obtain ⟨k2, k2'⟩ := sx_an_iff.mp k2
      obtain ⟨-, k4⟩ := sx_an_iff.mp k3
      obtain ⟨ρ2, b3, u2, u3⟩ := mt_ct_ok (xs := xs) (K := (K.1, l, K.2.2)) hL hmod k1 k2 k2' hmok hm hfr l2 hg hg'
      have fin := mt_sg_ok (RO := RO) (NV := NV) (cq := cq) hlo hrf hro hz hI hall hnd k4 b3 hfr (mt_lv_okl u3) (fun w hw q hq => by
        cases hw
        exact mt_lin_sym (sx_0lt b3) u3 q hq) (fun K' hK' vs' M4 hvs' hg1 hg2 hm' hfr' hdec => by
        refine ih K' hK' vs' M4 hvs' hg1 hg2 hm' hfr' ?_
        have h7 : mt_mu K'.2.2.2.2.1 vs' + K'.2.2.2.2.2.1 ≤ mt_ev ρ2 (mt_lin K.2.2.2.2.1 (mt_cv c.2.2.2.1 (K.1, l, K.2.2))) + K.2.2.2.2.2.1 - 1 := hdec _ rfl
        have e : mt_ev ρ2 (mt_lin K.2.2.2.2.1 (mt_cv c.2.2.2.1 (K.1, l, K.2.2))) = mt_mu K.2.2.2.2.1 vs := by rw [mt_lin_ok b3.2.1 u3, u2]
        rw [e] at h7
        push_cast at hn
        omega)
      rw [mt_lv_cl, u2, mt_zv_congr l1] at fin
      exact fin
  obtain ⟨ρ1, a1, a2, a3, a4, a5⟩ := mt_as_ok has (mt_tr_sat (MM := M) (mod := []) (xs := xs) hL (fun a ha => by cases ha) hmok (fun a _ _ => rfl))
  obtain ⟨ρ2, b1, b2, b3⟩ := ct_get_ok (l := c.2.1) a3 (mt_gd_ok h0 hpre)
  have u2 : sx_cs1 ρ2 (mt_as c.1 (mt_tr [])).1 = as := (sx_ext_cs b1 a5).trans a4
  have fin := mt_sg_ok (RO := RO) (NV := NV) (cq := cq) hlo hrf hro hz hI hall hnd h2 b3 (fun a i _ _ _ => rfl) (sx_args_okl (sx_ext_oks b1 b2 a5)) (fun w hw => by cases hw) (fun K hK vs M3 hvs hg hg' hm hfr _ => main (mt_mu K.2.2.2.2.1 vs + K.2.2.2.2.2.1).toNat.succ K hK vs M3 hvs hg hg' hm hfr (by push_cast; omega))
  rw [← sx_args_ok, u2] at fin
  obtain ⟨F, r, M', f1, f2, f3, f4, f5⟩ := fin
  exact ⟨F, r, M', mt_d f1 hd, f2, f3, f4, f5⟩
end
