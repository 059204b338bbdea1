/-! A method's contract where what falls is told by hand. -/
section
variable {II : (Nat → Nat → Int) → Prop} {zs : List Nat} {MT : Nat → sm_M} {LK : Nat → Nat → Option sm_L} {RO : List (Nat × (Nat → Int32))} {NV : Nat → List Value} {cq : Nat} {ly : Nat → Option sx_H} {xs : Nat → Int32} {L : Nat} {MM : Nat → Nat → Int} {lay : List sx_H} {rf : Nat → Nat → Option Nat} {rc : List (List Int)}
abbrev mw_ck : Type := List sx_V → List sx_V → sx_S → Bool
noncomputable def mw_out (ly : Nat → Option sx_H) (c : ct_C) (cuts : List mt_K) (t0 : sx_S) (ck : List sx_V → sx_S → Bool) (o : sx_P) : Bool := match o.1 with
  | some r => mt_end ly c t0 o.2.2.2.2 r
  | none => cuts.any fun K => sx_an (Nat.beq K.1 o.2.1) (sx_an (mt_stop ly c K none t0 o.2.2.1 o.2.2.2.1 o.2.2.2.2) (match mt_at K.2.1 o.2.2.1 with
    | some vs => ck vs o.2.2.2.2
    | none => false))
noncomputable def mw_sg (ly : Nat → Option sx_H) (rc : List (List Int)) (MT : Nat → sm_M) (LK : Nat → Nat → Option sm_L) (zs : List Nat) (cts : List (Nat × ct_C)) (fc f j : Nat) (c : ct_C) (cuts : List mt_K) (ck : List sx_V → sx_S → Bool) (pc : Nat) (lv : sx_L) (t : sx_S) : Bool := match sx_seg (fun _ _ => none) ly rc (0, -100) false MT LK (fun _ => false) (ct_hk ly c.2.2.2.2.2.2 zs cts) (mt_stp cuts) fc f c.2.2.2.2.2.1 j true pc lv [] t with
  | some os => os.all (mw_out ly c cuts t ck)
  | none => false
noncomputable def mw_c1 (ly : Nat → Option sx_H) (rc : List (List Int)) (MT : Nat → sm_M) (LK : Nat → Nat → Option sm_L) (zs : List Nat) (cts : List (Nat × ct_C)) (fc f j : Nat) (c : ct_C) (cuts : List mt_K) (ck : mw_ck) (K : mt_K) : Bool := sx_an (mt_nd (K.2.1.map fun q => q.1)) (sx_an (sx_an (mt_kw c K) (sx_an (mt_gd K.2.2.1) (mt_gd K.2.2.2.1))) (mw_sg ly rc MT LK zs cts fc f j c cuts (ck (mt_cv c.2.2.2.1 K)) K.1 (mt_lv K.2.1 (mt_cv c.2.2.2.1 K)) (mt_ct c.2.2.2.1 K)))
noncomputable def mw_chk (ly : Nat → Option sx_H) (rc : List (List Int)) (MT : Nat → sm_M) (LK : Nat → Nat → Option sm_L) (zs : List Nat) (cts : List (Nat × ct_C)) (fc f j : Nat) (c : ct_C) (cuts : List mt_K) (ck : mw_ck) : Bool := sx_an (mt_gd c.2.1) (sx_an (c.2.2.2.1.all fun a => Nat.blt a 128) (sx_an (mw_sg ly rc MT LK zs cts fc f j c cuts (fun _ _ => true) 0 (sx_args 0 (mt_as c.1 (mt_tr [])).1) (ct_get c.2.1 (mt_as c.1 (mt_tr [])).2)) (cuts.all (mw_c1 ly rc MT LK zs cts fc f j c cuts ck))))
theorem mw_sg_ok {cts : List (Nat × ct_C)} {fc f j : Nat} {c : ct_C} {cuts : List mt_K} {ck : List sx_V → sx_S → Bool} {pc : Nat} {lv : sx_L} {t : sx_S} {ρ : Nat → Int} {M1 : Nat → Nat → Int} (hlo : sx_lok ly lay) (hrf : sx_hrf ly rf) (hro : sx_hro rc RO xs L) (hz : ∀ M M' : Nat → Nat → Int, (∀ z ∈ zs, M' z = M z) → II M → II M') (hI : c.2.2.2.2.2.2 = true → II MM) (hall : ∀ c ∈ cts, ct_ok MT LK RO NV cq ly lay rf II c.1 c.2) (hnd : ∀ K ∈ cuts, (K.2.1.map fun q => q.1).Nodup) (h : mw_sg ly rc MT LK zs cts fc f j c cuts ck pc lv t = true) (hs : sx_sat ly (0, -100) xs L MM ρ M1 t) (hfr : ct_fr c MM M1) (hl : sx_okl ρ t.1 lv) (hk : ∀ K ∈ cuts, ∀ (vs : List sx_V) (ρ' : Nat → Int) (t' : sx_S) M3, sx_ext t.1 ρ ρ' → t.1 ≤ t'.1 → sx_sat ly (0, -100) xs L MM ρ' M3 t' → sx_oks ρ' t'.1 vs → ck vs t' = true → ct_vs (K.2.1.map fun q => q.2) (sx_cs1 ρ' vs) → ct_g K.2.2.1 M3 → ct_g K.2.2.2.1 M3 → sx_mok ly M3 → ct_fr c MM M3 → mt_fin MT LK RO NV cq ly lay rf MM c j K.1 (mt_zv K.2.1 (sx_cs1 ρ' vs)) [] (sx_HH lay rf M3)) : mt_fin MT LK RO NV cq ly lay rf MM c j pc (sx_cl1 ρ lv) [] (sx_HH lay rf M1) := by
  unfold mw_sg at h
  cases e : sx_seg (fun _ _ => none) ly rc (0, -100) false MT LK (fun _ => false) (ct_hk ly c.2.2.2.2.2.2 zs cts) (mt_stp cuts) fc f c.2.2.2.2.2.1 j true pc lv [] t with
  | none => rw [e] at h; cases h
  | some os =>
    rw [e] at h
    have hbs : sx_hbs ly (fun _ _ => none) MM := fun k h i c _ _ _ e => by cases e
    obtain ⟨o, om, ρ', M', x1, x2, x3, x4⟩ := sx_seg_ok (NV := NV) (cq := cq) (RO := RO) hlo hbs hrf hro (ct_hk_ok hz hI hall) f c.2.2.2.2.2.1 j true pc lv [] t os ρ M1 e hs hl (fun v hv => by cases hv)
    have ho := List.all_eq_true.mp h o om
    unfold mw_out at ho
    rcases x4 with ⟨r, w1, w2, F, w3⟩ | ⟨w1, w2, w3, w4, w5⟩
    · rw [w1] at ho
      obtain ⟨a, b, c9⟩ := mt_end_ok hs x1 hfr x3 w2 ho
      exact ⟨F, _, M', w3, x3.2.2.2.2.2.1, a, b, c9⟩
    · rw [w1] at ho
      obtain ⟨K, hK, e1⟩ := List.any_eq_true.mp ho
      obtain ⟨e1, e2⟩ := sx_an_iff.mp e1
      obtain ⟨e2, e3⟩ := sx_an_iff.mp e2
      have e1 := sx_nbeq.mp e1
      unfold mt_stop at e2
      cases eat : mt_at K.2.1 o.2.2.1 with
      | none => rw [eat] at e2; cases e2
      | some vs =>
        cases es : o.2.2.2.1 with
        | cons v r => rw [eat, es] at e2; cases e2
        | nil =>
          rw [eat, es] at e2
          rw [eat] at e3
          obtain ⟨b1, e2⟩ := sx_an_iff.mp e2
          obtain ⟨b2, e2⟩ := sx_an_iff.mp e2
          obtain ⟨b2, b2'⟩ := sx_an_iff.mp b2
          obtain ⟨b3, e2⟩ := sx_an_iff.mp e2
          obtain ⟨b4, -⟩ := sx_an_iff.mp e2
          obtain ⟨a1, a2⟩ := mt_at_ok w3 eat
          obtain ⟨F, r, M2, f1, f2, f3, f4, f5⟩ := hk K hK vs ρ' o.2.2.2.2 M' x1 x2 x3 a1 e3 (ct_fvs_ok x3 a1 b1) (fun g hg => ct_fg_ok x3 (List.all_eq_true.mp b2 g hg)) (fun g hg => ct_fg_ok x3 (List.all_eq_true.mp b2' g hg)) x3.2.2.2.2.2.1 (mt_cells_ok hs x1 hfr x3 b3)
          have g1 := lo_run F c.2.2.2.2.2.1 j K.1 (mt_zv K.2.1 (sx_cs1 ρ' vs)) (sx_cl1 ρ' o.2.2.1) [] (sx_HH lay rf M') _ ⟨mt_zv_nd (hnd K hK), mt_cl_nd (mt_nd_ok b4), a2⟩ f1
          rw [e1] at g1
          rw [es] at w5
          obtain ⟨F', g2⟩ := w5 F r _ g1
          exact ⟨F', r, M2, g2, f2, f3, f4, f5⟩
theorem mw_ok {cts : List (Nat × ct_C)} {fc f j : Nat} {c : ct_C} {cuts : List mt_K} {ck : mw_ck} {μ : List Value → Nat} (hlo : sx_lok ly lay) (hrf : sx_hrf ly rf) (hro : sx_hro rc RO xs L) (hL : L < 2 ^ 31) (hz : ∀ M M' : Nat → Nat → Int, (∀ z ∈ zs, M' z = M z) → II M → II M') (hall : ∀ c ∈ cts, ct_ok MT LK RO NV cq ly lay rf II c.1 c.2) (hck : ∀ (us vs : List sx_V) (t : sx_S) (ρ : Nat → Int) (MM M : Nat → Nat → Int), ck us vs t = true → sx_sat ly (0, -100) xs L MM ρ M t → sx_oks ρ t.1 us → sx_oks ρ t.1 vs → μ (sx_cs1 ρ vs) < μ (sx_cs1 ρ us)) (h : mw_chk ly rc MT LK zs cts fc f j c cuts ck = true) : ct_ok MT LK RO NV cq ly lay rf II j c := by
  obtain ⟨h0, h⟩ := sx_an_iff.mp h
  obtain ⟨h1, h⟩ := sx_an_iff.mp h
  obtain ⟨h2, h3⟩ := sx_an_iff.mp h
  have hmod : ∀ a ∈ c.2.2.2.1, a < 128 := fun a ha => sx_blt (List.all_eq_true.mp h1 a ha)
  have hc1 : ∀ K ∈ cuts, mw_c1 ly rc MT LK zs cts fc f j c cuts ck K = true := fun K hK => List.all_eq_true.mp h3 K hK
  have hnd : ∀ K ∈ cuts, (K.2.1.map fun q => q.1).Nodup := fun K hK => mt_nd_ok (sx_an_iff.mp (hc1 K hK)).1
  intro d as M hd has hpre hmok hI
  have main : ∀ (n : Nat) (K : mt_K), K ∈ cuts → ∀ vs M3, ct_vs (K.2.1.map fun q => q.2) vs → ct_g K.2.2.1 M3 → ct_g K.2.2.2.1 M3 → sx_mok ly M3 → ct_fr c M M3 → μ vs < n → mt_fin MT LK RO NV cq ly lay rf M c j K.1 (mt_zv K.2.1 vs) [] (sx_HH lay rf M3) := by
    intro n
    induction n with
    | zero => intro K hK vs M3 hvs hg hg' hm hfr hn; omega
    | succ n ih =>
      intro K hK vs M3 hvs hg hg' hm hfr hn
      obtain ⟨-, k2⟩ := sx_an_iff.mp (hc1 K hK)
      obtain ⟨k2, k4⟩ := sx_an_iff.mp k2
      obtain ⟨k1, k2⟩ := sx_an_iff.mp k2
      obtain ⟨k2, k2'⟩ := sx_an_iff.mp k2
      obtain ⟨ρ2, b3, u2, u3⟩ := mt_ct_ok (xs := xs) hL hmod k1 k2 k2' hmok hm hfr hvs hg hg'
      have fin := mw_sg_ok (RO := RO) (NV := NV) (cq := cq) hlo hrf hro hz hI hall hnd k4 b3 hfr (mt_lv_okl u3) (fun K' hK' vs' ρ' t' M4 hx hle hsat hoks hckv hvs' hg1 hg2 hm' hfr' => by
        have e1 := hck _ _ _ ρ' M M4 hckv hsat (sx_ext_oks hx hle u3) hoks
        rw [sx_ext_cs hx u3, u2] at e1
        exact ih K' hK' _ M4 hvs' hg1 hg2 hm' hfr' (by omega))
      rw [mt_lv_cl, u2] at fin
      exact fin
  obtain ⟨ρ1, a1, a2, a3, a4, a5⟩ := mt_as_ok has (mt_tr_sat (MM := M) (mod := []) (xs := xs) hL (fun a ha => by cases ha) hmok (fun a _ _ => rfl))
  obtain ⟨ρ2, b1, b2, b3⟩ := ct_get_ok (l := c.2.1) a3 (mt_gd_ok h0 hpre)
  have u2 : sx_cs1 ρ2 (mt_as c.1 (mt_tr [])).1 = as := (sx_ext_cs b1 a5).trans a4
  have fin := mw_sg_ok (RO := RO) (NV := NV) (cq := cq) hlo hrf hro hz hI hall hnd h2 b3 (fun a i _ _ _ => rfl) (sx_args_okl (sx_ext_oks b1 b2 a5)) (fun K hK vs ρ' t' M3 _ _ _ _ _ hvs hg hg' hm hfr => main (μ (sx_cs1 ρ' vs) + 1) K hK _ M3 hvs hg hg' hm hfr (Nat.lt_succ_self _))
  rw [← sx_args_ok, u2] at fin
  obtain ⟨F, r, M', f1, f2, f3, f4, f5⟩ := fin
  exact ⟨F, r, M', mt_d f1 hd, f2, f3, f4, f5⟩
end
