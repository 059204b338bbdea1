/-! A loop that writes a place again and again, calls others, and at the end writes what was there: nothing is changed but what the calls may change. -/
section
variable {WF : (Nat → Nat → Int) → Prop} {L : Nat} {xs : Nat → Int32} {M M' M0 N : Nat → Nat → Int} {ρ ρ' Z Z' : Nat → Int} {t t0 : sx_S} {Q : Option Value → (Nat → Nat → Int) → Prop}
/-- a walk with contracts -/
noncomputable def rl_seg (cts : List (Nat × ct_C)) (stp : Nat → Bool) (rec : sx_P → Bool) (fc f d j pc : Nat) (lv : sx_L) (t : sx_S) : Bool := match sx_seg (fun _ _ => none) cl_ly cl_rc (0, -100) false sm_MT sm_LK (fun _ => false) (ct_hk cl_ly true cz_zs cts) stp fc f d j true pc lv [] t with
  | some os => os.all rec
  | none => false
theorem rl_use {cts : List (Nat × ct_C)} {stp : Nat → Bool} {rec : sx_P → Bool} {fc f d d' j pc : Nat} {lv : sx_L} (hz : ∀ M M' : Nat → Nat → Int, (∀ z ∈ cz_zs, M' z = M z) → WF M → WF M') (hW : WF M) (hall : ∀ c ∈ cts, cc WF L xs c.1 c.2) (h : rl_seg cts stp rec fc f d j pc lv t = true) (hs : sx_sat cl_ly (0, -100) xs L M ρ M t) (hl : sx_okl ρ t.1 lv) (hd : d ≤ d') (K : ∀ (o : sx_P) (ρ' : Nat → Int) (M' : Nat → Nat → Int), rec o = true → sx_ext t.1 ρ ρ' → sx_sat cl_ly (0, -100) xs L M ρ' M' o.2.2.2.2 → (∀ v, o.1 = some v → Q (v.map (sx_cv1 ρ')) M') ∧ (o.1 = none → sx_okl ρ' o.2.2.2.2.1 o.2.2.1 → ∃ lv', lo_le lv' (sx_cl1 ρ' o.2.2.1) ∧ rz_fin Q L xs j d o.2.1 lv' (sx_cs1 ρ' o.2.2.2.1) M')) : rz_fin Q L xs j d' pc (sx_cl1 ρ lv) [] M := by
  unfold rl_seg at h
  cases e : sx_seg (fun _ _ => none) cl_ly cl_rc (0, -100) false sm_MT sm_LK (fun _ => false) (ct_hk cl_ly true cz_zs cts) stp fc f d j true pc lv [] t with
  | none => rw [e] at h; cases h
  | some os =>
    rw [e] at h
    have hbs : sx_hbs cl_ly (fun _ _ => none) M := fun k h i c _ _ _ e => by cases e
    obtain ⟨o, om, ρ', M', x1, x2, x3, x4⟩ := sx_seg_ok (NV := sm_NV) (cq := sm_cq) (RO := sm_RO L xs) cl_lok hbs cl_hrf (cl_hro L xs) (ct_hk_ok hz (fun _ => hW) hall) f d j true pc lv [] t os ρ M e hs hl (fun v hv => by cases hv)
    obtain ⟨k1, k2⟩ := K o ρ' M' (List.all_eq_true.mp h o om) x1 x3
    rcases x4 with ⟨r, w1, w2, F, w3⟩ | ⟨w1, w2, w3, w4, w5⟩
    · exact ⟨F, _, M', mt_d w3 hd, k1 r w1⟩
    · obtain ⟨lv', hle, F, r, M2, e, e1⟩ := k2 w1 w3
      obtain ⟨F', e'⟩ := w5 F r _ (lo_run _ _ _ _ _ _ _ _ _ hle e)
      exact ⟨F', r, M2, mt_d e' hd, e1⟩
/-- but for some cells, and some places, nothing is changed -/
noncomputable def rl_m (mods : List Nat) (al : List (Nat × sx_A)) (t0 t : sx_S) : Bool := (List.range 128).all fun a => bif mods.any (Nat.beq a) then true else bif Nat.beq (sx_tg 7 t.2.2.2 a).1 0 then true else sx_an (Nat.ble (sx_tg 7 t.2.2.2 a).1 1) ((sx_tg 7 t.2.2.2 a).2.all fun e => bif al.any (fun q => sx_an (Nat.beq q.1 a) (sx_ae q.2 e.1)) then true else sx_an (Nat.blt e.1.1 t0.1) (match sx_kn (fun _ _ => none) t0 a e.1 with
  | some v => sx_ae v e.2
  | none => false))
theorem rl_m_ok {mods : List Nat} {al : List (Nat × sx_A)} (hs0 : sx_sat cl_ly (0, -100) xs L M ρ M t0) (x : sx_ext t0.1 ρ ρ') (hs : sx_sat cl_ly (0, -100) xs L M ρ' M' t) (h : rl_m mods al t0 t = true) : ∀ a i, a < 128 → a ∉ mods → (∀ q ∈ al, q.1 = a → i ≠ (sx_val ρ' q.2).toNat) → M' a i = M a i := by
  intro a i ha hmo hal
  have h1 := List.all_eq_true.mp h a (List.mem_range.mpr ha)
  have e1 : mods.any (Nat.beq a) = false := by
    cases e : mods.any (Nat.beq a) with
    | false => rfl
    | true =>
      obtain ⟨y, hy, e2⟩ := List.any_eq_true.mp e
      exact absurd (by rw [sx_nbeq.mp e2]; exact hy) hmo
  rw [e1] at h1
  obtain ⟨l1, g0, l2, l3, l4⟩ := hs.2.2.2.2.2.2.1 a ha
  by_cases e0 : (sx_tg 7 t.2.2.2 a).1 = 0
  · rw [l4 e0]
  rw [sx_nbeq_f.mpr e0] at h1
  obtain ⟨h2, h3⟩ := sx_an_iff.mp h1
  have h2 := Nat.le_of_ble_eq_true h2
  rw [l3, l2 (by omega)]
  have key : ∀ l : List (sx_A × sx_A), (∀ e ∈ l, e.1.1 < t.1 ∧ e.2.1 < t.1 ∧ 0 ≤ sx_val ρ' e.1) → (l.all fun e => bif al.any (fun q => sx_an (Nat.beq q.1 a) (sx_ae q.2 e.1)) then true else sx_an (Nat.blt e.1.1 t0.1) (match sx_kn (fun _ _ => none) t0 a e.1 with
      | some v => sx_ae v e.2
      | none => false)) = true → sx_app ρ' l (M a) i = M a i := by
    intro l
    induction l with
    | nil => intro _ _; rfl
    | cons e l ih =>
      intro hl hc
      have hc := List.all_eq_true.mp hc
      have r := ih (fun w hw => hl w (List.mem_cons_of_mem _ hw)) (List.all_eq_true.mpr fun w hw => hc w (List.mem_cons_of_mem _ hw))
      show sx_fup (sx_app ρ' l (M a)) (sx_val ρ' e.1).toNat (sx_val ρ' e.2) i = M a i
      unfold sx_fup
      by_cases hi : i = (sx_val ρ' e.1).toNat
      · rw [if_pos hi]
        have h4 := hc e List.mem_cons_self
        cases e5 : al.any (fun q => sx_an (Nat.beq q.1 a) (sx_ae q.2 e.1)) with
        | true =>
          obtain ⟨q, hq, e6⟩ := List.any_eq_true.mp e5
          obtain ⟨e6, e7⟩ := sx_an_iff.mp e6
          have := hal q hq (sx_nbeq.mp e6)
          rw [sx_ae_iff.mp e7] at this
          exact absurd hi this
        | false =>
          rw [e5] at h4
          obtain ⟨h5, h6⟩ := sx_an_iff.mp (show sx_an (Nat.blt e.1.1 t0.1) (match sx_kn (fun _ _ => none) t0 a e.1 with
            | some v => sx_ae v e.2
            | none => false) = true from h4)
          have h5 := sx_blt h5
          have hv : sx_val ρ' e.1 = sx_val ρ e.1 := sx_ext_val x h5
          have h0 : 0 ≤ sx_val ρ e.1 := by rw [← hv]; exact (hl e List.mem_cons_self).2.2
          cases e7 : sx_kn (fun _ _ => none) t0 a e.1 with
          | none => rw [e7] at h6; cases h6
          | some v =>
            rw [e7] at h6
            obtain ⟨k1, k2⟩ := sx_kn_ok hs0 ha h0 (fun c _ h9 => by cases h9) e7
            rw [← sx_ae_iff.mp h6, sx_ext_val x k2, ← k1, hi, hv]
      · rw [if_neg hi]
        exact r
  exact key _ l1 h3
end
