/-! A walk whose ways are told beforehand: where it stops or what it answers, what it writes, what holds then. -/
section
variable {L : Nat} {xs : Nat → Int32} {M M' MM M0 M1 M2 N : Nat → Nat → Int} {ρ ρ' : Nat → Int} {t t0 : sx_S} {Q : Option Value → (Nat → Nat → Int) → Prop}
/-- cell, place, value -/
abbrev og_W : Type := Nat × sx_A × sx_A
/-- 0: a lies in lo .. hi; 1, 2: symbol a is (isn't) below symbol b and lo; 3, 4: it is (isn't) that; 5: symbol hi is operation lo of a and b; 6: cell lo holds b at a; 7: symbol a isn't lo -/
abbrev og_D : Type := Nat × sx_A × sx_A × Int × Int
/-- where it stops (none: it answers); the answer; stack; locals; what is written, the latest first; what holds -/
abbrev og_T : Type := Option Nat × Option sx_V × List sx_V × sx_L × List og_W × List og_D
noncomputable def og_dc (t : sx_S) (q : og_D) : Bool := match q.1 with
  | 0 => jin t q.2.1 q.2.2.2.1 q.2.2.2.2
  | 1 => (match sx_kl t.2.2.1.2 q.2.1.1 q.2.2.1.1 q.2.2.2.1 with
    | some b => b
    | none => false)
  | 2 => (match sx_kl t.2.2.1.2 q.2.1.1 q.2.2.1.1 q.2.2.2.1 with
    | some b => !b
    | none => false)
  | 3 => (match sx_ke t.2.2.1.2 q.2.1.1 q.2.2.1.1 q.2.2.2.1 with
    | some b => b
    | none => false)
  | 4 => (match sx_ke t.2.2.1.2 q.2.1.1 q.2.2.1.1 q.2.2.2.1 with
    | some b => !b
    | none => false)
  | 5 => (match sx_mq t.2.2.1.2 q.2.2.2.1.toNat q.2.1 q.2.2.1 with
    | some v => Nat.beq v q.2.2.2.2.toNat
    | none => false)
  | 7 => sx_nh t.2.2.1.1 q.2.1.1 q.2.2.2.1
  | _ => sx_an (sx_an (Nat.blt q.2.2.2.1.toNat 128) (sx_le 0 (sx_iv t q.2.1).1)) (match sx_kn (fun _ _ => none) t q.2.2.2.1.toNat q.2.1 with
    | some v => sx_ae v q.2.2.1
    | none => false)
def og_ds (ρ : Nat → Int) (M : Nat → Nat → Int) (q : og_D) : Prop := match q.1 with
  | 0 => q.2.2.2.1 ≤ sx_val ρ q.2.1 ∧ sx_val ρ q.2.1 ≤ q.2.2.2.2
  | 1 => ρ q.2.1.1 < ρ q.2.2.1.1 + q.2.2.2.1
  | 2 => ¬ ρ q.2.1.1 < ρ q.2.2.1.1 + q.2.2.2.1
  | 3 => ρ q.2.1.1 = ρ q.2.2.1.1 + q.2.2.2.1
  | 4 => ¬ ρ q.2.1.1 = ρ q.2.2.1.1 + q.2.2.2.1
  | 5 => ρ q.2.2.2.2.toNat = sx_mf q.2.2.2.1.toNat (sx_val ρ q.2.1) (sx_val ρ q.2.2.1)
  | 7 => ρ q.2.1.1 ≠ q.2.2.2.1
  | _ => M q.2.2.2.1.toNat (sx_val ρ q.2.1).toNat = sx_val ρ q.2.2.1
theorem og_d_ok {q : og_D} (hs : sx_sat cl_ly (0, -100) xs L MM ρ M t) (h : og_dc t q = true) : og_ds ρ M q := by
  obtain ⟨k, a, b, lo, hi⟩ := q
  match k, h with
  | 0, h => exact jin_ok hs h
  | 1, h =>
    have h : (match sx_kl t.2.2.1.2 a.1 b.1 lo with
      | some b => b
      | none => false) = true := h
    cases e : sx_kl t.2.2.1.2 a.1 b.1 lo with
    | none => rw [e] at h; cases h
    | some c =>
      rw [e] at h
      have h : c = true := h
      subst h
      show ρ a.1 < ρ b.1 + lo
      exact of_decide_eq_true (sx_kl_ok hs.2.1 hs.2.2.2.2.1.2 e).symm
  | 2, h =>
    have h : (match sx_kl t.2.2.1.2 a.1 b.1 lo with
      | some b => !b
      | none => false) = true := h
    cases e : sx_kl t.2.2.1.2 a.1 b.1 lo with
    | none => rw [e] at h; cases h
    | some c =>
      rw [e] at h
      cases c with
      | true => cases h
      | false =>
        show ¬ ρ a.1 < ρ b.1 + lo
        exact of_decide_eq_false (sx_kl_ok hs.2.1 hs.2.2.2.2.1.2 e).symm
  | 3, h =>
    have h : (match sx_ke t.2.2.1.2 a.1 b.1 lo with
      | some b => b
      | none => false) = true := h
    cases e : sx_ke t.2.2.1.2 a.1 b.1 lo with
    | none => rw [e] at h; cases h
    | some c =>
      rw [e] at h
      have h : c = true := h
      subst h
      show ρ a.1 = ρ b.1 + lo
      exact of_decide_eq_true (sx_ke_ok hs.2.1 hs.2.2.2.2.1.2 e).symm
  | 4, h =>
    have h : (match sx_ke t.2.2.1.2 a.1 b.1 lo with
      | some b => !b
      | none => false) = true := h
    cases e : sx_ke t.2.2.1.2 a.1 b.1 lo with
    | none => rw [e] at h; cases h
    | some c =>
      rw [e] at h
      cases c with
      | true => cases h
      | false =>
        show ¬ ρ a.1 = ρ b.1 + lo
        exact of_decide_eq_false (sx_ke_ok hs.2.1 hs.2.2.2.2.1.2 e).symm
  | 6, h =>
    obtain ⟨h1, h2⟩ := sx_an_iff.mp (show sx_an (sx_an (Nat.blt lo.toNat 128) (sx_le 0 (sx_iv t a).1)) (match sx_kn (fun _ _ => none) t lo.toNat a with
      | some v => sx_ae v b
      | none => false) = true from h)
    obtain ⟨h1, h3⟩ := sx_an_iff.mp h1
    have h3 := sx_le_iff.mp h3
    have hi := sx_iv_ok hs a
    cases e : sx_kn (fun _ _ => none) t lo.toNat a with
    | none => rw [e] at h2; cases h2
    | some v =>
      rw [e] at h2
      show M lo.toNat (sx_val ρ a).toNat = sx_val ρ b
      rw [← sx_ae_iff.mp h2]
      exact (sx_kn_ok hs (sx_blt h1) (Int.le_trans h3 hi.1) (fun c _ h9 => by cases h9) e).1
  | 7, h => exact sx_nh_ok a.1 lo _ (fun q hq => (hs.2.2.2.2.1.1 q hq).2) h
  | n + 8, h =>
    obtain ⟨h1, h2⟩ := sx_an_iff.mp (show sx_an (sx_an (Nat.blt lo.toNat 128) (sx_le 0 (sx_iv t a).1)) (match sx_kn (fun _ _ => none) t lo.toNat a with
      | some v => sx_ae v b
      | none => false) = true from h)
    obtain ⟨h1, h3⟩ := sx_an_iff.mp h1
    have h3 := sx_le_iff.mp h3
    have hi := sx_iv_ok hs a
    cases e : sx_kn (fun _ _ => none) t lo.toNat a with
    | none => rw [e] at h2; cases h2
    | some v =>
      rw [e] at h2
      show M lo.toNat (sx_val ρ a).toNat = sx_val ρ b
      rw [← sx_ae_iff.mp h2]
      exact (sx_kn_ok hs (sx_blt h1) (Int.le_trans h3 hi.1) (fun c _ h9 => by cases h9) e).1
  | 5, h =>
    have h : (match sx_mq t.2.2.1.2 lo.toNat a b with
      | some v => Nat.beq v hi.toNat
      | none => false) = true := h
    cases e : sx_mq t.2.2.1.2 lo.toNat a b with
    | none => rw [e] at h; cases h
    | some v =>
      rw [e] at h
      have k := (sx_mq_ok hs.2.2.2.2.1.2 e).2
      rw [sx_nbeq.mp h] at k
      exact k
def og_cs (ρ : Nat → Int) (M : Nat → Nat → Int) : List og_D → Prop
  | [] => True
  | q :: r => og_ds ρ M q ∧ og_cs ρ M r
theorem og_cs_ok (hs : sx_sat cl_ly (0, -100) xs L MM ρ M t) : ∀ {l : List og_D}, l.all (og_dc t) = true → og_cs ρ M l := by
  intro l
  induction l with
  | nil => intro _; trivial
  | cons q l ih =>
    intro h
    have h := List.all_eq_true.mp h
    exact ⟨og_d_ok hs (h q List.mem_cons_self), ih (List.all_eq_true.mpr fun w hw => h w (List.mem_cons_of_mem _ hw))⟩
/-- the cell behind the writes -/
noncomputable def og_cell (ws : List og_W) (a : Nat) (l0 : sx_F) : sx_F := ws.rec l0 (fun w _ ih => bif Nat.beq w.1 a then (sx_wr ih.1, (w.2.1, w.2.2) :: sx_flt w.2.1 ih.2) else ih)
def og_up (ρ : Nat → Int) (ws : List og_W) (M : Nat → Nat → Int) : Nat → Nat → Int := ws.foldr (fun w N => sx_up N w.1 (sx_val ρ w.2.1).toNat (sx_val ρ w.2.2)) M
noncomputable def og_mem (ws : List og_W) (t0 t : sx_S) : Bool := (List.range 128).all fun a => bif ws.any (fun w => Nat.beq w.1 a) then sx_an (Nat.beq (sx_tg 7 t.2.2.2 a).1 1) (sx_an (sx_ebA (sx_tg 7 t.2.2.2 a).2 (og_cell ws a (sx_tg 7 t0.2.2.2 a)).2) (Nat.beq (sx_tg 7 t0.2.2.2 a).1 0)) else Nat.beq (sx_tg 7 t.2.2.2 a).1 0
theorem og_cell_ok {a : Nat} {l0 : sx_F} {g : Nat → Int} (hN : N a = sx_app ρ l0.2 g) : ∀ (ws : List og_W), og_up ρ ws N a = sx_app ρ (og_cell ws a l0).2 g := by
  intro ws
  induction ws with
  | nil => exact hN
  | cons w ws ih =>
    show sx_up (og_up ρ ws N) w.1 (sx_val ρ w.2.1).toNat (sx_val ρ w.2.2) a = sx_app ρ (bif Nat.beq w.1 a then (sx_wr (og_cell ws a l0).1, (w.2.1, w.2.2) :: sx_flt w.2.1 (og_cell ws a l0).2) else og_cell ws a l0).2 g
    cases e : Nat.beq w.1 a with
    | true =>
      have e := sx_nbeq.mp e
      subst e
      funext j
      show sx_up (og_up ρ ws N) w.1 (sx_val ρ w.2.1).toNat (sx_val ρ w.2.2) w.1 j = sx_fup (sx_app ρ (sx_flt w.2.1 (og_cell ws w.1 l0).2) g) (sx_val ρ w.2.1).toNat (sx_val ρ w.2.2) j
      unfold sx_up sx_fup
      rw [if_pos rfl]
      by_cases hj : j = (sx_val ρ w.2.1).toNat
      · rw [if_pos hj, if_pos hj]
      · rw [if_neg hj, if_neg hj, sx_flt_app hj, ih]
    | false =>
      have e := sx_nbeq_f.mp e
      show sx_up (og_up ρ ws N) w.1 (sx_val ρ w.2.1).toNat (sx_val ρ w.2.2) a = sx_app ρ (og_cell ws a l0).2 g
      rw [← ih]
      funext j
      unfold sx_up
      rw [if_neg (fun h => e h.symm)]
theorem og_up_ne {a : Nat} : ∀ {ws : List og_W}, (∀ w ∈ ws, w.1 ≠ a) → og_up ρ ws M a = M a := by
  intro ws
  induction ws with
  | nil => intro _; rfl
  | cons w ws ih =>
    intro h
    show sx_up (og_up ρ ws M) w.1 (sx_val ρ w.2.1).toNat (sx_val ρ w.2.2) a = M a
    rw [← ih (fun q hq => h q (List.mem_cons_of_mem _ hq))]
    funext j
    unfold sx_up
    rw [if_neg (fun e => h w List.mem_cons_self e.symm)]
theorem og_mem_ok {ws : List og_W} {ρ0 : Nat → Int} (hs0 : sx_sat cl_ly (0, -100) xs L M ρ0 M t0) (hx : sx_ext t0.1 ρ0 ρ) (hs : sx_sat cl_ly (0, -100) xs L M ρ M' t) (h : og_mem ws t0 t = true) : ∀ a, a < 128 → M' a = og_up ρ ws M a := by
  intro a ha
  have h1 := List.all_eq_true.mp h a (List.mem_range.mpr ha)
  obtain ⟨l1, g0, l2, l3, l4⟩ := hs.2.2.2.2.2.2.1 a ha
  cases e : ws.any (fun w => Nat.beq w.1 a) with
  | false =>
    rw [e] at h1
    have h1 : Nat.beq (sx_tg 7 t.2.2.2 a).1 0 = true := h1
    rw [l4 (sx_nbeq.mp h1)]
    refine (og_up_ne (fun w hw e9 => ?_)).symm
    have : ws.any (fun w => Nat.beq w.1 a) = true := List.any_eq_true.mpr ⟨w, hw, sx_nbeq.mpr e9⟩
    rw [this] at e
    cases e
  | true =>
    rw [e] at h1
    obtain ⟨h1, h2⟩ := sx_an_iff.mp (show sx_an (Nat.beq (sx_tg 7 t.2.2.2 a).1 1) (sx_an (sx_ebA (sx_tg 7 t.2.2.2 a).2 (og_cell ws a (sx_tg 7 t0.2.2.2 a)).2) (Nat.beq (sx_tg 7 t0.2.2.2 a).1 0)) = true from h1)
    obtain ⟨h2, h3⟩ := sx_an_iff.mp h2
    have h1 := sx_nbeq.mp h1
    have h2 := sx_ebA_ok h2
    obtain ⟨k1, g1, k2, k3, k4⟩ := hs0.2.2.2.2.2.2.1 a ha
    have eg : g0 = M a := l2 (by rw [h1]; decide)
    have eg1 : g1 = M a := k2 (by rw [sx_nbeq.mp h3]; decide)
    have hN : M a = sx_app ρ (sx_tg 7 t0.2.2.2 a).2 (M a) := by
      rw [sx_app_ext hx _ _ k1]
      rw [eg1] at k3
      exact k3
    rw [og_cell_ok (l0 := sx_tg 7 t0.2.2.2 a) (g := M a) hN ws, l3, h2, eg]
noncomputable def og_chk (t0 : sx_S) (o : sx_P) (T : og_T) : Bool := match T.1 with
  | some p => (match o.1 with
    | some _ => false
    | none => sx_an (Nat.beq o.2.1 p) (sx_an (tk_sk T.2.2.1 o.2.2.2.1) (sx_an (tk_lk T.2.2.2.1 o.2.2.1) (sx_an (og_mem T.2.2.2.2.1 t0 o.2.2.2.2) (T.2.2.2.2.2.all (og_dc o.2.2.2.2))))))
  | none => (match o.1 with
    | some v => sx_an (sx_ebV T.2.1 v) (sx_an (og_mem T.2.2.2.2.1 t0 o.2.2.2.2) (T.2.2.2.2.2.all (og_dc o.2.2.2.2)))
    | none => false)
/-- what is owed for a way -/
def og_K (Q : Option Value → (Nat → Nat → Int) → Prop) (L : Nat) (xs : Nat → Int32) (j d : Nat) (T : og_T) (ρ' : Nat → Int) (M' : Nat → Nat → Int) : Prop := match T.1 with
  | some p => rz_fin Q L xs j d p (sx_cl1 ρ' T.2.2.2.1) (sx_cs1 ρ' T.2.2.1) M'
  | none => Q (T.2.1.map (sx_cv1 ρ')) M'
theorem og_ebV {a b : Option sx_V} (h : sx_ebV a b = true) : b = a := by
  cases a with
  | none =>
    cases b with
    | none => rfl
    | some _ => cases h
  | some x =>
    cases b with
    | none => cases h
    | some y =>
      obtain ⟨h1, h2⟩ := sx_an_iff.mp (show sx_an (Nat.beq x.1 y.1) (sx_ae x.2 y.2) = true from h)
      rw [Prod.ext (sx_nbeq.mp h1) (sx_ae_iff.mp h2)]
theorem og_use {Ts : List og_T} {stp : Nat → Bool} {fc f d d' j pc : Nat} {lv : sx_L} {s : List sx_V} {LV : sm_V} {S : List Value} (h : gs_chk stp (fun o => Ts.any (og_chk t o)) fc f d j pc lv s t = true) (hnd : (Ts.all fun T => mt_nd (T.2.2.2.1.map fun q => q.1)) = true) (hs : sx_sat cl_ly (0, -100) xs L M ρ M t) (hl : sx_okl ρ t.1 lv) (hk : sx_oks ρ t.1 s) (hd : d ≤ d') (eL : sx_cl1 ρ lv = LV) (eS : sx_cs1 ρ s = S) (K : ∀ T ∈ Ts, ∀ (ρ' : Nat → Int) (M' : Nat → Nat → Int), sx_ext t.1 ρ ρ' → ρ' 0 = 0 → sx_mok cl_ly M' → og_cs ρ' M' T.2.2.2.2.2 → (∀ a, a < 128 → M' a = og_up ρ' T.2.2.2.2.1 M a) → og_K Q L xs j d T ρ' M') : rz_fin Q L xs j d' pc LV S M := by
  refine tk_use h hs hl hk hd eL eS (fun o ρ' M' rec y1 y3 => ?_)
  obtain ⟨T, hT, h1⟩ := List.any_eq_true.mp rec
  have nd := List.all_eq_true.mp hnd T hT
  have main := fun h2 h3 => K T hT ρ' M' y1 y3.2.1 y3.2.2.2.2.2.1 (og_cs_ok y3 h2) (og_mem_ok hs y1 y3 h3)
  unfold og_chk at h1
  unfold og_K at main
  refine ⟨fun v eo => ?_, fun eo => ?_⟩
  · rw [eo] at h1
    cases e : T.1 with
    | some p => rw [e] at h1; cases h1
    | none =>
      rw [e] at h1 main
      obtain ⟨h1, h2⟩ := sx_an_iff.mp (show sx_an (sx_ebV T.2.1 v) (sx_an (og_mem T.2.2.2.2.1 t o.2.2.2.2) (T.2.2.2.2.2.all (og_dc o.2.2.2.2))) = true from h1)
      obtain ⟨h2, h3⟩ := sx_an_iff.mp h2
      rw [og_ebV h1]
      exact main h3 h2
  · rw [eo] at h1
    cases e : T.1 with
    | none => rw [e] at h1; cases h1
    | some p =>
      rw [e] at h1 main
      obtain ⟨h1, h2⟩ := sx_an_iff.mp (show sx_an (Nat.beq o.2.1 p) (sx_an (tk_sk T.2.2.1 o.2.2.2.1) (sx_an (tk_lk T.2.2.2.1 o.2.2.1) (sx_an (og_mem T.2.2.2.2.1 t o.2.2.2.2) (T.2.2.2.2.2.all (og_dc o.2.2.2.2))))) = true from h1)
      obtain ⟨h2, h3⟩ := sx_an_iff.mp h2
      obtain ⟨h3, h4⟩ := sx_an_iff.mp h3
      obtain ⟨h4, h5⟩ := sx_an_iff.mp h4
      refine ⟨sx_cl1 ρ' T.2.2.2.1, tk_lk_ok (tp_nd nd) h3, ?_⟩
      rw [sx_nbeq.mp h1, tk_sk_ok h2]
      exact main h5 h4
-- the start: numbers that are given, then fields
noncomputable def og_t (gs : List ct_Q) (fs : List ct_G) : sx_S := ct_get fs (mt_as gs (mt_tr [])).2
def og_zs : List ct_Q → List Int → Prop
  | [], [] => True
  | g :: gs, z :: zs => (g.1 ≤ 1 ∧ sx_w g.2 z ∧ (g.1 = 0 → sx_w sx_r32 z) ∧ sx_w sx_r64 z) ∧ og_zs gs zs
  | _, _ => False
theorem og_as_ok : ∀ {gs : List ct_Q} {zs : List Int} {ρ : Nat → Int} {t : sx_S}, og_zs gs zs → sx_sat cl_ly (0, -100) xs L MM ρ M t → ∃ ρ', sx_ext t.1 ρ ρ' ∧ (mt_as gs t).2.1 = t.1 + gs.length ∧ sx_sat cl_ly (0, -100) xs L MM ρ' M (mt_as gs t).2 ∧ ∀ k z, zs[k]? = some z → ρ' (t.1 + k) = z := by
  intro gs
  induction gs with
  | nil =>
    intro zs ρ t hz hs
    cases zs with
    | nil => exact ⟨ρ, sx_ext_rfl, rfl, hs, fun k z h => by simp at h⟩
    | cons _ _ => cases hz
  | cons g gs ih =>
    intro zs ρ t hz hs
    cases zs with
    | nil => cases hz
    | cons z zs =>
      obtain ⟨⟨g1, g2, g3, g4⟩, hz⟩ := hz
      obtain ⟨ρ', x1, x2, x3, x4⟩ := ih hz (sx_sat_fresh (r := g.2) hs g2 g4)
      have e : mt_as (g :: gs) t = ((g.1, t.1, 0) :: (mt_as gs (sx_fresh t g.2).2).1, (mt_as gs (sx_fresh t g.2).2).2) := by
        show (bif Nat.beq g.1 2 then _ else _) = _
        rw [sx_nbeq_f.mpr (show g.1 ≠ 2 by omega)]
        rfl
      rw [e]
      have n1 : (sx_fresh t g.2).2.1 = t.1 + 1 := rfl
      rw [n1] at x1 x2 x4
      refine ⟨ρ', sx_ext_tr sx_nu_ext x1 (Nat.le_succ _), ?_, x3, fun k w hw => ?_⟩
      · show (mt_as gs (sx_fresh t g.2).2).2.1 = t.1 + (gs.length + 1)
        omega
      · cases k with
        | zero =>
          have hw : some z = some w := by simpa using hw
          cases hw
          rw [Nat.add_zero, x1 t.1 (Nat.lt_succ_self _)]
          unfold sx_nu
          rw [if_pos rfl]
        | succ k =>
          have := x4 k w (by simpa using hw)
          rw [show t.1 + (k + 1) = t.1 + 1 + k by omega]
          exact this
theorem og_sat {gs : List ct_Q} {zs : List Int} {fs : List ct_G} (hL : L < 2 ^ 31) (hm : sx_mok cl_ly M) (hz : og_zs gs zs) (hf : ∀ g ∈ fs, g.1 < 128 ∧ sx_w g.2.2 (M g.1 g.2.1) ∧ sx_w sx_r64 (M g.1 g.2.1)) : ∃ ρ : Nat → Int, sx_sat cl_ly (0, -100) xs L M ρ M (og_t gs fs) ∧ (og_t gs fs).1 = 9 + gs.length + fs.length ∧ (∀ k z, zs[k]? = some z → ρ (9 + k) = z) ∧ ∀ k g, fs[k]? = some g → ρ (9 + gs.length + k) = M g.1 g.2.1 := by
  have hlen : zs.length = gs.length := by
    have : ∀ {gs : List ct_Q} {zs : List Int}, og_zs gs zs → zs.length = gs.length := by
      intro gs
      induction gs with
      | nil =>
        intro zs h
        cases zs with
        | nil => rfl
        | cons _ _ => cases h
      | cons g gs ih =>
        intro zs h
        cases zs with
        | nil => cases h
        | cons z zs => rw [List.length_cons, List.length_cons, ih h.2]
    exact this hz
  obtain ⟨ρ1, a1, a2, a3, a4⟩ := og_as_ok (xs := xs) hz (mt_tr_sat (MM := M) (M := M) (mod := []) (xs := xs) hL (fun a ha => by cases ha) hm (fun a _ _ => rfl))
  have n0 : (mt_tr []).1 = 9 := rfl
  rw [n0] at a2 a4
  obtain ⟨ρ2, b1, b2, b3, b4⟩ := pz_fld (l := fs) a3 hf
  rw [a2] at b1 b2 b4
  refine ⟨ρ2, b3, b2, fun k z h => ?_, b4⟩
  have hk : k < zs.length := (List.getElem?_eq_some_iff.mp h).1
  rw [b1 (9 + k) (by omega)]
  exact a4 k z h
end
