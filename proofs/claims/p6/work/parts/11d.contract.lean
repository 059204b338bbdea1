/-! Contracts: what a method does, told by ranges; callers use them through the hook. -/
section
/-- kind, from, to (a reference: kind 2, its cell) -/
abbrev ct_Q : Type := Nat × Int × Int
/-- cell, place, from, to -/
abbrev ct_G : Type := Nat × Nat × Int × Int
/-- arguments; fields at the start; fields that it may change, with what they are at the end; cells that it may change; what it answers; frames; whether it wants the invariant -/
abbrev ct_C : Type := List ct_Q × List ct_G × List ct_G × List Nat × Option ct_Q × Nat × Bool
def ct_v (q : ct_Q) (v : Value) : Prop := (q.1 = 0 ∧ ∃ z, v = .int (Int32.ofInt z) ∧ sx_w q.2 z ∧ sx_w sx_r32 z) ∨ (q.1 = 1 ∧ ∃ z, v = .long (Int64.ofInt z) ∧ sx_w q.2 z ∧ sx_w sx_r64 z) ∨ (q.1 = 2 ∧ v = .ref q.2.1.toNat)
def ct_vs : List ct_Q → List Value → Prop
  | [], [] => True
  | q :: qs, v :: vs => ct_v q v ∧ ct_vs qs vs
  | _, _ => False
def ct_g (l : List ct_G) (M : Nat → Nat → Int) : Prop := ∀ q ∈ l, sx_w q.2.2 (M q.1 q.2.1)
def ct_r : Option ct_Q → Option Value → Prop
  | none, none => True
  | some q, some v => ct_v q v
  | _, _ => False
/-- what stays -/
def ct_fr (c : ct_C) (M M' : Nat → Nat → Int) : Prop := ∀ a i, a < 128 → a ∉ c.2.2.2.1 → (∀ g ∈ c.2.2.1, g.1 = a → g.2.1 ≠ i) → M' a i = M a i
def ct_ok (MT : Nat → sm_M) (LK : Nat → Nat → Option sm_L) (RO : List (Nat × (Nat → Int32))) (NV : Nat → List Value) (cq : Nat) (ly : Nat → Option sx_H) (lay : List sx_H) (rf : Nat → Nat → Option Nat) (II : (Nat → Nat → Int) → Prop) (k : Nat) (c : ct_C) : Prop :=
  ∀ d as M, c.2.2.2.2.2.1 ≤ d → ct_vs c.1 as → ct_g c.2.1 M → sx_mok ly M → (c.2.2.2.2.2.2 = true → II M) → ∃ F r M', sm_run MT LK RO NV cq F d k 0 (lv_args 0 as) [] (sx_HH lay rf M) = some (r, sx_HH lay rf M') ∧ sx_mok ly M' ∧ ct_fr c M M' ∧ ct_g c.2.2.1 M' ∧ ct_r c.2.2.2.2.1 r
noncomputable def ct_fv (t : sx_S) (q : ct_Q) (v : sx_V) : Bool := sx_an (Nat.beq q.1 v.1) (bif Nat.beq v.1 2 then sx_eq v.2.2 q.2.1 else sx_an (Nat.ble v.1 1) (sx_in (sx_iv t v.2) q.2))
noncomputable def ct_fvs (t : sx_S) (qs : List ct_Q) : List sx_V → Bool := qs.rec (fun s => match s with
  | [] => true
  | _ => false) (fun q _ ih s => match s with
  | v :: r => sx_an (ct_fv t q v) (ih r)
  | [] => false)
noncomputable def ct_fg (ly : Nat → Option sx_H) (t : sx_S) (g : ct_G) : Bool := sx_an (Nat.blt g.1 128) (match sx_kn (fun _ _ => none) t g.1 (0, Int.ofNat g.2.1) with
  | some v => sx_in (sx_iv t v) g.2.2
  | none => match ly g.1 with
    | some h => sx_an (Nat.blt g.2.1 (sx_sz h)) (match sx_rgo h g.2.1 with
      | some r => sx_in r g.2.2
      | none => false)
    | none => false)
noncomputable def ct_hav (mod : List Nat) (tr : sx_T 7) : sx_T 7 := mod.rec tr (fun a _ ih => sx_ts 7 ih a (2, []))
/-- read -/
noncomputable def ct_get (l : List ct_G) : sx_S → sx_S := l.rec (fun t => t) (fun g _ ih t => ih (sx_frl t g.1 (0, Int.ofNat g.2.1) g.2.2).2)
/-- written -/
noncomputable def ct_fp (t : sx_S) (g : ct_G) : sx_S := sx_put (sx_fresh t g.2.2).2 g.1 (0, Int.ofNat g.2.1) (t.1, 0)
noncomputable def ct_put (l : List ct_G) : sx_S → sx_S := l.rec (fun t => t) (fun g _ ih t => ih (ct_fp t g))
noncomputable def ct_ret (o : Option ct_Q) (t : sx_S) : sx_R := match o with
  | none => (none, t)
  | some q => (some (q.1, t.1, 0), (sx_fresh t q.2).2)
noncomputable def ct_ap (c : ct_C) (t : sx_S) : sx_R := ct_ret c.2.2.2.2.1 (ct_put c.2.2.1 (t.1, t.2.1, t.2.2.1, ct_hav c.2.2.2.1 t.2.2.2))
/-- a contract that may be used: places and ranges are as they may be -/
def ct_gd (c : ct_C) : Bool := sx_an (c.2.2.1.all fun g => sx_an (Nat.blt g.1 128) (sx_in g.2.2 sx_r64)) (sx_an (c.2.2.2.1.all fun a => Nat.blt a 128) (match c.2.2.2.2.1 with
  | some q => sx_an (Nat.ble q.1 1) (sx_in q.2 (bif Nat.beq q.1 0 then sx_r32 else sx_r64))
  | none => true))
noncomputable def ct_nd (nd : Bool) (zs : List Nat) (c : ct_C) (t : sx_S) : Bool := bif c.2.2.2.2.2.2 then sx_an nd (zs.all fun z => sx_an (Nat.blt z 128) (Nat.beq (sx_tg 7 t.2.2.2 z).1 0)) else true
noncomputable def ct_hk (ly : Nat → Option sx_H) (nd : Bool) (zs : List Nat) (cts : List (Nat × ct_C)) (d k : Nat) (as : List sx_V) (t : sx_S) : Option (List sx_R) := cts.rec none (fun c _ ih => bif sx_an (Nat.beq c.1 k) (sx_an (Nat.ble c.2.2.2.2.2.2.1 d) (sx_an (ct_fvs t c.2.1 as) (sx_an (c.2.2.1.all (ct_fg ly t)) (sx_an (ct_gd c.2) (ct_nd nd zs c.2 t))))) then some [ct_ap c.2 t] else ih)
variable {II : (Nat → Nat → Int) → Prop} {zs : List Nat} {nd : Bool} {MT : Nat → sm_M} {LK : Nat → Nat → Option sm_L} {RO : List (Nat × (Nat → Int32))} {NV : Nat → List Value} {cq : Nat} {ly : Nat → Option sx_H} {ib : sx_A} {xs : Nat → Int32} {L : Nat} {M0 : Nat → Nat → Int} {lay : List sx_H} {rf : Nat → Nat → Option Nat} {ρ : Nat → Int} {M : Nat → Nat → Int} {t : sx_S}
theorem ct_fv_ok {q : ct_Q} {v : sx_V} (hs : sx_sat ly ib xs L M0 ρ M t) (hv : sx_ok ρ t.1 v) (h : ct_fv t q v = true) : ct_v q (sx_cv1 ρ v) := by
  obtain ⟨h1, h2⟩ := sx_an_iff.mp h
  have h1 := sx_nbeq.mp h1
  cases e : Nat.beq v.1 2
  · rw [e] at h2
    obtain ⟨h3, h4⟩ := sx_an_iff.mp (show sx_an (Nat.ble v.1 1) (sx_in (sx_iv t v.2) q.2) = true from h2)
    have h3 := Nat.le_of_ble_eq_true h3
    have h4 := sx_in_iff.mp h4
    have hi := sx_iv_ok hs v.2
    have hw : sx_w q.2 (sx_val ρ v.2) := ⟨Int.le_trans h4.1 hi.1, Int.le_trans hi.2 h4.2⟩
    have : v.1 = 0 ∨ v.1 = 1 := by omega
    rcases this with h0 | h0
    · exact Or.inl ⟨h1.trans h0, _, sx_cvk0 h0, hw, hv.2.1 h0⟩
    · exact Or.inr (Or.inl ⟨h1.trans h0, _, sx_cvk1 h0, hw, hv.2.2 h0⟩)
  · rw [e] at h2
    have h2 := sx_eq_iff.mp h2
    have e := sx_nbeq.mp e
    refine Or.inr (Or.inr ⟨h1.trans e, ?_⟩)
    rw [sx_cvk2 e, h2]
theorem ct_fvs_ok (hs : sx_sat ly ib xs L M0 ρ M t) : ∀ {qs : List ct_Q} {s : List sx_V}, sx_oks ρ t.1 s → ct_fvs t qs s = true → ct_vs qs (sx_cs1 ρ s) := by
  intro qs
  induction qs with
  | nil =>
    intro s _ h
    cases s with
    | nil => trivial
    | cons v r => cases h
  | cons q qs ih =>
    intro s hk h
    cases s with
    | nil => cases h
    | cons v r =>
      obtain ⟨h1, h2⟩ := sx_an_iff.mp (show sx_an (ct_fv t q v) (ct_fvs t qs r) = true from h)
      obtain ⟨k1, k2⟩ := sx_oks_tl hk
      exact ⟨ct_fv_ok hs k1 h1, ih k2 h2⟩
theorem ct_fg_ok {g : ct_G} (hs : sx_sat ly ib xs L M0 ρ M t) (h : ct_fg ly t g = true) : sx_w g.2.2 (M g.1 g.2.1) := by
  obtain ⟨h1, h2⟩ := sx_an_iff.mp h
  have h1 := sx_blt h1
  have i0 : sx_val ρ (0, Int.ofNat g.2.1) = (g.2.1 : Int) := sx_v0 hs _
  have i1 : (sx_val ρ (0, Int.ofNat g.2.1)).toNat = g.2.1 := by rw [i0]; rfl
  cases e : sx_kn (fun _ _ => none) t g.1 (0, Int.ofNat g.2.1) with
  | some v =>
    rw [e] at h2
    have h2 := sx_in_iff.mp (show sx_in (sx_iv t v) g.2.2 = true from h2)
    obtain ⟨k1, -⟩ := sx_kn_ok hs h1 (by rw [i0]; omega) (fun c _ h9 => by cases h9) e
    rw [i1] at k1
    rw [k1]
    have hi := sx_iv_ok hs v
    exact ⟨Int.le_trans h2.1 hi.1, Int.le_trans hi.2 h2.2⟩
  | none =>
    rw [e] at h2
    cases el : ly g.1 with
    | none => rw [el] at h2; cases h2
    | some h9 =>
      rw [el] at h2
      obtain ⟨h3, h4⟩ := sx_an_iff.mp (show sx_an (Nat.blt g.2.1 (sx_sz h9)) (match sx_rgo h9 g.2.1 with
        | some r => sx_in r g.2.2
        | none => false) = true from h2)
      cases er : sx_rgo h9 g.2.1 with
      | none => rw [er] at h4; cases h4
      | some r =>
        rw [er] at h4
        have h4 := sx_in_iff.mp h4
        have hw := hs.2.2.2.2.2.1 g.1 h9 g.2.1 r el (sx_blt h3) er
        exact ⟨Int.le_trans h4.1 hw.1, Int.le_trans hw.2 h4.2⟩
theorem ct_hav_at {tr : sx_T 7} {k : Nat} (hk : k < 128) : ∀ {mod : List Nat}, (∀ a ∈ mod, a < 128) → sx_tg 7 (ct_hav mod tr) k = if k ∈ mod then (2, []) else sx_tg 7 tr k := by
  intro mod
  induction mod with
  | nil => intro _; rfl
  | cons a mod ih =>
    intro h
    show sx_tg 7 (sx_ts 7 (ct_hav mod tr) a (2, [])) k = _
    rw [sx_tg_ts 7 _ _ _ _ (h a List.mem_cons_self) hk, ih (fun b hb => h b (List.mem_cons_of_mem _ hb))]
    by_cases e : k = a
    · rw [if_pos e, if_pos (by rw [e]; exact List.mem_cons_self)]
    · rw [if_neg e]
      by_cases hm : k ∈ mod
      · rw [if_pos hm, if_pos (List.mem_cons_of_mem _ hm)]
      · rw [if_neg hm, if_neg (by rw [List.mem_cons, not_or]; exact ⟨e, hm⟩)]
theorem ct_hav_ok {mod : List Nat} {M' : Nat → Nat → Int} (hs : sx_sat ly ib xs L M0 ρ M t) (hm : ∀ a ∈ mod, a < 128) (hmok : sx_mok ly M') (hM : ∀ a, a < 128 → a ∉ mod → M' a = M a) : sx_sat ly ib xs L M0 ρ M' (t.1, t.2.1, t.2.2.1, ct_hav mod t.2.2.2) := by
  refine ⟨hs.1, hs.2.1, hs.2.2.1, hs.2.2.2.1, hs.2.2.2.2.1, hmok, fun k hk => ?_, hs.2.2.2.2.2.2.2⟩
  show sx_leaf ρ t.1 (M0 k) (M' k) (sx_tg 7 (ct_hav mod t.2.2.2) k)
  rw [ct_hav_at hk hm]
  by_cases h : k ∈ mod
  · rw [if_pos h]
    exact ⟨(fun e he => by cases he), M' k, (fun h2 => absurd rfl h2), rfl, fun h0 => by cases h0⟩
  · rw [if_neg h, hM k hk h]
    exact hs.2.2.2.2.2.2.1 k hk
theorem ct_get_ok : ∀ {l : List ct_G} {ρ : Nat → Int} {t : sx_S}, sx_sat ly ib xs L M0 ρ M t → (∀ g ∈ l, g.1 < 128 ∧ sx_w g.2.2 (M g.1 g.2.1) ∧ sx_w sx_r64 (M g.1 g.2.1)) → ∃ ρ', sx_ext t.1 ρ ρ' ∧ t.1 ≤ (ct_get l t).1 ∧ sx_sat ly ib xs L M0 ρ' M (ct_get l t) := by
  intro l
  induction l with
  | nil => intro ρ t hs _; exact ⟨ρ, sx_ext_rfl, Nat.le_refl _, hs⟩
  | cons g l ih =>
    intro ρ t hs h
    obtain ⟨h1, h2, h3⟩ := h g List.mem_cons_self
    have i0 : sx_val ρ (0, Int.ofNat g.2.1) = (g.2.1 : Int) := sx_v0 hs _
    have i1 : (sx_val ρ (0, Int.ofNat g.2.1)).toNat = g.2.1 := by rw [i0]; rfl
    have st := sx_frl_ok hs h1 (i := (0, Int.ofNat g.2.1)) (sx_0lt hs) (by rw [i0]; omega) (r := g.2.2) (by rw [i1]; exact h2) (by rw [i1]; exact h3)
    obtain ⟨ρ', a1, a2, a3⟩ := ih st (fun q hq => h q (List.mem_cons_of_mem _ hq))
    exact ⟨ρ', sx_ext_tr sx_nu_ext a1 (Nat.le_succ _), Nat.le_trans (Nat.le_succ _) a2, a3⟩
theorem ct_mix {M M' N : Nat → Nat → Int} (h : sx_mok ly M) (h' : sx_mok ly M') (hN : ∀ a i, N a i = M a i ∨ N a i = M' a i) : sx_mok ly N := by
  intro k h9 i r a b c
  rcases hN k i with e | e
  · rw [e]; exact h k h9 i r a b c
  · rw [e]; exact h' k h9 i r a b c
theorem ct_congr {M' : Nat → Nat → Int} (hs : sx_sat ly ib xs L M0 ρ M t) (hm : sx_mok ly M') (h : ∀ a, a < 128 → M' a = M a) : sx_sat ly ib xs L M0 ρ M' t := by
  refine ⟨hs.1, hs.2.1, hs.2.2.1, hs.2.2.2.1, hs.2.2.2.2.1, hm, fun k hk => ?_, hs.2.2.2.2.2.2.2⟩
  rw [h k hk]
  exact hs.2.2.2.2.2.2.1 k hk
theorem ct_fp_ok {g : ct_G} {z : Int} (hs : sx_sat ly ib xs L M0 ρ M t) (hg : g.1 < 128) (hz : sx_w g.2.2 z) (h64 : sx_w sx_r64 z) (hm : sx_mok ly (sx_up M g.1 g.2.1 z)) : sx_sat ly ib xs L M0 (sx_nu ρ t.1 z) (sx_up M g.1 g.2.1 z) (ct_fp t g) := by
  have s1 := sx_sat_fresh (r := g.2.2) hs hz h64
  have i0 : sx_val (sx_nu ρ t.1 z) (0, Int.ofNat g.2.1) = (g.2.1 : Int) := sx_v0 s1 _
  have i1 : (sx_val (sx_nu ρ t.1 z) (0, Int.ofNat g.2.1)).toNat = g.2.1 := by rw [i0]; rfl
  have i2 : sx_val (sx_nu ρ t.1 z) (t.1, 0) = z := sx_nu_at
  have := sx_put_ok (i := (0, Int.ofNat g.2.1)) (v := (t.1, 0)) s1 hg (sx_0lt s1) (Nat.lt_succ_self _) (by rw [i0]; omega) (by rw [i1, i2]; exact hm)
  rw [i1, i2] at this
  exact this
def ct_mm (l : List ct_G) (M' M : Nat → Nat → Int) : Nat → Nat → Int := fun a i => if ∃ g ∈ l, g.1 = a ∧ g.2.1 = i then M' a i else M a i
theorem ct_put_ok {M' : Nat → Nat → Int} (hm' : sx_mok ly M') : ∀ {l : List ct_G} {ρ : Nat → Int} {M : Nat → Nat → Int} {t : sx_S}, sx_sat ly ib xs L M0 ρ M t → (∀ g ∈ l, g.1 < 128 ∧ sx_w g.2.2 (M' g.1 g.2.1) ∧ sx_w sx_r64 (M' g.1 g.2.1)) → ∃ ρ', sx_ext t.1 ρ ρ' ∧ t.1 ≤ (ct_put l t).1 ∧ sx_sat ly ib xs L M0 ρ' (ct_mm l M' M) (ct_put l t) := by
  intro l
  induction l with
  | nil =>
    intro ρ M t hs _
    have e : ct_mm [] M' M = M := by
      funext a i
      unfold ct_mm
      rw [if_neg]
      rintro ⟨g, hg, -⟩
      cases hg
    rw [e]
    exact ⟨ρ, sx_ext_rfl, Nat.le_refl _, hs⟩
  | cons g l ih =>
    intro ρ M t hs h
    obtain ⟨h1, h2, h3⟩ := h g List.mem_cons_self
    have hu : sx_mok ly (sx_up M g.1 g.2.1 (M' g.1 g.2.1)) := ct_mix hs.2.2.2.2.2.1 hm' (fun a i => by
      unfold sx_up
      split
      · rename_i e; subst e
        split
        · rename_i e; subst e; exact Or.inr rfl
        · exact Or.inl rfl
      · exact Or.inl rfl)
    have st := ct_fp_ok hs h1 h2 h3 hu
    obtain ⟨ρ', a1, a2, a3⟩ := ih st (fun q hq => h q (List.mem_cons_of_mem _ hq))
    have e : ct_mm l M' (sx_up M g.1 g.2.1 (M' g.1 g.2.1)) = ct_mm (g :: l) M' M := by
      funext a i
      unfold ct_mm sx_up
      by_cases h1 : ∃ q ∈ l, q.1 = a ∧ q.2.1 = i
      · rw [if_pos h1, if_pos (by obtain ⟨q, hq, h1⟩ := h1; exact ⟨q, List.mem_cons_of_mem _ hq, h1⟩)]
      · rw [if_neg h1]
        by_cases h2 : g.1 = a ∧ g.2.1 = i
        · rw [if_pos (⟨g, List.mem_cons_self, h2⟩ : ∃ q ∈ g :: l, q.1 = a ∧ q.2.1 = i), if_pos h2.1.symm, if_pos h2.2.symm, h2.1, h2.2]
        · have hn : ¬ ∃ q ∈ g :: l, q.1 = a ∧ q.2.1 = i := by
            rintro ⟨q, hq, h3⟩
            rcases List.mem_cons.mp hq with e | hq
            · rw [e] at h3; exact h2 h3
            · exact h1 ⟨q, hq, h3⟩
          refine Eq.trans ?_ (if_neg hn).symm
          by_cases e1 : a = g.1
          · rw [if_pos e1]
            by_cases e2 : i = g.2.1
            · exact absurd ⟨e1.symm, e2.symm⟩ h2
            · rw [if_neg e2]
          · rw [if_neg e1]
    rw [e] at a3
    exact ⟨ρ', sx_ext_tr sx_nu_ext a1 (Nat.le_succ _), Nat.le_trans (Nat.le_succ _) a2, a3⟩
theorem ct_hk_ok {cts : List (Nat × ct_C)} (hz : ∀ M M' : Nat → Nat → Int, (∀ z ∈ zs, M' z = M z) → II M → II M') (hI : nd = true → II M0) (hall : ∀ c ∈ cts, ct_ok MT LK RO NV cq ly lay rf II c.1 c.2) : sx_hok MT LK RO NV cq ly ib xs L M0 lay rf (ct_hk ly nd zs cts) := by
  induction cts with
  | nil => intro d k as t os ρ M h; cases h
  | cons c cts ih =>
    intro d k as t os ρ M h hs hk
    have h : (bif sx_an (Nat.beq c.1 k) (sx_an (Nat.ble c.2.2.2.2.2.2.1 d) (sx_an (ct_fvs t c.2.1 as) (sx_an (c.2.2.1.all (ct_fg ly t)) (sx_an (ct_gd c.2) (ct_nd nd zs c.2 t))))) then some [ct_ap c.2 t] else ct_hk ly nd zs cts d k as t) = some os := h
    cases e : sx_an (Nat.beq c.1 k) (sx_an (Nat.ble c.2.2.2.2.2.2.1 d) (sx_an (ct_fvs t c.2.1 as) (sx_an (c.2.2.1.all (ct_fg ly t)) (sx_an (ct_gd c.2) (ct_nd nd zs c.2 t)))))
    · rw [e] at h
      exact ih (fun q hq => hall q (List.mem_cons_of_mem _ hq)) d k as t os ρ M h hs hk
    · rw [e] at h
      cases h
      obtain ⟨e1, e2⟩ := sx_an_iff.mp e
      obtain ⟨e2, e3⟩ := sx_an_iff.mp e2
      obtain ⟨e3, e4⟩ := sx_an_iff.mp e3
      obtain ⟨e4, e5⟩ := sx_an_iff.mp e4
      obtain ⟨e5, e6⟩ := sx_an_iff.mp e5
      obtain ⟨g1, g2⟩ := sx_an_iff.mp e5
      obtain ⟨g2, g3⟩ := sx_an_iff.mp g2
      have e1 := sx_nbeq.mp e1
      subst e1
      obtain ⟨F, r, M', x1, x2, x3, x4, x5⟩ := hall c List.mem_cons_self d (sx_cs1 ρ as) M (Nat.le_of_ble_eq_true e2) (ct_fvs_ok hs hk e3) (fun g hg => ct_fg_ok hs (List.all_eq_true.mp e4 g hg)) hs.2.2.2.2.2.1 (fun hn => by
        unfold ct_nd at e6
        rw [hn] at e6
        obtain ⟨f1, f2⟩ := sx_an_iff.mp (show sx_an nd _ = true from e6)
        refine hz M0 M (fun z hzz => ?_) (hI f1)
        obtain ⟨f3, f4⟩ := sx_an_iff.mp (List.all_eq_true.mp f2 z hzz)
        obtain ⟨-, g0, -, -, h4⟩ := hs.2.2.2.2.2.2.1 z (sx_blt f3)
        exact h4 (sx_nbeq.mp f4))
      have hmod : ∀ a ∈ c.2.2.2.2.1, a < 128 := fun a ha => sx_blt (List.all_eq_true.mp g2 a ha)
      have s1 := ct_hav_ok (mod := c.2.2.2.2.1) (M' := fun a i => if a ∈ c.2.2.2.2.1 then M' a i else M a i) hs hmod (ct_mix hs.2.2.2.2.2.1 x2 (fun a i => by
        by_cases h : a ∈ c.2.2.2.2.1
        · right; exact if_pos h
        · left; exact if_neg h)) (fun a _ h => by funext i; exact if_neg h)
      obtain ⟨ρ1, y1, y2, y3⟩ := ct_put_ok (l := c.2.2.2.1) x2 s1 (fun g hg => by
        obtain ⟨a, b⟩ := sx_an_iff.mp (List.all_eq_true.mp g1 g hg)
        have b := sx_in_iff.mp b
        have w := x4 g hg
        exact ⟨sx_blt a, w, Int.le_trans b.1 w.1, Int.le_trans w.2 b.2⟩)
      have y3 := ct_congr y3 x2 (fun a ha => by
        funext i
        unfold ct_mm
        by_cases h1 : ∃ g ∈ c.2.2.2.1, g.1 = a ∧ g.2.1 = i
        · rw [if_pos h1]
        · rw [if_neg h1]
          by_cases h2 : a ∈ c.2.2.2.2.1
          · exact (if_pos h2).symm
          · exact (x3 a i ha h2 (fun g hg e1 e2 => h1 ⟨g, hg, e1, e2⟩)).trans (if_neg h2).symm)
      generalize hT : ct_put c.2.2.2.1 (t.1, t.2.1, t.2.2.1, ct_hav c.2.2.2.2.1 t.2.2.2) = T at y2 y3
      have hap : ct_ap c.2 t = ct_ret c.2.2.2.2.2.1 T := by unfold ct_ap; rw [hT]
      rw [hap]
      cases eq : c.2.2.2.2.2.1 with
      | none =>
        rw [eq] at x5
        cases r with
        | some v => cases x5
        | none => exact ⟨_, List.mem_singleton.mpr rfl, ρ1, M', y1, y2, y3, (fun v hv => by cases hv), F, x1⟩
      | some q =>
        rw [eq] at x5 g3
        cases r with
        | none => cases x5
        | some v =>
          obtain ⟨g4, g5⟩ := sx_an_iff.mp (show sx_an (Nat.ble q.1 1) (sx_in q.2 (bif Nat.beq q.1 0 then sx_r32 else sx_r64)) = true from g3)
          have g4 := Nat.le_of_ble_eq_true g4
          have x5 : ct_v q v := x5
          have key : ∀ z, sx_w q.2 z → sx_w sx_r64 z → (q.1 = 0 → sx_w sx_r32 z) → v = sx_cv1 (sx_nu ρ1 T.1 z) (q.1, T.1, 0) → sx_done MT LK RO NV cq ly ib xs L M0 lay rf ρ t.1 [ct_ret (some q) T] d c.1 0 (lv_args 0 (sx_cs1 ρ as)) [] (sx_HH lay rf M) := by
            intro z hz h64 h32 hv
            refine ⟨_, List.mem_singleton.mpr rfl, sx_nu ρ1 T.1 z, M', sx_ext_tr y1 sx_nu_ext y2, Nat.le_trans y2 (Nat.le_succ _), sx_sat_fresh y3 hz h64, ?_, F, ?_⟩
            · intro u hu
              cases hu
              refine ⟨Nat.lt_succ_self _, fun h0 => ?_, fun h1 => ?_⟩
              · show sx_w sx_r32 (sx_val (sx_nu ρ1 T.1 z) (T.1, 0))
                rw [sx_nu_at]; exact h32 h0
              · show sx_w sx_r64 (sx_val (sx_nu ρ1 T.1 z) (T.1, 0))
                rw [sx_nu_at]; exact h64
            · rw [x1, hv]
              rfl
          rcases x5 with ⟨h0, z, hv, hz, h32⟩ | ⟨h0, z, hv, hz, h64⟩ | ⟨h0, -⟩
          · refine key z hz (sx_32_64 h32) (fun _ => h32) ?_
            rw [sx_cvk0 (v := (q.1, T.1, 0)) h0, sx_nu_at]
            exact hv
          · refine key z hz h64 (fun h9 => by omega) ?_
            rw [sx_cvk1 (v := (q.1, T.1, 0)) h0, sx_nu_at]
            exact hv
          · omega
end
