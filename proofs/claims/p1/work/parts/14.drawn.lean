/-! p1: drawn: a season, a day of a season, worked out once. -/
section
def p1_dd (k : Nat) : Bool := Nat.beq k 110 || Nat.beq k 140 || Nat.beq k 239 || Nat.beq k 264
noncomputable def dr_s : sx_T 7 := sx_ts 7 (sx_t0 7 (false, [])) 21 (false, [((0, 7), (2, 0))])
noncomputable def dr_l : List (sx_A × sx_A) := (sx_rn 30 0).map fun d => ((0, d), (0, -1))
noncomputable def dr_m : sx_T 7 := sx_ts 7 (sx_ts 7 dr_s 76 (false, dr_l)) 77 (false, dr_l)
noncomputable def sx_one (x : Option (List sx_R)) (r : sx_V) (T : sx_T 7) : Bool := match x with
  | some [o] => sx_an (sx_ebV o.1 (some r)) (sx_an (Nat.beq o.2.1 8) (sx_ebT 7 o.2.2.2.2 T))
  | _ => false
noncomputable def dr_run (d k : Nat) (as : List sx_V) (T : sx_T 7) : Option (List sx_R) := sx_run cl_bs cl_ly cl_rc (0, 0) true sm_MT sm_LK (fun _ => false) (fun _ _ _ _ => none) 5000 d k 0 (sx_args 0 as) [] (8, [], [], T)
theorem dr_memo {xs : Nat → Int32} {T : sx_T 7} {r : sx_V} {d k : Nat} {as : List sx_V} (h : sx_one (dr_run d k as T) r T = true) {t : sx_S} (h8 : t.1 = 8) (hT : t.2.2.2 = T) {ρ : Nat → Int} {M : Nat → Nat → Int} (hs : sx_sat cl_ly (0, 0) xs 6 cl_M0 ρ M t) (hk : sx_oks ρ t.1 as) : sx_done sm_MT sm_LK (sm_RO 6 xs) sm_NV sm_cq cl_ly (0, 0) xs 6 cl_M0 cl_lay cl_rf ρ t.1 [(some r, t)] d k 0 (lv_args 0 (sx_cs1 ρ as)) [] (sx_HH cl_lay cl_rf M) := by
  cases e : dr_run d k as T with
  | none => rw [e] at h; cases h
  | some l =>
    rw [e] at h
    match l, h, e with
    | [], h, _ => cases h
    | _ :: _ :: _, h, _ => cases h
    | [o], h, e =>
      obtain ⟨h1, h2⟩ := sx_an_iff.mp (show sx_an (sx_ebV o.1 (some r)) (sx_an (Nat.beq o.2.1 8) (sx_ebT 7 o.2.2.2.2 T)) = true from h)
      obtain ⟨h2, h3⟩ := sx_an_iff.mp h2
      have h3 := sx_ebT_ok 7 _ _ h3
      have h2 := sx_nbeq.mp h2
      have h1 : o.1 = some r := by
        cases eo : o.1 with
        | none => rw [eo] at h1; cases h1
        | some v =>
          rw [eo] at h1
          obtain ⟨a, b⟩ := sx_an_iff.mp (show sx_an (Nat.beq v.1 r.1) (sx_ae v.2 r.2) = true from h1)
          rw [show v = r from Prod.ext (sx_nbeq.mp a) (sx_ae_iff.mp b)]
      have hs0 : sx_sat cl_ly (0, 0) xs 6 cl_M0 ρ M (8, [], [], T) := by
        refine ⟨Nat.le_refl _, hs.2.1, hs.2.2.1, (fun q hq => by cases hq), (fun q hq => by cases hq), hs.2.2.2.2.2.1, fun k hk => ?_, hs.2.2.2.2.2.2.2⟩
        have := hs.2.2.2.2.2.2.1 k hk
        rw [h8, hT] at this
        exact this
      rw [h8] at hk ⊢
      obtain ⟨o', om, ρ', M', x1, x2, x3, x4, F, x5⟩ := sx_run_ok (NV := sm_NV) (cq := sm_cq) cl_lok cl_hbs cl_hrf (cl_hro 6 xs) p1_nohk 5000 d k 0 (sx_args 0 as) [] (8, [], [], T) [o] ρ M e hs0 (sx_args_okl hk) (fun v hv => by cases hv)
      have := List.mem_singleton.mp om
      subst this
      refine ⟨(some r, t), List.mem_singleton.mpr rfl, ρ', M', x1, Nat.le_of_eq h8.symm, ⟨hs.1, x3.2.1, x3.2.2.1, fun q hq => ?_, fun q hq => ?_, x3.2.2.2.2.2.1, fun k hk => ?_, x3.2.2.2.2.2.2.2⟩, ?_, F, ?_⟩
      · have := hs.2.2.2.1 q hq
        refine ⟨this.1, ?_⟩
        rw [x1 q.1 (by have := this.1; omega)]
        exact this.2
      · have := hs.2.2.2.2.1 q hq
        refine ⟨this.1, ?_⟩
        rw [x1 q.1 (by have := this.1; omega)]
        exact this.2
      · have := x3.2.2.2.2.2.2.1 k hk
        rw [h2, h3] at this
        show sx_leaf ρ' t.1 _ _ (sx_tg 7 t.2.2.2 k)
        rw [h8, hT]
        exact this
      · show sx_rok ρ' t.1 (some r)
        rw [h8, ← h1, ← h2]
        exact x4
      · rw [sx_args_ok]
        rw [h1] at x5
        exact x5
set_option maxRecDepth 100000 in
theorem dr_c1 : sx_one (dr_run 98 111 [(2, 0, 21)] dr_s) (0, 0, 0) dr_s = true := by decide +kernel
noncomputable def dr_g (d : Nat) : Bool := sx_one (dr_run 98 192 [(2, 0, 53), (0, 0, Int.ofNat d)] dr_m) (0, 0, -1) dr_m
set_option maxRecDepth 100000 in
theorem dr_c2 : (List.range 30).all dr_g = true := by decide +kernel
noncomputable def dr_hk : p1_HK := fun d k as t => bif sx_an (Nat.beq t.1 8) (Nat.beq d 98) then (match as with
  | [a] => bif sx_an (Nat.beq k 111) (sx_an (Nat.beq a.1 2) (sx_ae a.2 (0, 21))) then (bif sx_ebT 7 t.2.2.2 dr_s then some [(some (0, 0, 0), t)] else none) else none
  | [a, b] => bif sx_an (Nat.beq k 192) (sx_an (sx_an (Nat.beq a.1 2) (sx_ae a.2 (0, 53))) (sx_an (sx_an (Nat.beq b.1 0) (Nat.beq b.2.1 0)) (sx_an (sx_le 0 b.2.2) (sx_le b.2.2 29)))) then (bif sx_ebT 7 t.2.2.2 dr_m then some [(some (0, 0, -1), t)] else none) else none
  | _ => none) else none
theorem dr_hok (xs : Nat → Int32) : sx_hok sm_MT sm_LK (sm_RO 6 xs) sm_NV sm_cq cl_ly (0, 0) xs 6 cl_M0 cl_lay cl_rf dr_hk := by
  intro d k as t os ρ M h hs hk
  unfold dr_hk at h
  have h9 := sx_bif h
  clear h
  obtain ⟨h1, h⟩ := h9
  obtain ⟨h1, h2⟩ := sx_an_iff.mp h1
  have h8 := sx_nbeq.mp h1
  have hd := sx_nbeq.mp h2
  subst hd
  match as, hk, h with
  | [], _, h => cases h
  | _ :: _ :: _ :: _, _, h => cases h
  | [a], hk, h =>
    have h9 := sx_bif h
    clear h
    obtain ⟨c, h⟩ := h9
    obtain ⟨c1, c2⟩ := sx_an_iff.mp c
    obtain ⟨c2, c3⟩ := sx_an_iff.mp c2
    have h9 := sx_bif h
    clear h
    obtain ⟨e, h⟩ := h9
    cases h
    have hT := sx_ebT_ok 7 _ _ e
    have hk1 := sx_nbeq.mp c1
    subst hk1
    have ha : a = (2, 0, 21) := Prod.ext (sx_nbeq.mp c2) (sx_ae_iff.mp c3)
    subst ha
    exact dr_memo dr_c1 h8 hT hs hk
  | [a, b], hk, h =>
    have h9 := sx_bif h
    clear h
    obtain ⟨c, h⟩ := h9
    obtain ⟨c1, c2⟩ := sx_an_iff.mp c
    obtain ⟨c2, c3⟩ := sx_an_iff.mp c2
    obtain ⟨c2, c4⟩ := sx_an_iff.mp c2
    obtain ⟨c3, c5⟩ := sx_an_iff.mp c3
    obtain ⟨c3, c6⟩ := sx_an_iff.mp c3
    obtain ⟨c5, c7⟩ := sx_an_iff.mp c5
    have c5 := sx_le_iff.mp c5
    have c7 := sx_le_iff.mp c7
    have h9 := sx_bif h
    clear h
    obtain ⟨e, h⟩ := h9
    cases h
    have hT := sx_ebT_ok 7 _ _ e
    have hk1 := sx_nbeq.mp c1
    subst hk1
    have ha : a = (2, 0, 53) := Prod.ext (sx_nbeq.mp c2) (sx_ae_iff.mp c4)
    have hb : b = (0, 0, Int.ofNat b.2.2.toNat) := Prod.ext (sx_nbeq.mp c3) (Prod.ext (sx_nbeq.mp c6) (Int.toNat_of_nonneg c5).symm)
    have hg := List.all_eq_true.mp dr_c2 b.2.2.toNat (List.mem_range.mpr (by omega))
    subst ha
    rw [hb] at hk ⊢
    exact dr_memo hg h8 hT hs hk
end
