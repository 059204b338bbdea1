/-! What sweeten and read try, they take back: contracts without the numbers. -/
section
variable {WF : (Nat → Nat → Int) → Prop} {L : Nat} {xs : Nat → Int32} {M M' M0 N N' : Nat → Nat → Int} {ρ ρ' Z Z' : Nat → Int} {b : Int} {pv : Nat}
noncomputable def rl_ckb (P : rl_P) (cts : List (Nat × ct_C)) : Bool := sx_an (sx_an (rl_gd P) (P.2.2.1.2.2.all fun q => sx_an (Nat.ble 11 q.2) (match P.2.1.1[q.2 - 9]? with
  | some g => sx_an (Nat.beq g.1 0) (sx_an (sx_eq g.2.1 (-2147483648)) (sx_eq g.2.2 2147483647))
  | none => false))) (sx_an (sx_an (P.2.2.1.1.all (fun q => P.2.2.1.2.2.all fun w => bif Nat.beq q.2.2.1 w.2 then false else true)) (mt_nd (P.2.2.1.2.2.map fun q => q.2))) ((List.range 11).all fun m => sx_an ((rl_lv P m).all rl_okc) (rl_seg cts (fun pc => Nat.beq pc P.1.2.1) (rl_rec P m) 3000 3000 P.1.2.2 P.1.1 P.1.2.1 (rl_lv P m) (rl_t P))))
theorem rl_ckb_ok {P : rl_P} {cts : List (Nat × ct_C)} (h : rl_ckb P cts = true) : rl_ck P cts := by
  obtain ⟨h1, h2⟩ := sx_an_iff.mp h
  obtain ⟨h1, h3⟩ := sx_an_iff.mp h1
  obtain ⟨h2, h4⟩ := sx_an_iff.mp h2
  obtain ⟨h2, h5⟩ := sx_an_iff.mp h2
  refine ⟨h1, fun q hq => ?_, h2, mt_nd_ok h5, h4⟩
  obtain ⟨a, b⟩ := sx_an_iff.mp (List.all_eq_true.mp h3 q hq)
  refine ⟨?_, Nat.le_of_ble_eq_true a⟩
  cases e : P.2.1.1[q.2 - 9]? with
  | none => rw [e] at b; cases b
  | some g =>
    rw [e] at b
    obtain ⟨b1, b2⟩ := sx_an_iff.mp b
    obtain ⟨b2, b3⟩ := sx_an_iff.mp b2
    have b1 := sx_nbeq.mp b1
    have b2 := sx_eq_iff.mp b2
    have b3 := sx_eq_iff.mp b3
    obtain ⟨g1, g2, g3⟩ := g
    have b1 : g1 = 0 := b1
    have b2 : g2 = -2147483648 := b2
    have b3 : g3 = 2147483647 := b3
    rw [b1, b2, b3]
    rfl
def rl_zs0 (P : rl_P) : Bool := cz_zs.all fun u => sx_an (sx_an (Nat.blt u 128) (bif P.2.2.2.2.1.1.any (Nat.beq u) then false else true)) (sx_an (bif Nat.beq u P.2.2.2.1.1 then false else true) (P.2.2.2.2.1.2.all fun q => bif Nat.beq q.1 u then false else true))
theorem rl_bf {x : Bool} (h : (bif x then false else true) = true) : x = false := by
  cases x
  · rfl
  · cases h
theorem rl_WF {P : rl_P} (hz : ∀ M M' : Nat → Nat → Int, (∀ z ∈ cz_zs, M' z = M z) → WF M → WF M') (h : rl_zs0 P = true) (hW : WF M) (hF : rl_F P pv M N) : WF N := hz M N (fun u hu => by
  obtain ⟨h1, h2⟩ := sx_an_iff.mp (List.all_eq_true.mp h u hu)
  obtain ⟨h1, h3⟩ := sx_an_iff.mp h1
  obtain ⟨h2, h4⟩ := sx_an_iff.mp h2
  funext i
  refine hF u i (sx_blt h1) (fun hm => ?_) (fun e => ?_) (fun q hq e => ?_)
  · have : P.2.2.2.2.1.1.any (Nat.beq u) = true := List.any_eq_true.mpr ⟨u, hm, Nat.beq_refl _⟩
    rw [rl_bf h3] at this
    cases this
  · have : Nat.beq u P.2.2.2.1.1 = true := sx_nbeq.mpr e.1
    rw [rl_bf h2] at this
    cases this
  · have h5 := rl_bf (List.all_eq_true.mp h4 q hq)
    rw [sx_nbeq.mpr e] at h5
    cases h5) hW
/-- the contract of such a loop -/
def rl_k (P : rl_P) (as : List ct_Q) : ct_C := (as, P.2.1.2, P.2.2.2.2.1.2.map (fun q => (q.1, q.2, sx_r32)), P.2.2.2.2.1.1, some (0, sx_r32), P.1.2.2, true)
theorem rl_to {P : rl_P} {as : List ct_Q} {r : Option Value} (h : rl_R P pv (M P.2.2.2.1.1 pv) M r M') (hr : P.2.2.2.2.2.2 = sx_r32) (hly : (P.2.2.2.2.1.2.all fun q => cv_ly cl_ly (q.1, q.2, sx_r32)) = true) : sx_mok cl_ly M' ∧ ct_fr (rl_k P as) M M' ∧ ct_g (rl_k P as).2.2.1 M' ∧ ct_r (rl_k P as).2.2.2.2.1 r := by
  obtain ⟨y, rfl, h1, h2, h3, h4⟩ := h
  rw [hr] at h1
  refine ⟨h2, fun a i ha hmo hg => ?_, fun g hg => ?_, Or.inl ⟨rfl, y, rfl, h1, h1⟩⟩
  · by_cases e : a = P.2.2.2.1.1 ∧ i = pv
    · rw [e.1, e.2]
      exact h4
    · exact h3 a i ha hmo e (fun q hq e1 => hg (q.1, q.2, sx_r32) (List.mem_map.mpr ⟨q, hq, rfl⟩) e1)
  · obtain ⟨q, hq, rfl⟩ := List.mem_map.mp hg
    exact cv_ly_ok (g := (q.1, q.2, sx_r32)) h2 (List.all_eq_true.mp hly q hq)
-- the class: the first that brings; the values that fit
def rs_ftb (w : Nat) : rl_P := ((88, 18, 7), ([(0, 0, 5), (0, -1, 143), (0, 0, 29), (0, sx_r32)], [(10, 210, 0, 29)]), ([(0, 2, 0, 8), (1, 0, 9, 0), (2, 0, 11, 0), (3, 0, 0, (w : Int)), (4, 0, 0, if w = 2 then 0 else 9), (5, 0, 0, if w = 2 then 1 else -1), (6, 0, 10, 0)], 8, [(7, 12)]), (10, (9, 30 * (w : Int))), ([19, 20, 22, 23], [(21, 6), (21, 8)]), (10, -1), sx_r32)
def ra_ftb (w : Nat) : sx_L := [(0, 2, 0, 8), (1, 0, 9, 0), (2, 0, 11, 0), (3, 0, 0, (w : Int)), (4, 0, 0, if w = 2 then 0 else 9), (5, 0, 0, if w = 2 then 1 else -1)]
def rs_vtf (w c : Nat) : rl_P := ((108, 17, 7), ([(0, 0, 5), (0, -1, 143), (0, sx_r32)], [(10, 210, 0, 29)]), ([(0, 2, 0, 8), (1, 2, 0, 41 + 2 * (c : Int)), (2, 0, 9, 0), (3, 0, 0, (w : Int)), (4, 0, 10, 0)], 6, [(5, 11)]), (10, (9, 30 * (w : Int))), ([19, 20, 22, 23], [(21, 6), (21, 8)]), (10, -1), sx_r32)
def ra_vtf (w c : Nat) : sx_L := [(0, 2, 0, 8), (1, 2, 0, 41 + 2 * (c : Int)), (2, 0, 9, 0), (3, 0, 0, (w : Int))]
-- the reference
def rs_lc (u : Nat) : rl_P := ((219 + u, 14 + u, 11), ([(0, 0, 5), (0, -1, 143), (0, 0, 29), (0, sx_r32)], []), ([(0, 2, 0, 53), (1, 0, 9, 0), (2, 0, 11, 0), (3, 0, 10, 0)], 5, [(4, 12)]), (56 + u, (9, 0)), ([72, 73, 75, 76, 77], [(53, 35), (53, 36)]), (if u = 0 then (10, -1) else (-1, 1)), sx_r32)
def ra_lc : sx_L := [(0, 2, 0, 53), (1, 0, 9, 0), (2, 0, 11, 0)]
def rs_rc (u : Nat) : rl_P := ((237 + u, 18, 11), ([(0, 0, 5), (0, -1, 143), (0, 0, 5), (0, 0, 1), (0, sx_r32), (0, sx_r32)], []), ([(0, 2, 0, 53), (1, 0, 11, 0), (2, 0, 9, 0), (3, 0, 12, 0), (4, 0, 10, 0)], 7, [(5, 13), (6, 14)]), (56 + u, (9, 0)), ([72, 73, 75, 76, 77], [(53, 35), (53, 36)]), (10, -1), sx_r32)
def ra_rc : sx_L := [(0, 2, 0, 53), (1, 0, 11, 0), (2, 0, 9, 0), (3, 0, 12, 0)]
def rc_x1 : List (Nat × ct_C) := [(89, k_visitedOn)]
def rc_x2 : List (Nat × ct_C) := [(106, k_firstUnlike0), (106, k_firstUnlike1), (106, k_firstUnlike2), (106, k_firstUnlike3), (106, k_firstUnlike4), (106, k_firstUnlike5)]
def rc_m1 : List (Nat × ct_C) := [(190, k_mgoTo)]
def rc_m2 : List (Nat × ct_C) := [(235, k_mwrongDay)]
noncomputable def rl_b (P : rl_P) (cts : List (Nat × ct_C)) (lvA : sx_L) : Bool := sx_an (sx_an (rl_ckb P cts) (rl_ce P lvA)) (sx_an (rl_zs0 P) (P.2.2.2.2.1.2.all fun q => cv_ly cl_ly (q.1, q.2, sx_r32)))
theorem rb_ftb : ([2, 3].all fun w => rl_b (rs_ftb w) rc_x1 (ra_ftb w)) = true := by decide +kernel
theorem rb_vtf : ([2, 3].all fun w => (List.range 6).all fun c => rl_b (rs_vtf w c) rc_x2 (ra_vtf w c)) = true := by decide +kernel
theorem rb_lc : ([0, 1].all fun u => rl_b (rs_lc u) rc_m1 ra_lc) = true := by decide +kernel
theorem rb_rc : ([0, 1].all fun u => rl_b (rs_rc u) rc_m2 ra_rc) = true := by decide +kernel
/-- all of it, for a valuation of the numbers -/
theorem rl_fin {P : rl_P} {cts : List (Nat × ct_C)} {lvA : sx_L} {as : List ct_Q} (hb : rl_b P cts lvA = true) (he : cc_env WF L xs) (hall : ∀ c ∈ cts, cc WF L xs c.1 c.2) (hr : P.2.2.2.2.2.2 = sx_r32) (hW : WF M) (hf : ∀ N, sx_mok cl_ly N → rl_F P pv M N → ∀ g ∈ P.2.1.2, sx_w g.2.2 (N g.1 g.2.1) ∧ sx_w sx_r64 (N g.1 g.2.1)) (hZ : rl_Z P Z) (hpv : sx_val Z P.2.2.2.1.2 = (pv : Int)) (h10 : Z 10 = M P.2.2.2.1.1 pv) (hm : sx_mok cl_ly M) {d : Nat} (hd : P.1.2.2 ≤ d) {args : List Value} (ea : sx_cl1 Z lvA = lv_args 0 args) : ∃ F r M', sm_run sm_MT sm_LK (sm_RO L xs) sm_NV sm_cq F d P.1.1 0 (lv_args 0 args) [] (sx_HH cl_lay cl_rf M) = some (r, sx_HH cl_lay cl_rf M') ∧ sx_mok cl_ly M' ∧ ct_fr (rl_k P as) M M' ∧ ct_g (rl_k P as).2.2.1 M' ∧ ct_r (rl_k P as).2.2.2.2.1 r := by
  obtain ⟨b1, b2⟩ := sx_an_iff.mp hb
  obtain ⟨b1, b3⟩ := sx_an_iff.mp b1
  obtain ⟨b2, b4⟩ := sx_an_iff.mp b2
  have key := rl_all (xs := xs) (rl_ckb_ok b1) b3 he.2.1 hall he.1 (fun N hF => rl_WF he.2.1 b2 hW hF) hf hZ hpv h10 hm
  rw [ea] at key
  obtain ⟨F, r, M', f1, f2⟩ := rz_d hd key
  exact ⟨F, r, M', f1, rl_to f2 hr b4⟩
end
