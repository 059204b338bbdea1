/-! Joint walks: rows that both sides hold alike. -/
section
variable {L : Nat} {xs : Nat → Int32} {i : Nat} {M M' M0 : Nat → Nat → Int} {ρ ρ' : Nat → Int} {t t0 : sx_S} {WF : (Nat → Nat → Int) → Prop}
/-- two rows that hold the same: cells, length -/
def ac_SS (acs : List (Nat × Nat × Nat)) (M : Nat → Nat → Int) : Prop := ∀ q ∈ acs, ∀ j, j < q.2.2 → M q.1 j = M q.2.1 j
noncomputable def ac_kc (acs : List (Nat × Nat × Nat)) (_ t : sx_S) : Bool := acs.all fun q => sx_an (sx_an (Nat.blt q.1 128) (Nat.blt q.2.1 128)) (sx_an (sx_an (Nat.ble (sx_tg 7 t.2.2.2 q.1).1 1) (Nat.ble (sx_tg 7 t.2.2.2 q.2.1).1 1)) (sx_ebA (sx_tg 7 t.2.2.2 q.1).2 (sx_tg 7 t.2.2.2 q.2.1).2))
theorem ac_app {g g' : Nat → Int} {n : Nat} (h : ∀ j, j < n → g j = g' j) : ∀ (l : List (sx_A × sx_A)) (j : Nat), j < n → sx_app ρ l g j = sx_app ρ l g' j := by
  intro l
  induction l with
  | nil => exact h
  | cons e l ih =>
    intro j hj
    show sx_fup (sx_app ρ l g) _ _ j = sx_fup (sx_app ρ l g') _ _ j
    unfold sx_fup
    by_cases e9 : j = (sx_val ρ e.1).toNat
    · rw [if_pos e9, if_pos e9]
    · rw [if_neg e9, if_neg e9, ih j hj]
theorem ac_ok {acs : List (Nat × Nat × Nat)} (hs : sx_sat cl_ly (8, 0) xs L M ρ M' t) (h : ac_kc acs t0 t = true) (hS : ac_SS acs M) : ac_SS acs M' := by
  intro q hq j hj
  obtain ⟨h1, h2⟩ := sx_an_iff.mp (List.all_eq_true.mp h q hq)
  obtain ⟨h1, h3⟩ := sx_an_iff.mp h1
  obtain ⟨h2, h4⟩ := sx_an_iff.mp h2
  obtain ⟨h2, h5⟩ := sx_an_iff.mp h2
  have h2 := Nat.le_of_ble_eq_true h2
  have h5 := Nat.le_of_ble_eq_true h5
  obtain ⟨-, g0, a1, a2, -⟩ := hs.2.2.2.2.2.2.1 q.1 (sx_blt h1)
  obtain ⟨-, g1, b1, b2, -⟩ := hs.2.2.2.2.2.2.1 q.2.1 (sx_blt h3)
  rw [a2, b2, sx_ebA_ok h4, a1 (by omega), b1 (by omega)]
  exact ac_app (hS q hq) _ j hj
theorem ac_fp {acs : List (Nat × Nat × Nat)} {zc : List Nat} (h : (acs.all fun q => sx_an (zc.any (Nat.beq q.1)) (zc.any (Nat.beq q.2.1))) = true) : lb_fp zc [] (ac_SS acs) := by
  intro M M' h1 _ hS q hq j hj
  obtain ⟨a, b⟩ := sx_an_iff.mp (List.all_eq_true.mp h q hq)
  obtain ⟨z, hz, e⟩ := List.any_eq_true.mp a
  obtain ⟨y, hy, e'⟩ := List.any_eq_true.mp b
  rw [sx_nbeq.mp e, sx_nbeq.mp e', h1 z hz, h1 y hy, ← sx_nbeq.mp e, ← sx_nbeq.mp e']
  exact hS q hq j hj
/-- what both sides hold alike at a place is read: cell, place, cell, place, range -/
abbrev jt_C : Type := Nat × sx_A × Nat × sx_A × (Int × Int)
noncomputable def jt_cr (rs : List jt_C) (t : sx_S) : sx_S := rs.foldl (fun t q => jt_ad q.2.2.1 q.2.2.2.1 (t.1, 0) (sx_frl t q.1 q.2.1 q.2.2.2.2).2) t
def jt_cq (ρ : Nat → Int) (M : Nat → Nat → Int) (q : jt_C) : Prop := q.1 < 128 ∧ q.2.2.1 < 128 ∧ q.2.1.1 < 9 ∧ q.2.2.2.1.1 < 9 ∧ 0 ≤ sx_val ρ q.2.1 ∧ 0 ≤ sx_val ρ q.2.2.2.1 ∧ sx_w q.2.2.2.2 (M q.1 (sx_val ρ q.2.1).toNat) ∧ sx_w sx_r64 (M q.1 (sx_val ρ q.2.1).toNat) ∧ M q.1 (sx_val ρ q.2.1).toNat = M q.2.2.1 (sx_val ρ q.2.2.2.1).toNat
theorem jt_cr_ok {ρ0 : Nat → Int} : ∀ {rs : List jt_C} {t : sx_S} {ρ : Nat → Int}, sx_sat cl_ly (8, 0) xs L M ρ M t → sx_ext 9 ρ0 ρ → (∀ q ∈ rs, jt_cq ρ0 M q) → ∃ ρ' : Nat → Int, sx_sat cl_ly (8, 0) xs L M ρ' M (jt_cr rs t) ∧ sx_ext 9 ρ0 ρ' := by
  intro rs
  induction rs with
  | nil => intro t ρ hs hx _; exact ⟨ρ, hs, hx⟩
  | cons q rs ih =>
    intro t ρ hs hx h
    obtain ⟨a1, a2, a3, a4, a5, a6, a7, a8, a9⟩ := h q List.mem_cons_self
    have hn : 9 ≤ t.1 := hs.1
    have e1 : sx_val ρ q.2.1 = sx_val ρ0 q.2.1 := sx_ext_val hx a3
    obtain ⟨ρ1, x1, s1, y1, n1⟩ := jt_rd (k := q.1) (a := q.2.1) (r := q.2.2.2.2) hs rfl a1 (by omega) (by rw [e1]; exact a5) (by rw [e1]; exact a7) (by rw [e1]; exact a8)
    have hx1 : sx_ext 9 ρ0 ρ1 := fun k hk => (x1 k (by omega)).trans (hx k hk)
    have e2 : sx_val ρ1 q.2.2.2.1 = sx_val ρ0 q.2.2.2.1 := sx_ext_val hx1 a4
    have s2 := jt_ad_ok (k := q.2.2.1) (a := q.2.2.2.1) (v := (t.1, 0)) s1 a2 (by rw [n1]; omega) (by rw [e2]; exact a6) (by rw [n1]; exact Nat.lt_succ_self _) (by
      rw [e2, ← a9]
      show _ = ρ1 t.1 + 0
      rw [y1, e1, Int.add_zero])
    exact ih s2 hx1 (fun w hw => h w (List.mem_cons_of_mem _ hw))
theorem jt_go {ns : List (Nat × Int × Int)} {rs : List jt_C} {cps : List la_P} {acs : List (Nat × Nat × Nat)} {px : Nat} {s0 : List sx_V} (hc : jt_chk cps (ac_kc acs) 5000 5000 px s0 (jt_cr rs (jt_0 ns cps)) = true) (hg : la_gd cps = true) (hk : lb_ok0 s0 = true) (hz : ∀ M M' : Nat → Nat → Int, (∀ z ∈ cz_zs, M' z = M z) → WF M → WF M') (hL : L ≤ 3072) (hi : i + 6 ≤ L) (hI : la_I WF cps M) (hS : ac_SS acs M) (hn : ∀ q ∈ ns, q.1 < 9 ∧ sx_w q.2 (la_rho xs L i q.1)) (hr : ∀ q ∈ rs, jt_cq (la_rho xs L i) M q) (k18 : ∀ M', la_I WF cps M' → ac_SS acs M' → la_R L xs 100 18 (la_lv (Int32.ofInt ((i : Int) + 6))) [] (sx_HH cl_lay cl_rf M')) : la_R L xs 100 px (la_lv (Int32.ofInt (i : Int))) (sx_cs1 (la_rho xs L i) s0) (sx_HH cl_lay cl_rf M) := by
  obtain ⟨ρ1, s1, x1⟩ := jt_st (ns := ns) (cps := cps) hL hi hI hg hn
  obtain ⟨ρ2, s2, x2⟩ := jt_cr_ok s1 x1 hr
  exact jt_ok hc hz hL hi s2 x2 hk hI.2.1 hI.2.2.1 (fun t ρ' M' x h h2 => ac_ok h h2 hS) k18
/-- a number of the script lies below, in, above -/
theorem jt_3 {z lo hi : Int} (hz : sx_w sx_r32 z) : sx_w (-2147483648, lo - 1) z ∨ sx_w (lo, hi) z ∨ sx_w (hi + 1, 2147483647) z := by
  have h := sx_r32_iff.mp hz
  by_cases h1 : z < lo
  · exact Or.inl ⟨h.1, by show z ≤ lo - 1; omega⟩
  · by_cases h2 : hi < z
    · exact Or.inr (Or.inr ⟨by show hi + 1 ≤ z; omega, h.2⟩)
    · exact Or.inr (Or.inl ⟨by show lo ≤ z; omega, by show z ≤ hi; omega⟩)
end
