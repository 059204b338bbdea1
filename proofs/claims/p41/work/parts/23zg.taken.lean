/-! taken: what shelves hold, without their elements; the kinds of bodies. -/
section
variable {WF : (Nat → Nat → Int) → Prop} {L : Nat} {xs : Nat → Int32} {i : Nat} {M M' M0 M1 M2 : Nat → Nat → Int} {ρ ρ' : Nat → Int} {t t0 : sx_S} {s b q n : Int} {c : Nat}
def t4_S (M : Nat → Nat → Int) (c : Nat) : Prop := (M 87 c = -1 ∧ M (41 + 2 * c) 2 = -1 ∧ M (41 + 2 * c) 3 = -1) ∨ (0 ≤ M 87 c ∧ M 87 c < M 37 2 ∧ M (41 + 2 * c) 2 = -1 ∧ M (41 + 2 * c) 3 = M 87 c) ∨ (-6 ≤ M 87 c ∧ M 87 c ≤ -2 ∧ 0 ≤ M (41 + 2 * c) 2 ∧ M (41 + 2 * c) 2 ≤ 4 ∧ M (41 + 2 * c) 3 = -1)
def t4_SS (M : Nat → Nat → Int) : Prop := (∀ c, c < 6 → t4_S M c) ∧ ac_SS bd_a1 M
theorem t4_on (h : t4_S M c) (h87 : M' 87 c = M 87 c) (h37 : M 37 2 ≤ M' 37 2) (hf : M' (41 + 2 * c) = M (41 + 2 * c)) : t4_S M' c := by
  unfold t4_S at h ⊢
  rw [h87, hf]
  rcases h with h | ⟨a, b, d, e⟩ | h
  · exact Or.inl h
  · exact Or.inr (Or.inl ⟨a, by omega, d, e⟩)
  · exact Or.inr (Or.inr h)
def t4_zc : List Nat := [41, 43, 45, 47, 49, 51, 87, 38, 85]
theorem t4_fp : lb_fp t4_zc [(37, 2)] t4_SS := by
  intro M M' h1 h2 ⟨hS, hA⟩
  have e : ∀ z, z = 41 ∨ z = 43 ∨ z = 45 ∨ z = 47 ∨ z = 49 ∨ z = 51 ∨ z = 87 ∨ z = 38 ∨ z = 85 → M' z = M z := fun z hz => h1 z (by
    simp only [t4_zc, List.mem_cons, List.not_mem_nil, or_false]
    exact hz)
  have e37 : M' 37 2 = M 37 2 := h2 (37, 2) (List.mem_singleton.mpr rfl)
  refine ⟨fun c hc => t4_on (hS c hc) (by rw [e 87 (by decide)]) (by rw [e37]; exact Int.le_refl _) (e _ (by omega)), fun q hq j hj => ?_⟩
  have h := hA q hq j hj
  rw [List.mem_singleton.mp hq] at h ⊢
  show M' 38 j = M' 85 j
  rw [e 38 (by decide), e 85 (by decide)]
  exact h
theorem t4_same (h : ∀ a, a < 128 → M' a = M a) (hS : t4_SS M) : t4_SS M' := t4_fp M M' (fun z hz => h z (by
  simp only [t4_zc, List.mem_cons, List.not_mem_nil, or_false] at hz
  omega)) (fun p hp => by
    rw [List.mem_singleton.mp hp]
    show M' 37 2 = M 37 2
    rw [h 37 (by decide)]) hS
/-- a pair of calls -/
def t4_P (WF : (Nat → Nat → Int) → Prop) (L : Nat) (xs : Nat → Int32) (kx km : Nat) (ax am : List Value) (r : Int × Int) (M : Nat → Nat → Int) : Prop := ∃ z M1 M2, sx_w r z ∧ ((0 = 0 ∧ sx_w sx_r32 z) ∨ (0 = 1 ∧ sx_w sx_r64 z)) ∧ lb_run L xs kx ax M (lb_val 0 z) M1 ∧ sx_mok cl_ly M1 ∧ lb_run L xs km am M1 (lb_val 0 z) M2 ∧ sx_mok cl_ly M2 ∧ la_I WF kp_cps M2 ∧ t4_SS M2
theorem t4_P0 {kx km : Nat} {ax am : List Value} {r : Int × Int} {z : Int} (hz : sh_H WF) (hI : la_I WF kp_cps M) (hS : t4_SS M) (hr : sx_w r z) (h32 : sx_w sx_r32 z) (a1 : lb_run L xs kx ax M (lb_val 0 z) M1) (a2 : sx_mok cl_ly M1) (a3 : ∀ a, a < 128 → M1 a = M a) (b1 : lb_run L xs km am M1 (lb_val 0 z) M2) (b2 : sx_mok cl_ly M2) (b3 : ∀ a, a < 128 → M2 a = M1 a) : t4_P WF L xs kx km ax am r M := ⟨z, M1, M2, hr, Or.inl ⟨rfl, h32⟩, a1, a2, b1, b2, sh_I (sh_G_of hz) (by decide +kernel) hI (sh_m_tr (sh_same a2 a3) (sh_same b2 b3)), t4_same b3 (t4_same a3 hS)⟩
theorem t4_ac (hA : ac_SS bd_a1 M) (h38 : M' 38 = M 38) (h85 : M' 85 = M 85) : ac_SS bd_a1 M' := fun q hq j hj => by
  have h := hA q hq j hj
  rw [List.mem_singleton.mp hq] at h ⊢
  show M' 38 j = M' 85 j
  rw [h38, h85]
  exact h
theorem t4_kp (hz : sh_H WF) (hL : L < 2 ^ 31) (hI : la_I WF kp_cps M) (hS : t4_SS M) (hs : sx_w sx_r32 s) (hb : sx_w sx_r32 b) : t4_P WF L xs 138 263 [.ref 8, .int (Int32.ofInt s), .int (Int32.ofInt b)] [.ref 53, .int (Int32.ofInt s), .int (Int32.ofInt b)] (-1, 1) M := by
  obtain ⟨hB, eB⟩ := hI.2.2.2.2 _ (List.mem_singleton.mpr rfl)
  have hB : sx_w (0, 50) (M 37 2) := hB
  have eB : M 37 2 = M 53 57 := eB
  obtain ⟨z, M1, a1, a2, a3⟩ := lb_of (k := 138) (vs := [.ref 8, .int (Int32.ofInt s), .int (Int32.ofInt b)]) (show 3 ≤ 99 by decide) (kp_x (xs := xs) hL hI.1 hs hb)
  obtain ⟨y, M2, b1, b2, b3⟩ := lb_of (k := 263) (vs := [.ref 53, .int (Int32.ofInt s), .int (Int32.ofInt b)]) (show 4 ≤ 99 by decide) (kp_m (xs := xs) hL a2 hs hb)
  rcases a3 with ⟨rfl, c1, c2⟩ | ⟨rfl, c1, c2⟩
  · have e57 : M1 53 57 = M 37 2 := by rw [c2 53 (by decide), eB]
    rcases b3 with ⟨rfl, d1, d2⟩ | ⟨rfl, d1, d2⟩
    · exact t4_P0 hz hI hS ⟨by decide, by decide⟩ (og_w32 (by decide) (by decide)) a1 a2 c2 b1 b2 d2
    · rw [e57] at d1
      exact absurd c1 d1
  · have hs6 : 0 ≤ s ∧ s ≤ 5 ∧ -1 ≤ b ∧ b < M 37 2 ∨ 0 ≤ s ∧ s ≤ 5 ∧ b = -1 := by unfold kp_no at c1; omega
    have hk : s.toNat < 6 := by omega
    have f1 : ∀ a, a < 128 → a ≠ 41 + 2 * s.toNat → M1 a = M a := fun a ha ne => by rw [c2 a ha, sh_wne ne]
    have e57 : M1 53 57 = M 37 2 := by rw [f1 53 (by decide) (by omega), eB]
    rcases b3 with ⟨rfl, d1, d2⟩ | ⟨rfl, d1, d2⟩
    · rw [e57] at d1
      exact absurd d1 c1
    · have f2 : ∀ a, a < 128 → a ≠ 87 → M2 a = M1 a := fun a ha ne => by rw [d2 a ha, sh_une ne]
      have e37 : M2 37 = M 37 := by rw [f2 37 (by decide) (by decide), f1 37 (by decide) (by omega)]
      refine ⟨1, M1, M2, ⟨by decide, by decide⟩, Or.inl ⟨rfl, og_w32 (by decide) (by decide)⟩, a1, a2, b1, b2, sh_I (sh_G_of hz) (by decide +kernel) hI ⟨b2, fun a ha x y => by rw [f2 a ha (by omega), f1 a ha (by omega)]⟩, fun j hj => ?_, t4_ac hS.2 (by rw [f2 38 (by decide) (by decide), f1 38 (by decide) (by omega)]) (by rw [f2 85 (by decide) (by decide), f1 85 (by decide) (by omega)])⟩
      by_cases e : j = s.toNat
      · subst e
        have g87 : M2 87 s.toNat = b := by rw [d2 87 (by decide), sh_uat]
        have g2 : M2 (41 + 2 * s.toNat) 2 = -1 := by rw [f2 _ (by omega) (by omega), c2 _ (by omega), sh_w2]
        have g3 : M2 (41 + 2 * s.toNat) 3 = b := by rw [f2 _ (by omega) (by omega), c2 _ (by omega), sh_w3]
        unfold t4_S
        rw [g87, g2, g3, e37]
        by_cases eb : b = -1
        · exact Or.inl ⟨eb, rfl, eb⟩
        · exact Or.inr (Or.inl ⟨by omega, by omega, rfl, rfl⟩)
      · refine t4_on (hS.1 j hj) ?_ (by rw [e37]; exact Int.le_refl _) (by rw [f2 _ (by omega) (by omega), f1 _ (by omega) (by omega)])
        rw [d2 87 (by decide), sh_unj e, f1 87 (by decide) (by omega)]
theorem t4_ro (hz : sh_H WF) (hL : L < 2 ^ 31) (hI : la_I WF kp_cps M) (hS : t4_SS M) (hs : sx_w sx_r32 s) (hq : sx_w sx_r32 q) (hn : sx_w sx_r32 n) : t4_P WF L xs 140 264 [.ref 8, .int (Int32.ofInt s), .int (Int32.ofInt q), .int (Int32.ofInt n)] [.ref 53, .int (Int32.ofInt s), .int (Int32.ofInt q), .int (Int32.ofInt n)] (-14, 1) M := by
  obtain ⟨z, M1, a1, a2, a3⟩ := lb_of (k := 140) (vs := [.ref 8, .int (Int32.ofInt s), .int (Int32.ofInt q), .int (Int32.ofInt n)]) (show 4 ≤ 99 by decide) (rw_xx (xs := xs) hL hI.1 hs hq hn)
  obtain ⟨y, M2, b1, b2, b3⟩ := lb_of (k := 264) (vs := [.ref 53, .int (Int32.ofInt s), .int (Int32.ofInt q), .int (Int32.ofInt n)]) (show 4 ≤ 99 by decide) (rw_mm (xs := xs) hL a2 hs hq hn)
  have w : ∀ k : Int, -14 ≤ k → k ≤ 1 → sx_w (-14, 1) k ∧ sx_w sx_r32 k := fun k h1 h2 => ⟨⟨h1, h2⟩, og_w32 (by omega) (by omega)⟩
  rcases a3 with ⟨rfl, x1, x2⟩ | ⟨rfl, x1, x2, x3⟩ | ⟨rfl, x1, x2, x3, x4, x5⟩
  · rcases b3 with ⟨rfl, y1, y2⟩ | ⟨rfl, y1, y2, y3⟩ | ⟨rfl, y1, y2, y3, y4⟩
    · exact t4_P0 hz hI hS (w _ (by decide) (by decide)).1 (w _ (by decide) (by decide)).2 a1 a2 x2 b1 b2 y2
    all_goals exact absurd x1 y1
  · rcases b3 with ⟨rfl, y1, y2⟩ | ⟨rfl, y1, y2, y3⟩ | ⟨rfl, y1, y2, y3, y4⟩
    · exact absurd y1 x1
    · exact t4_P0 hz hI hS (w _ (by decide) (by decide)).1 (w _ (by decide) (by decide)).2 a1 a2 x3 b1 b2 y3
    · omega
  · rcases b3 with ⟨rfl, y1, y2⟩ | ⟨rfl, y1, y2, y3⟩ | ⟨rfl, y1, y2, y3, y4⟩
    · exact absurd y1 x1
    · omega
    · have hb : 0 ≤ s ∧ s ≤ 5 ∧ 0 ≤ q ∧ q ≤ 4 ∧ n ≤ 60 := by unfold rw_b at x1; omega
      obtain ⟨c, rfl⟩ := Int.eq_ofNat_of_zero_le hb.1
      rw [Int.toNat_natCast] at x4 x5 y3 y4
      have f1 : ∀ a, a < 128 → a ≠ 41 + 2 * c → a ≠ 42 + 2 * c → M1 a = M a := fun a ha ne ne2 => by rw [x4 a ha ne2, sh_wne ne]
      have f2 : ∀ a, a < 128 → a ≠ 87 → a ≠ 88 → a ≠ 89 → M2 a = M1 a := fun a ha h7 h8 h9 => by rw [y3 a ha h9, sh_une h8, sh_une h7]
      have e37 : M2 37 = M 37 := by rw [f2 37 (by decide) (by decide) (by decide) (by decide), f1 37 (by decide) (by omega) (by omega)]
      refine ⟨1, M1, M2, ⟨by decide, by decide⟩, Or.inl ⟨rfl, og_w32 (by decide) (by decide)⟩, a1, a2, b1, b2, sh_I (sh_G_of hz) (by decide +kernel) hI ⟨b2, fun a ha x y => by rw [f2 a ha (by omega) (by omega) (by omega), f1 a ha (by omega) (by omega)]⟩, fun k hk => ?_, t4_ac hS.2 (by rw [f2 38 (by decide) (by decide) (by decide) (by decide), f1 38 (by decide) (by omega) (by omega)]) (by rw [f2 85 (by decide) (by decide) (by decide) (by decide), f1 85 (by decide) (by omega) (by omega)])⟩
      by_cases e : k = c
      · subst e
        have g87 : M2 87 k = -2 - q := by rw [y3 87 (by decide) (by decide), sh_une (by decide), sh_uat]
        have go : ∀ j, M2 (41 + 2 * k) j = sh_w M (41 + 2 * k) n q (-1) (41 + 2 * k) j := fun j => by rw [f2 _ (by omega) (by omega) (by omega) (by omega), x4 _ (by omega) (by omega)]
        refine Or.inr (Or.inr ?_)
        rw [g87, go 2, go 3, sh_w2, sh_w3]
        exact ⟨by omega, by omega, by omega, by omega, rfl⟩
      · refine t4_on (hS.1 k hk) ?_ (by rw [e37]; exact Int.le_refl _) ?_
        · rw [y3 87 (by decide) (by decide), sh_une (by decide), sh_unj e, f1 87 (by decide) (by omega) (by omega)]
        · rw [f2 _ (by omega) (by omega) (by omega) (by omega), f1 _ (by omega) (by omega) (by omega)]
end
section
variable {WF : (Nat → Nat → Int) → Prop} {L : Nat} {xs : Nat → Int32} {i : Nat} {M M' M0 M1 M2 : Nat → Nat → Int} {ρ ρ' : Nat → Int} {t t0 : sx_S} {c : Nat}
/-- body, taken: joint walks -/
noncomputable def t4_kc (t0 t : sx_S) : Bool := sx_an (sx_an (ac_kc bd_a1 t0 t) (lb_un [41, 43, 45, 47, 49, 51, 87] [] t0 t)) (match jv t (37, 2), jv t0 (37, 2) with
  | some v, some w => sx_an (Nat.beq v.1 w.1) (sx_le w.2 v.2)
  | _, _ => false)
theorem t4_kc_ok (hs0 : sx_sat cl_ly (8, 0) xs L M ρ M t0) (x : sx_ext t0.1 ρ ρ') (hs : sx_sat cl_ly (8, 0) xs L M ρ' M' t) (h : t4_kc t0 t = true) (hS : t4_SS M) : t4_SS M' := by
  obtain ⟨h1, h2⟩ := sx_an_iff.mp h
  obtain ⟨h1, h3⟩ := sx_an_iff.mp h1
  obtain ⟨h3, -⟩ := sx_an_iff.mp h3
  have e : ∀ z, z = 41 ∨ z = 43 ∨ z = 45 ∨ z = 47 ∨ z = 49 ∨ z = 51 ∨ z = 87 → M' z = M z := fun z hz => by
    obtain ⟨a, b⟩ := sx_an_iff.mp (List.all_eq_true.mp h3 z (by
      simp only [List.mem_cons, List.not_mem_nil, or_false]
      exact hz))
    obtain ⟨-, g0, -, -, l4⟩ := hs.2.2.2.2.2.2.1 z (sx_blt a)
    exact l4 (sx_nbeq.mp b)
  have h37 : M 37 2 ≤ M' 37 2 := by
    cases ev : jv t (37, 2) with
    | none => rw [ev] at h2; cases h2
    | some v =>
      cases ew : jv t0 (37, 2) with
      | none => rw [ev, ew] at h2; cases h2
      | some w =>
        rw [ev, ew] at h2
        obtain ⟨k1, k2⟩ := sx_an_iff.mp h2
        have k1 := sx_nbeq.mp k1
        have k2 := sx_le_iff.mp k2
        obtain ⟨p1, -⟩ := jv_ok hs (p := (37, 2)) (by decide) ev
        obtain ⟨q1, q2⟩ := jv_ok hs0 (p := (37, 2)) (by decide) ew
        have p1 : M' 37 2 = ρ' v.1 + v.2 := p1
        have q1 : M 37 2 = ρ w.1 + w.2 := q1
        rw [p1, q1, k1, x w.1 q2]
        omega
  exact ⟨fun c hc => t4_on (hS.1 c hc) (by rw [e 87 (by decide)]) h37 (e _ (by omega)), ac_ok hs h1 hS.2⟩
theorem t4_jt {px : Nat} {s0 : List sx_V} (hc : jt_chk kp_cps t4_kc 5000 5000 px s0 t0 = true) (hz : sh_H WF) (hL : L ≤ 3072) (hi : i + 6 ≤ L) (hs0 : sx_sat cl_ly (8, 0) xs L M ρ M t0) (hx : sx_ext 9 (la_rho xs L i) ρ) (hk : lb_ok0 s0 = true) (hI : la_I WF kp_cps M) (hS : t4_SS M) (k18 : ∀ M', la_I WF kp_cps M' → t4_SS M' → la_R L xs 100 18 (la_lv (Int32.ofInt ((i : Int) + 6))) [] (sx_HH cl_lay cl_rf M')) : la_R L xs 100 px (la_lv (Int32.ofInt (i : Int))) (sx_cs1 (la_rho xs L i) s0) (sx_HH cl_lay cl_rf M) :=
  jt_ok hc hz hL hi hs0 hx hk hI.2.1 hI.2.2.1 (fun t ρ' M' x h h2 => t4_kc_ok hs0 x h h2 hS) k18
-- taken: a shelf that is empty, holds a body, holds a row; the start knows 9, 10, 11 (day and changes), 12 (bodies)
noncomputable def t4_t0 (c : Nat) : sx_S := jt_0 [(2, (c : Int), (c : Int))] kp_cps
noncomputable def t4_te (c : Nat) : sx_S := jt_ad 87 (0, (c : Int)) (0, -1) (jt_ad (41 + 2 * c) (0, 3) (0, -1) (jt_ad (41 + 2 * c) (0, 2) (0, -1) (t4_t0 c)))
noncomputable def t4_tb (c k : Nat) : sx_S := jt_ad 85 (13, 0) (14, 0) (sx_frl (jt_ad (41 + 2 * c) (0, 3) (13, 0) (jt_ad (41 + 2 * c) (0, 2) (0, -1) (jt_me 80 (13, 0) (12, 0) (sx_frl (t4_t0 c) 87 (0, (c : Int)) (0, 49)).2))) 38 (13, 0) ((k : Int), (k : Int))).2
noncomputable def t4_tr (c : Nat) : sx_S := jt_ad (41 + 2 * c) (0, 3) (0, -1) (sx_frl (sx_frl (t4_t0 c) 87 (0, (c : Int)) (-6, -2)).2 (41 + 2 * c) (0, 2) (0, 4)).2
theorem t4_c0 (hL : L ≤ 3072) (hi : i + 6 ≤ L) (hI : la_I WF kp_cps M) (hc : la_rho xs L i 2 = (c : Int)) : ∃ ρ : Nat → Int, sx_sat cl_ly (8, 0) xs L M ρ M (t4_t0 c) ∧ sx_ext 9 (la_rho xs L i) ρ ∧ (t4_t0 c).1 = 13 ∧ ρ 12 = M 37 2 := by
  obtain ⟨ρ, s, x⟩ := jt_st (ns := [(2, (c : Int), (c : Int))]) (cps := kp_cps) hL hi hI (by decide +kernel) (fun q hq => by
    rw [List.mem_singleton.mp hq]
    exact ⟨(show 2 < 9 by decide), by rw [hc]; exact ⟨Int.le_refl _, Int.le_refl _⟩⟩)
  refine ⟨ρ, s, x, rfl, ?_⟩
  have e : jv (t4_t0 c) (37, 2) = some (12, 0) := rfl
  have h := (jv_ok s (p := (37, 2)) (by decide) e).1
  have h : M 37 2 = ρ 12 + 0 := h
  rw [h, Int.add_zero]
theorem t4_87 (hm : sx_mok cl_ly M) (hc : c < 6) : sx_w sx_r64 (M 87 c) := sx_32_64 (og_w32 (by have := sh_87 hm hc; omega) (by have := sh_87 hm hc; omega))
theorem t4_38 (hm : sx_mok cl_ly M) {k : Nat} (hk : k < 50) : sx_w (0, 7) (M 38 k) ∧ sx_w sx_r64 (M 38 k) := ⟨bd_38 hm hk, sx_32_64 (og_w32 (by have := bd_38 hm hk; omega) (by have := bd_38 hm hk; omega))⟩
theorem t4_2 (hm : sx_mok cl_ly M) (hc : c < 6) : sx_w sx_r64 (M (41 + 2 * c) 2) := (sh_fok hm hc (41 + 2 * c, 2, (-1, 4)) (by simp [op_f])).2.2
/-- the three kinds of a shelf -/
theorem t4_c1 (hL : L ≤ 3072) (hi : i + 6 ≤ L) (hI : la_I WF kp_cps M) (hS : t4_SS M) (h6 : c < 6) (hc : la_rho xs L i 2 = (c : Int)) : ∃ t0 : sx_S, (t0 = t4_te c ∨ (∃ k, k < 8 ∧ t0 = t4_tb c k) ∨ t0 = t4_tr c) ∧ ∃ ρ : Nat → Int, sx_sat cl_ly (8, 0) xs L M ρ M t0 ∧ sx_ext 9 (la_rho xs L i) ρ := by
  obtain ⟨ρ, s, x, n13, r12⟩ := t4_c0 (xs := xs) hL hi hI hc
  have h0 : ρ 0 = 0 := s.2.1
  have vc : ∀ k : Nat, sx_val ρ (0, (k : Int)) = (k : Int) := fun k => og_c h0 _
  rcases hS.1 c h6 with ⟨a, b, d⟩ | ⟨a, b, d, e⟩ | ⟨a, b, d, e, f⟩
  · refine ⟨_, Or.inl rfl, ρ, ?_, x⟩
    refine jt_ad_ok (jt_ad_ok (jt_ad_ok s (by omega) (by rw [n13]; decide) ?_ (by rw [n13]; decide) ?_) (by omega) (by show 0 < (t4_t0 c).1; rw [n13]; decide) ?_ (by show 0 < (t4_t0 c).1; rw [n13]; decide) ?_) (by decide) (by show 0 < (t4_t0 c).1; rw [n13]; decide) ?_ (by show 0 < (t4_t0 c).1; rw [n13]; decide) ?_
    · rw [og_c h0]; decide
    · rw [og_c h0, og_c h0]; exact b
    · rw [og_c h0]; decide
    · rw [og_c h0, og_c h0]; exact d
    · rw [vc]; omega
    · rw [vc, og_c h0, Int.toNat_natCast]; exact a
  · obtain ⟨ρ1, x1, s1, y1, n1⟩ := jt_rd (k := 87) (a := (0, (c : Int))) (r := (0, 49)) s n13 (by decide) (show 0 < 13 by decide) (by rw [vc]; omega) (by rw [vc, Int.toNat_natCast]; exact ⟨a, by show M 87 c ≤ 49; have := sh_87 hI.1 h6; omega⟩) (by rw [vc, Int.toNat_natCast]; exact t4_87 hI.1 h6)
    have h01 : ρ1 0 = 0 := s1.2.1
    rw [vc, Int.toNat_natCast] at y1
    have r121 : ρ1 12 = M 37 2 := (x1 12 (by decide)).trans r12
    have s2 := jt_me_ok (g := 80) (a := (13, 0)) (b := (12, 0)) s1 (by rw [n1]; decide) (by rw [n1]; decide) (by rw [og_v0 y1, og_v0 r121]; exact jt_lt b)
    have s3 := jt_ad_ok (k := 41 + 2 * c) (a := (0, 2)) (v := (0, -1)) s2 (by omega) (by show 0 < (sx_frl (t4_t0 c) 87 (0, (c : Int)) (0, 49)).2.1; rw [n1]; decide) (by rw [og_c h01]; decide) (by show 0 < (sx_frl (t4_t0 c) 87 (0, (c : Int)) (0, 49)).2.1; rw [n1]; decide) (by rw [og_c h01, og_c h01]; exact d)
    have s4 := jt_ad_ok (k := 41 + 2 * c) (a := (0, 3)) (v := (13, 0)) s3 (by omega) (by show 0 < (sx_frl (t4_t0 c) 87 (0, (c : Int)) (0, 49)).2.1; rw [n1]; decide) (by rw [og_c h01]; decide) (by show 13 < (sx_frl (t4_t0 c) 87 (0, (c : Int)) (0, 49)).2.1; rw [n1]; decide) (by rw [og_c h01, og_v0 y1]; exact e)
    have hk : (M 87 c).toNat < 50 := by have := sh_87 hI.1 h6; omega
    obtain ⟨ρ2, x2, s5, y2, n2⟩ := jt_rd (n := 14) (k := 38) (a := (13, 0)) (r := (((M 38 (M 87 c).toNat).toNat : Int), ((M 38 (M 87 c).toNat).toNat : Int))) s4 n1 (by decide) (by decide) (by rw [og_v0 y1]; exact a) (by rw [og_v0 y1]; have := bd_38 hI.1 hk; exact ⟨by show (((M 38 (M 87 c).toNat).toNat : Nat) : Int) ≤ _; omega, by show _ ≤ (((M 38 (M 87 c).toNat).toNat : Nat) : Int); omega⟩) (by rw [og_v0 y1]; exact (t4_38 hI.1 hk).2)
    rw [og_v0 y1] at y2
    have y13 : ρ2 13 = M 87 c := (x2 13 (by decide)).trans y1
    have s6 := jt_ad_ok (k := 85) (a := (13, 0)) (v := (14, 0)) s5 (by decide) (by rw [n2]; decide) (by rw [og_v0 y13]; exact a) (by rw [n2]; decide) (by
      rw [og_v0 y13, og_v0 y2]
      exact (hS.2 (38, 85, 50) (List.mem_singleton.mpr rfl) _ hk).symm)
    exact ⟨_, Or.inr (Or.inl ⟨(M 38 (M 87 c).toNat).toNat, by have := bd_38 hI.1 hk; omega, rfl⟩), ρ2, s6, fun k hk => (x2 k (by omega)).trans ((x1 k (by omega)).trans (x k hk))⟩
  · obtain ⟨ρ1, x1, s1, y1, n1⟩ := jt_rd (k := 87) (a := (0, (c : Int))) (r := (-6, -2)) s n13 (by decide) (show 0 < 13 by decide) (by rw [vc]; omega) (by rw [vc, Int.toNat_natCast]; exact ⟨a, b⟩) (by rw [vc, Int.toNat_natCast]; exact t4_87 hI.1 h6)
    have h01 : ρ1 0 = 0 := s1.2.1
    obtain ⟨ρ2, x2, s2, y2, n2⟩ := jt_rd (n := 14) (k := 41 + 2 * c) (a := (0, 2)) (r := (0, 4)) s1 n1 (by omega) (by decide) (by rw [og_c h01]; decide) (by rw [og_c h01]; exact ⟨d, e⟩) (by rw [og_c h01]; exact t4_2 hI.1 h6)
    have h02 : ρ2 0 = 0 := s2.2.1
    have s3 := jt_ad_ok (k := 41 + 2 * c) (a := (0, 3)) (v := (0, -1)) s2 (by omega) (by rw [n2]; decide) (by rw [og_c h02]; decide) (by rw [n2]; decide) (by rw [og_c h02, og_c h02]; exact f)
    exact ⟨_, Or.inr (Or.inr rfl), ρ2, s3, fun k hk => (x2 k (by omega)).trans ((x1 k (by omega)).trans (x k hk))⟩
theorem t4_S0 : t4_SS cl_M0 := by
  have h : ((List.range 6).all fun k => sx_an (sx_eq (cl_M0 87 k) (-1)) (sx_an (sx_eq (cl_M0 (41 + 2 * k) 2) (-1)) (sx_eq (cl_M0 (41 + 2 * k) 3) (-1)))) = true := by decide +kernel
  refine ⟨fun k hk => ?_, fun q hq => bd_S0 q (by rw [List.mem_singleton.mp hq]; exact List.mem_cons_self)⟩
  obtain ⟨h1, h2⟩ := sx_an_iff.mp (List.all_eq_true.mp h k (List.mem_range.mpr hk))
  obtain ⟨h2, h3⟩ := sx_an_iff.mp h2
  exact Or.inl ⟨sx_eq_iff.mp h1, sx_eq_iff.mp h2, sx_eq_iff.mp h3⟩
end
