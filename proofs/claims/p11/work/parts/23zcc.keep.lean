/-! Shelves: keep, both sides. -/
section
variable {WF : (Nat → Nat → Int) → Prop} {L : Nat} {xs : Nat → Int32} {M M' M0 M1 M2 : Nat → Nat → Int} {s b : Int} {cps : List la_P}
theorem lb_of {k d : Nat} {vs : List Value} {R : Int → (Nat → Nat → Int) → Prop} (hd : d ≤ 99) (h : rz_fin (sh_Q R) L xs k d 0 (lv_args 0 vs) [] M) : ∃ z M', lb_run L xs k vs M (lb_val 0 z) M' ∧ sx_mok cl_ly M' ∧ R z M' := by
  obtain ⟨F, r, M', e, z, rfl, h1, h2⟩ := rz_d hd h
  exact ⟨z, M', ⟨F, e⟩, h1, h2⟩
theorem sh_88 (hm : sx_mok cl_ly M) {k : Nat} (hk : k < 6) : 0 ≤ M 88 k ∧ M 88 k ≤ 60 := hm 88 _ k _ rfl hk rfl
theorem sh_87 (hm : sx_mok cl_ly M) {k : Nat} (hk : k < 6) : -6 ≤ M 87 k ∧ M 87 k ≤ 49 := hm 87 _ k _ rfl hk rfl
/-- what X lays in a shelf changes no other -/
theorem sh_wS {k j : Nat} {l q h : Int} (hk : k < 6) (hj : j < 6) (e : j ≠ k) (hm : sx_mok cl_ly M) (hS : sh_S M j) (hM : ∀ a, a < 128 → M' a = sh_w M (41 + 2 * k) l q h a) : sh_S M' j := by
  have f : ∀ a, a < 128 → a ≠ 41 + 2 * k → M' a = M a := fun a ha ne => by rw [hM a ha, sh_wne ne]
  exact sh_S_on hS (by rw [f 87 (by decide) (by omega)]) (by rw [f 88 (by decide) (by omega)]) (fun i _ => by rw [f 89 (by decide) (by omega)]) (f _ (by omega) (by omega)) (f _ (by omega) (by omega)) (sh_88 hm hj).2
/-- what the reference writes of one shelf changes no other -/
theorem sh_uS {k j c : Nat} {v : Int} (hj : j < 6) (e : j ≠ k) (hc : c = 87 ∨ c = 88) (hm : sx_mok cl_ly M) (hS : sh_S M j) (hM : ∀ a, a < 128 → M' a = sx_up M c k v a) : sh_S M' j := by
  have f : ∀ a, a < 128 → a ≠ c → M' a = M a := fun a ha ne => by rw [hM a ha, sh_une ne]
  have g : ∀ a, a < 128 → M' a j = M a j := fun a ha => by
    rw [hM a ha]
    by_cases ea : a = c
    · rw [ea, sh_unj e]
    · rw [sh_une ea]
  exact sh_S_on hS (g 87 (by decide)) (g 88 (by decide)) (fun i _ => by rw [f 89 (by decide) (by omega)]) (f _ (by omega) (by omega)) (f _ (by omega) (by omega)) (sh_88 hm hj).2
def kp_cps : List la_P := [((37, 2), (53, 57), (0, 50))]
theorem sh_same (hm : sx_mok cl_ly M') (h : ∀ a, a < 128 → M' a = M a) : sh_m M M' := ⟨hm, fun a ha _ _ => h a ha⟩
theorem sh_SSsame (h : ∀ a, a < 128 → M' a = M a) (hS : sh_SS M) : sh_SS M' := sh_fp M M' (fun z hz => h z (by
  simp only [List.mem_cons, List.not_mem_nil, or_false] at hz
  omega)) (fun p hp => by cases hp) hS
theorem kp_hp (hz : ∀ M M' : Nat → Nat → Int, (∀ z ∈ cz_zs, M' z = M z) → WF M → WF M') (hL : L < 2 ^ 31) (hI : la_I WF kp_cps M) (hS : sh_SS M) (hs : sx_w sx_r32 s) (hb : sx_w sx_r32 b) : ∃ z M1 M2, sx_w (-1, 1) z ∧ ((0 = 0 ∧ sx_w sx_r32 z) ∨ (0 = 1 ∧ sx_w sx_r64 z)) ∧ lb_run L xs 138 [.ref 8, .int (Int32.ofInt s), .int (Int32.ofInt b)] M (lb_val 0 z) M1 ∧ sx_mok cl_ly M1 ∧ lb_run L xs 263 [.ref 53, .int (Int32.ofInt s), .int (Int32.ofInt b)] M1 (lb_val 0 z) M2 ∧ sx_mok cl_ly M2 ∧ la_I WF kp_cps M2 ∧ sh_SS M2 := by
  obtain ⟨hB, eB⟩ := hI.2.2.2.2 _ (List.mem_singleton.mpr rfl)
  have hB : sx_w (0, 50) (M 37 2) := hB
  have eB : M 37 2 = M 53 57 := eB
  obtain ⟨z, M1, a1, a2, a3⟩ := lb_of (k := 138) (vs := [.ref 8, .int (Int32.ofInt s), .int (Int32.ofInt b)]) (show 3 ≤ 99 by decide) (kp_x (xs := xs) hL hI.1 hs hb)
  obtain ⟨y, M2, b1, b2, b3⟩ := lb_of (k := 263) (vs := [.ref 53, .int (Int32.ofInt s), .int (Int32.ofInt b)]) (show 4 ≤ 99 by decide) (kp_m (xs := xs) hL a2 hs hb)
  rcases a3 with ⟨rfl, c1, c2⟩ | ⟨rfl, c1, c2⟩
  · have e57 : M1 53 57 = M 37 2 := by rw [c2 53 (by decide), eB]
    rcases b3 with ⟨rfl, d1, d2⟩ | ⟨rfl, d1, d2⟩
    · refine ⟨-1, M1, M2, ⟨by decide, by decide⟩, Or.inl ⟨rfl, og_w32 (by decide) (by decide)⟩, a1, a2, b1, b2, sh_I (sh_G_of hz) (by decide +kernel) hI (sh_m_tr (sh_same a2 c2) (sh_same b2 d2)), sh_SSsame d2 (sh_SSsame c2 hS)⟩
    · rw [e57] at d1
      exact absurd c1 d1
  · have hs6 : 0 ≤ s ∧ s ≤ 5 ∧ -1 ≤ b ∧ b < M 37 2 ∨ 0 ≤ s ∧ s ≤ 5 ∧ b = -1 := by unfold kp_no at c1; omega
    have hk : s.toNat < 6 := by omega
    have f1 : ∀ a, a < 128 → a ≠ 41 + 2 * s.toNat → M1 a = M a := fun a ha ne => by rw [c2 a ha, sh_wne ne]
    have e57 : M1 53 57 = M 37 2 := by rw [f1 53 (by decide) (by omega), eB]
    rcases b3 with ⟨rfl, d1, d2⟩ | ⟨rfl, d1, d2⟩
    · rw [e57] at d1
      exact absurd d1 c1
    · have f2 : ∀ a, a < 128 → a ≠ 87 → M2 a = M1 a := fun a ha ne => by rw [d2 a ha, sh_une ne]
      refine ⟨1, M1, M2, ⟨by decide, by decide⟩, Or.inl ⟨rfl, og_w32 (by decide) (by decide)⟩, a1, a2, b1, b2, sh_I (sh_G_of hz) (by decide +kernel) hI ⟨b2, fun a ha x y => by rw [f2 a ha (by omega), f1 a ha (by omega)]⟩, fun j hj => ?_⟩
      by_cases e : j = s.toNat
      · subst e
        have g87 : M2 87 s.toNat = b := by rw [d2 87 (by decide), sh_uat]
        have g2 : M2 (41 + 2 * s.toNat) 2 = -1 := by rw [f2 _ (by omega) (by omega), c2 _ (by omega), sh_w2]
        have g3 : M2 (41 + 2 * s.toNat) 3 = b := by rw [f2 _ (by omega) (by omega), c2 _ (by omega), sh_w3]
        unfold sh_S
        rw [g87, g2, g3]
        have := hB.2
        by_cases eb : b = -1
        · exact Or.inl ⟨eb, rfl, eb⟩
        · exact Or.inr (Or.inl ⟨by omega, by omega, rfl, rfl⟩)
      · exact sh_uS hj e (Or.inl rfl) a2 (sh_wS hk hj e hI.1 (hS j hj) c2) d2
end
