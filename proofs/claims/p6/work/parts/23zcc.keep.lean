/-! Shelves: keep, both sides. -/
section
variable {WF : (Nat → Nat → Int) → Prop} {L : Nat} {xs : Nat → Int32} {M M' M0 M1 M2 : Nat → Nat → Int} {s b : Int} {cps : List la_P}
theorem lb_of {k d : Nat} {vs : List Value} {R : Int → (Nat → Nat → Int) → Prop} (hd : d ≤ 99) (h : rz_fin (sh_Q R) L xs k d 0 (lv_args 0 vs) [] M) : ∃ z M', lb_run L xs k vs M (lb_val 0 z) M' ∧ sx_mok cl_ly M' ∧ R z M' := by
  obtain ⟨F, r, M', e, z, rfl, h1, h2⟩ := rz_d hd h
  exact ⟨z, M', ⟨F, e⟩, h1, h2⟩
theorem sh_88 (hm : sx_mok cl_ly M) {k : Nat} (hk : k < 6) : 0 ≤ M 88 k ∧ M 88 k ≤ 60 := hm 88 _ k _ rfl hk rfl
theorem sh_87 (hm : sx_mok cl_ly M) {k : Nat} (hk : k < 6) : -6 ≤ M 87 k ∧ M 87 k ≤ 49 := hm 87 _ k _ rfl hk rfl
/-- what X lays in a shelf changes no other -/
theorem sh_wS {k j : Nat} {l q h : Int} (hk : k < 6) (hj : j < 6) (e : j ≠ k) (hm : sx_mok cl_ly M) (hS : sh_S M j) (hM : ∀ a, a < 128 → M' a = sh_w M (41 + 2 * k) l q h a) : sh_S M' j := by
  have f : ∀ a, a < 128 → a ≠ 41 + 2 * k → M' a = M a := fun a ha ne => by rw [hM a ha, sh_wne ne]
  exact sh_S_on hS (by rw [f 87 (by decide) (by omega)]) (by rw [f 88 (by decide) (by omega)]) (fun i _ => by rw [f 89 (by decide) (by omega)]) (f _ (by omega) (by omega)) (f _ (by omega) (by omega)) (sh_88 hm hj).2
/-- what the reference writes of one shelf changes no other -/
theorem sh_uS {k j c : Nat} {v : Int} (hj : j < 6) (e : j ≠ k) (hc : c = 87 ∨ c = 88) (hm : sx_mok cl_ly M) (hS : sh_S M j) (hM : ∀ a, a < 128 → M' a = sx_up M c k v a) : sh_S M' j := by
  have f : ∀ a, a < 128 → a ≠ c → M' a = M a := fun a ha ne => by rw [hM a ha, sh_une ne]
  have g : ∀ a, a < 128 → M' a j = M a j := fun a ha => by
    rw [hM a ha]
    by_cases ea : a = c
    · rw [ea, sh_unj e]
    · rw [sh_une ea]
  exact sh_S_on hS (g 87 (by decide)) (g 88 (by decide)) (fun i _ => by rw [f 89 (by decide) (by omega)]) (f _ (by omega) (by omega)) (f _ (by omega) (by omega)) (sh_88 hm hj).2
theorem sh_same (hm : sx_mok cl_ly M') (h : ∀ a, a < 128 → M' a = M a) : sh_m M M' := ⟨hm, fun a ha _ _ => h a ha⟩
theorem sh_SSsame (h : ∀ a, a < 128 → M' a = M a) (hS : sh_SS M) : sh_SS M' := sh_fp M M' (fun z hz => h z (by
  simp only [List.mem_cons, List.not_mem_nil, or_false] at hz
  omega)) (fun p hp => by cases hp) hS
end
