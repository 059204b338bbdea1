/-! Bodies and acts: the rows of kinds and of the trace. -/
section
variable {L : Nat} {xs : Nat → Int32} {i : Nat} {M M' : Nat → Nat → Int} {WF : (Nat → Nat → Int) → Prop}
theorem bd_38 (hm : sx_mok cl_ly M) {k : Nat} (hk : k < 50) : 0 ≤ M 38 k ∧ M 38 k ≤ 7 := hm 38 _ k _ rfl hk rfl
theorem bd_39 (hm : sx_mok cl_ly M) {k : Nat} (hk : k < 24) : -2147483648 ≤ M 39 k ∧ M 39 k ≤ 2147483647 := hm 39 _ k _ rfl hk rfl
/-- the row of kinds is read at a number of the script -/
theorem bd_cq {acs : List (Nat × Nat × Nat)} {k : Nat} (ha : (38, 85, 50) ∈ acs) (hm : sx_mok cl_ly M) (hS : ac_SS acs M) (hk : k < 9) (hw : sx_w (0, 49) (la_rho xs L i k)) : jt_cq (la_rho xs L i) M (38, (k, 0), 85, (k, 0), (0, 7)) := by
  obtain ⟨h1, h2⟩ := hw
  have h1 : 0 ≤ la_rho xs L i k := h1
  have h2 : la_rho xs L i k ≤ 49 := h2
  have e : sx_val (la_rho xs L i) (k, 0) = la_rho xs L i k := og_v0 rfl
  have w := bd_38 hm (k := (la_rho xs L i k).toNat) (by omega)
  have w64 : sx_w sx_r64 (M 38 (la_rho xs L i k).toNat) := sx_32_64 (og_w32 (by omega) (by omega))
  refine ⟨show 38 < 128 by decide, show 85 < 128 by decide, hk, hk, ?_, ?_, ?_, ?_, ?_⟩
  all_goals rw [e]
  · exact h1
  · exact h1
  · exact w
  · exact w64
  · exact hS _ ha _ (by show _ < 50; omega)
theorem bd_tq {acs : List (Nat × Nat × Nat)} {k : Nat} (ha : (39, 86, 24) ∈ acs) (hm : sx_mok cl_ly M) (hS : ac_SS acs M) (hk : k < 9) (hw : sx_w (0, 23) (la_rho xs L i k)) : jt_cq (la_rho xs L i) M (39, (k, 0), 86, (k, 0), sx_r32) := by
  obtain ⟨h1, h2⟩ := hw
  have h1 : 0 ≤ la_rho xs L i k := h1
  have h2 : la_rho xs L i k ≤ 23 := h2
  have e : sx_val (la_rho xs L i) (k, 0) = la_rho xs L i k := og_v0 rfl
  have w := bd_39 hm (k := (la_rho xs L i k).toNat) (by omega)
  have w32 : sx_w sx_r32 (M 39 (la_rho xs L i k).toNat) := og_w32 w.1 w.2
  refine ⟨show 39 < 128 by decide, show 86 < 128 by decide, hk, hk, ?_, ?_, ?_, ?_, ?_⟩
  all_goals rw [e]
  · exact h1
  · exact h1
  · exact w32
  · exact sx_32_64 w32
  · exact hS _ ha _ (by show _ < 24; omega)
def bd_a1 : List (Nat × Nat × Nat) := [(38, 85, 50)]
def bd_a2 : List (Nat × Nat × Nat) := [(38, 85, 50), (39, 86, 24)]
theorem bd_S0 : ac_SS bd_a2 cl_M0 := by
  have h : (bd_a2.all fun q => (List.range q.2.2).all fun j => sx_eq (cl_M0 q.1 j) (cl_M0 q.2.1 j)) = true := by decide +kernel
  exact fun q hq j hj => sx_eq_iff.mp (List.all_eq_true.mp (List.all_eq_true.mp h q hq) j (List.mem_range.mpr hj))
end
