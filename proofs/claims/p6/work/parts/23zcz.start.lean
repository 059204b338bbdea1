/-! Shelves: at the start. -/
section
theorem sh_S0 : sh_SS cl_M0 := by
  have h : ((List.range 6).all fun k => sx_an (sx_eq (cl_M0 87 k) (-1)) (sx_an (sx_eq (cl_M0 (41 + 2 * k) 2) (-1)) (sx_eq (cl_M0 (41 + 2 * k) 3) (-1)))) = true := by decide +kernel
  intro k hk
  obtain ⟨h1, h2⟩ := sx_an_iff.mp (List.all_eq_true.mp h k (List.mem_range.mpr hk))
  obtain ⟨h2, h3⟩ := sx_an_iff.mp h2
  exact Or.inl ⟨sx_eq_iff.mp h1, sx_eq_iff.mp h2, sx_eq_iff.mp h3⟩
end
