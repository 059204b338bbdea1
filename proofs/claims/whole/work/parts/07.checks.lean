theorem fJ_all : ∀ o ix q, sm_LK o ix = some q → sm_okL sm_cl sm_tyc sm_SF sm_Cq sm_T0 (sm_CN o) ix q ∧ sm_okK sm_MT sm_MN sm_MB sm_CN sm_cl sm_NL sm_T0 (sm_CN o) ix q := sorry
theorem sm_har : ∀ q t, sm_aty q = some t → Jvm.Cond.arrayClass (newarray.typeOf q) ∈ sm_T0 := by
  intro q t h
  cases q <;> simp [sm_aty] at h
  · exact sm_hs_T (p := sm_AP.getD 2 (99, 0)) (by decide +kernel)
  · exact sm_hs_T (p := sm_AP.getD 3 (99, 0)) (by decide +kernel)
  · exact sm_hs_T (p := sm_AP.getD 0 (99, 0)) (by decide +kernel)
  · exact sm_hs_T (p := sm_AP.getD 1 (99, 0)) (by decide +kernel)
theorem sm_hao : Jvm.Cond.arrayOver (.object sm_Cq) ∈ lw_tbl := sm_tw_mem (k := sm_AO.1) (i := sm_AO.2) (by decide +kernel)
theorem sm_hcq : ∃ r : vw_C, sm_cl[sm_cq]? = some r ∧ r.1 = sm_Cq := ⟨_, rfl, rfl⟩
