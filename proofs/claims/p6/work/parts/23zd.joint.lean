/-! Joint walks: from a pair's first call, through both, to the law's loop head, out of a state that knows what both sides hold alike. -/
section
variable {L : Nat} {xs : Nat → Int32} {i : Nat} {M M' M0 : Nat → Nat → Int} {ρ ρ' : Nat → Int} {t t0 : sx_S} {WF : (Nat → Nat → Int) → Prop}
/-- what a cell holds is told -/
noncomputable def jt_ad (k : Nat) (a v : sx_A) (t : sx_S) : sx_S := (t.1, t.2.1, t.2.2.1, sx_ts 7 t.2.2.2 k ((sx_tg 7 t.2.2.2 k).1, (a, v) :: (sx_tg 7 t.2.2.2 k).2))
theorem jt_ad_ok {ly : Nat → Option sx_H} {ib : sx_A} {k : Nat} {a v : sx_A} (hs : sx_sat ly ib xs L M0 ρ M t) (hk : k < 128) (ha : a.1 < t.1) (h0 : 0 ≤ sx_val ρ a) (hv : v.1 < t.1) (h : M k (sx_val ρ a).toNat = sx_val ρ v) : sx_sat ly ib xs L M0 ρ M (jt_ad k a v t) := by
  refine ⟨hs.1, hs.2.1, hs.2.2.1, hs.2.2.2.1, hs.2.2.2.2.1, hs.2.2.2.2.2.1, fun k' hk' => ?_, hs.2.2.2.2.2.2.2⟩
  show sx_leaf ρ t.1 (M0 k') (M k') (sx_tg 7 (sx_ts 7 t.2.2.2 k _) k')
  rw [sx_tg_ts 7 _ _ _ _ hk hk']
  split
  · rename_i e
    subst e
    obtain ⟨l1, g0, l2, l3, l4⟩ := hs.2.2.2.2.2.2.1 k' hk'
    refine ⟨fun e he => ?_, g0, l2, ?_, l4⟩
    · rcases List.mem_cons.mp he with rfl | he
      · exact ⟨ha, hv, h0⟩
      · exact l1 e he
    · funext j
      show M k' j = sx_fup (sx_app ρ (sx_tg 7 t.2.2.2 k').2 g0) (sx_val ρ a).toNat (sx_val ρ v) j
      unfold sx_fup
      by_cases hj : j = (sx_val ρ a).toNat
      · rw [if_pos hj, hj, ← h]
      · rw [if_neg hj, ← l3]
  · exact hs.2.2.2.2.2.2.1 k' hk'
end
