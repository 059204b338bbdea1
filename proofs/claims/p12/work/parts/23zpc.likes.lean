/-! likes: the pair. -/
section
variable {L : Nat} {xs : Nat → Int32} {M M' M0 M1 M2 X Y : Nat → Nat → Int} {nc H t k d e h : Nat} {z a b : Int} {T : Int × (Nat → Int)} {Q R : Option Value → (Nat → Nat → Int) → Prop}
theorem fs_same {M : Nat → Nat → Int} (hw : WF M) (hR : vu_R M) (h : ∀ a, a < 128 → ¬ (19 ≤ a ∧ a ≤ 31) → M' a = M a) : WF M' ∧ vu_R M' := by
  refine ⟨WF_zs M M' (fun k hk => h k ?_ ?_) hw, vu_M (h 16 (by decide) (by decide)) (by rw [h 14 (by decide) (by decide)]) (by rw [h 53 (by decide) (by decide)]) (h 67 (by decide) (by decide)) (h 68 (by decide) (by decide)) (h 69 (by decide) (by decide)) (h 70 (by decide) (by decide)) (h 71 (by decide) (by decide)) hR⟩
  · simp only [cz_zs, List.mem_cons, List.not_mem_nil, or_false] at hk
    omega
  · simp only [cz_zs, List.mem_cons, List.not_mem_nil, or_false] at hk
    omega
end
