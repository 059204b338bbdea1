/-! The reference's ask: the cards' number is at the end what it was. -/
section
variable {WF II : (Nat → Nat → Int) → Prop} {L : Nat} {xs : Nat → Int32}
end
section
variable {WF : (Nat → Nat → Int) → Prop} {L : Nat} {xs : Nat → Int32} {M M' : Nat → Nat → Int}
theorem fp_JJ : lb_fp [33, 62, 63, 64, 65] [(32, 1), (32, 2), (53, 14), (53, 15)] JJ := by
  intro M M' h1 h2 hJ
  have e : ∀ z ∈ [33, 62, 63, 64, 65], M' z = M z := h1
  obtain ⟨j1, j2, j3, j4⟩ := JJ_iff.mp hJ
  refine JJ_iff.mpr ⟨by rw [h1 33 (by decide)]; exact j1, mJ_on j2 (fun a x y => h1 a ?_), ?_, ?_⟩
  · have : a = 62 ∨ a = 63 ∨ a = 64 ∨ a = 65 := by omega
    rcases this with rfl | rfl | rfl | rfl <;> decide
  · rw [h2 (32, 1) (by decide), h2 (32, 2) (by decide)]
    exact j3
  · rw [h2 (53, 14) (by decide), h2 (53, 15) (by decide)]
    exact j4
theorem fp_WF (hz : ∀ M M' : Nat → Nat → Int, (∀ z ∈ cz_zs, M' z = M z) → WF M → WF M') : lb_fp cz_zs [] WF := fun M M' h1 _ h => hz M M' h1 h
end
