/-! accepts, visits: the pairs. -/
section
variable {L : Nat} {xs : Nat → Int32} {M M' N N' M0 M1 M2 X Y : Nat → Nat → Int} {c d w s : Int} {nc H t e h : Nat}
/-- where begin leaves the class, after more that changes nothing -/
theorem pb_tr (f : ∀ a, a < 128 → N a = M a) (h : pb_Q N none X) : pb_Q M none X := by
  obtain ⟨-, x0, x1, x2, x3, x4, x5⟩ := h
  exact ⟨rfl, x0, fun a ha p q => (x1 a ha p q).trans (f a ha), fun j p q => by rw [x2 j p q, f 21 (by decide)], by rw [x3, f 9 (by decide)], by rw [x4, f 9 (by decide)], fun h hh => by rw [x5 h hh, f 12 (by decide)]⟩
theorem pb_tl (h : pb_Q M none X) (hm : sx_mok cl_ly N) (f : ∀ a, a < 128 → N a = X a) : pb_Q M none N := by
  obtain ⟨-, x0, x1, x2, x3, x4, x5⟩ := h
  exact ⟨rfl, hm, fun a ha p q => (f a ha).trans (x1 a ha p q), fun j p q => by rw [f 21 (by decide)]; exact x2 j p q, by rw [f 21 (by decide)]; exact x3, by rw [f 21 (by decide)]; exact x4, fun h hh => by rw [f 23 (by decide)]; exact x5 h hh⟩
theorem my_tr (f : ∀ a, a < 128 → N a = M a) (h : my_Q N H none Y) : my_Q M H none Y := by
  obtain ⟨-, y0, y1, y2, y3, y4, y5⟩ := h
  exact ⟨rfl, y0, fun a ha p q => (y1 a ha p q).trans (f a ha), fun j p q => by rw [y2 j p q, f 53 (by decide)], by rw [y3, f 53 (by decide)], by rw [y4, f 53 (by decide)], fun h => by rw [y5 h, f 74 (by decide), f 75 (by decide)]⟩
theorem vs_Fr (h : vs_F X N) (f : ∀ a, a < 128 → N' a = N a) : vs_F X N' := ⟨fun a ha hn => (f a ha).trans (h.1 a ha hn), fun j hj => by rw [f 21 (by decide)]; exact h.2 j hj⟩
theorem ms_Fr (h : ms_F Y N) (f : ∀ a, a < 128 → N' a = N a) : ms_F Y N' := ⟨fun a ha x1 x2 x3 x4 => (f a ha).trans (h.1 a ha x1 x2 x3 x4), fun j hj => by rw [f 53 (by decide)]; exact h.2 j hj⟩
theorem wr_same (hw : WF M) (hR : vu_R M) (f : ∀ a, a < 128 → N a = M a) : WF N ∧ vu_R N := fs_same hw hR (fun a ha _ => f a ha)
end
