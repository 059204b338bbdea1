/-! Contracts of the class and of the reference, found by ranges. -/
section
variable {II : (Nat → Nat → Int) → Prop} {L : Nat} {xs : Nat → Int32}
/-- cells that the invariant speaks of -/
def cz_zs : List Nat := [67, 68, 69, 70, 71]
def cc (II : (Nat → Nat → Int) → Prop) (L : Nat) (xs : Nat → Int32) (k : Nat) (c : ct_C) : Prop := ct_ok sm_MT sm_LK (sm_RO L xs) sm_NV sm_cq cl_ly cl_lay cl_rf II k c
def k_takeTape : ct_C := ([(2, .ofNat 14, .ofNat 14)], [], [(14, 6, .ofNat 0, .ofNat 0), (14, 7, .ofNat 0, .ofNat 256), (14, 8, .negSucc 2147483647, .ofNat 2147483647), (14, 9, .negSucc 2147483647, .ofNat 2147483647), (14, 10, .negSucc 2147483647, .ofNat 2147483647), (14, 11, .negSucc 2147483647, .ofNat 2147483647), (14, 12, .negSucc 2147483647, .ofNat 2147483647), (14, 13, .negSucc 2147483647, .ofNat 2147483647), (14, 14, .negSucc 2147483647, .ofNat 2147483647), (14, 15, .ofNat 0, .ofNat 1)], [16, 17, 18], (some (0, .negSucc 0, .ofNat 120)), 12, false)
def k_mgives : ct_C := ([(2, .ofNat 53, .ofNat 53), (0, .ofNat 0, .ofNat 0)], [], [], [73], (some (0, .negSucc 2147483647, .ofNat 2147483647)), 5, true)
/-- what is taken as given here: the invariant speaks of its cells alone; the contracts that are proved by hand -/
def cc_env (II : (Nat → Nat → Int) → Prop) (L : Nat) (xs : Nat → Int32) : Prop := L < 2 ^ 31 ∧ (∀ M M' : Nat → Nat → Int, (∀ z ∈ cz_zs, M' z = M z) → II M → II M') ∧ cc II L xs 33 k_takeTape ∧ cc II L xs 196 k_mgives
theorem cc_ok (he : cc_env II L xs) {cts : List (Nat × ct_C)} {fc f j : Nat} {c : ct_C} {cuts : List mt_K} (hall : ∀ c ∈ cts, cc II L xs c.1 c.2) (h : mt_chk cl_ly cl_rc sm_MT sm_LK cz_zs cts fc f j c cuts = true) : cc II L xs j c := mt_ok cl_lok cl_hrf (cl_hro L xs) he.1 he.2.1 hall h
theorem cc_nil : ∀ c ∈ ([] : List (Nat × ct_C)), cc II L xs c.1 c.2 := fun c h => by cases h
theorem cc_cons {k : Nat} {c : ct_C} {l : List (Nat × ct_C)} (h : cc II L xs k c) (t : ∀ q ∈ l, cc II L xs q.1 q.2) : ∀ q ∈ (k, c) :: l, cc II L xs q.1 q.2 := fun d hd => by
  rcases List.mem_cons.mp hd with rfl | hd
  · exact h
  · exact t d hd
theorem cc_mnil {j : Nat} : ∀ m ∈ ([] : List ((Int × Int) × ct_C)), cc II L xs j m.2 := fun c h => by cases h
theorem cc_mcons {j : Nat} {r : Int × Int} {c : ct_C} {l : List ((Int × Int) × ct_C)} (h : cc II L xs j c) (t : ∀ m ∈ l, cc II L xs j m.2) : ∀ m ∈ (r, c) :: l, cc II L xs j m.2 := fun d hd => by
  rcases List.mem_cons.mp hd with rfl | hd
  · exact h
  · exact t d hd
end
