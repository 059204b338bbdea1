/-! Pairs of calls taken by hand: out of contracts; row; law. -/
section
variable {WF : (Nat → Nat → Int) → Prop} {L : Nat} {xs : Nat → Int32} {M M' : Nat → Nat → Int} {cps : List la_P}
theorem lp_cc {k : Nat} {c : ct_C} {q : Int × Int} {as : List Value} (h : cc WF L xs k c) (hr : c.2.2.2.2.1 = some (0, q)) (hd : c.2.2.2.2.2.1 ≤ 99) (hv : ct_vs c.1 as) (hg : ct_g c.2.1 M) (hm : sx_mok cl_ly M) (hW : WF M) : ∃ z M', sx_w q z ∧ sx_w sx_r32 z ∧ lb_run L xs k as M (lb_val 0 z) M' ∧ sx_mok cl_ly M' ∧ ct_fr c M M' ∧ ct_g c.2.2.1 M' := by
  obtain ⟨F, r, M', f1, f2, f3, f4, f5⟩ := h 99 as M hd hv hg hm (fun _ => hW)
  rw [hr] at f5
  cases r with
  | none => cases f5
  | some v =>
    rcases f5 with ⟨-, z, e1, e2, e3⟩ | ⟨k0, -⟩ | ⟨k0, -⟩
    · subst e1
      exact ⟨z, M', e2, e3, ⟨F, f1⟩, f2, f3, f4⟩
    · cases k0
    · cases k0
/-- what holds at the loop's head stays over a contract that doesn't touch it -/
def lp_d (cps : List la_P) (c : ct_C) : Bool := sx_an (la_dis cps (0, 0, c)) (sx_an (lb_cu [33, 62, 63, 64, 65] [(32, 1), (32, 2), (53, 14), (53, 15)] c) (lb_cu cz_zs [] c))
theorem lp_I {c : ct_C} (hz : ∀ M M' : Nat → Nat → Int, (∀ z ∈ cz_zs, M' z = M z) → WF M → WF M') (hc : lp_d cps c = true) (hI : la_I WF cps M) (hm : sx_mok cl_ly M') (hf : ct_fr c M M') (hg : ct_g c.2.2.1 M') : la_I WF cps M' := by
  obtain ⟨c1, c2⟩ := sx_an_iff.mp hc
  obtain ⟨c2, c3⟩ := sx_an_iff.mp c2
  exact la_I_sp (q := (0, 0, c)) hI c1 hm hf hg (lb_cu_ok fp_JJ c2 hf hI.2.1) (lb_cu_ok (fp_WF hz) c3 hf hI.2.2.1)
theorem lp_v {z : Int} {q : Int × Int} (hw : sx_w q z) (h32 : sx_w sx_r32 z) : ct_v (0, q) (.int (Int32.ofInt z)) := Or.inl ⟨rfl, z, rfl, hw, h32⟩
theorem lp_rf {c : Int} {k : Nat} (e : c.toNat = k) : ct_v (2, c, c) (.ref k) := Or.inr (Or.inr ⟨rfl, by rw [← e]⟩)
theorem lp_32 {z z' : Int} (h1 : sx_w sx_r32 z) (h2 : sx_w sx_r32 z') : (0 = 0 ∧ sx_w sx_r32 z ∧ sx_w sx_r32 z') ∨ (0 = 1 ∧ sx_w sx_r64 z ∧ sx_w sx_r64 z') := Or.inl ⟨rfl, h1, h2⟩
theorem lp_same {kd : Nat} {z : Int} (h : (kd = 0 ∧ sx_w sx_r32 z) ∨ (kd = 1 ∧ sx_w sx_r64 z)) : (kd = 0 ∧ sx_w sx_r32 z ∧ sx_w sx_r32 z) ∨ (kd = 1 ∧ sx_w sx_r64 z ∧ sx_w sx_r64 z) := by
  rcases h with ⟨a, b⟩ | ⟨a, b⟩
  · exact Or.inl ⟨a, b, b⟩
  · exact Or.inr ⟨a, b, b⟩
-- row
def lw_cps : List la_P := [((14, 6), (53, 21), (0, 120))]
end
