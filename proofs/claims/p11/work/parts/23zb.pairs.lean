/-! Pairs of calls taken by hand: out of contracts; row; law. -/
section
variable {WF : (Nat → Nat → Int) → Prop} {L : Nat} {xs : Nat → Int32} {M M' : Nat → Nat → Int} {cps : List la_P}
theorem lp_cc {k : Nat} {c : ct_C} {q : Int × Int} {as : List Value} (h : cc WF L xs k c) (hr : c.2.2.2.2.1 = some (0, q)) (hd : c.2.2.2.2.2.1 ≤ 99) (hv : ct_vs c.1 as) (hg : ct_g c.2.1 M) (hm : sx_mok cl_ly M) (hW : WF M) : ∃ z M', sx_w q z ∧ sx_w sx_r32 z ∧ lb_run L xs k as M (lb_val 0 z) M' ∧ sx_mok cl_ly M' ∧ ct_fr c M M' ∧ ct_g c.2.2.1 M' := by
  obtain ⟨F, r, M', f1, f2, f3, f4, f5⟩ := h 99 as M hd hv hg hm (fun _ => hW)
  rw [hr] at f5
  cases r with
  | none => cases f5
  | some v =>
    rcases f5 with ⟨-, z, e1, e2, e3⟩ | ⟨k0, -⟩ | ⟨k0, -⟩
    · subst e1
      exact ⟨z, M', e2, e3, ⟨F, f1⟩, f2, f3, f4⟩
    · cases k0
    · cases k0
theorem lp_sp {k : Nat} {c : ct_C} {q : Int × Int} {as : List Value} (h : la_sp WF L xs k c) (hr : c.2.2.2.2.1 = some (0, q)) (hd : c.2.2.2.2.2.1 ≤ 99) (hv : ct_vs c.1 as) (hg : ct_g c.2.1 M) (hm : sx_mok cl_ly M) (hJ : JJ M) (hW : WF M) : ∃ z M', sx_w q z ∧ sx_w sx_r32 z ∧ lb_run L xs k as M (lb_val 0 z) M' ∧ sx_mok cl_ly M' ∧ ct_fr c M M' ∧ ct_g c.2.2.1 M' ∧ JJ M' ∧ WF M' := by
  obtain ⟨F, r, M', f1, f2, f3, f4, f5, f6, f7⟩ := h 99 as M hd hv hg hm hJ hW
  rw [hr] at f5
  cases r with
  | none => cases f5
  | some v =>
    rcases f5 with ⟨-, z, e1, e2, e3⟩ | ⟨k0, -⟩ | ⟨k0, -⟩
    · subst e1
      exact ⟨z, M', e2, e3, ⟨F, f1⟩, f2, f3, f4, f6, f7⟩
    · cases k0
    · cases k0
/-- what holds at the loop's head stays over a contract that doesn't touch it -/
def lp_d (cps : List la_P) (c : ct_C) : Bool := sx_an (la_dis cps (0, 0, c)) (sx_an (lb_cu [33, 62, 63, 64, 65] [(32, 1), (32, 2), (53, 14), (53, 15)] c) (lb_cu cz_zs [] c))
theorem lp_I {c : ct_C} (hz : ∀ M M' : Nat → Nat → Int, (∀ z ∈ cz_zs, M' z = M z) → WF M → WF M') (hc : lp_d cps c = true) (hI : la_I WF cps M) (hm : sx_mok cl_ly M') (hf : ct_fr c M M') (hg : ct_g c.2.2.1 M') : la_I WF cps M' := by
  obtain ⟨c1, c2⟩ := sx_an_iff.mp hc
  obtain ⟨c2, c3⟩ := sx_an_iff.mp c2
  exact la_I_sp (q := (0, 0, c)) hI c1 hm hf hg (lb_cu_ok fp_JJ c2 hf hI.2.1) (lb_cu_ok (fp_WF hz) c3 hf hI.2.2.1)
theorem lp_v {z : Int} {q : Int × Int} (hw : sx_w q z) (h32 : sx_w sx_r32 z) : ct_v (0, q) (.int (Int32.ofInt z)) := Or.inl ⟨rfl, z, rfl, hw, h32⟩
theorem lp_rf {c : Int} {k : Nat} (e : c.toNat = k) : ct_v (2, c, c) (.ref k) := Or.inr (Or.inr ⟨rfl, by rw [← e]⟩)
theorem lp_32 {z z' : Int} (h1 : sx_w sx_r32 z) (h2 : sx_w sx_r32 z') : (0 = 0 ∧ sx_w sx_r32 z ∧ sx_w sx_r32 z') ∨ (0 = 1 ∧ sx_w sx_r64 z ∧ sx_w sx_r64 z') := Or.inl ⟨rfl, h1, h2⟩
theorem lp_same {kd : Nat} {z : Int} (h : (kd = 0 ∧ sx_w sx_r32 z) ∨ (kd = 1 ∧ sx_w sx_r64 z)) : (kd = 0 ∧ sx_w sx_r32 z ∧ sx_w sx_r32 z) ∨ (kd = 1 ∧ sx_w sx_r64 z ∧ sx_w sx_r64 z) := by
  rcases h with ⟨a, b⟩ | ⟨a, b⟩
  · exact Or.inl ⟨a, b, b⟩
  · exact Or.inr ⟨a, b, b⟩
-- row
abbrev rw_q : Type := ((Int × Int) × (Int × Int) × (Int × Int)) × Int
def rw_R : List rw_q := [(((-2147483648, -1), sx_r32, sx_r32), -1), (((6, 2147483647), sx_r32, sx_r32), -1), (((0, 5), (-2147483648, -1), sx_r32), -1), (((0, 5), (5, 2147483647), sx_r32), -1), (((0, 5), (0, 4), (61, 2147483647)), -1), (((0, 5), (0, 4), (-2147483648, -1)), -14)]
def rw_7 : rw_q := (((0, 5), (0, 4), (0, 60)), 1)
def rw_c (k : ct_C) (a : Int) (q : rw_q) : ct_C := ([(2, a, a), (0, q.1.1), (0, q.1.2.1), (0, q.1.2.2)], [], k.2.2.1, k.2.2.2.1, (some (0, q.2, q.2)), k.2.2.2.2.2.1, false)
def rw_h : List (Nat × ct_C) := [(141, k_holdRow0), (141, k_holdRow1), (141, k_holdRow2), (141, k_holdRow3), (141, k_holdRow4), (141, k_holdRow5)]
theorem rw_x : ((rw_R ++ [rw_7]).all fun q => mt_chk cl_ly cl_rc sm_MT sm_LK cz_zs rw_h 3000 3000 140 (rw_c k_row 8 q) []) = true := by decide +kernel
theorem rw_m : (rw_R.all fun q => mt_chk cl_ly cl_rc sm_MT sm_LK cz_zs [] 3000 3000 264 (rw_c k_mrow 53 q) []) = true := by decide +kernel
theorem rw_m7 : mt_chk cl_ly cl_rc sm_MT sm_LK cz_zs [] 3000 3000 264 (rw_c k_mrow 53 rw_7) [(54, [(0, (2, .ofNat 53, .ofNat 53)), (1, (0, .ofNat 0, .ofNat 5)), (2, (0, .ofNat 0, .ofNat 4)), (3, (0, .ofNat 0, .ofNat 60)), (4, (0, .ofNat 0, .ofNat 360))], [], [], [(.negSucc 0, 4)], .ofNat 360, none)] = true := by decide +kernel
theorem rw_some {a b c : Int} (ha : sx_w sx_r32 a) (hb : sx_w sx_r32 b) (hc : sx_w sx_r32 c) : ∃ q ∈ rw_R ++ [rw_7], sx_w q.1.1 a ∧ sx_w q.1.2.1 b ∧ sx_w q.1.2.2 c := by
  have a1 := sx_r32_iff.mp ha
  have b1 := sx_r32_iff.mp hb
  have c1 := sx_r32_iff.mp hc
  by_cases h1 : a < 0
  · exact ⟨_, List.mem_append_left _ (List.mem_cons_self), ⟨a1.1, by show a ≤ -1; omega⟩, hb, hc⟩
  by_cases h2 : 5 < a
  · exact ⟨(((6, 2147483647), sx_r32, sx_r32), -1), by simp [rw_R], ⟨by show (6 : Int) ≤ a; omega, by show a ≤ 2147483647; omega⟩, hb, hc⟩
  have a5 : sx_w (0, 5) a := ⟨by show (0 : Int) ≤ a; omega, by show a ≤ 5; omega⟩
  by_cases h3 : b < 0
  · exact ⟨(((0, 5), (-2147483648, -1), sx_r32), -1), by simp [rw_R], a5, ⟨b1.1, by show b ≤ -1; omega⟩, hc⟩
  by_cases h4 : 4 < b
  · exact ⟨(((0, 5), (5, 2147483647), sx_r32), -1), by simp [rw_R], a5, ⟨by show (5 : Int) ≤ b; omega, by show b ≤ 2147483647; omega⟩, hc⟩
  have b4 : sx_w (0, 4) b := ⟨by show (0 : Int) ≤ b; omega, by show b ≤ 4; omega⟩
  by_cases h5 : 60 < c
  · exact ⟨(((0, 5), (0, 4), (61, 2147483647)), -1), by simp [rw_R], a5, b4, ⟨by show (61 : Int) ≤ c; omega, by show c ≤ 2147483647; omega⟩⟩
  by_cases h6 : c < 0
  · exact ⟨(((0, 5), (0, 4), (-2147483648, -1)), -14), by simp [rw_R], a5, b4, ⟨c1.1, by show c ≤ -1; omega⟩⟩
  exact ⟨rw_7, by simp, a5, b4, ⟨by show (0 : Int) ≤ c; omega, by show c ≤ 60; omega⟩⟩
theorem rw_hall (he : cc_env WF L xs) : ∀ c ∈ rw_h, cc WF L xs c.1 c.2 := cc_cons (c_holdRow0 he) (cc_cons (c_holdRow1 he) (cc_cons (c_holdRow2 he) (cc_cons (c_holdRow3 he) (cc_cons (c_holdRow4 he) (cc_cons (c_holdRow5 he) cc_nil)))))
theorem rw_cx (he : cc_env WF L xs) {q : rw_q} (hq : q ∈ rw_R ++ [rw_7]) : cc WF L xs 140 (rw_c k_row 8 q) := cc_ok he (rw_hall he) (List.all_eq_true.mp rw_x q hq)
theorem rw_cm (he : cc_env WF L xs) {q : rw_q} (hq : q ∈ rw_R ++ [rw_7]) : cc WF L xs 264 (rw_c k_mrow 53 q) := by
  rcases List.mem_append.mp hq with hq | hq
  · exact cc_ok he cc_nil (List.all_eq_true.mp rw_m q hq)
  · rw [List.mem_singleton.mp hq]
    exact cc_ok he cc_nil rw_m7
theorem rw_v {k : ct_C} {p : Int} {a b c : Int} {q : rw_q} {r : Nat} (e : p.toNat = r) (ha : sx_w sx_r32 a) (hb : sx_w sx_r32 b) (hc : sx_w sx_r32 c) (h : sx_w q.1.1 a ∧ sx_w q.1.2.1 b ∧ sx_w q.1.2.2 c) : ct_vs (rw_c k p q).1 [.ref r, .int (Int32.ofInt a), .int (Int32.ofInt b), .int (Int32.ofInt c)] := ⟨lp_rf e, lp_v h.1 ha, lp_v h.2.1 hb, lp_v h.2.2 hc, trivial⟩
theorem rw_z {q : rw_q} (hq : q ∈ rw_R ++ [rw_7]) : sx_w (-14, 1) q.2 := by
  have : ((rw_R ++ [rw_7]).all fun q => sx_in (q.2, q.2) (-14, 1)) = true := by decide +kernel
  exact sx_in_iff.mp (List.all_eq_true.mp this q hq)
theorem rw_dx {q : rw_q} (h : lp_d cps k_row = true) : lp_d cps (rw_c k_row 8 q) = true := h
theorem rw_dm {q : rw_q} (h : lp_d cps k_mrow = true) : lp_d cps (rw_c k_mrow 53 q) = true := h
theorem rw_hp (he : cc_env WF L xs) (h1 : lp_d cps k_row = true) (h2 : lp_d cps k_mrow = true) (hI : la_I WF cps M) {a b c : Int} (ha : sx_w sx_r32 a) (hb : sx_w sx_r32 b) (hc : sx_w sx_r32 c) : ∃ z M1 M2, sx_w (-14, 1) z ∧ ((0 = 0 ∧ sx_w sx_r32 z) ∨ (0 = 1 ∧ sx_w sx_r64 z)) ∧ lb_run L xs 140 [.ref 8, .int (Int32.ofInt a), .int (Int32.ofInt b), .int (Int32.ofInt c)] M (lb_val 0 z) M1 ∧ sx_mok cl_ly M1 ∧ lb_run L xs 264 [.ref 53, .int (Int32.ofInt a), .int (Int32.ofInt b), .int (Int32.ofInt c)] M1 (lb_val 0 z) M2 ∧ sx_mok cl_ly M2 ∧ la_I WF cps M2 := by
  obtain ⟨q, hq, hr⟩ := rw_some ha hb hc
  obtain ⟨z, M1, z1, z2, z3, z4, z5, z6⟩ := lp_cc (M := M) (rw_cx he hq) rfl (show (2 : Nat) ≤ 99 by decide) (rw_v (show (8 : Int).toNat = 8 from rfl) ha hb hc hr) (fun g hg => by cases hg) hI.1 hI.2.2.1
  have hI1 := lp_I he.2.1 (rw_dx (q := q) h1) hI z4 z5 z6
  obtain ⟨y, M2, y1, y2, y3, y4, y5, y6⟩ := lp_cc (M := M1) (rw_cm he hq) rfl (show (3 : Nat) ≤ 99 by decide) (rw_v (show (53 : Int).toNat = 53 from rfl) ha hb hc hr) (fun g hg => by cases hg) hI1.1 hI1.2.2.1
  have hI2 := lp_I he.2.1 (rw_dm (q := q) h2) hI1 y4 y5 y6
  have e : y = z := Int.le_antisymm (Int.le_trans y1.2 z1.1) (Int.le_trans z1.2 y1.1)
  subst e
  have hw := rw_z hq
  exact ⟨y, M1, M2, ⟨Int.le_trans hw.1 y1.1, Int.le_trans y1.2 hw.2⟩, Or.inl ⟨rfl, y2⟩, z3, z4, y3, y4, hI2⟩
-- law, where the numbers of the letters that were fed are alike
def lw_cps : List la_P := [((14, 6), (53, 21), (0, 120))]
theorem lw_hp (he : cc_env WF L xs) (h1 : la_dis cps (0, 0, k_law) = true) (h2 : la_dis cps (0, 0, k_mlawS) = true) (hl : la_sp WF L xs 173 k_mlawS) (hI : la_I WF (lw_cps ++ cps) M) : ∃ z z' M1 M2, ((0 = 0 ∧ sx_w sx_r32 z ∧ sx_w sx_r32 z') ∨ (0 = 1 ∧ sx_w sx_r64 z ∧ sx_w sx_r64 z')) ∧ lb_run L xs 32 [.ref 8] M (lb_val 0 z) M1 ∧ sx_mok cl_ly M1 ∧ lb_run L xs 173 [.ref 53] M1 (lb_val 0 z') M2 ∧ sx_mok cl_ly M2 ∧ la_I WF (lw_cps ++ cps) M2 := by
  have hI0 : la_I WF cps M := ⟨hI.1, hI.2.1, hI.2.2.1, hI.2.2.2.1, fun q hq => hI.2.2.2.2 q (List.mem_append_right _ hq)⟩
  obtain ⟨z, M1, z1, z2, z3, z4, z5, z6⟩ := lp_cc (M := M) (as := [.ref 8]) (c_law he) rfl (show (13 : Nat) ≤ 99 by decide) ⟨lp_rf (show (8 : Int).toNat = 8 from rfl), trivial⟩ (fun g hg => by cases hg) hI.1 hI.2.2.1
  have hI1 : la_I WF cps M1 := lp_I he.2.1 (c := k_law) (sx_an_iff.mpr ⟨h1, by decide +kernel⟩) hI0 z4 z5 z6
  obtain ⟨y, M2, y1, y2, y3, y4, y5, y6, y7, y8⟩ := lp_sp (M := M1) (as := [.ref 53]) hl rfl (show (60 : Nat) ≤ 99 by decide) ⟨lp_rf (show (53 : Int).toNat = 53 from rfl), trivial⟩ (fun g hg => by cases hg) hI1.1 hI1.2.1 hI1.2.2.1
  have hI2 : la_I WF cps M2 := la_I_sp (q := (0, 0, k_mlawS)) hI1 h2 y4 y5 y6 y7 y8
  have a1 : M1 14 6 = 0 := by
    have := z6 (14, 6, .ofNat 0, .ofNat 0) (by simp [k_law])
    exact Int.le_antisymm this.2 this.1
  have a2 : M2 14 6 = M1 14 6 := la_un_ok (c := k_mlawS) (p := (14, 6)) (by decide +kernel) y5
  have a3 : M2 53 21 = 0 := by
    have := y6 (53, 21, .ofNat 0, .ofNat 0) (by simp [k_mlawS])
    exact Int.le_antisymm this.2 this.1
  refine ⟨z, y, M1, M2, lp_32 z2 y2, z3, z4, y3, y4, hI2.1, hI2.2.1, hI2.2.2.1, hI2.2.2.2.1, fun q hq => ?_⟩
  rcases List.mem_append.mp hq with hq | hq
  · rw [List.mem_singleton.mp hq]
    show sx_w (0, 120) (M2 14 6) ∧ M2 14 6 = M2 53 21
    rw [a2, a1, a3]
    exact ⟨⟨by decide, by decide⟩, rfl⟩
  · exact hI2.2.2.2.2 q hq
end
