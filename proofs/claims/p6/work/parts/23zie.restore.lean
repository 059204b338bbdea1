/-! The contracts of sweeten and read, without the numbers. -/
section
variable {WF : (Nat → Nat → Int) → Prop} {L : Nat} {xs : Nat → Int32} {M M' M0 N N' : Nat → Nat → Int}
def kt_ftb (w : Nat) : ct_C := rl_k (rs_ftb w) [(2, 8, 8), (0, 0, 5), (0, 0, 29), (0, (w : Int), (w : Int)), (0, (if w = 2 then 0 else 9), (if w = 2 then 0 else 9)), (0, (if w = 2 then 1 else -1), (if w = 2 then 1 else -1))]
def kt_vtf (w c : Nat) : ct_C := rl_k (rs_vtf w c) [(2, 8, 8), (2, 41 + 2 * (c : Int), 41 + 2 * (c : Int)), (0, 0, 5), (0, (w : Int), (w : Int))]
def kt_lc (u : Nat) : ct_C := rl_k (rs_lc u) [(2, 53, 53), (0, 0, 5), (0, 0, 29)]
def kt_rc (u : Nat) : ct_C := rl_k (rs_rc u) [(2, 53, 53), (0, 0, 5), (0, 0, 5), (0, 0, 1)]
theorem rt_m (hm : sx_mok cl_ly M) {z k : Nat} (hz : z = 56 ∨ z = 57) (hk : k < 6) : -1 ≤ M z k ∧ M z k ≤ 143 := by
  rcases hz with rfl | rfl
  · exact hm 56 _ k _ rfl hk rfl
  · exact hm 57 _ k _ rfl hk rfl
theorem c_ftbS (he : cc_env WF L xs) {w : Nat} (hw : w = 2 ∨ w = 3) : cc WF L xs 88 (kt_ftb w) := by
  intro d as M hd hv hg hm hW
  obtain ⟨a0, as, rfl, v0, hv⟩ := cv_cons hv
  obtain ⟨a1, as, rfl, v1, hv⟩ := cv_cons hv
  obtain ⟨a2, as, rfl, v2, hv⟩ := cv_cons hv
  obtain ⟨a3, as, rfl, v3, hv⟩ := cv_cons hv
  obtain ⟨a4, as, rfl, v4, hv⟩ := cv_cons hv
  obtain ⟨a5, as, rfl, v5, hv⟩ := cv_cons hv
  obtain rfl := cv_nil hv
  obtain rfl := cv_ref v0
  obtain ⟨h, rfl, h1, h2⟩ := cv_i32 v1
  obtain ⟨y, rfl, y1, y2⟩ := cv_i32 v2
  obtain ⟨z3, rfl, p3, -⟩ := cv_i32 v3
  obtain ⟨z4, rfl, p4, -⟩ := cv_i32 v4
  obtain ⟨z5, rfl, p5, -⟩ := cv_i32 v5
  obtain rfl : z3 = (w : Int) := by omega
  obtain rfl : z4 = (if w = 2 then 0 else 9) := Int.le_antisymm p4.2 p4.1
  obtain rfl : z5 = (if w = 2 then 1 else -1) := Int.le_antisymm p5.2 p5.1
  have g210 : sx_w (0, 29) (M 10 210) := hg (10, 210, 0, 29) (List.mem_singleton.mpr rfl)
  have hb := List.all_eq_true.mp rb_ftb w (by rcases hw with rfl | rfl <;> decide)
  have b10 := cx_m10 hm (k := (h + 30 * (w : Int)).toNat) (by omega)
  refine rl_fin (P := rs_ftb w) (cts := rc_x1) (lvA := ra_ftb w) (pv := (h + 30 * (w : Int)).toNat) (Z := fun k => if k = 9 then h else if k = 10 then M 10 (h + 30 * (w : Int)).toNat else if k = 11 then y else 0) hb he (cc_cons (c_visitedOn he) cc_nil) rfl (hW rfl) (fun N hN hF g hg => ?_) ⟨rfl, fun k g hk => ?_⟩ ?_ rfl hm hd ?_
  · rw [List.mem_singleton.mp hg]
    have e : N 10 210 = M 10 210 := hF 10 210 (by decide) (by show ¬ 10 ∈ [19, 20, 22, 23]; decide) (fun e => by have := e.2; omega) (fun q hq e => by
      have hq : q ∈ [(21, 6), (21, 8)] := hq
      simp only [List.mem_cons, List.not_mem_nil, or_false] at hq
      rcases hq with rfl | rfl <;> cases e)
    show sx_w (0, 29) (N 10 210) ∧ sx_w sx_r64 (N 10 210)
    rw [e]
    exact ⟨g210, sx_32_64 (og_w32 (Int.le_trans (by decide) g210.1) (Int.le_trans g210.2 (by decide)))⟩
  · have hk : [(0, 0, 5), (0, -1, 143), (0, 0, 29), ((0, sx_r32) : ct_Q)][k]? = some g := hk
    rcases k with _ | _ | _ | _ | k
    · cases hk
      exact ⟨h1, h2⟩
    · cases hk
      exact ⟨b10, og_w32 (by show _ ≤ M 10 _; omega) (by show M 10 _ ≤ _; omega)⟩
    · cases hk
      exact ⟨y1, y2⟩
    · cases hk
      exact ⟨sx_w0, sx_w0⟩
    · simp at hk
  · show h + 30 * (w : Int) = (((h + 30 * (w : Int)).toNat : Nat) : Int)
    omega
  · show [(0, Value.ref 8), (1, Value.int (Int32.ofInt (h + 0))), (2, Value.int (Int32.ofInt (y + 0))), (3, Value.int (Int32.ofInt (0 + (w : Int)))), (4, Value.int (Int32.ofInt (0 + (if w = 2 then 0 else 9)))), (5, Value.int (Int32.ofInt (0 + (if w = 2 then 1 else -1))))] = _
    rw [Int.add_zero, Int.add_zero, Int.zero_add, Int.zero_add, Int.zero_add]
    rfl
theorem c_vtfS (he : cc_env WF L xs) {w c : Nat} (hw : w = 2 ∨ w = 3) (h6 : c < 6) : cc WF L xs 108 (kt_vtf w c) := by
  intro d as M hd hv hg hm hW
  obtain ⟨a0, as, rfl, v0, hv⟩ := cv_cons hv
  obtain ⟨a1, as, rfl, v1, hv⟩ := cv_cons hv
  obtain ⟨a2, as, rfl, v2, hv⟩ := cv_cons hv
  obtain ⟨a3, as, rfl, v3, hv⟩ := cv_cons hv
  obtain rfl := cv_nil hv
  obtain rfl := cv_ref v0
  obtain rfl := cv_ref v1
  obtain ⟨h, rfl, h1, h2⟩ := cv_i32 v2
  obtain ⟨z3, rfl, p3, -⟩ := cv_i32 v3
  obtain rfl : z3 = (w : Int) := by omega
  have g210 : sx_w (0, 29) (M 10 210) := hg (10, 210, 0, 29) (List.mem_singleton.mpr rfl)
  have hb := List.all_eq_true.mp (List.all_eq_true.mp rb_vtf w (by rcases hw with rfl | rfl <;> decide)) c (List.mem_range.mpr h6)
  have b10 := cx_m10 hm (k := (h + 30 * (w : Int)).toNat) (by omega)
  refine rl_fin (P := rs_vtf w c) (cts := rc_x2) (lvA := ra_vtf w c) (pv := (h + 30 * (w : Int)).toNat) (Z := fun k => if k = 9 then h else if k = 10 then M 10 (h + 30 * (w : Int)).toNat else 0) hb he (cc_cons (c_firstUnlike0 he) (cc_cons (c_firstUnlike1 he) (cc_cons (c_firstUnlike2 he) (cc_cons (c_firstUnlike3 he) (cc_cons (c_firstUnlike4 he) (cc_cons (c_firstUnlike5 he) cc_nil)))))) rfl (hW rfl) (fun N hN hF g hg => ?_) ⟨rfl, fun k g hk => ?_⟩ ?_ rfl hm hd ?_
  · rw [List.mem_singleton.mp hg]
    have e : N 10 210 = M 10 210 := hF 10 210 (by decide) (by show ¬ 10 ∈ [19, 20, 22, 23]; decide) (fun e => by have := e.2; omega) (fun q hq e => by
      have hq : q ∈ [(21, 6), (21, 8)] := hq
      simp only [List.mem_cons, List.not_mem_nil, or_false] at hq
      rcases hq with rfl | rfl <;> cases e)
    show sx_w (0, 29) (N 10 210) ∧ sx_w sx_r64 (N 10 210)
    rw [e]
    exact ⟨g210, sx_32_64 (og_w32 (Int.le_trans (by decide) g210.1) (Int.le_trans g210.2 (by decide)))⟩
  · have hk : [(0, 0, 5), (0, -1, 143), ((0, sx_r32) : ct_Q)][k]? = some g := hk
    rcases k with _ | _ | _ | k
    · cases hk
      exact ⟨h1, h2⟩
    · cases hk
      exact ⟨b10, og_w32 (by show _ ≤ M 10 _; omega) (by show M 10 _ ≤ _; omega)⟩
    · cases hk
      exact ⟨sx_w0, sx_w0⟩
    · simp at hk
  · show h + 30 * (w : Int) = (((h + 30 * (w : Int)).toNat : Nat) : Int)
    omega
  · show [(0, Value.ref 8), (1, Value.ref (41 + 2 * (c : Int)).toNat), (2, Value.int (Int32.ofInt (h + 0))), (3, Value.int (Int32.ofInt (0 + (w : Int))))] = _
    rw [Int.add_zero, Int.zero_add]
    rfl
theorem c_lcS (he : cc_env WF L xs) {u : Nat} (hu : u = 0 ∨ u = 1) : cc WF L xs (219 + u) (kt_lc u) := by
  intro d as M hd hv hg hm hW
  obtain ⟨a0, as, rfl, v0, hv⟩ := cv_cons hv
  obtain ⟨a1, as, rfl, v1, hv⟩ := cv_cons hv
  obtain ⟨a2, as, rfl, v2, hv⟩ := cv_cons hv
  obtain rfl := cv_nil hv
  obtain rfl := cv_ref v0
  obtain ⟨h, rfl, h1, h2⟩ := cv_i32 v1
  obtain ⟨y, rfl, y1, y2⟩ := cv_i32 v2
  have hb := List.all_eq_true.mp rb_lc u (by rcases hu with rfl | rfl <;> decide)
  have bz := rt_m hm (z := 56 + u) (k := h.toNat) (by omega) (by omega)
  refine rl_fin (P := rs_lc u) (cts := rc_m1) (lvA := ra_lc) (pv := h.toNat) (Z := fun k => if k = 9 then h else if k = 10 then M (56 + u) h.toNat else if k = 11 then y else 0) hb he (cc_cons (c_mgoTo he) cc_nil) rfl (hW rfl) (fun N hN hF g hg => by cases hg) ⟨rfl, fun k g hk => ?_⟩ ?_ rfl hm hd ?_
  · have hk : [(0, 0, 5), (0, -1, 143), (0, 0, 29), ((0, sx_r32) : ct_Q)][k]? = some g := hk
    rcases k with _ | _ | _ | _ | k
    · cases hk
      exact ⟨h1, h2⟩
    · cases hk
      exact ⟨bz, og_w32 (by show _ ≤ M (56 + u) _; omega) (by show M (56 + u) _ ≤ _; omega)⟩
    · cases hk
      exact ⟨y1, y2⟩
    · cases hk
      exact ⟨sx_w0, sx_w0⟩
    · simp at hk
  · show h + 0 = ((h.toNat : Nat) : Int)
    omega
  · show [(0, Value.ref 53), (1, Value.int (Int32.ofInt (h + 0))), (2, Value.int (Int32.ofInt (y + 0)))] = _
    rw [Int.add_zero, Int.add_zero]
    rfl
theorem c_rcS (he : cc_env WF L xs) {u : Nat} (hu : u = 0 ∨ u = 1) : cc WF L xs (237 + u) (kt_rc u) := by
  intro d as M hd hv hg hm hW
  obtain ⟨a0, as, rfl, v0, hv⟩ := cv_cons hv
  obtain ⟨a1, as, rfl, v1, hv⟩ := cv_cons hv
  obtain ⟨a2, as, rfl, v2, hv⟩ := cv_cons hv
  obtain ⟨a3, as, rfl, v3, hv⟩ := cv_cons hv
  obtain rfl := cv_nil hv
  obtain rfl := cv_ref v0
  obtain ⟨y, rfl, y1, y2⟩ := cv_i32 v1
  obtain ⟨h, rfl, h1, h2⟩ := cv_i32 v2
  obtain ⟨l, rfl, l1, l2⟩ := cv_i32 v3
  have hb := List.all_eq_true.mp rb_rc u (by rcases hu with rfl | rfl <;> decide)
  have bz := rt_m hm (z := 56 + u) (k := h.toNat) (by omega) (by omega)
  refine rl_fin (P := rs_rc u) (cts := rc_m2) (lvA := ra_rc) (pv := h.toNat) (Z := fun k => if k = 9 then h else if k = 10 then M (56 + u) h.toNat else if k = 11 then y else if k = 12 then l else 0) hb he (cc_cons (c_mwrongDay he) cc_nil) rfl (hW rfl) (fun N hN hF g hg => by cases hg) ⟨rfl, fun k g hk => ?_⟩ ?_ rfl hm hd ?_
  · have hk : [(0, 0, 5), (0, -1, 143), (0, 0, 5), (0, 0, 1), ((0, sx_r32) : ct_Q), (0, sx_r32)][k]? = some g := hk
    rcases k with _ | _ | _ | _ | _ | _ | k
    · cases hk
      exact ⟨h1, h2⟩
    · cases hk
      exact ⟨bz, og_w32 (by show _ ≤ M (56 + u) _; omega) (by show M (56 + u) _ ≤ _; omega)⟩
    · cases hk
      exact ⟨y1, y2⟩
    · cases hk
      exact ⟨l1, l2⟩
    · cases hk
      exact ⟨sx_w0, sx_w0⟩
    · cases hk
      exact ⟨sx_w0, sx_w0⟩
    · simp at hk
  · show h + 0 = ((h.toNat : Nat) : Int)
    omega
  · show [(0, Value.ref 53), (1, Value.int (Int32.ofInt (y + 0))), (2, Value.int (Int32.ofInt (h + 0))), (3, Value.int (Int32.ofInt (l + 0)))] = _
    rw [Int.add_zero, Int.add_zero, Int.add_zero]
    rfl
def k_sweetenS : ct_C := (k_sweeten.1, k_sweeten.2.1, [(21, 6, sx_r32), (21, 8, sx_r32)], [19, 20, 22, 23], some (0, sx_r32), 8, true)
def k_readS : ct_C := (k_read.1, k_read.2.1, [(21, 6, sx_r32), (21, 8, sx_r32)], [19, 20, 22, 23], some (0, sx_r32), 8, true)
def k_msweetenS : ct_C := (k_msweeten.1, k_msweeten.2.1, k_msweeten.2.2.1, [72, 73, 75, 76, 77], some (0, sx_r32), 12, true)
def k_mreadS : ct_C := (k_mread.1, k_mread.2.1, k_mread.2.2.1, [72, 73, 75, 76, 77], some (0, sx_r32), 12, true)
theorem c_sweetenS (he : cc_env WF L xs) : cc WF L xs 87 k_sweetenS :=
  cc_ok he (cts := [(88, kt_ftb 2), (88, kt_ftb 3)]) (fc := 3000) (f := 3000) (cuts := []) (cc_cons (c_ftbS he (Or.inl rfl)) (cc_cons (c_ftbS he (Or.inr rfl)) cc_nil)) (by decide +kernel)
theorem c_readS (he : cc_env WF L xs) : cc WF L xs 107 k_readS :=
  cc_ok he (cts := [(93, k_bitCount), (108, kt_vtf 2 0), (108, kt_vtf 3 0), (108, kt_vtf 2 1), (108, kt_vtf 3 1), (108, kt_vtf 2 2), (108, kt_vtf 3 2), (108, kt_vtf 2 3), (108, kt_vtf 3 3), (108, kt_vtf 2 4), (108, kt_vtf 3 4), (108, kt_vtf 2 5), (108, kt_vtf 3 5), (109, k_firstBit1), (109, k_firstBit9)]) (fc := 3000) (f := 3000) (cuts := []) (cc_cons (c_bitCount he) (cc_cons (c_vtfS he (Or.inl rfl) (by decide)) (cc_cons (c_vtfS he (Or.inr rfl) (by decide)) (cc_cons (c_vtfS he (Or.inl rfl) (by decide)) (cc_cons (c_vtfS he (Or.inr rfl) (by decide)) (cc_cons (c_vtfS he (Or.inl rfl) (by decide)) (cc_cons (c_vtfS he (Or.inr rfl) (by decide)) (cc_cons (c_vtfS he (Or.inl rfl) (by decide)) (cc_cons (c_vtfS he (Or.inr rfl) (by decide)) (cc_cons (c_vtfS he (Or.inl rfl) (by decide)) (cc_cons (c_vtfS he (Or.inr rfl) (by decide)) (cc_cons (c_vtfS he (Or.inl rfl) (by decide)) (cc_cons (c_vtfS he (Or.inr rfl) (by decide)) (cc_cons (c_firstBit1 he) (cc_cons (c_firstBit9 he) cc_nil))))))))))))))) (by decide +kernel)
theorem c_msweetenS (he : cc_env WF L xs) : cc WF L xs 218 k_msweetenS :=
  cc_ok he (cts := [(219, kt_lc 0), (220, kt_lc 1)]) (fc := 3000) (f := 3000) (cuts := []) (cc_cons (c_lcS he (u := 0) (Or.inl rfl)) (cc_cons (c_lcS he (u := 1) (Or.inr rfl)) cc_nil)) (by decide +kernel)
theorem c_mreadS (he : cc_env WF L xs) : cc WF L xs 236 k_mreadS :=
  cc_ok he (cts := [(237, kt_rc 0), (238, kt_rc 1)]) (fc := 3000) (f := 3000) (cuts := []) (cc_cons (c_rcS he (u := 0) (Or.inl rfl)) (cc_cons (c_rcS he (u := 1) (Or.inr rfl)) cc_nil)) (by decide +kernel)
end
