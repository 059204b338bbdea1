/-! The reference's evaluator: a part of a line is worth what it is worth. -/
section
variable {L : Nat} {xs : Nat → Int32} {M M' M1 M2 : Nat → Nat → Int} {ρ ρ' : Nat → Int} {V U : List Int} {a b z w v : Int} {Q : Option Value → (Nat → Nat → Int) → Prop}
theorem wu_dm : (Int32.ofInt (-1)).toInt = -1 := by decide
theorem wu_d32 (x : Int32) : x / Int32.ofInt (-1) = Int32.ofInt 0 - x := by
  apply Int32.toInt_inj.mp
  rw [Int32.toInt_div, Int32.toInt_sub, wu_dm, Int.tdiv_neg, Int.tdiv_one]
  show (-x.toInt).bmod (2 ^ 32) = (0 - x.toInt).bmod (2 ^ 32)
  rw [Int.zero_sub]
theorem wu_m1 (a b : Int) : sx_mf 1 a b = (Int32.ofInt a - Int32.ofInt b).toInt := rfl
theorem wu_m6 (a b : Int) : sx_mf 6 a b = (Int32.ofInt a / Int32.ofInt b).toInt := rfl
theorem wu_m7 (a b : Int) : sx_mf 7 a b = (Int32.ofInt a - Int32.ofInt a / Int32.ofInt b * Int32.ofInt b).toInt := rfl
theorem wu_div (a : Int) : sx_mf 6 a (-1) = sx_mf 1 0 a := by
  rw [wu_m6, wu_m1, wu_d32]
theorem wu_d0 : (Int32.ofInt 0).toInt = 0 := by decide
theorem wu_z0 : (0 : Int).bmod (2 ^ 32) = 0 := by decide
theorem wu_rem (a : Int) : sx_mf 7 a (-1) = 0 := by
  rw [wu_m7, wu_d32, Int32.toInt_sub, Int32.toInt_mul, Int32.toInt_sub, wu_dm, wu_d0, Int.bmod_mul_bmod, Int.sub_bmod_bmod, show (Int32.ofInt a).toInt - (0 - (Int32.ofInt a).toInt) * -1 = 0 by omega, wu_z0]
/-- the values that lie -/
def wu_S (c : Nat) (M : Nat → Nat → Int) (V : List Int) : Prop := yh_D (M c) V.length = V.reverse
theorem wu_push {c : Nat} {x : Int} (h : wu_S c M V) (h1 : M' c V.length = x) (h2 : ∀ i, i < V.length → M' c i = M c i) : wu_S c M' (x :: V) := by
  unfold wu_S at h ⊢
  rw [List.reverse_cons]
  show yh_D (M' c) V.length ++ [M' c V.length] = _
  rw [h1, yh_D_on (f := M c) h2, h]
theorem wu_top {c : Nat} {x : Int} (h : wu_S c M (x :: V)) : M c V.length = x ∧ wu_S c M V := by
  unfold wu_S at h ⊢
  rw [List.reverse_cons] at h
  have h : yh_D (M c) V.length ++ [M c V.length] = V.reverse ++ [x] := h
  have h3 := List.append_inj h (by rw [yh_D_len, List.length_reverse])
  exact ⟨(List.cons.inj h3.2).1, h3.1⟩
theorem wu_bot {c : Nat} (h : wu_S c M V) (hn : V ≠ []) : M c 0 = V.getLastD 0 := by
  unfold wu_S at h
  have h0 : 0 < V.length := List.length_pos_iff.mpr hn
  rw [← yh_D_get (f := M c) h0, h]
  rw [List.getD_eq_getElem?_getD, List.getElem?_reverse h0, List.getLastD_eq_getLast?, List.getLast?_eq_getElem?]
  rfl
-- the walks: 9 the end, 10 how many values, 11 where, 12 the kind; 13 (14) what is read
def wu_g (n0 : Int) : List ct_Q := [(0, (0, 130)), (0, (n0, 129)), (0, (0, 129))]
def wu_l : sx_L := [(0, 2, 0, 53), (1, 0, 0, 0), (3, 0, 9, 0), (4, 0, 10, 0), (5, 0, 11, 0)]
def wu_m (c : Int) : sx_L := [(0, 2, 0, 53), (1, 0, 0, 0), (3, 0, 9, 0), (4, 0, 10, c), (5, 0, 11, 1)]
noncomputable def wu_t0 (n0 w : Int) : sx_S := (sx_frl (sx_ml (og_t (wu_g n0) []) 80 (11, 0) (9, 0)) 67 (11, 0) (w, w)).2
noncomputable def wu_t1 : sx_S := (sx_frl (wu_t0 0 1) 68 (11, 0) sx_r32).2
noncomputable def wu_t2 : sx_S := (sx_frl (sx_frl (wu_t0 0 2) 68 (11, 0) (0, 5)).2 72 (13, 0) sx_r32).2
noncomputable def wu_t3 (w : Int) : sx_S := (sx_frl (wu_t0 1 w) 73 (10, -1) sx_r32).2
noncomputable def wu_t4 (w : Int) : sx_S := (sx_frl (sx_frl (wu_t0 2 w) 73 (10, -2) sx_r32).2 73 (10, -1) sx_r32).2
noncomputable def wu_c (t : sx_S) (Ts : List og_T) : Bool := gs_chk (fun pc => Nat.beq pc 12) (fun u => Ts.any (og_chk t u)) 400 400 6 197 12 wu_l [] t
def wu_T1 : List og_T := [(some 12, none, [], wu_m 1, [(73, (10, 0), (13, 0))], [])]
def wu_T2 : List og_T := [(some 12, none, [], wu_m 1, [(73, (10, 0), (14, 0))], [])]
def wu_T3 : List og_T := [(some 12, none, [], wu_m 0, [(73, (10, -1), (0, 1))], [og_b 13 0 0]), (some 12, none, [], wu_m 0, [(73, (10, -1), (0, 0))], [(7, (13, 0), (0, 0), 0, 0)])]
def wu_T4 : List og_T := [(some 12, none, [], wu_m 0, [(73, (10, -1), (14, 0))], [(5, (0, 0), (13, 0), 1, 14)])]
def wu_n3 : og_D := (7, (13, 0), (0, 0), 0, 0)
def wu_n4 : og_D := (7, (14, 0), (0, 0), 0, 0)
def wu_z : List (Int × List (sx_A × List og_D)) := [(124, [((0, 0), [og_b 13 0 0, og_b 14 0 0]), ((0, 1), [wu_n3]), ((0, 1), [og_b 13 0 0, wu_n4])]), (38, [((0, 0), [og_b 13 0 0]), ((0, 0), [wu_n3, og_b 14 0 0]), ((0, 1), [wu_n3, wu_n4])]), (60, [((0, 1), [og_l 13 14 0]), ((0, 0), [og_nl 13 14 0])]), (61, [((0, 1), [(3, (13, 0), (14, 0), 0, 0)]), ((0, 0), [(4, (13, 0), (14, 0), 0, 0)])]), (62, [((0, 1), [og_l 14 13 0]), ((0, 0), [og_nl 14 13 0])]), (43, [((15, 0), [(5, (13, 0), (14, 0), 0, 15)])]), (45, [((15, 0), [(5, (13, 0), (14, 0), 1, 15)])]), (42, [((15, 0), [(5, (13, 0), (14, 0), 2, 15)])]), (47, [((0, 0), [og_b 14 0 0]), ((15, 0), [og_b 14 (-1) (-1), (5, (0, 0), (13, 0), 1, 15)]), ((15, 0), [wu_n4, (5, (13, 0), (14, 0), 6, 15)])]), (37, [((0, 0), [og_b 14 0 0]), ((0, 0), [og_b 14 (-1) (-1)]), ((15, 0), [wu_n4, (5, (13, 0), (14, 0), 7, 15)])])]
def wu_T5 (l : List (sx_A × List og_D)) : List og_T := l.map fun q => (some 12, none, [], wu_m (-1), [(73, (10, -2), q.1)], q.2)
theorem wu_c1 : wu_c wu_t1 wu_T1 = true := by decide +kernel
theorem wu_c2 : wu_c wu_t2 wu_T2 = true := by decide +kernel
theorem wu_c3 : wu_c (wu_t3 3) wu_T3 = true := by decide +kernel
theorem wu_c4 : wu_c (wu_t3 4) wu_T4 = true := by decide +kernel
theorem wu_c5 : (wu_z.all fun q => wu_c (wu_t4 q.1) (wu_T5 q.2)) = true := by decide +kernel
/-- what a sign between two values gives -/
theorem wu_two {q : Int × List (sx_A × List og_D)} (hq : q ∈ wu_z) {r : sx_A × List og_D} (hr : r ∈ q.2) (h0 : ρ 0 = 0) (r13 : ρ 13 = a) (r14 : ρ 14 = b) (hc : og_cs ρ M' r.2) : sx_val ρ r.1 = vt_j q.1 a b := by
  have b3 : ∀ {lo hi : Int}, og_ds ρ M' (og_b 13 lo hi) → lo ≤ a ∧ a ≤ hi := fun {lo hi} h => by
    obtain ⟨h1, h2⟩ := h
    have h1 : lo ≤ sx_val ρ (13, 0) := h1
    have h2 : sx_val ρ (13, 0) ≤ hi := h2
    rw [og_v0 r13] at h1 h2
    exact ⟨h1, h2⟩
  have b4 : ∀ {lo hi : Int}, og_ds ρ M' (og_b 14 lo hi) → lo ≤ b ∧ b ≤ hi := fun {lo hi} h => by
    obtain ⟨h1, h2⟩ := h
    have h1 : lo ≤ sx_val ρ (14, 0) := h1
    have h2 : sx_val ρ (14, 0) ≤ hi := h2
    rw [og_v0 r14] at h1 h2
    exact ⟨h1, h2⟩
  have n3 : og_ds ρ M' wu_n3 → a ≠ 0 := fun h => by
    have h : ρ 13 ≠ 0 := h
    rw [r13] at h
    exact h
  have n4 : og_ds ρ M' wu_n4 → b ≠ 0 := fun h => by
    have h : ρ 14 ≠ 0 := h
    rw [r14] at h
    exact h
  have op : ∀ {g : Nat}, ρ 15 = sx_mf g (sx_val ρ (13, 0)) (sx_val ρ (14, 0)) → sx_val ρ (15, 0) = sx_mf g a b := fun {g} h => by
    rw [og_v0 r13, og_v0 r14] at h
    exact og_v0 h
  simp only [wu_z, List.mem_cons, List.not_mem_nil, or_false] at hq
  rcases hq with rfl | rfl | rfl | rfl | rfl | rfl | rfl | rfl | rfl | rfl
  · simp only [List.mem_cons, List.not_mem_nil, or_false] at hr
    rcases hr with rfl | rfl | rfl
    · have c1 := b3 hc.1
      have c2 := b4 hc.2.1
      rw [og_c h0]
      show (0 : Int) = if a = 0 ∧ b = 0 then 0 else 1
      rw [if_pos (by omega)]
    · have c1 := n3 hc.1
      rw [og_c h0]
      show (1 : Int) = if a = 0 ∧ b = 0 then 0 else 1
      rw [if_neg (by omega)]
    · have c1 := n4 hc.2.1
      rw [og_c h0]
      show (1 : Int) = if a = 0 ∧ b = 0 then 0 else 1
      rw [if_neg (by omega)]
  · simp only [List.mem_cons, List.not_mem_nil, or_false] at hr
    rcases hr with rfl | rfl | rfl
    · have c1 := b3 hc.1
      rw [og_c h0]
      show (0 : Int) = if a = 0 ∨ b = 0 then 0 else 1
      rw [if_pos (by omega)]
    · have c1 := b4 hc.2.1
      rw [og_c h0]
      show (0 : Int) = if a = 0 ∨ b = 0 then 0 else 1
      rw [if_pos (by omega)]
    · have c1 := n3 hc.1
      have c2 := n4 hc.2.1
      rw [og_c h0]
      show (1 : Int) = if a = 0 ∨ b = 0 then 0 else 1
      rw [if_neg (by omega)]
  · simp only [List.mem_cons, List.not_mem_nil, or_false] at hr
    rcases hr with rfl | rfl
    · have c1 : ρ 13 < ρ 14 + 0 := hc.1
      rw [r13, r14] at c1
      rw [og_c h0]
      show (1 : Int) = if a < b then 1 else 0
      rw [if_pos (by omega)]
    · have c1 : ¬ ρ 13 < ρ 14 + 0 := hc.1
      rw [r13, r14] at c1
      rw [og_c h0]
      show (0 : Int) = if a < b then 1 else 0
      rw [if_neg (by omega)]
  · simp only [List.mem_cons, List.not_mem_nil, or_false] at hr
    rcases hr with rfl | rfl
    · have c1 : ρ 13 = ρ 14 + 0 := hc.1
      rw [r13, r14] at c1
      rw [og_c h0]
      show (1 : Int) = if a = b then 1 else 0
      rw [if_pos (by omega)]
    · have c1 : ¬ ρ 13 = ρ 14 + 0 := hc.1
      rw [r13, r14] at c1
      rw [og_c h0]
      show (0 : Int) = if a = b then 1 else 0
      rw [if_neg (by omega)]
  · simp only [List.mem_cons, List.not_mem_nil, or_false] at hr
    rcases hr with rfl | rfl
    · have c1 : ρ 14 < ρ 13 + 0 := hc.1
      rw [r13, r14] at c1
      rw [og_c h0]
      show (1 : Int) = if b < a then 1 else 0
      rw [if_pos (by omega)]
    · have c1 : ¬ ρ 14 < ρ 13 + 0 := hc.1
      rw [r13, r14] at c1
      rw [og_c h0]
      show (0 : Int) = if b < a then 1 else 0
      rw [if_neg (by omega)]
  · rw [List.mem_singleton.mp hr] at hc ⊢
    exact op (g := 0) hc.1
  · rw [List.mem_singleton.mp hr] at hc ⊢
    exact op (g := 1) hc.1
  · rw [List.mem_singleton.mp hr] at hc ⊢
    exact op (g := 2) hc.1
  · simp only [List.mem_cons, List.not_mem_nil, or_false] at hr
    rcases hr with rfl | rfl | rfl
    · have c1 := b4 hc.1
      rw [og_c h0]
      show (0 : Int) = if b = 0 then 0 else sx_mf 6 a b
      rw [if_pos (by omega)]
    · have c1 := b4 hc.1
      have c2 : ρ 15 = sx_mf 1 (sx_val ρ (0, 0)) (sx_val ρ (13, 0)) := hc.2.1
      rw [og_c h0, og_v0 r13] at c2
      have eb : b = -1 := by omega
      show sx_val ρ (15, 0) = if b = 0 then 0 else sx_mf 6 a b
      rw [og_v0 c2, if_neg (by omega), eb, wu_div]
    · have c1 := n4 hc.1
      show sx_val ρ (15, 0) = if b = 0 then 0 else sx_mf 6 a b
      rw [if_neg c1]
      exact op (g := 6) hc.2.1
  · simp only [List.mem_cons, List.not_mem_nil, or_false] at hr
    rcases hr with rfl | rfl | rfl
    · have c1 := b4 hc.1
      rw [og_c h0]
      show (0 : Int) = if b = 0 then 0 else sx_mf 7 a b
      rw [if_pos (by omega)]
    · have c1 := b4 hc.1
      have eb : b = -1 := by omega
      rw [og_c h0]
      show (0 : Int) = if b = 0 then 0 else sx_mf 7 a b
      rw [if_neg (by omega), eb, wu_rem]
    · have c1 := n4 hc.1
      show sx_val ρ (15, 0) = if b = 0 then 0 else sx_mf 7 a b
      rw [if_neg c1]
      exact op (g := 7) hc.2.1
end
