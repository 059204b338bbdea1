/-! image, back: the pairs. -/
section
variable {L : Nat} {xs : Nat → Int32} {M M' N N' M0 M1 M2 X Y : Nat → Nat → Int} {b s : Int} {nc H : Nat}
/-- one place after many writes -/
def qs_gv (zs : List Int) (c j : Nat) (M : Nat → Nat → Int) : List og_W → Int
  | [] => M c j
  | w :: r => bif Nat.beq w.1 c then (bif Nat.beq (qs_a zs w.2.1).toNat j then qs_a zs w.2.2 else qs_gv zs c j M r) else qs_gv zs c j M r
theorem qs_up_gv {zs : List Int} {c j : Nat} {ws : List og_W} : qs_up zs ws M c j = qs_gv zs c j M ws := by
  induction ws with
  | nil => rfl
  | cons w r ih =>
    show (if c = w.1 then (if j = (qs_a zs w.2.1).toNat then qs_a zs w.2.2 else qs_up zs r M c j) else qs_up zs r M c j) = (bif Nat.beq w.1 c then (bif Nat.beq (qs_a zs w.2.1).toNat j then qs_a zs w.2.2 else qs_gv zs c j M r) else qs_gv zs c j M r)
    rw [ih]
    by_cases h : c = w.1
    · rw [if_pos h, show Nat.beq w.1 c = true by rw [h]; exact Nat.beq_refl _, cond_true]
      by_cases h2 : j = (qs_a zs w.2.1).toNat
      · rw [if_pos h2, show Nat.beq (qs_a zs w.2.1).toNat j = true by rw [h2]; exact Nat.beq_refl _, cond_true]
      · rw [if_neg h2, show Nat.beq (qs_a zs w.2.1).toNat j = false from Bool.eq_false_iff.mpr (fun e => h2 (Nat.eq_of_beq_eq_true e).symm), cond_false]
    · rw [if_neg h, show Nat.beq w.1 c = false from Bool.eq_false_iff.mpr (fun e => h (Nat.eq_of_beq_eq_true e).symm), cond_false]
theorem qs_up_no {zs : List Int} {a j : Nat} {ws : List og_W} (h : ∀ w ∈ ws, w.1 = a → (qs_a zs w.2.1).toNat ≠ j) : qs_up zs ws M a j = M a j := by
  induction ws with
  | nil => rfl
  | cons w r ih =>
    show (if a = w.1 then (if j = (qs_a zs w.2.1).toNat then qs_a zs w.2.2 else qs_up zs r M a j) else qs_up zs r M a j) = M a j
    have i := ih (fun w hw => h w (List.mem_cons_of_mem _ hw))
    by_cases e : a = w.1
    · rw [if_pos e, if_neg (fun q => h w List.mem_cons_self e.symm q.symm)]
      exact i
    · rw [if_neg e]
      exact i
/-- cells that aren't written -/
theorem qs_up_fr {zs : List Int} {a : Nat} {ws : List og_W} (cs : List Nat) (h : (ws.all fun w => cs.any (Nat.beq w.1)) = true) (ha : ∀ c ∈ cs, a ≠ c) : qs_up zs ws M a = M a := by
  funext j
  refine qs_up_no fun w hw e => ?_
  obtain ⟨c, hc, q⟩ := List.any_eq_true.mp (List.all_eq_true.mp h w hw)
  exact absurd (e.symm.trans (Nat.eq_of_beq_eq_true q)) (ha c hc)
/-- places of a cell that aren't written -/
theorem qs_up_fj {zs : List Int} {a j : Nat} {ws : List og_W} (js : List Nat) (h : (ws.all fun w => bif Nat.beq w.1 a then js.any (Nat.beq (qs_a zs w.2.1).toNat) else true) = true) (hj : ∀ k ∈ js, j ≠ k) : qs_up zs ws M a j = M a j := by
  refine qs_up_no fun w hw e q => ?_
  have g := List.all_eq_true.mp h w hw
  rw [e, show Nat.beq a a = true from Nat.beq_refl a, cond_true] at g
  obtain ⟨c, hc, k⟩ := List.any_eq_true.mp g
  exact absurd (q.symm.trans (Nat.eq_of_beq_eq_true k)) (hj c hc)
def im1_i : List qs_I := [(1, 9, (0, 4), (0, 6)), (1, 9, (0, 5), (0, 12)), (1, 9, (0, 6), sx_r32), (1, 9, (0, 7), sx_r32), (1, 10, (0, 210), (0, 29)), (1, 12, (0, 0), sx_r32), (1, 12, (0, 1), sx_r32), (1, 12, (0, 2), sx_r32), (1, 12, (0, 3), sx_r32), (1, 12, (0, 4), sx_r32), (1, 12, (0, 5), sx_r32), (1, 13, (0, 0), sx_r32), (1, 13, (0, 1), sx_r32), (1, 13, (0, 2), sx_r32), (1, 13, (0, 3), sx_r32), (1, 13, (0, 4), sx_r32)]
def im1_T : List og_T := [(none, some (0, 13, 0), [], [], [(34, (0, 2), (0, 1)), (34, (0, 7), (12, 0)), (34, (0, 6), (11, 0)), (34, (0, 5), (10, 0)), (34, (0, 4), (9, 0)), (34, (0, 3), (13, 0)), (36, (0, 4), (24, 0)), (36, (0, 3), (23, 0)), (36, (0, 2), (22, 0)), (36, (0, 1), (21, 0)), (36, (0, 0), (20, 0)), (35, (0, 5), (19, 0)), (35, (0, 4), (18, 0)), (35, (0, 3), (17, 0)), (35, (0, 2), (16, 0)), (35, (0, 1), (15, 0)), (35, (0, 0), (14, 0))], [])]
theorem im1_c : qs_chk (fun _ => false) im1_i 0 im1_T 400 400 4 117 0 [(0, 2, 0, 8)] [] = true := by decide +kernel
def im2_i : List qs_I := [(1, 53, (0, 1), (0, 6)), (1, 53, (0, 8), (0, 12)), (1, 53, (0, 7), sx_r32), (1, 53, (0, 11), sx_r32), (1, 53, (0, 13), (0, 29)), (1, 74, (0, 0), sx_r32), (1, 74, (0, 1), sx_r32), (1, 74, (0, 2), sx_r32), (1, 74, (0, 3), sx_r32), (1, 74, (0, 4), sx_r32), (1, 74, (0, 5), sx_r32), (1, 82, (0, 0), sx_r32), (1, 82, (0, 1), sx_r32), (1, 82, (0, 2), sx_r32), (1, 82, (0, 3), sx_r32), (1, 82, (0, 4), sx_r32)]
def im2_T : List og_T := [(none, some (0, 13, 0), [], [], [(84, (0, 4), (24, 0)), (84, (0, 3), (23, 0)), (84, (0, 2), (22, 0)), (84, (0, 1), (21, 0)), (84, (0, 0), (20, 0)), (83, (0, 5), (19, 0)), (83, (0, 4), (18, 0)), (83, (0, 3), (17, 0)), (83, (0, 2), (16, 0)), (83, (0, 1), (15, 0)), (83, (0, 0), (14, 0)), (53, (0, 54), (13, 0)), (53, (0, 53), (12, 0)), (53, (0, 52), (11, 0)), (53, (0, 51), (10, 0)), (53, (0, 50), (9, 0)), (53, (0, 49), (0, 1))], [])]
theorem im2_c : qs_chk (fun _ => false) im2_i 0 im2_T 400 400 4 243 0 [(0, 2, 0, 53)] [] = true := by decide +kernel
def ba1_i : List qs_I := [(1, 34, (0, 2), (0, 1)), (1, 34, (0, 3), (0, 29)), (1, 34, (0, 4), (0, 6)), (1, 34, (0, 5), (0, 12)), (1, 34, (0, 6), sx_r32), (1, 34, (0, 7), sx_r32), (1, 9, (0, 6), sx_r32), (1, 9, (0, 7), sx_r32), (1, 35, (0, 0), sx_r32), (1, 35, (0, 1), sx_r32), (1, 35, (0, 2), sx_r32), (1, 35, (0, 3), sx_r32), (1, 35, (0, 4), sx_r32), (1, 35, (0, 5), sx_r32), (1, 36, (0, 0), sx_r32), (1, 36, (0, 1), sx_r32), (1, 36, (0, 2), sx_r32), (1, 36, (0, 3), sx_r32), (1, 36, (0, 4), sx_r32)]
def ba1_T : List og_T := [(none, some (0, 0, -5), [], [], [], [(0, (9, 0), (0, 0), 0, 0)]), (none, some (0, 10, 0), [], [], [(10, (0, 210), (10, 0)), (13, (0, 4), (27, 0)), (13, (0, 3), (26, 0)), (13, (0, 2), (25, 0)), (13, (0, 1), (24, 0)), (13, (0, 0), (23, 0)), (12, (0, 5), (22, 0)), (12, (0, 4), (21, 0)), (12, (0, 3), (20, 0)), (12, (0, 2), (19, 0)), (12, (0, 1), (18, 0)), (12, (0, 0), (17, 0)), (9, (0, 7), (39, 0)), (9, (0, 6), (35, 0))], [(7, (9, 0), (0, 0), 0, 0), (5, (0, 1), (11, 0), 8, 28), (5, (28, 0), (0, 1), 1, 29), (5, (0, 1), (12, 0), 8, 30), (5, (30, 0), (0, 1), 1, 31), (5, (13, 0), (29, 0), 3, 32), (5, (29, 0), (0, -1), 5, 33), (5, (15, 0), (33, 0), 3, 34), (5, (32, 0), (34, 0), 4, 35), (5, (14, 0), (31, 0), 3, 36), (5, (31, 0), (0, -1), 5, 37), (5, (16, 0), (37, 0), 3, 38), (5, (36, 0), (38, 0), 4, 39)])]
theorem ba1_c : qs_chk (fun _ => false) ba1_i 12 ba1_T 400 400 4 119 0 [(0, 2, 0, 8)] [] = true := by decide +kernel
def ba2_i : List qs_I := [(1, 53, (0, 49), (0, 1)), (1, 53, (0, 54), (0, 29)), (1, 53, (0, 50), (0, 6)), (1, 53, (0, 51), (0, 12)), (1, 53, (0, 52), sx_r32), (1, 53, (0, 53), sx_r32), (1, 53, (0, 7), sx_r32), (1, 53, (0, 11), sx_r32), (1, 83, (0, 0), sx_r32), (1, 83, (0, 1), sx_r32), (1, 83, (0, 2), sx_r32), (1, 83, (0, 3), sx_r32), (1, 83, (0, 4), sx_r32), (1, 83, (0, 5), sx_r32), (1, 84, (0, 0), sx_r32), (1, 84, (0, 1), sx_r32), (1, 84, (0, 2), sx_r32), (1, 84, (0, 3), sx_r32), (1, 84, (0, 4), sx_r32)]
def ba2_T : List og_T := [(none, some (0, 0, -5), [], [], [], [(0, (9, 0), (0, 0), 0, 0)]), (none, some (0, 10, 0), [], [], [(82, (0, 4), (27, 0)), (82, (0, 3), (26, 0)), (82, (0, 2), (25, 0)), (82, (0, 1), (24, 0)), (82, (0, 0), (23, 0)), (74, (0, 5), (22, 0)), (74, (0, 4), (21, 0)), (74, (0, 3), (20, 0)), (74, (0, 2), (19, 0)), (74, (0, 1), (18, 0)), (74, (0, 0), (17, 0)), (53, (0, 13), (10, 0)), (53, (0, 11), (37, 0)), (53, (0, 7), (32, 0))], [(7, (9, 0), (0, 0), 0, 0), (5, (0, 1), (11, 0), 8, 28), (5, (28, 0), (0, 1), 1, 29), (5, (29, 0), (0, -1), 5, 30), (5, (15, 0), (30, 0), 3, 31), (5, (31, 0), (13, 0), 4, 32), (5, (0, 1), (12, 0), 8, 33), (5, (33, 0), (0, 1), 1, 34), (5, (34, 0), (0, -1), 5, 35), (5, (16, 0), (35, 0), 3, 36), (5, (36, 0), (14, 0), 4, 37)])]
theorem ba2_c : qs_chk (fun _ => false) ba2_i 10 ba2_T 400 400 4 244 0 [(0, 2, 0, 53)] [] = true := by decide +kernel
def im_X (M : Nat → Nat → Int) (z : Int) (N : Nat → Nat → Int) : Prop := z = M 10 210 ∧ (∀ a, a < 128 → a ≠ 34 → a ≠ 35 → a ≠ 36 → N a = M a) ∧ (N 34 2 = 1 ∧ N 34 3 = M 10 210 ∧ N 34 4 = M 9 4 ∧ N 34 5 = M 9 5 ∧ N 34 6 = M 9 6 ∧ N 34 7 = M 9 7) ∧ (∀ h, h < 6 → N 35 h = M 12 h) ∧ ∀ k, k < 5 → N 36 k = M 13 k
theorem im_x (hL : L < 2 ^ 31) (hm : sx_mok cl_ly M) (h29 : 0 ≤ M 10 210 ∧ M 10 210 ≤ 29) : rz_fin (sh_Q (im_X M)) L xs 117 4 0 [(0, .ref 8)] [] M := by
  refine qs_use (zs := [M 9 4, M 9 5, M 9 6, M 9 7, M 10 210, M 12 0, M 12 1, M 12 2, M 12 3, M 12 4, M 12 5, M 13 0, M 13 1, M 13 2, M 13 3, M 13 4]) im1_c hL hm (qs_rd (show (0 : Int) ≤ 4 by decide) rfl (cx_fld (c := 9) (k := 4) (lo := 0) (hi := 6) hm (by decide +kernel)) (qs_rd (show (0 : Int) ≤ 5 by decide) rfl (cx_fld (c := 9) (k := 5) (lo := 0) (hi := 12) hm (by decide +kernel)) (qs_rd (show (0 : Int) ≤ 6 by decide) rfl (cv_ly_ok (g := (9, 6, sx_r32)) hm (by decide +kernel)) (qs_rd (show (0 : Int) ≤ 7 by decide) rfl (cv_ly_ok (g := (9, 7, sx_r32)) hm (by decide +kernel)) (qs_rd (show (0 : Int) ≤ 210 by decide) rfl h29 (qs_rd (show (0 : Int) ≤ 0 by decide) rfl (hm 12 _ 0 _ rfl (by decide) rfl) (qs_rd (show (0 : Int) ≤ 1 by decide) rfl (hm 12 _ 1 _ rfl (by decide) rfl) (qs_rd (show (0 : Int) ≤ 2 by decide) rfl (hm 12 _ 2 _ rfl (by decide) rfl) (qs_rd (show (0 : Int) ≤ 3 by decide) rfl (hm 12 _ 3 _ rfl (by decide) rfl) (qs_rd (show (0 : Int) ≤ 4 by decide) rfl (hm 12 _ 4 _ rfl (by decide) rfl) (qs_rd (show (0 : Int) ≤ 5 by decide) rfl (hm 12 _ 5 _ rfl (by decide) rfl) (qs_rd (show (0 : Int) ≤ 0 by decide) rfl (hm 13 _ 0 _ rfl (by decide) rfl) (qs_rd (show (0 : Int) ≤ 1 by decide) rfl (hm 13 _ 1 _ rfl (by decide) rfl) (qs_rd (show (0 : Int) ≤ 2 by decide) rfl (hm 13 _ 2 _ rfl (by decide) rfl) (qs_rd (show (0 : Int) ≤ 3 by decide) rfl (hm 13 _ 3 _ rfl (by decide) rfl) (qs_rd (show (0 : Int) ≤ 4 by decide) rfl (hm 13 _ 4 _ rfl (by decide) rfl) (qs_fin rfl))))))))))))))))) (Nat.le_refl _) rfl rfl (qs_c (fun N hN hc hM => ?_) qs_z)
  refine ⟨M 10 210, rfl, hN, rfl, fun a ha p q r => ?_, ⟨?_, ?_, ?_, ?_, ?_, ?_⟩, fun h hh => ?_, fun k hk => ?_⟩
  · exact (hM a ha).trans (qs_up_fr [34, 35, 36] (by rfl) (fun c hc => by simp only [List.mem_cons, List.not_mem_nil, or_false] at hc; omega))
  · rw [hM 34 (by decide), qs_up_gv]; rfl
  · rw [hM 34 (by decide), qs_up_gv]; rfl
  · rw [hM 34 (by decide), qs_up_gv]; rfl
  · rw [hM 34 (by decide), qs_up_gv]; rfl
  · rw [hM 34 (by decide), qs_up_gv]; rfl
  · rw [hM 34 (by decide), qs_up_gv]; rfl
  · have q : h = 0 ∨ h = 1 ∨ h = 2 ∨ h = 3 ∨ h = 4 ∨ h = 5 := by omega
    rcases q with rfl | rfl | rfl | rfl | rfl | rfl <;> (rw [hM 35 (by decide), qs_up_gv]; rfl)
  · have q : k = 0 ∨ k = 1 ∨ k = 2 ∨ k = 3 ∨ k = 4 := by omega
    rcases q with rfl | rfl | rfl | rfl | rfl <;> (rw [hM 36 (by decide), qs_up_gv]; rfl)
def im_M (M : Nat → Nat → Int) (z : Int) (N : Nat → Nat → Int) : Prop := z = M 53 13 ∧ (∀ a, a < 128 → a ≠ 53 → a ≠ 83 → a ≠ 84 → N a = M a) ∧ ((N 53 49 = 1 ∧ N 53 54 = M 53 13 ∧ N 53 50 = M 53 1 ∧ N 53 51 = M 53 8 ∧ N 53 52 = M 53 7 ∧ N 53 53 = M 53 11) ∧ ∀ j, ¬ (49 ≤ j ∧ j ≤ 54) → N 53 j = M 53 j) ∧ (∀ h, h < 6 → N 83 h = M 74 h) ∧ ∀ k, k < 5 → N 84 k = M 82 k
theorem im_m (hL : L < 2 ^ 31) (hm : sx_mok cl_ly M) : rz_fin (sh_Q (im_M M)) L xs 243 4 0 [(0, .ref 53)] [] M := by
  refine qs_use (zs := [M 53 1, M 53 8, M 53 7, M 53 11, M 53 13, M 74 0, M 74 1, M 74 2, M 74 3, M 74 4, M 74 5, M 82 0, M 82 1, M 82 2, M 82 3, M 82 4]) im2_c hL hm (qs_rd (show (0 : Int) ≤ 1 by decide) rfl (cx_fld (c := 53) (k := 1) (lo := 0) (hi := 6) hm (by decide +kernel)) (qs_rd (show (0 : Int) ≤ 8 by decide) rfl (cx_fld (c := 53) (k := 8) (lo := 0) (hi := 12) hm (by decide +kernel)) (qs_rd (show (0 : Int) ≤ 7 by decide) rfl (cv_ly_ok (g := (53, 7, sx_r32)) hm (by decide +kernel)) (qs_rd (show (0 : Int) ≤ 11 by decide) rfl (cv_ly_ok (g := (53, 11, sx_r32)) hm (by decide +kernel)) (qs_rd (show (0 : Int) ≤ 13 by decide) rfl (cx_fld (c := 53) (k := 13) (lo := 0) (hi := 29) hm (by decide +kernel)) (qs_rd (show (0 : Int) ≤ 0 by decide) rfl (hm 74 _ 0 _ rfl (by decide) rfl) (qs_rd (show (0 : Int) ≤ 1 by decide) rfl (hm 74 _ 1 _ rfl (by decide) rfl) (qs_rd (show (0 : Int) ≤ 2 by decide) rfl (hm 74 _ 2 _ rfl (by decide) rfl) (qs_rd (show (0 : Int) ≤ 3 by decide) rfl (hm 74 _ 3 _ rfl (by decide) rfl) (qs_rd (show (0 : Int) ≤ 4 by decide) rfl (hm 74 _ 4 _ rfl (by decide) rfl) (qs_rd (show (0 : Int) ≤ 5 by decide) rfl (hm 74 _ 5 _ rfl (by decide) rfl) (qs_rd (show (0 : Int) ≤ 0 by decide) rfl (hm 82 _ 0 _ rfl (by decide) rfl) (qs_rd (show (0 : Int) ≤ 1 by decide) rfl (hm 82 _ 1 _ rfl (by decide) rfl) (qs_rd (show (0 : Int) ≤ 2 by decide) rfl (hm 82 _ 2 _ rfl (by decide) rfl) (qs_rd (show (0 : Int) ≤ 3 by decide) rfl (hm 82 _ 3 _ rfl (by decide) rfl) (qs_rd (show (0 : Int) ≤ 4 by decide) rfl (hm 82 _ 4 _ rfl (by decide) rfl) (qs_fin rfl))))))))))))))))) (Nat.le_refl _) rfl rfl (qs_c (fun N hN hc hM => ?_) qs_z)
  refine ⟨M 53 13, rfl, hN, rfl, fun a ha p q r => ?_, ⟨⟨?_, ?_, ?_, ?_, ?_, ?_⟩, fun j p => ?_⟩, fun h hh => ?_, fun k hk => ?_⟩
  · exact (hM a ha).trans (qs_up_fr [53, 83, 84] (by rfl) (fun c hc => by simp only [List.mem_cons, List.not_mem_nil, or_false] at hc; omega))
  · rw [hM 53 (by decide), qs_up_gv]; rfl
  · rw [hM 53 (by decide), qs_up_gv]; rfl
  · rw [hM 53 (by decide), qs_up_gv]; rfl
  · rw [hM 53 (by decide), qs_up_gv]; rfl
  · rw [hM 53 (by decide), qs_up_gv]; rfl
  · rw [hM 53 (by decide), qs_up_gv]; rfl
  · exact (congrFun (hM 53 (by decide)) j).trans (qs_up_fj [49, 50, 51, 52, 53, 54] (by rfl) (fun c hc => by simp only [List.mem_cons, List.not_mem_nil, or_false] at hc; omega))
  · have q : h = 0 ∨ h = 1 ∨ h = 2 ∨ h = 3 ∨ h = 4 ∨ h = 5 := by omega
    rcases q with rfl | rfl | rfl | rfl | rfl | rfl <;> (rw [hM 83 (by decide), qs_up_gv]; rfl)
  · have q : k = 0 ∨ k = 1 ∨ k = 2 ∨ k = 3 ∨ k = 4 := by omega
    rcases q with rfl | rfl | rfl | rfl | rfl <;> (rw [hM 84 (by decide), qs_up_gv]; rfl)
theorem fs_im (hL : L < 2 ^ 31) (hI : la_I WF bs_cps M) (hS : fs_SS M) : fs_P WF L xs 0 117 243 [.ref 8] [.ref 53] (0, 29) M := by
  obtain ⟨e1, e2, -, e4, -, -, -⟩ := bs_eq hI
  have h29 : 0 ≤ M 10 210 ∧ M 10 210 ≤ 29 := hI.2.2.2.1
  obtain ⟨⟨s1, s2, s3, s4⟩, o, b1, b2, i, l⟩ := id hS.2
  obtain ⟨z, M1, A1, A2, rfl, x1, ⟨x2, x3, x4, x5, x6, x7⟩, x8, x9⟩ := lb_of (k := 117) (vs := [.ref 8]) (show 4 ≤ 99 by decide) (im_x (xs := xs) hL hI.1 h29)
  have e53 : M1 53 = M 53 := x1 53 (by decide) (by decide) (by decide) (by decide)
  obtain ⟨y, M2, B1, B2, rfl, y1, ⟨⟨y2, y3, y4, y5, y6, y7⟩, yj⟩, y8, y9⟩ := lb_of (k := 243) (vs := [.ref 53]) (show 4 ≤ 99 by decide) (im_m (xs := xs) hL A2)
  rw [e53, ← e4] at B1
  rw [e53] at y3 y4 y5 y6 y7
  have m : ∀ a, a < 128 → a ≠ 34 → a ≠ 35 → a ≠ 36 → a ≠ 53 → a ≠ 83 → a ≠ 84 → M2 a = M a := fun a ha p1 p2 p3 p4 p5 p6 => (y1 a ha p4 p5 p6).trans (x1 a ha p1 p2 p3)
  have z53 : ∀ j, ¬ (49 ≤ j ∧ j ≤ 54) → M2 53 j = M 53 j := fun j h => by rw [yj j h, e53]
  have z9 : M2 9 = M 9 := m 9 (by decide) (by decide) (by decide) (by decide) (by decide) (by decide) (by decide)
  have z10 : M2 10 = M 10 := m 10 (by decide) (by decide) (by decide) (by decide) (by decide) (by decide) (by decide)
  have z34 : M2 34 = M1 34 := y1 34 (by decide) (by decide) (by decide) (by decide)
  have z35 : M2 35 = M1 35 := y1 35 (by decide) (by decide) (by decide) (by decide)
  have z36 : M2 36 = M1 36 := y1 36 (by decide) (by decide) (by decide) (by decide)
  have e74 : M1 74 = M 74 := x1 74 (by decide) (by decide) (by decide) (by decide)
  have e82 : M1 82 = M 82 := x1 82 (by decide) (by decide) (by decide) (by decide)
  obtain ⟨g1, g2⟩ := gp_q (M2 := M2) hI hS B2 (fun a ha h => by
    unfold gp_n at h
    exact m a ha (by omega) (by omega) (by omega) (by omega) (by omega) (by omega)) (fun j _ _ => by rw [z9]) (fun j _ => by rw [z10]) (fun j h => by
    unfold gp_m at h
    exact z53 j (by omega)) (by rw [z10, z53 13 (by decide)]; exact e4) (by
    rw [z34, x2, y2]
    exact ⟨⟨by decide, by decide⟩, rfl⟩) (by
    rw [z34, x3, y3]
    exact ⟨h29, e4⟩) ⟨by rw [z9, z53 7 (by decide)]; exact s1, by rw [z9, z53 11 (by decide)]; exact s2, fun h hh => by
      rw [m 12 (by decide) (by decide) (by decide) (by decide) (by decide) (by decide) (by decide), m 74 (by decide) (by decide) (by decide) (by decide) (by decide) (by decide) (by decide)]
      exact s3 h hh, fun k hk => by
      rw [m 13 (by decide) (by decide) (by decide) (by decide) (by decide) (by decide) (by decide), m 82 (by decide) (by decide) (by decide) (by decide) (by decide) (by decide) (by decide)]
      exact s4 k hk⟩ (by rw [z9]; exact b1) (by rw [z9]; exact b2) ⟨⟨by rw [z34, x4, y4]; exact e1, by rw [z34, x5, y5]; exact e2, by rw [z34, x6, y6]; exact s1, by rw [z34, x7, y7]; exact s2⟩, fun h hh => by rw [z35, x8 h hh, y8 h hh, e74]; exact s3 h hh, fun k hk => by rw [z36, x9 k hk, y9 k hk, e82]; exact s4 k hk, by rw [z34, x6, x4]; exact b1, by rw [z34, x7, x5]; exact b2, by rw [z34, x4, z9]; exact Int.le_refl _, by rw [z34, x5, z9]; exact Int.le_refl _⟩
  exact ⟨M 10 210, M1, M2, h29, Or.inl ⟨rfl, og_w32 (by omega) (by omega)⟩, A1, A2, B1, B2, g1, g2⟩
/-- all of so many -/
def bk_m (n : Int) : Int := sx_mf 1 (sx_mf 8 1 n) 1
theorem bk_mc : ((List.range 13).all fun n => sx_eq (bk_m (n : Int)) (((2 ^ n : Nat) : Int) - 1)) = true := by decide +kernel
theorem bk_mv {n : Int} (h0 : 0 ≤ n) (h1 : n ≤ 12) : bk_m n = ((2 ^ n.toNat : Nat) : Int) - 1 := by
  obtain ⟨m, rfl⟩ := Int.eq_ofNat_of_zero_le h0
  rw [Int.toNat_natCast]
  exact sx_eq_iff.mp (List.all_eq_true.mp bk_mc m (List.mem_range.mpr (by omega)))
theorem bk_in {x n : Int} (h0 : 0 ≤ n) (h1 : n ≤ 12) (hx : fs_b x n) : sx_mf 3 x (bk_m n) = x := by
  rw [bk_mv h0 h1]
  obtain ⟨x0, x1⟩ := hx
  obtain ⟨a, rfl⟩ := Int.eq_ofNat_of_zero_le x0
  have q : 2 ^ n.toNat ≤ 2 ^ 31 := Nat.pow_le_pow_right (by decide) (by omega)
  have x1 : a < 2 ^ n.toNat := by omega
  rw [fd_mod (by omega) (by omega), Nat.mod_eq_of_lt x1]
/-- what was kept, and what is new since -/
def bk_s (S n x : Int) : Int := sx_mf 4 (sx_mf 3 S (sx_mf 5 (bk_m n) (-1))) x
theorem bk_b {S n x N : Int} (hn : n ≤ N) (hN : N ≤ 12) (hS : fs_b S N) (hx : fs_b x n) : fs_b (bk_s S n x) N := fs_un2 (by omega) (fs_an2 (by omega) hS) (fs_bm hx hn)
def bk_X (M : Nat → Nat → Int) (z : Int) (N : Nat → Nat → Int) : Prop := (z = -5 ∧ M 34 2 = 0 ∧ ∀ a, a < 128 → N a = M a) ∨ (z = M 34 3 ∧ M 34 2 ≠ 0 ∧ (∀ a, a < 128 → a ≠ 9 → a ≠ 10 → a ≠ 12 → a ≠ 13 → N a = M a) ∧ (N 9 6 = bk_s (M 9 6) (M 34 4) (M 34 6) ∧ N 9 7 = bk_s (M 9 7) (M 34 5) (M 34 7) ∧ ∀ j, j ≠ 6 → j ≠ 7 → N 9 j = M 9 j) ∧ (N 10 210 = M 34 3 ∧ ∀ j, j ≠ 210 → N 10 j = M 10 j) ∧ (∀ h, h < 6 → N 12 h = M 35 h) ∧ ∀ k, k < 5 → N 13 k = M 36 k)
theorem bk_x (hL : L < 2 ^ 31) (hm : sx_mok cl_ly M) (h2 : 0 ≤ M 34 2 ∧ M 34 2 ≤ 1) (h3 : 0 ≤ M 34 3 ∧ M 34 3 ≤ 29) (i6 : fs_b (M 34 6) (M 34 4)) (i7 : fs_b (M 34 7) (M 34 5)) : rz_fin (sh_Q (bk_X M)) L xs 119 4 0 [(0, .ref 8)] [] M := by
  refine qs_use (zs := [M 34 2, M 34 3, M 34 4, M 34 5, M 34 6, M 34 7, M 9 6, M 9 7, M 35 0, M 35 1, M 35 2, M 35 3, M 35 4, M 35 5, M 36 0, M 36 1, M 36 2, M 36 3, M 36 4]) ba1_c hL hm (qs_rd (show (0 : Int) ≤ 2 by decide) rfl h2 (qs_rd (show (0 : Int) ≤ 3 by decide) rfl h3 (qs_rd (show (0 : Int) ≤ 4 by decide) rfl (cx_fld (c := 34) (k := 4) (lo := 0) (hi := 6) hm (by decide +kernel)) (qs_rd (show (0 : Int) ≤ 5 by decide) rfl (cx_fld (c := 34) (k := 5) (lo := 0) (hi := 12) hm (by decide +kernel)) (qs_rd (show (0 : Int) ≤ 6 by decide) rfl (cv_ly_ok (g := (34, 6, sx_r32)) hm (by decide +kernel)) (qs_rd (show (0 : Int) ≤ 7 by decide) rfl (cv_ly_ok (g := (34, 7, sx_r32)) hm (by decide +kernel)) (qs_rd (show (0 : Int) ≤ 6 by decide) rfl (cv_ly_ok (g := (9, 6, sx_r32)) hm (by decide +kernel)) (qs_rd (show (0 : Int) ≤ 7 by decide) rfl (cv_ly_ok (g := (9, 7, sx_r32)) hm (by decide +kernel)) (qs_rd (show (0 : Int) ≤ 0 by decide) rfl (hm 35 _ 0 _ rfl (by decide) rfl) (qs_rd (show (0 : Int) ≤ 1 by decide) rfl (hm 35 _ 1 _ rfl (by decide) rfl) (qs_rd (show (0 : Int) ≤ 2 by decide) rfl (hm 35 _ 2 _ rfl (by decide) rfl) (qs_rd (show (0 : Int) ≤ 3 by decide) rfl (hm 35 _ 3 _ rfl (by decide) rfl) (qs_rd (show (0 : Int) ≤ 4 by decide) rfl (hm 35 _ 4 _ rfl (by decide) rfl) (qs_rd (show (0 : Int) ≤ 5 by decide) rfl (hm 35 _ 5 _ rfl (by decide) rfl) (qs_rd (show (0 : Int) ≤ 0 by decide) rfl (hm 36 _ 0 _ rfl (by decide) rfl) (qs_rd (show (0 : Int) ≤ 1 by decide) rfl (hm 36 _ 1 _ rfl (by decide) rfl) (qs_rd (show (0 : Int) ≤ 2 by decide) rfl (hm 36 _ 2 _ rfl (by decide) rfl) (qs_rd (show (0 : Int) ≤ 3 by decide) rfl (hm 36 _ 3 _ rfl (by decide) rfl) (qs_rd (show (0 : Int) ≤ 4 by decide) rfl (hm 36 _ 4 _ rfl (by decide) rfl) (qs_fin rfl)))))))))))))))))))) (Nat.le_refl _) rfl rfl (qs_c (fun u1 u2 u3 u4 u5 u6 u7 u8 u9 u10 u11 u12 N hN hc hM => ?_) (qs_c (fun u1 u2 u3 u4 u5 u6 u7 u8 u9 u10 u11 u12 N hN hc hM => ?_) qs_z))
  · have c1 : 0 ≤ M 34 2 ∧ M 34 2 ≤ 0 := hc.1
    exact ⟨-5, rfl, hN, Or.inl ⟨rfl, by omega, hM⟩⟩
  · obtain ⟨c0, c1, c2, c3, c4, c5, c6, c7, c8, c9, c10, c11, c12, -⟩ := hc
    have c0 : M 34 2 ≠ 0 := c0
    have c1 : u1 = sx_mf 8 1 (M 34 4) := c1
    have c2 : u2 = sx_mf 1 u1 1 := c2
    have c3 : u3 = sx_mf 8 1 (M 34 5) := c3
    have c4 : u4 = sx_mf 1 u3 1 := c4
    have c5 : u5 = sx_mf 3 (M 34 6) u2 := c5
    have c6 : u6 = sx_mf 5 u2 (-1) := c6
    have c7 : u7 = sx_mf 3 (M 9 6) u6 := c7
    have c8 : u8 = sx_mf 4 u5 u7 := c8
    have c9 : u9 = sx_mf 3 (M 34 7) u4 := c9
    have c10 : u10 = sx_mf 5 u4 (-1) := c10
    have c11 : u11 = sx_mf 3 (M 9 7) u10 := c11
    have c12 : u12 = sx_mf 4 u9 u11 := c12
    have n4 : 0 ≤ M 34 4 ∧ M 34 4 ≤ 6 := cx_fld (c := 34) (k := 4) (lo := 0) (hi := 6) hm (by decide +kernel)
    have n5 : 0 ≤ M 34 5 ∧ M 34 5 ≤ 12 := cx_fld (c := 34) (k := 5) (lo := 0) (hi := 12) hm (by decide +kernel)
    have v8 : u8 = bk_s (M 9 6) (M 34 4) (M 34 6) := by
      have e : u5 = M 34 6 := by
        rw [c5, c2, c1]
        exact bk_in n4.1 (by omega) i6
      rw [c8, fd_comm, e, c7, c6, c2, c1]
      rfl
    have v12 : u12 = bk_s (M 9 7) (M 34 5) (M 34 7) := by
      have e : u9 = M 34 7 := by
        rw [c9, c4, c3]
        exact bk_in n5.1 n5.2 i7
      rw [c12, fd_comm, e, c11, c10, c4, c3]
      rfl
    refine ⟨M 34 3, rfl, hN, Or.inr ⟨rfl, c0, fun a ha p q r s => ?_, ⟨?_, ?_, fun j p q => ?_⟩, ⟨?_, fun j p => ?_⟩, fun h hh => ?_, fun k hk => ?_⟩⟩
    · exact (hM a ha).trans (qs_up_fr [9, 10, 12, 13] (by rfl) (fun c hc => by simp only [List.mem_cons, List.not_mem_nil, or_false] at hc; omega))
    · rw [← v8, hM 9 (by decide), qs_up_gv]; rfl
    · rw [← v12, hM 9 (by decide), qs_up_gv]; rfl
    · exact (congrFun (hM 9 (by decide)) j).trans (qs_up_fj [6, 7] (by rfl) (fun c hc => by simp only [List.mem_cons, List.not_mem_nil, or_false] at hc; omega))
    · rw [hM 10 (by decide), qs_up_gv]; rfl
    · exact (congrFun (hM 10 (by decide)) j).trans (qs_up_fj [210] (by rfl) (fun c hc => by simp only [List.mem_cons, List.not_mem_nil, or_false] at hc; omega))
    · have q : h = 0 ∨ h = 1 ∨ h = 2 ∨ h = 3 ∨ h = 4 ∨ h = 5 := by omega
      rcases q with rfl | rfl | rfl | rfl | rfl | rfl <;> (rw [hM 12 (by decide), qs_up_gv]; rfl)
    · have q : k = 0 ∨ k = 1 ∨ k = 2 ∨ k = 3 ∨ k = 4 := by omega
      rcases q with rfl | rfl | rfl | rfl | rfl <;> (rw [hM 13 (by decide), qs_up_gv]; rfl)
def bk_M (M : Nat → Nat → Int) (z : Int) (N : Nat → Nat → Int) : Prop := (z = -5 ∧ M 53 49 = 0 ∧ ∀ a, a < 128 → N a = M a) ∨ (z = M 53 54 ∧ M 53 49 ≠ 0 ∧ (∀ a, a < 128 → a ≠ 53 → a ≠ 74 → a ≠ 82 → N a = M a) ∧ (N 53 7 = bk_s (M 53 7) (M 53 50) (M 53 52) ∧ N 53 11 = bk_s (M 53 11) (M 53 51) (M 53 53) ∧ N 53 13 = M 53 54 ∧ ∀ j, j ≠ 7 → j ≠ 11 → j ≠ 13 → N 53 j = M 53 j) ∧ (∀ h, h < 6 → N 74 h = M 83 h) ∧ ∀ k, k < 5 → N 82 k = M 84 k)
theorem bk_r (hL : L < 2 ^ 31) (hm : sx_mok cl_ly M) (h2 : 0 ≤ M 53 49 ∧ M 53 49 ≤ 1) (h3 : 0 ≤ M 53 54 ∧ M 53 54 ≤ 29) : rz_fin (sh_Q (bk_M M)) L xs 244 4 0 [(0, .ref 53)] [] M := by
  refine qs_use (zs := [M 53 49, M 53 54, M 53 50, M 53 51, M 53 52, M 53 53, M 53 7, M 53 11, M 83 0, M 83 1, M 83 2, M 83 3, M 83 4, M 83 5, M 84 0, M 84 1, M 84 2, M 84 3, M 84 4]) ba2_c hL hm (qs_rd (show (0 : Int) ≤ 49 by decide) rfl h2 (qs_rd (show (0 : Int) ≤ 54 by decide) rfl h3 (qs_rd (show (0 : Int) ≤ 50 by decide) rfl (cx_fld (c := 53) (k := 50) (lo := 0) (hi := 6) hm (by decide +kernel)) (qs_rd (show (0 : Int) ≤ 51 by decide) rfl (cx_fld (c := 53) (k := 51) (lo := 0) (hi := 12) hm (by decide +kernel)) (qs_rd (show (0 : Int) ≤ 52 by decide) rfl (cv_ly_ok (g := (53, 52, sx_r32)) hm (by decide +kernel)) (qs_rd (show (0 : Int) ≤ 53 by decide) rfl (cv_ly_ok (g := (53, 53, sx_r32)) hm (by decide +kernel)) (qs_rd (show (0 : Int) ≤ 7 by decide) rfl (cv_ly_ok (g := (53, 7, sx_r32)) hm (by decide +kernel)) (qs_rd (show (0 : Int) ≤ 11 by decide) rfl (cv_ly_ok (g := (53, 11, sx_r32)) hm (by decide +kernel)) (qs_rd (show (0 : Int) ≤ 0 by decide) rfl (hm 83 _ 0 _ rfl (by decide) rfl) (qs_rd (show (0 : Int) ≤ 1 by decide) rfl (hm 83 _ 1 _ rfl (by decide) rfl) (qs_rd (show (0 : Int) ≤ 2 by decide) rfl (hm 83 _ 2 _ rfl (by decide) rfl) (qs_rd (show (0 : Int) ≤ 3 by decide) rfl (hm 83 _ 3 _ rfl (by decide) rfl) (qs_rd (show (0 : Int) ≤ 4 by decide) rfl (hm 83 _ 4 _ rfl (by decide) rfl) (qs_rd (show (0 : Int) ≤ 5 by decide) rfl (hm 83 _ 5 _ rfl (by decide) rfl) (qs_rd (show (0 : Int) ≤ 0 by decide) rfl (hm 84 _ 0 _ rfl (by decide) rfl) (qs_rd (show (0 : Int) ≤ 1 by decide) rfl (hm 84 _ 1 _ rfl (by decide) rfl) (qs_rd (show (0 : Int) ≤ 2 by decide) rfl (hm 84 _ 2 _ rfl (by decide) rfl) (qs_rd (show (0 : Int) ≤ 3 by decide) rfl (hm 84 _ 3 _ rfl (by decide) rfl) (qs_rd (show (0 : Int) ≤ 4 by decide) rfl (hm 84 _ 4 _ rfl (by decide) rfl) (qs_fin rfl)))))))))))))))))))) (Nat.le_refl _) rfl rfl (qs_c (fun u1 u2 u3 u4 u5 u6 u7 u8 u9 u10 N hN hc hM => ?_) (qs_c (fun u1 u2 u3 u4 u5 u6 u7 u8 u9 u10 N hN hc hM => ?_) qs_z))
  · have c1 : 0 ≤ M 53 49 ∧ M 53 49 ≤ 0 := hc.1
    exact ⟨-5, rfl, hN, Or.inl ⟨rfl, by omega, hM⟩⟩
  · obtain ⟨c0, c1, c2, c3, c4, c5, c6, c7, c8, c9, c10, -⟩ := hc
    have c0 : M 53 49 ≠ 0 := c0
    have c1 : u1 = sx_mf 8 1 (M 53 50) := c1
    have c2 : u2 = sx_mf 1 u1 1 := c2
    have c3 : u3 = sx_mf 5 u2 (-1) := c3
    have c4 : u4 = sx_mf 3 (M 53 7) u3 := c4
    have c5 : u5 = sx_mf 4 u4 (M 53 52) := c5
    have c6 : u6 = sx_mf 8 1 (M 53 51) := c6
    have c7 : u7 = sx_mf 1 u6 1 := c7
    have c8 : u8 = sx_mf 5 u7 (-1) := c8
    have c9 : u9 = sx_mf 3 (M 53 11) u8 := c9
    have c10 : u10 = sx_mf 4 u9 (M 53 53) := c10
    have v8 : u5 = bk_s (M 53 7) (M 53 50) (M 53 52) := by
      rw [c5, c4, c3, c2, c1]
      rfl
    have v12 : u10 = bk_s (M 53 11) (M 53 51) (M 53 53) := by
      rw [c10, c9, c8, c7, c6]
      rfl
    refine ⟨M 53 54, rfl, hN, Or.inr ⟨rfl, c0, fun a ha p q r => ?_, ⟨?_, ?_, ?_, fun j p q r => ?_⟩, fun h hh => ?_, fun k hk => ?_⟩⟩
    · exact (hM a ha).trans (qs_up_fr [53, 74, 82] (by rfl) (fun c hc => by simp only [List.mem_cons, List.not_mem_nil, or_false] at hc; omega))
    · rw [← v8, hM 53 (by decide), qs_up_gv]; rfl
    · rw [← v12, hM 53 (by decide), qs_up_gv]; rfl
    · rw [hM 53 (by decide), qs_up_gv]; rfl
    · exact (congrFun (hM 53 (by decide)) j).trans (qs_up_fj [7, 11, 13] (by rfl) (fun c hc => by simp only [List.mem_cons, List.not_mem_nil, or_false] at hc; omega))
    · have q : h = 0 ∨ h = 1 ∨ h = 2 ∨ h = 3 ∨ h = 4 ∨ h = 5 := by omega
      rcases q with rfl | rfl | rfl | rfl | rfl | rfl <;> (rw [hM 74 (by decide), qs_up_gv]; rfl)
    · have q : k = 0 ∨ k = 1 ∨ k = 2 ∨ k = 3 ∨ k = 4 := by omega
      rcases q with rfl | rfl | rfl | rfl | rfl <;> (rw [hM 82 (by decide), qs_up_gv]; rfl)
theorem fs_bk (hL : L < 2 ^ 31) (hI : la_I WF bs_cps M) (hS : fs_SS M) : fs_P WF L xs 0 119 244 [.ref 8] [.ref 53] (-5, 29) M := by
  obtain ⟨e1, e2, -, e4, -, ⟨k1, k2⟩, ⟨k3, k4⟩⟩ := bs_eq hI
  have h4 := cx_fld (c := 9) (k := 4) (lo := 0) (hi := 6) hI.1 (by decide +kernel)
  have h5 := cx_fld (c := 9) (k := 5) (lo := 0) (hi := 12) hI.1 (by decide +kernel)
  have k3' : 0 ≤ M 34 3 ∧ M 34 3 ≤ 29 := k3
  obtain ⟨⟨s1, s2, s3, s4⟩, o, b1, b2, i, l⟩ := id hS.2
  obtain ⟨⟨i1, i2, i3, i4⟩, i5, i6, i7, i8, i9, i10⟩ := id i
  obtain ⟨z, M1, A1, A2, A3⟩ := lb_of (k := 119) (vs := [.ref 8]) (show 4 ≤ 99 by decide) (bk_x (xs := xs) hL hI.1 k1 k3 i7 i8)
  unfold bk_X at A3
  have f1 : ∀ a, a < 128 → a ≠ 9 → a ≠ 10 → a ≠ 12 → a ≠ 13 → M1 a = M a := by
    rcases A3 with ⟨-, -, c⟩ | ⟨-, -, c, -⟩
    · exact fun a ha _ _ _ _ => c a ha
    · exact c
  have e53 : M1 53 = M 53 := f1 53 (by decide) (by decide) (by decide) (by decide) (by decide)
  obtain ⟨y, M2, B1, B2, B3⟩ := lb_of (k := 244) (vs := [.ref 53]) (show 4 ≤ 99 by decide) (bk_r (xs := xs) hL A2 (by rw [e53, ← k2]; exact k1) (by rw [e53, ← k4]; exact k3))
  unfold bk_M at B3
  rw [e53, ← k2, ← k4] at B3
  rcases A3 with ⟨rfl, x1, x2⟩ | ⟨rfl, x1, x2, ⟨x3, x4, x5⟩, ⟨x6, x7⟩, x8, x9⟩
  · rcases B3 with ⟨rfl, y1, y2⟩ | ⟨-, y1, -⟩
    · obtain ⟨g1, g2⟩ := fs_q WF_zs hI hS B2 ⟨fun a ha _ => (y2 a ha).trans (x2 a ha), fun j _ => by rw [y2 53 (by decide), e53]⟩
      exact ⟨-5, M1, M2, ⟨by decide, by decide⟩, Or.inl ⟨rfl, og_w32 (by decide) (by decide)⟩, A1, A2, B1, B2, g1, g2⟩
    · exact absurd x1 y1
  · rcases B3 with ⟨-, y1, -⟩ | ⟨rfl, y1, y2, ⟨y3, y4, y5, y6⟩, y7, y8⟩
    · exact absurd y1 x1
    · have m : ∀ a, a < 128 → a ≠ 9 → a ≠ 10 → a ≠ 12 → a ≠ 13 → a ≠ 53 → a ≠ 74 → a ≠ 82 → M2 a = M a := fun a ha p1 p2 p3 p4 p5 p6 p7 => (y2 a ha p5 p6 p7).trans (x2 a ha p1 p2 p3 p4)
      have z : ∀ a ∈ [34, 35, 36, 83, 84], M2 a = M a := fun a ha => by
        simp only [List.mem_cons, List.not_mem_nil, or_false] at ha
        exact m a (by omega) (by omega) (by omega) (by omega) (by omega) (by omega) (by omega) (by omega)
      have m9 : M2 9 = M1 9 := y2 9 (by decide) (by decide) (by decide) (by decide)
      have m10 : M2 10 = M1 10 := y2 10 (by decide) (by decide) (by decide) (by decide)
      have m12 : M2 12 = M1 12 := y2 12 (by decide) (by decide) (by decide) (by decide)
      have m13 : M2 13 = M1 13 := y2 13 (by decide) (by decide) (by decide) (by decide)
      have e83 : M1 83 = M 83 := f1 83 (by decide) (by decide) (by decide) (by decide) (by decide)
      have e84 : M1 84 = M 84 := f1 84 (by decide) (by decide) (by decide) (by decide) (by decide)
      have z9 : ∀ j, j ≠ 6 → j ≠ 7 → M2 9 j = M 9 j := fun j p q => by rw [m9, x5 j p q]
      obtain ⟨q2, q3, q4⟩ := gp_I (M2 := M2) hI i (z 34 (by decide)) (z 35 (by decide)) (z 36 (by decide)) (z 83 (by decide)) (z 84 (by decide)) (fun j h1 h2 => y6 j (by omega) (by omega) (by omega)) (z9 4 (by decide) (by decide)) (z9 5 (by decide) (by decide))
      obtain ⟨g1, g2⟩ := gp_q (M2 := M2) hI hS B2 (fun a ha h => by
        unfold gp_n at h
        exact m a ha (by omega) (by omega) (by omega) (by omega) (by omega) (by omega) (by omega)) z9 (fun j p => by rw [m10, x7 j p]) (fun j h => by
        unfold gp_m at h
        exact y6 j (by omega) (by omega) (by omega)) (by rw [m10, x6, y5]) q2 q3 ⟨by rw [m9, x3, y3, s1, i1, i3], by rw [m9, x4, y4, s2, i2, i4], fun h hh => by rw [m12, x8 h hh, y7 h hh, e83]; exact i5 h hh, fun k hk => by rw [m13, x9 k hk, y8 k hk, e84]; exact i6 k hk⟩ (by
        rw [m9, x3]
        exact bk_b i9 (by omega) b1 i7) (by
        rw [m9, x4]
        exact bk_b i10 h5.2 b2 i8) q4
      exact ⟨M 34 3, M1, M2, ⟨by show (-5 : Int) ≤ _; omega, k3'.2⟩, Or.inl ⟨rfl, og_w32 (by omega) (by omega)⟩, A1, A2, B1, B2, g1, g2⟩
end
