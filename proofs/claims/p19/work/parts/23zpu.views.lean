/-! Who is visited, by what both sides begin with. -/
section
variable {L : Nat} {xs : Nat → Int32} {M M' N N' V X Y : Nat → Nat → Int} {k t h d e nc H : Nat}
def vo1_i : List qs_I := [(0, 0, (0, 0), (0, 29))]
def vo1_T : List og_T := [(some 1, none, [(2, 0, 21)], [(0, 2, 0, 21), (1, 0, 9, 0)], [], [])]
theorem vo1_c : qs_chk (fun pc => Nat.beq pc 1) vo1_i 0 vo1_T 400 400 20 89 0 [(0, 2, 0, 21), (1, 0, 9, 0)] [] = true := by decide +kernel
def vo2_i : List qs_I := [(0, 0, (0, 0), (0, 29)), (1, 10, (0, 210), (0, 29))]
def vo2_T : List og_T := [(some 15, none, [], [(0, 2, 0, 21), (1, 0, 9, 0), (2, 0, 0, -2), (3, 0, 10, 0)], [], [])]
theorem vo2_c : qs_chk (fun pc => Nat.beq pc 15) vo2_i 0 vo2_T 400 400 20 89 4 [(0, 2, 0, 21), (1, 0, 9, 0)] [] = true := by decide +kernel
def vo3_i : List qs_I := [(0, 0, (0, 0), (0, 29)), (0, 0, (0, 0), (-2, 5)), (0, 0, (0, 0), (0, 29)), (3, 11, (9, 0), (0, 0))]
def vo3_T : List og_T := [(some 22, none, [(0, 11, 0), (2, 0, 21)], [(0, 2, 0, 21), (1, 0, 9, 0), (2, 0, 10, 0), (3, 0, 11, 0)], [], [])]
theorem vo3_c : qs_chk (fun pc => Nat.beq pc 22) vo3_i 0 vo3_T 400 400 20 89 15 [(0, 2, 0, 21), (1, 0, 9, 0), (2, 0, 10, 0), (3, 0, 11, 0)] [] = true := by decide +kernel
def vo4_i : List qs_I := [(0, 0, (0, 0), (0, 29)), (0, 0, (0, 0), (-2, 5)), (0, 0, (0, 0), (0, 30)), (2, 11, (9, 0), (0, 0))]
def vo4_T : List og_T := [(none, some (0, 10, 0), [], [], [], [])]
theorem vo4_c : qs_chk (fun pc => Nat.beq pc 22) vo4_i 0 vo4_T 400 400 20 89 15 [(0, 2, 0, 21), (1, 0, 9, 0), (2, 0, 10, 0), (3, 0, 11, 0)] [] = true := by decide +kernel
def vo5_i : List qs_I := [(0, 0, (0, 0), (0, 29)), (0, 0, (0, 0), (-2, 5)), (0, 0, (0, 0), (0, 29)), (0, 0, (0, 0), (-2, 5))]
def vo5_T : List og_T := [(some 15, none, [], [(0, 2, 0, 21), (1, 0, 9, 0), (2, 0, 12, 0), (3, 0, 11, 1)], [], [])]
theorem vo5_c : qs_chk (fun pc => Nat.beq pc 15) vo5_i 0 vo5_T 400 400 20 89 25 [(0, 2, 0, 21), (1, 0, 9, 0), (2, 0, 10, 0), (3, 0, 11, 0)] [(0, 12, 0)] = true := by decide +kernel
def vi1_i : List qs_I := [(0, 0, (0, 0), (0, 5)), (0, 0, (0, 0), (0, 29))]
def vi1_T : List og_T := [(some 2, none, [(0, 10, 0), (2, 0, 53)], [(0, 2, 0, 53), (1, 0, 9, 0), (2, 0, 10, 0)], [], [])]
theorem vi1_c : qs_chk (fun pc => Nat.beq pc 2) vi1_i 0 vi1_T 400 400 20 217 0 [(0, 2, 0, 53), (1, 0, 9, 0), (2, 0, 10, 0)] [] = true := by decide +kernel
def vi2_i : List qs_I := [(0, 0, (0, 0), (0, 5)), (0, 0, (0, 0), (0, 29)), (1, 77, (10, 0), sx_r32)]
def vi2_T : List og_T := [(none, some (0, 0, 1), [], [], [], [(0, (11, 0), (0, 0), 0, 5), (3, (11, 0), (9, 0), 0, 0)]), (none, some (0, 0, 0), [], [], [], [(4, (11, 0), (9, 0), 0, 0)])]
theorem vi2_c : qs_chk (fun _ => false) vi2_i 0 vi2_T 400 400 20 217 5 [(0, 2, 0, 53), (1, 0, 9, 0), (2, 0, 10, 0)] [] = true := by decide +kernel
/-- what a side's thinking begins with, as far as days go: of the class, of the reference -/
def pv (V X : Nat → Nat → Int) : Prop := (X 10 = V 10 ∧ X 11 = V 11 ∧ X 53 33 = V 53 33 ∧ X 67 = V 67 ∧ X 68 = V 68 ∧ X 69 0 = V 69 0 ∧ X 70 = V 70 ∧ X 71 = V 71) ∧ X 21 6 = V 9 7 ∧ X 21 8 = V 9 6 ∧ ∀ h, h < 6 → X 23 h = V 12 h
def mv (V : Nat → Nat → Int) (H : Nat) (Y : Nat → Nat → Int) : Prop := (Y 55 = V 55 ∧ Y 56 = V 56 ∧ Y 57 = V 57 ∧ Y 59 = V 59 ∧ Y 60 = V 60 ∧ Y 61 = V 61 ∧ Y 53 33 = V 53 33 ∧ Y 67 = V 67 ∧ Y 68 = V 68 ∧ Y 69 0 = V 69 0 ∧ Y 70 = V 70 ∧ Y 71 = V 71) ∧ Y 53 35 = V 53 7 ∧ Y 53 36 = V 53 11 ∧ ∀ h, h < H → Y 75 h = V 74 h
theorem fv_lk (hA : fs_A V nc H) (hX : pv V X) (hY : mv V H Y) {d h : Nat} (hd : d < 30) (hh : h < 6) (b : Int) : ms_lk Y d h b = vs_lk X d h b := by
  obtain ⟨-, b1, b2, b3, -⟩ := hA
  obtain ⟨⟨x10, x11, x33, x67, x68, x69, x70, x71⟩, -⟩ := hX
  obtain ⟨⟨y55, y56, y57, y59, y60, y61, y33, y67, y68, y69, y70, y71⟩, -⟩ := hY
  obtain ⟨c1, c2, c3, -⟩ := b2 h hh
  have c4 := b3 d hd
  unfold ms_lk vs_lk vq_X vq_Y
  rw [y56, y57, y61, y55, x10, c1, c2, c3, c4]
  exact vq_like_M (y33.trans x33.symm) (y69.trans x69.symm) (y67.trans x67.symm) (y68.trans x68.symm) (y70.trans x70.symm) (y71.trans x71.symm)
/-- both sides think alike -/
theorem fv_T (hA : fs_A V nc H) (hX : pv V X) (hY : mv V H Y) (k d : Nat) (hd : d + k ≤ 30) : vq_E H (vs_T X nc k d (X 21 6, X 23)) (ms_T Y nc k d (Y 53 36, Y 75)) ∧ (d + k < 30 → ms_cd Y nc (d + k) (ms_T Y nc k d (Y 53 36, Y 75)) = vs_cd X nc (d + k) (vs_T X nc k d (X 21 6, X 23)) ∧ vq_hs (Y 59) (vs_cd X nc (d + k) (vs_T X nc k d (X 21 6, X 23))) = vq_hs (X 11) (vs_cd X nc (d + k) (vs_T X nc k d (X 21 6, X 23)))) := by
  have hA0 := hA
  have hX0 := hX
  have hY0 := hY
  obtain ⟨⟨a1, a2, a3, a4, a5⟩, b1, b2, b3, b4, b5⟩ := hA
  obtain ⟨⟨x10, x11, -⟩, x3, x4, x5⟩ := hX
  obtain ⟨⟨-, -, -, y59, y60, -⟩, y3, y4, y5⟩ := hY
  have hS : Y 53 35 = X 21 8 := by rw [y3, x4, b4]
  have hD : ∀ c, c < nc → (Y 60) c = vs_D X c ∧ (Y 59) c = (X 11) c ∧ 0 ≤ (X 11) c ∧ (X 11) c < (H : Int) := fun c hc => by
    obtain ⟨c1, c2, c3, c4⟩ := b1 c hc
    unfold vs_D
    rw [y60, y59, x10, x11]
    exact ⟨c1, c2, c3, c4⟩
  have hl : ∀ d h b, d < 30 → h < H → ms_lk Y d h b = vs_lk X d h b := fun d h b hd hh => fv_lk hA0 hX0 hY0 hd (by omega) b
  have hE : vq_E H (X 21 6, X 23) (Y 53 36, Y 75) := by
    refine ⟨?_, fun h hh => ?_⟩
    · show X 21 6 = Y 53 36
      rw [x3, y4, b5]
    · show X 23 h = Y 75 h
      rw [x5 h (by omega), y5 h hh]
      exact (b2 h (by omega)).2.2.2
  have E := vq_T_eq (S := X 21 8) hD hl (fun d h b => (vq_held_r _).2) k d _ _ hd hE
  have E : vq_E H (vs_T X nc k d (X 21 6, X 23)) (ms_T Y nc k d (Y 53 36, Y 75)) := by
    unfold ms_T
    rw [hS]
    exact E
  refine ⟨E, fun hk => ⟨?_, ?_⟩⟩
  · unfold ms_cd vs_cd
    rw [hS]
    exact vq_cd_eq hD (fun h b hh => hl (d + k) h b hk hh) E
  · have r : vs_cd X nc (d + k) (vs_T X nc k d (X 21 6, X 23)) < (nc : Int) := (vq_cd_r (fun d h b => (vq_held_r _).2)).2
    unfold vq_hs
    by_cases c0 : vs_cd X nc (d + k) (vs_T X nc k d (X 21 6, X 23)) < 0
    · rw [if_pos c0, if_pos c0]
    · rw [if_neg c0, if_neg c0, (hD _ (by omega)).2.1]
def pv_0 (V : Nat → Nat → Int) : Nat → Nat → Int := fun a j => if a = 21 then (if j = 6 then V 9 7 else if j = 8 then V 9 6 else V 21 j) else if a = 23 then V 12 j else V a j
def mv_0 (V : Nat → Nat → Int) : Nat → Nat → Int := fun a j => if a = 53 then (if j = 35 then V 53 7 else if j = 36 then V 53 11 else V 53 j) else if a = 75 then V 74 j else V a j
theorem pv_00 : pv V (pv_0 V) := ⟨⟨rfl, rfl, rfl, rfl, rfl, rfl, rfl, rfl⟩, rfl, rfl, fun _ _ => rfl⟩
theorem mv_00 : mv V H (mv_0 V) := ⟨⟨rfl, rfl, rfl, rfl, rfl, rfl, rfl, rfl, rfl, rfl, rfl, rfl⟩, rfl, rfl, fun _ _ => rfl⟩
/-- whose house is visited, of a day d, as days are thought from day t on -/
def vi (V : Nat → Nat → Int) (nc t d : Nat) : Int := fa_h (pv_0 V) nc t d
def vj (Y : Nat → Nat → Int) (nc t d : Nat) : Int := vq_hs (Y 59) (ms_cd Y nc d (ms_T Y nc (d - t) t (Y 53 36, Y 75)))
theorem vi_xy (hA : fs_A V nc H) (hX : pv V X) (hY : mv V H Y) (h1 : t ≤ d) (h2 : d < 30) : vj Y nc t d = fa_h X nc t d := by
  have E := (fv_T hA hX hY (d - t) t (by omega)).2 (by omega)
  rw [show t + (d - t) = d by omega] at E
  unfold vj fa_h
  rw [E.1]
  exact E.2
theorem vi_x (hA : fs_A V nc H) (hX : pv V X) (h1 : t ≤ d) (h2 : d < 30) : fa_h X nc t d = vi V nc t d := (vi_xy hA hX mv_00 h1 h2).symm.trans (vi_xy hA pv_00 mv_00 h1 h2)
theorem vi_y (hA : fs_A V nc H) (hY : mv V H Y) (h1 : t ≤ d) (h2 : d < 30) : vj Y nc t d = vi V nc t d := vi_xy hA pv_00 hY h1 h2
theorem vi_r (hA : fs_A V nc H) : -1 ≤ vi V nc t d ∧ vi V nc t d < (H : Int) := by
  obtain ⟨⟨-, -, -, -, -⟩, b1, -⟩ := hA
  have r : -1 ≤ vs_cd (pv_0 V) nc d (vs_T (pv_0 V) nc (d - t) t ((pv_0 V) 21 6, (pv_0 V) 23)) ∧ vs_cd (pv_0 V) nc d (vs_T (pv_0 V) nc (d - t) t ((pv_0 V) 21 6, (pv_0 V) 23)) < (nc : Int) := vq_cd_r (fun d h b => (vq_held_r _).2)
  unfold vi fa_h
  generalize vs_cd (pv_0 V) nc d (vs_T (pv_0 V) nc (d - t) t ((pv_0 V) 21 6, (pv_0 V) 23)) = c at r
  unfold vq_hs
  by_cases c0 : c < 0
  · rw [if_pos c0]
    omega
  · rw [if_neg c0]
    have := b1 c.toNat (by omega)
    show -1 ≤ V 11 c.toNat ∧ V 11 c.toNat < (H : Int)
    omega
/-- as the class begins, at a memory that is V as far as days go -/
theorem pv_of (h : ∀ a, a = 9 ∨ a = 10 ∨ a = 11 ∨ a = 12 ∨ a = 53 ∨ (67 ≤ a ∧ a ≤ 71) → M a = V a) (hX : pb_Q M none X) : pv V X := by
  obtain ⟨-, -, x1, x2, x3, x4, x5⟩ := hX
  have e : ∀ a, a < 128 → a ≠ 21 → a ≠ 23 → (a = 9 ∨ a = 10 ∨ a = 11 ∨ a = 12 ∨ a = 53 ∨ (67 ≤ a ∧ a ≤ 71)) → X a = V a := fun a h1 h2 h3 h4 => (x1 a h1 h2 h3).trans (h a h4)
  have z : ∀ a, (a = 9 ∨ a = 10 ∨ a = 11 ∨ a = 12 ∨ a = 53 ∨ (67 ≤ a ∧ a ≤ 71)) → X a = V a := fun a h4 => e a (by omega) (by omega) (by omega) h4
  refine ⟨⟨z 10 (by decide), z 11 (by decide), by rw [z 53 (by decide)], z 67 (by decide), z 68 (by decide), by rw [z 69 (by decide)], z 70 (by decide), z 71 (by decide)⟩, by rw [x3, h 9 (by decide)], by rw [x4, h 9 (by decide)], fun g hg => by rw [x5 g hg, h 12 (by decide)]⟩
theorem mv_of (h : ∀ a, a = 55 ∨ a = 56 ∨ a = 57 ∨ a = 59 ∨ a = 60 ∨ a = 61 ∨ a = 74 ∨ (67 ≤ a ∧ a ≤ 71) → M a = V a) (h53 : ∀ j, j = 7 ∨ j = 11 ∨ j = 33 → M 53 j = V 53 j) (hY : my_Q M H none Y) : mv V H Y := by
  obtain ⟨-, -, y1, y2, y3, y4, y5⟩ := hY
  have z : ∀ a, (a = 55 ∨ a = 56 ∨ a = 57 ∨ a = 59 ∨ a = 60 ∨ a = 61 ∨ a = 74 ∨ (67 ≤ a ∧ a ≤ 71)) → Y a = V a := fun a q => (y1 a (by omega) (by omega) (by omega)).trans (h a q)
  refine ⟨⟨z 55 (by decide), z 56 (by decide), z 57 (by decide), z 59 (by decide), z 60 (by decide), z 61 (by decide), by rw [y2 33 (by decide) (by decide), h53 33 (by decide)], z 67 (by decide), z 68 (by decide), by rw [z 69 (by decide)], z 70 (by decide), z 71 (by decide)⟩, by rw [y3, h53 7 (by decide)], by rw [y4, h53 11 (by decide)], fun g hg => by rw [y5 g, if_pos hg, h 74 (by decide)]⟩
theorem wr_ten (hw : WF M) (hR : vu_R M) (f : ∀ a, a < 128 → a ≠ 10 → ¬ (19 ≤ a ∧ a ≤ 31) → N a = M a) : WF N ∧ vu_R N := by
  refine ⟨WF_zs M N (fun k hk => ?_) hw, vu_M (f 16 (by decide) (by decide) (by decide)) (by rw [f 14 (by decide) (by decide) (by decide)]) (by rw [f 53 (by decide) (by decide) (by decide)]) (f 67 (by decide) (by decide) (by decide)) (f 68 (by decide) (by decide) (by decide)) (f 69 (by decide) (by decide) (by decide)) (f 70 (by decide) (by decide) (by decide)) (f 71 (by decide) (by decide) (by decide)) hR⟩
  simp only [cz_zs, List.mem_cons, List.not_mem_nil, or_false] at hk
  exact f k (by omega) (by omega) (by omega)
theorem wr_ref (hw : WF M) (hR : vu_R M) (f : ∀ a, a = 14 ∨ a = 16 ∨ (67 ≤ a ∧ a ≤ 71) → N a = M a) (f33 : N 53 33 = M 53 33) : WF N ∧ vu_R N := by
  refine ⟨WF_zs M N (fun k hk => ?_) hw, vu_M (f 16 (by decide)) (by rw [f 14 (by decide)]) f33 (f 67 (by decide)) (f 68 (by decide)) (f 69 (by decide)) (f 70 (by decide)) (f 71 (by decide)) hR⟩
  simp only [cz_zs, List.mem_cons, List.not_mem_nil, or_false] at hk
  exact f k (by omega)
theorem fa_w (hm : sx_mok cl_ly N) (hF : vs_F X N) (h12 : nc ≤ 12) : -2 ≤ vq_or (fa_h X nc t d) ∧ vq_or (fa_h X nc t d) ≤ 5 := by
  have rg : -1 ≤ vs_cd X nc d (vs_T X nc (d - t) t (X 21 6, X 23)) ∧ vs_cd X nc d (vs_T X nc (d - t) t (X 21 6, X 23)) < (nc : Int) := vq_cd_r (fun d h b => (vq_held_r _).2)
  unfold fa_h vq_or vq_hs
  by_cases hc : vs_cd X nc d (vs_T X nc (d - t) t (X 21 6, X 23)) < 0
  · rw [if_pos hc]
    decide
  · rw [if_neg hc]
    have w11 : 0 ≤ X 11 (vs_cd X nc d (vs_T X nc (d - t) t (X 21 6, X 23))).toNat ∧ X 11 (vs_cd X nc d (vs_T X nc (d - t) t (X 21 6, X 23))).toNat ≤ 5 := by
      rw [← hF.1 11 (by decide) (by decide)]
      exact hm 11 _ _ _ rfl (by show (vs_cd X nc d (vs_T X nc (d - t) t (X 21 6, X 23))).toNat < 12; omega) rfl
    split <;> omega
/-- the class: who is visited on a day -/
theorem vo_loop (hL : L < 2 ^ 31) (hw : WF X) (hR : vu_R X) (hn : X 9 5 = (nc : Int)) (h12 : nc ≤ 12) (hte : t ≤ e) (he : e ≤ 29) : ∀ (k d : Nat) (z : Int) (M' : Nat → Nat → Int), d + k = e + 1 → t ≤ d → (-2 ≤ z ∧ z ≤ 5) → (k = 0 → z = vq_or (fa_h X nc t e)) → sx_mok cl_ly M' → vs_F X M' → vs_P (vs_T X nc (d - t) t (X 21 6, X 23)) M' → rz_fin (fun r N => r = some (.int (Int32.ofInt (vq_or (fa_h X nc t e)))) ∧ sx_mok cl_ly N ∧ vs_F X N) L xs 89 20 15 [(0, .ref 21), (1, .int (Int32.ofInt (e : Int))), (2, .int (Int32.ofInt z)), (3, .int (Int32.ofInt (d : Int)))] [] M' := by
  intro k
  induction k with
  | zero =>
    intro d z M' hd ht hz h0 hm F P
    have hz0 := h0 rfl
    subst hz0
    refine qs_use (zs := [(e : Int), vq_or (fa_h X nc t e), (d : Int)]) vo4_c hL hm (qs_in (show 0 ≤ (e : Int) ∧ (e : Int) ≤ 29 by omega) (qs_in hz (qs_in (show 0 ≤ (d : Int) ∧ (d : Int) ≤ 30 by omega) (qs_lt (show (e : Int) < (d : Int) by omega) (qs_fin rfl))))) (Nat.le_refl _) rfl rfl (qs_c (fun N1 hN1 hc hM => ?_) qs_z)
    have fN1 : ∀ a, a < 128 → N1 a = M' a := hM
    exact ⟨rfl, hN1, vs_Fr F fN1⟩
  | succ k ih =>
    intro d z M' hd ht hz h0 hm F P
    refine qs_use (zs := [(e : Int), z, (d : Int)]) vo3_c hL hm (qs_in (show 0 ≤ (e : Int) ∧ (e : Int) ≤ 29 by omega) (qs_in hz (qs_in (show 0 ≤ (d : Int) ∧ (d : Int) ≤ 29 by omega) (qs_ge (show ¬ (e : Int) < (d : Int) by omega) (qs_fin rfl))))) (Nat.le_refl _) rfl rfl (qs_c (fun N1 hN1 hc hM => ?_) qs_z)
    have fN1 : ∀ a, a < 128 → N1 a = M' a := hM
    have F2 := vs_Fr F fN1
    have P2 : vs_P (vs_T X nc (d - t) t (X 21 6, X 23)) N1 := ⟨by rw [fN1 21 (by decide)]; exact P.1, fun h => by rw [fN1 23 (by decide)]; exact P.2 h⟩
    show rz_fin _ L xs 89 20 22 [(0, .ref 21), (1, .int (Int32.ofInt (e : Int))), (2, .int (Int32.ofInt z)), (3, .int (Int32.ofInt (d : Int)))] [.int (Int32.ofInt (d : Int)), .ref 21] N1
    refine qs_vc (k := 56) (b := 21) (d := 19) (d' := 19) (rest := []) rfl rfl rfl rfl rfl rfl rfl rfl (Nat.le_refl _) rfl (rz_d (by decide) (vs_spend (xs := xs) (nc := nc) (d := d) hL hN1 (by omega) hw hR hn F2 P2)) (fun r9 N2 hr => ?_)
    obtain ⟨rfl, hN2, F3, P3⟩ := hr
    have wv := fa_w (t := t) (d := d) hN2 F3 h12
    refine qs_use (zs := [(e : Int), z, (d : Int), vq_or (fa_h X nc t d)]) vo5_c hL hN2 (qs_in (show 0 ≤ (e : Int) ∧ (e : Int) ≤ 29 by omega) (qs_in hz (qs_in (show 0 ≤ (d : Int) ∧ (d : Int) ≤ 29 by omega) (qs_in wv (qs_fin rfl))))) (Nat.le_refl _) rfl rfl (qs_c (fun N3 hN3 hc hM => ?_) qs_z)
    have fN3 : ∀ a, a < 128 → N3 a = N2 a := hM
    have e1 : vs_T X nc (d + 1 - t) t (X 21 6, X 23) = vq_nx (vs_D X) (X 11) (vs_T X nc (d - t) t (X 21 6, X 23)) (vs_cd X nc d (vs_T X nc (d - t) t (X 21 6, X 23))) := by
      have q := vq_T_succ (D := vs_D X) (W := X 11) (lk := vs_lk X) (S := X 21 8) (nc := nc) (d - t) t (X 21 6, X 23)
      rw [show t + (d - t) = d by omega, show d - t + 1 = d + 1 - t by omega] at q
      exact q
    have P4 : vs_P (vs_T X nc (d + 1 - t) t (X 21 6, X 23)) N3 := by
      rw [e1]
      exact ⟨by rw [fN3 21 (by decide)]; exact P3.1, fun h => by rw [fN3 23 (by decide)]; exact P3.2 h⟩
    exact ih (d + 1) (vq_or (fa_h X nc t d)) N3 (by omega) (by omega) wv (fun q => by rw [show d = e by omega]) hN3 (vs_Fr F3 fN3) P4
theorem vo_x (hL : L < 2 ^ 31) (hm : sx_mok cl_ly M) (hw : WF M) (hR : vu_R M) (hn : M 9 5 = (nc : Int)) (h12 : nc ≤ 12) (ht : M 10 210 = (t : Int)) (hte : t ≤ e) (he : e ≤ 29) : rz_fin (fun r N => ∃ X, pb_Q M none X ∧ vs_F X N ∧ sx_mok cl_ly N ∧ r = some (.int (Int32.ofInt (vq_or (fa_h X nc t e))))) L xs 89 20 0 [(0, .ref 21), (1, .int (Int32.ofInt (e : Int)))] [] M := by
  refine qs_use (zs := [(e : Int)]) vo1_c hL hm (qs_in (show 0 ≤ (e : Int) ∧ (e : Int) ≤ 29 by omega) (qs_fin rfl)) (Nat.le_refl _) rfl rfl (qs_c (fun N1 hN1 hc hM => ?_) qs_z)
  have f1 : ∀ a, a < 128 → N1 a = M a := hM
  show rz_fin _ L xs 89 20 1 [(0, .ref 21), (1, .int (Int32.ofInt (e : Int)))] [.ref 21] N1
  refine qs_vc (k := 54) (b := 21) (d := 19) (d' := 19) (rest := []) rfl rfl rfl rfl rfl rfl rfl rfl (Nat.le_refl _) rfl (rz_d (by decide) (pb_begin (xs := xs) hL hN1)) (fun r9 X hX => ?_)
  have hr : r9 = none := hX.1
  subst hr
  have hX := pb_tr f1 hX
  have x10 : X 10 = M 10 := hX.2.2.1 10 (by decide) (by decide) (by decide)
  refine qs_use (zs := [(e : Int), (t : Int)]) vo2_c hL hX.2.1 (qs_in (show 0 ≤ (e : Int) ∧ (e : Int) ≤ 29 by omega) (qs_rd (show (0 : Int) ≤ 210 by decide) (by rw [x10]; exact ht) (show 0 ≤ (t : Int) ∧ (t : Int) ≤ 29 by omega) (qs_fin rfl))) (Nat.le_refl _) rfl rfl (qs_c (fun N2 hN2 hc hM => ?_) qs_z)
  have hX := pb_tl hX hN2 (show ∀ a, a < 128 → N2 a = X a from hM)
  obtain ⟨wX, rX⟩ := pb_keep hw hR hX
  have x9 : N2 9 = M 9 := hX.2.2.1 9 (by decide) (by decide) (by decide)
  refine qs_w (vo_loop (xs := xs) (t := t) (nc := nc) (e := e) (X := N2) hL wX rX (by rw [x9]; exact hn) h12 hte he (e + 1 - t) t (-2) N2 (by omega) (Nat.le_refl _) (by decide) (fun q => by omega) hN2 vs_F_rfl (by rw [Nat.sub_self]; exact ⟨rfl, fun h => rfl⟩)) (fun r N g => ?_)
  obtain ⟨rfl, g2, g3⟩ := g
  exact ⟨N2, hX, g3, g2, rfl⟩
/-- the reference: is a house visited on a day -/
theorem vi_ref (hL : L < 2 ^ 31) (hm : sx_mok cl_ly M) (hw : WF M) (hR : vu_R M) (hH : M 53 1 = (H : Int)) (hn : M 53 8 = (nc : Int)) (ht : M 53 13 = (t : Int)) (hte : t ≤ e) (he : e ≤ 29) (hh : h ≤ 5) : rz_fin (fun r N => ∃ Y, my_Q M H none Y ∧ ms_F Y N ∧ sx_mok cl_ly N ∧ r = some (.int (Int32.ofInt (if vj Y nc t e = (h : Int) then 1 else 0)))) L xs 217 20 0 [(0, .ref 53), (1, .int (Int32.ofInt (h : Int))), (2, .int (Int32.ofInt (e : Int)))] [] M := by
  refine qs_use (zs := [(h : Int), (e : Int)]) vi1_c hL hm (qs_in (show 0 ≤ (h : Int) ∧ (h : Int) ≤ 5 by omega) (qs_in (show 0 ≤ (e : Int) ∧ (e : Int) ≤ 29 by omega) (qs_fin rfl))) (Nat.le_refl _) rfl rfl (qs_c (fun N1 hN1 hc hM => ?_) qs_z)
  have f1 : ∀ a, a < 128 → N1 a = M a := hM
  obtain ⟨w1, r1⟩ := wr_same hw hR f1
  have o53 : N1 53 = M 53 := f1 53 (by decide)
  show rz_fin _ L xs 217 20 2 [(0, .ref 53), (1, .int (Int32.ofInt (h : Int))), (2, .int (Int32.ofInt (e : Int)))] [.int (Int32.ofInt (e : Int)), .ref 53] N1
  refine qs_vc (k := 190) (b := 53) (d := 19) (d' := 19) (rest := []) rfl rfl rfl rfl rfl rfl rfl rfl (Nat.le_refl _) rfl (rz_d (by decide) (mt_goto (xs := xs) (H := H) (nc := nc) (t := t) (k := e + 1 - t) (e := (e : Int)) hL hN1 (by omega) w1 r1 (by rw [o53]; exact hH) (by rw [o53]; exact hn) (by rw [o53]; exact ht) (by omega))) (fun r9 N2 hr => ?_)
  obtain ⟨rfl, hN2, Y, hY, wY, rY, F2, P2, O2⟩ := hr
  have hY := my_tr f1 hY
  have o := (O2 (e - t) (by omega)).2
  rw [show t + (e - t) = e by omega] at o
  have o : N2 77 e = vj Y nc t e := o
  have w77 : sx_w sx_r32 (vj Y nc t e) := by rw [← o]; exact hN2 77 _ e _ rfl (by show e < 30; omega) rfl
  refine qs_use (zs := [(h : Int), (e : Int), vj Y nc t e]) vi2_c hL hN2 (qs_in (show 0 ≤ (h : Int) ∧ (h : Int) ≤ 5 by omega) (qs_in (show 0 ≤ (e : Int) ∧ (e : Int) ≤ 29 by omega) (qs_rd (show 0 ≤ (e : Int) by omega) o w77 (qs_fin rfl)))) (Nat.le_refl _) rfl rfl (qs_c (fun N3 hN3 hc hM => ?_) (qs_c (fun N3 hN3 hc hM => ?_) qs_z))
  · obtain ⟨c1, c2, -⟩ := hc
    have c1 : 0 ≤ vj Y nc t e ∧ vj Y nc t e ≤ 5 := c1
    have c2 : vj Y nc t e = (h : Int) := c2
    have fN3 : ∀ a, a < 128 → N3 a = N2 a := hM
    exact ⟨Y, hY, ms_Fr F2 fN3, hN3, by rw [if_pos c2]; rfl⟩
  · obtain ⟨c1, -⟩ := hc
    have c1 : ¬ vj Y nc t e = (h : Int) := c1
    have fN3 : ∀ a, a < 128 → N3 a = N2 a := hM
    exact ⟨Y, hY, ms_Fr F2 fN3, hN3, by rw [if_neg c1]; rfl⟩
end
