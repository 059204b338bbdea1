/-! How many days of twelve: the class weighs days. -/
section
variable {L : Nat} {xs : Nat → Int32} {M M' N N' M1 X : Nat → Nat → Int} {k n t h d nc H i : Nat} {r : Int} {T : Int × (Nat → Int)} {Q : Option Value → (Nat → Nat → Int) → Prop}
def wd1_i : List qs_I := [(0, 0, (0, 0), (0, 8))]
def wd1_T : List og_T := [(some 27, none, [(2, 0, 21)], [(0, 2, 0, 21), (1, 0, 9, 0)], [(24, (0, 5), (0, 1)), (24, (0, 4), (0, 1)), (24, (0, 3), (0, 1)), (24, (0, 2), (0, 1)), (24, (0, 1), (0, 1)), (24, (0, 0), (0, 1)), (21, (0, 5), (0, 1))], [])]
theorem wd1_c : qs_chk (fun pc => Nat.beq pc 27) wd1_i 0 wd1_T 400 400 20 74 0 [(0, 2, 0, 21), (1, 0, 9, 0)] [] = true := by decide +kernel
def wd2_i : List qs_I := [(0, 0, (0, 0), (0, 8)), (1, 10, (0, 210), (0, 29))]
def wd2_T : List og_T := [(some 47, none, [], [(0, 2, 0, 21), (1, 0, 9, 0), (2, 0, 11, 0), (3, 0, 0, 0)], [], [(0, (9, 0), (0, 0), 2, 8), (0, (11, 0), (0, 0), 1, 7), (1, (11, 0), (9, 0), 0, 0), (5, (0, 30), (10, 0), 1, 11)]), (some 47, none, [], [(0, 2, 0, 21), (1, 0, 9, 0), (2, 0, 9, 0), (3, 0, 0, 0)], [], [(0, (11, 0), (0, 0), 1, 30), (2, (11, 0), (9, 0), 0, 0), (5, (0, 30), (10, 0), 1, 11)])]
theorem wd2_c : qs_chk (fun pc => Nat.beq pc 47) wd2_i 1 wd2_T 400 400 20 74 30 [(0, 2, 0, 21), (1, 0, 9, 0)] [] = true := by decide +kernel
def wd4_i : List qs_I := [(0, 0, (0, 0), (0, 8)), (0, 0, (0, 0), (0, 8)), (0, 0, (0, 0), (0, 8)), (0, 0, (0, 0), (0, 29)), (0, 0, (0, 0), sx_r32), (1, 21, (0, 5), sx_r64)]
def wd4_T : List og_T := [(some 86, none, [], [(0, 2, 0, 21), (1, 0, 9, 0), (2, 0, 10, 0), (3, 0, 11, 0), (4, 0, 12, 0), (5, 0, 13, 0), (6, 0, 0, 0)], [(21, (0, 5), (15, 0))], [(5, (14, 0), (0, 12), 34, 15)])]
theorem wd4_c : qs_chk (fun pc => Nat.beq pc 86) wd4_i 1 wd4_T 400 400 20 74 69 [(0, 2, 0, 21), (1, 0, 9, 0), (2, 0, 10, 0), (3, 0, 11, 0), (4, 0, 12, 0)] [(0, 13, 0)] = true := by decide +kernel
def wd5_i : List qs_I := [(0, 0, (0, 0), (0, 8)), (0, 0, (0, 0), (0, 8)), (0, 0, (0, 0), (0, 7)), (0, 0, (0, 0), (0, 29)), (0, 0, (0, 0), sx_r32), (0, 0, (0, 0), (0, 5)), (1, 9, (0, 4), (0, 6)), (2, 15, (14, 0), (0, 0)), (1, 24, (14, 0), sx_r64), (1, 10, (14, 30), (-1, 143)), (1, 10, (12, 150), (-1, 143))]
def wd5_T : List og_T := [(some 86, none, [], [(0, 2, 0, 21), (1, 0, 9, 0), (2, 0, 10, 0), (3, 0, 11, 0), (4, 0, 12, 0), (5, 0, 13, 0), (6, 0, 14, 1)], [(24, (14, 0), (19, 0))], [(0, (13, 0), (0, 0), 0, 5), (3, (14, 0), (13, 0), 0, 0), (5, (16, 0), (0, 12), 34, 19)]), (some 86, none, [], [(0, 2, 0, 21), (1, 0, 9, 0), (2, 0, 10, 0), (3, 0, 11, 0), (4, 0, 12, 0), (5, 0, 13, 0), (6, 0, 14, 1)], [(24, (14, 0), (22, 0))], [(4, (14, 0), (13, 0), 0, 0), (5, (17, 0), (18, 0), 2, 19), (5, (19, 0), (0, 9), 6, 20), (5, (0, 12), (20, 0), 1, 21), (5, (16, 0), (21, 0), 34, 22)])]
theorem wd5_c : qs_chk (fun pc => bif Nat.beq pc 47 then true else Nat.beq pc 86) wd5_i 4 wd5_T 400 400 20 74 86 [(0, 2, 0, 21), (1, 0, 9, 0), (2, 0, 10, 0), (3, 0, 11, 0), (4, 0, 12, 0), (5, 0, 13, 0), (6, 0, 14, 0)] [] = true := by decide +kernel
def wd6_i : List qs_I := [(0, 0, (0, 0), (0, 8)), (0, 0, (0, 0), (0, 8)), (0, 0, (0, 0), (0, 7)), (0, 0, (0, 0), (0, 29)), (0, 0, (0, 0), sx_r32), (0, 0, (0, 0), (0, 6)), (1, 9, (0, 4), (0, 6)), (3, 15, (14, 0), (0, 0))]
def wd6_T : List og_T := [(some 47, none, [], [(0, 2, 0, 21), (1, 0, 9, 0), (2, 0, 10, 0), (3, 0, 11, 1)], [], [])]
theorem wd6_c : qs_chk (fun pc => bif Nat.beq pc 47 then true else Nat.beq pc 86) wd6_i 0 wd6_T 400 400 20 74 86 [(0, 2, 0, 21), (1, 0, 9, 0), (2, 0, 10, 0), (3, 0, 11, 0), (4, 0, 12, 0), (5, 0, 13, 0), (6, 0, 14, 0)] [] = true := by decide +kernel
def wd7_i : List qs_I := [(0, 0, (0, 0), (0, 8)), (0, 0, (0, 0), (0, 8)), (0, 0, (0, 0), (0, 8)), (3, 10, (11, 0), (0, 0))]
def wd7_T : List og_T := [(none, none, [], [], [], [])]
theorem wd7_c : qs_chk (fun _ => false) wd7_i 0 wd7_T 400 400 20 74 47 [(0, 2, 0, 21), (1, 0, 9, 0), (2, 0, 10, 0), (3, 0, 11, 0)] [] = true := by decide +kernel
def wd8_i : List qs_I := [(0, 0, (0, 0), (0, 8)), (0, 0, (0, 0), (0, 8)), (0, 0, (0, 0), (0, 7)), (1, 10, (0, 210), (0, 29)), (2, 10, (11, 0), (0, 0))]
def wd8_T : List og_T := [(some 66, none, [(0, 13, 0), (2, 0, 21)], [(0, 2, 0, 21), (1, 0, 9, 0), (2, 0, 10, 0), (3, 0, 11, 0), (4, 0, 13, 0)], [], [(0, (13, 0), (0, 0), 0, 36), (5, (12, 0), (11, 0), 0, 13)])]
theorem wd8_c : qs_chk (fun pc => Nat.beq pc 66) wd8_i 1 wd8_T 400 400 20 74 47 [(0, 2, 0, 21), (1, 0, 9, 0), (2, 0, 10, 0), (3, 0, 11, 0)] [] = true := by decide +kernel
/-- what weighing leaves as thinking began it -/
def wk_F (X M : Nat → Nat → Int) : Prop := (∀ a, a < 128 → ¬ (19 ≤ a ∧ a ≤ 24) → M a = X a) ∧ ∀ j, j ≠ 5 → j ≠ 6 → M 21 j = X 21 j
theorem wk_keep (hw : WF X) (hR : vu_R X) (h : wk_F X M) : WF M ∧ vu_R M ∧ ∀ g d b, vq_X M g d b = vq_X X g d b := by
  have e : ∀ a, a < 128 → ¬ (19 ≤ a ∧ a ≤ 24) → M a = X a := h.1
  refine ⟨WF_zs X M (fun k hk => ?_) hw, vu_M (e 16 (by decide) (by decide)) (by rw [e 14 (by decide) (by decide)]) (by rw [e 53 (by decide) (by decide)]) (e 67 (by decide) (by decide)) (e 68 (by decide) (by decide)) (e 69 (by decide) (by decide)) (e 70 (by decide) (by decide)) (e 71 (by decide) (by decide)) hR, fun g d b => ?_⟩
  · simp only [cz_zs, List.mem_cons, List.not_mem_nil, or_false] at hk
    exact e k (by omega) (by omega)
  · unfold vq_X
    rw [e 10 (by decide) (by decide)]
    exact vq_like_M (by rw [e 53 (by decide) (by decide)]) (by rw [e 69 (by decide) (by decide)]) (e 67 (by decide) (by decide)) (e 68 (by decide) (by decide)) (e 70 (by decide) (by decide)) (e 71 (by decide) (by decide))
theorem wk_ch (hP : vs_P T M) (hX : ∀ g d b, vq_X M g d b = vq_X X g d b) (h : wk_F X M) : (vr_ch M d nc).1 = vs_cd X nc d T := by
  have e10 : M 10 = X 10 := h.1 10 (by decide) (by decide)
  have e11 : M 11 = X 11 := h.1 11 (by decide) (by decide)
  have e8 : M 21 8 = X 21 8 := h.2 8 (by decide) (by decide)
  have e5 : vr_lk M d = fun g => vs_lk X d g (T.2 g) := by
    funext g
    unfold vr_lk vs_lk
    rw [hX, hP.2 g]
  have e6 : (fun c => M 10 (c + 180)) = vs_D X := by
    funext c
    unfold vs_D
    rw [e10]
  unfold vr_ch vs_cd vq_cd
  rw [e5, e6, e11, e8, hP.1]
/-- a day, while days are weighed -/
theorem wk_spend (hL : L < 2 ^ 31) (hm : sx_mok cl_ly M) (hd : d ≤ 29) (hw : WF X) (hR : vu_R X) (hn : X 9 5 = (nc : Int)) (hF : wk_F X M) (hP : vs_P T M) : rz_fin (fun r N => r = some (.int (Int32.ofInt (vq_or (vq_hs (X 11) (vs_cd X nc d T))))) ∧ sx_mok cl_ly N ∧ wk_F X N ∧ vs_P (vq_nx (vs_D X) (X 11) T (vs_cd X nc d T)) N ∧ N 24 = M 24 ∧ N 21 5 = M 21 5) L xs 56 8 0 [(0, .ref 21), (1, .int (Int32.ofInt (d : Int)))] [] M := by
  obtain ⟨w, v, e⟩ := wk_keep hw hR hF
  have e10 : M 10 = X 10 := hF.1 10 (by decide) (by decide)
  have e11 : M 11 = X 11 := hF.1 11 (by decide) (by decide)
  have g := vp_spend (xs := xs) (nc := nc) hL hm hd w v (by rw [hF.1 9 (by decide) (by decide)]; exact hn)
  rw [wk_ch (nc := nc) hP e hF] at g
  refine qs_w g (fun r N q => ?_)
  obtain ⟨q1, q2, q3, q4⟩ := q
  rw [e11] at q1
  refine ⟨q1, q2, ⟨fun a ha hn => ?_, fun j p5 p6 => ?_⟩, ?_, q3.1 24 (by decide) (by decide), q3.2 5 (by decide)⟩
  · rw [q3.1 a ha (by omega)]
    exact hF.1 a ha hn
  · rw [q3.2 j p6]
    exact hF.2 j p5 p6
  · have e6 : vs_D M = vs_D X := by
      funext c
      unfold vs_D
      rw [e10]
    rw [e6, e11, hP.1, show M 23 = T.2 from funext hP.2] at q4
    exact q4
def wd_lv (n k i d : Int) (r : Int) (h : Int) : sm_V := [(0, .ref 21), (1, .int (Int32.ofInt n)), (2, .int (Int32.ofInt k)), (3, .int (Int32.ofInt i)), (4, .int (Int32.ofInt d)), (5, .int (Int32.ofInt r)), (6, .int (Int32.ofInt h))]
/-- house by house -/
theorem wd_in (hL : L < 2 ^ 31) (hm1 : sx_mok cl_ly M1) (h4 : M1 9 4 = (H : Int)) (h6 : H ≤ 6) (hn : n ≤ 8) (hk : k ≤ 8) (hi : i ≤ 7) (hd : d ≤ 29) (wr : sx_w sx_r32 r) (K : ∀ N, sx_mok cl_ly N → (∀ a, a < 128 → a ≠ 24 → N a = M1 a) → (∀ g, g < H → N 24 g = sx_mf 34 (M1 24 g) (bk (fun h => M1 10 (30 + h)) (fun d => M1 10 (150 + d)) (fun _ => r) g d)) → rz_fin Q L xs 74 20 47 [(0, .ref 21), (1, .int (Int32.ofInt (n : Int))), (2, .int (Int32.ofInt (k : Int))), (3, .int (Int32.ofInt ((i : Int) + 1)))] [] N) : ∀ (m h : Nat) (M' : Nat → Nat → Int), h + m = H → sx_mok cl_ly M' → (∀ a, a < 128 → a ≠ 24 → M' a = M1 a) → (∀ g, g < H → M' 24 g = if g < h then sx_mf 34 (M1 24 g) (bk (fun h => M1 10 (30 + h)) (fun d => M1 10 (150 + d)) (fun _ => r) g d) else M1 24 g) → rz_fin Q L xs 74 20 86 (wd_lv (n : Int) (k : Int) (i : Int) (d : Int) r (h : Int)) [] M' := by
  intro m
  induction m with
  | zero =>
    intro h M' hh hm hf hg
    have e : h = H := by omega
    subst e
    refine qs_use (zs := [(n : Int), (k : Int), (i : Int), (d : Int), r, (h : Int), (h : Int)]) wd6_c hL hm (qs_in (show 0 ≤ (n : Int) ∧ (n : Int) ≤ 8 by omega) (qs_in (show 0 ≤ (k : Int) ∧ (k : Int) ≤ 8 by omega) (qs_in (show 0 ≤ (i : Int) ∧ (i : Int) ≤ 7 by omega) (qs_in (show 0 ≤ (d : Int) ∧ (d : Int) ≤ 29 by omega) (qs_iw wr (qs_in (show 0 ≤ (h : Int) ∧ (h : Int) ≤ 6 by omega) (qs_rd (show (0 : Int) ≤ 4 by decide) (by rw [hf 9 (by decide) (by decide)]; exact h4) (show 0 ≤ (h : Int) ∧ (h : Int) ≤ 6 by omega) (qs_ge (show ¬ (h : Int) < (h : Int) by omega) (qs_fin rfl))))))))) (Nat.le_refl _) rfl rfl (qs_c (fun N hN hc hM => ?_) qs_z)
    have fN : ∀ a, a < 128 → N a = M' a := hM
    exact K N hN (fun a ha q => (fN a ha).trans (hf a ha q)) (fun g q => by rw [fN 24 (by decide), hg g q, if_pos q])
  | succ m ih =>
    intro h M' hh hm hf hg
    have w24 : sx_w sx_r64 (M1 24 h) := hm1 24 _ h _ rfl (by show h < 6; omega) rfl
    have w1 := cx_m10 hm1 (k := 30 + h) (by omega)
    have w2 := cx_m10 hm1 (k := 150 + d) (by omega)
    have e10 : M' 10 = M1 10 := hf 10 (by decide) (by decide)
    refine qs_use (zs := [(n : Int), (k : Int), (i : Int), (d : Int), r, (h : Int), (H : Int), M1 24 h, M1 10 (30 + h), M1 10 (150 + d)]) wd5_c hL hm (qs_in (show 0 ≤ (n : Int) ∧ (n : Int) ≤ 8 by omega) (qs_in (show 0 ≤ (k : Int) ∧ (k : Int) ≤ 8 by omega) (qs_in (show 0 ≤ (i : Int) ∧ (i : Int) ≤ 7 by omega) (qs_in (show 0 ≤ (d : Int) ∧ (d : Int) ≤ 29 by omega) (qs_iw wr (qs_in (show 0 ≤ (h : Int) ∧ (h : Int) ≤ 5 by omega) (qs_rd (show (0 : Int) ≤ 4 by decide) (by rw [hf 9 (by decide) (by decide)]; exact h4) (show 0 ≤ (H : Int) ∧ (H : Int) ≤ 6 by omega) (qs_lt (show (h : Int) < (H : Int) by omega) (qs_rd (show 0 ≤ (h : Int) by omega) ((hg h (by omega)).trans (if_neg (Nat.lt_irrefl _))) w24 (qs_rd (show 0 ≤ (h : Int) + 30 by omega) (by
      show M' 10 ((h : Int) + 30).toNat = M1 10 (30 + h)
      rw [e10, show ((h : Int) + 30).toNat = 30 + h by omega]) w1 (qs_rd (show 0 ≤ (d : Int) + 150 by omega) (by
      show M' 10 ((d : Int) + 150).toNat = M1 10 (150 + d)
      rw [e10, show ((d : Int) + 150).toNat = 150 + d by omega]) w2 (qs_fin rfl)))))))))))) (Nat.le_refl _) rfl rfl (qs_c (fun u1 u2 u3 u4 N hN hc hM => ?_) (qs_c (fun u1 u2 u3 u4 N hN hc hM => ?_) qs_z))
    · have c2 : (h : Int) = r := hc.2.1
      have c3 : u1 = sx_mf 34 (M1 24 h) 12 := hc.2.2.1
      have fN : ∀ a, a < 128 → N a = sx_up M' 24 h u1 a := hM
      refine ih (h + 1) N (by omega) hN (fun a ha q => by rw [fN a ha, sh_une q]; exact hf a ha q) (fun g q => ?_)
      rw [fN 24 (by decide)]
      by_cases gh : g = h
      · rw [gh, sh_uat, if_pos (Nat.lt_succ_self h), c3]
        show _ = sx_mf 34 _ (if r = (h : Int) then 12 else _)
        rw [if_pos c2.symm]
      · rw [sh_unj gh, hg g q]
        by_cases g2 : g < h
        · rw [if_pos g2, if_pos (by omega)]
        · rw [if_neg g2, if_neg (by omega)]
    · obtain ⟨c2, c3, c4, c5, c6, -⟩ := hc
      have c2 : ¬ (h : Int) = r := c2
      have c3 : u1 = sx_mf 2 (M1 10 (30 + h)) (M1 10 (150 + d)) := c3
      have c4 : u2 = sx_mf 6 u1 9 := c4
      have c5 : u3 = sx_mf 1 12 u2 := c5
      have c6 : u4 = sx_mf 34 (M1 24 h) u3 := c6
      have fN : ∀ a, a < 128 → N a = sx_up M' 24 h u4 a := hM
      refine ih (h + 1) N (by omega) hN (fun a ha q => by rw [fN a ha, sh_une q]; exact hf a ha q) (fun g q => ?_)
      rw [fN 24 (by decide)]
      by_cases gh : g = h
      · rw [gh, sh_uat, if_pos (Nat.lt_succ_self h), c6, c5, c4, c3]
        show _ = sx_mf 34 _ (if r = (h : Int) then 12 else _)
        rw [if_neg (fun q => c2 q.symm)]
      · rw [sh_unj gh, hg g q]
        by_cases g2 : g < h
        · rw [if_pos g2, if_pos (by omega)]
        · rw [if_neg g2, if_neg (by omega)]
theorem vq_or_n {z : Int} {g : Nat} : vq_or z = (g : Int) ↔ z = (g : Int) := by
  unfold vq_or
  split <;> omega
/-- after so many days that were weighed -/
def wd_S (X : Nat → Nat → Int) (nc H t j : Nat) (M : Nat → Nat → Int) : Prop := wk_F X M ∧ vs_P (vs_T X nc j t (X 21 6, X 23)) M ∧ M 21 5 = xii j ∧ ∀ g, g < H → M 24 g = pr (fun i => bk (fun h => X 10 (30 + h)) (fun d => X 10 (150 + d)) (fa_h X nc t) g (t + i)) j
theorem wd_loop (hL : L < 2 ^ 31) (hw : WF X) (hR : vu_R X) (h5 : X 9 5 = (nc : Int)) (h12 : nc ≤ 12) (h4 : X 9 4 = (H : Int)) (h6 : H ≤ 6) (ht : X 10 210 = (t : Int)) (hn : n ≤ 8) (hk : k ≤ 8) (hk2 : t + k ≤ 30) : ∀ (m j : Nat) (M' : Nat → Nat → Int), j + m = k → sx_mok cl_ly M' → wd_S X nc H t j M' → rz_fin (fun r N => r = none ∧ sx_mok cl_ly N ∧ wd_S X nc H t k N) L xs 74 20 47 [(0, .ref 21), (1, .int (Int32.ofInt (n : Int))), (2, .int (Int32.ofInt (k : Int))), (3, .int (Int32.ofInt (j : Int)))] [] M' := by
  intro m
  induction m with
  | zero =>
    intro j M' hj hm hS
    have e : j = k := by omega
    subst e
    refine qs_use (zs := [(n : Int), (j : Int), (j : Int)]) wd7_c hL hm (qs_in (show 0 ≤ (n : Int) ∧ (n : Int) ≤ 8 by omega) (qs_in (show 0 ≤ (j : Int) ∧ (j : Int) ≤ 8 by omega) (qs_in (show 0 ≤ (j : Int) ∧ (j : Int) ≤ 8 by omega) (qs_ge (show ¬ (j : Int) < (j : Int) by omega) (qs_fin rfl))))) (Nat.le_refl _) rfl rfl (qs_c (fun N hN hc hM => ?_) qs_z)
    have fN : ∀ a, a < 128 → N a = M' a := hM
    obtain ⟨⟨f1, f2⟩, p, q5, q24⟩ := hS
    exact ⟨rfl, hN, ⟨fun a ha q => (fN a ha).trans (f1 a ha q), fun j a b => by rw [fN 21 (by decide)]; exact f2 j a b⟩, ⟨by rw [fN 21 (by decide)]; exact p.1, fun h => by rw [fN 23 (by decide)]; exact p.2 h⟩, by rw [fN 21 (by decide)]; exact q5, fun g hg => by rw [fN 24 (by decide)]; exact q24 g hg⟩
  | succ m ih =>
    intro j M' hj hm hS
    obtain ⟨⟨f1, f2⟩, p, q5, q24⟩ := hS
    refine qs_use (zs := [(n : Int), (k : Int), (j : Int), (t : Int)]) wd8_c hL hm (qs_in (show 0 ≤ (n : Int) ∧ (n : Int) ≤ 8 by omega) (qs_in (show 0 ≤ (k : Int) ∧ (k : Int) ≤ 8 by omega) (qs_in (show 0 ≤ (j : Int) ∧ (j : Int) ≤ 7 by omega) (qs_rd (show (0 : Int) ≤ 210 by decide) (by rw [f1 10 (by decide) (by decide)]; exact ht) (show 0 ≤ (t : Int) ∧ (t : Int) ≤ 29 by omega) (qs_lt (show (j : Int) < (k : Int) by omega) (qs_fin rfl)))))) (Nat.le_refl _) rfl rfl (qs_c (fun u1 M2 hm2 hc hM2 => ?_) qs_z)
    have c2 : u1 = sx_mf 0 (t : Int) (j : Int) := hc.2.1
    rw [mf_add (by omega) (by omega)] at c2
    have c2 : u1 = ((t + j : Nat) : Int) := by omega
    subst c2
    have g2 : ∀ a, a < 128 → M2 a = M' a := hM2
    have F2 : wk_F X M2 := ⟨fun a ha q => (g2 a ha).trans (f1 a ha q), fun j a b => by rw [g2 21 (by decide)]; exact f2 j a b⟩
    have P2 : vs_P (vs_T X nc j t (X 21 6, X 23)) M2 := ⟨by rw [g2 21 (by decide)]; exact p.1, fun h => by rw [g2 23 (by decide)]; exact p.2 h⟩
    show rz_fin _ L xs 74 20 66 [(0, .ref 21), (1, .int (Int32.ofInt (n : Int))), (2, .int (Int32.ofInt (k : Int))), (3, .int (Int32.ofInt (j : Int))), (4, .int (Int32.ofInt ((t + j : Nat) : Int)))] [.int (Int32.ofInt ((t + j : Nat) : Int)), .ref 21] M2
    refine qs_vc (k := 56) (b := 21) (d := 19) (d' := 19) (rest := []) rfl rfl rfl rfl rfl rfl rfl rfl (Nat.le_refl _) rfl (rz_d (by decide) (wk_spend (xs := xs) (nc := nc) (d := t + j) hL hm2 (by omega) hw hR h5 F2 P2)) (fun r9 M3 hr => ?_)
    obtain ⟨rfl, hm3, F3, P3, e24, e215⟩ := hr
    have eV : fa_h X nc t (t + j) = vq_hs (X 11) (vs_cd X nc (t + j) (vs_T X nc j t (X 21 6, X 23))) := by
      unfold fa_h
      rw [Nat.add_sub_cancel_left]
    rw [← eV]
    have wr : sx_w sx_r32 (vq_or (fa_h X nc t (t + j))) := by
      have rg : vs_cd X nc (t + j) (vs_T X nc j t (X 21 6, X 23)) < (nc : Int) := (vq_cd_r (fun d h b => (vq_held_r _).2)).2
      rw [eV]
      unfold vq_or vq_hs
      by_cases c0 : vs_cd X nc (t + j) (vs_T X nc j t (X 21 6, X 23)) < 0
      · rw [if_pos c0]
        exact og_w32 (by decide) (by decide)
      · rw [if_neg c0]
        have w11 : 0 ≤ X 11 (vs_cd X nc (t + j) (vs_T X nc j t (X 21 6, X 23))).toNat ∧ X 11 (vs_cd X nc (t + j) (vs_T X nc j t (X 21 6, X 23))).toNat ≤ 5 := by
          rw [← F3.1 11 (by decide) (by decide)]
          exact hm3 11 _ _ _ rfl (by show (vs_cd X nc (t + j) (vs_T X nc j t (X 21 6, X 23))).toNat < 12; omega) rfl
        rw [if_neg (by omega)]
        exact og_w32 (by omega) (by omega)
    have wx := xii_w (k := j) (by omega)
    refine qs_use (zs := [(n : Int), (k : Int), (j : Int), ((t + j : Nat) : Int), vq_or (fa_h X nc t (t + j)), xii j]) wd4_c hL hm3 (qs_in (show 0 ≤ (n : Int) ∧ (n : Int) ≤ 8 by omega) (qs_in (show 0 ≤ (k : Int) ∧ (k : Int) ≤ 8 by omega) (qs_in (show 0 ≤ (j : Int) ∧ (j : Int) ≤ 8 by omega) (qs_in (show 0 ≤ ((t + j : Nat) : Int) ∧ ((t + j : Nat) : Int) ≤ 29 by omega) (qs_iw wr (qs_rd (show (0 : Int) ≤ 5 by decide) (by
      show M3 21 5 = xii j
      rw [e215, g2 21 (by decide)]
      exact q5) wx (qs_fin rfl))))))) (Nat.le_refl _) rfl rfl (qs_c (fun u1 M4 hm4 hc hM4 => ?_) qs_z)
    have c4 : u1 = xii (j + 1) := hc.1
    have g4 : ∀ a, a < 128 → M4 a = sx_up M3 21 5 u1 a := hM4
    have g4n : ∀ a, a < 128 → a ≠ 21 → M4 a = M3 a := fun a ha q => by rw [g4 a ha, sh_une q]
    have e9 : M4 9 = X 9 := by rw [g4n 9 (by decide) (by decide), F3.1 9 (by decide) (by decide)]
    have e10 : M4 10 = X 10 := by rw [g4n 10 (by decide) (by decide), F3.1 10 (by decide) (by decide)]
    refine wd_in (xs := xs) (M1 := M4) (H := H) (n := n) (k := k) (i := j) (d := t + j) (r := vq_or (fa_h X nc t (t + j))) hL hm4 (by rw [e9]; exact h4) h6 hn hk (by omega) (by omega) wr (fun N hN fN gN => ?_) H 0 M4 (Nat.zero_add H) hm4 (fun a _ _ => rfl) (fun g _ => (if_neg (Nat.not_lt_zero g)).symm)
    have eT : vs_T X nc (j + 1) t (X 21 6, X 23) = vq_nx (vs_D X) (X 11) (vs_T X nc j t (X 21 6, X 23)) (vs_cd X nc (t + j) (vs_T X nc j t (X 21 6, X 23))) := vq_T_succ (D := vs_D X) (W := X 11) (lk := vs_lk X) (S := X 21 8) (nc := nc) j t (X 21 6, X 23)
    have S' : wd_S X nc H t (j + 1) N := by
      refine ⟨⟨fun a ha q => ?_, fun i a b => ?_⟩, ?_, ?_, fun g hg => ?_⟩
      · rw [fN a ha (by omega), g4n a ha (by omega)]
        exact F3.1 a ha q
      · rw [fN 21 (by decide) (by decide), g4 21 (by decide), sh_unj a]
        exact F3.2 i a b
      · rw [eT]
        refine ⟨?_, fun h => ?_⟩
        · rw [fN 21 (by decide) (by decide), g4 21 (by decide), sh_unj (by decide)]
          exact P3.1
        · rw [fN 23 (by decide) (by decide), g4n 23 (by decide) (by decide)]
          exact P3.2 h
      · rw [fN 21 (by decide) (by decide), g4 21 (by decide), sh_uat, c4]
      · rw [gN g hg, e10, g4n 24 (by decide) (by decide), e24, g2 24 (by decide), q24 g hg]
        show sx_mf 34 _ (bk _ _ _ g (t + j)) = sx_mf 34 _ (bk _ _ _ g (t + j))
        congr 1
        unfold bk
        by_cases q : fa_h X nc t (t + j) = (g : Int)
        · rw [if_pos (vq_or_n.mpr q), if_pos q]
        · rw [if_neg (fun z => q (vq_or_n.mp z)), if_neg q]
    exact ih (j + 1) N (by omega) hN S'
end
