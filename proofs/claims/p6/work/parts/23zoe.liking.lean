/-! How much a card is liked: both sides. -/
section
variable {L : Nat} {xs : Nat → Int32} {M M' M1 M2 : Nat → Nat → Int} {N N' : Nat → Int} {A B U V X : List Int} {s a b z c f e r k : Int} {i h d q : Nat} {Q R : Option Value → (Nat → Nat → Int) → Prop} {zs : List Int}
theorem vt_st_N (hN : ∀ i, i < 6 → N' i = N i) (hp : vt_p s) : vt_st N' s V = vt_st N s V := by
  unfold vt_st
  by_cases c1 : 0 ≤ s
  · rw [if_pos c1, if_pos c1]
  · by_cases c2 : s ≤ -1000
    · rw [if_neg c1, if_neg c1, if_pos c2, if_pos c2, hN _ (by
        rcases hp with h | h | h | h | ⟨w, hw, h⟩
        · omega
        · omega
        · omega
        · omega
        · have := (yk_ops hw).1
          simp only [yk_sg, List.mem_cons, List.not_mem_nil, or_false] at this
          omega)]
    · rw [if_neg c1, if_neg c1, if_neg c2, if_neg c2]
theorem vt_sr_N (hN : ∀ i, i < 6 → N' i = N i) : ∀ (A V : List Int), (∀ x ∈ A, vt_p x) → vt_sr N' A V = vt_sr N A V := by
  intro A
  induction A with
  | nil => intro V _; rfl
  | cons s A ih =>
    intro V hp
    show (match vt_st N' s V with
      | some U => vt_sr N' A U
      | none => none) = (match vt_st N s V with
      | some U => vt_sr N A U
      | none => none)
    rw [vt_st_N hN (hp s List.mem_cons_self)]
    cases vt_st N s V with
    | none => rfl
    | some U => exact ih U (fun x hx => hp x (List.mem_cons_of_mem _ hx))
theorem vt_gv_N (hN : ∀ i, i < 6 → N' i = N i) : ∀ (c l : Nat), (∀ i, l ≤ i → i < l + c → vt_ln M i) → vt_gv M N' c l = vt_gv M N c l := by
  intro c
  induction c with
  | zero => intro l _; rfl
  | succ c ih =>
    intro l hl
    obtain ⟨-, -, -, -, pA, pB⟩ := hl l (Nat.le_refl _) (by omega)
    show (if M 70 l = yj_f M 0 l ∨ vt_val N' (vt_A M l) ≠ 0 then vt_val N' (vt_B M l) else vt_gv M N' c (l + 1)) = (if M 70 l = yj_f M 0 l ∨ vt_val N (vt_A M l) ≠ 0 then vt_val N (vt_B M l) else vt_gv M N c (l + 1))
    unfold vt_val
    rw [vt_sr_N hN _ _ pA, vt_sr_N hN _ _ pB, ih (l + 1) (fun i h1 h2 => hl i (by omega) (by omega))]
theorem vt_gv_M (e67 : M' 67 = M 67) (e68 : M' 68 = M 68) (e70 : M' 70 = M 70) (e71 : M' 71 = M 71) : ∀ c l, vt_gv M' N c l = vt_gv M N c l := by
  have el : ∀ k c, yr_L M' k c = yr_L M k c := fun k c => yr_L_on (fun i _ _ => by rw [e67, e68]; exact ⟨rfl, rfl⟩)
  intro c
  induction c with
  | zero => intro l; rfl
  | succ c ih =>
    intro l
    show (if M' 70 l = yj_f M' 0 l ∨ vt_val N (vt_A M' l) ≠ 0 then vt_val N (vt_B M' l) else vt_gv M' N c (l + 1)) = (if M 70 l = yj_f M 0 l ∨ vt_val N (vt_A M l) ≠ 0 then vt_val N (vt_B M l) else vt_gv M N c (l + 1))
    unfold vt_A vt_B yj_f
    rw [e70, e71, ih]
    simp only [el]
theorem vt_ln_M (e67 : M' 67 = M 67) (e68 : M' 68 = M 68) (e70 : M' 70 = M 70) (e71 : M' 71 = M 71) {l : Nat} (h : vt_ln M l) : vt_ln M' l := by
  have el : ∀ k c, yr_L M' k c = yr_L M k c := fun k c => yr_L_on (fun i _ _ => by rw [e67, e68]; exact ⟨rfl, rfl⟩)
  have ef : yj_f M' 0 l = yj_f M 0 l := by unfold yj_f; rw [e71]
  have eA : vt_A M' l = vt_A M l := by unfold vt_A; rw [el, ef, e70]
  have eB : vt_B M' l = vt_B M l := by unfold vt_B; rw [el, e70, e71]
  unfold vt_ln wu_K at h ⊢
  rw [eA, eB, ef, e67, e68, e70, e71]
  exact h
/-- what names stand for -/
def vq_N (c f e r k b : Int) (i : Nat) : Int := match i with
  | 0 => c
  | 1 => f
  | 2 => e
  | 3 => r
  | 4 => k
  | _ => b
def vq_held (z : Int) : Int := if z < -99 then -99 else if 99 < z then 99 else z
theorem vq_held_r (z : Int) : -99 ≤ vq_held z ∧ vq_held z ≤ 99 := by
  unfold vq_held
  split
  · omega
  · split <;> omega
theorem vq_held_1 {z : Int} (h : 99 ≤ z) : vq_held z = 99 := by
  unfold vq_held
  rw [if_neg (by omega)]
  split
  · rfl
  · omega
theorem vq_held_2 {z : Int} (h : z ≤ -99) : vq_held z = -99 := by
  unfold vq_held
  split
  · rfl
  · rw [if_neg (by omega)]
    omega
theorem vq_held_3 {z : Int} (h : -99 ≤ z ∧ z ≤ 99) : vq_held z = z := by
  unfold vq_held
  rw [if_neg (by omega), if_neg (by omega)]
/-- how much: cake, feud, dry, risk, house, how often -/
def vq_like (M : Nat → Nat → Int) (c f e r k b : Int) : Int := vq_held (if M 53 33 = 0 then sx_mf 1 (sx_mf 1 c f) b else vt_gv M (vq_N c f e r k b) (M 69 0).toNat 0)
theorem vq_like_M (e33 : M' 53 33 = M 53 33) (e69 : M' 69 0 = M 69 0) (e67 : M' 67 = M 67) (e68 : M' 68 = M 68) (e70 : M' 70 = M 70) (e71 : M' 71 = M 71) : vq_like M' c f e r k b = vq_like M c f e r k b := by
  unfold vq_like
  rw [e33, e69, vt_gv_M e67 e68 e70 e71]
theorem vq_six (hq : q < 128) (hM : ∀ a, a < 128 → M' a = sx_up (sx_up (sx_up (sx_up (sx_up (sx_up M q 0 c) q 1 f) q 2 e) q 3 r) q 4 k) q 5 b a) : (∀ a, a < 128 → a ≠ q → M' a = M a) ∧ ∀ i, i < 6 → M' q i = vq_N c f e r k b i := by
  refine ⟨fun a ha hn => ?_, fun i hi => ?_⟩
  · rw [hM a ha, sh_une hn, sh_une hn, sh_une hn, sh_une hn, sh_une hn, sh_une hn]
  · rw [hM q hq]
    match i, hi with
    | 0, _ => rw [sh_unj (by decide), sh_unj (by decide), sh_unj (by decide), sh_unj (by decide), sh_unj (by decide), sh_uat]; rfl
    | 1, _ => rw [sh_unj (by decide), sh_unj (by decide), sh_unj (by decide), sh_unj (by decide), sh_uat]; rfl
    | 2, _ => rw [sh_unj (by decide), sh_unj (by decide), sh_unj (by decide), sh_uat]; rfl
    | 3, _ => rw [sh_unj (by decide), sh_unj (by decide), sh_uat]; rfl
    | 4, _ => rw [sh_unj (by decide), sh_uat]; rfl
    | 5, _ => rw [sh_uat]; rfl
theorem vq_law (hw : WF M) (hR : vu_R M) (h1 : M 53 33 ≠ 0) : M 53 33 = 1 ∧ (0 ≤ M 69 0 ∧ M 69 0 ≤ 61) ∧ (∀ l : Nat, (l : Int) < M 69 0 → vt_ln M l) ∧ 1 ≤ M 14 7 ∧ yh_D (M 16) (M 14 7).toNat = yj_P M 0 0 (M 69 0).toNat 0 ∧ vt_c (yh_D (M 16) (M 14 7).toNat) ≤ 121 := by
  rcases id hR with h | ⟨h2, h3, h4, h5, h6, h7, h8⟩
  · exact absurd h.1 h1
  · exact ⟨h2, hw.1, fun l hl => vt_lines hw hR h2 hl, h3, h5, h7⟩
def wy1_i : List qs_I := [(0, 0, (0, 0), (0, 5)), (0, 0, (0, 0), (0, 29)), (0, 0, (0, 0), sx_r32), (1, 14, (0, 7), (0, 256)), (1, 10, (9, 60), (-1, 143)), (1, 10, (9, 90), (-1, 143)), (1, 10, (10, 150), (-1, 143)), (1, 10, (9, 30), (-1, 143))]
def wy1_T : List og_T := [(none, some (0, 18, 0), [], [], [], [(0, (12, 0), (0, 0), 0, 0), (0, (17, 0), (0, 0), -144, 144), (0, (18, 0), (0, 0), -98, 98), (5, (13, 0), (14, 0), 1, 17), (5, (17, 0), (11, 0), 1, 18)]), (none, some (0, 0, 99), [], [], [], [(0, (12, 0), (0, 0), 0, 0), (0, (17, 0), (0, 0), -144, 144), (0, (18, 0), (0, 0), 99, 2147483647), (5, (13, 0), (14, 0), 1, 17), (5, (17, 0), (11, 0), 1, 18)]), (none, some (0, 0, -99), [], [], [], [(0, (12, 0), (0, 0), 0, 0), (0, (17, 0), (0, 0), -144, 144), (0, (18, 0), (0, 0), -2147483648, -99), (5, (13, 0), (14, 0), 1, 17), (5, (17, 0), (11, 0), 1, 18)]), (some 91, none, [(2, 0, 14)], [(0, 2, 0, 14)], [(20, (0, 5), (11, 0)), (20, (0, 4), (9, 0)), (20, (0, 3), (16, 0)), (20, (0, 2), (15, 0)), (20, (0, 1), (14, 0)), (20, (0, 0), (13, 0))], [(7, (12, 0), (0, 0), 0, 0)])]
theorem wy1_c : qs_chk (fun pc => Nat.beq pc 91) wy1_i 2 wy1_T 400 400 3 59 0 [(0, 2, 0, 14), (1, 2, 0, 9), (2, 0, 9, 0), (3, 0, 10, 0), (4, 0, 11, 0)] [] = true := by decide +kernel
def wy2_i : List qs_I := [(0, 0, (0, 0), sx_r32)]
def wy2_T : List og_T := [(none, some (0, 9, 0), [], [], [], [(0, (9, 0), (0, 0), -98, 98)]), (none, some (0, 0, 99), [], [], [], [(0, (9, 0), (0, 0), 99, 2147483647)]), (none, some (0, 0, -99), [], [], [], [(0, (9, 0), (0, 0), -2147483648, -99)])]
theorem wy2_c : qs_chk (fun _ => false) wy2_i 0 wy2_T 400 400 3 59 94 [] [(0, 9, 0)] = true := by decide +kernel
def wz1_i : List qs_I := [(0, 0, (0, 0), (0, 11)), (0, 0, (0, 0), (0, 29)), (1, 53, (0, 33), (0, 1)), (1, 59, (9, 0), (0, 5)), (1, 56, (12, 0), (-1, 143)), (1, 57, (12, 0), (-1, 143)), (1, 75, (12, 0), sx_r32), (1, 61, (10, 0), (-1, 143)), (1, 55, (12, 0), (-1, 143))]
def wz1_T : List og_T := [(none, some (0, 0, -99), [], [], [], [(0, (11, 0), (0, 0), 0, 0), (0, (18, 0), (0, 0), -144, 144), (0, (19, 0), (0, 0), -2147483648, -100), (5, (13, 0), (14, 0), 1, 18), (5, (18, 0), (15, 0), 1, 19)]), (none, some (0, 0, 99), [], [], [], [(0, (11, 0), (0, 0), 0, 0), (0, (18, 0), (0, 0), -144, 144), (0, (19, 0), (0, 0), 100, 2147483647), (5, (13, 0), (14, 0), 1, 18), (5, (18, 0), (15, 0), 1, 19)]), (none, some (0, 19, 0), [], [], [], [(0, (11, 0), (0, 0), 0, 0), (0, (18, 0), (0, 0), -144, 144), (0, (19, 0), (0, 0), -99, 99), (5, (13, 0), (14, 0), 1, 18), (5, (18, 0), (15, 0), 1, 19)]), (some 105, none, [(0, 0, 0), (2, 0, 53)], [(0, 2, 0, 53)], [(72, (0, 5), (15, 0)), (72, (0, 4), (12, 0)), (72, (0, 3), (17, 0)), (72, (0, 2), (16, 0)), (72, (0, 1), (14, 0)), (72, (0, 0), (13, 0))], [(0, (18, 0), (0, 0), -144, 144), (7, (11, 0), (0, 0), 0, 0), (5, (13, 0), (14, 0), 1, 18), (5, (18, 0), (15, 0), 1, 19)])]
theorem wz1_c : qs_chk (fun pc => Nat.beq pc 105) wz1_i 2 wz1_T 400 400 9 195 0 [(0, 2, 0, 53), (1, 0, 9, 0), (2, 0, 10, 0)] [] = true := by decide +kernel
def wz2_i : List qs_I := [(0, 0, (0, 0), sx_r32)]
def wz2_T : List og_T := [(none, some (0, 0, -99), [], [], [], [(0, (9, 0), (0, 0), -2147483648, -100)]), (none, some (0, 0, 99), [], [], [], [(0, (9, 0), (0, 0), 100, 2147483647)]), (none, some (0, 9, 0), [], [], [], [(0, (9, 0), (0, 0), -99, 99)])]
theorem wz2_c : qs_chk (fun _ => false) wz2_i 0 wz2_T 400 400 9 195 108 [] [(0, 9, 0)] = true := by decide +kernel
def wy_Q (M : Nat → Nat → Int) (z : Int) (r : Option Value) (M' : Nat → Nat → Int) : Prop := r = some (.int (Int32.ofInt z)) ∧ sx_mok cl_ly M' ∧ ∀ a, a < 128 → a ≠ 19 → a ≠ 20 → M' a = M a
def vq_X (M : Nat → Nat → Int) (h d : Nat) (b : Int) : Int := vq_like M (M 10 (h + 60)) (M 10 (h + 90)) (M 10 (d + 150)) (M 10 (h + 30)) (h : Int) b
theorem wy_like (hL : L < 2 ^ 31) (hm : sx_mok cl_ly M) (hw : WF M) (hR : vu_R M) (hh : h ≤ 5) (hd : d ≤ 29) (hb : sx_w sx_r32 b) : rz_fin (wy_Q M (vq_X M h d b)) L xs 59 3 0 [(0, .ref 14), (1, .ref 9), (2, .int (Int32.ofInt (h : Int))), (3, .int (Int32.ofInt (d : Int))), (4, .int (Int32.ofInt b))] [] M := by
  have h7 := wx_7 hm
  have a1 : ((h : Int) + 60).toNat = h + 60 := by omega
  have a2 : ((h : Int) + 90).toNat = h + 90 := by omega
  have a3 : ((d : Int) + 150).toNat = d + 150 := by omega
  have a4 : ((h : Int) + 30).toNat = h + 30 := by omega
  have none0 : M 14 7 = 0 → M 53 33 = 0 := fun h0 => by
    rcases hR with g | g
    · exact g.1
    · omega
  refine qs_use (zs := [(h : Int), (d : Int), b, M 14 7, M 10 (h + 60), M 10 (h + 90), M 10 (d + 150), M 10 (h + 30)]) wy1_c hL hm (qs_in (show 0 ≤ (h : Int) ∧ (h : Int) ≤ 5 by omega) (qs_in (show 0 ≤ (d : Int) ∧ (d : Int) ≤ 29 by omega) (qs_iw hb (qs_rd (show (0 : Int) ≤ 7 by decide) rfl h7 (qs_rd (show 0 ≤ (h : Int) + 60 by omega) (show M 10 ((h : Int) + 60).toNat = _ by rw [a1]; rfl) (cx_m10 hm (by omega)) (qs_rd (show 0 ≤ (h : Int) + 90 by omega) (show M 10 ((h : Int) + 90).toNat = _ by rw [a2]; rfl) (cx_m10 hm (by omega)) (qs_rd (show 0 ≤ (d : Int) + 150 by omega) (show M 10 ((d : Int) + 150).toNat = _ by rw [a3]; rfl) (cx_m10 hm (by omega)) (qs_rd (show 0 ≤ (h : Int) + 30 by omega) (show M 10 ((h : Int) + 30).toNat = _ by rw [a4]; rfl) (cx_m10 hm (by omega)) (qs_fin rfl))))))))) (Nat.le_refl _) rfl rfl (qs_c (fun u1 u2 M' hm' hc hM => ?_) (qs_c (fun u1 u2 M' hm' hc hM => ?_) (qs_c (fun u1 u2 M' hm' hc hM => ?_) (qs_c (fun u1 u2 M' hm' hc hM => ?_) qs_z))))
  · have c0 : 0 ≤ M 14 7 ∧ M 14 7 ≤ 0 := hc.1
    have c1 : -98 ≤ u2 ∧ u2 ≤ 98 := hc.2.2.1
    have c2 : u1 = sx_mf 1 (M 10 (h + 60)) (M 10 (h + 90)) := hc.2.2.2.1
    have c3 : u2 = sx_mf 1 u1 b := hc.2.2.2.2.1
    have e : vq_X M h d b = u2 := by
      unfold vq_X vq_like
      rw [if_pos (none0 (by omega)), ← c2, ← c3, vq_held_3 (by omega)]
    rw [e]
    exact ⟨rfl, hm', fun a ha _ _ => hM a ha⟩
  · have c0 : 0 ≤ M 14 7 ∧ M 14 7 ≤ 0 := hc.1
    have c1 : 99 ≤ u2 ∧ u2 ≤ 2147483647 := hc.2.2.1
    have c2 : u1 = sx_mf 1 (M 10 (h + 60)) (M 10 (h + 90)) := hc.2.2.2.1
    have c3 : u2 = sx_mf 1 u1 b := hc.2.2.2.2.1
    have e : vq_X M h d b = 99 := by
      unfold vq_X vq_like
      rw [if_pos (none0 (by omega)), ← c2, ← c3, vq_held_1 (by omega)]
    rw [e]
    exact ⟨rfl, hm', fun a ha _ _ => hM a ha⟩
  · have c0 : 0 ≤ M 14 7 ∧ M 14 7 ≤ 0 := hc.1
    have c1 : -2147483648 ≤ u2 ∧ u2 ≤ -99 := hc.2.2.1
    have c2 : u1 = sx_mf 1 (M 10 (h + 60)) (M 10 (h + 90)) := hc.2.2.2.1
    have c3 : u2 = sx_mf 1 u1 b := hc.2.2.2.2.1
    have e : vq_X M h d b = -99 := by
      unfold vq_X vq_like
      rw [if_pos (none0 (by omega)), ← c2, ← c3, vq_held_2 (by omega)]
    rw [e]
    exact ⟨rfl, hm', fun a ha _ _ => hM a ha⟩
  · have c0 : M 14 7 ≠ 0 := hc.1
    have hM : ∀ a, a < 128 → M' a = sx_up (sx_up (sx_up (sx_up (sx_up (sx_up M 20 0 (M 10 (h + 60))) 20 1 (M 10 (h + 90))) 20 2 (M 10 (d + 150))) 20 3 (M 10 (h + 30))) 20 4 (h : Int)) 20 5 b a := hM
    obtain ⟨f1, f2⟩ := vq_six (by decide) hM
    have n33 : M 53 33 ≠ 0 := fun h0 => by
      rcases hR with g | g
      · exact c0 g.2
      · omega
    obtain ⟨g1, g2, g3, g4, g5, g6⟩ := vq_law hw hR n33
    have e14 := f1 14 (by decide) (by decide)
    have e16 := f1 16 (by decide) (by decide)
    have e67 := f1 67 (by decide) (by decide)
    have e68 := f1 68 (by decide) (by decide)
    have e70 := f1 70 (by decide) (by decide)
    have e71 := f1 71 (by decide) (by decide)
    have hD : yh_D (M' 16) (M' 14 7).toNat = yj_P M' 0 0 (M 69 0).toNat 0 := by
      rw [e16, e14, g5]
      exact (congrFun (yj_P_eq (M := M) (M1 := M') (sb := 0) (sb' := 0) (lb := 0) (lb' := 0) (n := (M 69 0).toNat) (c := 130) (fun l hl => vu_wb hw (by omega)) (fun i _ => by rw [e67, e68]; exact ⟨rfl, rfl⟩) (fun i _ => by rw [e70, e71]; exact ⟨rfl, rfl⟩)) 0).symm
    have hln : ∀ l, l < (M 69 0).toNat → vt_ln M' l := fun l hl => vt_ln_M e67 e68 e70 e71 (g3 l (by omega))
    show rz_fin (wy_Q M (vq_X M h d b)) L xs 59 3 91 [(0, .ref 14)] [.ref 14] M'
    refine qs_vc (k := 61) (b := 14) (d := 2) (d' := 2) (rest := []) rfl rfl rfl rfl rfl rfl rfl rfl (Nat.le_refl _) rfl (wx_worked (xs := xs) hL hm' hD (by rw [e16, e14]; exact g6) hln) (fun r M2 g => ?_)
    obtain ⟨rfl, k2, k3, k4⟩ := g
    have ev : vt_gv M' (M' 20) (M 69 0).toNat 0 = vt_gv M (vq_N (M 10 (h + 60)) (M 10 (h + 90)) (M 10 (d + 150)) (M 10 (h + 30)) (h : Int) b) (M 69 0).toNat 0 := by
      rw [vt_gv_N (N := vq_N (M 10 (h + 60)) (M 10 (h + 90)) (M 10 (d + 150)) (M 10 (h + 30)) (h : Int) b) f2 _ _ (fun i _ hi => hln i (by omega)), vt_gv_M e67 e68 e70 e71]
    have same : ∀ M3 : Nat → Nat → Int, (∀ a, a < 128 → M3 a = M2 a) → ∀ a, a < 128 → a ≠ 19 → a ≠ 20 → M3 a = M a := fun M3 h3 a ha x1 x2 => (h3 a ha).trans ((k4 a ha x1).trans (f1 a ha x2))
    rw [ev] at k2 ⊢
    refine qs_nl (by show ([0] : List Nat).Nodup; decide) (qs_use (zs := [vt_gv M (vq_N (M 10 (h + 60)) (M 10 (h + 90)) (M 10 (d + 150)) (M 10 (h + 30)) (h : Int) b) (M 69 0).toNat 0]) wy2_c hL k3 (qs_iw k2 (qs_fin rfl)) (Nat.le_refl _) rfl rfl (qs_c (fun M3 hm3 hc3 hM3 => ?_) (qs_c (fun M3 hm3 hc3 hM3 => ?_) (qs_c (fun M3 hm3 hc3 hM3 => ?_) qs_z))))
    · have c1 : -98 ≤ vt_gv M (vq_N (M 10 (h + 60)) (M 10 (h + 90)) (M 10 (d + 150)) (M 10 (h + 30)) (h : Int) b) (M 69 0).toNat 0 ∧ vt_gv M (vq_N (M 10 (h + 60)) (M 10 (h + 90)) (M 10 (d + 150)) (M 10 (h + 30)) (h : Int) b) (M 69 0).toNat 0 ≤ 98 := hc3.1
      have e : vq_X M h d b = vt_gv M (vq_N (M 10 (h + 60)) (M 10 (h + 90)) (M 10 (d + 150)) (M 10 (h + 30)) (h : Int) b) (M 69 0).toNat 0 := by
        unfold vq_X vq_like
        rw [if_neg n33, vq_held_3 (by omega)]
      rw [e]
      exact ⟨rfl, hm3, same M3 hM3⟩
    · have c1 : 99 ≤ vt_gv M (vq_N (M 10 (h + 60)) (M 10 (h + 90)) (M 10 (d + 150)) (M 10 (h + 30)) (h : Int) b) (M 69 0).toNat 0 ∧ vt_gv M (vq_N (M 10 (h + 60)) (M 10 (h + 90)) (M 10 (d + 150)) (M 10 (h + 30)) (h : Int) b) (M 69 0).toNat 0 ≤ 2147483647 := hc3.1
      have e : vq_X M h d b = 99 := by
        unfold vq_X vq_like
        rw [if_neg n33, vq_held_1 (by omega)]
      rw [e]
      exact ⟨rfl, hm3, same M3 hM3⟩
    · have c1 : -2147483648 ≤ vt_gv M (vq_N (M 10 (h + 60)) (M 10 (h + 90)) (M 10 (d + 150)) (M 10 (h + 30)) (h : Int) b) (M 69 0).toNat 0 ∧ vt_gv M (vq_N (M 10 (h + 60)) (M 10 (h + 90)) (M 10 (d + 150)) (M 10 (h + 30)) (h : Int) b) (M 69 0).toNat 0 ≤ -99 := hc3.1
      have e : vq_X M h d b = -99 := by
        unfold vq_X vq_like
        rw [if_neg n33, vq_held_2 (by omega)]
      rw [e]
      exact ⟨rfl, hm3, same M3 hM3⟩
-- the reference
def wz_Q (M : Nat → Nat → Int) (z : Int) (r : Option Value) (M' : Nat → Nat → Int) : Prop := r = some (.int (Int32.ofInt z)) ∧ sx_mok cl_ly M' ∧ ∀ a, a < 128 → a ≠ 72 → a ≠ 73 → M' a = M a
def vq_Y (M : Nat → Nat → Int) (h d : Nat) (b : Int) : Int := vq_like M (M 56 h) (M 57 h) (M 61 d) (M 55 h) (h : Int) b
theorem wz_143 {a : Nat} (ha : a = 55 ∨ a = 56 ∨ a = 57) (hm : sx_mok cl_ly M) {i : Nat} (hi : i < 6) : sx_w (-1, 143) (M a i) := by
  rcases ha with rfl | rfl | rfl
  · exact hm 55 _ i _ rfl hi rfl
  · exact hm 56 _ i _ rfl hi rfl
  · exact hm 57 _ i _ rfl hi rfl
theorem wz_33 (hm : sx_mok cl_ly M) : 0 ≤ M 53 33 ∧ M 53 33 ≤ 1 := cv_ly_ok (g := (53, 33, 0, 1)) hm (by decide +kernel)
theorem wz_like {card : Nat} (hL : L < 2 ^ 31) (hm : sx_mok cl_ly M) (hw : WF M) (hR : vu_R M) (hcd : card ≤ 11) (hh : h ≤ 5) (eh : M 59 card = (h : Int)) (hd : d ≤ 29) : rz_fin (wz_Q M (vq_Y M h d (M 75 h))) L xs 195 9 0 [(0, .ref 53), (1, .int (Int32.ofInt (card : Int))), (2, .int (Int32.ofInt (d : Int)))] [] M := by
  have w75 : sx_w sx_r32 (M 75 h) := hm 75 _ h _ rfl (by show h < 6; omega) rfl
  have w61 : sx_w (-1, 143) (M 61 d) := hm 61 _ d _ rfl (by show d < 30; omega) rfl
  refine qs_use (zs := [(card : Int), (d : Int), M 53 33, (h : Int), M 56 h, M 57 h, M 75 h, M 61 d, M 55 h]) wz1_c hL hm (qs_in (show 0 ≤ (card : Int) ∧ (card : Int) ≤ 11 by omega) (qs_in (show 0 ≤ (d : Int) ∧ (d : Int) ≤ 29 by omega) (qs_rd (show (0 : Int) ≤ 33 by decide) rfl (wz_33 hm) (qs_rd (show 0 ≤ (card : Int) by omega) eh (show 0 ≤ (h : Int) ∧ (h : Int) ≤ 5 by omega) (qs_rd (show 0 ≤ (h : Int) by omega) rfl (wz_143 (by decide) hm (by omega)) (qs_rd (show 0 ≤ (h : Int) by omega) rfl (wz_143 (by decide) hm (by omega)) (qs_rd (show 0 ≤ (h : Int) by omega) rfl w75 (qs_rd (show 0 ≤ (d : Int) by omega) rfl w61 (qs_rd (show 0 ≤ (h : Int) by omega) rfl (wz_143 (by decide) hm (by omega)) (qs_fin rfl)))))))))) (Nat.le_refl _) rfl rfl (qs_c (fun u1 u2 M' hm' hc hM => ?_) (qs_c (fun u1 u2 M' hm' hc hM => ?_) (qs_c (fun u1 u2 M' hm' hc hM => ?_) (qs_c (fun u1 u2 M' hm' hc hM => ?_) qs_z))))
  · have c0 : 0 ≤ M 53 33 ∧ M 53 33 ≤ 0 := hc.1
    have c1 : -2147483648 ≤ u2 ∧ u2 ≤ -100 := hc.2.2.1
    have c2 : u1 = sx_mf 1 (M 56 h) (M 57 h) := hc.2.2.2.1
    have c3 : u2 = sx_mf 1 u1 (M 75 h) := hc.2.2.2.2.1
    have e : vq_Y M h d (M 75 h) = -99 := by
      unfold vq_Y vq_like vq_held
      rw [if_pos (show M 53 33 = 0 by omega), ← c2, ← c3, if_pos (by omega)]
    rw [e]
    exact ⟨rfl, hm', fun a ha _ _ => hM a ha⟩
  · have c0 : 0 ≤ M 53 33 ∧ M 53 33 ≤ 0 := hc.1
    have c1 : 100 ≤ u2 ∧ u2 ≤ 2147483647 := hc.2.2.1
    have c2 : u1 = sx_mf 1 (M 56 h) (M 57 h) := hc.2.2.2.1
    have c3 : u2 = sx_mf 1 u1 (M 75 h) := hc.2.2.2.2.1
    have e : vq_Y M h d (M 75 h) = 99 := by
      unfold vq_Y vq_like vq_held
      rw [if_pos (show M 53 33 = 0 by omega), ← c2, ← c3, if_neg (by omega), if_pos (by omega)]
    rw [e]
    exact ⟨rfl, hm', fun a ha _ _ => hM a ha⟩
  · have c0 : 0 ≤ M 53 33 ∧ M 53 33 ≤ 0 := hc.1
    have c1 : -99 ≤ u2 ∧ u2 ≤ 99 := hc.2.2.1
    have c2 : u1 = sx_mf 1 (M 56 h) (M 57 h) := hc.2.2.2.1
    have c3 : u2 = sx_mf 1 u1 (M 75 h) := hc.2.2.2.2.1
    have e : vq_Y M h d (M 75 h) = u2 := by
      unfold vq_Y vq_like vq_held
      rw [if_pos (show M 53 33 = 0 by omega), ← c2, ← c3, if_neg (by omega), if_neg (by omega)]
    rw [e]
    exact ⟨rfl, hm', fun a ha _ _ => hM a ha⟩
  · have n33 : M 53 33 ≠ 0 := hc.2.1
    have hM : ∀ a, a < 128 → M' a = sx_up (sx_up (sx_up (sx_up (sx_up (sx_up M 72 0 (M 56 h)) 72 1 (M 57 h)) 72 2 (M 61 d)) 72 3 (M 55 h)) 72 4 (h : Int)) 72 5 (M 75 h) a := hM
    obtain ⟨f1, f2⟩ := vq_six (by decide) hM
    obtain ⟨g1, g2, g3, g4, g5, g6⟩ := vq_law hw hR n33
    have e67 := f1 67 (by decide) (by decide)
    have e68 := f1 68 (by decide) (by decide)
    have e69 := f1 69 (by decide) (by decide)
    have e70 := f1 70 (by decide) (by decide)
    have e71 := f1 71 (by decide) (by decide)
    have hln : ∀ l : Nat, (l : Int) < M' 69 0 → vt_ln M' l := fun l hl => vt_ln_M e67 e68 e70 e71 (g3 l (by rw [← e69]; exact hl))
    show rz_fin (wz_Q M (vq_Y M h d (M 75 h))) L xs 195 9 105 [(0, .ref 53)] [.int (Int32.ofInt 0), .ref 53] M'
    refine qs_vc (k := 196) (b := 53) (d := 8) (d' := 8) (rest := []) rfl rfl rfl rfl rfl rfl rfl rfl (Nat.le_refl _) rfl (wv_gives (xs := xs) hL hm' (by rw [e69]; exact g2) hln) (fun r M2 g => ?_)
    obtain ⟨rfl, k2, k3, k4⟩ := g
    have ev : vt_gv M' (M' 72) (M' 69 0).toNat 0 = vt_gv M (vq_N (M 56 h) (M 57 h) (M 61 d) (M 55 h) (h : Int) (M 75 h)) (M 69 0).toNat 0 := by
      rw [vt_gv_N (N := vq_N (M 56 h) (M 57 h) (M 61 d) (M 55 h) (h : Int) (M 75 h)) f2 _ _ (fun i _ hi => hln i (by omega)), vt_gv_M e67 e68 e70 e71, e69]
    have same : ∀ M3 : Nat → Nat → Int, (∀ a, a < 128 → M3 a = M2 a) → ∀ a, a < 128 → a ≠ 72 → a ≠ 73 → M3 a = M a := fun M3 h3 a ha x1 x2 => (h3 a ha).trans ((k4 a ha x2).trans (f1 a ha x1))
    rw [ev] at k2 ⊢
    refine qs_nl (by show ([0] : List Nat).Nodup; decide) (qs_use (zs := [vt_gv M (vq_N (M 56 h) (M 57 h) (M 61 d) (M 55 h) (h : Int) (M 75 h)) (M 69 0).toNat 0]) wz2_c hL k3 (qs_iw k2 (qs_fin rfl)) (Nat.le_refl _) rfl rfl (qs_c (fun M3 hm3 hc3 hM3 => ?_) (qs_c (fun M3 hm3 hc3 hM3 => ?_) (qs_c (fun M3 hm3 hc3 hM3 => ?_) qs_z))))
    · have c1 : -2147483648 ≤ vt_gv M (vq_N (M 56 h) (M 57 h) (M 61 d) (M 55 h) (h : Int) (M 75 h)) (M 69 0).toNat 0 ∧ vt_gv M (vq_N (M 56 h) (M 57 h) (M 61 d) (M 55 h) (h : Int) (M 75 h)) (M 69 0).toNat 0 ≤ -100 := hc3.1
      have e : vq_Y M h d (M 75 h) = -99 := by
        unfold vq_Y vq_like vq_held
        rw [if_neg n33, if_pos (by omega)]
      rw [e]
      exact ⟨rfl, hm3, same M3 hM3⟩
    · have c1 : 100 ≤ vt_gv M (vq_N (M 56 h) (M 57 h) (M 61 d) (M 55 h) (h : Int) (M 75 h)) (M 69 0).toNat 0 ∧ vt_gv M (vq_N (M 56 h) (M 57 h) (M 61 d) (M 55 h) (h : Int) (M 75 h)) (M 69 0).toNat 0 ≤ 2147483647 := hc3.1
      have e : vq_Y M h d (M 75 h) = 99 := by
        unfold vq_Y vq_like vq_held
        rw [if_neg n33, if_neg (by omega), if_pos (by omega)]
      rw [e]
      exact ⟨rfl, hm3, same M3 hM3⟩
    · have c1 : -99 ≤ vt_gv M (vq_N (M 56 h) (M 57 h) (M 61 d) (M 55 h) (h : Int) (M 75 h)) (M 69 0).toNat 0 ∧ vt_gv M (vq_N (M 56 h) (M 57 h) (M 61 d) (M 55 h) (h : Int) (M 75 h)) (M 69 0).toNat 0 ≤ 99 := hc3.1
      have e : vq_Y M h d (M 75 h) = vt_gv M (vq_N (M 56 h) (M 57 h) (M 61 d) (M 55 h) (h : Int) (M 75 h)) (M 69 0).toNat 0 := by
        unfold vq_Y vq_like vq_held
        rw [if_neg n33, if_neg (by omega), if_neg (by omega)]
      rw [e]
      exact ⟨rfl, hm3, same M3 hM3⟩
end
