/-! Days in thought: both sides alike. -/
section
variable {L : Nat} {xs : Nat → Int32} {M M' M0 M1 M2 X Y : Nat → Nat → Int} {D D' W W' N B B' : Nat → Int} {lk lk' : Nat → Nat → Int → Int} {S G s a b z e f r c : Int} {i h q n d nc k t H : Nat} {T T' : Int × (Nat → Int)} {Q R : Option Value → (Nat → Nat → Int) → Prop} {zs : List Int}
def pb1_i : List qs_I := [(1, 9, (0, 6), sx_r32), (1, 9, (0, 7), sx_r32), (1, 12, (0, 0), sx_r32), (1, 12, (0, 1), sx_r32), (1, 12, (0, 2), sx_r32), (1, 12, (0, 3), sx_r32), (1, 12, (0, 4), sx_r32), (1, 12, (0, 5), sx_r32)]
def pb1_T : List og_T := [(none, none, [], [], [(21, (0, 6), (10, 0)), (21, (0, 8), (9, 0)), (23, (0, 5), (16, 0)), (23, (0, 4), (15, 0)), (23, (0, 3), (14, 0)), (23, (0, 2), (13, 0)), (23, (0, 1), (12, 0)), (23, (0, 0), (11, 0))], [])]
theorem pb1_c : qs_chk (fun _ => false) pb1_i 0 pb1_T 400 400 2 54 0 [(0, 2, 0, 21)] [] = true := by decide +kernel
def my1_i : List qs_I := [(1, 53, (0, 7), sx_r32), (1, 53, (0, 11), sx_r32)]
def my1_T : List og_T := [(some 18, none, [], [(0, 2, 0, 53), (1, 0, 0, 0)], [(53, (0, 36), (10, 0)), (53, (0, 35), (9, 0))], [])]
theorem my1_c : qs_chk (fun pc => Nat.beq pc 18) my1_i 0 my1_T 400 400 14 191 0 [(0, 2, 0, 53)] [] = true := by decide +kernel
def my2_i : List qs_I := [(0, 0, (0, 0), (0, 5)), (1, 53, (0, 1), (0, 6)), (2, 10, (9, 0), (0, 0)), (1, 74, (9, 0), sx_r32)]
def my2_T : List og_T := [(some 18, none, [], [(0, 2, 0, 53), (1, 0, 9, 1)], [(75, (9, 0), (11, 0))], [])]
theorem my2_c : qs_chk (fun pc => Nat.beq pc 18) my2_i 0 my2_T 400 400 14 191 18 [(0, 2, 0, 53), (1, 0, 9, 0)] [] = true := by decide +kernel
def my3_i : List qs_I := [(0, 0, (0, 0), (0, 6)), (1, 53, (0, 1), (0, 6)), (3, 10, (9, 0), (0, 0))]
def my3_T : List og_T := [(none, none, [], [], [], [])]
theorem my3_c : qs_chk (fun _ => false) my3_i 0 my3_T 400 400 14 191 18 [(0, 2, 0, 53), (1, 0, 9, 0)] [] = true := by decide +kernel
def pb_Q (M : Nat → Nat → Int) (r : Option Value) (M' : Nat → Nat → Int) : Prop := r = none ∧ sx_mok cl_ly M' ∧ (∀ a, a < 128 → a ≠ 21 → a ≠ 23 → M' a = M a) ∧ (∀ j, j ≠ 6 → j ≠ 8 → M' 21 j = M 21 j) ∧ M' 21 6 = M 9 7 ∧ M' 21 8 = M 9 6 ∧ ∀ h, h < 6 → M' 23 h = M 12 h
theorem pb_begin (hL : L < 2 ^ 31) (hm : sx_mok cl_ly M) : rz_fin (pb_Q M) L xs 54 2 0 [(0, .ref 21)] [] M := by
  have w6 : sx_w sx_r32 (M 9 6) := cv_ly_ok (g := (9, 6, sx_r32)) hm (by decide +kernel)
  have w7 : sx_w sx_r32 (M 9 7) := cv_ly_ok (g := (9, 7, sx_r32)) hm (by decide +kernel)
  have w12 : ∀ h, h < 6 → sx_w sx_r32 (M 12 h) := fun h hh => hm 12 _ h _ rfl hh rfl
  refine qs_use (zs := [M 9 6, M 9 7, M 12 0, M 12 1, M 12 2, M 12 3, M 12 4, M 12 5]) pb1_c hL hm (qs_rd (show (0 : Int) ≤ 6 by decide) rfl w6 (qs_rd (show (0 : Int) ≤ 7 by decide) rfl w7 (qs_rd (show (0 : Int) ≤ 0 by decide) rfl (w12 0 (by decide)) (qs_rd (show (0 : Int) ≤ 1 by decide) rfl (w12 1 (by decide)) (qs_rd (show (0 : Int) ≤ 2 by decide) rfl (w12 2 (by decide)) (qs_rd (show (0 : Int) ≤ 3 by decide) rfl (w12 3 (by decide)) (qs_rd (show (0 : Int) ≤ 4 by decide) rfl (w12 4 (by decide)) (qs_rd (show (0 : Int) ≤ 5 by decide) rfl (w12 5 (by decide)) (qs_fin rfl))))))))) (Nat.le_refl _) rfl rfl (qs_c (fun M' hm' hc hM => ?_) qs_z)
  have hM : ∀ a, a < 128 → M' a = sx_up (sx_up (sx_up (sx_up (sx_up (sx_up (sx_up (sx_up M 23 0 (M 12 0)) 23 1 (M 12 1)) 23 2 (M 12 2)) 23 3 (M 12 3)) 23 4 (M 12 4)) 23 5 (M 12 5)) 21 8 (M 9 6)) 21 6 (M 9 7) a := hM
  refine ⟨rfl, hm', fun a ha x1 x2 => ?_, fun j h6 h8 => ?_, ?_, ?_, fun h hh => ?_⟩
  · rw [hM a ha, sh_une x1, sh_une x1, sh_une x2, sh_une x2, sh_une x2, sh_une x2, sh_une x2, sh_une x2]
  · rw [hM 21 (by decide), sh_unj h6, sh_unj h8, sh_une (by decide), sh_une (by decide), sh_une (by decide), sh_une (by decide), sh_une (by decide), sh_une (by decide)]
  · rw [hM 21 (by decide), sh_uat]
  · rw [hM 21 (by decide), sh_unj (by decide), sh_uat]
  · rw [hM 23 (by decide), sh_une (by decide), sh_une (by decide)]
    match h, hh with
    | 0, _ => rw [sh_unj (by decide), sh_unj (by decide), sh_unj (by decide), sh_unj (by decide), sh_unj (by decide), sh_uat]
    | 1, _ => rw [sh_unj (by decide), sh_unj (by decide), sh_unj (by decide), sh_unj (by decide), sh_uat]
    | 2, _ => rw [sh_unj (by decide), sh_unj (by decide), sh_unj (by decide), sh_uat]
    | 3, _ => rw [sh_unj (by decide), sh_unj (by decide), sh_uat]
    | 4, _ => rw [sh_unj (by decide), sh_uat]
    | 5, _ => rw [sh_uat]
-- the reference begins
theorem my_loop (hL : L < 2 ^ 31) (hH : M1 53 1 = (H : Int)) (h6 : H ≤ 6) : ∀ (m k : Nat) (M' : Nat → Nat → Int), k + m = H → sx_mok cl_ly M' → (∀ a, a < 128 → a ≠ 75 → M' a = M1 a) → (∀ h, M' 75 h = if h < k then M1 74 h else M1 75 h) → rz_fin (fun r M2 => r = none ∧ sx_mok cl_ly M2 ∧ (∀ a, a < 128 → a ≠ 75 → M2 a = M1 a) ∧ ∀ h, M2 75 h = if h < H then M1 74 h else M1 75 h) L xs 191 14 18 [(0, .ref 53), (1, .int (Int32.ofInt (k : Int)))] [] M' := by
  intro m
  induction m with
  | zero =>
    intro k M' hk hm h hB
    have e53 := h 53 (by decide) (by decide)
    refine qs_use (zs := [(k : Int), M1 53 1]) my3_c hL hm (qs_in (show 0 ≤ (k : Int) ∧ (k : Int) ≤ 6 by omega) (qs_rd (show (0 : Int) ≤ 1 by decide) (by rw [e53]; rfl) (show 0 ≤ M1 53 1 ∧ M1 53 1 ≤ 6 by omega) (qs_ge (show ¬ (k : Int) < M1 53 1 by omega) (qs_fin rfl)))) (Nat.le_refl _) rfl rfl (qs_c (fun M2 hm2 hc hM => ?_) qs_z)
    have hM : ∀ a, a < 128 → M2 a = M' a := hM
    exact ⟨rfl, hm2, fun a ha x => (hM a ha).trans (h a ha x), fun g => by rw [hM 75 (by decide), hB g, show k = H by omega]⟩
  | succ m ih =>
    intro k M' hk hm h hB
    have e53 := h 53 (by decide) (by decide)
    have e74 := h 74 (by decide) (by decide)
    have w74 : sx_w sx_r32 (M1 74 k) := by rw [← e74]; exact hm 74 _ k _ rfl (by show k < 6; omega) rfl
    refine qs_use (zs := [(k : Int), M1 53 1, M1 74 k]) my2_c hL hm (qs_in (show 0 ≤ (k : Int) ∧ (k : Int) ≤ 5 by omega) (qs_rd (show (0 : Int) ≤ 1 by decide) (by rw [e53]; rfl) (show 0 ≤ M1 53 1 ∧ M1 53 1 ≤ 6 by omega) (qs_lt (show (k : Int) < M1 53 1 by omega) (qs_rd (show 0 ≤ (k : Int) by omega) (by rw [e74]; rfl) w74 (qs_fin rfl))))) (Nat.le_refl _) rfl rfl (qs_c (fun M2 hm2 hc hM => ?_) qs_z)
    have hM : ∀ a, a < 128 → M2 a = sx_up M' 75 (k : Int).toNat (M1 74 k) a := hM
    rw [Int.toNat_natCast] at hM
    have := ih (k + 1) M2 (by omega) hm2 (fun a ha x => by rw [hM a ha, sh_une x]; exact h a ha x) (fun g => by
      rw [hM 75 (by decide)]
      by_cases eg : g = k
      · rw [eg, sh_uat, if_pos (Nat.lt_succ_self k)]
      · rw [sh_unj eg, hB g]
        by_cases c : g < k
        · rw [if_pos c, if_pos (by omega)]
        · rw [if_neg c, if_neg (by omega)])
    rw [show ((k + 1 : Nat) : Int) = (k : Int) + 1 by omega] at this
    exact this
def my_Q (M : Nat → Nat → Int) (H : Nat) (r : Option Value) (M' : Nat → Nat → Int) : Prop := r = none ∧ sx_mok cl_ly M' ∧ (∀ a, a < 128 → a ≠ 53 → a ≠ 75 → M' a = M a) ∧ (∀ j, j ≠ 35 → j ≠ 36 → M' 53 j = M 53 j) ∧ M' 53 35 = M 53 7 ∧ M' 53 36 = M 53 11 ∧ ∀ h, M' 75 h = if h < H then M 74 h else M 75 h
theorem my_lay (hL : L < 2 ^ 31) (hm : sx_mok cl_ly M) (hH : M 53 1 = (H : Int)) : rz_fin (my_Q M H) L xs 191 14 0 [(0, .ref 53)] [] M := by
  have h6 : 0 ≤ M 53 1 ∧ M 53 1 ≤ 6 := cv_ly_ok (g := (53, 1, 0, 6)) hm (by decide +kernel)
  have w7 : sx_w sx_r32 (M 53 7) := cv_ly_ok (g := (53, 7, sx_r32)) hm (by decide +kernel)
  have w11 : sx_w sx_r32 (M 53 11) := cv_ly_ok (g := (53, 11, sx_r32)) hm (by decide +kernel)
  refine qs_use (zs := [M 53 7, M 53 11]) my1_c hL hm (qs_rd (show (0 : Int) ≤ 7 by decide) rfl w7 (qs_rd (show (0 : Int) ≤ 11 by decide) rfl w11 (qs_fin rfl))) (Nat.le_refl _) rfl rfl (qs_c (fun M1 hm1 hc hM => ?_) qs_z)
  have hM : ∀ a, a < 128 → M1 a = sx_up (sx_up M 53 35 (M 53 7)) 53 36 (M 53 11) a := hM
  have o : ∀ a, a < 128 → a ≠ 53 → M1 a = M a := fun a ha x => by rw [hM a ha, sh_une x, sh_une x]
  have o53 : ∀ j, j ≠ 35 → j ≠ 36 → M1 53 j = M 53 j := fun j h1 h2 => by rw [hM 53 (by decide), sh_unj h2, sh_unj h1]
  have o35 : M1 53 35 = M 53 7 := by rw [hM 53 (by decide), sh_unj (by decide), sh_uat]
  have o36 : M1 53 36 = M 53 11 := by rw [hM 53 (by decide), sh_uat]
  refine qs_w (my_loop (xs := xs) (M1 := M1) (H := H) hL (by rw [o53 1 (by decide) (by decide)]; exact hH) (by omega) H 0 M1 (by omega) hm1 (fun a _ _ => rfl) (fun g => by rw [if_neg (Nat.not_lt_zero g)])) (fun r M2 g => ?_)
  obtain ⟨g1, g2, g3, g4⟩ := g
  have g53 := g3 53 (by decide) (by decide)
  refine ⟨g1, g2, fun a ha x1 x2 => (g3 a ha x2).trans (o a ha x1), fun j h1 h2 => by rw [g53]; exact o53 j h1 h2, by rw [g53]; exact o35, by rw [g53]; exact o36, fun g => ?_⟩
  rw [g4 g, o 74 (by decide) (by decide), o 75 (by decide) (by decide)]
theorem my_keep (hw : WF M) (hR : vu_R M) (h : my_Q M H none M') : WF M' ∧ vu_R M' ∧ ∀ g d b, vq_Y M' g d b = vq_Y M g d b := by
  obtain ⟨-, -, e, e5, -⟩ := h
  have e67 := e 67 (by decide) (by decide) (by decide)
  have e68 := e 68 (by decide) (by decide) (by decide)
  have e69 := e 69 (by decide) (by decide) (by decide)
  have e70 := e 70 (by decide) (by decide) (by decide)
  have e71 := e 71 (by decide) (by decide) (by decide)
  have e33 := e5 33 (by decide) (by decide)
  refine ⟨WF_zs M M' (fun k hk => ?_) hw, vu_on hR hw (e 16 (by decide) (by decide) (by decide)) (by rw [e 14 (by decide) (by decide) (by decide)]) e33 (fun i _ => by rw [e67, e68]; exact ⟨rfl, rfl⟩) (by rw [e69]) (fun i _ => by rw [e70, e71]; exact ⟨rfl, rfl⟩), fun g d b => ?_⟩
  · simp only [cz_zs, List.mem_cons, List.not_mem_nil, or_false] at hk
    exact e k (by omega) (by omega) (by omega)
  · unfold vq_Y
    rw [e 55 (by decide) (by decide) (by decide), e 56 (by decide) (by decide) (by decide), e 57 (by decide) (by decide) (by decide), e 61 (by decide) (by decide) (by decide)]
    exact vq_like_M e33 (by rw [e69]) e67 e68 e70 e71
def vq_E (H : Nat) (T T' : Int × (Nat → Int)) : Prop := T.1 = T'.1 ∧ ∀ h, h < H → T.2 h = T'.2 h
theorem vq_cd_eq (hD : ∀ c, c < nc → D' c = D c ∧ W' c = W c ∧ 0 ≤ W c ∧ W c < (H : Int)) (hl : ∀ h b, h < H → lk' d h b = lk d h b) (hE : vq_E H T T') : vq_cd D' W' lk' S nc d T' = vq_cd D W lk S nc d T := by
  unfold vq_cd
  rw [← hE.1, vq_ch_eq (n := nc) (D := D) (W := W) (lk := fun h => lk d h (T.2 h)) nc (Nat.le_refl _) (fun c hc => ?_)]
  obtain ⟨h1, h2, h3, h4⟩ := hD c hc
  refine ⟨h1, h2, ?_⟩
  show lk' d (W c).toNat (T'.2 (W c).toNat) = lk d (W c).toNat (T.2 (W c).toNat)
  rw [← hE.2 (W c).toNat (by omega), hl (W c).toNat _ (by omega)]
theorem vq_nx_eq (hD : ∀ c, c < nc → D' c = D c ∧ W' c = W c ∧ 0 ≤ W c ∧ W c < (H : Int)) (hc : c < (nc : Int)) (hE : vq_E H T T') : vq_E H (vq_nx D W T c) (vq_nx D' W' T' c) := by
  by_cases c0 : c < 0
  · refine ⟨?_, fun h hh => ?_⟩
    · show vq_us D T.1 c = vq_us D' T'.1 c
      unfold vq_us
      rw [if_pos c0, if_pos c0]
      exact hE.1
    · show vq_bn W T.2 c h = vq_bn W' T'.2 c h
      unfold vq_bn
      rw [if_pos c0, if_pos c0]
      exact hE.2 h hh
  · obtain ⟨h1, h2, -, -⟩ := hD c.toNat (by omega)
    refine ⟨?_, fun h hh => ?_⟩
    · show vq_us D T.1 c = vq_us D' T'.1 c
      unfold vq_us
      rw [if_neg c0, if_neg c0, h1, hE.1]
    · show vq_bn W T.2 c h = vq_bn W' T'.2 c h
      unfold vq_bn
      rw [if_neg c0, if_neg c0, h2, hE.2 h hh]
theorem vq_cd_r (hl : ∀ d h b, lk d h b ≤ 99) : -1 ≤ vq_cd D W lk S nc d T ∧ vq_cd D W lk S nc d T < (nc : Int) := by
  have rg := vq_ch_r (D := D) (W := W) (lk := fun h => lk d h (T.2 h)) (S := S) (G := T.1) (d := (d : Int)) (fun i => hl d i _) nc
  exact ⟨rg.1, rg.2.1⟩
theorem vq_T_eq (hD : ∀ c, c < nc → D' c = D c ∧ W' c = W c ∧ 0 ≤ W c ∧ W c < (H : Int)) (hl : ∀ d h b, d < 30 → h < H → lk' d h b = lk d h b) (h99 : ∀ d h b, lk d h b ≤ 99) : ∀ (k d : Nat) (T T' : Int × (Nat → Int)), d + k ≤ 30 → vq_E H T T' → vq_E H (vq_T D W lk S nc k d T) (vq_T D' W' lk' S nc k d T') := by
  intro k
  induction k with
  | zero => intro d T T' _ h; exact h
  | succ k ih =>
    intro d T T' hd hE
    show vq_E H (vq_T D W lk S nc k (d + 1) (vq_nx D W T (vq_cd D W lk S nc d T))) (vq_T D' W' lk' S nc k (d + 1) (vq_nx D' W' T' (vq_cd D' W' lk' S nc d T')))
    rw [vq_cd_eq hD (fun h b hh => hl d h b (by omega) hh) hE]
    exact ih (d + 1) _ _ (by omega) (vq_nx_eq hD (vq_cd_r h99).2 hE)
/-- what both sides hold alike, as far as days in thought go -/
def fs_A (M : Nat → Nat → Int) (nc H : Nat) : Prop := (M 9 5 = (nc : Int) ∧ M 53 8 = (nc : Int) ∧ nc ≤ 12 ∧ M 53 1 = (H : Int) ∧ H ≤ 6) ∧ (∀ c, c < nc → M 60 c = M 10 (c + 180) ∧ M 59 c = M 11 c ∧ 0 ≤ M 11 c ∧ M 11 c < (H : Int)) ∧ (∀ h, h < 6 → M 56 h = M 10 (h + 60) ∧ M 57 h = M 10 (h + 90) ∧ M 55 h = M 10 (h + 30) ∧ M 12 h = M 74 h) ∧ (∀ d, d < 30 → M 61 d = M 10 (d + 150)) ∧ M 9 6 = M 53 7 ∧ M 9 7 = M 53 11
theorem fs_lk (hA : fs_A M nc H) (hX : pb_Q M none X) (hf : ∀ a, a < 128 → 53 ≤ a → M' a = M a) (hY : my_Q M' H none Y) {d h : Nat} (hd : d < 30) (hh : h < 6) (b : Int) : ms_lk Y d h b = vs_lk X d h b := by
  obtain ⟨-, b1, b2, b3, b4, b5⟩ := hA
  obtain ⟨-, -, x1, x2, x3, x4, x5⟩ := hX
  obtain ⟨-, -, y1, y2, y3, y4, y5⟩ := hY
  have ex : ∀ a, a < 128 → ¬ (19 ≤ a ∧ a ≤ 23) → X a = M a := fun a ha hn => x1 a ha (by omega) (by omega)
  have ey : ∀ a, a < 128 → 53 ≤ a → a ≠ 53 → a ≠ 75 → Y a = M a := fun a ha hn h1 h2 => (y1 a ha h1 h2).trans (hf a ha hn)
  have m53 : M' 53 = M 53 := hf 53 (by decide) (by decide)
  obtain ⟨c1, c2, c3, -⟩ := b2 h hh
  have c4 := b3 d hd
  unfold ms_lk vs_lk vq_X vq_Y
  rw [ey 56 (by decide) (by decide) (by decide) (by decide), ey 57 (by decide) (by decide) (by decide) (by decide), ey 61 (by decide) (by decide) (by decide) (by decide), ey 55 (by decide) (by decide) (by decide) (by decide), ex 10 (by decide) (by decide), c1, c2, c3, c4]
  have q : ∀ a, a = 67 ∨ a = 68 ∨ a = 69 ∨ a = 70 ∨ a = 71 → Y a = X a := fun a ha => (ey a (by omega) (by omega) (by omega) (by omega)).trans (ex a (by omega) (by omega)).symm
  refine vq_like_M ?_ ?_ (q 67 (by decide)) (q 68 (by decide)) (q 70 (by decide)) (q 71 (by decide))
  · rw [y2 33 (by decide) (by decide), m53, ex 53 (by decide) (by decide)]
  · rw [q 69 (by decide)]
theorem fs_T (hA : fs_A M nc H) (hX : pb_Q M none X) (hf : ∀ a, a < 128 → 53 ≤ a → M' a = M a) (hY : my_Q M' H none Y) (k d : Nat) (hd : d + k ≤ 30) : vq_E H (vs_T X nc k d (X 21 6, X 23)) (ms_T Y nc k d (Y 53 36, Y 75)) ∧ (d + k < 30 → ms_cd Y nc (d + k) (ms_T Y nc k d (Y 53 36, Y 75)) = vs_cd X nc (d + k) (vs_T X nc k d (X 21 6, X 23)) ∧ vq_hs (Y 59) (vs_cd X nc (d + k) (vs_T X nc k d (X 21 6, X 23))) = vq_hs (X 11) (vs_cd X nc (d + k) (vs_T X nc k d (X 21 6, X 23)))) := by
  have hA0 := hA
  have hX0 := hX
  have hY0 := hY
  obtain ⟨⟨a1, a2, a3, a4, a5⟩, b1, b2, b3, b4, b5⟩ := hA
  obtain ⟨-, -, x1, x2, x3, x4, x5⟩ := hX
  obtain ⟨-, -, y1, y2, y3, y4, y5⟩ := hY
  have ex : ∀ a, a < 128 → ¬ (19 ≤ a ∧ a ≤ 23) → X a = M a := fun a ha hn => x1 a ha (by omega) (by omega)
  have ey : ∀ a, a < 128 → 53 ≤ a → a ≠ 53 → a ≠ 75 → Y a = M a := fun a ha hn h1 h2 => (y1 a ha h1 h2).trans (hf a ha hn)
  have m53 : M' 53 = M 53 := hf 53 (by decide) (by decide)
  have hS : Y 53 35 = X 21 8 := by rw [y3, m53, x4, b4]
  have hD : ∀ c, c < nc → (Y 60) c = vs_D X c ∧ (Y 59) c = (X 11) c ∧ 0 ≤ (X 11) c ∧ (X 11) c < (H : Int) := fun c hc => by
    obtain ⟨c1, c2, c3, c4⟩ := b1 c hc
    unfold vs_D
    rw [ey 60 (by decide) (by decide) (by decide) (by decide), ey 59 (by decide) (by decide) (by decide) (by decide), ex 10 (by decide) (by decide), ex 11 (by decide) (by decide)]
    exact ⟨c1, c2, c3, c4⟩
  have hl : ∀ d h b, d < 30 → h < H → ms_lk Y d h b = vs_lk X d h b := fun d h b hd hh => fs_lk hA0 hX0 hf hY0 hd (by omega) b
  have hE : vq_E H (X 21 6, X 23) (Y 53 36, Y 75) := by
    refine ⟨?_, fun h hh => ?_⟩
    · show X 21 6 = Y 53 36
      rw [x3, y4, m53, b5]
    · show X 23 h = Y 75 h
      rw [x5 h (by omega), y5 h, if_pos hh, hf 74 (by decide) (by decide)]
      exact (b2 h (by omega)).2.2.2
  have E := vq_T_eq (S := X 21 8) hD hl (fun d h b => (vq_held_r _).2) k d _ _ hd hE
  have E : vq_E H (vs_T X nc k d (X 21 6, X 23)) (ms_T Y nc k d (Y 53 36, Y 75)) := by
    unfold ms_T
    rw [hS]
    exact E
  refine ⟨E, fun hk => ⟨?_, ?_⟩⟩
  · unfold ms_cd vs_cd
    rw [hS]
    exact vq_cd_eq hD (fun h b hh => hl (d + k) h b hk hh) E
  · have r : vs_cd X nc (d + k) (vs_T X nc k d (X 21 6, X 23)) < (nc : Int) := (vq_cd_r (fun d h b => (vq_held_r _).2)).2
    unfold vq_hs
    by_cases c0 : vs_cd X nc (d + k) (vs_T X nc k d (X 21 6, X 23)) < 0
    · rw [if_pos c0, if_pos c0]
    · rw [if_neg c0, if_neg c0, (hD _ (by omega)).2.1]
end
