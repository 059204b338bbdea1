/-! The reference's parser: an operand. -/
section
variable {L : Nat} {xs : Nat → Int32} {M M' M0 M1 M2 M3 M4 : Nat → Nat → Int} {ρ ρ' : Nat → Int} {t : sx_S} {k ov z v w : Int} {Q R : Option Value → (Nat → Nat → Int) → Prop}
/-- a step of its own was laid: kind w, with v; n signs were read, or it fell behind them -/
def yb_leaf (n : Int) (w v : Int) (fl : Bool) (M M' : Nat → Nat → Int) : Prop := sx_mok cl_ly M' ∧ ct_fr ps_c M M' ∧ M' 53 22 = M 53 22 + n ∧ M' 53 24 = M 53 24 ∧ M' 53 25 = M 53 25 + 1 ∧ M' 67 (130 + M 53 25).toNat = w ∧ M' 68 (130 + M 53 25).toNat = v ∧ (∀ i : Nat, (i : Int) ≠ 130 + M 53 25 → M' 67 i = M 67 i ∧ M' 68 i = M 68 i) ∧ M' 53 23 = if fl = true then M 53 22 + n else M 53 23
theorem yb_leaf_mk {n : Int} {fl : Bool} {l : Int} (h53 : ∀ k, M' 53 k = if k = 25 then M 53 25 + 1 else if k = 22 then M 53 22 + n else if k = 23 then (if fl = true then M 53 22 + n else M 53 23) else M 53 k) (hl : l = M 53 25 + 130) (h67 : ∀ k, M' 67 k = if k = l.toNat then w else M 67 k) (h68 : ∀ k, M' 68 k = if k = l.toNat then v else M 68 k) (hoth : ∀ a, a < 128 → a ≠ 53 → a ≠ 67 → a ≠ 68 → M' a = M a) (hm : sx_mok cl_ly M') (h0 : 0 ≤ M 53 25) : yb_leaf n w v fl M M' := by
  have ee : l.toNat = (130 + M 53 25).toNat := by omega
  rw [ee] at h67 h68
  refine ⟨hm, fun a i ha hmm hp => ?_, h53 22, h53 24, h53 25, by rw [h67, if_pos rfl], by rw [h68, if_pos rfl], fun i hi => ⟨by rw [h67, if_neg (by omega)], by rw [h68, if_neg (by omega)]⟩, h53 23⟩
  by_cases e : a = 53
  · subst e
    rw [h53, if_neg (fun e => hp (53, 25, sx_r32) (by simp [ps_c]) rfl e.symm), if_neg (fun e => hp (53, 22, sx_r32) (by simp [ps_c]) rfl e.symm), if_neg (fun e => hp (53, 23, sx_r32) (by simp [ps_c]) rfl e.symm)]
  · rw [hoth a ha e (fun h => hmm (by rw [h]; simp [ps_c])) (fun h => hmm (by rw [h]; simp [ps_c]))]
theorem yb_L1 {n : Int} {fl : Bool} (h : yb_leaf n w v fl M M') : yr_L M' (130 + M 53 25).toNat (M' 53 25 - M 53 25).toNat = [yr_en w v] := by
  obtain ⟨h1, h2, h3, h4, h5, h6, h7, h8, h9⟩ := h
  rw [show (M' 53 25 - M 53 25).toNat = 0 + 1 by omega]
  show [yr_en (M' 67 ((130 + M 53 25).toNat + 0)) (M' 68 ((130 + M 53 25).toNat + 0))] = _
  rw [Nat.add_zero, h6, h7]
/-- it was read -/
theorem yb_O {n : Int} (hP : ps_P M) (h : yb_leaf n w v false M M') (hn : 1 ≤ n) (hT : M 53 22 + n ≤ M 53 21) (hw : w = 1 ∨ (w = 2 ∧ 0 ≤ v ∧ v ≤ 5)) (hO : yk_O (yr_T M) (M 53 24) (M 53 22).toNat ((M 53 22).toNat + n.toNat) [yr_en w v]) : yr_B M M' := by
  have l1 := yb_L1 h
  obtain ⟨h1, h2, h3, h4, h5, h6, h7, h8, h9⟩ := h
  have h9 : M' 53 23 = M 53 23 := h9
  have hf := hP.2.1
  have h22 := hP.2.2.1
  refine ⟨po_leaf hP h1 h2 (by omega) hT h3 h4 h5 (by rw [h6, h7]; exact hw) h8 (Or.inl ⟨by omega, hn⟩), fun _ => ?_, fun e => by omega⟩
  rw [l1, h3, show (M 53 22 + n).toNat = (M 53 22).toNat + n.toNat by omega]
  exact hO
/-- it falls -/
theorem yb_G {n : Int} (hP : ps_P M) (h : yb_leaf n 1 v true M M') (hn : 0 ≤ n) (hT : M 53 22 + n ≤ M 53 21) (hG : yk_G (yr_T M) (M 53 21).toNat (M 53 24) (M 53 22).toNat ((M 53 22).toNat + n.toNat)) : yr_B M M' := by
  obtain ⟨h1, h2, h3, h4, h5, h6, h7, h8, h9⟩ := h
  have h9 : M' 53 23 = M 53 22 + n := h9
  have hf := hP.2.1
  have h22 := hP.2.2.1
  refine ⟨po_leaf hP h1 h2 hn hT h3 h4 h5 (Or.inl h6) h8 (Or.inr (by omega)), fun e => by omega, fun _ => ?_⟩
  rw [h9, show (M 53 22 + n).toNat = (M 53 22).toNat + n.toNat by omega]
  exact hG
/-- nothing more may be opened -/
theorem yb_G6 (hP : ps_P M) (hm : sx_mok cl_ly M') (h53 : ∀ k, M' 53 k = if k = 23 then M 53 22 else M 53 k) (hoth : ∀ a, a < 128 → a ≠ 53 → M' a = M a) (hG : yk_G (yr_T M) (M 53 21).toNat (M 53 24) (M 53 22).toNat (M 53 22).toNat) : yr_B M M' := by
  obtain ⟨p1, p2, p3, p4, p5, p6, p7, p8⟩ := id hP
  have e22 : M' 53 22 = M 53 22 := h53 22
  have e23 : M' 53 23 = M 53 22 := h53 23
  have e24 : M' 53 24 = M 53 24 := h53 24
  have e25 : M' 53 25 = M 53 25 := h53 25
  refine ⟨⟨hm, fun a i ha hmm hp => ?_, by omega, by omega, by omega, fun i _ => by rw [hoth 67 (by decide) (by decide), hoth 68 (by decide) (by decide)]; exact ⟨rfl, rfl⟩, Or.inr ⟨by omega, by omega, by omega, by omega, by omega⟩⟩, fun e => by omega, fun _ => by rw [e23]; exact hG⟩
  by_cases e : a = 53
  · subst e
    rw [h53, if_neg (fun e => hp (53, 23, sx_r32) (by simp [ps_c]) rfl e.symm)]
  · rw [hoth a ha e]
/-- ! or - : what stands behind it, and its step -/
theorem yb_px (hw : (z = 33 ∧ w = 3) ∨ (z = 45 ∧ w = 4)) (hP : ps_P M) (hD : po_D M M1) (hT : yr_T M (M 53 22).toNat = z) (h2 : yr_B M1 M2) (m3 : sx_mok cl_ly M3) (f3 : ct_fr ps_c M2 M3) (e22 : M3 53 22 = M2 53 22) (e23 : M3 53 23 = M2 53 23) (e24 : M3 53 24 = M2 53 24 - 1) (e25 : M3 53 25 = M2 53 25 + 1) (e67 : M3 67 (130 + M2 53 25).toNat = w) (eo : ∀ i : Nat, (i : Int) ≠ 130 + M2 53 25 → M3 67 i = M2 67 i ∧ M3 68 i = M2 68 i) : yr_B M M3 := by
  have R3 := po_un (z := w) (by omega) hP hD h2.1 m3 f3 e22 e23 e24 e25 e67 eo
  obtain ⟨p1, p2, p3, p4, p5, p6, p7, p8⟩ := id hP
  obtain ⟨a1, a2, a3, a4, a5, a6, a7, a8, a9, a10⟩ := id hD
  have eT : yr_T M1 = yr_T M := yr_T_on a2
  have e21 := ps_T a2
  have c5 := ps_25 h2.1
  have hz : yr_T M (M 53 22).toNat = 33 ∨ yr_T M (M 53 22).toNat = 45 := by omega
  have h22 : (M1 53 22).toNat = (M 53 22).toNat + 1 := by omega
  refine ⟨R3, fun e => ?_, fun e => ?_⟩
  · have O2 := h2.2.1 (by omega)
    rw [eT, a6, h22] at O2
    have O3 := yk_O_px hz (by omega) O2
    rw [show (M3 53 25 - M 53 25).toNat = (M2 53 25 - M1 53 25).toNat + 1 by omega, e22]
    show yk_O _ _ _ _ (yr_L M3 (130 + M 53 25).toNat (M2 53 25 - M1 53 25).toNat ++ [_])
    rw [show (130 + M 53 25).toNat + (M2 53 25 - M1 53 25).toNat = (130 + M2 53 25).toNat by omega, e67, yr_L_on (M := M2) (M' := M3) (fun i h1 h2 => eo i (by omega)), ← a8]
    rw [hT] at O3
    rcases hw with ⟨rfl, rfl⟩ | ⟨rfl, rfl⟩
    · exact O3
    · exact O3
  · have G2 := h2.2.2 (by omega)
    rw [eT, a6, h22, e21] at G2
    rw [e23]
    exact yk_G_px hz (by omega) G2
/-- brackets: what stands in them fell -/
theorem yb_br0 (hP : ps_P M) (hD : po_D M M1) (hT : yr_T M (M 53 22).toNat = 40) (h2 : yr_C 1 1 M1 M2) (hf : 0 ≤ M2 53 23) (m3 : sx_mok cl_ly M3) (he : ∀ a, a < 128 → M3 a = M2 a) : yr_B M M3 := by
  have R3 := po_br0 hP hD h2.1 hf m3 he
  obtain ⟨p1, p2, p3, p4, p5, p6, p7, p8⟩ := id hP
  obtain ⟨a1, a2, a3, a4, a5, a6, a7, a8, a9, a10⟩ := id hD
  have eT : yr_T M1 = yr_T M := yr_T_on a2
  have e21 := ps_T a2
  have h22 : (M1 53 22).toNat = (M 53 22).toNat + 1 := by omega
  have e53 := he 53 (by decide)
  refine ⟨R3, fun e => by rw [e53] at e; omega, fun e => ?_⟩
  have F2 := h2.2.2 hf
  rw [eT, a6, h22, e21] at F2
  rw [e53]
  exact yk_G_br hT (by omega) F2
/-- no ) -/
theorem yb_br1 (hP : ps_P M) (hD : po_D M M1) (hT : yr_T M (M 53 22).toNat = 40) (h2 : yr_C 1 1 M1 M2) (hf : M2 53 23 = -1) (hc : yr_T M2 (M2 53 22).toNat ≠ 41) (m3 : sx_mok cl_ly M3) (h53 : ∀ k, M3 53 k = if k = 23 then M2 53 22 else M2 53 k) (hoth : ∀ a, a < 128 → a ≠ 53 → M3 a = M2 a) : yr_B M M3 := by
  have f3 : ct_fr ps_c M2 M3 := fun a i ha hmm hp => by
    by_cases e : a = 53
    · subst e
      rw [h53, if_neg (fun e => hp (53, 23, sx_r32) (by simp [ps_c]) rfl e.symm)]
    · rw [hoth a ha e]
  have R3 := po_br1 hP hD h2.1 hf m3 f3 (h53 22) (h53 23) (h53 24) (h53 25) (hoth 67 (by decide) (by decide)) (hoth 68 (by decide) (by decide))
  obtain ⟨p1, p2, p3, p4, p5, p6, p7, p8⟩ := id hP
  obtain ⟨a1, a2, a3, a4, a5, a6, a7, a8, a9, a10⟩ := id hD
  have eT : yr_T M1 = yr_T M := yr_T_on a2
  have eT2 : yr_T M2 = yr_T M1 := yr_T_on h2.1.2.1
  have e21 := ps_T a2
  have e212 := ps_T h2.1.2.1
  have c3 := h2.1.2.2.1
  have c4 := h2.1.2.2.2.1
  have h22 : (M1 53 22).toNat = (M 53 22).toNat + 1 := by omega
  have e23 : M3 53 23 = M2 53 22 := h53 23
  refine ⟨R3, fun e => by omega, fun e => ?_⟩
  have E2 := h2.2.1 hf
  rw [eT, a6, h22] at E2
  rw [eT2, eT] at hc
  rw [e23]
  exact yk_G_cl hT (by omega) E2 (by omega) hc
/-- ) -/
theorem yb_br2 (hP : ps_P M) (hD : po_D M M1) (hT : yr_T M (M 53 22).toNat = 40) (h2 : yr_C 1 1 M1 M2) (hf : M2 53 23 = -1) (hlt : M2 53 22 < M2 53 21) (hc : yr_T M2 (M2 53 22).toNat = 41) (m3 : sx_mok cl_ly M3) (h53 : ∀ k, M3 53 k = if k = 22 then M2 53 22 + 1 else if k = 24 then M2 53 24 - 1 else M2 53 k) (hoth : ∀ a, a < 128 → a ≠ 53 → M3 a = M2 a) : yr_B M M3 := by
  have f3 : ct_fr ps_c M2 M3 := fun a i ha hmm hp => by
    by_cases e : a = 53
    · subst e
      rw [h53, if_neg (fun e => hp (53, 22, sx_r32) (by simp [ps_c]) rfl e.symm), if_neg (fun e => hp (53, 24, sx_r32) (by simp [ps_c]) rfl e.symm)]
    · rw [hoth a ha e]
  have R3 := po_br2 hP hD h2.1 hf m3 f3 (h53 22) hlt (h53 23) (h53 24) (h53 25) (hoth 67 (by decide) (by decide)) (hoth 68 (by decide) (by decide))
  obtain ⟨p1, p2, p3, p4, p5, p6, p7, p8⟩ := id hP
  obtain ⟨a1, a2, a3, a4, a5, a6, a7, a8, a9, a10⟩ := id hD
  have eT : yr_T M1 = yr_T M := yr_T_on a2
  have eT2 : yr_T M2 = yr_T M1 := yr_T_on h2.1.2.1
  have c3 := h2.1.2.2.1
  have h22 : (M1 53 22).toNat = (M 53 22).toNat + 1 := by omega
  have e22 : M3 53 22 = M2 53 22 + 1 := h53 22
  have e23 : M3 53 23 = M2 53 23 := h53 23
  have e25 : M3 53 25 = M2 53 25 := h53 25
  refine ⟨R3, fun e => ?_, fun e => by omega⟩
  have E2 := h2.2.1 hf
  rw [eT, a6, h22] at E2
  rw [eT2, eT] at hc
  have O3 := yk_O_br hT (by omega) E2 hc
  rw [e25, ← a8, e22, show (M2 53 22 + 1).toNat = (M2 53 22).toNat + 1 by omega, yr_L_on (M := M2) (M' := M3) (fun i _ _ => by rw [hoth 67 (by decide) (by decide), hoth 68 (by decide) (by decide)]; exact ⟨rfl, rfl⟩)]
  exact O3
-- the walks
def yb_ws (l : Nat) (n : sx_A) (w : Int) (v : sx_A) (f : List og_W) : List og_W := [(53, (0, 25), (l, 1)), (68, (l, 130), v), (67, (l, 130), (0, w))] ++ f ++ (bif Nat.beq n.1 0 then [] else [(53, (0, 22), n)])
def yb_st (pc : Nat) : Bool := bif Nat.beq pc 55 then true else Nat.beq pc 102
noncomputable def yb_c (d : Nat) (t : sx_S) (Ts : List og_T) : Bool := gs_chk yb_st (fun u => Ts.any (og_chk t u)) 400 400 d 181 0 [(0, 2, 0, 53)] [] t
/-- nothing begins here -/
def yb_T0 (l : Nat) (h : sx_A) : List og_T := [(none, none, [], [], yb_ws l (0, 0) 1 (0, 0) [(53, (0, 23), h)], [])]
def yb_gl : List (Int × Int) := [(-128, 32), (34, 39), (41, 44), (46, 47), (58, 98), (101, 101), (103, 103), (105, 109), (111, 113), (115, 127)]
theorem yb_c0 : ((List.range 7).all fun e => sx_an (yb_c (6 * e + 4) (yz_e (0, 0) (-1, -1)) (yb_T0 13 (10, 0))) (yb_gl.all fun p => yb_c (6 * e + 4) (yz_l (0, 0) (-1, -1) p) (yb_T0 14 (11, 0)))) = true := by decide +kernel
/-- a NAME -/
def yb_T1 (k : Int) : List og_T := [(none, none, [], [], [(53, (0, 22), (11, 1)), (53, (0, 25), (14, 1)), (68, (14, 130), (0, k)), (67, (14, 130), (0, 2))], [])]
theorem yb_c1 : ((List.range 7).all fun e => yo_nl.all fun q => yb_c (6 * e + 4) (yz_l (0, 0) (-1, -1) (q.1, q.1)) (yb_T1 q.2)) = true := by decide +kernel
/-- ( ! - -/
def yb_T2 (z : Int) : List og_T := [(none, none, [], [], [(53, (0, 23), (11, 0))], [og_b 13 6 6]), (some (bif decide (z = 40) then 102 else 55), none, [(2, 0, 53)], [(0, 2, 0, 53), (1, 0, 0, z)], [(53, (0, 22), (11, 1)), (53, (0, 24), (13, 1))], [og_b 13 0 5])]
theorem yb_c2 : ((List.range 7).all fun e => [(40 : Int), 33, 45].all fun z => yb_c (6 * e + 4) (yz_l (0, 0) (-1, -1) (z, z)) (yb_T2 z)) = true := by decide +kernel
/-- numbers: digits, and what was worked out -/
def yb_n1 : List og_D := []
def yb_n2 : List og_D := [og_l 11 10 (-1), (6, (11, 1), (16, 0), 66, 0), og_b 16 48 57, (5, (0, 10), (15, -48), 2, 17), (5, (17, 0), (16, 0), 0, 18)]
def yb_n3 : List og_D := yb_n2 ++ [og_l 11 10 (-2), (6, (11, 2), (19, 0), 66, 0), og_b 19 48 57, (5, (0, 10), (18, -48), 2, 20), (5, (20, 0), (19, 0), 0, 21)]
def yb_n4 : List og_D := yb_n3 ++ [og_l 11 10 (-3), (6, (11, 3), (22, 0), 66, 0), og_b 22 48 57, (5, (0, 10), (21, -48), 2, 23), (5, (23, 0), (22, 0), 0, 24)]
def yb_nn : List (Int × Nat × Nat × List og_D) := [(1, 15, 16, yb_n1), (2, 18, 19, yb_n2), (3, 21, 22, yb_n3), (4, 24, 25, yb_n4)]
def yb_T3 : List og_T := (none, none, [], [], yb_ws 14 (11, 4) 1 (24, -48) [(53, (0, 23), (11, 4))], (6, (11, 4), (25, 0), 66, 0) :: og_l 11 10 (-4) :: og_b 25 48 57 :: yb_n4) :: yb_nn.flatMap fun q => [(none, none, [], [], yb_ws 14 (11, q.1) 1 (q.2.1, -48) [], og_nl 11 10 (-q.1) :: q.2.2.2), (none, none, [], [], yb_ws 14 (11, q.1) 1 (q.2.1, -48) [], og_l 11 10 (-q.1) :: (6, (11, q.1), (q.2.2.1, 0), 66, 0) :: og_b q.2.2.1 (-128) 47 :: q.2.2.2), (none, none, [], [], yb_ws 14 (11, q.1) 1 (q.2.1, -48) [], og_l 11 10 (-q.1) :: (6, (11, q.1), (q.2.2.1, 0), 66, 0) :: og_b q.2.2.1 58 127 :: q.2.2.2)]
theorem yb_c3 : ((List.range 7).all fun e => yb_c (6 * e + 4) (yz_l (0, 0) (-1, -1) (48, 57)) yb_T3) = true := by decide +kernel
/-- behind the operand of ! or - -/
def yb_T4 (w : Int) : List og_T := [(none, none, [], [], [(53, (0, 25), (14, 1)), (68, (14, 130), (0, 0)), (67, (14, 130), (0, w)), (53, (0, 24), (13, -1))], [])]
theorem yb_c4 : ((List.range 7).all fun e => [((33 : Int), (3 : Int)), (45, 4)].all fun q => gs_chk (fun _ => false) (fun u => (yb_T4 q.2).any (og_chk (yz_t (q.1, q.1) (0, 120) (0, 120) (-1, 120)) u)) 400 400 (6 * e + 4) 181 58 [(0, 2, 0, 53), (1, 0, 9, 0)] [] (yz_t (q.1, q.1) (0, 120) (0, 120) (-1, 120))) = true := by decide +kernel
/-- behind what stands in brackets -/
def yb_T5 : List og_T := [(none, none, [], [], [(53, (0, 24), (13, -1)), (53, (0, 22), (11, 1))], [og_b 15 41 41]), (none, none, [], [], [(53, (0, 23), (11, 0))], [(7, (15, 0), (0, 0), 41, 0)])]
def yb_T6 : List og_T := [(none, none, [], [], [(53, (0, 23), (10, 0))], [])]
noncomputable def yb_d (d : Nat) (t : sx_S) (Ts : List og_T) : Bool := gs_chk (fun _ => false) (fun u => Ts.any (og_chk t u)) 400 400 d 181 105 [(0, 2, 0, 53)] [] t
theorem yb_c5 : ((List.range 7).all fun e => sx_an (yb_d (6 * e + 4) (yz_l (0, 0) (-1, -1) (-128, 127)) yb_T5) (sx_an (yb_d (6 * e + 4) (yz_e (0, 0) (-1, -1)) yb_T6) (yb_d (6 * e + 4) (yz_t (0, 0) (0, 120) (0, 120) (0, 120)) ya_N))) = true := by decide +kernel
end
