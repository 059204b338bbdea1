/-! A day in thought, and days: the class. -/
section
variable {L : Nat} {xs : Nat → Int32} {M M' M1 M2 : Nat → Nat → Int} {D W N B B' : Nat → Int} {lk lk' : Nat → Nat → Int → Int} {S G s a b z c f e r : Int} {i h q n d nc k : Nat} {T : Int × (Nat → Int)} {Q R : Option Value → (Nat → Nat → Int) → Prop} {zs : List Int}
/-- whose card it is (-1: none); what is used then; how often houses were visited then -/
def vq_hs (W : Nat → Int) (c : Int) : Int := if c < 0 then -1 else W c.toNat
def vq_us (D : Nat → Int) (G c : Int) : Int := if c < 0 then G else if D c.toNat = -1 then sx_mf 4 G (sx_mf 8 1 c) else G
def vq_bn (W B : Nat → Int) (c : Int) (h : Nat) : Int := if c < 0 then B h else if (h : Int) = W c.toNat then sx_mf 0 (B h) 1 else B h
/-- the card of a day -/
def vq_cd (D W : Nat → Int) (lk : Nat → Nat → Int → Int) (S : Int) (nc d : Nat) (T : Int × (Nat → Int)) : Int := (vq_ch D W (fun h => lk d h (T.2 h)) S T.1 (d : Int) nc).1
def vq_nx (D W : Nat → Int) (T : Int × (Nat → Int)) (c : Int) : Int × (Nat → Int) := (vq_us D T.1 c, vq_bn W T.2 c)
/-- k days from day d on -/
def vq_T (D W : Nat → Int) (lk : Nat → Nat → Int → Int) (S : Int) (nc : Nat) : Nat → Nat → Int × (Nat → Int) → Int × (Nat → Int)
  | 0, _, T => T
  | k + 1, d, T => vq_T D W lk S nc k (d + 1) (vq_nx D W T (vq_cd D W lk S nc d T))
def vs_D (M : Nat → Nat → Int) (c : Nat) : Int := M 10 (c + 180)
def vs_lk (M : Nat → Nat → Int) (d h : Nat) (b : Int) : Int := vq_X M h d b
def vs_cd (M : Nat → Nat → Int) (nc d : Nat) (T : Int × (Nat → Int)) : Int := vq_cd (vs_D M) (M 11) (vs_lk M) (M 21 8) nc d T
def vs_T (M : Nat → Nat → Int) (nc k d : Nat) (T : Int × (Nat → Int)) : Int × (Nat → Int) := vq_T (vs_D M) (M 11) (vs_lk M) (M 21 8) nc k d T
/-- what thinking leaves as it was -/
def vs_F (M M' : Nat → Nat → Int) : Prop := (∀ a, a < 128 → ¬ (19 ≤ a ∧ a ≤ 23) → M' a = M a) ∧ ∀ j, j ≠ 6 → M' 21 j = M 21 j
/-- what is used, and how often houses were visited, in thought -/
def vs_P (T : Int × (Nat → Int)) (M : Nat → Nat → Int) : Prop := M 21 6 = T.1 ∧ ∀ h, M 23 h = T.2 h
theorem vs_F_rfl : vs_F M M := ⟨fun _ _ _ => rfl, fun _ _ => rfl⟩
theorem vs_F_tr (h1 : vs_F M M1) (h2 : vs_F M1 M2) : vs_F M M2 := ⟨fun a ha hn => (h2.1 a ha hn).trans (h1.1 a ha hn), fun j hj => (h2.2 j hj).trans (h1.2 j hj)⟩
theorem vs_keep (hw : WF M) (hR : vu_R M) (h : vs_F M M') : WF M' ∧ vu_R M' ∧ ∀ g d b, vq_X M' g d b = vq_X M g d b := by
  have e := fun a ha h1 => h.1 a ha h1
  have e67 := e 67 (by decide) (by decide)
  have e68 := e 68 (by decide) (by decide)
  have e69 := e 69 (by decide) (by decide)
  have e70 := e 70 (by decide) (by decide)
  have e71 := e 71 (by decide) (by decide)
  have e53 := e 53 (by decide) (by decide)
  have e10 := e 10 (by decide) (by decide)
  refine ⟨WF_zs M M' (fun k hk => ?_) hw, vu_on hR hw (e 16 (by decide) (by decide)) (by rw [e 14 (by decide) (by decide)]) (by rw [e53]) (fun i _ => by rw [e67, e68]; exact ⟨rfl, rfl⟩) (by rw [e69]) (fun i _ => by rw [e70, e71]; exact ⟨rfl, rfl⟩), fun g d b => ?_⟩
  · simp only [cz_zs, List.mem_cons, List.not_mem_nil, or_false] at hk
    exact e k (by omega) (by omega)
  · unfold vq_X
    rw [e10]
    exact vq_like_M (by rw [e53]) (by rw [e69]) e67 e68 e70 e71
theorem vs_eq (hX : ∀ g d b, vq_X M' g d b = vq_X M g d b) (h : vs_F M M') : vs_D M' = vs_D M ∧ M' 11 = M 11 ∧ vs_lk M' = vs_lk M ∧ M' 21 8 = M 21 8 := by
  refine ⟨?_, h.1 11 (by decide) (by decide), ?_, h.2 8 (by decide)⟩
  · unfold vs_D
    rw [h.1 10 (by decide) (by decide)]
  · funext d g b
    exact hX g d b
theorem vs_ch (hP : vs_P T M') (hX : ∀ g d b, vq_X M' g d b = vq_X M g d b) (h : vs_F M M') : (vr_ch M' d nc).1 = vs_cd M nc d T := by
  obtain ⟨e1, e2, e3, e4⟩ := vs_eq hX h
  have e5 : vr_lk M' d = fun g => vs_lk M d g (T.2 g) := by
    funext g
    unfold vr_lk vs_lk
    rw [hX, hP.2 g]
  have e6 : (fun c => M' 10 (c + 180)) = vs_D M := e1
  unfold vr_ch vs_cd vq_cd
  rw [e5, e6, e2, e4, hP.1]
def vp_Q (M : Nat → Nat → Int) (c : Int) (r : Option Value) (M' : Nat → Nat → Int) : Prop := r = some (.int (Int32.ofInt (vq_or (vq_hs (M 11) c)))) ∧ sx_mok cl_ly M' ∧ vs_F M M' ∧ vs_P (vq_nx (vs_D M) (M 11) (M 21 6, M 23) c) M'
theorem vr_ch_on (hX : ∀ g d b, vq_X M' g d b = vq_X M g d b) (h : ∀ a, a < 128 → a ≠ 19 → a ≠ 20 → a ≠ 22 → M' a = M a) : vr_ch M' d n = vr_ch M d n := by
  have e5 : vr_lk M' d = vr_lk M d := by
    funext g
    unfold vr_lk
    rw [hX, h 23 (by decide) (by decide) (by decide) (by decide)]
  unfold vr_ch
  rw [e5, h 10 (by decide) (by decide) (by decide) (by decide), h 11 (by decide) (by decide) (by decide) (by decide), h 21 (by decide) (by decide) (by decide) (by decide)]
theorem vp_spend (hL : L < 2 ^ 31) (hm : sx_mok cl_ly M) (hd : d ≤ 29) (hw : WF M) (hR : vu_R M) (hnc : M 9 5 = (nc : Int)) : rz_fin (vp_Q M (vr_ch M d nc).1) L xs 56 8 0 [(0, .ref 21), (1, .int (Int32.ofInt (d : Int)))] [] M := by
  have h12 : 0 ≤ M 9 5 ∧ M 9 5 ≤ 12 := cv_ly_ok (g := (9, 5, 0, 12)) hm (by decide +kernel)
  have rg := vq_ch_r (D := fun c => M 10 (c + 180)) (W := M 11) (S := M 21 8) (G := M 21 6) (d := (d : Int)) (fun i => (vr_lk_r (M := M) d i).2) nc
  have rg : -1 ≤ (vr_ch M d nc).1 ∧ (vr_ch M d nc).1 < (nc : Int) := ⟨rg.1, rg.2.1⟩
  obtain ⟨c, hc⟩ : ∃ c, (vr_ch M d nc).1 = c := ⟨_, rfl⟩
  rw [hc] at rg ⊢
  refine qs_use (zs := [(d : Int)]) vp1_c hL hm (qs_in (show 0 ≤ (d : Int) ∧ (d : Int) ≤ 29 by omega) (qs_fin rfl)) (Nat.le_refl _) rfl rfl (qs_c (fun M2 hm2 hc2 hM2 => ?_) qs_z)
  have f2 : ∀ a, a < 128 → M2 a = M a := hM2
  obtain ⟨w2, r2, X2⟩ := vr_keep hw hR (M' := M2) (fun a ha _ _ _ => f2 a ha)
  have ch := vr_choice (xs := xs) (d := d) (nc := nc) hL hm2 hd w2 r2 (by rw [f2 9 (by decide)]; exact hnc)
  rw [vr_ch_on X2 (fun a ha _ _ _ => f2 a ha), hc] at ch
  show rz_fin _ L xs 56 8 2 [(0, .ref 21), (1, .int (Int32.ofInt (d : Int)))] [.int (Int32.ofInt (d : Int)), .ref 21] M2
  refine qs_vc (k := 57) (b := 21) (d := 7) (d' := 7) (rest := []) rfl rfl rfl rfl rfl rfl rfl rfl (Nat.le_refl _) rfl (rz_d (by decide) ch) (fun r9 M3 hr => ?_)
  obtain ⟨rfl, hm3, f3⟩ := hr
  have h3 : ∀ a, a < 128 → a ≠ 19 → a ≠ 20 → a ≠ 22 → M3 a = M a := fun a ha x1 x2 x3 => (f3 a ha x1 x2 x3).trans (f2 a ha)
  have z10 := h3 10 (by decide) (by decide) (by decide) (by decide)
  have z11 := h3 11 (by decide) (by decide) (by decide) (by decide)
  have z21 := h3 21 (by decide) (by decide) (by decide) (by decide)
  have z23 := h3 23 (by decide) (by decide) (by decide) (by decide)
  by_cases hc0 : c < 0
  · have e : vq_or c = -2 := if_pos hc0
    have e2 : vq_or (vq_hs (M 11) c) = -2 := by
      unfold vq_hs
      rw [if_pos hc0]
      rfl
    rw [e]
    refine qs_use (zs := [(d : Int)]) vp3_c hL hm3 (qs_in (show 0 ≤ (d : Int) ∧ (d : Int) ≤ 29 by omega) (qs_fin rfl)) (Nat.le_refl _) rfl rfl (qs_c (fun M4 hm4 hc4 hM4 => ?_) qs_z)
    have g4 : ∀ a, a < 128 → M4 a = M3 a := hM4
    unfold vp_Q
    rw [e2]
    refine ⟨rfl, hm4, ⟨fun a ha hn => (g4 a ha).trans (h3 a ha (by omega) (by omega) (by omega)), fun j _ => by rw [g4 21 (by decide), z21]⟩, ?_, fun h => ?_⟩
    · rw [g4 21 (by decide), z21]
      show M 21 6 = vq_us (vs_D M) (M 21 6) c
      unfold vq_us
      rw [if_pos hc0]
    · rw [g4 23 (by decide), z23]
      show M 23 h = vq_bn (M 11) (M 23) c h
      unfold vq_bn
      rw [if_pos hc0]
  · obtain ⟨k, rfl⟩ : ∃ k : Nat, c = (k : Int) := ⟨c.toNat, by omega⟩
    have e : vq_or (k : Int) = (k : Int) := if_neg hc0
    have w11 : 0 ≤ M 11 k ∧ M 11 k ≤ 5 := by
      rw [← z11]
      exact hm3 11 _ k _ rfl (by show k < 12; omega) rfl
    obtain ⟨g, hg⟩ : ∃ g : Nat, M 11 k = (g : Int) := ⟨(M 11 k).toNat, by omega⟩
    have e2 : vq_or (vq_hs (M 11) (k : Int)) = (g : Int) := by
      unfold vq_hs
      rw [if_neg hc0, Int.toNat_natCast, hg]
      exact if_neg (by omega)
    have a1 : ((k : Int) + 180).toNat = k + 180 := by omega
    have w6 : sx_w sx_r32 (M 21 6) := by rw [← z21]; exact cv_ly_ok (g := (21, 6, sx_r32)) hm3 (by decide +kernel)
    have w23 : sx_w sx_r32 (M 23 g) := by rw [← z23]; exact hm3 23 _ g _ rfl (by show g < 6; omega) rfl
    rw [e]
    unfold vp_Q
    rw [e2]
    refine qs_use (zs := [(d : Int), (k : Int), M 10 (k + 180), M 21 6, (g : Int), M 23 g]) vp2_c hL hm3 (qs_in (show 0 ≤ (d : Int) ∧ (d : Int) ≤ 29 by omega) (qs_in (show 0 ≤ (k : Int) ∧ (k : Int) ≤ 11 by omega) (qs_rd (show 0 ≤ (k : Int) + 180 by omega) (show M3 10 ((k : Int) + 180).toNat = _ by rw [a1, z10]; rfl) (by rw [← z10]; exact cx_m10 hm3 (by omega)) (qs_rd (show (0 : Int) ≤ 6 by decide) (by rw [z21]; rfl) w6 (qs_rd (show 0 ≤ (k : Int) by omega) (by rw [z11]; exact hg) (show 0 ≤ (g : Int) ∧ (g : Int) ≤ 5 by omega) (qs_rd (show 0 ≤ (g : Int) by omega) (by rw [z23]; rfl) w23 (qs_fin rfl))))))) (Nat.le_refl _) rfl rfl (qs_c (fun u1 u2 u3 M4 hm4 hc4 hM4 => ?_) (qs_c (fun u1 u2 u3 M4 hm4 hc4 hM4 => ?_) qs_z))
    · obtain ⟨c1, c2, c3, c4, -⟩ := hc4
      have c1 : -1 ≤ M 10 (k + 180) ∧ M 10 (k + 180) ≤ -1 := c1
      have c2 : u1 = sx_mf 8 1 (k : Int) := c2
      have c3 : u2 = sx_mf 4 (M 21 6) u1 := c3
      have c4 : u3 = sx_mf 0 (M 23 g) 1 := c4
      have hM4 : ∀ a, a < 128 → M4 a = sx_up (sx_up M3 21 6 u2) 23 (g : Int).toNat u3 a := hM4
      rw [Int.toNat_natCast] at hM4
      refine ⟨rfl, hm4, ⟨fun a ha hn => ?_, fun j hj => ?_⟩, ?_, fun h => ?_⟩
      · rw [hM4 a ha, sh_une (by omega), sh_une (by omega)]
        exact h3 a ha (by omega) (by omega) (by omega)
      · rw [hM4 21 (by decide), sh_une (by decide), sh_unj hj, z21]
      · rw [hM4 21 (by decide), sh_une (by decide), sh_uat]
        show u2 = vq_us (vs_D M) (M 21 6) (k : Int)
        unfold vq_us vs_D
        rw [if_neg hc0, Int.toNat_natCast, if_pos (show M 10 (k + 180) = -1 by omega), c3, c2]
      · rw [hM4 23 (by decide)]
        show _ = vq_bn (M 11) (M 23) (k : Int) h
        unfold vq_bn
        rw [if_neg hc0, Int.toNat_natCast, hg]
        by_cases eh : h = g
        · rw [eh, sh_uat, if_pos rfl, c4]
        · rw [sh_unj eh, sh_une (by decide), if_neg (by omega), z23]
    · obtain ⟨c1, c4, -⟩ := hc4
      have c1 : M 10 (k + 180) ≠ -1 := c1
      have c4 : u1 = sx_mf 0 (M 23 g) 1 := c4
      have hM4 : ∀ a, a < 128 → M4 a = sx_up M3 23 (g : Int).toNat u1 a := hM4
      rw [Int.toNat_natCast] at hM4
      refine ⟨rfl, hm4, ⟨fun a ha hn => ?_, fun j hj => ?_⟩, ?_, fun h => ?_⟩
      · rw [hM4 a ha, sh_une (by omega)]
        exact h3 a ha (by omega) (by omega) (by omega)
      · rw [hM4 21 (by decide), sh_une (by decide), z21]
      · rw [hM4 21 (by decide), sh_une (by decide), z21]
        show M 21 6 = vq_us (vs_D M) (M 21 6) (k : Int)
        unfold vq_us vs_D
        rw [if_neg hc0, Int.toNat_natCast, if_neg c1]
      · rw [hM4 23 (by decide)]
        show _ = vq_bn (M 11) (M 23) (k : Int) h
        unfold vq_bn
        rw [if_neg hc0, Int.toNat_natCast, hg]
        by_cases eh : h = g
        · rw [eh, sh_uat, if_pos rfl, c4]
        · rw [sh_unj eh, if_neg (by omega), z23]
/-- a day, as thinking goes on from M0 -/
theorem vs_spend {M0 : Nat → Nat → Int} (hL : L < 2 ^ 31) (hm : sx_mok cl_ly M) (hd : d ≤ 29) (hw : WF M0) (hR : vu_R M0) (hnc : M0 9 5 = (nc : Int)) (hF : vs_F M0 M) (hP : vs_P T M) : rz_fin (fun r M' => r = some (.int (Int32.ofInt (vq_or (vq_hs (M0 11) (vs_cd M0 nc d T))))) ∧ sx_mok cl_ly M' ∧ vs_F M0 M' ∧ vs_P (vq_nx (vs_D M0) (M0 11) T (vs_cd M0 nc d T)) M') L xs 56 8 0 [(0, .ref 21), (1, .int (Int32.ofInt (d : Int)))] [] M := by
  obtain ⟨w, r, X⟩ := vs_keep hw hR hF
  obtain ⟨e1, e2, -, -⟩ := vs_eq X hF
  have h := vp_spend (xs := xs) (nc := nc) hL hm hd w r (by rw [hF.1 9 (by decide) (by decide)]; exact hnc)
  rw [vs_ch (nc := nc) hP X hF] at h
  refine qs_w h (fun r M' g => ?_)
  obtain ⟨g1, g2, g3, g4⟩ := g
  rw [e2] at g1
  refine ⟨g1, g2, vs_F_tr hF g3, ?_⟩
  rw [e1, e2, hP.1, show M 23 = T.2 from funext hP.2] at g4
  exact g4
end
