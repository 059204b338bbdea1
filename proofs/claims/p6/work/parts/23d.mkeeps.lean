/-! Changes of the reference: undo, redo; what holds of them stays. -/
section
variable {L : Nat} {xs : Nat → Int32} {M M' MM M0 M1 M2 N : Nat → Nat → Int} {ρ ρ' : Nat → Int} {t t0 : sx_S} {Q R : Option Value → (Nat → Nat → Int) → Prop} {n w v b H C : Int}
/-- done becomes d, undone u -/
def dy_D (d u : Int) (M M' : Nat → Nat → Int) : Prop := sx_mok cl_ly M' ∧ (∀ a, a < 128 → a ≠ 53 → M' a = M a) ∧ (∀ i, i ≠ 14 → i ≠ 15 → M' 53 i = M 53 i) ∧ M' 53 14 = d ∧ M' 53 15 = u
def dy_U (M : Nat → Nat → Int) (r : Option Value) (M' : Nat → Nat → Int) : Prop := sx_mok cl_ly M' ∧ ((M 53 14 = 0 ∧ r = some (.int (Int32.ofInt (-5))) ∧ ∀ a, a < 128 → M' a = M a) ∨ (1 ≤ M 53 14 ∧ r = some (.int (Int32.ofInt (M 53 14 - 1))) ∧ ∃ M1, dy_D (M 53 14 - 1) (M 53 15 + 1) M M1 ∧ dy_L (M 62 (M 53 14 - 1).toNat) (M 63 (M 53 14 - 1).toNat) (M 64 (M 53 14 - 1).toNat) M1 M'))
def dy_V (M : Nat → Nat → Int) (r : Option Value) (M' : Nat → Nat → Int) : Prop := sx_mok cl_ly M' ∧ ((M 53 15 = 0 ∧ r = some (.int (Int32.ofInt (-5))) ∧ ∀ a, a < 128 → M' a = M a) ∨ (1 ≤ M 53 15 ∧ r = some (.int (Int32.ofInt (M 53 15 - 1))) ∧ ∃ M1, dy_L (M 62 (M 53 14).toNat) (M 63 (M 53 14).toNat) (M 65 (M 53 14).toNat) M M1 ∧ dy_D (M 53 14 + 1) (M 53 15 - 1) M1 M'))
theorem jp_pl (h : jp w n b v) : dy_pl w n b ∧ dy_pl w n v := by
  unfold jp at h
  unfold dy_pl
  omega
theorem du_sat {d u : Int × Int} (hL : L < 2 ^ 31) (hm : sx_mok cl_ly M) (hd : sx_w d (M 53 14)) (hu : sx_w u (M 53 15)) : ∃ ρ : Nat → Int, sx_sat cl_ly (0, -100) xs L M ρ M (og_t [] [(53, 14, d), (53, 15, u)]) ∧ (og_t [] [(53, 14, d), (53, 15, u)]).1 = 11 ∧ ρ 9 = M 53 14 ∧ ρ 10 = M 53 15 := by
  obtain ⟨ρ, s, e1, -, e3⟩ := og_sat (xs := xs) (gs := []) (zs := []) (fs := [(53, 14, d), (53, 15, u)]) hL hm trivial (fun g hg => by
    simp only [List.mem_cons, List.not_mem_nil, or_false] at hg
    rcases hg with rfl | rfl
    · exact og_f hm rfl (show cv_ly cl_ly (53, 14, sx_r32) = true by decide +kernel) hd
    · exact og_f hm rfl (show cv_ly cl_ly (53, 15, sx_r32) = true by decide +kernel) hu)
  exact ⟨ρ, s, e1, e3 0 _ rfl, e3 1 _ rfl⟩
theorem du_rd {a m q : Nat} {i : sx_A} (hm : sx_mok cl_ly M) (hs : sx_sat cl_ly (0, -100) xs L M ρ M t) (ht : t.1 = m) (hi : i.1 < m) (ha : 62 ≤ a ∧ a ≤ 65) (hv : sx_val ρ i = (q : Int)) (hq : q < 40) : ∃ ρ', sx_ext m ρ ρ' ∧ sx_sat cl_ly (0, -100) xs L M ρ' M (sx_frl t a i sx_r32).2 ∧ ρ' m = M a q := by
  obtain ⟨ρ', x1, x2, x3⟩ := tg_rd (k := a) (i := i) (r := sx_r32) hs ht (by omega) hi (by rw [hv]; omega) (by rw [hv, Int.toNat_natCast]; exact dk_m hm ha hq) (by rw [hv, Int.toNat_natCast]; exact sx_32_64 (dk_m hm ha hq))
  rw [hv, Int.toNat_natCast] at x3
  exact ⟨ρ', x1, x2, x3⟩
theorem du_okl {m : Nat} (hc : ∀ c, sx_ok ρ m (2, 0, c)) : sx_okl ρ m du_l := fun q hq => by
  rw [List.mem_singleton.mp hq]; exact hc _
theorem du_f58 : (sm_MT 160).2.2.2.2.2 58 = some (.invokevirtual 166, 3) := rfl
theorem dr_f38 : (sm_MT 162).2.2.2.2.2 38 = some (.invokevirtual 166, 3) := rfl
theorem dl_vv (r11 : ρ 11 = w) (r12 : ρ 12 = n) (r13 : ρ 13 = v) : lv_args 0 (sx_cs1 ρ [(2, 0, 53), (0, 11, 0), (0, 12, 0), (0, 13, 0)]) = dl_v w n v := by
  show [(0, Value.ref 53), (1, sx_cv1 ρ (0, 11, 0)), (2, sx_cv1 ρ (0, 12, 0)), (3, sx_cv1 ρ (0, 13, 0))] = _
  rw [og_int r11, og_int r12, og_int r13]
  rfl
theorem du_oks (r11 : ρ 11 = w) (r12 : ρ 12 = n) (r13 : ρ 13 = v) (h : dy_pl w n v) : sx_oks ρ 14 [(0, 13, 0), (0, 12, 0), (0, 11, 0), (2, 0, 53)] := fun q hq => by
  obtain ⟨w32, n32, v32⟩ := dy_pl32 h
  simp only [List.mem_cons, List.not_mem_nil, or_false] at hq
  rcases hq with rfl | rfl | rfl | rfl
  · exact tk_ok0 (by decide) (by rw [r13]; exact v32)
  · exact tk_ok0 (by decide) (by rw [r12]; exact n32)
  · exact tk_ok0 (by decide) (by rw [r11]; exact w32)
  · exact ⟨by show 0 < 14; decide, (fun h => by cases h), fun h => by cases h⟩
theorem dy_undo (hL : L < 2 ^ 31) (hm : sx_mok cl_ly M) (hs40 : M 53 14 + M 53 15 ≤ 40) (hJ : mJ M) : rz_fin (dy_U M) L xs 160 2 0 [(0, .ref 53)] [] M := by
  have hd := cx_fld (c := 53) (k := 14) (lo := 0) (hi := 40) hm (by decide +kernel)
  have hu := jr_un hm
  by_cases h0 : M 53 14 = 0
  · obtain ⟨ρ, s, -, r9, r10⟩ := du_sat (xs := xs) (d := (0, 0)) (u := (0, 40)) hL hm ⟨hd.1, by show M 53 14 ≤ (0 : Int); omega⟩ hu
    refine og_use (Ts := [du_T0]) (lv := du_l) (s := []) du_c0 (by decide +kernel) s (du_okl fun c => sx_ck2 s c) (fun v hv => by cases hv) (Nat.le_refl _) rfl rfl (fun T hT ρ' M' x hz hm' hc hM => ?_)
    rw [List.mem_singleton.mp hT] at hM ⊢
    show dy_U M (some (sx_cv1 ρ' (0, 0, -5))) M'
    rw [tk_cv hz]
    exact ⟨hm', Or.inl ⟨h0, rfl, hM⟩⟩
  · obtain ⟨ρ, s, e0, r9, r10⟩ := du_sat (xs := xs) (d := (1, 40)) (u := (0, 39)) hL hm ⟨by show (1 : Int) ≤ _; omega, hd.2⟩ ⟨hu.1, by show M 53 15 ≤ (39 : Int); omega⟩
    have hq : ((M 53 14 - 1).toNat : Int) = M 53 14 + -1 := by omega
    have hq40 : (M 53 14 - 1).toNat < 40 := by omega
    generalize hg : (M 53 14 - 1).toNat = q at hq hq40
    obtain ⟨ρ1, x1, s1, y1⟩ := du_rd (a := 62) (i := (9, -1)) (q := q) hm s e0 (by decide) (by decide) (by rw [og_vv r9, hq]) hq40
    have r9a := og_v x1 (by decide) r9
    obtain ⟨ρ2, x2, s2, y2⟩ := du_rd (a := 63) (m := 12) (i := (9, -1)) (q := q) hm s1 rfl (by decide) (by decide) (by rw [og_vv r9a, hq]) hq40
    have r9b := og_v x2 (by decide) r9a
    obtain ⟨ρ3, x3, s3, y3⟩ := du_rd (a := 64) (m := 13) (i := (9, -1)) (q := q) hm s2 rfl (by decide) (by decide) (by rw [og_vv r9b, hq]) hq40
    have p9 := og_v x3 (by decide) r9b
    have p10 := og_v x3 (by decide) (og_v x2 (by decide) (og_v x1 (by decide) r10))
    have p11 := og_v x3 (by decide) (og_v x2 (by decide) y1)
    have p12 := og_v x3 (by decide) y2
    refine og_use (Ts := [du_T1]) (lv := du_l) (s := []) du_c1 (by decide +kernel) s3 (du_okl fun c => sx_ck2 s3 c) (fun v hv => by cases hv) (Nat.le_refl _) rfl rfl (fun T hT ρ' M' x hz hm' hc hM => ?_)
    rw [List.mem_singleton.mp hT] at hM ⊢
    have q9 := og_v x (show 9 < 14 by decide) p9
    have q10 := og_v x (show 10 < 14 by decide) p10
    have q11 := og_v x (show 11 < 14 by decide) p11
    have q12 := og_v x (show 12 < 14 by decide) p12
    have q13 := og_v x (show 13 < 14 by decide) y3
    have hM : ∀ a, a < 128 → M' a = sx_up (sx_up M 53 (sx_val ρ' (0, 14)).toNat (sx_val ρ' (9, -1))) 53 (sx_val ρ' (0, 15)).toNat (sx_val ρ' (10, 1)) a := hM
    rw [og_c hz, og_c hz, og_vv q9, og_vv q10, show (14 : Int).toNat = 14 from rfl, show (15 : Int).toNat = 15 from rfl] at hM
    obtain ⟨hpl, -⟩ := jp_pl (hJ q hq40)
    have hD : dy_D (M 53 14 - 1) (M 53 15 + 1) M M' := by
      refine ⟨hm', fun a ha h53 => ?_, fun i h14 h15 => ?_, ?_, ?_⟩
      · rw [hM a ha]
        funext i
        unfold sx_up
        rw [if_neg h53, if_neg h53]
      · rw [hM 53 (by decide)]
        unfold sx_up
        rw [if_pos rfl, if_neg h15, if_pos rfl, if_neg h14]
      · rw [hM 53 (by decide)]
        rfl
      · rw [hM 53 (by decide)]
        rfl
    show rz_fin (dy_U M) L xs 160 2 58 [(0, .ref 53)] (sx_cs1 ρ' [(0, 13, 0), (0, 12, 0), (0, 11, 0), (2, 0, 53)]) M'
    refine og_call (d := 1) (d' := 1) (k := 161) (ρ := ρ') (m := 14) (s := [(0, 13, 0), (0, 12, 0), (0, 11, 0), (2, 0, 53)]) (as := [(2, 0, 53), (0, 11, 0), (0, 12, 0), (0, 13, 0)]) du_f58 rfl (du_oks q11 q12 q13 hpl) rfl rfl rfl (Nat.le_refl _) (dl_vv q11 q12 q13) (dy_lays hL hm' hpl) (fun r M2 hR => ?_)
    obtain ⟨rfl, hm2, hR⟩ := hR
    have hd2 := cx_fld (c := 53) (k := 14) (lo := 0) (hi := 40) hm2 (by decide +kernel)
    have k14 : M2 53 14 = M 53 14 - 1 := by
      rw [hR 53 (by decide), ← hD.2.2.2.1]
      by_cases e : M 62 q = 7
      · rw [if_pos e]
        rfl
      · rw [if_neg e]
        unfold sx_up dl_cell
        rw [if_neg (by split <;> (try split) <;> omega)]
    obtain ⟨ρ5, s5, -, z9, z10⟩ := du_sat (xs := xs) (d := (0, 40)) (u := (0, 40)) hL hm2 hd2 (jr_un hm2)
    refine og_use (Ts := [du_T2]) (lv := du_l) (s := []) du_c2 (by decide +kernel) s5 (du_okl fun c => sx_ck2 s5 c) (fun v hv => by cases hv) (Nat.le_refl _) rfl rfl (fun T hT ρ4 M4 x4 hz4 hm4 hc4 hM4 => ?_)
    rw [List.mem_singleton.mp hT] at hM4 ⊢
    have hM4 : ∀ a, a < 128 → M4 a = M2 a := hM4
    show dy_U M (some (sx_cv1 ρ4 (0, 9, 0))) M4
    rw [og_int (og_v x4 (show 9 < 11 by decide) z9), k14]
    exact ⟨hm4, Or.inr ⟨by omega, rfl, M', hD, hm4, by rw [hg]; exact fun a ha => by rw [hM4 a ha, hR a ha]⟩⟩
theorem dy_redo (hL : L < 2 ^ 31) (hm : sx_mok cl_ly M) (hs40 : M 53 14 + M 53 15 ≤ 40) (hJ : mJ M) : rz_fin (dy_V M) L xs 162 2 0 [(0, .ref 53)] [] M := by
  have hd := cx_fld (c := 53) (k := 14) (lo := 0) (hi := 40) hm (by decide +kernel)
  have hu := jr_un hm
  by_cases h0 : M 53 15 = 0
  · obtain ⟨ρ, s, -, r9, r10⟩ := du_sat (xs := xs) (d := (0, 40)) (u := (0, 0)) hL hm hd ⟨hu.1, by show M 53 15 ≤ (0 : Int); omega⟩
    refine og_use (Ts := [dr_T0]) (lv := du_l) (s := []) dr_c0 (by decide +kernel) s (du_okl fun c => sx_ck2 s c) (fun v hv => by cases hv) (Nat.le_refl _) rfl rfl (fun T hT ρ' M' x hz hm' hc hM => ?_)
    rw [List.mem_singleton.mp hT] at hM ⊢
    show dy_V M (some (sx_cv1 ρ' (0, 0, -5))) M'
    rw [tk_cv hz]
    exact ⟨hm', Or.inl ⟨h0, rfl, hM⟩⟩
  · obtain ⟨ρ, s, e0, r9, r10⟩ := du_sat (xs := xs) (d := (0, 39)) (u := (1, 40)) hL hm ⟨hd.1, by show M 53 14 ≤ (39 : Int); omega⟩ ⟨by show (1 : Int) ≤ _; omega, hu.2⟩
    have hq : ((M 53 14).toNat : Int) = M 53 14 := by omega
    have hq40 : (M 53 14).toNat < 40 := by omega
    generalize hg : (M 53 14).toNat = q at hq hq40
    obtain ⟨ρ1, x1, s1, y1⟩ := du_rd (a := 62) (i := (9, 0)) (q := q) hm s e0 (by decide) (by decide) (by rw [og_v0 r9, hq]) hq40
    have r9a := og_v x1 (by decide) r9
    obtain ⟨ρ2, x2, s2, y2⟩ := du_rd (a := 63) (m := 12) (i := (9, 0)) (q := q) hm s1 rfl (by decide) (by decide) (by rw [og_v0 r9a, hq]) hq40
    have r9b := og_v x2 (by decide) r9a
    obtain ⟨ρ3, x3, s3, y3⟩ := du_rd (a := 65) (m := 13) (i := (9, 0)) (q := q) hm s2 rfl (by decide) (by decide) (by rw [og_v0 r9b, hq]) hq40
    have p11 := og_v x3 (by decide) (og_v x2 (by decide) y1)
    have p12 := og_v x3 (by decide) y2
    refine og_use (Ts := [dr_T1]) (lv := du_l) (s := []) dr_c1 (by decide +kernel) s3 (du_okl fun c => sx_ck2 s3 c) (fun v hv => by cases hv) (Nat.le_refl _) rfl rfl (fun T hT ρ' M' x hz hm' hc hM => ?_)
    rw [List.mem_singleton.mp hT] at hM ⊢
    have hM : ∀ a, a < 128 → M' a = M a := hM
    have q11 := og_v x (show 11 < 14 by decide) p11
    have q12 := og_v x (show 12 < 14 by decide) p12
    have q13 := og_v x (show 13 < 14 by decide) y3
    obtain ⟨-, hpl⟩ := jp_pl (hJ q hq40)
    show rz_fin (dy_V M) L xs 162 2 38 [(0, .ref 53)] (sx_cs1 ρ' [(0, 13, 0), (0, 12, 0), (0, 11, 0), (2, 0, 53)]) M'
    refine og_call (d := 1) (d' := 1) (k := 161) (ρ := ρ') (m := 14) (s := [(0, 13, 0), (0, 12, 0), (0, 11, 0), (2, 0, 53)]) (as := [(2, 0, 53), (0, 11, 0), (0, 12, 0), (0, 13, 0)]) dr_f38 rfl (du_oks q11 q12 q13 hpl) rfl rfl rfl (Nat.le_refl _) (dl_vv q11 q12 q13) (dy_lays hL hm' hpl) (fun r M2 hR => ?_)
    obtain ⟨rfl, hm2, hR⟩ := hR
    have hLy : dy_L (M 62 q) (M 63 q) (M 65 q) M M2 := ⟨hm2, fun a ha => by
      rw [hR a ha]
      by_cases e : M 62 q = 7
      · rw [if_pos e, if_pos e]
        funext i
        unfold sx_up
        rw [hM a ha]
      · rw [if_neg e, if_neg e]
        funext i
        unfold sx_up
        rw [hM a ha]⟩
    have k53 : ∀ i, i ≠ 13 → M2 53 i = M 53 i := fun i hi => by
      rw [hLy.2 53 (by decide)]
      by_cases e : M 62 q = 7
      · rw [if_pos e]
        unfold sx_up
        rw [if_pos rfl, if_neg hi]
      · rw [if_neg e]
        unfold sx_up dl_cell
        rw [if_neg (by split <;> (try split) <;> omega)]
    have k14 := k53 14 (by decide)
    have k15 := k53 15 (by decide)
    obtain ⟨ρ5, s5, -, z9, z10⟩ := du_sat (xs := xs) (d := (0, 39)) (u := (1, 40)) hL hm2 (by rw [k14]; exact ⟨hd.1, by show M 53 14 ≤ (39 : Int); omega⟩) (by rw [k15]; exact ⟨by show (1 : Int) ≤ _; omega, hu.2⟩)
    refine og_use (Ts := [dr_T2]) (lv := du_l) (s := []) dr_c2 (by decide +kernel) s5 (du_okl fun c => sx_ck2 s5 c) (fun v hv => by cases hv) (Nat.le_refl _) rfl rfl (fun T hT ρ4 M4 x4 hz4 hm4 hc4 hM4 => ?_)
    rw [List.mem_singleton.mp hT] at hM4 ⊢
    have g9 := og_v x4 (show 9 < 11 by decide) z9
    have g10 := og_v x4 (show 10 < 11 by decide) z10
    have hM4 : ∀ a, a < 128 → M4 a = sx_up (sx_up M2 53 (sx_val ρ4 (0, 14)).toNat (sx_val ρ4 (9, 1))) 53 (sx_val ρ4 (0, 15)).toNat (sx_val ρ4 (10, -1)) a := hM4
    rw [og_c hz4, og_c hz4, og_vv g9, og_vv g10, k14, k15, show (14 : Int).toNat = 14 from rfl, show (15 : Int).toNat = 15 from rfl] at hM4
    show dy_V M (some (sx_cv1 ρ4 (0, 10, -1))) M4
    rw [sx_cvk0 (v := (0, 10, -1)) rfl]
    show dy_V M (some (.int (Int32.ofInt (sx_val ρ4 (10, -1))))) M4
    rw [og_vv g10, k15]
    refine ⟨hm4, Or.inr ⟨by omega, rfl, M2, by rw [hg]; exact hLy, hm4, fun a ha h53 => ?_, fun i h14 h15 => ?_, ?_, ?_⟩⟩
    · rw [hM4 a ha]
      funext i
      unfold sx_up
      rw [if_neg h53, if_neg h53]
    · rw [hM4 53 (by decide)]
      unfold sx_up
      rw [if_pos rfl, if_neg h15, if_pos rfl, if_neg h14]
    · rw [hM4 53 (by decide)]
      rfl
    · rw [hM4 53 (by decide)]
      rfl
-- what holds of the changes stays
theorem mJ_pt {f0 f1 f2 f3 : Nat → Int} {q0 : Nat} (h : ∀ q, q < 40 → jp (f0 q) (f1 q) (f2 q) (f3 q)) (hn : jp w n b v) : ∀ q, q < 40 → jp (dy_pt f0 q0 w q) (dy_pt f1 q0 n q) (dy_pt f2 q0 b q) (dy_pt f3 q0 v q) := by
  intro q hq
  unfold dy_pt
  by_cases e : q = q0
  · rw [if_pos e, if_pos e, if_pos e, if_pos e]
    exact hn
  · rw [if_neg e, if_neg e, if_neg e, if_neg e]
    exact h q hq
theorem mJ_sh (h : mJ M) : ∀ q, q < 40 → jp (dy_sh (M 62) q) (dy_sh (M 63) q) (dy_sh (M 64) q) (dy_sh (M 65) q) := by
  intro q hq
  unfold dy_sh
  by_cases e : q < 39
  · rw [if_pos e, if_pos e, if_pos e, if_pos e]
    exact h (q + 1) (by omega)
  · rw [if_neg e, if_neg e, if_neg e, if_neg e]
    exact h q hq
/-- laying a number touches nothing else -/
theorem dy_Lo (h : dy_L w n v M M') {a : Nat} (ha : a < 128) (h1 : ¬ (53 ≤ a ∧ a ≤ 61)) : M' a = M a := by
  rw [h.2 a ha]
  by_cases e : w = 7
  · rw [if_pos e]
    funext i
    unfold sx_up
    rw [if_neg (by omega)]
  · rw [if_neg e]
    funext i
    unfold sx_up dl_cell
    rw [if_neg (by split <;> (try split) <;> omega)]
theorem dy_Lo53 (h : dy_L w n v M M') {i : Nat} (hi : i ≠ 13) : M' 53 i = M 53 i := by
  rw [h.2 53 (by decide)]
  by_cases e : w = 7
  · rw [if_pos e]
    unfold sx_up
    rw [if_pos rfl, if_neg hi]
  · rw [if_neg e]
    unfold sx_up dl_cell
    rw [if_neg (by split <;> (try split) <;> omega)]
theorem dy_Lo59 (h : dy_L w n v M M') (hw : 0 ≤ w ∧ w ≤ 7) : M' 59 = M 59 := by
  rw [h.2 59 (by decide)]
  by_cases e : w = 7
  · rw [if_pos e]
    rfl
  · rw [if_neg e]
    funext i
    unfold sx_up dl_cell
    rw [if_neg (by split <;> (try split) <;> omega)]
def kd_mend : ct_C := ([(2, .ofNat 53, .ofNat 53), (0, sx_r32), (0, sx_r32), (0, sx_r32)], [], [(53, 13, .ofNat 0, .ofNat 29), (53, 14, .ofNat 0, .ofNat 40), (53, 15, .ofNat 0, .ofNat 40)], [54, 55, 56, 57, 58, 60, 61, 62, 63, 64, 65], some (0, sx_r32), 3, false)
def kd_undo : ct_C := ([(2, .ofNat 53, .ofNat 53)], [], [(53, 13, .ofNat 0, .ofNat 29), (53, 14, .ofNat 0, .ofNat 40), (53, 15, .ofNat 0, .ofNat 40)], [54, 55, 56, 57, 58, 60, 61], some (0, .negSucc 4, .ofNat 39), 2, false)
theorem kd_post (hm : sx_mok cl_ly M) : ct_g [(53, 13, .ofNat 0, .ofNat 29), (53, 14, .ofNat 0, .ofNat 40), (53, 15, .ofNat 0, .ofNat 40)] M := fun g hg => by
  simp only [List.mem_cons, List.not_mem_nil, or_false] at hg
  rcases hg with rfl | rfl | rfl
  · exact cx_fld (c := 53) (k := 13) (lo := 0) (hi := 29) hm (by decide +kernel)
  · exact cx_fld (c := 53) (k := 14) (lo := 0) (hi := 40) hm (by decide +kernel)
  · exact cx_fld (c := 53) (k := 15) (lo := 0) (hi := 40) hm (by decide +kernel)
theorem JJ_same (hJ : JJ M) (h : ∀ a, a < 128 → M' a = M a) : JJ M' := by
  obtain ⟨j1, j2, j3, j4⟩ := JJ_iff.mp hJ
  exact JJ_iff.mpr ⟨by rw [h 33 (by decide)]; exact j1, mJ_on j2 (fun a x y => h a (by omega)), by rw [h 32 (by decide)]; exact j3, by rw [h 53 (by decide)]; exact j4⟩
theorem c2_mmend (hL : L < 2 ^ 31) : ci L xs 163 kd_mend := by
  intro d as M hd has hg hm hJ
  obtain ⟨a0, as, rfl, v0, has⟩ := cv_cons has
  obtain ⟨a1, as, rfl, v1, has⟩ := cv_cons has
  obtain ⟨a2, as, rfl, v2, has⟩ := cv_cons has
  obtain ⟨a3, as, rfl, v3, has⟩ := cv_cons has
  have ea := cv_nil has
  subst ea
  have e0 := cv_ref v0
  obtain ⟨n, e1, -, hn⟩ := cv_i32 v1
  obtain ⟨w, e2, -, hw⟩ := cv_i32 v2
  obtain ⟨v, e3, -, hv⟩ := cv_i32 v3
  subst e0 e1 e2 e3
  obtain ⟨F, r, M', e, hm', hR⟩ := dy_mend (xs := xs) hL hm hn hw hv
  have hd : 3 ≤ d := hd
  obtain ⟨j1, j2, j3, j4⟩ := JJ_iff.mp hJ
  have main : JJ M' ∧ (∀ a i, a < 128 → ¬ (54 ≤ a ∧ a ≤ 65 ∧ a ≠ 59) → (a = 53 → i ≠ 13 ∧ i ≠ 14 ∧ i ≠ 15) → M' a i = M a i) ∧ ∃ z, r = some (.int (Int32.ofInt z)) ∧ sx_w sx_r32 z := by
    rcases hR with ⟨-, h2, h3⟩ | ⟨h1, h2, -, h3, h4⟩
    · exact ⟨JJ_same hJ h3, fun a i ha _ _ => by rw [h3 a ha], _, h2, by rw [sx_r32_iff]; omega⟩
    · have hH := cx_fld (c := 53) (k := 1) (lo := 0) (hi := 6) hm (by decide +kernel)
      have hC := cx_fld (c := 53) (k := 8) (lo := 0) (hi := 12) hm (by decide +kernel)
      have hpl : dy_pl w n v := by
        unfold cm_pl at h1
        unfold cm_rg at h2
        unfold dy_pl
        omega
      have hat := dy_at32 hm hpl
      have b32 : sx_w sx_r32 (dy_at w n M) := by rw [sx_r32_iff]; omega
      rcases h4 with ⟨h5, h6⟩ | ⟨h5, M1, ⟨a1, a2, a3, a4, a5⟩, h7⟩
      · exact ⟨JJ_same hJ h6, fun a i ha _ _ => by rw [h6 a ha], _, h3, b32⟩
      · have hnew : jp w n (dy_at w n M) v := by
          have h7 : w = 7 → 0 ≤ dy_at w n M ∧ dy_at w n M ≤ 29 := fun e => by
            unfold dy_at
            rw [if_pos e]
            exact cx_fld (c := 53) (k := 13) (lo := 0) (hi := 29) hm (by decide +kernel)
          unfold cm_pl at h1
          unfold cm_rg at h2
          unfold jp
          omega
        have o : ∀ a, 62 ≤ a → a ≤ 65 → M' a = M1 a := fun a x y => dy_Lo h7 (by omega) (by omega)
        have o14 := dy_Lo53 h7 (i := 14) (by decide)
        have o15 := dy_Lo53 h7 (i := 15) (by decide)
        have hw7 : 0 ≤ w ∧ w ≤ 7 := by unfold dy_pl at hpl; omega
        refine ⟨JJ_iff.mpr ⟨?_, ?_, ?_, ?_⟩, fun a i ha h54 h53 => ?_, _, h3, b32⟩
        · rw [dy_Lo h7 (by decide) (by decide), a2 33 (by decide) (by decide) (by decide)]
          exact j1
        · intro q hq
          rw [o 62 (by decide) (by decide), o 63 (by decide) (by decide), o 64 (by decide) (by decide), o 65 (by decide) (by decide)]
          rcases a5 with ⟨-, -, c1, c2, c3, c4⟩ | ⟨-, -, c1, c2, c3, c4⟩
          · rw [c1, c2, c3, c4]
            exact mJ_pt j2 hnew q hq
          · rw [c1, c2, c3, c4]
            exact mJ_pt (mJ_sh j2) hnew q hq
        · rw [dy_Lo h7 (by decide) (by decide), a2 32 (by decide) (by decide) (by decide)]
          exact j3
        · rw [o14, o15, a4]
          rcases a5 with ⟨c0, c1, -⟩ | ⟨c0, c1, -⟩ <;> omega
        · by_cases e53 : a = 53
          · have h9 := h53 e53
            subst e53
            rw [dy_Lo53 h7 h9.1, a3 i h9.2.1 h9.2.2]
          · by_cases e59 : a = 59
            · subst e59
              rw [dy_Lo59 h7 hw7, a2 59 (by decide) (by decide) (by decide)]
            · rw [dy_Lo h7 ha (by omega), a2 a ha e53 (by omega)]
  obtain ⟨m2, m3, z, m4, m5⟩ := main
  refine ⟨F, r, M', mt_d e hd, hm', fun a i ha hmod hp => m3 a i ha (fun h => hmod ?_) (fun h => ⟨fun h9 => ?_, fun h9 => ?_, fun h9 => ?_⟩), kd_post hm', ?_, m2⟩
  · have : a = 54 ∨ a = 55 ∨ a = 56 ∨ a = 57 ∨ a = 58 ∨ a = 60 ∨ a = 61 ∨ a = 62 ∨ a = 63 ∨ a = 64 ∨ a = 65 := by omega
    rcases this with rfl | rfl | rfl | rfl | rfl | rfl | rfl | rfl | rfl | rfl | rfl <;> simp [kd_mend]
  · exact hp (53, 13, .ofNat 0, .ofNat 29) (by simp [kd_mend]) h.symm h9.symm
  · exact hp (53, 14, .ofNat 0, .ofNat 40) (by simp [kd_mend]) h.symm h9.symm
  · exact hp (53, 15, .ofNat 0, .ofNat 40) (by simp [kd_mend]) h.symm h9.symm
  · rw [m4]
    exact Or.inl ⟨rfl, z, rfl, m5, m5⟩
/-- undo() or redo(): out of what they do -/
theorem dy_ud {z : Int} {r : Option Value} (hm' : sx_mok cl_ly M') (hJ : JJ M) (h : (r = some (.int (Int32.ofInt (-5))) ∧ ∀ a, a < 128 → M' a = M a) ∨ (r = some (.int (Int32.ofInt z)) ∧ (0 ≤ z ∧ z ≤ 39) ∧ (∀ a i, a < 128 → ¬ (54 ≤ a ∧ a ≤ 61 ∧ a ≠ 59) → (a = 53 → i ≠ 13 ∧ i ≠ 14 ∧ i ≠ 15) → M' a i = M a i) ∧ M' 53 14 + M' 53 15 = M 53 14 + M 53 15)) : ct_fr kd_undo M M' ∧ ct_g kd_undo.2.2.1 M' ∧ ct_r kd_undo.2.2.2.2.1 r ∧ JJ M' := by
  rcases h with ⟨rfl, h3⟩ | ⟨rfl, h1, h2, h3⟩
  · exact ⟨fun a i ha _ _ => by rw [h3 a ha], kd_post hm', Or.inl ⟨rfl, -5, rfl, ⟨by decide, by decide⟩, by rw [sx_r32_iff]; omega⟩, JJ_same hJ h3⟩
  · obtain ⟨j1, j2, j3, j4⟩ := JJ_iff.mp hJ
    have o : ∀ a, a < 128 → ¬ (53 ≤ a ∧ a ≤ 61) → M' a = M a := fun a ha hn => by
      funext i
      exact h2 a i ha (by omega) (by omega)
    refine ⟨fun a i ha hmod hp => h2 a i ha (fun h => hmod ?_) (fun h => ⟨fun h9 => ?_, fun h9 => ?_, fun h9 => ?_⟩), kd_post hm', Or.inl ⟨rfl, z, rfl, ⟨by show (-5 : Int) ≤ z; omega, h1.2⟩, by rw [sx_r32_iff]; omega⟩, JJ_iff.mpr ⟨by rw [o 33 (by decide) (by decide)]; exact j1, mJ_on j2 (fun a x y => o a (by omega) (by omega)), by rw [o 32 (by decide) (by decide)]; exact j3, by omega⟩⟩
    · have : a = 54 ∨ a = 55 ∨ a = 56 ∨ a = 57 ∨ a = 58 ∨ a = 60 ∨ a = 61 := by omega
      rcases this with rfl | rfl | rfl | rfl | rfl | rfl | rfl <;> simp [kd_undo]
    · exact hp (53, 13, .ofNat 0, .ofNat 29) (by simp [kd_undo]) h.symm h9.symm
    · exact hp (53, 14, .ofNat 0, .ofNat 40) (by simp [kd_undo]) h.symm h9.symm
    · exact hp (53, 15, .ofNat 0, .ofNat 40) (by simp [kd_undo]) h.symm h9.symm
theorem c2_mundo (hL : L < 2 ^ 31) : ci L xs 160 kd_undo := by
  intro d as M hd has hg hm hJ
  have hd : 2 ≤ d := hd
  obtain ⟨a0, as, rfl, v0, has⟩ := cv_cons has
  have ea := cv_nil has
  subst ea
  have e0 := cv_ref v0
  subst e0
  obtain ⟨j1, j2, j3, j4⟩ := JJ_iff.mp hJ
  have hdn := cx_fld (c := 53) (k := 14) (lo := 0) (hi := 40) hm (by decide +kernel)
  have hun := jr_un hm
  obtain ⟨F, r, M', e, hm', hR⟩ := dy_undo (xs := xs) hL hm j4 j2
  obtain ⟨f1, f2, f3, f4⟩ := dy_ud (r := r) (z := M 53 14 - 1) hm' hJ (by
    rcases hR with ⟨-, h2, h3⟩ | ⟨h1, h2, M1, ⟨b1, b2, b3, b4, b5⟩, h3⟩
    · exact Or.inl ⟨h2, h3⟩
    · have hw7 : 0 ≤ M 62 (M 53 14 - 1).toNat ∧ M 62 (M 53 14 - 1).toNat ≤ 7 := by
        have := j2 (M 53 14 - 1).toNat (by omega)
        unfold jp at this
        omega
      refine Or.inr ⟨h2, by omega, fun a i ha h54 h53 => ?_, ?_⟩
      · by_cases e53 : a = 53
        · have h9 := h53 e53
          subst e53
          rw [dy_Lo53 h3 h9.1, b3 i h9.2.1 h9.2.2]
        · by_cases e59 : a = 59
          · subst e59
            rw [dy_Lo59 h3 hw7, b2 59 (by decide) (by decide)]
          · rw [dy_Lo h3 ha (by omega), b2 a ha e53]
      · rw [dy_Lo53 h3 (by decide), dy_Lo53 h3 (by decide), b4, b5]
        omega)
  exact ⟨F, r, M', mt_d e hd, hm', f1, f2, f3, f4⟩
theorem c2_mredo (hL : L < 2 ^ 31) : ci L xs 162 kd_undo := by
  intro d as M hd has hg hm hJ
  have hd : 2 ≤ d := hd
  obtain ⟨a0, as, rfl, v0, has⟩ := cv_cons has
  have ea := cv_nil has
  subst ea
  have e0 := cv_ref v0
  subst e0
  obtain ⟨j1, j2, j3, j4⟩ := JJ_iff.mp hJ
  have hdn := cx_fld (c := 53) (k := 14) (lo := 0) (hi := 40) hm (by decide +kernel)
  have hun := jr_un hm
  obtain ⟨F, r, M', e, hm', hR⟩ := dy_redo (xs := xs) hL hm j4 j2
  obtain ⟨f1, f2, f3, f4⟩ := dy_ud (r := r) (z := M 53 15 - 1) hm' hJ (by
    rcases hR with ⟨-, h2, h3⟩ | ⟨h1, h2, M1, h3, b1, b2, b3, b4, b5⟩
    · exact Or.inl ⟨h2, h3⟩
    · have hw7 : 0 ≤ M 62 (M 53 14).toNat ∧ M 62 (M 53 14).toNat ≤ 7 := by
        have := j2 (M 53 14).toNat (by omega)
        unfold jp at this
        omega
      refine Or.inr ⟨h2, by omega, fun a i ha h54 h53 => ?_, by omega⟩
      by_cases e53 : a = 53
      · have h9 := h53 e53
        subst e53
        rw [b3 i h9.2.1 h9.2.2, dy_Lo53 h3 h9.1]
      · by_cases e59 : a = 59
        · subst e59
          rw [b2 59 (by decide) (by decide), dy_Lo59 h3 hw7]
        · rw [b2 a ha e53, dy_Lo h3 ha (by omega)])
  exact ⟨F, r, M', mt_d e hd, hm', f1, f2, f3, f4⟩
end
