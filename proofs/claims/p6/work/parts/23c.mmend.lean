/-! Changes of the reference: changes, mend, undo, redo. -/
section
variable {L : Nat} {xs : Nat → Int32} {M M' MM M0 M1 M2 N : Nat → Nat → Int} {ρ ρ' : Nat → Int} {t t0 : sx_S} {Q R : Option Value → (Nat → Nat → Int) → Prop} {n w v b H C : Int}
/-- a change is kept -/
def dy_A (w n b v : Int) (M M' : Nat → Nat → Int) : Prop := sx_mok cl_ly M' ∧ (∀ a, a < 128 → a ≠ 53 → ¬ (62 ≤ a ∧ a ≤ 65) → M' a = M a) ∧ (∀ i, i ≠ 14 → i ≠ 15 → M' 53 i = M 53 i) ∧ M' 53 15 = 0 ∧ ((M 53 14 < 40 ∧ M' 53 14 = M 53 14 + 1 ∧ M' 62 = dy_pt (M 62) (M 53 14).toNat w ∧ M' 63 = dy_pt (M 63) (M 53 14).toNat n ∧ M' 64 = dy_pt (M 64) (M 53 14).toNat b ∧ M' 65 = dy_pt (M 65) (M 53 14).toNat v) ∨ (M 53 14 = 40 ∧ M' 53 14 = 40 ∧ M' 62 = dy_pt (dy_sh (M 62)) 39 w ∧ M' 63 = dy_pt (dy_sh (M 63)) 39 n ∧ M' 64 = dy_pt (dy_sh (M 64)) 39 b ∧ M' 65 = dy_pt (dy_sh (M 65)) 39 v))
/-- what changes() does -/
def dy_X (w n v : Int) (M : Nat → Nat → Int) (r : Option Value) (M' : Nat → Nat → Int) : Prop := sx_mok cl_ly M' ∧ r = some (.int (Int32.ofInt (dy_at w n M))) ∧ ((dy_at w n M = v ∧ ∀ a, a < 128 → M' a = M a) ∨ (dy_at w n M ≠ v ∧ ∃ M1, dy_A w n (dy_at w n M) v M M1 ∧ dy_L w n v M1 M'))
theorem dy_at32 (hm : sx_mok cl_ly M) (h : dy_pl w n v) : -1 ≤ dy_at w n M ∧ dy_at w n M ≤ 143 := by
  unfold dy_at
  by_cases e : w = 7
  · rw [if_pos e]
    have := cx_fld (c := 53) (k := 13) (lo := 0) (hi := 29) hm (by decide +kernel)
    omega
  · rw [if_neg e]
    have h54 : ∀ {a : Nat}, (a = 54 ∨ a = 55 ∨ a = 56 ∨ a = 57 ∨ a = 58) → n.toNat < 6 → -1 ≤ M a n.toNat ∧ M a n.toNat ≤ 143 := fun {a} ha hn => by
      rcases ha with rfl | rfl | rfl | rfl | rfl
      · exact hm 54 _ _ _ rfl hn rfl
      · exact hm 55 _ _ _ rfl hn rfl
      · exact hm 56 _ _ _ rfl hn rfl
      · exact hm 57 _ _ _ rfl hn rfl
      · exact hm 58 _ _ _ rfl hn rfl
    unfold dl_cell
    rcases h with ⟨h1, h2, h3, h4, h5, h6⟩ | ⟨h1, h3, h4, h5, h6⟩ | ⟨h1, h3, h4, h5, h6⟩ | ⟨h1, h3, h5, h6⟩
    · rw [if_pos (by omega)]
      exact h54 (by omega) (by omega)
    · rw [if_neg (by omega), if_pos (by omega)]
      exact hm 61 _ _ _ rfl (show n.toNat < 30 by omega) rfl
    · rw [if_neg (by omega), if_neg (by omega)]
      exact hm 60 _ _ _ rfl (show n.toNat < 12 by omega) rfl
    · exact absurd h1 e
/-- what the walk's ways say -/
theorem dc_facts {c : Nat} (hw : sx_val ρ (9, 0) = w) (hn : ρ 10 = n) (h14 : ρ 14 = M 53 13) (h : og_cs ρ M (dc_ok c)) : sx_val ρ (dc_w c) = dy_at w n M := by
  obtain ⟨⟨h1, h2⟩, h3⟩ := h
  have h1 : (c : Int) ≤ sx_val ρ (9, 0) := h1
  have h2 : sx_val ρ (9, 0) ≤ (c : Int) := h2
  rw [hw] at h1 h2
  unfold dc_w dy_at
  by_cases e : c = 7
  · rw [if_pos e, if_pos (by omega), og_v0 h14]
  · rw [if_neg e] at h3 ⊢
    rw [if_neg (by omega)]
    obtain ⟨h3, -⟩ := h3
    have h3 : M ((dl_cell c : Nat) : Int).toNat (sx_val ρ (10, 0)).toNat = sx_val ρ (15, 0) := h3
    rw [← h3, og_v0 hn, Int.toNat_natCast, show w.toNat = c by omega]
theorem dy_ch1 {rw rn : Int × Int} (hchk : gs_chk dc_st (fun o => dc_Ts.any (og_chk (dc_t rw rn) o)) 300 300 2 168 0 dl_l [] (dc_t rw rn) = true) (hL : L < 2 ^ 31) (hm : sx_mok cl_ly M) (h : dy_pl w n v) (hw : sx_w rw w) (hn : sx_w rn n) : rz_fin (dy_X w n v M) L xs 168 2 0 (dl_v w n v) [] M := by
  obtain ⟨w32, n32, v32⟩ := dy_pl32 h
  have hat := dy_at32 hm h
  have b32 : sx_w sx_r32 (dy_at w n M) := og_w32 (by omega) (by omega)
  have hd := cx_fld (c := 53) (k := 14) (lo := 0) (hi := 40) hm (by decide +kernel)
  obtain ⟨ρ, s, e1, e2, e3⟩ := og_sat (xs := xs) (gs := [(0, rw), (0, rn), (0, sx_r32)]) (zs := [w, n, v]) (fs := [(53, 14, (0, 40)), (53, 15, (0, 40)), (53, 13, (0, 29))]) hL hm ⟨og_z rfl hw.1 hw.2 w32, og_z rfl hn.1 hn.2 n32, og_z rfl v32.1 v32.2 v32, trivial⟩ (fun g hg => by
    simp only [List.mem_cons, List.not_mem_nil, or_false] at hg
    rcases hg with rfl | rfl | rfl
    · exact og_f hm rfl (show cv_ly cl_ly (53, 14, sx_r32) = true by decide +kernel) hd
    · exact og_f hm rfl (show cv_ly cl_ly (53, 15, sx_r32) = true by decide +kernel) (jr_un hm)
    · exact og_f hm rfl (show cv_ly cl_ly (53, 13, sx_r32) = true by decide +kernel) (cx_fld (c := 53) (k := 13) (lo := 0) (hi := 29) hm (by decide +kernel)))
  have r9 : ρ 9 = w := e2 0 _ rfl
  have r10 : ρ 10 = n := e2 1 _ rfl
  have r11 : ρ 11 = v := e2 2 _ rfl
  have r12 : ρ 12 = M 53 14 := e3 0 _ rfl
  have r14 : ρ 14 = M 53 13 := e3 2 _ rfl
  obtain ⟨okl, el⟩ := dl_ok (m := 15) (fun c => sx_ck2 s c) (by decide) r9 r10 r11 w32 n32 v32
  refine og_use (Ts := dc_Ts) (lv := dl_l) (s := []) hchk (by decide +kernel) s okl (fun v hv => by cases hv) (Nat.le_refl _) el rfl (fun T hT ρ' M' x h0 hm' hc hM => ?_)
  have q9 := og_v x (show 9 < 15 by decide) r9
  have q10 := og_v x (show 10 < 15 by decide) r10
  have q11 := og_v x (show 11 < 15 by decide) r11
  have q12 := og_v x (show 12 < 15 by decide) r12
  have q14 := og_v x (show 14 < 15 by decide) r14
  have hsym : ∀ c, (dc_w c).2 = 0 := fun c => by unfold dc_w; split <;> rfl
  have cell53 : ∀ c, 53 ≠ dl_cell c := fun c => by unfold dl_cell; split <;> (try split) <;> omega
  rcases List.mem_append.mp hT with hT | hT
  · obtain ⟨c, -, rfl⟩ := List.mem_map.mp hT
    have hM : ∀ a, a < 128 → M' a = M a := hM
    obtain ⟨hne, hc⟩ := hc
    have hf := dc_facts (M := M') (og_v0 q9) q10 (by rw [q14, hM 53 (by decide)]) hc
    have hat' : dy_at w n M' = dy_at w n M := by
      unfold dy_at
      rw [hM 53 (by decide), hM (dl_cell w.toNat) (by unfold dl_cell; split <;> (try split) <;> omega)]
    rw [hat'] at hf
    have hne : ρ' (dc_w c).1 = ρ' 11 + 0 := hne
    have hv : sx_val ρ' (dc_w c) = ρ' (dc_w c).1 := by
      unfold sx_val
      rw [hsym]
      exact Int.add_zero _
    show dy_X w n v M (some (sx_cv1 ρ' (0, dc_w c))) M'
    rw [sx_cvk0 rfl]
    show dy_X w n v M (some (.int (Int32.ofInt (sx_val ρ' (dc_w c))))) M'
    rw [hf]
    exact ⟨hm', rfl, Or.inl ⟨by omega, hM⟩⟩
  · have both : ∀ {c : Nat}, og_cs ρ' M' (dc_ok c) → ¬ ρ' (dc_w c).1 = ρ' 11 + 0 → (∀ a, a < 128 → M' a = og_up ρ' [(53, (0, 15), (0, 0))] M a) → (∀ a, a < 128 → M' a = sx_up M 53 15 0 a) ∧ sx_val ρ' (dc_w c) = dy_at w n M ∧ dy_at w n M ≠ v := by
      intro c hc hne hM
      have hM : ∀ a, a < 128 → M' a = sx_up M 53 (sx_val ρ' (0, 15)).toNat (sx_val ρ' (0, 0)) a := hM
      rw [og_c h0, og_c h0] at hM
      have hM : ∀ a, a < 128 → M' a = sx_up M 53 15 0 a := hM
      have e53 : M' 53 13 = M 53 13 := by
        rw [hM 53 (by decide)]
        rfl
      have hf := dc_facts (M := M') (og_v0 q9) q10 (by rw [q14, e53]) hc
      have hat' : dy_at w n M' = dy_at w n M := by
        unfold dy_at
        have ec : M' (dl_cell w.toNat) = M (dl_cell w.toNat) := by
          rw [hM (dl_cell w.toNat) (by unfold dl_cell; split <;> (try split) <;> omega)]
          funext i
          unfold sx_up
          rw [if_neg (fun h => cell53 _ h.symm)]
        rw [e53, ec]
      rw [hat'] at hf
      have hv : sx_val ρ' (dc_w c) = ρ' (dc_w c).1 := by
        unfold sx_val
        rw [hsym]
        exact Int.add_zero _
      exact ⟨hM, hf, fun e => hne (by omega)⟩
    have cvw : ∀ {c : Nat}, sx_val ρ' (dc_w c) = dy_at w n M → sx_cv1 ρ' (0, dc_w c) = Value.int (Int32.ofInt (dy_at w n M)) := fun {c} h => by
      rw [sx_cvk0 rfl]
      show Value.int (Int32.ofInt (sx_val ρ' (dc_w c))) = _
      rw [h]
    rcases List.mem_append.mp hT with hT | hT
    · obtain ⟨c, -, rfl⟩ := List.mem_map.mp hT
      obtain ⟨hne, ⟨hd1, hd2⟩, hc⟩ := hc
      have hd1 : 40 ≤ sx_val ρ' (12, 0) := hd1
      rw [og_v0 q12] at hd1
      obtain ⟨hM, hf, hnv⟩ := both hc hne hM
      have h40 : M' 53 14 = 40 := by
        rw [hM 53 (by decide)]
        show M 53 14 = 40
        omega
      show rz_fin _ L xs 168 2 34 [(0, Value.ref 53), (1, sx_cv1 ρ' (0, 9, 0)), (2, sx_cv1 ρ' (0, 10, 0)), (3, sx_cv1 ρ' (0, 11, 0)), (4, sx_cv1 ρ' (0, dc_w c)), (5, sx_cv1 ρ' (0, 0, 1))] [] M'
      rw [og_int q9, og_int q10, og_int q11, cvw hf, tk_cv h0]
      refine dy_loop (xs := xs) (w := w) (n := n) (v := v) (b := dy_at w n M) hL w32 n32 v32 b32 h40 (fun N hN n1 n2 n3 n4 => ?_) _ 1 M' rfl (Nat.le_refl _) (by decide) ⟨hm', fun a _ _ => rfl, fun a _ _ i => by rw [if_neg (by omega)]⟩
      refine dy_write hL hN h b32 (by omega) (fun M2 M3 hW hLy => ⟨hLy.1, rfl, Or.inr ⟨hnv, M2, ?_, hLy⟩⟩)
      obtain ⟨a1, a2, a3, a4, a5, a6, a7, a8⟩ := hW
      rw [n3] at a4 a5 a6 a7 a8
      have sh : ∀ a, 62 ≤ a → a ≤ 65 → N a = dy_sh (M a) := fun a h1 h2 => by
        have e9 : M' a = M a := by
          rw [hM a (by omega)]
          funext i
          unfold sx_up
          rw [if_neg (by omega)]
        rw [n4 a h1 h2, e9]
      refine ⟨a1, fun a ha h53 h62 => ?_, fun i hi hi2 => ?_, ?_, Or.inr ⟨by omega, by omega, ?_, ?_, ?_, ?_⟩⟩
      · rw [a2 a ha h53 h62, n1 a ha h53 h62, hM a ha]
        funext i
        unfold sx_up
        rw [if_neg h53]
      · rw [a3 i hi, n2 i hi, hM 53 (by decide)]
        unfold sx_up
        rw [if_pos rfl, if_neg hi2]
      · rw [a3 15 (by decide), n2 15 (by decide), hM 53 (by decide)]
        rfl
      · rw [a5, sh 62 (by decide) (by decide)]; rfl
      · rw [a6, sh 63 (by decide) (by decide)]; rfl
      · rw [a7, sh 64 (by decide) (by decide)]; rfl
      · rw [a8, sh 65 (by decide) (by decide)]; rfl
    · obtain ⟨c, -, rfl⟩ := List.mem_map.mp hT
      obtain ⟨hne, ⟨hd1, hd2⟩, hc⟩ := hc
      have hd2 : sx_val ρ' (12, 0) ≤ 39 := hd2
      rw [og_v0 q12] at hd2
      obtain ⟨hM, hf, hnv⟩ := both hc hne hM
      have h14 : M' 53 14 = M 53 14 := by
        rw [hM 53 (by decide)]
        rfl
      show rz_fin _ L xs 168 2 121 [(0, Value.ref 53), (1, sx_cv1 ρ' (0, 9, 0)), (2, sx_cv1 ρ' (0, 10, 0)), (3, sx_cv1 ρ' (0, 11, 0)), (4, sx_cv1 ρ' (0, dc_w c))] [] M'
      rw [og_int q9, og_int q10, og_int q11, cvw hf]
      refine dy_write (w := w) (n := n) (v := v) (b := dy_at w n M) hL hm' h b32 (by omega) (fun M2 M3 hW hLy => ⟨hLy.1, rfl, Or.inr ⟨hnv, M2, ?_, hLy⟩⟩)
      obtain ⟨a1, a2, a3, a4, a5, a6, a7, a8⟩ := hW
      rw [h14] at a4 a5 a6 a7 a8
      have oth : ∀ a, a < 128 → a ≠ 53 → M' a = M a := fun a ha h53 => by
        rw [hM a ha]
        funext i
        unfold sx_up
        rw [if_neg h53]
      rw [oth 62 (by decide) (by decide)] at a5
      rw [oth 63 (by decide) (by decide)] at a6
      rw [oth 64 (by decide) (by decide)] at a7
      rw [oth 65 (by decide) (by decide)] at a8
      refine ⟨a1, fun a ha h53 h62 => by rw [a2 a ha h53 h62, oth a ha h53], fun i hi hi2 => ?_, ?_, Or.inl ⟨by omega, a4, a5, a6, a7, a8⟩⟩
      · rw [a3 i hi, hM 53 (by decide)]
        unfold sx_up
        rw [if_pos rfl, if_neg hi2]
      · rw [a3 15 (by decide), hM 53 (by decide)]
        rfl
theorem dy_changes (hL : L < 2 ^ 31) (hm : sx_mok cl_ly M) (h : dy_pl w n v) : rz_fin (dy_X w n v M) L xs 168 2 0 (dl_v w n v) [] M := by
  rcases id h with ⟨h1, h2, h3, h4, h5, h6⟩ | ⟨h1, h3, h4, h5, h6⟩ | ⟨h1, h3, h4, h5, h6⟩ | ⟨h1, h3, h5, h6⟩
  · exact dy_ch1 dc_c0 hL hm h ⟨h1, h2⟩ ⟨h3, h4⟩
  · exact dy_ch1 dc_c5 hL hm h ⟨by show (5 : Int) ≤ w; omega, by show w ≤ (5 : Int); omega⟩ ⟨h3, h4⟩
  · exact dy_ch1 dc_c6 hL hm h ⟨by show (6 : Int) ≤ w; omega, by show w ≤ (6 : Int); omega⟩ ⟨h3, h4⟩
  · exact dy_ch1 dc_c7 hL hm h ⟨by show (7 : Int) ≤ w; omega, by show w ≤ (7 : Int); omega⟩ ⟨by show (0 : Int) ≤ n; omega, by show n ≤ (0 : Int); omega⟩
/-- what mend() of the reference does -/
def dy_M (n w v : Int) (M : Nat → Nat → Int) (r : Option Value) (M' : Nat → Nat → Int) : Prop := sx_mok cl_ly M' ∧ ((¬ (cm_pl (M 53 1) (M 53 8) w n ∧ cm_rg w v) ∧ r = some (.int (Int32.ofInt (-2000000000))) ∧ ∀ a, a < 128 → M' a = M a) ∨ (cm_pl (M 53 1) (M 53 8) w n ∧ cm_rg w v ∧ dy_X w n v M r M'))
def dm_v (n w v : Int) : sm_V := [(0, .ref 53), (1, .int (Int32.ofInt n)), (2, .int (Int32.ofInt w)), (3, .int (Int32.ofInt v))]
theorem dm_f21 : (sm_MT 163).2.2.2.2.2 21 = some (.invokevirtual 183, 3) := rfl
theorem dm_facts {c : Nat} (hc : c < 8) (h : og_cs ρ M (dm_ok c)) (q9 : ρ 9 = n) (q10 : ρ 10 = w) (q11 : ρ 11 = v) (q12 : ρ 12 = H) (q13 : ρ 13 = C) : cm_pl H C w n ∧ cm_rg w v := by
  obtain ⟨⟨h2, h3⟩, ⟨h4, h5⟩, h6⟩ := h
  have h2 : (c : Int) ≤ sx_val ρ (10, 0) := h2
  have h3 : sx_val ρ (10, 0) ≤ (c : Int) := h3
  have h4 : cm_lo.getD c 0 ≤ sx_val ρ (11, 0) := h4
  have h5 : sx_val ρ (11, 0) ≤ cm_hi.getD c 0 := h5
  rw [og_v0 q10] at h2 h3
  rw [og_v0 q11] at h4 h5
  refine ⟨?_, ?_⟩
  · unfold cm_pl
    by_cases c5 : c < 5
    · have e : dm_n c = [cm_d 0 9 0 2147483647, (2, (12, 0), (9, 0), 1, 0)] := if_pos c5
      rw [e] at h6
      obtain ⟨⟨a, -⟩, d, -⟩ := h6
      have a : (0 : Int) ≤ sx_val ρ (9, 0) := a
      have d : ¬ ρ 12 < ρ 9 + 1 := d
      rw [og_v0 q9] at a
      rw [q9, q12] at d
      omega
    · by_cases c6 : c = 5
      · have e : dm_n c = [cm_d 0 9 0 29] := by unfold dm_n; rw [if_neg c5, if_pos c6]
        rw [e] at h6
        obtain ⟨⟨a, d⟩, -⟩ := h6
        have a : (0 : Int) ≤ sx_val ρ (9, 0) := a
        have d : sx_val ρ (9, 0) ≤ 29 := d
        rw [og_v0 q9] at a d
        omega
      · by_cases c7 : c = 6
        · have e : dm_n c = [cm_d 0 9 0 2147483647, (2, (13, 0), (9, 0), 1, 0)] := by unfold dm_n; rw [if_neg c5, if_neg c6, if_pos c7]
          rw [e] at h6
          obtain ⟨⟨a, -⟩, d, -⟩ := h6
          have a : (0 : Int) ≤ sx_val ρ (9, 0) := a
          have d : ¬ ρ 13 < ρ 9 + 1 := d
          rw [og_v0 q9] at a
          rw [q9, q13] at d
          omega
        · have e : dm_n c = [cm_d 0 9 0 0] := by unfold dm_n; rw [if_neg c5, if_neg c6, if_neg c7]
          rw [e] at h6
          obtain ⟨⟨a, d⟩, -⟩ := h6
          have a : (0 : Int) ≤ sx_val ρ (9, 0) := a
          have d : sx_val ρ (9, 0) ≤ 0 := d
          rw [og_v0 q9] at a d
          omega
  · have : c = 0 ∨ c = 1 ∨ c = 2 ∨ c = 3 ∨ c = 4 ∨ c = 5 ∨ c = 6 ∨ c = 7 := by omega
    unfold cm_rg
    rcases this with rfl | rfl | rfl | rfl | rfl | rfl | rfl | rfl <;> (simp [cm_lo, cm_hi] at h4 h5; omega)
theorem dy_mend (hL : L < 2 ^ 31) (hm : sx_mok cl_ly M) (hn : sx_w sx_r32 n) (hw : sx_w sx_r32 w) (hv : sx_w sx_r32 v) : rz_fin (dy_M n w v M) L xs 163 3 0 (dm_v n w v) [] M := by
  have hH := cx_fld (c := 53) (k := 1) (lo := 0) (hi := 6) hm (by decide +kernel)
  have hC := cx_fld (c := 53) (k := 8) (lo := 0) (hi := 12) hm (by decide +kernel)
  obtain ⟨ρ, s, e1, e2, e3⟩ := og_sat (xs := xs) (gs := [(0, sx_r32), (0, sx_r32), (0, sx_r32)]) (zs := [n, w, v]) (fs := [(53, 1, (0, 6)), (53, 8, (0, 12))]) hL hm ⟨og_z rfl hn.1 hn.2 hn, og_z rfl hw.1 hw.2 hw, og_z rfl hv.1 hv.2 hv, trivial⟩ (fun g hg => by
    simp only [List.mem_cons, List.not_mem_nil, or_false] at hg
    rcases hg with rfl | rfl
    · exact og_f hm rfl (show cv_ly cl_ly (53, 1, sx_r32) = true by decide +kernel) hH
    · exact og_f hm rfl (show cv_ly cl_ly (53, 8, sx_r32) = true by decide +kernel) hC)
  have r9 : ρ 9 = n := e2 0 _ rfl
  have r10 : ρ 10 = w := e2 1 _ rfl
  have r11 : ρ 11 = v := e2 2 _ rfl
  have r12 : ρ 12 = M 53 1 := e3 0 _ rfl
  have r13 : ρ 13 = M 53 8 := e3 1 _ rfl
  refine og_use (Ts := dm_Ts) (lv := dm_l) (s := []) dm_c (by decide +kernel) s (fun q hq => ?_) (fun v hv => by cases hv) (Nat.le_refl _) ?_ rfl (fun T hT ρ' M' x h0 hm' hc hM => ?_)
  · simp only [dm_l, List.mem_cons, List.not_mem_nil, or_false] at hq
    rcases hq with rfl | rfl | rfl | rfl
    · exact sx_ck2 s _
    · exact tk_ok0 (show 9 < 14 by decide) (by rw [r9]; exact hn)
    · exact tk_ok0 (show 10 < 14 by decide) (by rw [r10]; exact hw)
    · exact tk_ok0 (show 11 < 14 by decide) (by rw [r11]; exact hv)
  · show [(0, Value.ref 53), (1, sx_cv1 ρ (0, 9, 0)), (2, sx_cv1 ρ (0, 10, 0)), (3, sx_cv1 ρ (0, 11, 0))] = _
    rw [og_int r9, og_int r10, og_int r11]
    rfl
  · have q9 := og_v x (show 9 < 14 by decide) r9
    have q10 := og_v x (show 10 < 14 by decide) r10
    have q11 := og_v x (show 11 < 14 by decide) r11
    have q12 := og_v x (show 12 < 14 by decide) r12
    have q13 := og_v x (show 13 < 14 by decide) r13
    rcases List.mem_append.mp hT with hT | hT
    · obtain ⟨c, hc8, rfl⟩ := List.mem_map.mp hT
      have hc8 := List.mem_range.mp hc8
      have hM : ∀ a, a < 128 → M' a = M a := hM
      obtain ⟨f1, f2⟩ := dm_facts hc8 hc q9 q10 q11 q12 q13
      have hpl : dy_pl w n v := by
        unfold cm_pl at f1
        unfold cm_rg at f2
        unfold dy_pl
        omega
      show rz_fin (dy_M n w v M) L xs 163 3 21 [] (sx_cs1 ρ' [(0, 11, 0), (0, 9, 0), (0, 10, 0), (2, 0, 53)]) M'
      refine og_call (d := 2) (d' := 2) (k := 168) (ρ := ρ') (m := 14) (s := [(0, 11, 0), (0, 9, 0), (0, 10, 0), (2, 0, 53)]) (as := [(2, 0, 53), (0, 10, 0), (0, 9, 0), (0, 11, 0)]) dm_f21 rfl (fun q hq => ?_) rfl rfl rfl (Nat.le_refl _) ?_ (dy_changes hL hm' hpl) (fun r M2 hR => ?_)
      · simp only [List.mem_cons, List.not_mem_nil, or_false] at hq
        rcases hq with rfl | rfl | rfl | rfl
        · exact tk_ok0 (by decide) (by rw [q11]; exact hv)
        · exact tk_ok0 (by decide) (by rw [q9]; exact hn)
        · exact tk_ok0 (by decide) (by rw [q10]; exact hw)
        · exact ⟨by show 0 < 14; decide, (fun h => by cases h), fun h => by cases h⟩
      · show [(0, Value.ref 53), (1, sx_cv1 ρ' (0, 10, 0)), (2, sx_cv1 ρ' (0, 9, 0)), (3, sx_cv1 ρ' (0, 11, 0))] = _
        rw [og_int q9, og_int q10, og_int q11]
        rfl
      · obtain ⟨hm2, hr, hR⟩ := hR
        have hat' : dy_at w n M' = dy_at w n M := by
          unfold dy_at
          rw [hM 53 (by decide), hM (dl_cell w.toNat) (by unfold dl_cell; split <;> (try split) <;> omega)]
        rw [hat'] at hr hR
        subst hr
        have hat := dy_at32 hm hpl
        have b32 : sx_w sx_r32 (dy_at w n M) := og_w32 (by omega) (by omega)
        obtain ⟨ρ3, s3, g1, g2, -⟩ := og_sat (xs := xs) (gs := [(0, sx_r32)]) (zs := [dy_at w n M]) (fs := []) hL hm2 ⟨og_z rfl b32.1 b32.2 b32, trivial⟩ (fun g hg => by cases hg)
        have z9 : ρ3 9 = dy_at w n M := g2 0 _ rfl
        refine og_use (Ts := [dm_T2]) (lv := []) (s := [(0, 9, 0)]) dm_c2 (by decide +kernel) s3 (fun q hq => by cases hq) (fun q hq => ?_) (Nat.le_refl _) rfl ?_ (fun T hT ρ4 M4 x4 h04 hm4 hc4 hM4 => ?_)
        · rw [List.mem_singleton.mp hq]
          exact tk_ok0 (show 9 < 10 by decide) (by rw [z9]; exact b32)
        · show [sx_cv1 ρ3 (0, 9, 0)] = _
          rw [og_int z9]
          rfl
        · rw [List.mem_singleton.mp hT] at hM4 ⊢
          have hM4 : ∀ a, a < 128 → M4 a = M2 a := hM4
          show dy_M n w v M (some (sx_cv1 ρ4 (0, 9, 0))) M4
          rw [og_int (og_v x4 (show 9 < 10 by decide) z9)]
          refine ⟨hm4, Or.inr ⟨f1, f2, hm4, rfl, ?_⟩⟩
          rcases hR with ⟨h1, h2⟩ | ⟨h1, M5, h2, h3, h4⟩
          · exact Or.inl ⟨h1, fun a ha => by rw [hM4 a ha, h2 a ha, hM a ha]⟩
          · refine Or.inr ⟨h1, M5, ?_, hm4, fun a ha => by rw [hM4 a ha, h4 a ha]⟩
            unfold dy_A at h2
            rw [hM 53 (by decide), hM 62 (by decide), hM 63 (by decide), hM 64 (by decide), hM 65 (by decide)] at h2
            exact ⟨h2.1, fun a ha h53 h62 => by rw [h2.2.1 a ha h53 h62, hM a ha], h2.2.2⟩
    · obtain ⟨l, hl, rfl⟩ := List.mem_map.mp hT
      have hM : ∀ a, a < 128 → M' a = M a := hM
      have hc : og_cs ρ' M' l := hc
      show dy_M n w v M (some (sx_cv1 ρ' (0, 0, -2000000000))) M'
      rw [tk_cv h0]
      refine ⟨hm', Or.inl ⟨fun hh => ?_, rfl, hM⟩⟩
      obtain ⟨k1, k2⟩ := hh
      unfold cm_pl at k1
      unfold cm_rg at k2
      have z9 := og_v0 q9
      have z10 := og_v0 q10
      have z11 := og_v0 q11
      rcases List.mem_append.mp hl with hl | hl
      · simp only [List.mem_cons, List.not_mem_nil, or_false] at hl
        rcases hl with rfl | rfl | rfl | rfl | rfl | rfl | rfl
        · obtain ⟨⟨a, b⟩, -⟩ := hc
          have b : sx_val ρ' (10, 0) ≤ -1 := b
          omega
        · obtain ⟨⟨a, b⟩, -⟩ := hc
          have a : 8 ≤ sx_val ρ' (10, 0) := a
          omega
        · obtain ⟨-, ⟨a, b⟩, -⟩ := hc
          have b : sx_val ρ' (9, 0) ≤ -1 := b
          omega
        · obtain ⟨⟨a, b⟩, ⟨a2, b2⟩, -⟩ := hc
          have a : 5 ≤ sx_val ρ' (10, 0) := a
          have b : sx_val ρ' (10, 0) ≤ 5 := b
          have a2 : 30 ≤ sx_val ρ' (9, 0) := a2
          omega
        · obtain ⟨⟨a, b⟩, a2, -⟩ := hc
          have a : 7 ≤ sx_val ρ' (10, 0) := a
          have b : sx_val ρ' (10, 0) ≤ 7 := b
          have a2 : ρ' 9 ≠ 0 := a2
          omega
        · obtain ⟨⟨a, b⟩, a2, -⟩ := hc
          have a : 6 ≤ sx_val ρ' (10, 0) := a
          have b : sx_val ρ' (10, 0) ≤ 6 := b
          have a2 : ρ' 13 < ρ' 9 + 1 := a2
          omega
        · obtain ⟨⟨a, b⟩, a2, -⟩ := hc
          have a : 0 ≤ sx_val ρ' (10, 0) := a
          have b : sx_val ρ' (10, 0) ≤ 4 := b
          have a2 : ρ' 12 < ρ' 9 + 1 := a2
          omega
      · obtain ⟨c, hc8, hl⟩ := List.mem_flatMap.mp hl
        have hc8 := List.mem_range.mp hc8
        have h8 : c = 0 ∨ c = 1 ∨ c = 2 ∨ c = 3 ∨ c = 4 ∨ c = 5 ∨ c = 6 ∨ c = 7 := by omega
        simp only [cm_badc, List.mem_cons, List.not_mem_nil, or_false] at hl
        rcases hl with rfl | rfl
        · obtain ⟨⟨a, b⟩, ⟨a2, b2⟩, -⟩ := hc
          have a : (c : Int) ≤ sx_val ρ' (10, 0) := a
          have b : sx_val ρ' (10, 0) ≤ (c : Int) := b
          have b2 : sx_val ρ' (11, 0) ≤ cm_lo.getD c 0 - 1 := b2
          rw [z10] at a b
          rw [z11] at b2
          rcases h8 with rfl | rfl | rfl | rfl | rfl | rfl | rfl | rfl <;> (simp [cm_lo] at b2; omega)
        · obtain ⟨⟨a, b⟩, ⟨a2, b2⟩, -⟩ := hc
          have a : (c : Int) ≤ sx_val ρ' (10, 0) := a
          have b : sx_val ρ' (10, 0) ≤ (c : Int) := b
          have a2 : cm_hi.getD c 0 + 1 ≤ sx_val ρ' (11, 0) := a2
          rw [z10] at a b
          rw [z11] at a2
          rcases h8 with rfl | rfl | rfl | rfl | rfl | rfl | rfl | rfl <;> (simp [cm_hi] at a2; omega)
end
