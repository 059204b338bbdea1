/-! Changes of the reference, told by what they do. -/
section
variable {L : Nat} {xs : Nat → Int32} {M M' MM M0 M1 M2 N : Nat → Nat → Int} {ρ ρ' : Nat → Int} {t t0 : sx_S} {Q R : Option Value → (Nat → Nat → Int) → Prop} {n w v b H C : Int}
def dy_L (w n v : Int) (M M' : Nat → Nat → Int) : Prop := sx_mok cl_ly M' ∧ ∀ a, a < 128 → M' a = (if w = 7 then sx_up M 53 13 v else sx_up M (dl_cell w.toNat) n.toNat v) a
def dy_pl (w n v : Int) : Prop := (0 ≤ w ∧ w ≤ 4 ∧ 0 ≤ n ∧ n ≤ 5 ∧ -1 ≤ v ∧ v ≤ 143) ∨ (w = 5 ∧ 0 ≤ n ∧ n ≤ 29 ∧ -1 ≤ v ∧ v ≤ 143) ∨ (w = 6 ∧ 0 ≤ n ∧ n ≤ 11 ∧ -1 ≤ v ∧ v ≤ 143) ∨ (w = 7 ∧ n = 0 ∧ 0 ≤ v ∧ v ≤ 29)
def dl_v (w n v : Int) : sm_V := [(0, .ref 53), (1, .int (Int32.ofInt w)), (2, .int (Int32.ofInt n)), (3, .int (Int32.ofInt v))]
theorem dl_ok {m : Nat} (hc : ∀ c, sx_ok ρ m (2, 0, c)) (h : 11 < m) (r9 : ρ 9 = w) (r10 : ρ 10 = n) (r11 : ρ 11 = v) (hw : sx_w sx_r32 w) (hn : sx_w sx_r32 n) (hv : sx_w sx_r32 v) : sx_okl ρ m dl_l ∧ sx_cl1 ρ dl_l = dl_v w n v := by
  refine ⟨fun q hq => ?_, ?_⟩
  · simp only [dl_l, List.mem_cons, List.not_mem_nil, or_false] at hq
    rcases hq with rfl | rfl | rfl | rfl
    · exact hc _
    · exact tk_ok0 (by omega) (by rw [r9]; exact hw)
    · exact tk_ok0 (by omega) (by rw [r10]; exact hn)
    · exact tk_ok0 h (by rw [r11]; exact hv)
  · show [(0, Value.ref 53), (1, sx_cv1 ρ (0, 9, 0)), (2, sx_cv1 ρ (0, 10, 0)), (3, sx_cv1 ρ (0, 11, 0))] = _
    rw [og_int r9, og_int r10, og_int r11]
    rfl
theorem dy_lay1 {rw rn rv : Int × Int} (hchk : gs_chk (fun _ => false) (fun o => dl_Ts.any (og_chk (dl_t rw rn rv) o)) 300 300 1 161 0 dl_l [] (dl_t rw rn rv) = true) (hL : L < 2 ^ 31) (hm : sx_mok cl_ly M) (hw : sx_w rw w) (hn : sx_w rn n) (hv : sx_w rv v) (w32 : sx_w sx_r32 w) (n32 : sx_w sx_r32 n) (v32 : sx_w sx_r32 v) : rz_fin (fun r M' => r = none ∧ dy_L w n v M M') L xs 161 1 0 (dl_v w n v) [] M := by
  obtain ⟨ρ, s, e1, e2, e3⟩ := og_sat (xs := xs) (gs := [(0, rw), (0, rn), (0, rv)]) (zs := [w, n, v]) (fs := [(53, 13, (0, 29))]) hL hm ⟨og_z rfl hw.1 hw.2 w32, og_z rfl hn.1 hn.2 n32, og_z rfl hv.1 hv.2 v32, trivial⟩ (fun g hg => by
    rw [List.mem_singleton.mp hg]
    exact og_f hm rfl (show cv_ly cl_ly (53, 13, sx_r32) = true by decide +kernel) (cx_fld (c := 53) (k := 13) (lo := 0) (hi := 29) hm (by decide +kernel)))
  have r9 : ρ 9 = w := e2 0 _ rfl
  have r10 : ρ 10 = n := e2 1 _ rfl
  have r11 : ρ 11 = v := e2 2 _ rfl
  obtain ⟨okl, el⟩ := dl_ok (m := 13) (fun c => sx_ck2 s c) (by decide) r9 r10 r11 w32 n32 v32
  refine og_use (Ts := dl_Ts) (lv := dl_l) (s := []) hchk (by decide +kernel) s okl (fun v hv => by cases hv) (Nat.le_refl _) el rfl (fun T hT ρ' M' x h0 hm' hc hM => ?_)
  obtain ⟨c, -, rfl⟩ := List.mem_map.mp hT
  obtain ⟨⟨c1, c2⟩, -⟩ := hc
  have c1 : (c : Int) ≤ sx_val ρ' (9, 0) := c1
  have c2 : sx_val ρ' (9, 0) ≤ (c : Int) := c2
  rw [og_v0 (og_v x (show 9 < 13 by decide) r9)] at c1 c2
  have q10 := og_v x (show 10 < 13 by decide) r10
  have q11 := og_v x (show 11 < 13 by decide) r11
  refine ⟨rfl, hm', fun a ha => ?_⟩
  rw [hM a ha]
  show og_up ρ' [if c = 7 then (53, (0, 13), (11, 0)) else (dl_cell c, (if c = 7 then (0, 0) else (10, 0)), (11, 0))] M a = _
  by_cases e : c = 7
  · rw [if_pos e, if_pos (show w = 7 by omega)]
    show sx_up M 53 (sx_val ρ' (0, 13)).toNat (sx_val ρ' (11, 0)) a = _
    rw [og_c h0, og_v0 q11]
    rfl
  · rw [if_neg e, if_neg e, if_neg (show ¬ w = 7 by omega), show w.toNat = c by omega]
    show sx_up M (dl_cell c) (sx_val ρ' (10, 0)).toNat (sx_val ρ' (11, 0)) a = _
    rw [og_v0 q10, og_v0 q11]
theorem dy_pl32 (h : dy_pl w n v) : sx_w sx_r32 w ∧ sx_w sx_r32 n ∧ sx_w sx_r32 v := by
  unfold dy_pl at h
  refine ⟨?_, ?_, ?_⟩ <;> (rw [sx_r32_iff]; omega)
theorem dy_lays (hL : L < 2 ^ 31) (hm : sx_mok cl_ly M) (h : dy_pl w n v) : rz_fin (fun r M' => r = none ∧ dy_L w n v M M') L xs 161 1 0 (dl_v w n v) [] M := by
  obtain ⟨w32, n32, v32⟩ := dy_pl32 h
  rcases h with ⟨h1, h2, h3, h4, h5, h6⟩ | ⟨h1, h3, h4, h5, h6⟩ | ⟨h1, h3, h4, h5, h6⟩ | ⟨h1, h3, h5, h6⟩
  · exact dy_lay1 dl_c0 hL hm ⟨h1, h2⟩ ⟨h3, h4⟩ ⟨h5, h6⟩ w32 n32 v32
  · exact dy_lay1 dl_c5 hL hm ⟨by show (5 : Int) ≤ w; omega, by show w ≤ (5 : Int); omega⟩ ⟨h3, h4⟩ ⟨h5, h6⟩ w32 n32 v32
  · exact dy_lay1 dl_c6 hL hm ⟨by show (6 : Int) ≤ w; omega, by show w ≤ (6 : Int); omega⟩ ⟨h3, h4⟩ ⟨h5, h6⟩ w32 n32 v32
  · exact dy_lay1 dl_c7 hL hm ⟨by show (7 : Int) ≤ w; omega, by show w ≤ (7 : Int); omega⟩ ⟨by show (0 : Int) ≤ n; omega, by show n ≤ (0 : Int); omega⟩ ⟨h5, h6⟩ w32 n32 v32
-- changes
def dy_at (w n : Int) (M : Nat → Nat → Int) : Int := if w = 7 then M 53 13 else M (dl_cell w.toNat) n.toNat
def dy_sh (f : Nat → Int) : Nat → Int := fun i => if i < 39 then f (i + 1) else f i
def dy_pt (f : Nat → Int) (q : Nat) (z : Int) : Nat → Int := fun i => if i = q then z else f i
/-- a change is kept, in place done -/
def dy_W (w n b v : Int) (M M' : Nat → Nat → Int) : Prop := sx_mok cl_ly M' ∧ (∀ a, a < 128 → a ≠ 53 → ¬ (62 ≤ a ∧ a ≤ 65) → M' a = M a) ∧ (∀ i, i ≠ 14 → M' 53 i = M 53 i) ∧ M' 53 14 = M 53 14 + 1 ∧ M' 62 = dy_pt (M 62) (M 53 14).toNat w ∧ M' 63 = dy_pt (M 63) (M 53 14).toNat n ∧ M' 64 = dy_pt (M 64) (M 53 14).toNat b ∧ M' 65 = dy_pt (M 65) (M 53 14).toNat v
def dw_v (w n v b : Int) : sm_V := [(0, .ref 53), (1, .int (Int32.ofInt w)), (2, .int (Int32.ofInt n)), (3, .int (Int32.ofInt v)), (4, .int (Int32.ofInt b))]
theorem dw_f176 : (sm_MT 168).2.2.2.2.2 176 = some (.invokevirtual 166, 3) := rfl
/-- the answer, from the last two instructions -/
theorem dw_end (hL : L < 2 ^ 31) (hm : sx_mok cl_ly M) (hb : sx_w sx_r32 b) (k : ∀ M', sx_mok cl_ly M' → (∀ a, a < 128 → M' a = M a) → Q (some (.int (Int32.ofInt b))) M') : rz_fin Q L xs 168 2 179 [(4, .int (Int32.ofInt b))] [] M := by
  obtain ⟨ρ3, s3, f1, f2, -⟩ := og_sat (xs := xs) (gs := [(0, sx_r32)]) (zs := [b]) (fs := []) hL hm ⟨og_z rfl hb.1 hb.2 hb, trivial⟩ (fun g hg => by cases hg)
  have z9 : ρ3 9 = b := f2 0 _ rfl
  refine og_use (Ts := [dm_T2]) (lv := [(4, 0, 9, 0)]) (s := []) dw_c2 (by decide +kernel) s3 (fun q hq => ?_) (fun v hv => by cases hv) (Nat.le_refl _) ?_ rfl (fun T hT ρ4 M4 x4 h04 hm4 hc4 hM4 => ?_)
  · rw [List.mem_singleton.mp hq]
    exact tk_ok0 (show 9 < 10 by decide) (by rw [z9]; exact hb)
  · show [(4, sx_cv1 ρ3 (0, 9, 0))] = _
    rw [og_int z9]
  · rw [List.mem_singleton.mp hT] at hM4 ⊢
    show Q (some (sx_cv1 ρ4 (0, 9, 0))) M4
    rw [og_int (og_v x4 (show 9 < 10 by decide) z9)]
    exact k M4 hm4 hM4
theorem dy_write (hL : L < 2 ^ 31) (hm : sx_mok cl_ly M) (h : dy_pl w n v) (hb : sx_w sx_r32 b) (hd : M 53 14 ≤ 39) (k : ∀ M1 M', dy_W w n b v M M1 → dy_L w n v M1 M' → Q (some (.int (Int32.ofInt b))) M') : rz_fin Q L xs 168 2 121 (dw_v w n v b) [] M := by
  obtain ⟨w32, n32, v32⟩ := dy_pl32 h
  have hd0 := cx_fld (c := 53) (k := 14) (lo := 0) (hi := 40) hm (by decide +kernel)
  obtain ⟨ρ, s, e1, e2, e3⟩ := og_sat (xs := xs) (gs := [(0, sx_r32), (0, sx_r32), (0, sx_r32), (0, sx_r32)]) (zs := [w, n, v, b]) (fs := [(53, 14, (0, 39))]) hL hm ⟨og_z rfl w32.1 w32.2 w32, og_z rfl n32.1 n32.2 n32, og_z rfl v32.1 v32.2 v32, og_z rfl hb.1 hb.2 hb, trivial⟩ (fun g hg => by
    rw [List.mem_singleton.mp hg]
    exact og_f hm rfl (show cv_ly cl_ly (53, 14, sx_r32) = true by decide +kernel) ⟨hd0.1, hd⟩)
  have r9 : ρ 9 = w := e2 0 _ rfl
  have r10 : ρ 10 = n := e2 1 _ rfl
  have r11 : ρ 11 = v := e2 2 _ rfl
  have r12 : ρ 12 = b := e2 3 _ rfl
  have r13 : ρ 13 = M 53 14 := e3 0 _ rfl
  refine og_use (Ts := [dw_T]) (lv := dw_l) (s := []) dw_c (by decide +kernel) s (fun q hq => ?_) (fun v hv => by cases hv) (Nat.le_refl _) ?_ rfl (fun T hT ρ' M' x h0 hm' hc hM => ?_)
  · simp only [dw_l, List.mem_cons, List.not_mem_nil, or_false] at hq
    rcases hq with rfl | rfl | rfl | rfl | rfl
    · exact sx_ck2 s _
    · exact tk_ok0 (show 9 < 14 by decide) (by rw [r9]; exact w32)
    · exact tk_ok0 (show 10 < 14 by decide) (by rw [r10]; exact n32)
    · exact tk_ok0 (show 11 < 14 by decide) (by rw [r11]; exact v32)
    · exact tk_ok0 (show 12 < 14 by decide) (by rw [r12]; exact hb)
  · show [(0, Value.ref 53), (1, sx_cv1 ρ (0, 9, 0)), (2, sx_cv1 ρ (0, 10, 0)), (3, sx_cv1 ρ (0, 11, 0)), (4, sx_cv1 ρ (0, 12, 0))] = _
    rw [og_int r9, og_int r10, og_int r11, og_int r12]
    rfl
  · rw [List.mem_singleton.mp hT] at hM ⊢
    have q9 := og_v x (show 9 < 14 by decide) r9
    have q10 := og_v x (show 10 < 14 by decide) r10
    have q11 := og_v x (show 11 < 14 by decide) r11
    have q12 := og_v x (show 12 < 14 by decide) r12
    have q13 := og_v x (show 13 < 14 by decide) r13
    have hM : ∀ a, a < 128 → M' a = sx_up (sx_up (sx_up (sx_up (sx_up M 62 (sx_val ρ' (13, 0)).toNat (sx_val ρ' (9, 0))) 63 (sx_val ρ' (13, 0)).toNat (sx_val ρ' (10, 0))) 64 (sx_val ρ' (13, 0)).toNat (sx_val ρ' (12, 0))) 65 (sx_val ρ' (13, 0)).toNat (sx_val ρ' (11, 0))) 53 (sx_val ρ' (0, 14)).toNat (sx_val ρ' (13, 1)) a := hM
    rw [og_c h0, og_v0 q13, og_v0 q9, og_v0 q10, og_v0 q11, og_v0 q12, og_vv q13, show (14 : Int).toNat = 14 from rfl] at hM
    have hW : dy_W w n b v M M' := by
      refine ⟨hm', fun a ha h53 h62 => ?_, fun i hi => ?_, ?_, ?_, ?_, ?_, ?_⟩
      · rw [hM a ha]
        funext i
        unfold sx_up
        rw [if_neg h53, if_neg (by omega), if_neg (by omega), if_neg (by omega), if_neg (by omega)]
      · rw [hM 53 (by decide)]
        unfold sx_up
        rw [if_pos rfl, if_neg hi, if_neg (by decide), if_neg (by decide), if_neg (by decide), if_neg (by decide)]
      · rw [hM 53 (by decide)]
        unfold sx_up
        rw [if_pos rfl, if_pos rfl]
      · rw [hM 62 (by decide)]
        rfl
      · rw [hM 63 (by decide)]
        rfl
      · rw [hM 64 (by decide)]
        rfl
      · rw [hM 65 (by decide)]
        rfl
    show rz_fin Q L xs 168 2 176 [(4, sx_cv1 ρ' (0, 12, 0))] (sx_cs1 ρ' [(0, 11, 0), (0, 10, 0), (0, 9, 0), (2, 0, 53)]) M'
    rw [og_int q12]
    refine og_call (d := 1) (d' := 1) (k := 161) (ρ := ρ') (m := 14) (s := [(0, 11, 0), (0, 10, 0), (0, 9, 0), (2, 0, 53)]) (as := [(2, 0, 53), (0, 9, 0), (0, 10, 0), (0, 11, 0)]) dw_f176 rfl (fun q hq => ?_) rfl rfl rfl (Nat.le_refl _) ?_ (dy_lays hL hm' h) (fun r M2 hR => ?_)
    · simp only [List.mem_cons, List.not_mem_nil, or_false] at hq
      rcases hq with rfl | rfl | rfl | rfl
      · exact tk_ok0 (by decide) (by rw [q11]; exact v32)
      · exact tk_ok0 (by decide) (by rw [q10]; exact n32)
      · exact tk_ok0 (by decide) (by rw [q9]; exact w32)
      · exact ⟨by show 0 < 14; decide, (fun h => by cases h), fun h => by cases h⟩
    · show [(0, Value.ref 53), (1, sx_cv1 ρ' (0, 9, 0)), (2, sx_cv1 ρ' (0, 10, 0)), (3, sx_cv1 ρ' (0, 11, 0))] = _
      rw [og_int q9, og_int q10, og_int q11]
      rfl
    · obtain ⟨rfl, hm2, hR⟩ := hR
      exact dw_end hL hm2 hb (fun M3 hm3 e => k M' M3 hW ⟨hm3, fun a ha => by rw [e a ha, hR a ha]⟩)
-- the loop
/-- places below k - 1 hold what stood behind them -/
def dk_S (M : Nat → Nat → Int) (k : Nat) (N : Nat → Nat → Int) : Prop := sx_mok cl_ly N ∧ (∀ a, a < 128 → ¬ (62 ≤ a ∧ a ≤ 65) → N a = M a) ∧ ∀ a, 62 ≤ a → a ≤ 65 → ∀ i, N a i = if i + 1 < k then M a (i + 1) else M a i
def dk_v (w n v b k : Int) : sm_V := [(0, .ref 53), (1, .int (Int32.ofInt w)), (2, .int (Int32.ofInt n)), (3, .int (Int32.ofInt v)), (4, .int (Int32.ofInt b)), (5, .int (Int32.ofInt k))]
theorem dk_f34 : (sm_MT 168).2.2.2.2.2 34 = some (.iload 5, 2) := rfl
/-- iload 5 -/
theorem rz_il5 {j d pc : Nat} {lv : sm_V} {x : Int32} (hf : (sm_MT j).2.2.2.2.2 pc = some (.iload 5, 2)) (hl : sm_ld lv 5 = some (.int x)) (k : rz_fin Q L xs j d (pc + 2) lv [.int x] M) : rz_fin Q L xs j d pc lv [] M :=
  rz_st hf rfl rfl rfl (pc' := pc + 2) (lv' := lv) (s' := [.int x]) (by
    show (match sm_ld lv 5 with
      | some (Value.int y) => some (pc + 2, lv, [Value.int y], sx_HH cl_lay cl_rf M)
      | y => none) = _
    rw [hl]) k
theorem dk_okl {k : Int} {m : Nat} (hc : ∀ c, sx_ok ρ m (2, 0, c)) (h : 13 < m) (r9 : ρ 9 = w) (r10 : ρ 10 = n) (r11 : ρ 11 = v) (r12 : ρ 12 = b) (r13 : ρ 13 = k) (hw : sx_w sx_r32 w) (hn : sx_w sx_r32 n) (hv : sx_w sx_r32 v) (hb : sx_w sx_r32 b) (hk : sx_w sx_r32 k) : sx_okl ρ m (dk_l (13, 0)) ∧ sx_oks ρ m [(0, 13, 0)] ∧ sx_cl1 ρ (dk_l (13, 0)) = dk_v w n v b k := by
  refine ⟨fun q hq => ?_, fun q hq => ?_, ?_⟩
  · simp only [dk_l, List.mem_cons, List.not_mem_nil, or_false] at hq
    rcases hq with rfl | rfl | rfl | rfl | rfl | rfl
    · exact hc _
    · exact tk_ok0 (by omega) (by rw [r9]; exact hw)
    · exact tk_ok0 (by omega) (by rw [r10]; exact hn)
    · exact tk_ok0 (by omega) (by rw [r11]; exact hv)
    · exact tk_ok0 (by omega) (by rw [r12]; exact hb)
    · exact tk_ok0 h (by rw [r13]; exact hk)
  · rw [List.mem_singleton.mp hq]
    exact tk_ok0 h (by rw [r13]; exact hk)
  · show [(0, Value.ref 53), (1, sx_cv1 ρ (0, 9, 0)), (2, sx_cv1 ρ (0, 10, 0)), (3, sx_cv1 ρ (0, 11, 0)), (4, sx_cv1 ρ (0, 12, 0)), (5, sx_cv1 ρ (0, 13, 0))] = _
    rw [og_int r9, og_int r10, og_int r11, og_int r12, og_int r13]
    rfl
theorem dk_m (hm : sx_mok cl_ly M) {a k : Nat} (ha : 62 ≤ a ∧ a ≤ 65) (hk : k < 40) : sx_w sx_r32 (M a k) := by
  have : a = 62 ∨ a = 63 ∨ a = 64 ∨ a = 65 := by omega
  rcases this with rfl | rfl | rfl | rfl
  · exact hm 62 _ k _ rfl hk rfl
  · exact hm 63 _ k _ rfl hk rfl
  · exact hm 64 _ k _ rfl hk rfl
  · exact hm 65 _ k _ rfl hk rfl
theorem dy_loop (hL : L < 2 ^ 31) (hw : sx_w sx_r32 w) (hn : sx_w sx_r32 n) (hv : sx_w sx_r32 v) (hb : sx_w sx_r32 b) (h40 : M 53 14 = 40) (kk : ∀ N, sx_mok cl_ly N → (∀ a, a < 128 → a ≠ 53 → ¬ (62 ≤ a ∧ a ≤ 65) → N a = M a) → (∀ i, i ≠ 14 → N 53 i = M 53 i) → N 53 14 = 39 → (∀ a, 62 ≤ a → a ≤ 65 → N a = dy_sh (M a)) → rz_fin Q L xs 168 2 121 (dw_v w n v b) [] N) : ∀ (m k : Nat) (N : Nat → Nat → Int), 40 - k = m → 1 ≤ k → k ≤ 40 → dk_S M k N → rz_fin Q L xs 168 2 34 (dk_v w n v b k) [] N := by
  have step : ∀ (k : Nat) (N : Nat → Nat → Int), 1 ≤ k → k ≤ 40 → dk_S M k N → (∀ N', k ≤ 39 → dk_S M (k + 1) N' → rz_fin Q L xs 168 2 34 (dk_v w n v b ((k + 1 : Nat) : Int)) [] N') → rz_fin Q L xs 168 2 34 (dk_v w n v b k) [] N := by
    intro k N h1 hk hS next
    obtain ⟨hm, q1, q2⟩ := hS
    refine rz_il5 dk_f34 rfl ?_
    have k32 : sx_w sx_r32 (k : Int) := og_w32 (by omega) (by omega)
    have e53 := q1 53 (by decide) (by decide)
    by_cases hk40 : k = 40
    · subst hk40
      obtain ⟨ρ, s, e1, e2, -⟩ := og_sat (xs := xs) (gs := [(0, sx_r32), (0, sx_r32), (0, sx_r32), (0, sx_r32), (0, (40, 40))]) (zs := [w, n, v, b, 40]) (fs := [(53, 14, (40, 40))]) hL hm ⟨og_z rfl hw.1 hw.2 hw, og_z rfl hn.1 hn.2 hn, og_z rfl hv.1 hv.2 hv, og_z rfl hb.1 hb.2 hb, og_z rfl (Int.le_refl _) (Int.le_refl _) k32, trivial⟩ (fun g hg => by
        rw [List.mem_singleton.mp hg]
        exact og_f hm rfl (show cv_ly cl_ly (53, 14, sx_r32) = true by decide +kernel) (by
          show sx_w (40, 40) (N 53 14)
          rw [e53, h40]
          exact ⟨Int.le_refl _, Int.le_refl _⟩))
      obtain ⟨okl, oks, el⟩ := dk_okl (k := 40) (m := 15) (fun c => sx_ck2 s c) (by decide) (e2 0 _ rfl) (e2 1 _ rfl) (e2 2 _ rfl) (e2 3 _ rfl) (e2 4 _ rfl) hw hn hv hb k32
      have q9 : ρ 9 = w := e2 0 _ rfl
      have q10 : ρ 10 = n := e2 1 _ rfl
      have q11 : ρ 11 = v := e2 2 _ rfl
      have q12 : ρ 12 = b := e2 3 _ rfl
      have q13 : ρ 13 = 40 := e2 4 _ rfl
      refine og_use (Ts := [dk_T2]) (lv := dk_l (13, 0)) (s := [(0, 13, 0)]) dk_c2 (by decide +kernel) s okl oks (Nat.le_refl _) el (by
        show [sx_cv1 ρ (0, 13, 0)] = _
        rw [og_int q13]
        rfl) (fun T hT ρ' M' x h0 hm' hc hM => ?_)
      rw [List.mem_singleton.mp hT] at hM ⊢
      have hM : ∀ a, a < 128 → M' a = sx_up N 53 (sx_val ρ' (0, 14)).toNat (sx_val ρ' (0, 39)) a := hM
      rw [og_c h0, og_c h0, show (14 : Int).toNat = 14 from rfl] at hM
      show rz_fin Q L xs 168 2 121 [(0, Value.ref 53), (1, sx_cv1 ρ' (0, 9, 0)), (2, sx_cv1 ρ' (0, 10, 0)), (3, sx_cv1 ρ' (0, 11, 0)), (4, sx_cv1 ρ' (0, 12, 0))] [] M'
      rw [og_int (og_v x (show 9 < 15 by decide) q9), og_int (og_v x (show 10 < 15 by decide) q10), og_int (og_v x (show 11 < 15 by decide) q11), og_int (og_v x (show 12 < 15 by decide) q12)]
      refine kk M' hm' (fun a ha h53 h62 => ?_) (fun i hi => ?_) ?_ (fun a h62 h65 => ?_)
      · rw [hM a ha]
        funext i
        unfold sx_up
        rw [if_neg h53, q1 a ha h62]
      · rw [hM 53 (by decide)]
        unfold sx_up
        rw [if_pos rfl, if_neg hi, e53]
      · rw [hM 53 (by decide)]
        unfold sx_up
        rw [if_pos rfl, if_pos rfl]
      · rw [hM a (by omega)]
        funext i
        unfold sx_up dy_sh
        rw [if_neg (by omega), q2 a h62 h65]
        by_cases hi : i < 39
        · rw [if_pos (by omega), if_pos hi]
        · rw [if_neg (by omega), if_neg hi]
    · have hk39 : k ≤ 39 := by omega
      obtain ⟨ρ, s, e0, e2, -⟩ := og_sat (xs := xs) (gs := [(0, sx_r32), (0, sx_r32), (0, sx_r32), (0, sx_r32), (0, (1, 39))]) (zs := [w, n, v, b, k]) (fs := [(53, 14, (0, 40))]) hL hm ⟨og_z rfl hw.1 hw.2 hw, og_z rfl hn.1 hn.2 hn, og_z rfl hv.1 hv.2 hv, og_z rfl hb.1 hb.2 hb, og_z rfl (by show (1 : Int) ≤ k; omega) (by show (k : Int) ≤ 39; omega) k32, trivial⟩ (fun g hg => by
        rw [List.mem_singleton.mp hg]
        exact og_f hm rfl (show cv_ly cl_ly (53, 14, sx_r32) = true by decide +kernel) (cx_fld (c := 53) (k := 14) (lo := 0) (hi := 40) hm (by decide +kernel)))
      have q9 : ρ 9 = w := e2 0 _ rfl
      have q10 : ρ 10 = n := e2 1 _ rfl
      have q11 : ρ 11 = v := e2 2 _ rfl
      have q12 : ρ 12 = b := e2 3 _ rfl
      have q13 : ρ 13 = (k : Int) := e2 4 _ rfl
      have rd : ∀ {ρ : Nat → Int} {t : sx_S} {a m : Nat}, sx_sat cl_ly (0, -100) xs L N ρ N t → t.1 = m → 13 < m → 62 ≤ a ∧ a ≤ 65 → ρ 13 = (k : Int) → ∃ ρ', sx_ext m ρ ρ' ∧ sx_sat cl_ly (0, -100) xs L N ρ' N (sx_frl t a (13, 0) sx_r32).2 ∧ ρ' m = N a k := by
        intro ρ t a m hs ht hm13 ha hr
        have hv : sx_val ρ (13, 0) = (k : Int) := og_v0 hr
        obtain ⟨ρ', x1, x2, x3⟩ := tg_rd (k := a) (i := (13, 0)) (r := sx_r32) hs ht (by omega) hm13 (by rw [hv]; omega) (by rw [hv, Int.toNat_natCast]; exact dk_m hm ha (by omega)) (by rw [hv, Int.toNat_natCast]; exact sx_32_64 (dk_m hm ha (by omega)))
        rw [hv, Int.toNat_natCast] at x3
        exact ⟨ρ', x1, x2, x3⟩
      obtain ⟨ρ1, x1, s1, y1⟩ := rd (a := 62) s e0 (by decide) (by decide) q13
      obtain ⟨ρ2, x2, s2, y2⟩ := rd (a := 63) (m := 16) s1 rfl (by decide) (by decide) (og_v x1 (by decide) q13)
      obtain ⟨ρ3, x3, s3, y3⟩ := rd (a := 64) (m := 17) s2 rfl (by decide) (by decide) (og_v x2 (by decide) (og_v x1 (by decide) q13))
      obtain ⟨ρ4, x4, s4, y4⟩ := rd (a := 65) (m := 18) s3 rfl (by decide) (by decide) (og_v x3 (by decide) (og_v x2 (by decide) (og_v x1 (by decide) q13)))
      have up : ∀ {i : Nat} {z : Int}, i < 15 → ρ i = z → ρ4 i = z := fun {i z} hi h => og_v x4 (by omega) (og_v x3 (by omega) (og_v x2 (by omega) (og_v x1 hi h)))
      have p9 := up (by decide) q9
      have p10 := up (by decide) q10
      have p11 := up (by decide) q11
      have p12 := up (by decide) q12
      have p13 := up (by decide) q13
      have p15 : ρ4 15 = N 62 k := og_v x4 (by decide) (og_v x3 (by decide) (og_v x2 (by decide) y1))
      have p16 : ρ4 16 = N 63 k := og_v x4 (by decide) (og_v x3 (by decide) y2)
      have p17 : ρ4 17 = N 64 k := og_v x4 (by decide) y3
      have p18 : ρ4 18 = N 65 k := y4
      obtain ⟨okl, oks, el⟩ := dk_okl (k := k) (m := 19) (fun c => sx_ck2 s4 c) (by decide) p9 p10 p11 p12 p13 hw hn hv hb k32
      refine og_use (Ts := [dk_T1]) (lv := dk_l (13, 0)) (s := [(0, 13, 0)]) dk_c1 (by decide +kernel) s4 okl oks (Nat.le_refl _) el (by
        show [sx_cv1 ρ4 (0, 13, 0)] = _
        rw [og_int p13]) (fun T hT ρ' M' x h0 hm' hc hM => ?_)
      rw [List.mem_singleton.mp hT] at hM ⊢
      have hM : ∀ a, a < 128 → M' a = sx_up (sx_up (sx_up (sx_up N 62 (sx_val ρ' (13, -1)).toNat (sx_val ρ' (15, 0))) 63 (sx_val ρ' (13, -1)).toNat (sx_val ρ' (16, 0))) 64 (sx_val ρ' (13, -1)).toNat (sx_val ρ' (17, 0))) 65 (sx_val ρ' (13, -1)).toNat (sx_val ρ' (18, 0)) a := hM
      rw [og_vv (og_v x (show 13 < 19 by decide) p13), og_v0 (og_v x (show 15 < 19 by decide) p15), og_v0 (og_v x (show 16 < 19 by decide) p16), og_v0 (og_v x (show 17 < 19 by decide) p17), og_v0 (og_v x (show 18 < 19 by decide) p18), show ((k : Int) + -1).toNat = k - 1 by omega] at hM
      show rz_fin Q L xs 168 2 34 [(0, Value.ref 53), (1, sx_cv1 ρ' (0, 9, 0)), (2, sx_cv1 ρ' (0, 10, 0)), (3, sx_cv1 ρ' (0, 11, 0)), (4, sx_cv1 ρ' (0, 12, 0)), (5, sx_cv1 ρ' (0, 13, 1))] [] M'
      rw [og_int (og_v x (show 9 < 19 by decide) p9), og_int (og_v x (show 10 < 19 by decide) p10), og_int (og_v x (show 11 < 19 by decide) p11), og_int (og_v x (show 12 < 19 by decide) p12), sx_cvk0 (v := (0, 13, 1)) rfl, og_vv (og_v x (show 13 < 19 by decide) p13)]
      have main := next M' hk39 ⟨hm', fun a ha h62 => ?_, fun a h62 h65 i => ?_⟩
      · exact main
      · rw [hM a ha]
        funext i
        unfold sx_up
        rw [if_neg (by omega), if_neg (by omega), if_neg (by omega), if_neg (by omega), q1 a ha h62]
      · have hval : M' a i = if i = k - 1 then N a k else N a i := by
          rw [hM a (by omega)]
          unfold sx_up
          have : a = 62 ∨ a = 63 ∨ a = 64 ∨ a = 65 := by omega
          rcases this with rfl | rfl | rfl | rfl <;> rfl
        rw [hval]
        by_cases hi : i = k - 1
        · rw [if_pos hi, q2 a h62 h65 k, if_neg (by omega), if_pos (by omega), show i + 1 = k by omega]
        · rw [if_neg hi, q2 a h62 h65 i]
          by_cases hi2 : i + 1 < k
          · rw [if_pos hi2, if_pos (by omega)]
          · rw [if_neg hi2, if_neg (by omega)]
  intro m
  induction m with
  | zero =>
    intro k N hm h1 hk hS
    exact step k N h1 hk hS (fun N' h => by omega)
  | succ m ih =>
    intro k N hm h1 hk hS
    exact step k N h1 hk hS (fun N' h hS' => ih (k + 1) N' (by omega) (by omega) (by omega) hS')
end
