/-! Changes of the class, told by what they do: mend, undo, redo. -/
section
variable {L : Nat} {xs : Nat → Int32} {M M' MM M0 M1 M2 N : Nat → Nat → Int} {ρ ρ' : Nat → Int} {t t0 : sx_S} {Q : Option Value → (Nat → Nat → Int) → Prop} {n w v b : Int}
theorem og_v {m k : Nat} {z : Int} (x : sx_ext m ρ ρ') (h : k < m) (y : ρ k = z) : ρ' k = z := (x k h).trans y
theorem og_vv {k : Nat} {z c : Int} (y : ρ k = z) : sx_val ρ (k, c) = z + c := by
  unfold sx_val
  rw [y]
theorem og_v0 {k : Nat} {z : Int} (y : ρ k = z) : sx_val ρ (k, 0) = z := by
  rw [og_vv y]; exact Int.add_zero _
theorem og_c (h0 : ρ 0 = 0) (c : Int) : sx_val ρ (0, c) = c := by
  rw [og_vv h0]; exact Int.zero_add _
theorem og_int {k : Nat} {z : Int} (y : ρ k = z) : sx_cv1 ρ (0, k, 0) = Value.int (Int32.ofInt z) := by
  rw [gv_cv, y]
theorem og_z {g : ct_Q} {z : Int} (h0 : g.1 = 0) (h1 : g.2.1 ≤ z) (h2 : z ≤ g.2.2) (h : sx_w sx_r32 z) : g.1 ≤ 1 ∧ sx_w g.2 z ∧ (g.1 = 0 → sx_w sx_r32 z) ∧ sx_w sx_r64 z := ⟨by omega, ⟨h1, h2⟩, fun _ => h, sx_32_64 h⟩
theorem og_f {g : ct_G} (hm : sx_mok cl_ly M) (ha : Nat.blt g.1 128 = true) (h : cv_ly cl_ly (g.1, g.2.1, sx_r32) = true) (hw : sx_w g.2.2 (M g.1 g.2.1)) : g.1 < 128 ∧ sx_w g.2.2 (M g.1 g.2.1) ∧ sx_w sx_r64 (M g.1 g.2.1) := ⟨sx_blt ha, hw, sx_32_64 (cv_ly_ok (g := (g.1, g.2.1, sx_r32)) hm h)⟩
theorem og_w32 {z : Int} (h1 : -2147483648 ≤ z) (h2 : z ≤ 2147483647) : sx_w sx_r32 z := by rw [sx_r32_iff]; exact ⟨h1, h2⟩
theorem og_mul {a b : Int} (h : sx_w sx_r32 (a * b)) : sx_mf 2 a b = a * b := by
  show (Int32.ofInt a * Int32.ofInt b).toInt = a * b
  rw [← Int32.ofInt_mul]
  exact sx_i32 h
/-- one number is laid -/
def cx_R (p : Int) (v : Int) (M M' : Nat → Nat → Int) : Prop := sx_mok cl_ly M' ∧ ∀ a, a < 128 → M' a = sx_up M 10 p.toNat v a
def cs_T (c : Nat) : og_T := (none, none, [], [], [(10, (10, 30 * (c : Int)), (11, 0))], [(0, (9, 0), (0, 0), (c : Int), (c : Int))])
def cs_Ts : List og_T := (List.range 8).map cs_T
noncomputable def cs_t : sx_S := og_t [(0, (0, 7)), (0, (0, 29)), (0, (-1, 143))] []
def cs_l : sx_L := [(0, 2, 0, 9), (1, 0, 9, 0), (2, 0, 10, 0), (3, 0, 11, 0)]
theorem cs_c : gs_chk (fun _ => false) (fun o => cs_Ts.any (og_chk cs_t o)) 300 300 1 14 0 cs_l [] cs_t = true := by decide +kernel
def cs_v (w n v : Int) : sm_V := [(0, .ref 9), (1, .int (Int32.ofInt w)), (2, .int (Int32.ofInt n)), (3, .int (Int32.ofInt v))]
theorem cx_set (hL : L < 2 ^ 31) (hm : sx_mok cl_ly M) (hw : 0 ≤ w ∧ w ≤ 7) (hn : 0 ≤ n ∧ n ≤ 29) (hv : -1 ≤ v ∧ v ≤ 143) : rz_fin (fun r M' => r = none ∧ cx_R (30 * w + n) v M M') L xs 14 1 0 (cs_v w n v) [] M := by
  have w32 : sx_w sx_r32 w := og_w32 (by omega) (by omega)
  have n32 : sx_w sx_r32 n := og_w32 (by omega) (by omega)
  have v32 : sx_w sx_r32 v := og_w32 (by omega) (by omega)
  obtain ⟨ρ, s, e1, e2, -⟩ := og_sat (xs := xs) (gs := [(0, (0, 7)), (0, (0, 29)), (0, (-1, 143))]) (zs := [w, n, v]) (fs := []) hL hm ⟨og_z rfl hw.1 hw.2 w32, og_z rfl hn.1 hn.2 n32, og_z rfl hv.1 hv.2 v32, trivial⟩ (fun g hg => by cases hg)
  have r9 : ρ 9 = w := e2 0 _ rfl
  have r10 : ρ 10 = n := e2 1 _ rfl
  have r11 : ρ 11 = v := e2 2 _ rfl
  refine og_use (Ts := cs_Ts) (lv := cs_l) (s := []) cs_c (by decide +kernel) s (fun q hq => ?_) (fun v hv => by cases hv) (Nat.le_refl _) ?_ rfl (fun T hT ρ' M' x h0 hm' hc hM => ?_)
  · simp only [cs_l, List.mem_cons, List.not_mem_nil, or_false] at hq
    rcases hq with rfl | rfl | rfl | rfl
    · exact sx_ck2 s _
    · exact tk_ok0 (show 9 < 12 by decide) (by rw [r9]; exact w32)
    · exact tk_ok0 (show 10 < 12 by decide) (by rw [r10]; exact n32)
    · exact tk_ok0 (show 11 < 12 by decide) (by rw [r11]; exact v32)
  · show [(0, Value.ref 9), (1, sx_cv1 ρ (0, 9, 0)), (2, sx_cv1 ρ (0, 10, 0)), (3, sx_cv1 ρ (0, 11, 0))] = _
    rw [og_int r9, og_int r10, og_int r11]
    rfl
  · obtain ⟨c, -, rfl⟩ := List.mem_map.mp hT
    obtain ⟨⟨c1, c2⟩, -⟩ := hc
    have q9 : sx_val ρ' (9, 0) = w := og_v0 (og_v x (show 9 < 12 by decide) r9)
    have c1 : (c : Int) ≤ sx_val ρ' (9, 0) := c1
    have c2 : sx_val ρ' (9, 0) ≤ (c : Int) := c2
    rw [q9] at c1 c2
    refine ⟨rfl, hm', fun a ha => ?_⟩
    rw [hM a ha]
    show sx_up M 10 (sx_val ρ' (10, 30 * (c : Int))).toNat (sx_val ρ' (11, 0)) a = _
    rw [og_vv (og_v x (show 10 < 12 by decide) r10), og_v0 (og_v x (show 11 < 12 by decide) r11), show n + 30 * (c : Int) = 30 * w + n by omega]
-- add
/-- the changes that are kept, moved by one -/
def cx_sh (f : Nat → Int) : Nat → Int := fun i => if i < 156 then f (i + 4) else f i
def cx_pt (f : Nat → Int) (q : Nat) (w n b v : Int) : Nat → Int := fun i => if i = 4 * q + 3 then v else if i = 4 * q + 2 then b else if i = 4 * q + 1 then n else if i = 4 * q then w else f i
/-- behind add(): q is the change's place -/
def cx_A (w n b v : Int) (M M' : Nat → Nat → Int) : Prop := sx_mok cl_ly M' ∧ (∀ a, a < 128 → a ≠ 32 → a ≠ 33 → M' a = M a) ∧ (∀ i, i ≠ 1 → i ≠ 2 → M' 32 i = M 32 i) ∧ M' 32 2 = M' 32 1 ∧ ((M 32 1 < 40 ∧ M' 32 1 = M 32 1 + 1 ∧ M' 33 = cx_pt (M 33) (M 32 1).toNat w n b v) ∨ (M 32 1 = 40 ∧ M' 32 1 = 40 ∧ M' 33 = cx_pt (cx_sh (M 33)) 39 w n b v))
def ca_gs : List ct_Q := [(0, sx_r32), (0, sx_r32), (0, sx_r32), (0, sx_r32)]
noncomputable def ca_t (d : Int × Int) : sx_S := og_t ca_gs [(32, 1, d), (32, 2, (0, 40))]
def ca_l : sx_L := [(0, 2, 0, 32), (1, 0, 9, 0), (2, 0, 10, 0), (3, 0, 11, 0), (4, 0, 12, 0)]
def ca_T0 : og_T := (none, none, [], [], [(32, (0, 2), (13, 1)), (32, (0, 1), (13, 1)), (33, (15, 3), (12, 0)), (33, (15, 2), (11, 0)), (33, (15, 1), (10, 0)), (33, (15, 0), (9, 0))], [(5, (13, 0), (0, 4), 2, 15)])
theorem ca_c0 : gs_chk (fun _ => false) (fun o => [ca_T0].any (og_chk (ca_t (0, 39)) o)) 300 300 1 26 0 ca_l [] (ca_t (0, 39)) = true := by decide +kernel
def ca_T1 : og_T := (some 22, none, [(0, 0, 156), (0, 0, 0), (2, 0, 33), (0, 0, 4), (2, 0, 33)], ca_l, [], [])
theorem ca_c1 : gs_chk (fun pc => Nat.beq pc 22) (fun o => [ca_T1].any (og_chk (ca_t (40, 40)) o)) 300 300 1 26 0 ca_l [] (ca_t (40, 40)) = true := by decide +kernel
def ca_T2 : og_T := (none, none, [], [], [(32, (0, 2), (0, 40)), (32, (0, 1), (0, 40)), (33, (0, 159), (12, 0)), (33, (0, 158), (11, 0)), (33, (0, 157), (10, 0)), (33, (0, 156), (9, 0))], [])
theorem ca_c2 : gs_chk (fun _ => false) (fun o => [ca_T2].any (og_chk (ca_t (40, 40)) o)) 300 300 1 26 25 ca_l [] (ca_t (40, 40)) = true := by decide +kernel
def ca_v (w n b v : Int) : sm_V := [(0, .ref 32), (1, .int (Int32.ofInt w)), (2, .int (Int32.ofInt n)), (3, .int (Int32.ofInt b)), (4, .int (Int32.ofInt v))]
theorem ca_f22 : (sm_MT 26).2.2.2.2.2 22 = some (.invokestatic 17, 3) := rfl
theorem ca_lk : sm_LK (sm_MT 26).1 17 = some (12, 0, 0, 0) := rfl
/-- System.arraycopy of ints -/
theorem rz_cp {j d pc ix a0 a u1 u2 : Nat} {u3 : Int} {lv : sm_V} {p q m : Int} {g h9 : sx_H} (hf : (sm_MT j).2.2.2.2.2 pc = some (.invokestatic ix, 3)) (hlk : sm_LK (sm_MT j).1 ix = some (12, u1, u2, u3)) (eg : sx_arr cl_ly a0 0 = some g) (eh : sx_arr cl_ly a 0 = some h9) (hp : 0 ≤ p ∧ p ≤ 1000) (hq : 0 ≤ q ∧ q ≤ 1000) (hm : 0 ≤ m ∧ m ≤ 1000) (h1 : p + m ≤ g.2.2.1) (h2 : q + m ≤ h9.2.2.1) (hd : 1 ≤ d) (k : rz_fin Q L xs j d (pc + 3) lv [] (fun k => if k = a then va_cpy (M a0) (M a) p.toNat q.toNat m.toNat else M k)) : rz_fin Q L xs j d pc lv [.int (Int32.ofInt m), .int (Int32.ofInt q), .ref a, .int (Int32.ofInt p), .ref a0] M := by
  obtain ⟨F, r, M', e, e1⟩ := k
  have p32 : sx_w sx_r32 p := og_w32 (by omega) (by omega)
  have q32 : sx_w sx_r32 q := og_w32 (by omega) (by omega)
  have m32 : sx_w sx_r32 m := og_w32 (by omega) (by omega)
  have nn : ∀ {z : Int}, sx_w sx_r32 z → 0 ≤ z → ¬ Int32.ofInt z < 0 := fun w hz hlt => by
    have := (sx_lt32 w sx_w0).mp hlt
    omega
  have tn : ∀ {z : Int}, sx_w sx_r32 z → (Int32.ofInt z).toNatClampNeg = z.toNat := fun w => by rw [← Int32.toNat_toInt, sx_i32 w]
  have hI : sm_cpI (sx_HH cl_lay cl_rf M) a0 a (Int32.ofInt p) (Int32.ofInt q) (Int32.ofInt m) = some (sx_HH cl_lay cl_rf (fun k => if k = a then va_cpy (M a0) (M a) p.toNat q.toNat m.toNat else M k)) := by
    unfold sm_cpI
    rw [sx_ints_at cl_lok eg (by decide) (by decide), sx_ints_at cl_lok eh (by decide) (by decide)]
    show (if _ ∧ _ then _ else none) = _
    rw [tn p32, tn q32, tn m32, if_pos ⟨by omega, by omega⟩, sx_cpy_int]
    obtain ⟨k1, k2, k3⟩ := sx_arr_ok eh
    rw [← sx_HH_set cl_lok k1, sx_hc_ints k2 k3 (by decide) (by decide)]
  generalize (fun k => if k = a then va_cpy (M a0) (M a) p.toNat q.toNat m.toNat else M k) = N at hI e
  have k1 := gs_st (L := L) (xs := xs) (j := j) (d := d) (pc := pc) (len := 3) (F := F) (ins := .invokestatic ix) (lv := lv) (s := [.int (Int32.ofInt m), .int (Int32.ofInt q), .ref a, .int (Int32.ofInt p), .ref a0]) (h := sx_HH cl_lay cl_rf M) (o := (pc + 3, lv, [], sx_HH cl_lay cl_rf N)) (res := (r, sx_HH cl_lay cl_rf M'))
  have k2 := k1 hf rfl
  have k3 := k2 rfl
  have k4 := k3 (by
    dsimp only [sm_call]
    rw [hlk]
    rfl)
  have k5 := k4 (by
    dsimp only [sm_step]
    rw [hlk]
    show (if 1 ≤ d ∧ sm_sum [] ≤ 8 ∧ ¬ Int32.ofInt p < 0 ∧ ¬ Int32.ofInt q < 0 ∧ ¬ Int32.ofInt m < 0 then _ else none) = _
    rw [if_pos ⟨hd, Nat.zero_le _, nn p32 hp.1, nn q32 hq.1, nn m32 hm.1⟩, hI])
  dsimp only at k5
  exact ⟨F + 1, r, M', k5 e, e1⟩
theorem ca_mok (hm : sx_mok cl_ly M) : sx_mok cl_ly (fun k => if k = 33 then va_cpy (M 33) (M 33) 4 0 156 else M k) := by
  intro k h i r a b c
  show sx_w r ((if k = 33 then va_cpy (M 33) (M 33) 4 0 156 else M k) i)
  by_cases e : k = 33
  · subst e
    rw [if_pos rfl]
    have e33 : cl_ly 33 = some (0, 0, 160, sx_r32, []) := rfl
    rw [e33] at a
    cases a
    have b : i < 160 := b
    unfold va_cpy
    split
    · exact hm 33 _ (4 + (i - 0)) r e33 (show 4 + (i - 0) < 160 by omega) c
    · exact hm 33 _ i r e33 b c
  · rw [if_neg e]
    exact hm k h i r a b c
theorem ca_sat {d : Int × Int} (hL : L < 2 ^ 31) (hm : sx_mok cl_ly M) (hw : sx_w sx_r32 w) (hn : sx_w sx_r32 n) (hb : sx_w sx_r32 b) (hv : sx_w sx_r32 v) (hd : sx_w d (M 32 1)) : ∃ ρ : Nat → Int, sx_sat cl_ly (0, -100) xs L M ρ M (ca_t d) ∧ ρ 9 = w ∧ ρ 10 = n ∧ ρ 11 = b ∧ ρ 12 = v ∧ ρ 13 = M 32 1 := by
  obtain ⟨ρ, s, e1, e2, e3⟩ := og_sat (xs := xs) (gs := ca_gs) (zs := [w, n, b, v]) (fs := [(32, 1, d), (32, 2, (0, 40))]) hL hm ⟨og_z rfl hw.1 hw.2 hw, og_z rfl hn.1 hn.2 hn, og_z rfl hb.1 hb.2 hb, og_z rfl hv.1 hv.2 hv, trivial⟩ (fun g hg => by
    simp only [List.mem_cons, List.not_mem_nil, or_false] at hg
    rcases hg with rfl | rfl
    · exact og_f hm rfl (show cv_ly cl_ly (32, 1, sx_r32) = true by decide +kernel) hd
    · exact og_f hm rfl (show cv_ly cl_ly (32, 2, sx_r32) = true by decide +kernel) (jr_kn hm))
  exact ⟨ρ, s, e2 0 _ rfl, e2 1 _ rfl, e2 2 _ rfl, e2 3 _ rfl, e3 0 _ rfl⟩
theorem ca_ok {m : Nat} (hc : ∀ c, sx_ok ρ m (2, 0, c)) (h : 12 < m) (r9 : ρ 9 = w) (r10 : ρ 10 = n) (r11 : ρ 11 = b) (r12 : ρ 12 = v) (hw : sx_w sx_r32 w) (hn : sx_w sx_r32 n) (hb : sx_w sx_r32 b) (hv : sx_w sx_r32 v) : sx_okl ρ m ca_l ∧ sx_cl1 ρ ca_l = ca_v w n b v := by
  refine ⟨fun q hq => ?_, ?_⟩
  · simp only [ca_l, List.mem_cons, List.not_mem_nil, or_false] at hq
    rcases hq with rfl | rfl | rfl | rfl | rfl
    · exact hc _
    · exact tk_ok0 (by omega) (by rw [r9]; exact hw)
    · exact tk_ok0 (by omega) (by rw [r10]; exact hn)
    · exact tk_ok0 (by omega) (by rw [r11]; exact hb)
    · exact tk_ok0 h (by rw [r12]; exact hv)
  · show [(0, Value.ref 32), (1, sx_cv1 ρ (0, 9, 0)), (2, sx_cv1 ρ (0, 10, 0)), (3, sx_cv1 ρ (0, 11, 0)), (4, sx_cv1 ρ (0, 12, 0))] = _
    rw [og_int r9, og_int r10, og_int r11, og_int r12]
    rfl
theorem cx_add (hL : L < 2 ^ 31) (hm : sx_mok cl_ly M) (hw : sx_w sx_r32 w) (hn : sx_w sx_r32 n) (hb : sx_w sx_r32 b) (hv : sx_w sx_r32 v) : rz_fin (fun r M' => r = none ∧ cx_A w n b v M M') L xs 26 1 0 (ca_v w n b v) [] M := by
  have hd : 0 ≤ M 32 1 ∧ M 32 1 ≤ 40 := cv_ly_ok (g := (32, 1, 0, 40)) hm (by decide +kernel)
  by_cases h40 : M 32 1 = 40
  · obtain ⟨ρ, s, r9, r10, r11, r12, r13⟩ := ca_sat (xs := xs) (d := (40, 40)) hL hm hw hn hb hv ⟨by show (40 : Int) ≤ _; omega, by show _ ≤ (40 : Int); omega⟩
    obtain ⟨okl, el⟩ := ca_ok (m := 15) (fun c => sx_ck2 s c) (by decide) r9 r10 r11 r12 hw hn hb hv
    refine og_use (Ts := [ca_T1]) (lv := ca_l) (s := []) ca_c1 (by decide +kernel) s okl (fun v hv => by cases hv) (Nat.le_refl _) el rfl (fun T hT ρ' M' x h0 hm' hc hM => ?_)
    rw [List.mem_singleton.mp hT] at hM ⊢
    have q9 := og_v x (show 9 < 15 by decide) r9
    have q10 := og_v x (show 10 < 15 by decide) r10
    have q11 := og_v x (show 11 < 15 by decide) r11
    have q12 := og_v x (show 12 < 15 by decide) r12
    show rz_fin _ L xs 26 1 22 (sx_cl1 ρ' ca_l) [sx_cv1 ρ' (0, 0, 156), sx_cv1 ρ' (0, 0, 0), .ref 33, sx_cv1 ρ' (0, 0, 4), .ref 33] M'
    rw [(ca_ok (m := 15) (fun c => ⟨by show 0 < 15; decide, (fun h => by cases h), fun h => by cases h⟩) (by decide) q9 q10 q11 q12 hw hn hb hv).2, tk_cv h0, tk_cv h0, tk_cv h0]
    have hM : ∀ a, a < 128 → M' a = M a := hM
    refine rz_cp ca_f22 ca_lk (g := (0, 0, 160, sx_r32, [])) (h9 := (0, 0, 160, sx_r32, [])) rfl rfl (by decide) (by decide) (by decide) (by decide) (by decide) (Nat.le_refl _) ?_
    have hm1 := ca_mok hm'
    have e32 : (fun k => if k = 33 then va_cpy (M' 33) (M' 33) (4 : Int).toNat (0 : Int).toNat (156 : Int).toNat else M' k) 32 = M 32 := by
      show (if (32 : Nat) = 33 then _ else M' 32) = _
      rw [if_neg (by decide), hM 32 (by decide)]
    have hm1 : sx_mok cl_ly (fun k => if k = 33 then va_cpy (M' 33) (M' 33) (4 : Int).toNat (0 : Int).toNat (156 : Int).toNat else M' k) := hm1
    have e33 : (fun k => if k = 33 then va_cpy (M' 33) (M' 33) (4 : Int).toNat (0 : Int).toNat (156 : Int).toNat else M' k) 33 = cx_sh (M 33) := by
      show (if (33 : Nat) = 33 then va_cpy (M' 33) (M' 33) 4 0 156 else M' 33) = _
      rw [if_pos rfl, hM 33 (by decide)]
      funext i
      unfold va_cpy cx_sh
      by_cases hi : i < 156
      · rw [if_pos (by omega), if_pos hi, show 4 + (i - 0) = i + 4 by omega]
      · rw [if_neg (by omega), if_neg hi]
    have eoth : ∀ a, a < 128 → a ≠ 33 → (fun k => if k = 33 then va_cpy (M' 33) (M' 33) (4 : Int).toNat (0 : Int).toNat (156 : Int).toNat else M' k) a = M a := fun a ha h => by
      show (if a = 33 then _ else M' a) = _
      rw [if_neg h, hM a ha]
    generalize (fun k => if k = 33 then va_cpy (M' 33) (M' 33) (4 : Int).toNat (0 : Int).toNat (156 : Int).toNat else M' k) = N at hm1 e32 e33 eoth ⊢
    obtain ⟨ρ2, s2, z9, z10, z11, z12, z13⟩ := ca_sat (xs := xs) (d := (40, 40)) hL hm1 hw hn hb hv (by rw [e32, h40]; exact ⟨by decide, by decide⟩)
    obtain ⟨okl2, el2⟩ := ca_ok (m := 15) (fun c => sx_ck2 s2 c) (by decide) z9 z10 z11 z12 hw hn hb hv
    refine og_use (Ts := [ca_T2]) (lv := ca_l) (s := []) ca_c2 (by decide +kernel) s2 okl2 (fun v hv => by cases hv) (Nat.le_refl _) el2 rfl (fun T hT ρ3 M3 x3 h03 hm3 hc hM3 => ?_)
    rw [List.mem_singleton.mp hT] at hM3 ⊢
    have hM3 : ∀ a, a < 128 → M3 a = sx_up (sx_up (sx_up (sx_up (sx_up (sx_up N 33 (sx_val ρ3 (0, 156)).toNat (sx_val ρ3 (9, 0))) 33 (sx_val ρ3 (0, 157)).toNat (sx_val ρ3 (10, 0))) 33 (sx_val ρ3 (0, 158)).toNat (sx_val ρ3 (11, 0))) 33 (sx_val ρ3 (0, 159)).toNat (sx_val ρ3 (12, 0))) 32 (sx_val ρ3 (0, 1)).toNat (sx_val ρ3 (0, 40))) 32 (sx_val ρ3 (0, 2)).toNat (sx_val ρ3 (0, 40)) a := hM3
    simp only [og_c h03, show (1 : Int).toNat = 1 from rfl, show (2 : Int).toNat = 2 from rfl, show (156 : Int).toNat = 156 from rfl, show (157 : Int).toNat = 157 from rfl, show (158 : Int).toNat = 158 from rfl, show (159 : Int).toNat = 159 from rfl, og_v0 (og_v x3 (show 9 < 15 by decide) z9), og_v0 (og_v x3 (show 10 < 15 by decide) z10), og_v0 (og_v x3 (show 11 < 15 by decide) z11), og_v0 (og_v x3 (show 12 < 15 by decide) z12)] at hM3
    have k32 := hM3 32 (by decide)
    have k33 := hM3 33 (by decide)
    refine ⟨rfl, hm3, fun a ha h32 h33 => ?_, fun i h1 h2 => ?_, ?_, Or.inr ⟨h40, ?_, ?_⟩⟩
    · rw [hM3 a ha]
      funext i
      unfold sx_up
      rw [if_neg h32, if_neg h32, if_neg h33, if_neg h33, if_neg h33, if_neg h33, eoth a ha h33]
    · rw [k32]
      unfold sx_up
      rw [if_pos rfl, if_neg h2, if_pos rfl, if_neg h1, if_neg (by decide), if_neg (by decide), if_neg (by decide), if_neg (by decide), e32]
    · rw [k32]
      unfold sx_up
      rfl
    · rw [k32]
      unfold sx_up
      rfl
    · rw [k33]
      funext i
      unfold sx_up cx_pt
      rw [if_neg (by decide), if_neg (by decide), if_pos rfl, if_pos rfl, if_pos rfl, if_pos rfl, e33]
  · obtain ⟨ρ, s, r9, r10, r11, r12, r13⟩ := ca_sat (xs := xs) (d := (0, 39)) hL hm hw hn hb hv ⟨hd.1, by show _ ≤ (39 : Int); omega⟩
    obtain ⟨okl, el⟩ := ca_ok (m := 15) (fun c => sx_ck2 s c) (by decide) r9 r10 r11 r12 hw hn hb hv
    refine og_use (Ts := [ca_T0]) (lv := ca_l) (s := []) ca_c0 (by decide +kernel) s okl (fun v hv => by cases hv) (Nat.le_refl _) el rfl (fun T hT ρ3 M3 x3 h03 hm3 hc hM3 => ?_)
    rw [List.mem_singleton.mp hT] at hM3 hc ⊢
    obtain ⟨hc, -⟩ := hc
    have q13 := og_v x3 (show 13 < 15 by decide) r13
    have hc : ρ3 15 = sx_mf 2 (sx_val ρ3 (13, 0)) (sx_val ρ3 (0, 4)) := hc
    rw [og_v0 q13, og_c h03, og_mul (og_w32 (by omega) (by omega))] at hc
    have hM3 : ∀ a, a < 128 → M3 a = sx_up (sx_up (sx_up (sx_up (sx_up (sx_up M 33 (sx_val ρ3 (15, 0)).toNat (sx_val ρ3 (9, 0))) 33 (sx_val ρ3 (15, 1)).toNat (sx_val ρ3 (10, 0))) 33 (sx_val ρ3 (15, 2)).toNat (sx_val ρ3 (11, 0))) 33 (sx_val ρ3 (15, 3)).toNat (sx_val ρ3 (12, 0))) 32 (sx_val ρ3 (0, 1)).toNat (sx_val ρ3 (13, 1))) 32 (sx_val ρ3 (0, 2)).toNat (sx_val ρ3 (13, 1)) a := hM3
    simp only [og_c h03, show (1 : Int).toNat = 1 from rfl, show (2 : Int).toNat = 2 from rfl, og_vv hc, og_vv q13, og_v0 (og_v x3 (show 9 < 15 by decide) r9), og_v0 (og_v x3 (show 10 < 15 by decide) r10), og_v0 (og_v x3 (show 11 < 15 by decide) r11), og_v0 (og_v x3 (show 12 < 15 by decide) r12)] at hM3
    have k32 := hM3 32 (by decide)
    have k33 := hM3 33 (by decide)
    refine ⟨rfl, hm3, fun a ha h32 h33 => ?_, fun i h1 h2 => ?_, ?_, Or.inl ⟨by omega, ?_, ?_⟩⟩
    · rw [hM3 a ha]
      funext i
      unfold sx_up
      rw [if_neg h32, if_neg h32, if_neg h33, if_neg h33, if_neg h33, if_neg h33]
    · rw [k32]
      unfold sx_up
      rw [if_pos rfl, if_neg h2, if_pos rfl, if_neg h1, if_neg (by decide), if_neg (by decide), if_neg (by decide), if_neg (by decide)]
    · rw [k32]
      unfold sx_up
      rfl
    · rw [k32]
      unfold sx_up
      rfl
    · rw [k33]
      funext i
      unfold sx_up cx_pt
      rw [if_neg (by decide), if_neg (by decide), if_pos rfl, if_pos rfl, if_pos rfl, if_pos rfl, show (M 32 1 * 4 + 3).toNat = 4 * (M 32 1).toNat + 3 by omega, show (M 32 1 * 4 + 2).toNat = 4 * (M 32 1).toNat + 2 by omega, show (M 32 1 * 4 + 1).toNat = 4 * (M 32 1).toNat + 1 by omega, show (M 32 1 * 4 + 0).toNat = 4 * (M 32 1).toNat by omega]
end
