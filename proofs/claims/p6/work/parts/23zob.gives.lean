/-! Walks by lists: small helps, and calls. -/
section
variable {L : Nat} {xs : Nat → Int32} {M M' : Nat → Nat → Int} {Q R : Option Value → (Nat → Nat → Int) → Prop} {zs : List Int}
theorem qs_in {k u : Nat} {a : sx_A} {lo hi : Int} {l : List qs_I} (h : lo ≤ qs_n zs k ∧ qs_n zs k ≤ hi) (r : qs_ok M zs l (k + 1)) : qs_ok M zs ((0, u, a, (lo, hi)) :: l) k := ⟨h, r⟩
theorem qs_iw {k u : Nat} {a : sx_A} {g : Int × Int} {l : List qs_I} (h : sx_w g (qs_n zs k)) (r : qs_ok M zs l (k + 1)) : qs_ok M zs ((0, u, a, g) :: l) k := ⟨h, r⟩
theorem qs_rd {k c : Nat} {a : sx_A} {g : Int × Int} {l : List qs_I} (h0 : 0 ≤ qs_a zs a) (h1 : M c (qs_a zs a).toNat = qs_n zs k) (h2 : sx_w g (qs_n zs k)) (r : qs_ok M zs l (k + 1)) : qs_ok M zs ((1, c, a, g) :: l) k := ⟨⟨h0, h1, h2.1, h2.2⟩, r⟩
theorem qs_lt {k u : Nat} {a : sx_A} {g : Int × Int} {l : List qs_I} (h : qs_a zs a < qs_a zs (u, g.1)) (r : qs_ok M zs l k) : qs_ok M zs ((2, u, a, g) :: l) k := ⟨h, r⟩
theorem qs_ge {k u : Nat} {a : sx_A} {g : Int × Int} {l : List qs_I} (h : ¬ qs_a zs a < qs_a zs (u, g.1)) (r : qs_ok M zs l k) : qs_ok M zs ((3, u, a, g) :: l) k := ⟨h, r⟩
theorem qs_fin {k : Nat} (h : zs.length = k) : qs_ok M zs [] k := h
theorem qs_c {j d n : Nat} {T : og_T} {r : List og_T} (h : qs_all n (fun us => qs_K1 Q L xs j d M T (zs ++ us))) (h2 : qs_Ks Q L xs j d n M zs r) : qs_Ks Q L xs j d n M zs (T :: r) := ⟨h, h2⟩
theorem qs_nl {j d pc : Nat} {lv : sm_V} {s : List Value} (hn : lo_nd lv) (k : rz_fin Q L xs j d pc [] s M) : rz_fin Q L xs j d pc lv s M := rz_le (a := []) ⟨List.nodup_nil, hn, fun i v h => by cases h⟩ k
theorem qs_z {j d n : Nat} : qs_Ks Q L xs j d n M zs [] := trivial
/-- what is owed, weaker -/
theorem qs_w {j d pc : Nat} {lv : sm_V} {s : List Value} (h : rz_fin R L xs j d pc lv s M) (k : ∀ r M', R r M' → Q r M') : rz_fin Q L xs j d pc lv s M := by
  obtain ⟨F, r, M', e, e1⟩ := h
  exact ⟨F, r, M', e, k r M' e1⟩
/-- a method of an object is called -/
theorem qs_vc {j k d d' pc ix ci b : Nat} {z : Int} {g : sx_H} {lv : sm_V} {S as rest : List Value} {LV : sm_V} (hf : (sm_MT j).2.2.2.2.2 pc = some (.invokevirtual ix, 3)) (e1 : sm_LK (sm_MT j).1 ix = some (1, k, ci, z)) (e2 : S.drop ((sm_MT k).2.2.2.1) = .ref b :: rest) (e3 : (S.take ((sm_MT k).2.2.2.1)).reverse = as) (eg : cl_ly b = some g) (eb : sx_an (Nat.beq g.1 1) (Nat.beq g.2.1 ci) = true) (hq : Nat.ble (sm_sum rest) 8 = true) (hl : Nat.ble (lg_sl (.ref b :: as)).length (sm_MT k).2.1 = true) (hd : d ≤ d') (eA : lv_args 0 (.ref b :: as) = LV) (hS : rz_fin R L xs k d 0 LV [] M) (next : ∀ r M', R r M' → rz_fin Q L xs j (d' + 1) (pc + 3) lv (r.toList ++ rest) M') : rz_fin Q L xs j (d' + 1) pc lv S M := by
  obtain ⟨b1, b2⟩ := sx_an_iff.mp eb
  refine rz_callv (k := k) (as := .ref b :: as) (rest := rest) hf ?_ ⟨Nat.le_of_ble_eq_true hq, Nat.le_of_ble_eq_true hl⟩ (rz_d hd (by rw [eA]; exact hS)) next
  dsimp only [sm_call]
  rw [e1]
  show (match S.drop ((sm_MT k).2.2.2.1) with
    | Value.ref b :: rest => (match sm_obj (sx_HH cl_lay cl_rf M) b ci with
      | some _ => some (k, Value.ref b :: (S.take ((sm_MT k).2.2.2.1)).reverse, rest)
      | none => none)
    | _ => none) = _
  rw [e2, e3]
  show (match sm_obj (sx_HH cl_lay cl_rf M) b ci with
    | some _ => some (k, Value.ref b :: as, rest)
    | none => none) = _
  rw [sx_obj_at cl_lok eg (sx_nbeq.mp b1) (sx_nbeq.mp b2)]
/-- a static method is called -/
theorem qs_sc {j k d d' pc ix u : Nat} {z : Int} {lv : sm_V} {S as rest : List Value} {LV : sm_V} (hf : (sm_MT j).2.2.2.2.2 pc = some (.invokestatic ix, 3)) (e1 : sm_LK (sm_MT j).1 ix = some (2, k, u, z)) (e2 : S.drop ((sm_MT k).2.2.2.1) = rest) (e3 : (S.take ((sm_MT k).2.2.2.1)).reverse = as) (e4 : Nat.ble ((sm_MT k).2.2.2.1) S.length = true) (hq : Nat.ble (sm_sum rest) 8 = true) (hl : Nat.ble (lg_sl as).length (sm_MT k).2.1 = true) (hd : d ≤ d') (eA : lv_args 0 as = LV) (hS : rz_fin R L xs k d 0 LV [] M) (next : ∀ r M', R r M' → rz_fin Q L xs j (d' + 1) (pc + 3) lv (r.toList ++ rest) M') : rz_fin Q L xs j (d' + 1) pc lv S M := by
  obtain ⟨F1, r1, M1, f1, f2⟩ := rz_d hd hS
  obtain ⟨F2, r, M2, g1, g2⟩ := next r1 M1 f2
  have hc : sm_call (sm_LK (sm_MT j).1) (fun k => (sm_MT k).2.2.2.1) (.invokestatic ix) S (sx_HH cl_lay cl_rf M) = some (k, as, rest) := by
    dsimp only [sm_call]
    rw [e1]
    show (if (sm_MT k).2.2.2.1 ≤ S.length then some (k, (S.take ((sm_MT k).2.2.2.1)).reverse, S.drop ((sm_MT k).2.2.2.1)) else none) = _
    rw [if_pos (Nat.le_of_ble_eq_true e4), e2, e3]
  subst eA
  obtain ⟨F, hF⟩ := gs_call (xs := xs) (L := L) (j := j) (d := d') (pc := pc) (len := 3) (k := k) (ins := .invokestatic ix) (lv := lv) (s := S) (as := as) (rest := rest) (ro := r1) hf rfl rfl hc ⟨Nat.le_of_ble_eq_true hq, Nat.le_of_ble_eq_true hl⟩ f1 g1
  exact ⟨F, r, M2, hF, g2⟩
end
/-! The reference's law, line by line. -/
section
variable {L : Nat} {xs : Nat → Int32} {M M' M1 M2 : Nat → Nat → Int} {N : Nat → Int} {e f z : Int} {Q R : Option Value → (Nat → Nat → Int) → Prop}
def wv_v (f l : Int) : sm_V := [(0, .ref 53), (1, .int (Int32.ofInt 0)), (2, .int (Int32.ofInt f)), (3, .int (Int32.ofInt l))]
theorem wv_wk (hL : L < 2 ^ 31) (hm : sx_mok cl_ly M') (h : ∀ a, a < 128 → a ≠ 73 → M' a = M a) (h0 : 0 ≤ f) (hfe : f < e) (he : e ≤ 130) (hs : (vt_sr (M 72) (yr_L M f.toNat (e - f).toNat) []).isSome = true) (hK : ∀ i : Nat, f ≤ (i : Int) → (i : Int) < e → wu_K M i) : rz_fin (wu_V M (vt_val (M 72) (yr_L M f.toNat (e - f).toNat))) L xs 197 6 0 (wu_a f e) [] M' := by
  obtain ⟨U, hU⟩ := Option.isSome_iff_exists.mp hs
  have e67 := h 67 (by decide) (by decide)
  have e68 := h 68 (by decide) (by decide)
  have e72 := h 72 (by decide) (by decide)
  have eL : yr_L M' f.toNat (e - f).toNat = yr_L M f.toNat (e - f).toNat := yr_L_on (fun i _ _ => by rw [e67, e68]; exact ⟨rfl, rfl⟩)
  rw [vt_val_some hU]
  refine qs_w (wu_worked (xs := xs) hL hm h0 hfe he (U := U) (by rw [e72, eL]; exact hU) (fun i h1 h2 => by
    unfold wu_K
    rw [e67, e68]
    exact hK i h1 h2)) (fun r M2 g => ?_)
  obtain ⟨g1, g2, g3, g4⟩ := g
  exact ⟨g1, g2, g3, fun a ha h73 => (g4 a ha h73).trans (h a ha h73)⟩
def wv5_i : List qs_I := [(0, 0, (0, 0), (0, 130)), (0, 0, (0, 0), (0, 61)), (1, 69, (0, 0), (0, 61)), (3, 11, (10, 0), (0, 0))]
def wv5_T : List og_T := [(none, some (0, 0, 0), [], [], [], [])]
def wv_l : sx_L := [(0, 2, 0, 53), (1, 0, 0, 0), (2, 0, 9, 0), (3, 0, 10, 0)]
theorem wv5_c : qs_chk (fun _ => false) wv5_i 0 wv5_T 400 400 8 196 7 wv_l [] = true := by decide +kernel
def wv0_i : List qs_I := [(0, 0, (0, 0), (0, 130)), (0, 0, (0, 0), (0, 60)), (1, 69, (0, 0), (0, 61)), (1, 70, (10, 0), (0, 130)), (1, 71, (10, 0), (0, 130)), (2, 11, (10, 0), (0, 0))]
def wv_s (b a : Nat) : List sx_V := [(0, b, 0), (0, a, 0), (0, 0, 0), (2, 0, 53)]
def wv0_T : List og_T := [(some 61, none, wv_s 13 12, wv_l, [], [(3, (12, 0), (9, 0), 0, 0)]), (some 41, none, wv_s 12 9, wv_l, [], [(4, (12, 0), (9, 0), 0, 0)])]
theorem wv0_c : qs_chk (fun pc => bif Nat.beq pc 41 then true else Nat.beq pc 61) wv0_i 0 wv0_T 400 400 8 196 7 wv_l [] = true := by decide +kernel
def wv1_i : List qs_I := [(0, 0, (0, 0), (0, 130)), (0, 0, (0, 0), (0, 60)), (0, 0, (0, 0), sx_r32), (1, 70, (10, 0), (0, 130)), (1, 71, (10, 0), (0, 130))]
def wv1_T : List og_T := [(some 7, none, [], [(0, 2, 0, 53), (1, 0, 0, 0), (2, 0, 13, 0), (3, 0, 10, 1)], [], [(0, (11, 0), (0, 0), 0, 0)]), (some 61, none, wv_s 13 12, wv_l, [], [(7, (11, 0), (0, 0), 0, 0)])]
theorem wv1_c : qs_chk (fun pc => bif Nat.beq pc 7 then true else Nat.beq pc 61) wv1_i 0 wv1_T 400 400 8 196 44 wv_l [(0, 11, 0)] = true := by decide +kernel
def wv3_i : List qs_I := [(0, 0, (0, 0), sx_r32)]
def wv3_T : List og_T := [(none, some (0, 9, 0), [], [], [], [])]
theorem wv3_c : qs_chk (fun _ => false) wv3_i 0 wv3_T 400 400 8 196 64 [] [(0, 9, 0)] = true := by decide +kernel
def wv4_T : List og_T := [(some 7, none, [], [(0, 2, 0, 53), (1, 0, 0, 0), (2, 0, 0, 0), (3, 0, 0, 0)], [], [])]
theorem wv4_c : qs_chk (fun pc => Nat.beq pc 7) [] 0 wv4_T 400 400 8 196 0 [(0, 2, 0, 53), (1, 0, 0, 0)] [] = true := by decide +kernel
theorem wv_nd (f l : Int) : lo_nd (wv_v f l) := by
  show ([0, 1, 2, 3] : List Nat).Nodup
  decide
/-- what else a line has is worked and answered -/
theorem wv_61 {l : Nat} {lv : sm_V} (hn : lo_nd lv) (hL : L < 2 ^ 31) (hm : sx_mok cl_ly M') (h : ∀ a, a < 128 → a ≠ 73 → M' a = M a) (hl : vt_ln M l) : rz_fin (wu_V M (vt_val (M 72) (vt_B M l))) L xs 196 8 61 lv [.int (Int32.ofInt (M 71 l)), .int (Int32.ofInt (M 70 l)), .int (Int32.ofInt 0), .ref 53] M' := by
  obtain ⟨⟨b1, b2, b3, b4⟩, -, b5, b6, -, -⟩ := hl
  refine qs_vc (k := 197) (b := 53) (d := 7) (d' := 7) (rest := []) rfl rfl rfl rfl rfl rfl rfl rfl (Nat.le_refl _) rfl (rz_d (by decide) (wv_wk (xs := xs) (M := M) hL hm h (by omega) b3 b4 (b5 (M 72)) (fun i h1 h2 => b6 i (by omega) h2))) (fun r M1 g => ?_)
  obtain ⟨rfl, g2, g3, g4⟩ := g
  refine qs_nl hn (qs_use (zs := [vt_val (M 72) (vt_B M l)]) wv3_c hL g3 (qs_iw g2 (qs_fin rfl)) (Nat.le_refl _) rfl rfl (qs_c (fun M2 hm2 hc hM => ?_) qs_z))
  exact ⟨rfl, g2, hm2, fun a ha h73 => (hM a ha).trans (g4 a ha h73)⟩
theorem wv_loop (hL : L < 2 ^ 31) (h61 : M 69 0 ≤ 61) (hln : ∀ l : Nat, (l : Int) < M 69 0 → vt_ln M l) : ∀ (c l : Nat) (M' : Nat → Nat → Int), ((l + c : Nat) : Int) = M 69 0 → 0 ≤ yj_f M 0 l → yj_f M 0 l ≤ 130 → sx_mok cl_ly M' → (∀ a, a < 128 → a ≠ 73 → M' a = M a) → rz_fin (wu_V M (vt_gv M (M 72) c l)) L xs 196 8 7 (wv_v (yj_f M 0 l) (l : Int)) [] M' := by
  intro c
  induction c with
  | zero =>
    intro l M' hc h0 h130 hm h
    have e69 := h 69 (by decide) (by decide)
    refine qs_use (zs := [yj_f M 0 l, (l : Int), M 69 0]) wv5_c hL hm (qs_in ⟨h0, h130⟩ (qs_in (show 0 ≤ (l : Int) ∧ (l : Int) ≤ 61 by omega) (qs_rd (Int.le_refl 0) (by rw [e69]; rfl) (show 0 ≤ M 69 0 ∧ M 69 0 ≤ 61 by omega) (qs_ge (show ¬ (l : Int) < M 69 0 by omega) (qs_fin rfl))))) (Nat.le_refl _) rfl rfl (qs_c (fun M2 hm2 hc hM => ?_) qs_z)
    exact ⟨rfl, sx_w0, hm2, fun a ha h73 => (hM a ha).trans (h a ha h73)⟩
  | succ c ih =>
    intro l M' hc h0 h130 hm h
    have e69 := h 69 (by decide) (by decide)
    have e70 := h 70 (by decide) (by decide)
    have e71 := h 71 (by decide) (by decide)
    have hl := hln l (by omega)
    obtain ⟨⟨b1, b2, b3, b4⟩, a5, b5, b6, -, -⟩ := hln l (by omega)
    refine qs_use (zs := [yj_f M 0 l, (l : Int), M 69 0, M 70 l, M 71 l]) wv0_c hL hm (qs_in ⟨h0, h130⟩ (qs_in (show 0 ≤ (l : Int) ∧ (l : Int) ≤ 60 by omega) (qs_rd (Int.le_refl 0) (by rw [e69]; rfl) (show 0 ≤ M 69 0 ∧ M 69 0 ≤ 61 by omega) (qs_rd (show 0 ≤ (l : Int) by omega) (by rw [e70]; rfl) (show 0 ≤ M 70 l ∧ M 70 l ≤ 130 by omega) (qs_rd (show 0 ≤ (l : Int) by omega) (by rw [e71]; rfl) (show 0 ≤ M 71 l ∧ M 71 l ≤ 130 by omega) (qs_lt (show (l : Int) < M 69 0 by omega) (qs_fin rfl))))))) (Nat.le_refl _) rfl rfl (qs_c (fun M2 hm2 hc2 hM => ?_) (qs_c (fun M2 hm2 hc2 hM => ?_) qs_z))
    · -- no test
      have c1 : M 70 l = yj_f M 0 l := hc2.1
      show rz_fin (wu_V M (if M 70 l = yj_f M 0 l ∨ vt_val (M 72) (vt_A M l) ≠ 0 then vt_val (M 72) (vt_B M l) else vt_gv M (M 72) c (l + 1))) L xs 196 8 61 (wv_v (yj_f M 0 l) (l : Int)) [.int (Int32.ofInt (M 71 l)), .int (Int32.ofInt (M 70 l)), .int (Int32.ofInt 0), .ref 53] M2
      rw [if_pos (Or.inl c1)]
      exact wv_61 (wv_nd _ _) hL hm2 (fun a ha h73 => (hM a ha).trans (h a ha h73)) hl
    · have c1 : ¬ M 70 l = yj_f M 0 l := hc2.1
      show rz_fin (wu_V M (if M 70 l = yj_f M 0 l ∨ vt_val (M 72) (vt_A M l) ≠ 0 then vt_val (M 72) (vt_B M l) else vt_gv M (M 72) c (l + 1))) L xs 196 8 41 (wv_v (yj_f M 0 l) (l : Int)) [.int (Int32.ofInt (M 70 l)), .int (Int32.ofInt (yj_f M 0 l)), .int (Int32.ofInt 0), .ref 53] M2
      refine qs_vc (k := 197) (b := 53) (d := 7) (d' := 7) (rest := []) rfl rfl rfl rfl rfl rfl rfl rfl (Nat.le_refl _) rfl (rz_d (by decide) (wv_wk (xs := xs) (M := M) hL hm2 (fun a ha h73 => (hM a ha).trans (h a ha h73)) b1 (by omega) (by omega) (a5 (M 72)) (fun i h1 h2 => b6 i h1 (by omega)))) (fun r M3 g => ?_)
      obtain ⟨rfl, g2, g3, g4⟩ := g
      have f70 := g4 70 (by decide) (by decide)
      have f71 := g4 71 (by decide) (by decide)
      refine qs_use (zs := [yj_f M 0 l, (l : Int), vt_val (M 72) (vt_A M l), M 70 l, M 71 l]) wv1_c hL g3 (qs_in ⟨h0, h130⟩ (qs_in (show 0 ≤ (l : Int) ∧ (l : Int) ≤ 60 by omega) (qs_iw g2 (qs_rd (show 0 ≤ (l : Int) by omega) (by rw [f70]; rfl) (show 0 ≤ M 70 l ∧ M 70 l ≤ 130 by omega) (qs_rd (show 0 ≤ (l : Int) by omega) (by rw [f71]; rfl) (show 0 ≤ M 71 l ∧ M 71 l ≤ 130 by omega) (qs_fin rfl)))))) (Nat.le_refl _) rfl rfl (qs_c (fun M4 hm4 hc4 hM4 => ?_) (qs_c (fun M4 hm4 hc4 hM4 => ?_) qs_z))
      · have c4 : 0 ≤ vt_val (M 72) (vt_A M l) ∧ vt_val (M 72) (vt_A M l) ≤ 0 := hc4.1
        rw [if_neg (by omega)]
        have ef : M 71 l = yj_f M 0 (l + 1) := by
          unfold yj_f
          rw [if_neg (Nat.succ_ne_zero l), Nat.zero_add]
          rfl
        have := ih (l + 1) M4 (by omega) (by rw [← ef]; omega) (by rw [← ef]; omega) hm4 (fun a ha h73 => (hM4 a ha).trans (g4 a ha h73))
        rw [← ef, show ((l + 1 : Nat) : Int) = (l : Int) + 1 by omega] at this
        exact this
      · have c4 : vt_val (M 72) (vt_A M l) ≠ 0 := hc4.1
        rw [if_pos (Or.inr c4)]
        exact wv_61 (wv_nd _ _) hL hm4 (fun a ha h73 => (hM4 a ha).trans (g4 a ha h73)) hl
/-- the reference's law gives what its lines give -/
theorem wv_gives (hL : L < 2 ^ 31) (hm : sx_mok cl_ly M) (h61 : 0 ≤ M 69 0 ∧ M 69 0 ≤ 61) (hln : ∀ l : Nat, (l : Int) < M 69 0 → vt_ln M l) : rz_fin (wu_V M (vt_gv M (M 72) (M 69 0).toNat 0)) L xs 196 8 0 [(0, .ref 53), (1, .int (Int32.ofInt 0))] [] M := by
  refine qs_use (zs := []) (lv := [(0, 2, 0, 53), (1, 0, 0, 0)]) (s := []) wv4_c hL hm (qs_fin rfl) (Nat.le_refl _) rfl rfl (qs_c (fun M2 hm2 hc hM => ?_) qs_z)
  exact wv_loop hL h61.2 hln (M 69 0).toNat 0 M2 (by omega) (Int.le_refl 0) (show (0 : Int) ≤ 130 by decide) hm2 (fun a ha _ => hM a ha)
end
