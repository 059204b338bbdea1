/-! Shelves: shift of the class, all of it; array loads and stores of longs by hand. -/
section
variable {WF : (Nat → Nat → Int) → Prop} {L : Nat} {xs : Nat → Int32} {M M' M0 M1 M2 N : Nat → Nat → Int} {ρ ρ' : Nat → Int} {t : sx_S} {Q : Option Value → (Nat → Nat → Int) → Prop} {s i o j n : Int} {c e kc ke : Nat} {cps : List la_P}
theorem sf_x (hL : L < 2 ^ 31) (hm : sx_mok cl_ly M) (hc6 : c < 6) (he6 : e < 6) (hkc : kc < 3) (hke : ke < 3) (hce : c = e → kc = ke) (hs : sf_st M c kc) (hs2 : sf_st M e ke) (hi : sx_w sx_r32 i) (hj : sx_w sx_r32 j) (hn : sx_w sx_r32 n) : rz_fin (sh_Q (sf_X c e kc ke i j n M)) L xs 147 4 0 (sf_a 8 (c : Int) i (e : Int) j n) [] M := by
  have c32 : sx_w sx_r32 (c : Int) := og_w32 (by omega) (by omega)
  have e32 : sx_w sx_r32 (e : Int) := og_w32 (by omega) (by omega)
  obtain ⟨ρ, st, e1, e2, e3⟩ := og_sat (xs := xs) (gs := sf_g c e) (zs := [(c : Int), i, (e : Int), j, n]) (fs := sf_f c e kc ke) hL hm ⟨sh_sym rfl c32, og_z rfl hi.1 hi.2 hi, sh_sym rfl e32, og_z rfl hj.1 hj.2 hj, og_z rfl hn.1 hn.2 hn, trivial⟩ (sf_fok hm hc6 he6 hs hs2)
  have r9 : ρ 9 = (c : Int) := e2 0 _ rfl
  have r10 : ρ 10 = i := e2 1 _ rfl
  have r11 : ρ 11 = (e : Int) := e2 2 _ rfl
  have r12 : ρ 12 = j := e2 3 _ rfl
  have r13 : ρ 13 = n := e2 4 _ rfl
  have n14 : (sf_t c e kc ke).1 = 14 + (sf_f c e kc ke).length := e1
  obtain ⟨okl, el⟩ := sf_lok (m := (sf_t c e kc ke).1) (a := 8) (c := 8) (fun c => sx_ck2 st c) (by rw [n14]; omega) rfl r9 r10 r11 r12 r13 c32 hi e32 hj hn
  have nd : sf_all (fun c e kc ke => (sf_Tx c e kc ke).all fun T => mt_nd (T.2.2.2.1.map fun q => q.1)) = true := by decide +kernel
  refine og_use (Ts := sf_Tx c e kc ke) (lv := sf_l 8) (s := []) (sf_all_ok sf_cx hc6 he6 hkc hke hce) (sf_all_ok nd hc6 he6 hkc hke hce) st okl (fun v hv => by cases hv) (Nat.le_refl _) el rfl (fun T hT ρ' M' x h0 hm' hc hM => ?_)
  have x : sx_ext (14 + (sf_f c e kc ke).length) ρ ρ' := by rw [← n14]; exact x
  have q10 := og_v x (show 10 < 14 + (sf_f c e kc ke).length by omega) r10
  have q12 := og_v x (show 12 < 14 + (sf_f c e kc ke).length by omega) r12
  have q13 := og_v x (show 13 < 14 + (sf_f c e kc ke).length by omega) r13
  unfold sf_Tx at hT
  by_cases h1 : kc = 0 ∨ ke = 0
  · rw [if_pos h1] at hT
    rw [List.mem_singleton.mp hT] at hM ⊢
    refine ⟨-11, congrArg some (tk_cv h0 (-11)), hm', ?_⟩
    unfold sf_X
    rw [if_pos h1]
    exact ⟨rfl, hM⟩
  rw [if_neg h1] at hT
  by_cases h2 : kc = 1 ∨ ke = 1
  · rw [if_pos h2] at hT
    rw [List.mem_singleton.mp hT] at hM ⊢
    refine ⟨-12, congrArg some (tk_cv h0 (-12)), hm', ?_⟩
    unfold sf_X
    rw [if_neg h1, if_pos h2]
    exact ⟨rfl, hM⟩
  rw [if_neg h2] at hT
  have eX : sf_X c e kc ke i j n M = sf_R c e i j n M := by
    funext z M'
    unfold sf_X
    rw [if_neg h1, if_neg h2]
  rw [eX]
  have w : ∀ c, c < 6 → 0 ≤ M (41 + 2 * c) 1 ∧ M (41 + 2 * c) 1 ≤ 60 := fun c hc => (sh_fok hm hc (41 + 2 * c, 1, (0, 60)) (by simp [op_f])).2.1
  by_cases h3 : c = e
  · rw [if_pos h3] at hT
    have ef : sf_f c e kc ke = sf_f1 c kc := if_pos h3
    rw [ef] at e3 x
    have q14 : ρ' 14 = M (41 + 2 * c) 1 := og_v x (show 14 < 14 + 3 by decide) (e3 0 (41 + 2 * c, 1, (0, 60)) rfl)
    exact sf_Tok hL hm hc6 he6 hT h0 hm' q10 q12 q13 q14 (by rw [← h3]; exact q14) (w c hc6) (w e he6) hn (fun _ => by rw [h3]) (fun h => absurd h3 h) hc hM
  · rw [if_neg h3] at hT
    have ef : sf_f c e kc ke = sf_f1 c kc ++ sf_f1 e ke := if_neg h3
    rw [ef] at e3 x
    have q14 : ρ' 14 = M (41 + 2 * c) 1 := og_v x (show 14 < 14 + 6 by decide) (e3 0 (41 + 2 * c, 1, (0, 60)) rfl)
    have q15 : ρ' 15 = M (41 + 2 * c) 2 := og_v x (show 15 < 14 + 6 by decide) (e3 1 (41 + 2 * c, 2, sf_rs kc) rfl)
    have q17 : ρ' 17 = M (41 + 2 * e) 1 := og_v x (show 17 < 14 + 6 by decide) (e3 3 (41 + 2 * e, 1, (0, 60)) rfl)
    have q18 : ρ' 18 = M (41 + 2 * e) 2 := og_v x (show 18 < 14 + 6 by decide) (e3 4 (41 + 2 * e, 2, sf_rs ke) rfl)
    refine sf_Tok hL hm hc6 he6 hT h0 hm' q10 q12 q13 q14 q17 (w c hc6) (w e he6) hn (fun h => ?_) (fun _ h => ?_) hc hM
    · have h : ρ' 15 = ρ' 18 + 0 := h.1
      rw [q15, q18, Int.add_zero] at h
      exact h
    · have h : ¬ ρ' 15 = ρ' 18 + 0 := h.1
      rw [q15, q18, Int.add_zero] at h
      exact h
/-- a long is read -/
theorem rz_ll {j d pc a : Nat} {lv : sm_V} {s : List Value} {z : Int} {g : sx_H} (hf : (sm_MT j).2.2.2.2.2 pc = some (.laload, 1)) (eg : sx_arr cl_ly a 1 = some g) (h0 : 0 ≤ z) (h1 : z < g.2.2.1) (w : sx_w sx_r32 z) (k : rz_fin Q L xs j d (pc + 1) lv (.long (Int64.ofInt (M a z.toNat)) :: s) M) : rz_fin Q L xs j d pc lv (.int (Int32.ofInt z) :: .ref a :: s) M := by
  obtain ⟨m1, m2⟩ := sx_in_sm w h0 h1
  refine rz_st hf rfl rfl rfl (pc' := pc + 1) (lv' := lv) (s' := .long (Int64.ofInt (M a z.toNat)) :: s) ?_ k
  show (match sm_longs (sx_HH cl_lay cl_rf M) a with
    | some (n, f) => if sm_in (Int32.ofInt z) n = true then some (pc + 1, lv, Value.long (f (Int32.ofInt z).toNatClampNeg) :: s, sx_HH cl_lay cl_rf M) else none
    | none => none) = _
  rw [sx_longs_at cl_lok eg]
  show (if sm_in (Int32.ofInt z) g.2.2.1 = true then some (pc + 1, lv, Value.long (Int64.ofInt (M a (Int32.ofInt z).toNatClampNeg)) :: s, sx_HH cl_lay cl_rf M) else none) = _
  rw [if_pos m1, m2]
/-- a long is written -/
theorem rz_ls {j d pc a : Nat} {lv : sm_V} {s : List Value} {z v : Int} {g : sx_H} (hf : (sm_MT j).2.2.2.2.2 pc = some (.lastore, 1)) (eg : sx_arr cl_ly a 1 = some g) (h0 : 0 ≤ z) (h1 : z < g.2.2.1) (w : sx_w sx_r32 z) (k : rz_fin Q L xs j d (pc + 1) lv s (sx_up M a z.toNat v)) : rz_fin Q L xs j d pc lv (.long (Int64.ofInt v) :: .int (Int32.ofInt z) :: .ref a :: s) M := by
  obtain ⟨m1, m2⟩ := sx_in_sm w h0 h1
  obtain ⟨F, r, M', e, e1⟩ := k
  have hset := sx_set_longs (rf := cl_rf) (M := M) (a := a) (i := z.toNat) (z := v) cl_lok eg
  generalize sx_up M a z.toNat v = N at e hset
  have k1 := gs_st (L := L) (xs := xs) (j := j) (d := d) (pc := pc) (len := 1) (F := F) (ins := .lastore) (lv := lv) (s := .long (Int64.ofInt v) :: .int (Int32.ofInt z) :: .ref a :: s) (h := sx_HH cl_lay cl_rf M) (o := (pc + 1, lv, s, sx_HH cl_lay cl_rf N)) (res := (r, sx_HH cl_lay cl_rf M'))
  have k2 := k1 hf rfl
  have k3 := k2 rfl
  have k4 := k3 rfl
  have k5 := k4 (by
    show (match sm_longs (sx_HH cl_lay cl_rf M) a with
      | some (n, f) => if sm_in (Int32.ofInt z) n = true then some (pc + 1, lv, s, (sx_HH cl_lay cl_rf M).set (a - 8) (.inl (1, n, .inr (.inl (vp_updL f (Int32.ofInt z).toNatClampNeg (Int64.ofInt v)))))) else none
      | none => none) = _
    rw [sx_longs_at cl_lok eg]
    show (if sm_in (Int32.ofInt z) g.2.2.1 = true then some (pc + 1, lv, s, (sx_HH cl_lay cl_rf M).set (a - 8) (.inl (1, g.2.2.1, .inr (.inl (vp_updL (fun i => Int64.ofInt (M a i)) (Int32.ofInt z).toNatClampNeg (Int64.ofInt v)))))) else none) = _
    rw [if_pos m1, m2, hset])
  dsimp only at k5
  exact ⟨F + 1, r, M', k5 e, e1⟩
end
