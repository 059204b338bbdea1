/-! Shelves: shift of the reference, told by what it does; both sides. -/
section
variable {WF : (Nat → Nat → Int) → Prop} {L : Nat} {xs : Nat → Int32} {M M' M0 M1 M2 N : Nat → Nat → Int} {ρ ρ' : Nat → Int} {t : sx_S} {Q : Option Value → (Nat → Nat → Int) → Prop} {s i o j n : Int} {c e kc ke : Nat} {cps : List la_P}
/-- both are rows -/
def sn_R (c e : Nat) (i j n : Int) (M : Nat → Nat → Int) (z : Int) (M' : Nat → Nat → Int) : Prop := (z = -12 ∧ M 87 c ≠ M 87 e ∧ ∀ a, a < 128 → M' a = M a) ∨ (z = -13 ∧ M 87 c = M 87 e ∧ sf_bad (M 88 c) (M 88 e) i j n ∧ ∀ a, a < 128 → M' a = M a) ∨ (z = n ∧ M 87 c = M 87 e ∧ ¬ sf_bad (M 88 c) (M 88 e) i j n ∧ (∀ a, a < 128 → a ≠ 89 → a ≠ 90 → M' a = M a) ∧ ∀ t : Nat, M' 89 t = if 60 * e + j.toNat ≤ t ∧ t < 60 * e + j.toNat + n.toNat then M 89 (60 * c + i.toNat + (t - (60 * e + j.toNat))) else M 89 t)
def sn_X (c e kc ke : Nat) (i j n : Int) (M : Nat → Nat → Int) (z : Int) (M' : Nat → Nat → Int) : Prop := if kc = 0 ∨ ke = 0 then z = -11 ∧ ∀ a, a < 128 → M' a = M a else if kc = 1 ∨ ke = 1 then z = -12 ∧ ∀ a, a < 128 → M' a = M a else sn_R c e i j n M z M'
theorem sn_Tok {E m1 m2 : Nat} {eq ne : List og_D} {T : og_T} (hL : L < 2 ^ 31) (hm : sx_mok cl_ly M) (hc6 : c < 6) (he6 : e < 6) (hT : T ∈ sn_T c e E m1 m2 eq ne) (h0 : ρ' 0 = 0) (hm' : sx_mok cl_ly M') (q9 : ρ' 9 = i) (q10 : ρ' 10 = j) (q11 : ρ' 11 = n) (q13 : ρ' 13 = M 88 c) (qE : ρ' E = M 88 e) (hn : sx_w sx_r32 n) (heq : og_cs ρ' M' eq → M 87 c = M 87 e) (hne : ¬ c = e → og_cs ρ' M' ne → M 87 c ≠ M 87 e) (hcs : og_cs ρ' M' T.2.2.2.2.2) (hM : ∀ a, a < 128 → M' a = og_up ρ' T.2.2.2.2.1 M a) : og_K (sh_Q (sn_R c e i j n M)) L xs 268 4 T ρ' M' := by
  have v9 : sx_val ρ' (9, 0) = i := og_v0 q9
  have v10 : sx_val ρ' (10, 0) = j := og_v0 q10
  have v11 : sx_val ρ' (11, 0) = n := og_v0 q11
  have wc := sh_88 hm hc6
  have we := sh_88 hm he6
  have hn' := sx_r32_iff.mp hn
  have sub : ∀ {A m : Nat} {l : Int}, ρ' A = l → 0 ≤ l → l ≤ 60 → 0 ≤ n → ρ' (m : Int).toNat = sx_mf 1 (sx_val ρ' (A, 0)) (sx_val ρ' (11, 0)) → ρ' m = l - n := fun {A m l} hA h1 h2 h3 h => by
    rw [og_v0 hA, v11, og_sub (og_w32 (by omega) (by omega)), Int.toNat_natCast] at h
    exact h
  rcases List.mem_append.mp hT with hT | hT
  · by_cases hce : c = e
    · rw [if_pos hce] at hT; cases hT
    · rw [if_neg hce] at hT
      rw [List.mem_singleton.mp hT] at hcs hM ⊢
      exact ⟨-12, congrArg some (tk_cv h0 (-12)), hm', Or.inl ⟨rfl, hne hce hcs, hM⟩⟩
  · unfold sn_R sf_bad
    simp only [List.mem_cons, List.not_mem_nil, or_false] at hT
    rcases hT with rfl | rfl | rfl | rfl | rfl | rfl
    · obtain ⟨⟨c1, c2⟩, hq⟩ := hcs
      have c2 : sx_val ρ' (11, 0) ≤ -1 := c2
      rw [v11] at c2
      exact ⟨-13, congrArg some (tk_cv h0 (-13)), hm', Or.inr (Or.inl ⟨rfl, heq hq, by omega, hM⟩)⟩
    · obtain ⟨⟨c1, c2⟩, hq⟩ := hcs
      have c2 : sx_val ρ' (9, 0) ≤ -1 := c2
      rw [v9] at c2
      exact ⟨-13, congrArg some (tk_cv h0 (-13)), hm', Or.inr (Or.inl ⟨rfl, heq hq, by omega, hM⟩)⟩
    · obtain ⟨⟨c1, c2⟩, hq⟩ := hcs
      have c2 : sx_val ρ' (10, 0) ≤ -1 := c2
      rw [v10] at c2
      exact ⟨-13, congrArg some (tk_cv h0 (-13)), hm', Or.inr (Or.inl ⟨rfl, heq hq, by omega, hM⟩)⟩
    · obtain ⟨c1, ⟨c2, c3⟩, c4, hq⟩ := hcs
      have c1 : ρ' (m1 : Int).toNat = sx_mf 1 (sx_val ρ' (13, 0)) (sx_val ρ' (11, 0)) := c1
      have c2 : 0 ≤ sx_val ρ' (11, 0) := c2
      have c4 : ρ' m1 < ρ' 9 + 0 := c4
      rw [v11] at c2
      rw [sub q13 wc.1 wc.2 c2 c1, q9] at c4
      exact ⟨-13, congrArg some (tk_cv h0 (-13)), hm', Or.inr (Or.inl ⟨rfl, heq hq, by omega, hM⟩)⟩
    · obtain ⟨c1, ⟨c2, c3⟩, c4, hq⟩ := hcs
      have c1 : ρ' (m2 : Int).toNat = sx_mf 1 (sx_val ρ' (E, 0)) (sx_val ρ' (11, 0)) := c1
      have c2 : 0 ≤ sx_val ρ' (11, 0) := c2
      have c4 : ρ' m2 < ρ' 10 + 0 := c4
      rw [v11] at c2
      rw [sub qE we.1 we.2 c2 c1, q10] at c4
      exact ⟨-13, congrArg some (tk_cv h0 (-13)), hm', Or.inr (Or.inl ⟨rfl, heq hq, by omega, hM⟩)⟩
    · obtain ⟨⟨n1, -⟩, ⟨i1, i2⟩, ⟨j1, j2⟩, c1, c2, c4, c5, hq⟩ := hcs
      have n1 : 0 ≤ sx_val ρ' (11, 0) := n1
      have i1 : 0 ≤ sx_val ρ' (9, 0) := i1
      have i2 : sx_val ρ' (9, 0) ≤ 60 := i2
      have j1 : 0 ≤ sx_val ρ' (10, 0) := j1
      have j2 : sx_val ρ' (10, 0) ≤ 60 := j2
      have c1 : ρ' (m1 : Int).toNat = sx_mf 1 (sx_val ρ' (13, 0)) (sx_val ρ' (11, 0)) := c1
      have c2 : ¬ ρ' m1 < ρ' 9 + 0 := c2
      have c4 : ρ' (m2 : Int).toNat = sx_mf 1 (sx_val ρ' (E, 0)) (sx_val ρ' (11, 0)) := c4
      have c5 : ¬ ρ' m2 < ρ' 10 + 0 := c5
      rw [v11] at n1
      rw [v9] at i1 i2
      rw [v10] at j1 j2
      rw [sub q13 wc.1 wc.2 n1 c1, q9] at c2
      rw [sub qE we.1 we.2 n1 c4, q10] at c5
      have hM : ∀ a, a < 128 → M' a = M a := hM
      have A : sn_A c e i j n := ⟨hc6, he6, ⟨i1, i2⟩, ⟨j1, j2⟩, ⟨n1, by omega⟩, by omega, by omega⟩
      show rz_fin _ L xs 268 4 113 (sx_cl1 ρ' (sn_l c e (0, 0))) [] M'
      rw [sn_cl h0 q9 q10 q11 (og_c h0 0)]
      refine sn_loop1 hL A n.toNat 0 M' (by omega) (by omega) hm' (fun N1 hm1 f1 g1 => ?_)
      refine sn_w2 (p := 150) (ka := (0, 0)) (y := 0) sn_c3 hL hm1 A A.2.2.2.2.1 (fun ρ h _ => og_c h 0) (fun N2 hm2 e2 => ?_)
      refine sn_loop2 hL A n.toNat 0 N2 (by omega) (by omega) hm2 (fun N3 hm3 f3 g3 => ?_)
      refine ⟨n, rfl, hm3, Or.inr (Or.inr ⟨rfl, heq hq, by omega, fun a ha x y => ?_, fun t => ?_⟩)⟩
      · rw [f3 a ha x, e2 a ha, f1 a ha y, hM a ha]
      · rw [g3 t, e2 90 (by decide), e2 89 (by decide), f1 89 (by decide) (by decide), hM 89 (by decide), Nat.add_zero]
        by_cases h : 60 * e + j.toNat ≤ t ∧ t < 60 * e + j.toNat + n.toNat
        · rw [if_pos h, if_pos h, g1, if_pos (by omega), hM 89 (by decide)]
        · rw [if_neg h, if_neg h]
def sn_sk (M : Nat → Nat → Int) (c k : Nat) : Prop := sx_w (sn_r k) (M 87 c)
theorem sn_fok1 (hm : sx_mok cl_ly M) (hc : c < 6) (hs : sn_sk M c kc) : ∀ g ∈ sn_f1 c kc, g.1 < 128 ∧ sx_w g.2.2 (M g.1 g.2.1) ∧ sx_w sx_r64 (M g.1 g.2.1) := fun g hg => by
  have h7 := sh_87 hm hc
  have h8 := sh_88 hm hc
  simp only [sn_f1, List.mem_cons, List.not_mem_nil, or_false] at hg
  rcases hg with rfl | rfl
  · exact ⟨by show 87 < 128; decide, hs, sx_32_64 (og_w32 (by show _ ≤ M 87 c; omega) (by show M 87 c ≤ _; omega))⟩
  · exact ⟨by show 88 < 128; decide, h8, sx_32_64 (og_w32 (by show _ ≤ M 88 c; omega) (by show M 88 c ≤ _; omega))⟩
theorem sn_fok (hm : sx_mok cl_ly M) (hc : c < 6) (he : e < 6) (hs : sn_sk M c kc) (hs2 : sn_sk M e ke) : ∀ g ∈ sn_f c e kc ke, g.1 < 128 ∧ sx_w g.2.2 (M g.1 g.2.1) ∧ sx_w sx_r64 (M g.1 g.2.1) := fun g hg => by
  unfold sn_f at hg
  split at hg
  · exact sn_fok1 hm hc hs g hg
  · rcases List.mem_append.mp hg with hg | hg
    · exact sn_fok1 hm hc hs g hg
    · exact sn_fok1 hm he hs2 g hg
theorem sn_x (hL : L < 2 ^ 31) (hm : sx_mok cl_ly M) (hc6 : c < 6) (he6 : e < 6) (hkc : kc < 3) (hke : ke < 3) (hce : c = e → kc = ke) (hs : sn_sk M c kc) (hs2 : sn_sk M e ke) (hi : sx_w sx_r32 i) (hj : sx_w sx_r32 j) (hn : sx_w sx_r32 n) : rz_fin (sh_Q (sn_X c e kc ke i j n M)) L xs 268 4 0 (sf_a 53 (c : Int) i (e : Int) j n) [] M := by
  obtain ⟨ρ, st, e1, e2, e3⟩ := og_sat (xs := xs) (gs := og_g3) (zs := [i, j, n]) (fs := sn_f c e kc ke) hL hm ⟨og_z rfl hi.1 hi.2 hi, og_z rfl hj.1 hj.2 hj, og_z rfl hn.1 hn.2 hn, trivial⟩ (sn_fok hm hc6 he6 hs hs2)
  have h0 : ρ 0 = 0 := st.2.1
  have r9 : ρ 9 = i := e2 0 _ rfl
  have r10 : ρ 10 = j := e2 1 _ rfl
  have r11 : ρ 11 = n := e2 2 _ rfl
  have n12 : (sn_t c e kc ke).1 = 12 + (sn_f c e kc ke).length := e1
  have okl : sx_okl ρ (sn_t c e kc ke).1 (sn_l5 c e) := fun q hq => by
    simp only [sn_l5, List.mem_cons, List.not_mem_nil, or_false] at hq
    rcases hq with rfl | rfl | rfl | rfl | rfl | rfl
    · exact sx_ck2 st _
    · exact sn_k0 (by rw [n12]; omega) h0 hc6
    · exact tk_ok0 (by rw [n12]; omega) (by rw [r9]; exact hi)
    · exact sn_k0 (by rw [n12]; omega) h0 he6
    · exact tk_ok0 (by rw [n12]; omega) (by rw [r10]; exact hj)
    · exact tk_ok0 (by rw [n12]; omega) (by rw [r11]; exact hn)
  have el : sx_cl1 ρ (sn_l5 c e) = sf_a 53 (c : Int) i (e : Int) j n := by
    show [(0, Value.ref 53), (1, sx_cv1 ρ (0, 0, (c : Int))), (2, sx_cv1 ρ (0, 9, 0)), (3, sx_cv1 ρ (0, 0, (e : Int))), (4, sx_cv1 ρ (0, 10, 0)), (5, sx_cv1 ρ (0, 11, 0))] = _
    rw [tk_cv h0 (c : Int), tk_cv h0 (e : Int), og_int r9, og_int r10, og_int r11]
    rfl
  have nd : sf_all (fun c e kc ke => (sn_Tx c e kc ke).all fun T => mt_nd (T.2.2.2.1.map fun q => q.1)) = true := by decide +kernel
  refine og_use (Ts := sn_Tx c e kc ke) (lv := sn_l5 c e) (s := []) (sf_all_ok sn_cx hc6 he6 hkc hke hce) (sf_all_ok nd hc6 he6 hkc hke hce) st okl (fun v hv => by cases hv) (Nat.le_refl _) el rfl (fun T hT ρ' M' x h0 hm' hc hM => ?_)
  have x : sx_ext (12 + (sn_f c e kc ke).length) ρ ρ' := by rw [← n12]; exact x
  have q9 := og_v x (show 9 < 12 + (sn_f c e kc ke).length by omega) r9
  have q10 := og_v x (show 10 < 12 + (sn_f c e kc ke).length by omega) r10
  have q11 := og_v x (show 11 < 12 + (sn_f c e kc ke).length by omega) r11
  unfold sn_Tx at hT
  by_cases h1 : kc = 0 ∨ ke = 0
  · rw [if_pos h1] at hT
    rw [List.mem_singleton.mp hT] at hM ⊢
    refine ⟨-11, congrArg some (tk_cv h0 (-11)), hm', ?_⟩
    unfold sn_X
    rw [if_pos h1]
    exact ⟨rfl, hM⟩
  rw [if_neg h1] at hT
  by_cases h2 : kc = 1 ∨ ke = 1
  · rw [if_pos h2] at hT
    rw [List.mem_singleton.mp hT] at hM ⊢
    refine ⟨-12, congrArg some (tk_cv h0 (-12)), hm', ?_⟩
    unfold sn_X
    rw [if_neg h1, if_pos h2]
    exact ⟨rfl, hM⟩
  rw [if_neg h2] at hT
  have eX : sn_X c e kc ke i j n M = sn_R c e i j n M := by
    funext z M'
    unfold sn_X
    rw [if_neg h1, if_neg h2]
  rw [eX]
  by_cases h3 : c = e
  · rw [if_pos h3] at hT
    have ef : sn_f c e kc ke = sn_f1 c kc := if_pos h3
    rw [ef] at e3 x
    have q13 : ρ' 13 = M 88 c := og_v x (show 13 < 12 + 2 by decide) (e3 1 (88, c, (0, 60)) rfl)
    exact sn_Tok hL hm hc6 he6 hT h0 hm' q9 q10 q11 q13 (by rw [← h3]; exact q13) hn (fun _ => by rw [h3]) (fun h => absurd h3 h) hc hM
  · rw [if_neg h3] at hT
    have ef : sn_f c e kc ke = sn_f1 c kc ++ sn_f1 e ke := if_neg h3
    rw [ef] at e3 x
    have q12 : ρ' 12 = M 87 c := og_v x (show 12 < 12 + 4 by decide) (e3 0 (87, c, sn_r kc) rfl)
    have q13 : ρ' 13 = M 88 c := og_v x (show 13 < 12 + 4 by decide) (e3 1 (88, c, (0, 60)) rfl)
    have q14 : ρ' 14 = M 87 e := og_v x (show 14 < 12 + 4 by decide) (e3 2 (87, e, sn_r ke) rfl)
    have q15 : ρ' 15 = M 88 e := og_v x (show 15 < 12 + 4 by decide) (e3 3 (88, e, (0, 60)) rfl)
    refine sn_Tok hL hm hc6 he6 hT h0 hm' q9 q10 q11 q13 q15 hn (fun h => ?_) (fun _ h => ?_) hc hM
    · have h : ρ' 12 = ρ' 14 + 0 := h.1
      rw [q12, q14, Int.add_zero] at h
      exact h
    · have h : ¬ ρ' 12 = ρ' 14 + 0 := h.1
      rw [q12, q14, Int.add_zero] at h
      exact h
end
section
variable {WF : (Nat → Nat → Int) → Prop} {L : Nat} {xs : Nat → Int32} {M M' M0 M1 M2 N : Nat → Nat → Int} {ρ ρ' : Nat → Int} {s i o j n : Int} {c e kc ke : Nat} {cps : List la_P}
-- no shelf
def so_g (r q : Int × Int) : List ct_Q := [(0, r), (0, sx_r32), (0, q), (0, sx_r32), (0, sx_r32)]
noncomputable def so_t (r q : Int × Int) : sx_S := og_t (so_g r q) []
def so_R : List ((Int × Int) × (Int × Int)) := [((og_mn, -1), sx_r32), ((6, og_mx), sx_r32), ((0, 5), (og_mn, -1)), ((0, 5), (6, og_mx))]
theorem so_cx : (so_R.all fun q => gs_chk (fun _ => false) (fun o => [og_r (-1) []].any (og_chk (so_t q.1 q.2) o)) 300 300 4 147 0 (sf_l 8) [] (so_t q.1 q.2)) = true := by decide +kernel
theorem so_cm : (so_R.all fun q => gs_chk (fun _ => false) (fun o => [og_r (-1) []].any (og_chk (so_t q.1 q.2) o)) 300 300 4 268 0 (sf_l 53) [] (so_t q.1 q.2)) = true := by decide +kernel
theorem so_o {k a : Nat} {p : Int} {r q : Int × Int} (ea : p.toNat = a) (hchk : gs_chk (fun _ => false) (fun o => [og_r (-1) []].any (og_chk (so_t r q) o)) 300 300 4 k 0 (sf_l p) [] (so_t r q) = true) (hL : L < 2 ^ 31) (hm : sx_mok cl_ly M) (hr : sx_w r s) (hq : sx_w q o) (hs : sx_w sx_r32 s) (hi : sx_w sx_r32 i) (ho : sx_w sx_r32 o) (hj : sx_w sx_r32 j) (hn : sx_w sx_r32 n) : rz_fin (sh_Q (fun z M' => z = -1 ∧ ∀ a, a < 128 → M' a = M a)) L xs k 4 0 (sf_a a s i o j n) [] M := by
  obtain ⟨ρ, st, e1, e2, -⟩ := og_sat (xs := xs) (gs := so_g r q) (zs := [s, i, o, j, n]) (fs := []) hL hm ⟨og_z rfl hr.1 hr.2 hs, og_z rfl hi.1 hi.2 hi, og_z rfl hq.1 hq.2 ho, og_z rfl hj.1 hj.2 hj, og_z rfl hn.1 hn.2 hn, trivial⟩ (fun g hg => by cases hg)
  have n14 : (so_t r q).1 = 14 := e1
  obtain ⟨okl, el⟩ := sf_lok (m := (so_t r q).1) (a := a) (c := p) (fun c => sx_ck2 st c) (by rw [n14]; decide) ea (e2 0 _ rfl) (e2 1 _ rfl) (e2 2 _ rfl) (e2 3 _ rfl) (e2 4 _ rfl) hs hi ho hj hn
  refine og_use (Ts := [og_r (-1) []]) (lv := sf_l p) (s := []) hchk rfl st okl (fun v hv => by cases hv) (Nat.le_refl _) el rfl (fun T hT ρ' M' x h0 hm' hc hM => ?_)
  rw [List.mem_singleton.mp hT] at hM ⊢
  exact ⟨-1, congrArg some (tk_cv h0 (-1)), hm', rfl, hM⟩
def so_kd (h : Int) : Nat := if h = -1 then 0 else if 0 ≤ h then 1 else 2
theorem so_lt {h : Int} : so_kd h < 3 := by
  unfold so_kd
  split
  · decide
  · split <;> decide
theorem so_st (hc : c < 6) (hS : sh_S M c) : sf_st M c (so_kd (M 87 c)) ∧ sn_sk M c (so_kd (M 87 c)) := by
  unfold sh_S at hS
  unfold sf_st sn_sk so_kd
  rcases hS with ⟨a, b, d⟩ | ⟨a, b, d, f⟩ | ⟨a, b, d, f, -⟩
  · rw [if_pos a, a, b, d]
    exact ⟨⟨⟨by decide, by decide⟩, by decide, by decide⟩, by decide, by decide⟩
  · rw [if_neg (by omega), if_pos a, d, f]
    exact ⟨⟨⟨by decide, by decide⟩, a, b⟩, a, b⟩
  · rw [if_neg (by omega), if_neg (by omega), d, f]
    refine ⟨⟨⟨?_, ?_⟩, by decide, by decide⟩, a, b⟩
    · show 0 ≤ -2 - M 87 c; omega
    · show -2 - M 87 c ≤ 4; omega
theorem so_row (hS : sh_S M c) (h : M 87 c ≤ -2) : M (41 + 2 * c) 2 = -2 - M 87 c ∧ M (41 + 2 * c) 3 = -1 ∧ M (41 + 2 * c) 1 = M 88 c ∧ ∀ i : Nat, (i : Int) < M 88 c → M (42 + 2 * c) i = M 89 (60 * c + i) := by
  unfold sh_S at hS
  rcases hS with ⟨a, b, d⟩ | ⟨a, b, d, f⟩ | ⟨a, b, d, f, g, h⟩
  · omega
  · omega
  · exact ⟨d, f, g, h⟩
theorem so_k2 {h : Int} (h0 : ¬ so_kd h = 0) (h1 : ¬ so_kd h = 1) : ¬ (h = -1) ∧ h < 0 := by
  unfold so_kd at h0 h1
  split at h0
  · exact absurd rfl h0
  · rename_i a
    rw [if_neg a] at h1
    refine ⟨a, ?_⟩
    split at h1
    · exact absurd rfl h1
    · omega
theorem sf_hp (hz : sh_G WF) (hcp : sh_cp cps = true) (hL : L < 2 ^ 31) (hI : la_I WF cps M) (hS : sh_SS M) (hs : sx_w sx_r32 s) (hi : sx_w sx_r32 i) (ho : sx_w sx_r32 o) (hj : sx_w sx_r32 j) (hn : sx_w sx_r32 n) : sh_P WF L xs cps 147 268 [.ref 8, .int (Int32.ofInt s), .int (Int32.ofInt i), .int (Int32.ofInt o), .int (Int32.ofInt j), .int (Int32.ofInt n)] [.ref 53, .int (Int32.ofInt s), .int (Int32.ofInt i), .int (Int32.ofInt o), .int (Int32.ofInt j), .int (Int32.ofInt n)] (-13, 2147483647) M := by
  have hs' := sx_r32_iff.mp hs
  have ho' := sx_r32_iff.mp ho
  have hn' := sx_r32_iff.mp hn
  have w : ∀ k : Int, -13 ≤ k → k ≤ 2147483647 → sx_w (-13, 2147483647) k ∧ sx_w sx_r32 k := fun k h1 h2 => ⟨⟨h1, h2⟩, og_w32 (by omega) (by omega)⟩
  have neg : ∀ {r q : Int × Int}, (r, q) ∈ so_R → sx_w r s → sx_w q o → sh_P WF L xs cps 147 268 [.ref 8, .int (Int32.ofInt s), .int (Int32.ofInt i), .int (Int32.ofInt o), .int (Int32.ofInt j), .int (Int32.ofInt n)] [.ref 53, .int (Int32.ofInt s), .int (Int32.ofInt i), .int (Int32.ofInt o), .int (Int32.ofInt j), .int (Int32.ofInt n)] (-13, 2147483647) M := fun {r q} hm hr hq => by
    obtain ⟨z, M1, a1, a2, rfl, a3⟩ := lb_of (k := 147) (vs := [.ref 8, .int (Int32.ofInt s), .int (Int32.ofInt i), .int (Int32.ofInt o), .int (Int32.ofInt j), .int (Int32.ofInt n)]) (show 4 ≤ 99 by decide) (so_o (xs := xs) (a := 8) rfl (List.all_eq_true.mp so_cx _ hm) hL hI.1 hr hq hs hi ho hj hn)
    obtain ⟨y, M2, b1, b2, rfl, b3⟩ := lb_of (k := 268) (vs := [.ref 53, .int (Int32.ofInt s), .int (Int32.ofInt i), .int (Int32.ofInt o), .int (Int32.ofInt j), .int (Int32.ofInt n)]) (show 4 ≤ 99 by decide) (so_o (xs := xs) (a := 53) rfl (List.all_eq_true.mp so_cm _ hm) hL a2 hr hq hs hi ho hj hn)
    exact sh_P0 hz hcp hI hS (w _ (by decide) (by decide)).1 (w _ (by decide) (by decide)).2 a1 a2 a3 b1 b2 b3
  by_cases h1 : s < 0
  · exact neg (r := (og_mn, -1)) (q := sx_r32) (by simp [so_R]) ⟨hs'.1, by show s ≤ -1; omega⟩ ho
  by_cases h2 : 5 < s
  · exact neg (r := (6, og_mx)) (q := sx_r32) (by simp [so_R]) ⟨by show 6 ≤ s; omega, by show s ≤ 2147483647; omega⟩ ho
  by_cases h3 : o < 0
  · exact neg (r := (0, 5)) (q := (og_mn, -1)) (by simp [so_R]) ⟨by show 0 ≤ s; omega, by show s ≤ 5; omega⟩ ⟨ho'.1, by show o ≤ -1; omega⟩
  by_cases h4 : 5 < o
  · exact neg (r := (0, 5)) (q := (6, og_mx)) (by simp [so_R]) ⟨by show 0 ≤ s; omega, by show s ≤ 5; omega⟩ ⟨by show 6 ≤ o; omega, by show o ≤ 2147483647; omega⟩
  obtain ⟨c, rfl⟩ := Int.eq_ofNat_of_zero_le (show 0 ≤ s by omega)
  obtain ⟨e, rfl⟩ := Int.eq_ofNat_of_zero_le (show 0 ≤ o by omega)
  have hc6 : c < 6 := by omega
  have he6 : e < 6 := by omega
  obtain ⟨sc1, sc2⟩ := so_st hc6 (hS c hc6)
  obtain ⟨se1, se2⟩ := so_st he6 (hS e he6)
  have hce : c = e → so_kd (M 87 c) = so_kd (M 87 e) := fun h => by rw [h]
  obtain ⟨z, M1, a1, a2, a3⟩ := lb_of (k := 147) (vs := [.ref 8, .int (Int32.ofInt (c : Int)), .int (Int32.ofInt i), .int (Int32.ofInt (e : Int)), .int (Int32.ofInt j), .int (Int32.ofInt n)]) (show 4 ≤ 99 by decide) (sf_x (xs := xs) hL hI.1 hc6 he6 so_lt so_lt hce sc1 se1 hi hj hn)
  -- the class changes elements of the other shelf alone
  have f1 : ∀ a, a < 128 → a ≠ 42 + 2 * e → M1 a = M a := by
    unfold sf_X at a3
    split at a3
    · exact fun a ha _ => a3.2 a ha
    · split at a3
      · exact fun a ha _ => a3.2 a ha
      · rcases a3 with ⟨-, -, h⟩ | ⟨-, -, -, h⟩ | ⟨-, -, -, h⟩
        · exact fun a ha _ => h a ha
        · exact fun a ha _ => h a ha
        · exact fun a ha ne => by rw [h a ha, if_neg ne]
  have e87 : M1 87 = M 87 := f1 87 (by decide) (by omega)
  have e88 : M1 88 = M 88 := f1 88 (by decide) (by omega)
  have e89 : M1 89 = M 89 := f1 89 (by decide) (by omega)
  obtain ⟨y, M2, b1, b2, b3⟩ := lb_of (k := 268) (vs := [.ref 53, .int (Int32.ofInt (c : Int)), .int (Int32.ofInt i), .int (Int32.ofInt (e : Int)), .int (Int32.ofInt j), .int (Int32.ofInt n)]) (show 4 ≤ 99 by decide) (sn_x (xs := xs) (kc := so_kd (M 87 c)) (ke := so_kd (M 87 e)) hL a2 hc6 he6 so_lt so_lt hce (by unfold sn_sk; rw [e87]; exact sc2) (by unfold sn_sk; rw [e87]; exact se2) hi hj hn)
  unfold sf_X at a3
  unfold sn_X at b3
  by_cases g1 : so_kd (M 87 c) = 0 ∨ so_kd (M 87 e) = 0
  · rw [if_pos g1] at a3 b3
    obtain ⟨rfl, x1⟩ := a3
    obtain ⟨rfl, y1⟩ := b3
    exact sh_P0 hz hcp hI hS (w _ (by decide) (by decide)).1 (w _ (by decide) (by decide)).2 a1 a2 x1 b1 b2 y1
  rw [if_neg g1] at a3 b3
  by_cases g2 : so_kd (M 87 c) = 1 ∨ so_kd (M 87 e) = 1
  · rw [if_pos g2] at a3 b3
    obtain ⟨rfl, x1⟩ := a3
    obtain ⟨rfl, y1⟩ := b3
    exact sh_P0 hz hcp hI hS (w _ (by decide) (by decide)).1 (w _ (by decide) (by decide)).2 a1 a2 x1 b1 b2 y1
  rw [if_neg g2] at a3 b3
  have kc2 := so_k2 (fun h => g1 (Or.inl h)) (fun h => g2 (Or.inl h))
  have ke2 := so_k2 (fun h => g1 (Or.inr h)) (fun h => g2 (Or.inr h))
  obtain ⟨p1, p2, p3, p4⟩ := so_row (hS c hc6) (by omega)
  obtain ⟨q1, q2, q3, q4⟩ := so_row (hS e he6) (by omega)
  unfold sf_R at a3
  unfold sn_R at b3
  rw [e87, e88, e89] at b3
  rw [p1, p3, q1, q3] at a3
  have w88 := sh_88 hI.1 hc6
  have v88 := sh_88 hI.1 he6
  rcases a3 with ⟨rfl, x1, x2⟩ | ⟨rfl, x1, x2, x3⟩ | ⟨ez, x1, x2, x3⟩
  · rcases b3 with ⟨rfl, y1, y2⟩ | ⟨rfl, y1, y2, y3⟩ | ⟨ey, y1, y2, y3, y4⟩
    · exact sh_P0 hz hcp hI hS (w _ (by decide) (by decide)).1 (w _ (by decide) (by decide)).2 a1 a2 x2 b1 b2 y2
    · omega
    · omega
  · rcases b3 with ⟨rfl, y1, y2⟩ | ⟨rfl, y1, y2, y3⟩ | ⟨ey, y1, y2, y3, y4⟩
    · omega
    · exact sh_P0 hz hcp hI hS (w _ (by decide) (by decide)).1 (w _ (by decide) (by decide)).2 a1 a2 x3 b1 b2 y3
    · exact absurd x2 y2
  · have ez := ez.symm
    subst ez
    rcases b3 with ⟨rfl, y1, y2⟩ | ⟨rfl, y1, y2, y3⟩ | ⟨ey, y1, y2, y3, y4⟩
    · omega
    · exact absurd y2 x2
    · have ey := ey.symm
      subst ey
      have nb : 0 ≤ n ∧ 0 ≤ i ∧ 0 ≤ j ∧ i + n ≤ M 88 c ∧ j + n ≤ M 88 e := by unfold sf_bad at x2; omega
      refine ⟨n, M1, M2, (w n (by omega) hn'.2).1, Or.inl ⟨rfl, hn⟩, a1, a2, b1, b2, sh_I hz hcp hI ⟨b2, fun a ha x y => by rw [y3 a ha (by omega) (by omega), f1 a ha (by omega)]⟩, fun k hk => ?_⟩
      have g87 : M2 87 = M 87 := by rw [y3 87 (by decide) (by decide) (by decide), e87]
      have g88 : M2 88 = M 88 := by rw [y3 88 (by decide) (by decide) (by decide), e88]
      have gf : M2 (41 + 2 * k) = M (41 + 2 * k) := by rw [y3 _ (by omega) (by omega) (by omega), f1 _ (by omega) (by omega)]
      by_cases ek : k = e
      · subst ek
        refine Or.inr (Or.inr ?_)
        have h87 := sh_87 hI.1 he6
        rw [g87, g88, gf]
        refine ⟨h87.1, by omega, q1, q2, q3, fun t ht => ?_⟩
        rw [y3 _ (by omega) (by omega) (by omega), x3 _ (by omega), if_pos rfl, y4]
        unfold va_cpy
        by_cases hr : j.toNat ≤ t ∧ t < j.toNat + n.toNat
        · rw [if_pos hr, if_pos (by omega), p4 _ (by omega)]
          congr 1
          omega
        · rw [if_neg hr, if_neg (by omega)]
          exact q4 t ht
      · refine sh_S_on (hS k hk) (by rw [g87]) (by rw [g88]) (fun t ht => ?_) gf (by rw [y3 _ (by omega) (by omega) (by omega), f1 _ (by omega) (by omega)]) (sh_88 hI.1 hk).2
        rw [y4, if_neg (by omega)]
end
