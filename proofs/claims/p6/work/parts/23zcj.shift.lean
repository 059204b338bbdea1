/-! Shelves: shift of the class, told by what it does. -/
section
variable {WF : (Nat → Nat → Int) → Prop} {L : Nat} {xs : Nat → Int32} {M M' M0 M1 M2 N : Nat → Nat → Int} {ρ ρ' : Nat → Int} {t : sx_S} {Q : Option Value → (Nat → Nat → Int) → Prop} {s i o j n : Int} {c e kc ke : Nat} {cps : List la_P}
/-- System.arraycopy of longs -/
theorem rz_cpL {j d pc ix a0 a u1 u2 : Nat} {u3 : Int} {lv : sm_V} {p q m : Int} {g h9 : sx_H} (hf : (sm_MT j).2.2.2.2.2 pc = some (.invokestatic ix, 3)) (hlk : sm_LK (sm_MT j).1 ix = some (12, u1, u2, u3)) (eg : sx_arr cl_ly a0 1 = some g) (eh : sx_arr cl_ly a 1 = some h9) (hp : 0 ≤ p ∧ p ≤ 1000) (hq : 0 ≤ q ∧ q ≤ 1000) (hm : 0 ≤ m ∧ m ≤ 1000) (h1 : p + m ≤ g.2.2.1) (h2 : q + m ≤ h9.2.2.1) (hd : 1 ≤ d) (k : rz_fin Q L xs j d (pc + 3) lv [] (fun k => if k = a then va_cpy (M a0) (M a) p.toNat q.toNat m.toNat else M k)) : rz_fin Q L xs j d pc lv [.int (Int32.ofInt m), .int (Int32.ofInt q), .ref a, .int (Int32.ofInt p), .ref a0] M := by
  obtain ⟨F, r, M', e, e1⟩ := k
  have p32 : sx_w sx_r32 p := og_w32 (by omega) (by omega)
  have q32 : sx_w sx_r32 q := og_w32 (by omega) (by omega)
  have m32 : sx_w sx_r32 m := og_w32 (by omega) (by omega)
  have nn : ∀ {z : Int}, sx_w sx_r32 z → 0 ≤ z → ¬ Int32.ofInt z < 0 := fun w hz hlt => by
    have := (sx_lt32 w sx_w0).mp hlt
    omega
  have tn : ∀ {z : Int}, sx_w sx_r32 z → (Int32.ofInt z).toNatClampNeg = z.toNat := fun w => by rw [← Int32.toNat_toInt, sx_i32 w]
  obtain ⟨k1, k2, k3⟩ := sx_arr_ok eh
  obtain ⟨j1, j2, j3⟩ := sx_arr_ok eg
  have hI : sm_cpI (sx_HH cl_lay cl_rf M) a0 a (Int32.ofInt p) (Int32.ofInt q) (Int32.ofInt m) = none := by
    have : sm_ints [] (sx_HH cl_lay cl_rf M) a0 0 = none := by
      unfold sm_ints
      rw [if_neg (sx_nl8 cl_lok j1), sx_HH_at cl_lok j1, sx_hc_longs j2 j3]
    unfold sm_cpI
    rw [this]
  have hJ : sm_cpL (sx_HH cl_lay cl_rf M) a0 a (Int32.ofInt p) (Int32.ofInt q) (Int32.ofInt m) = some (sx_HH cl_lay cl_rf (fun k => if k = a then va_cpy (M a0) (M a) p.toNat q.toNat m.toNat else M k)) := by
    unfold sm_cpL
    rw [sx_longs_at cl_lok eg, sx_longs_at cl_lok eh]
    show (if _ ∧ _ then _ else none) = _
    rw [tn p32, tn q32, tn m32, if_pos ⟨by omega, by omega⟩, sx_cpy_long]
    rw [← sx_HH_set cl_lok k1, sx_hc_longs k2 k3]
  generalize (fun k => if k = a then va_cpy (M a0) (M a) p.toNat q.toNat m.toNat else M k) = N at hJ e
  have k1 := gs_st (L := L) (xs := xs) (j := j) (d := d) (pc := pc) (len := 3) (F := F) (ins := .invokestatic ix) (lv := lv) (s := [.int (Int32.ofInt m), .int (Int32.ofInt q), .ref a, .int (Int32.ofInt p), .ref a0]) (h := sx_HH cl_lay cl_rf M) (o := (pc + 3, lv, [], sx_HH cl_lay cl_rf N)) (res := (r, sx_HH cl_lay cl_rf M'))
  have k2 := k1 hf rfl
  have k3 := k2 rfl
  have k4 := k3 (by
    dsimp only [sm_call]
    rw [hlk]
    rfl)
  have k5 := k4 (by
    dsimp only [sm_step]
    rw [hlk]
    show (if 1 ≤ d ∧ sm_sum [] ≤ 8 ∧ ¬ Int32.ofInt p < 0 ∧ ¬ Int32.ofInt q < 0 ∧ ¬ Int32.ofInt m < 0 then _ else none) = _
    rw [if_pos ⟨hd, Nat.zero_le _, nn p32 hp.1, nn q32 hq.1, nn m32 hm.1⟩, hI, hJ])
  dsimp only at k5
  exact ⟨F + 1, r, M', k5 e, e1⟩
def sf_st (M : Nat → Nat → Int) (c k : Nat) : Prop := sx_w (sf_rs k) (M (41 + 2 * c) 2) ∧ sx_w (sf_rh k) (M (41 + 2 * c) 3)
theorem sf_fok1 (hm : sx_mok cl_ly M) (hc : c < 6) (hs : sf_st M c kc) : ∀ g ∈ sf_f1 c kc, g.1 < 128 ∧ sx_w g.2.2 (M g.1 g.2.1) ∧ sx_w sx_r64 (M g.1 g.2.1) := fun g hg => by
  have h := sh_fok hm hc
  simp only [sf_f1, List.mem_cons, List.not_mem_nil, or_false] at hg
  rcases hg with rfl | rfl | rfl
  · exact h (41 + 2 * c, 1, (0, 60)) (by simp [op_f])
  · have := h (41 + 2 * c, 2, (-1, 4)) (by simp [op_f])
    exact ⟨this.1, hs.1, this.2.2⟩
  · have := h (41 + 2 * c, 3, (-1, 49)) (by simp [op_f])
    exact ⟨this.1, hs.2, this.2.2⟩
theorem sf_fok (hm : sx_mok cl_ly M) (hc : c < 6) (he : e < 6) (hs : sf_st M c kc) (hs2 : sf_st M e ke) : ∀ g ∈ sf_f c e kc ke, g.1 < 128 ∧ sx_w g.2.2 (M g.1 g.2.1) ∧ sx_w sx_r64 (M g.1 g.2.1) := fun g hg => by
  unfold sf_f at hg
  split at hg
  · exact sf_fok1 hm hc hs g hg
  · rcases List.mem_append.mp hg with hg | hg
    · exact sf_fok1 hm hc hs g hg
    · exact sf_fok1 hm he hs2 g hg
def sf_a (a : Nat) (s i o j n : Int) : sm_V := [(0, .ref a), (1, .int (Int32.ofInt s)), (2, .int (Int32.ofInt i)), (3, .int (Int32.ofInt o)), (4, .int (Int32.ofInt j)), (5, .int (Int32.ofInt n))]
theorem sf_lok {m a : Nat} {c : Int} (hc : ∀ c, sx_ok ρ m (2, 0, c)) (h : 13 < m) (ea : c.toNat = a) (r9 : ρ 9 = s) (r10 : ρ 10 = i) (r11 : ρ 11 = o) (r12 : ρ 12 = j) (r13 : ρ 13 = n) (hs : sx_w sx_r32 s) (hi : sx_w sx_r32 i) (ho : sx_w sx_r32 o) (hj : sx_w sx_r32 j) (hn : sx_w sx_r32 n) : sx_okl ρ m (sf_l c) ∧ sx_cl1 ρ (sf_l c) = sf_a a s i o j n := by
  refine ⟨fun q hq => ?_, ?_⟩
  · simp only [sf_l, List.mem_cons, List.not_mem_nil, or_false] at hq
    rcases hq with rfl | rfl | rfl | rfl | rfl | rfl
    · exact hc _
    · exact tk_ok0 (by omega) (by rw [r9]; exact hs)
    · exact tk_ok0 (by omega) (by rw [r10]; exact hi)
    · exact tk_ok0 (by omega) (by rw [r11]; exact ho)
    · exact tk_ok0 (by omega) (by rw [r12]; exact hj)
    · exact tk_ok0 h (by rw [r13]; exact hn)
  · show [(0, sx_cv1 ρ (2, 0, c)), (1, sx_cv1 ρ (0, 9, 0)), (2, sx_cv1 ρ (0, 10, 0)), (3, sx_cv1 ρ (0, 11, 0)), (4, sx_cv1 ρ (0, 12, 0)), (5, sx_cv1 ρ (0, 13, 0))] = _
    rw [og_int r9, og_int r10, og_int r11, og_int r12, og_int r13]
    show [(0, Value.ref c.toNat), _, _, _, _, _] = _
    rw [ea]
    rfl
def sf_bad (lc le i j n : Int) : Prop := n < 0 ∨ i < 0 ∨ j < 0 ∨ lc < i + n ∨ le < j + n
/-- both are rows -/
def sf_R (c e : Nat) (i j n : Int) (M : Nat → Nat → Int) (z : Int) (M' : Nat → Nat → Int) : Prop := (z = -12 ∧ M (41 + 2 * c) 2 ≠ M (41 + 2 * e) 2 ∧ ∀ a, a < 128 → M' a = M a) ∨ (z = -13 ∧ M (41 + 2 * c) 2 = M (41 + 2 * e) 2 ∧ sf_bad (M (41 + 2 * c) 1) (M (41 + 2 * e) 1) i j n ∧ ∀ a, a < 128 → M' a = M a) ∨ (z = n ∧ M (41 + 2 * c) 2 = M (41 + 2 * e) 2 ∧ ¬ sf_bad (M (41 + 2 * c) 1) (M (41 + 2 * e) 1) i j n ∧ ∀ a, a < 128 → M' a = if a = 42 + 2 * e then va_cpy (M (42 + 2 * c)) (M (42 + 2 * e)) i.toNat j.toNat n.toNat else M a)
def sf_X (c e kc ke : Nat) (i j n : Int) (M : Nat → Nat → Int) (z : Int) (M' : Nat → Nat → Int) : Prop := if kc = 0 ∨ ke = 0 then z = -11 ∧ ∀ a, a < 128 → M' a = M a else if kc = 1 ∨ ke = 1 then z = -12 ∧ ∀ a, a < 128 → M' a = M a else sf_R c e i j n M z M'
theorem sf_f124 : (sm_MT 147).2.2.2.2.2 124 = some (.invokestatic 386, 3) := rfl
theorem sf_lk : sm_LK (sm_MT 147).1 386 = some (12, 0, 0, 0) := rfl
theorem sf_arr : ∀ {c : Nat}, c < 6 → ∃ h, sx_arr cl_ly (42 + 2 * c) 1 = some h ∧ h.2.2.1 = 60
  | 0, _ => ⟨_, rfl, rfl⟩
  | 1, _ => ⟨_, rfl, rfl⟩
  | 2, _ => ⟨_, rfl, rfl⟩
  | 3, _ => ⟨_, rfl, rfl⟩
  | 4, _ => ⟨_, rfl, rfl⟩
  | 5, _ => ⟨_, rfl, rfl⟩
  | _ + 6, h => absurd h (by omega)
noncomputable def sf_t0 : sx_S := og_t [(0, sx_r32)] []
theorem sf_c2 : gs_chk (fun _ => false) (fun o => [((none, some (0, 9, 0), [], [], [], []) : og_T)].any (og_chk sf_t0 o)) 300 300 1 147 127 [(5, 0, 9, 0)] [] sf_t0 = true := by decide +kernel
theorem sf_end (hL : L < 2 ^ 31) (hm : sx_mok cl_ly M) (hn : sx_w sx_r32 n) (k : ∀ M', sx_mok cl_ly M' → (∀ a, a < 128 → M' a = M a) → Q (some (.int (Int32.ofInt n))) M') : rz_fin Q L xs 147 1 127 [(5, .int (Int32.ofInt n))] [] M := by
  obtain ⟨ρ, st, e1, e2, -⟩ := og_sat (xs := xs) (gs := [(0, sx_r32)]) (zs := [n]) (fs := []) hL hm ⟨og_z rfl hn.1 hn.2 hn, trivial⟩ (fun g hg => by cases hg)
  have n10 : sf_t0.1 = 10 := e1
  have r9 : ρ 9 = n := e2 0 _ rfl
  refine og_use (Ts := [((none, some (0, 9, 0), [], [], [], []) : og_T)]) (lv := [(5, 0, 9, 0)]) (s := []) sf_c2 rfl st (fun q hq => ?_) (fun v hv => by cases hv) (Nat.le_refl _) ?_ rfl (fun T hT ρ' M' x h0 hm' hc hM => ?_)
  · rw [List.mem_singleton.mp hq]
    exact tk_ok0 (by show 9 < sf_t0.1; rw [n10]; decide) (by rw [r9]; exact hn)
  · show [(5, sx_cv1 ρ (0, 9, 0))] = _
    rw [og_int r9]
  · rw [List.mem_singleton.mp hT] at hM ⊢
    rw [n10] at x
    show Q (some (sx_cv1 ρ' (0, 9, 0))) M'
    rw [og_int (og_v x (show 9 < 10 by decide) r9)]
    exact k M' hm' hM
theorem sf_mok (hm : sx_mok cl_ly M) (hc : c < 6) (he : e < 6) {p q m : Nat} (h : p + m ≤ 60) : sx_mok cl_ly (fun k => if k = 42 + 2 * e then va_cpy (M (42 + 2 * c)) (M (42 + 2 * e)) p q m else M k) := by
  intro k hh x r a b f
  show sx_w r ((if k = 42 + 2 * e then va_cpy (M (42 + 2 * c)) (M (42 + 2 * e)) p q m else M k) x)
  by_cases ek : k = 42 + 2 * e
  · rw [if_pos ek]
    unfold va_cpy
    split
    · have w := sh_el hm hc (j := p + (x - q)) (by omega)
      have er : r = sx_r64 := by
        subst ek
        have : e = 0 ∨ e = 1 ∨ e = 2 ∨ e = 3 ∨ e = 4 ∨ e = 5 := by omega
        rcases this with rfl | rfl | rfl | rfl | rfl | rfl <;> (cases a; cases f; rfl)
      rw [er]
      exact w
    · rw [← ek]
      exact hm k hh x r a b f
  · rw [if_neg ek]
    exact hm k hh x r a b f
/-- the ways where both are rows -/
theorem sf_Tok {E m1 m2 : Nat} {eq ne : List og_D} {T : og_T} (hL : L < 2 ^ 31) (hm : sx_mok cl_ly M) (hc6 : c < 6) (he6 : e < 6) (hT : T ∈ sf_T c e E m1 m2 eq ne) (h0 : ρ' 0 = 0) (hm' : sx_mok cl_ly M') (q10 : ρ' 10 = i) (q12 : ρ' 12 = j) (q13 : ρ' 13 = n) (q14 : ρ' 14 = M (41 + 2 * c) 1) (qE : ρ' E = M (41 + 2 * e) 1) (w14 : 0 ≤ M (41 + 2 * c) 1 ∧ M (41 + 2 * c) 1 ≤ 60) (wE : 0 ≤ M (41 + 2 * e) 1 ∧ M (41 + 2 * e) 1 ≤ 60) (hn : sx_w sx_r32 n) (heq : og_cs ρ' M' eq → M (41 + 2 * c) 2 = M (41 + 2 * e) 2) (hne : ¬ c = e → og_cs ρ' M' ne → M (41 + 2 * c) 2 ≠ M (41 + 2 * e) 2) (hcs : og_cs ρ' M' T.2.2.2.2.2) (hM : ∀ a, a < 128 → M' a = og_up ρ' T.2.2.2.2.1 M a) : og_K (sh_Q (sf_R c e i j n M)) L xs 147 4 T ρ' M' := by
  have v10 : sx_val ρ' (10, 0) = i := og_v0 q10
  have v12 : sx_val ρ' (12, 0) = j := og_v0 q12
  have v13 : sx_val ρ' (13, 0) = n := og_v0 q13
  have sub : ∀ {A m : Nat} {l : Int}, ρ' A = l → 0 ≤ l → l ≤ 60 → 0 ≤ n → n ≤ 60 → ρ' (m : Int).toNat = sx_mf 1 (sx_val ρ' (A, 0)) (sx_val ρ' (13, 0)) → ρ' m = l - n := fun {A m l} hA h1 h2 h3 h4 h => by
    rw [og_v0 hA, v13, og_sub (og_w32 (by omega) (by omega)), Int.toNat_natCast] at h
    exact h
  rcases List.mem_append.mp hT with hT | hT
  · by_cases hce : c = e
    · rw [if_pos hce] at hT; cases hT
    · rw [if_neg hce] at hT
      rw [List.mem_singleton.mp hT] at hcs hM ⊢
      exact ⟨-12, congrArg some (tk_cv h0 (-12)), hm', Or.inl ⟨rfl, hne hce hcs, hM⟩⟩
  · unfold sf_R sf_bad
    simp only [List.mem_cons, List.not_mem_nil, or_false] at hT
    rcases hT with rfl | rfl | rfl | rfl | rfl | rfl | rfl | rfl
    · obtain ⟨⟨c1, c2⟩, hq⟩ := hcs
      have c2 : sx_val ρ' (13, 0) ≤ -1 := c2
      rw [v13] at c2
      exact ⟨-13, congrArg some (tk_cv h0 (-13)), hm', Or.inr (Or.inl ⟨rfl, heq hq, by omega, hM⟩)⟩
    · obtain ⟨⟨c1, c2⟩, hq⟩ := hcs
      have c2 : sx_val ρ' (10, 0) ≤ -1 := c2
      rw [v10] at c2
      exact ⟨-13, congrArg some (tk_cv h0 (-13)), hm', Or.inr (Or.inl ⟨rfl, heq hq, by omega, hM⟩)⟩
    · obtain ⟨c1, hq⟩ := hcs
      have c1 : ρ' 14 < ρ' 13 + 0 := c1
      rw [q14, q13] at c1
      refine ⟨-13, congrArg some (tk_cv h0 (-13)), hm', Or.inr (Or.inl ⟨rfl, heq hq, by omega, hM⟩)⟩
    · obtain ⟨c1, ⟨c2, c3⟩, c4, c5, hq⟩ := hcs
      have c1 : ρ' (m1 : Int).toNat = sx_mf 1 (sx_val ρ' (14, 0)) (sx_val ρ' (13, 0)) := c1
      have c2 : 0 ≤ sx_val ρ' (13, 0) := c2
      have c3 : sx_val ρ' (13, 0) ≤ 60 := c3
      have c4 : ρ' m1 < ρ' 10 + 0 := c4
      rw [v13] at c2 c3
      rw [sub q14 w14.1 w14.2 c2 c3 c1, q10] at c4
      exact ⟨-13, congrArg some (tk_cv h0 (-13)), hm', Or.inr (Or.inl ⟨rfl, heq hq, by omega, hM⟩)⟩
    · obtain ⟨⟨c1, c2⟩, hq⟩ := hcs
      have c2 : sx_val ρ' (12, 0) ≤ -1 := c2
      rw [v12] at c2
      exact ⟨-13, congrArg some (tk_cv h0 (-13)), hm', Or.inr (Or.inl ⟨rfl, heq hq, by omega, hM⟩)⟩
    · obtain ⟨c1, hq⟩ := hcs
      have c1 : ρ' E < ρ' 13 + 0 := c1
      rw [qE, q13] at c1
      exact ⟨-13, congrArg some (tk_cv h0 (-13)), hm', Or.inr (Or.inl ⟨rfl, heq hq, by omega, hM⟩)⟩
    · obtain ⟨c1, ⟨c2, c3⟩, c4, c5, hq⟩ := hcs
      have c1 : ρ' (m2 : Int).toNat = sx_mf 1 (sx_val ρ' (E, 0)) (sx_val ρ' (13, 0)) := c1
      have c2 : 0 ≤ sx_val ρ' (13, 0) := c2
      have c3 : sx_val ρ' (13, 0) ≤ 60 := c3
      have c4 : ρ' m2 < ρ' 12 + 0 := c4
      rw [v13] at c2 c3
      rw [sub qE wE.1 wE.2 c2 c3 c1, q12] at c4
      exact ⟨-13, congrArg some (tk_cv h0 (-13)), hm', Or.inr (Or.inl ⟨rfl, heq hq, by omega, hM⟩)⟩
    · obtain ⟨⟨n1, n2⟩, ⟨i1, i2⟩, ⟨j1, j2⟩, c1, c2, -, c4, c5, -, hq⟩ := hcs
      have n1 : 0 ≤ sx_val ρ' (13, 0) := n1
      have n2 : sx_val ρ' (13, 0) ≤ 60 := n2
      have i1 : 0 ≤ sx_val ρ' (10, 0) := i1
      have i2 : sx_val ρ' (10, 0) ≤ 60 := i2
      have j1 : 0 ≤ sx_val ρ' (12, 0) := j1
      have j2 : sx_val ρ' (12, 0) ≤ 60 := j2
      have c1 : ρ' (m1 : Int).toNat = sx_mf 1 (sx_val ρ' (14, 0)) (sx_val ρ' (13, 0)) := c1
      have c2 : ¬ ρ' m1 < ρ' 10 + 0 := c2
      have c4 : ρ' (m2 : Int).toNat = sx_mf 1 (sx_val ρ' (E, 0)) (sx_val ρ' (13, 0)) := c4
      have c5 : ¬ ρ' m2 < ρ' 12 + 0 := c5
      rw [v13] at n1 n2
      rw [v10] at i1 i2
      rw [v12] at j1 j2
      rw [sub q14 w14.1 w14.2 n1 n2 c1, q10] at c2
      rw [sub qE wE.1 wE.2 n1 n2 c4, q12] at c5
      have hM : ∀ a, a < 128 → M' a = M a := hM
      have er : ∀ x : Nat, sx_cv1 ρ' (2, 0, 42 + 2 * (x : Int)) = .ref (42 + 2 * x) := fun x => by
        rw [sx_cvk2 (v := (2, 0, 42 + 2 * (x : Int))) rfl]
        show Value.ref (42 + 2 * (x : Int)).toNat = _
        rw [show (42 + 2 * (x : Int)).toNat = 42 + 2 * x by omega]
      show rz_fin _ L xs 147 4 124 [(5, sx_cv1 ρ' (0, 13, 0))] [sx_cv1 ρ' (0, 13, 0), sx_cv1 ρ' (0, 12, 0), sx_cv1 ρ' (2, 0, 42 + 2 * (e : Int)), sx_cv1 ρ' (0, 10, 0), sx_cv1 ρ' (2, 0, 42 + 2 * (c : Int))] M'
      rw [og_int q13, og_int q12, og_int q10, er, er]
      obtain ⟨g, g1, g2⟩ := sf_arr hc6
      obtain ⟨h, h1, h2⟩ := sf_arr he6
      refine rz_cpL (j := 147) sf_f124 sf_lk g1 h1 ⟨i1, by omega⟩ ⟨j1, by omega⟩ ⟨n1, by omega⟩ (by rw [g2]; omega) (by rw [h2]; omega) (by decide) ?_
      refine rz_d (show 1 ≤ 4 by decide) (sf_end hL (sf_mok hm' hc6 he6 (by omega)) hn (fun M3 hm3 e3 => ⟨n, rfl, hm3, Or.inr (Or.inr ⟨rfl, heq hq, by omega, fun a ha => ?_⟩)⟩))
      rw [e3 a ha]
      show (if a = 42 + 2 * e then va_cpy (M' (42 + 2 * c)) (M' (42 + 2 * e)) i.toNat j.toNat n.toNat else M' a) = _
      rw [hM _ (by omega), hM _ (by omega), hM a ha]
end
