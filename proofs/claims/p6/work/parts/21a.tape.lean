/-! The class takes THE TAPE: what holds from sign to sign, and how a walk is read. -/
section
variable {L : Nat} {xs : Nat → Int32} {M M' MM M0 M1 M2 : Nat → Nat → Int} {ρ : Nat → Int} {t t0 : sx_S} {Q : Option Value → (Nat → Nat → Int) → Prop}
/-- how many of the first n are ( -/
def tk_n (f : Nat → Int) : Nat → Nat
  | 0 => 0
  | n + 1 => tk_n f n + (if f n = 40 then 1 else 0)
theorem tk_n_on {f g : Nat → Int} : ∀ (n : Nat), (∀ i, i < n → g i = f i) → tk_n g n = tk_n f n := by
  intro n
  induction n with
  | zero => intro _; rfl
  | succ n ih =>
    intro h
    show tk_n g n + (if g n = 40 then 1 else 0) = tk_n f n + (if f n = 40 then 1 else 0)
    rw [ih (fun i hi => h i (by omega)), h n (by omega)]
theorem tk_n_ne {f : Nat → Int} {n : Nat} (h : f n ≠ 40) : tk_n f (n + 1) = tk_n f n := by
  show tk_n f n + (if f n = 40 then 1 else 0) = tk_n f n
  rw [if_neg h, Nat.add_zero]
theorem tk_n_eq {f : Nat → Int} {n : Nat} (h : f n = 40) : tk_n f (n + 1) = tk_n f n + 1 := by
  show tk_n f n + (if f n = 40 then 1 else 0) = tk_n f n + 1
  rw [if_pos h]
theorem tk_n_le (f : Nat → Int) (n : Nat) : tk_n f n ≤ tk_n f (n + 1) ∧ tk_n f (n + 1) ≤ tk_n f n + 1 := by
  by_cases h : f n = 40
  · rw [tk_n_eq h]; omega
  · rw [tk_n_ne h]; omega
/-- behind i signs: the steps, the signs that wait, the brackets, the jump -/
def tk_C (i : Int) (M : Nat → Nat → Int) : Prop := sx_mok cl_ly M ∧ 0 ≤ M 14 8 ∧ 0 ≤ M 14 9 ∧ M 14 9 ≤ i ∧ M 14 8 + M 14 9 ≤ 2 * i ∧ 0 ≤ M 14 11 ∧ M 14 11 ≤ (tk_n (M 18) (M 14 9).toNat : Int) ∧ -1 ≤ M 14 14 ∧ M 14 14 ≤ 255
/-- the digits of the number that goes on -/
def tk_G (M : Nat → Nat → Int) : Prop := M 14 12 = 0 ∨ (0 ≤ M 14 13 ∧ M 14 13 < M 14 8 ∧ 0 ≤ M 17 (M 14 13).toNat ∧ ((M 14 12 = 1 ∧ M 17 (M 14 13).toNat ≤ 9) ∨ (M 14 12 = 2 ∧ M 17 (M 14 13).toNat ≤ 99) ∨ (M 14 12 = 3 ∧ M 17 (M 14 13).toNat ≤ 999) ∨ M 14 12 = 4))
theorem tk_n_lim (f : Nat → Int) : ∀ n, tk_n f n ≤ n := by
  intro n
  induction n with
  | zero => exact Nat.le_refl 0
  | succ n ih =>
    have := (tk_n_le f n).2
    omega
/-- what the signs may change -/
def tk_c : ct_C := ([(2, 14, 14)], [], [(14, 8, sx_r32), (14, 9, sx_r32), (14, 10, sx_r32), (14, 11, sx_r32), (14, 12, sx_r32), (14, 13, sx_r32), (14, 14, sx_r32), (14, 15, sx_r32)], [17, 18], none, 12, false)
theorem tk_mk (h : ∀ a i : Nat, a < 128 → a ≠ 17 → a ≠ 18 → (a = 14 → ¬ (8 ≤ i ∧ i ≤ 15)) → M' a i = M a i) : ct_fr tk_c M M' := fun a i ha hm hp => h a i ha (fun h1 => hm (by rw [h1]; simp [tk_c])) (fun h1 => hm (by rw [h1]; simp [tk_c])) (fun e h1 => by
    have : i = 8 ∨ i = 9 ∨ i = 10 ∨ i = 11 ∨ i = 12 ∨ i = 13 ∨ i = 14 ∨ i = 15 := by omega
    exact hp (14, i, sx_r32) (by rcases this with rfl | rfl | rfl | rfl | rfl | rfl | rfl | rfl <;> simp [tk_c]) e.symm rfl)
theorem tk_at (h : ct_fr tk_c M M') {a i : Nat} (ha : a < 128) (h1 : a ≠ 17) (h2 : a ≠ 18) (h3 : a = 14 → ¬ (8 ≤ i ∧ i ≤ 15)) : M' a i = M a i :=
  h a i ha (fun hm => by
    simp only [tk_c, List.mem_cons, List.not_mem_nil, or_false] at hm
    omega) (fun g hg e1 e2 => by
    simp only [tk_c, List.mem_cons, List.not_mem_nil, or_false] at hg
    rcases hg with rfl | rfl | rfl | rfl | rfl | rfl | rfl | rfl <;> (dsimp only at e1 e2; have h4 := h3 e1.symm; omega))
theorem tk_tr (h1 : ct_fr tk_c M0 M1) (h2 : ct_fr tk_c M1 M2) : ct_fr tk_c M0 M2 := fun a i ha hm hp => (h2 a i ha hm hp).trans (h1 a i ha hm hp)
theorem tk_rf : ct_fr tk_c M M := fun _ _ _ _ _ => rfl
/-- what a sign's method answers: 1, and all holds for one sign more; or 0 -/
def tk_Q (i : Int) (M0 : Nat → Nat → Int) (r : Option Value) (M' : Nat → Nat → Int) : Prop := ∃ z : Int, r = some (.int (Int32.ofInt z)) ∧ sx_mok cl_ly M' ∧ ct_fr tk_c M0 M' ∧ ((z = 1 ∧ tk_C i M' ∧ tk_G M') ∨ z = 0)
-- how a walk is read
def tw_c (ms fs : List Nat) : ct_C := ([(2, 14, 14)], [], fs.map fun q => (14, q, sx_r32), ms, none, 12, false)
/-- cells that may change; fields that may; fields with what they become -/
noncomputable def tw (ms fs : List Nat) (ps : List (Nat × sx_A)) (t0 t : sx_S) : Bool := sx_an (mt_cells (tw_c ms (fs ++ ps.map fun q => q.1)) t0 t) (sx_an (ms.all fun m => Nat.ble 16 m) (ps.all fun q => match jv t (14, q.1) with
  | some v => sx_ae v q.2
  | none => false))
theorem tw_ok {ms fs : List Nat} {ps : List (Nat × sx_A)} {ρ0 : Nat → Int} (hs0 : sx_sat cl_ly (0, -100) xs L M ρ0 M t0) (hx : sx_ext t0.1 ρ0 ρ) (hs : sx_sat cl_ly (0, -100) xs L M ρ M' t) (h : tw ms fs ps t0 t = true) : (∀ q ∈ ps, M' 14 q.1 = sx_val ρ q.2) ∧ (∀ i, i ∉ fs → (∀ q ∈ ps, q.1 ≠ i) → M' 14 i = M 14 i) ∧ ∀ a, a < 128 → a ∉ ms → a ≠ 14 → M' a = M a := by
  obtain ⟨h1, h2⟩ := sx_an_iff.mp h
  obtain ⟨h3, h2⟩ := sx_an_iff.mp h2
  have fr := mt_cells_ok hs0 hx (fun _ _ _ _ _ => rfl) hs h1
  refine ⟨fun q hq => ?_, fun i hf hi => fr 14 i (by decide) (fun h9 => ?_) (fun g hg e1 e2 => ?_), fun a ha hn hne => ?_⟩
  · have h4 := List.all_eq_true.mp h2 q hq
    cases e : jv t (14, q.1) with
    | none => rw [e] at h4; cases h4
    | some v =>
      rw [e] at h4
      rw [← sx_ae_iff.mp h4]
      exact (jv_ok hs (p := (14, q.1)) (show 14 < 128 by decide) e).1
  · have := Nat.le_of_ble_eq_true (List.all_eq_true.mp h3 14 h9)
    omega
  · obtain ⟨q, hq, rfl⟩ := List.mem_map.mp (show g ∈ (fs ++ ps.map fun q => q.1).map fun q => (14, q, sx_r32) from hg)
    have e2 : q = i := e2
    subst e2
    rcases List.mem_append.mp hq with hq | hq
    · exact hf hq
    · obtain ⟨p, hp, e⟩ := List.mem_map.mp hq
      exact hi p hp e
  · funext i
    refine fr a i ha hn (fun g hg e1 _ => ?_)
    obtain ⟨q, hq, rfl⟩ := List.mem_map.mp (show g ∈ (fs ++ ps.map fun q => q.1).map fun q => (14, q, sx_r32) from hg)
    exact hne e1.symm
def tw_b (ms fs : List Nat) (ps : List (Nat × sx_A)) : Bool := sx_an (ms.all fun m => sx_an (Nat.ble 17 m) (Nat.ble m 18)) ((fs ++ ps.map fun q => q.1).all fun q => sx_an (Nat.ble 8 q) (Nat.ble q 15))
theorem tw_fr {ms fs : List Nat} {ps : List (Nat × sx_A)} (hb : tw_b ms fs ps = true) (n : ∀ i, i ∉ fs → (∀ q ∈ ps, q.1 ≠ i) → M' 14 i = M 14 i) (m : ∀ a, a < 128 → a ∉ ms → a ≠ 14 → M' a = M a) : ct_fr tk_c M M' := by
  obtain ⟨b1, b2⟩ := sx_an_iff.mp hb
  refine tk_mk (fun a i ha h17 h18 h14 => ?_)
  have hin : ∀ q, q ∈ (fs ++ ps.map fun q => q.1) → 8 ≤ q ∧ q ≤ 15 := fun q hq => by
    obtain ⟨x, y⟩ := sx_an_iff.mp (List.all_eq_true.mp b2 q hq)
    exact ⟨Nat.le_of_ble_eq_true x, Nat.le_of_ble_eq_true y⟩
  by_cases e : a = 14
  · have h9 := h14 e
    subst e
    exact n i (fun h => h9 (hin i (List.mem_append.mpr (Or.inl h)))) (fun q hq e => h9 (by
      rw [← e]
      exact hin q.1 (List.mem_append.mpr (Or.inr (List.mem_map.mpr ⟨q, hq, rfl⟩)))))
  · rw [m a ha (fun h => ?_) e]
    obtain ⟨x, y⟩ := sx_an_iff.mp (List.all_eq_true.mp b1 a h)
    have x := Nat.le_of_ble_eq_true x
    have y := Nat.le_of_ble_eq_true y
    omega
/-- one place of a cell was written; of what -/
noncomputable def tw_w (t : sx_S) (k : Nat) (i : sx_A) (p : sx_A → Bool) : Bool := match sx_tg 7 t.2.2.2 k with
  | (1, [e]) => sx_an (sx_ae e.1 i) (p e.2)
  | _ => false
theorem tw_w_ok {k : Nat} {i : sx_A} {p : sx_A → Bool} (hk : k < 128) (hs : sx_sat cl_ly (0, -100) xs L MM ρ M t) (h : tw_w t k i p = true) (h0 : 0 ≤ sx_val ρ i) : (∃ v, p v = true ∧ M k (sx_val ρ i).toNat = sx_val ρ v) ∧ ∀ j : Nat, (j : Int) ≠ sx_val ρ i → M k j = MM k j := by
  obtain ⟨l1, g0, l2, l3, l4⟩ := hs.2.2.2.2.2.2.1 k hk
  unfold tw_w at h
  split at h
  · rename_i e he
    rw [he] at l2 l3
    have e2 : g0 = MM k := l2 (show (1 : Nat) ≠ 2 by decide)
    obtain ⟨c1, c2⟩ := sx_an_iff.mp h
    have c1 := sx_ae_iff.mp c1
    rw [l3, e2]
    have ap : ∀ j, sx_app ρ [e] (MM k) j = if j = (sx_val ρ e.1).toNat then sx_val ρ e.2 else MM k j := fun j => rfl
    refine ⟨⟨e.2, c2, ?_⟩, fun j hne => ?_⟩
    · show sx_app ρ [e] (MM k) _ = _
      rw [ap, c1, if_pos rfl]
    · show sx_app ρ [e] (MM k) _ = _
      rw [ap, c1, if_neg (by omega)]
  · cases h
/-- the same, where another place was read before -/
noncomputable def tw_w2 (t : sx_S) (k : Nat) (i : sx_A) (p : sx_A → Bool) (r w : sx_A) : Bool := match sx_tg 7 t.2.2.2 k with
  | (1, [e, e2]) => sx_an (sx_an (sx_ae e.1 i) (p e.2)) (sx_an (sx_ae e2.1 r) (sx_ae e2.2 w))
  | _ => false
theorem tw_w2_ok {k : Nat} {i r w : sx_A} {p : sx_A → Bool} (hk : k < 128) (hs : sx_sat cl_ly (0, -100) xs L MM ρ M t) (h : tw_w2 t k i p r w = true) (h0 : 0 ≤ sx_val ρ i) (h1 : MM k (sx_val ρ r).toNat = sx_val ρ w) : (∃ v, p v = true ∧ M k (sx_val ρ i).toNat = sx_val ρ v) ∧ ∀ j : Nat, (j : Int) ≠ sx_val ρ i → M k j = MM k j := by
  obtain ⟨l1, g0, l2, l3, l4⟩ := hs.2.2.2.2.2.2.1 k hk
  unfold tw_w2 at h
  split at h
  · rename_i e e2 he
    rw [he] at l2 l3
    have e3 : g0 = MM k := l2 (show (1 : Nat) ≠ 2 by decide)
    obtain ⟨c1, c2⟩ := sx_an_iff.mp h
    obtain ⟨c1, c3⟩ := sx_an_iff.mp c1
    obtain ⟨c2, c4⟩ := sx_an_iff.mp c2
    have c1 := sx_ae_iff.mp c1
    have c2 := sx_ae_iff.mp c2
    have c4 := sx_ae_iff.mp c4
    rw [l3, e3]
    have ap : ∀ j, sx_app ρ [e, e2] (MM k) j = if j = (sx_val ρ e.1).toNat then sx_val ρ e.2 else if j = (sx_val ρ e2.1).toNat then sx_val ρ e2.2 else MM k j := fun j => rfl
    refine ⟨⟨e.2, c3, ?_⟩, fun j hne => ?_⟩
    · show sx_app ρ [e, e2] (MM k) _ = _
      rw [ap, c1, if_pos rfl]
    · show sx_app ρ [e, e2] (MM k) _ = _
      rw [ap, c1, if_neg (by omega), c2, c4]
      by_cases hj : j = (sx_val ρ r).toNat
      · rw [if_pos hj, hj, h1]
      · rw [if_neg hj]
  · cases h
noncomputable def tk_ve (a b : sx_V) : Bool := sx_an (Nat.beq a.1 b.1) (sx_ae a.2 b.2)
theorem tk_ve_ok {a b : sx_V} (h : tk_ve a b = true) : a = b := by
  obtain ⟨h1, h2⟩ := sx_an_iff.mp h
  exact Prod.ext (sx_nbeq.mp h1) (sx_ae_iff.mp h2)
noncomputable def tk_lk (l lv : sx_L) : Bool := sx_an (mt_nd (lv.map fun q => q.1)) (l.all fun q => lv.any fun p => sx_an (Nat.beq p.1 q.1) (tk_ve p.2 q.2))
theorem tk_ld {k : Nat} {v : Value} : ∀ {lv : sm_V}, lo_nd lv → (k, v) ∈ lv → sm_ld lv k = some v := by
  intro lv
  induction lv with
  | nil => intro _ h; cases h
  | cons q lv ih =>
    intro hn hm
    have hn : (q.1 :: lv.map Prod.fst).Nodup := hn
    obtain ⟨h1, h2⟩ := List.nodup_cons.mp hn
    show (if q.1 = k then some q.2 else sm_ld lv k) = some v
    rcases List.mem_cons.mp hm with rfl | hm
    · rw [if_pos rfl]
    · rw [if_neg (fun e => h1 (by rw [e]; exact List.mem_map.mpr ⟨(k, v), hm, rfl⟩))]
      exact ih h2 hm
theorem tk_lk_ok {l lv : sx_L} (hn : lo_nd (sx_cl1 ρ l)) (h : tk_lk l lv = true) : lo_le (sx_cl1 ρ l) (sx_cl1 ρ lv) := by
  obtain ⟨h1, h2⟩ := sx_an_iff.mp h
  have nd := mt_cl_nd (ρ := ρ) (mt_nd_ok h1)
  refine ⟨hn, nd, fun k v hv => ?_⟩
  obtain ⟨q, hq, e⟩ := List.mem_map.mp (show (k, v) ∈ l.map fun q => (q.1, sx_cv1 ρ q.2) from sm_ld_mem hv)
  obtain ⟨p, hp, h3⟩ := List.any_eq_true.mp (List.all_eq_true.mp h2 q hq)
  obtain ⟨h3, h4⟩ := sx_an_iff.mp h3
  refine tk_ld nd (show (k, v) ∈ lv.map fun q => (q.1, sx_cv1 ρ q.2) from List.mem_map.mpr ⟨p, hp, ?_⟩)
  rw [← e, tk_ve_ok h4, sx_nbeq.mp h3]
noncomputable def tk_sk : List sx_V → List sx_V → Bool
  | [], [] => true
  | a :: as, b :: bs => sx_an (tk_ve a b) (tk_sk as bs)
  | _, _ => false
theorem tk_sk_ok : ∀ {a b : List sx_V}, tk_sk a b = true → b = a := by
  intro a
  induction a with
  | nil =>
    intro b h
    cases b with
    | nil => rfl
    | cons _ _ => cases h
  | cons x a ih =>
    intro b h
    cases b with
    | nil => cases h
    | cons y b =>
      obtain ⟨h1, h2⟩ := sx_an_iff.mp (show sx_an (tk_ve x y) (tk_sk a b) = true from h)
      rw [ih h2, tk_ve_ok h1]
/-- a walk, and what follows of each of its ways -/
theorem tk_use {stp : Nat → Bool} {rec : sx_P → Bool} {fc f d d' j pc : Nat} {lv : sx_L} {s : List sx_V} {LV : sm_V} {S : List Value} (h : gs_chk stp rec fc f d j pc lv s t = true) (hs : sx_sat cl_ly (0, -100) xs L M ρ M t) (hl : sx_okl ρ t.1 lv) (hk : sx_oks ρ t.1 s) (hd : d ≤ d') (eL : sx_cl1 ρ lv = LV) (eS : sx_cs1 ρ s = S) (K : ∀ (o : sx_P) (ρ' : Nat → Int) (M' : Nat → Nat → Int), rec o = true → sx_ext t.1 ρ ρ' → sx_sat cl_ly (0, -100) xs L M ρ' M' o.2.2.2.2 → (∀ v, o.1 = some v → Q (v.map (sx_cv1 ρ')) M') ∧ (o.1 = none → ∃ lv', lo_le lv' (sx_cl1 ρ' o.2.2.1) ∧ rz_fin Q L xs j d o.2.1 lv' (sx_cs1 ρ' o.2.2.2.1) M')) : rz_fin Q L xs j d' pc LV S M := by
  obtain ⟨o, ρ', M', rec, x1, x2, x3, x4⟩ := gs_use h hs hl hk
  obtain ⟨k1, k2⟩ := K o ρ' M' rec x1 x3
  rw [eL, eS] at x4
  rcases x4 with ⟨r, w1, w2, F, w3⟩ | ⟨w1, w2, w3, w4, w5⟩
  · exact ⟨F, _, M', mt_d w3 hd, k1 r w1⟩
  · obtain ⟨lv', hle, F, r, M2, e, e1⟩ := k2 w1
    obtain ⟨F', e'⟩ := w5 F r _ (lo_run _ _ _ _ _ _ _ _ _ hle e)
    exact ⟨F', r, M2, mt_d e' hd, e1⟩
theorem rz_d {j d d' pc : Nat} {lv : sm_V} {s : List Value} (hd : d ≤ d') (k : rz_fin Q L xs j d pc lv s M) : rz_fin Q L xs j d' pc lv s M := by
  obtain ⟨F, r, M', e, e1⟩ := k
  exact ⟨F, r, M', mt_d e hd, e1⟩
-- the start of a walk: 9 the sign (or another number), 10 steps, 11 waiting, 12 brackets, 13 digits, 14 numberAt, 15 jumpAt
def tg_l (a b c d e f : Int × Int) : List ct_G := [(14, 8, a), (14, 9, b), (14, 11, c), (14, 12, d), (14, 13, e), (14, 14, f)]
noncomputable def tg_t (r a b c d e f : Int × Int) : sx_S := ct_get (tg_l a b c d e f) (mt_as [(0, r)] (mt_tr [])).2
theorem tg_sat {z : Int} {r a b c d e f : Int × Int} (hL : L < 2 ^ 31) (hm : sx_mok cl_ly M) (hz : sx_w r z) (h32 : sx_w sx_r32 z) (ha : sx_w a (M 14 8)) (hb : sx_w b (M 14 9)) (hc : sx_w c (M 14 11)) (hd : sx_w d (M 14 12)) (he : sx_w e (M 14 13)) (hf : sx_w f (M 14 14)) : ∃ ρ : Nat → Int, sx_sat cl_ly (0, -100) xs L M ρ M (tg_t r a b c d e f) ∧ sx_w sx_r32 (ρ 9) ∧ ρ 9 = z ∧ ρ 10 = M 14 8 ∧ ρ 11 = M 14 9 ∧ ρ 12 = M 14 11 ∧ ρ 13 = M 14 12 ∧ ρ 14 = M 14 13 ∧ ρ 15 = M 14 14 := by
  have hvs : ct_vs [(0, r)] [.int (Int32.ofInt z)] := ⟨Or.inl ⟨rfl, z, rfl, hz, h32⟩, trivial⟩
  obtain ⟨ρ1, a1, a2, a3, a4, a5⟩ := mt_as_ok hvs (mt_tr_sat (MM := M) (M := M) (mod := []) (xs := xs) hL (fun a ha => by cases ha) hm (fun a _ _ => rfl))
  have e1 : (mt_as [(0, r)] (mt_tr [])).1 = [(0, 9, 0)] := rfl
  rw [e1] at a4 a5
  have w9 : sx_w sx_r32 (ρ1 9) := by
    have := (a5 (0, 9, 0) List.mem_cons_self).2.1 rfl
    unfold sx_val at this
    rw [Int.add_zero] at this
    exact this
  have v4 : [sx_cv1 ρ1 (0, 9, 0)] = [Value.int (Int32.ofInt z)] := a4
  simp only [gv_cv, List.cons.injEq, and_true] at v4
  have q9 := gv_inj w9 h32 v4
  have w8 : sx_w sx_r32 (M 14 8) := cv_ly_ok (g := (14, 8, sx_r32)) hm (by decide +kernel)
  have w9' : sx_w sx_r32 (M 14 9) := cv_ly_ok (g := (14, 9, sx_r32)) hm (by decide +kernel)
  have w11 : sx_w sx_r32 (M 14 11) := cv_ly_ok (g := (14, 11, sx_r32)) hm (by decide +kernel)
  have w12 : sx_w sx_r32 (M 14 12) := cv_ly_ok (g := (14, 12, sx_r32)) hm (by decide +kernel)
  have w13 : sx_w sx_r32 (M 14 13) := cv_ly_ok (g := (14, 13, sx_r32)) hm (by decide +kernel)
  have w14 : sx_w sx_r32 (M 14 14) := cv_ly_ok (g := (14, 14, sx_r32)) hm (by decide +kernel)
  obtain ⟨ρ2, b1, b2, b3, b4⟩ := pz_fld (l := tg_l a b c d e f) a3 (fun g hg => by
    simp only [tg_l, List.mem_cons, List.not_mem_nil, or_false] at hg
    rcases hg with rfl | rfl | rfl | rfl | rfl | rfl
    · exact ⟨Nat.le_of_ble_eq_true rfl, ha, sx_32_64 w8⟩
    · exact ⟨Nat.le_of_ble_eq_true rfl, hb, sx_32_64 w9'⟩
    · exact ⟨Nat.le_of_ble_eq_true rfl, hc, sx_32_64 w11⟩
    · exact ⟨Nat.le_of_ble_eq_true rfl, hd, sx_32_64 w12⟩
    · exact ⟨Nat.le_of_ble_eq_true rfl, he, sx_32_64 w13⟩
    · exact ⟨Nat.le_of_ble_eq_true rfl, hf, sx_32_64 w14⟩)
  have y9 : ρ2 9 = z := by rw [b1 9 (show 9 < 10 by decide)]; exact q9
  exact ⟨ρ2, b3, by rw [y9]; exact h32, y9, b4 0 _ rfl, b4 1 _ rfl, b4 2 _ rfl, b4 3 _ rfl, b4 4 _ rfl, b4 5 _ rfl⟩
theorem tg_rd {k : Nat} {i : sx_A} {r : Int × Int} {n : Nat} (hs : sx_sat cl_ly (0, -100) xs L M ρ M t) (ht : t.1 = n) (hk : k < 128) (hi : i.1 < n) (h0 : 0 ≤ sx_val ρ i) (hw : sx_w r (M k (sx_val ρ i).toNat)) (h64 : sx_w sx_r64 (M k (sx_val ρ i).toNat)) : ∃ ρ', sx_ext n ρ ρ' ∧ sx_sat cl_ly (0, -100) xs L M ρ' M (sx_frl t k i r).2 ∧ ρ' n = M k (sx_val ρ i).toNat := by
  subst ht
  refine ⟨_, sx_nu_ext, sx_frl_ok hs hk hi h0 hw h64, ?_⟩
  unfold sx_nu
  rw [if_pos rfl]
theorem tg_fr {r : Int × Int} {z : Int} {n : Nat} (hs : sx_sat cl_ly (0, -100) xs L M ρ M t) (ht : t.1 = n) (hw : sx_w r z) (h64 : sx_w sx_r64 z) : ∃ ρ', sx_ext n ρ ρ' ∧ sx_sat cl_ly (0, -100) xs L M ρ' M (sx_fresh t r).2 ∧ ρ' n = z := by
  subst ht
  refine ⟨_, sx_nu_ext, sx_sat_fresh hs hw h64, ?_⟩
  unfold sx_nu
  rw [if_pos rfl]
end
