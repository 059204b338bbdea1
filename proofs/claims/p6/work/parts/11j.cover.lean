/-! Contracts out of others: one that says less, and one that others cover. -/
section
variable {II : (Nat → Nat → Int) → Prop} {MT : Nat → sm_M} {LK : Nat → Nat → Option sm_L} {RO : List (Nat × (Nat → Int32))} {NV : Nat → List Value} {cq : Nat} {ly : Nat → Option sx_H} {lay : List sx_H} {rf : Nat → Nat → Option Nat}
def cv_q (a b : ct_Q) : Bool := sx_an (Nat.beq a.1 b.1) (bif Nat.beq a.1 2 then sx_eq a.2.1 b.2.1 else sx_in a.2 b.2)
def cv_qs : List ct_Q → List ct_Q → Bool
  | [], [] => true
  | a :: as, b :: bs => sx_an (cv_q a b) (cv_qs as bs)
  | _, _ => false
def cv_pl (g g' : ct_G) : Bool := sx_an (Nat.beq g.1 g'.1) (Nat.beq g.2.1 g'.2.1)
noncomputable def cv_ly (ly : Nat → Option sx_H) (g : ct_G) : Bool := match ly g.1 with
  | some h => sx_an (Nat.blt g.2.1 (sx_sz h)) (match sx_rgo h g.2.1 with
    | some r => sx_in r g.2.2
    | none => false)
  | none => false
/-- it stays as it was -/
def cv_st (c c' : ct_C) (g : ct_G) : Bool := sx_an (Nat.blt g.1 128) (bif c'.2.2.2.1.any (Nat.beq g.1) then false else bif c'.2.2.1.any (fun g' => cv_pl g' g) then false else c.2.1.any (fun q => sx_an (cv_pl q g) (sx_in q.2.2 g.2.2)))
noncomputable def cv_sub (ly : Nat → Option sx_H) (c c' : ct_C) : Bool := sx_an (cv_qs c.1 c'.1) (sx_an (c'.2.1.all fun g' => bif c.2.1.any (fun g => sx_an (cv_pl g g') (sx_in g.2.2 g'.2.2)) then true else cv_ly ly g') (sx_an (sx_an (c'.2.2.2.1.all fun a => c.2.2.2.1.any (Nat.beq a)) (c'.2.2.1.all fun g' => bif c.2.2.2.1.any (Nat.beq g'.1) then true else c.2.2.1.any (fun g => cv_pl g g'))) (sx_an (c.2.2.1.all fun g => bif c'.2.2.1.any (fun g' => sx_an (cv_pl g g') (sx_in g'.2.2 g.2.2)) then true else bif cv_ly ly g then true else cv_st c c' g) (sx_an (match c.2.2.2.2.1, c'.2.2.2.2.1 with
  | none, none => true
  | some q, some q' => cv_q q' q
  | _, _ => false) (sx_an (Nat.ble c'.2.2.2.2.2.1 c.2.2.2.2.2.1) (bif c'.2.2.2.2.2.2 then c.2.2.2.2.2.2 else true))))))
theorem cv_q_ok {a b : ct_Q} {v : Value} (h : cv_q a b = true) (hv : ct_v a v) : ct_v b v := by
  obtain ⟨h1, h2⟩ := sx_an_iff.mp h
  have h1 := sx_nbeq.mp h1
  cases e : Nat.beq a.1 2
  · rw [e] at h2
    have h2 := sx_in_iff.mp (show sx_in a.2 b.2 = true from h2)
    rcases hv with ⟨k, z, e1, e2, e3⟩ | ⟨k, z, e1, e2, e3⟩ | ⟨k, e1⟩
    · exact Or.inl ⟨h1.symm.trans k, z, e1, ⟨Int.le_trans h2.1 e2.1, Int.le_trans e2.2 h2.2⟩, e3⟩
    · exact Or.inr (Or.inl ⟨h1.symm.trans k, z, e1, ⟨Int.le_trans h2.1 e2.1, Int.le_trans e2.2 h2.2⟩, e3⟩)
    · rw [sx_nbeq.mpr k] at e; cases e
  · rw [e] at h2
    have h2 := sx_eq_iff.mp (show sx_eq a.2.1 b.2.1 = true from h2)
    have e := sx_nbeq.mp e
    rcases hv with ⟨k, -⟩ | ⟨k, -⟩ | ⟨k, e1⟩
    · omega
    · omega
    · exact Or.inr (Or.inr ⟨h1.symm.trans k, by rw [← h2]; exact e1⟩)
theorem cv_qs_ok : ∀ {as bs : List ct_Q} {vs : List Value}, cv_qs as bs = true → ct_vs as vs → ct_vs bs vs := by
  intro as
  induction as with
  | nil =>
    intro bs vs h hv
    cases bs with
    | nil => exact hv
    | cons b bs => cases h
  | cons a as ih =>
    intro bs vs h hv
    cases bs with
    | nil => cases h
    | cons b bs =>
      obtain ⟨h1, h2⟩ := sx_an_iff.mp h
      cases vs with
      | nil => cases hv
      | cons v vs => exact ⟨cv_q_ok h1 hv.1, ih h2 hv.2⟩
theorem cv_pl_ok {g g' : ct_G} (h : cv_pl g g' = true) : g.1 = g'.1 ∧ g.2.1 = g'.2.1 := by
  obtain ⟨h1, h2⟩ := sx_an_iff.mp h
  exact ⟨sx_nbeq.mp h1, sx_nbeq.mp h2⟩
theorem cv_ly_ok {g : ct_G} {M : Nat → Nat → Int} (hm : sx_mok ly M) (h : cv_ly ly g = true) : sx_w g.2.2 (M g.1 g.2.1) := by
  unfold cv_ly at h
  cases e : ly g.1 with
  | none => rw [e] at h; cases h
  | some h9 =>
    rw [e] at h
    obtain ⟨h1, h2⟩ := sx_an_iff.mp (show sx_an (Nat.blt g.2.1 (sx_sz h9)) _ = true from h)
    cases er : sx_rgo h9 g.2.1 with
    | none => rw [er] at h2; cases h2
    | some r =>
      rw [er] at h2
      have h2 := sx_in_iff.mp h2
      have hw := hm g.1 h9 g.2.1 r e (sx_blt h1) er
      exact ⟨Int.le_trans h2.1 hw.1, Int.le_trans hw.2 h2.2⟩
theorem cv_any {l : List Nat} {a : Nat} (h : l.any (Nat.beq a) = true) : a ∈ l := by
  obtain ⟨b, hb, e⟩ := List.any_eq_true.mp h
  rw [sx_nbeq.mp e]
  exact hb
theorem cv_st_ok {c c' : ct_C} {g : ct_G} {M M' : Nat → Nat → Int} (h : cv_st c c' g = true) (hf : ct_fr c' M M') (hp : ct_g c.2.1 M) : sx_w g.2.2 (M' g.1 g.2.1) := by
  obtain ⟨h1, h⟩ := sx_an_iff.mp h
  cases e1 : c'.2.2.2.1.any (Nat.beq g.1)
  · rw [e1] at h
    cases e2 : c'.2.2.1.any (fun g' => cv_pl g' g)
    · rw [e2] at h
      obtain ⟨q, hq, k⟩ := List.any_eq_true.mp (show c.2.1.any (fun q => sx_an (cv_pl q g) (sx_in q.2.2 g.2.2)) = true from h)
      obtain ⟨k1, k2⟩ := sx_an_iff.mp k
      obtain ⟨k3, k4⟩ := sx_an_iff.mp k1
      have k3 := sx_nbeq.mp k3
      have k4 := sx_nbeq.mp k4
      have k2 := sx_in_iff.mp k2
      have hw := hp q hq
      rw [k3, k4] at hw
      rw [hf g.1 g.2.1 (sx_blt h1) (fun hm => by
        have : c'.2.2.2.1.any (Nat.beq g.1) = true := List.any_eq_true.mpr ⟨g.1, hm, Nat.beq_refl _⟩
        rw [this] at e1; cases e1) (fun g' hg' e3 e4 => by
        have : c'.2.2.1.any (fun g' => cv_pl g' g) = true := List.any_eq_true.mpr ⟨g', hg', sx_an_iff.mpr ⟨sx_nbeq.mpr e3, sx_nbeq.mpr e4⟩⟩
        rw [this] at e2; cases e2)]
      exact ⟨Int.le_trans k2.1 hw.1, Int.le_trans hw.2 k2.2⟩
    · rw [e2] at h; cases h
  · rw [e1] at h; cases h
/-- a contract that says less -/
theorem cv_sub_ok {k : Nat} {c c' : ct_C} (h : cv_sub ly c c' = true) (hc : ct_ok MT LK RO NV cq ly lay rf II k c') : ct_ok MT LK RO NV cq ly lay rf II k c := by
  intro d as M hd has hpre hm hI
  obtain ⟨h1, h⟩ := sx_an_iff.mp h
  obtain ⟨h2, h⟩ := sx_an_iff.mp h
  obtain ⟨h3, h⟩ := sx_an_iff.mp h
  obtain ⟨h3, h4⟩ := sx_an_iff.mp h3
  obtain ⟨h5, h⟩ := sx_an_iff.mp h
  obtain ⟨h6, h⟩ := sx_an_iff.mp h
  obtain ⟨h7, h8⟩ := sx_an_iff.mp h
  obtain ⟨F, r, M', x1, x2, x3, x4, x5⟩ := hc d as M (Nat.le_trans (Nat.le_of_ble_eq_true h7) hd) (cv_qs_ok h1 has) (fun g' hg' => by
    have k1 := List.all_eq_true.mp h2 g' hg'
    cases e : c.2.1.any (fun g => sx_an (cv_pl g g') (sx_in g.2.2 g'.2.2))
    · rw [e] at k1
      exact cv_ly_ok hm k1
    · obtain ⟨g, hg, k2⟩ := List.any_eq_true.mp e
      obtain ⟨k2, k3⟩ := sx_an_iff.mp k2
      obtain ⟨k4, k5⟩ := cv_pl_ok k2
      have k3 := sx_in_iff.mp k3
      have := hpre g hg
      rw [k4, k5] at this
      exact ⟨Int.le_trans k3.1 this.1, Int.le_trans this.2 k3.2⟩) hm (fun hn => hI (by rw [hn] at h8; exact h8))
  refine ⟨F, r, M', x1, x2, fun a i ha hmod hp => x3 a i ha (fun hmem => hmod (cv_any (List.all_eq_true.mp h3 a hmem))) (fun g' hg' e1 e2 => ?_), fun g hg => ?_, ?_⟩
  · have k1 := List.all_eq_true.mp h4 g' hg'
    cases e : c.2.2.2.1.any (Nat.beq g'.1)
    · rw [e] at k1
      obtain ⟨g, hg, k2⟩ := List.any_eq_true.mp k1
      obtain ⟨k4, k5⟩ := cv_pl_ok k2
      exact hp g hg (k4.trans e1) (k5.trans e2)
    · exact hmod (by rw [← e1]; exact cv_any e)
  · have k1 := List.all_eq_true.mp h5 g hg
    cases e : c'.2.2.1.any (fun g' => sx_an (cv_pl g g') (sx_in g'.2.2 g.2.2))
    · rw [e] at k1
      cases e9 : cv_ly ly g
      · rw [e9] at k1
        exact cv_st_ok k1 x3 hpre
      · exact cv_ly_ok x2 e9
    · obtain ⟨g', hg', k2⟩ := List.any_eq_true.mp e
      obtain ⟨k2, k3⟩ := sx_an_iff.mp k2
      obtain ⟨k4, k5⟩ := cv_pl_ok k2
      have k3 := sx_in_iff.mp k3
      have := x4 g' hg'
      rw [k4, k5]
      exact ⟨Int.le_trans k3.1 this.1, Int.le_trans this.2 k3.2⟩
  · cases e1 : c.2.2.2.2.1 with
    | none =>
      cases e2 : c'.2.2.2.2.1 with
      | none => rw [e2] at x5; exact x5
      | some q' => rw [e1, e2] at h6; cases h6
    | some q =>
      cases e2 : c'.2.2.2.2.1 with
      | none => rw [e1, e2] at h6; cases h6
      | some q' =>
        rw [e1, e2] at h6
        rw [e2] at x5
        cases r with
        | none => cases x5
        | some v => exact cv_q_ok h6 x5
def cv_r (lo hi : Int) : List (Int × Int) → Bool
  | [] => sx_lt hi lo
  | r :: rs => sx_an (sx_le r.1 lo) (cv_r (sx_mx lo (r.2 + 1)) hi rs)
theorem cv_lt {a b : Int} (h : sx_lt a b = true) : a < b := by
  unfold sx_lt at h
  split at h
  · cases h
  · rename_i e
    have := sx_le_f.mp e
    omega
theorem cv_mx (a b : Int) : a ≤ sx_mx a b ∧ b ≤ sx_mx a b ∧ (sx_mx a b = a ∨ sx_mx a b = b) := by
  unfold sx_mx
  cases e : sx_le a b
  · have := sx_le_f.mp e
    exact ⟨Int.le_refl _, by show b ≤ a; omega, Or.inl rfl⟩
  · exact ⟨sx_le_iff.mp e, Int.le_refl _, Or.inr rfl⟩
theorem cv_r_ok {hi : Int} : ∀ {rs : List (Int × Int)} {lo v : Int}, cv_r lo hi rs = true → lo ≤ v → v ≤ hi → ∃ r ∈ rs, r.1 ≤ v ∧ v ≤ r.2 := by
  intro rs
  induction rs with
  | nil =>
    intro lo v h h1 h2
    have := cv_lt h
    omega
  | cons r rs ih =>
    intro lo v h h1 h2
    obtain ⟨a, b⟩ := sx_an_iff.mp h
    have a := sx_le_iff.mp a
    by_cases hv : v ≤ r.2
    · exact ⟨r, List.mem_cons_self, by omega, hv⟩
    · obtain ⟨m1, m2, m3⟩ := cv_mx lo (r.2 + 1)
      obtain ⟨w, hw, h3⟩ := ih b (by rcases m3 with m | m <;> omega) h2
      exact ⟨w, List.mem_cons_of_mem _ hw, h3⟩
def cv_seta (r : Int × Int) : List ct_Q → Nat → List ct_Q
  | [], _ => []
  | q :: l, 0 => (q.1, r) :: l
  | q :: l, i + 1 => q :: cv_seta r l i
def cv_setg (r : Int × Int) : List ct_G → Nat → List ct_G
  | [], _ => []
  | q :: l, 0 => (q.1, q.2.1, r) :: l
  | q :: l, i + 1 => q :: cv_setg r l i
theorem cv_seta_ok : ∀ {l : List ct_Q} {i : Nat} {vs : List Value} {q : ct_Q}, l[i]? = some q → q.1 ≤ 1 → ct_vs l vs → ∃ v, q.2.1 ≤ v ∧ v ≤ q.2.2 ∧ ∀ r : Int × Int, r.1 ≤ v → v ≤ r.2 → ct_vs (cv_seta r l i) vs := by
  intro l
  induction l with
  | nil => intro i vs q h; cases h
  | cons p l ih =>
    intro i vs q h hq hv
    cases vs with
    | nil => cases hv
    | cons a vs =>
      cases i with
      | zero =>
        cases h
        obtain ⟨ha, hr⟩ := hv
        rcases ha with ⟨k0, z, e1, e2, e3⟩ | ⟨k0, z, e1, e2, e3⟩ | ⟨k0, e1⟩
        · exact ⟨z, e2.1, e2.2, fun r h1 h2 => ⟨Or.inl ⟨k0, z, e1, ⟨h1, h2⟩, e3⟩, hr⟩⟩
        · exact ⟨z, e2.1, e2.2, fun r h1 h2 => ⟨Or.inr (Or.inl ⟨k0, z, e1, ⟨h1, h2⟩, e3⟩), hr⟩⟩
        · omega
      | succ i =>
        obtain ⟨v, v1, v2, v3⟩ := ih (i := i) h hq hv.2
        exact ⟨v, v1, v2, fun r h1 h2 => ⟨hv.1, v3 r h1 h2⟩⟩
theorem cv_setg_ok {M : Nat → Nat → Int} {r : Int × Int} : ∀ {l : List ct_G} {i : Nat} {q : ct_G}, l[i]? = some q → ct_g l M → r.1 ≤ M q.1 q.2.1 → M q.1 q.2.1 ≤ r.2 → ct_g (cv_setg r l i) M := by
  intro l
  induction l with
  | nil => intro i q h; cases h
  | cons p l ih =>
    intro i q h hg h1 h2
    cases i with
    | zero =>
      cases h
      intro g hm
      rcases List.mem_cons.mp hm with rfl | hm
      · exact ⟨h1, h2⟩
      · exact hg g (List.mem_cons_of_mem _ hm)
    | succ i =>
      intro g hm
      rcases List.mem_cons.mp hm with rfl | hm
      · exact hg _ List.mem_cons_self
      · exact ih (i := i) h (fun g hm => hg g (List.mem_cons_of_mem _ hm)) h1 h2 g hm
noncomputable def cv_a (ly : Nat → Option sx_H) (c : ct_C) (i : Nat) (ms : List ((Int × Int) × ct_C)) : Bool := match c.1[i]? with
  | some q => sx_an (Nat.ble q.1 1) (sx_an (cv_r q.2.1 q.2.2 (ms.map fun m => m.1)) (ms.all fun m => cv_sub ly (cv_seta m.1 c.1 i, c.2) m.2))
  | none => false
/-- by the values of an argument -/
theorem cv_a_ok {k : Nat} {c : ct_C} {i : Nat} {ms : List ((Int × Int) × ct_C)} (hall : ∀ m ∈ ms, ct_ok MT LK RO NV cq ly lay rf II k m.2) (h : cv_a ly c i ms = true) : ct_ok MT LK RO NV cq ly lay rf II k c := by
  unfold cv_a at h
  cases e : c.1[i]? with
  | none => rw [e] at h; cases h
  | some q =>
    rw [e] at h
    obtain ⟨h1, h⟩ := sx_an_iff.mp h
    obtain ⟨h2, h3⟩ := sx_an_iff.mp h
    intro d as M hd has hpre hm hI
    obtain ⟨v, v1, v2, v3⟩ := cv_seta_ok e (Nat.le_of_ble_eq_true h1) has
    obtain ⟨r, hr, r1, r2⟩ := cv_r_ok h2 v1 v2
    obtain ⟨m, hmm, rfl⟩ := List.mem_map.mp hr
    exact cv_sub_ok (c := (cv_seta m.1 c.1 i, c.2)) (List.all_eq_true.mp h3 m hmm) (hall m hmm) d as M hd (v3 _ r1 r2) hpre hm hI
noncomputable def cv_g (ly : Nat → Option sx_H) (c : ct_C) (i : Nat) (ms : List ((Int × Int) × ct_C)) : Bool := match c.2.1[i]? with
  | some q => sx_an (cv_r q.2.2.1 q.2.2.2 (ms.map fun m => m.1)) (ms.all fun m => cv_sub ly (c.1, cv_setg m.1 c.2.1 i, c.2.2) m.2)
  | none => false
/-- by the values of a field -/
theorem cv_g_ok {k : Nat} {c : ct_C} {i : Nat} {ms : List ((Int × Int) × ct_C)} (hall : ∀ m ∈ ms, ct_ok MT LK RO NV cq ly lay rf II k m.2) (h : cv_g ly c i ms = true) : ct_ok MT LK RO NV cq ly lay rf II k c := by
  unfold cv_g at h
  cases e : c.2.1[i]? with
  | none => rw [e] at h; cases h
  | some q =>
    rw [e] at h
    obtain ⟨h2, h3⟩ := sx_an_iff.mp h
    intro d as M hd has hpre hm hI
    have hq := hpre q (List.mem_of_getElem? e)
    obtain ⟨r, hr, r1, r2⟩ := cv_r_ok h2 hq.1 hq.2
    obtain ⟨m, hmm, rfl⟩ := List.mem_map.mp hr
    exact cv_sub_ok (c := (c.1, cv_setg m.1 c.2.1 i, c.2.2)) (List.all_eq_true.mp h3 m hmm) (hall m hmm) d as M hd has (cv_setg_ok e hpre r1 r2) hm hI
end
