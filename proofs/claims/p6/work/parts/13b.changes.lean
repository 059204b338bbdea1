/-! What holds of the changes that are kept: each may be laid again. -/
section
variable {ly : Nat → Option sx_H}
/-- what, number, before, behind -/
def jp (w n b a : Int) : Prop := (-1 ≤ b ∧ b ≤ 143 ∧ -1 ≤ a ∧ a ≤ 143) ∧ ((0 ≤ w ∧ w ≤ 4 ∧ 0 ≤ n ∧ n ≤ 5) ∨ (w = 5 ∧ 0 ≤ n ∧ n ≤ 29) ∨ (w = 6 ∧ 0 ≤ n ∧ n ≤ 11) ∨ (w = 7 ∧ n = 0 ∧ 0 ≤ b ∧ b ≤ 29 ∧ 0 ≤ a ∧ a ≤ 29))
abbrev jP : Type := Nat → Nat × Nat
def jg (P0 P1 P2 P3 : jP) (M : Nat → Nat → Int) : Prop := ∀ q, q < 40 → jp (M (P0 q).1 (P0 q).2) (M (P1 q).1 (P1 q).2) (M (P2 q).1 (P2 q).2) (M (P3 q).1 (P3 q).2)
def jx0 : jP := fun q => (33, 4 * q)
def jx1 : jP := fun q => (33, 4 * q + 1)
def jx2 : jP := fun q => (33, 4 * q + 2)
def jx3 : jP := fun q => (33, 4 * q + 3)
def jm0 : jP := fun q => (62, q)
def jm1 : jP := fun q => (63, q)
def jm2 : jP := fun q => (64, q)
def jm3 : jP := fun q => (65, q)
def JJ (M : Nat → Nat → Int) : Prop := jg jx0 jx1 jx2 jx3 M ∧ jg jm0 jm1 jm2 jm3 M ∧ M 32 1 ≤ M 32 2 ∧ M 53 14 + M 53 15 ≤ 40
noncomputable def jv (t : sx_S) (p : Nat × Nat) : Option sx_A := sx_kn (fun _ _ => none) t p.1 (0, Int.ofNat p.2)
/-- it is what it was -/
noncomputable def ju (t0 t : sx_S) (p : Nat × Nat) : Bool := bif Nat.blt p.1 128 then (bif Nat.beq (sx_tg 7 t.2.2.2 p.1).1 0 then true else bif Nat.beq (sx_tg 7 t.2.2.2 p.1).1 1 then (bif (sx_tg 7 t.2.2.2 p.1).2.all (fun e => sx_an (Nat.beq e.1.1 0) (bif sx_eq e.1.2 (Int.ofNat p.2) then false else true)) then true else match jv t p, jv t0 p with
  | some v, some w => sx_ae v w
  | _, _ => false) else false) else false
noncomputable def jin (t : sx_S) (v : sx_A) (lo hi : Int) : Bool := sx_in (sx_iv t v) (lo, hi)
noncomputable def jgood (t : sx_S) (w n b a : sx_A) : Bool := sx_an (sx_an (jin t b (-1) 143) (jin t a (-1) 143)) (bif sx_an (jin t w 0 4) (jin t n 0 5) then true else bif sx_an (jin t w 5 5) (jin t n 0 29) then true else bif sx_an (jin t w 6 6) (jin t n 0 11) then true else sx_an (sx_an (jin t w 7 7) (jin t n 0 0)) (sx_an (jin t b 0 29) (jin t a 0 29)))
noncomputable def jq (P0 P1 P2 P3 : jP) (t0 t : sx_S) (q : Nat) : Bool := bif sx_an (sx_an (ju t0 t (P0 q)) (ju t0 t (P1 q))) (sx_an (ju t0 t (P2 q)) (ju t0 t (P3 q))) then true else sx_an (sx_an (sx_an (Nat.blt (P0 q).1 128) (Nat.blt (P1 q).1 128)) (sx_an (Nat.blt (P2 q).1 128) (Nat.blt (P3 q).1 128))) (match jv t (P0 q), jv t (P1 q), jv t (P2 q), jv t (P3 q) with
  | some w, some n, some b, some a => bif jgood t w n b a then true else sx_an (Nat.blt (q + 1) 40) (sx_an (sx_an (sx_an (Nat.blt (P0 (q + 1)).1 128) (Nat.blt (P1 (q + 1)).1 128)) (sx_an (Nat.blt (P2 (q + 1)).1 128) (Nat.blt (P3 (q + 1)).1 128))) (match jv t0 (P0 (q + 1)), jv t0 (P1 (q + 1)), jv t0 (P2 (q + 1)), jv t0 (P3 (q + 1)) with
    | some w', some n', some b', some a' => sx_an (sx_an (sx_ae w w') (sx_ae n n')) (sx_an (sx_ae b b') (sx_ae a a'))
    | _, _, _, _ => false))
  | _, _, _, _ => false)
/-- c * p + d * q is at most m -/
noncomputable def jd (t0 t : sx_S) (c d m : Int) (p q : Nat × Nat) : Bool := bif sx_an (ju t0 t p) (ju t0 t q) then true else sx_an (sx_an (Nat.blt p.1 128) (Nat.blt q.1 128)) (match jv t p, jv t q with
  | some v, some w => sx_le (mt_ub t [(c, v), (d, w)]) m
  | _, _ => false)
noncomputable def jx (t0 t : sx_S) : Bool := sx_an (sx_an ((List.range 40).all (jq jx0 jx1 jx2 jx3 t0 t)) ((List.range 40).all (jq jm0 jm1 jm2 jm3 t0 t))) (sx_an (jd t0 t 1 (-1) 0 (32, 1) (32, 2)) (jd t0 t 1 1 40 (53, 14) (53, 15)))
variable {ib : sx_A} {xs : Nat → Int32} {L : Nat} {t0 t : sx_S} {ρ0 ρ : Nat → Int} {M0 M : Nat → Nat → Int}
theorem jv_ok {MM : Nat → Nat → Int} (hs : sx_sat ly ib xs L MM ρ M t) {p : Nat × Nat} {v : sx_A} (hp : p.1 < 128) (h : jv t p = some v) : M p.1 p.2 = sx_val ρ v ∧ v.1 < t.1 := by
  have i0 : sx_val ρ (0, Int.ofNat p.2) = (p.2 : Int) := sx_v0 hs _
  have i1 : (sx_val ρ (0, Int.ofNat p.2)).toNat = p.2 := by rw [i0]; rfl
  have := sx_kn_ok hs hp (by rw [i0]; omega) (fun c _ h9 => by cases h9) h
  rw [i1] at this
  exact this
theorem japp_un {g : Nat → Int} {i : Nat} (h0 : ρ 0 = 0) : ∀ (l : List (sx_A × sx_A)), (∀ e ∈ l, 0 ≤ sx_val ρ e.1) → l.all (fun e => sx_an (Nat.beq e.1.1 0) (bif sx_eq e.1.2 (Int.ofNat i) then false else true)) = true → sx_app ρ l g i = g i := by
  intro l
  induction l with
  | nil => intro _ _; rfl
  | cons e l ih =>
    intro hp h
    have h := List.all_eq_true.mp h
    have h1 := h e List.mem_cons_self
    have ih := ih (fun q hq => hp q (List.mem_cons_of_mem _ hq)) (List.all_eq_true.mpr fun q hq => h q (List.mem_cons_of_mem _ hq))
    show sx_fup (sx_app ρ l g) (sx_val ρ e.1).toNat (sx_val ρ e.2) i = g i
    unfold sx_fup
    obtain ⟨k1, k2⟩ := sx_an_iff.mp h1
    have k1 := sx_nbeq.mp k1
    have hp1 := hp e List.mem_cons_self
    have ev : sx_val ρ e.1 = e.1.2 := by
      unfold sx_val
      rw [k1, h0]; omega
    rw [ev] at hp1 ⊢
    by_cases ei : i = e.1.2.toNat
    · exfalso
      cases ee : sx_eq e.1.2 (Int.ofNat i)
      · have : sx_eq e.1.2 (Int.ofNat i) = true := sx_eq_iff.mpr (by rw [ei]; exact (Int.toNat_of_nonneg hp1).symm)
        rw [this] at ee
        cases ee
      · rw [ee] at k2; cases k2
    · rw [if_neg ei]
      exact ih
theorem ju_ok {p : Nat × Nat} (hs0 : sx_sat ly ib xs L M0 ρ0 M0 t0) (hx : sx_ext t0.1 ρ0 ρ) (hs : sx_sat ly ib xs L M0 ρ M t) (h : ju t0 t p = true) : M p.1 p.2 = M0 p.1 p.2 := by
  unfold ju at h
  cases e1 : Nat.blt p.1 128
  · rw [e1] at h; cases h
  · rw [e1] at h
    have hp := sx_blt e1
    obtain ⟨l1, g0, l2, l3, l4⟩ := hs.2.2.2.2.2.2.1 p.1 hp
    cases e2 : Nat.beq (sx_tg 7 t.2.2.2 p.1).1 0
    · rw [e2] at h
      cases e3 : Nat.beq (sx_tg 7 t.2.2.2 p.1).1 1
      · rw [e3] at h; cases h
      · rw [e3] at h
        have e3 := sx_nbeq.mp e3
        have h : (bif (sx_tg 7 t.2.2.2 p.1).2.all (fun e => sx_an (Nat.beq e.1.1 0) (bif sx_eq e.1.2 (Int.ofNat p.2) then false else true)) then true else match jv t p, jv t0 p with
          | some v, some w => sx_ae v w
          | _, _ => false) = true := h
        cases e4 : (sx_tg 7 t.2.2.2 p.1).2.all (fun e => sx_an (Nat.beq e.1.1 0) (bif sx_eq e.1.2 (Int.ofNat p.2) then false else true))
        · rw [e4] at h
          have h : (match jv t p, jv t0 p with
            | some v, some w => sx_ae v w
            | _, _ => false) = true := h
          cases ev : jv t p with
          | none => rw [ev] at h; cases h
          | some v =>
            cases ew : jv t0 p with
            | none => rw [ev, ew] at h; cases h
            | some w =>
              rw [ev, ew] at h
              have h := sx_ae_iff.mp h
              obtain ⟨a1, a2⟩ := jv_ok hs hp ev
              obtain ⟨b1, b2⟩ := jv_ok hs0 hp ew
              rw [a1, b1, h, sx_ext_val hx b2]
        · rw [l3, l2 (by rw [e3]; decide)]
          exact japp_un hs.2.1 _ (fun e he => (l1 e he).2.2) e4
    · rw [l4 (sx_nbeq.mp e2)]
theorem jin_ok (hs : sx_sat ly ib xs L M0 ρ M t) {v : sx_A} {lo hi : Int} (h : jin t v lo hi = true) : lo ≤ sx_val ρ v ∧ sx_val ρ v ≤ hi := by
  have h := sx_in_iff.mp h
  have hi := sx_iv_ok hs v
  exact ⟨Int.le_trans h.1 hi.1, Int.le_trans hi.2 h.2⟩
theorem jor {a b : Bool} (h : (bif a then true else b) = true) : a = true ∨ b = true := by
  cases a
  · exact Or.inr h
  · exact Or.inl rfl
theorem jgood_ok (hs : sx_sat ly ib xs L M0 ρ M t) {w n b a : sx_A} (h : jgood t w n b a = true) : jp (sx_val ρ w) (sx_val ρ n) (sx_val ρ b) (sx_val ρ a) := by
  unfold jgood at h
  obtain ⟨h1, h2⟩ := sx_an_iff.mp h
  obtain ⟨h3, h4⟩ := sx_an_iff.mp h1
  have h3 := jin_ok hs h3
  have h4 := jin_ok hs h4
  refine ⟨⟨h3.1, h3.2, h4.1, h4.2⟩, ?_⟩
  rcases jor h2 with h | h
  · obtain ⟨a1, a2⟩ := sx_an_iff.mp h
    have a1 := jin_ok hs a1
    have a2 := jin_ok hs a2
    exact Or.inl ⟨a1.1, a1.2, a2.1, a2.2⟩
  · rcases jor h with h | h
    · obtain ⟨a1, a2⟩ := sx_an_iff.mp h
      have a1 := jin_ok hs a1
      have a2 := jin_ok hs a2
      exact Or.inr (Or.inl ⟨by omega, a2.1, a2.2⟩)
    · rcases jor h with h | h
      · obtain ⟨a1, a2⟩ := sx_an_iff.mp h
        have a1 := jin_ok hs a1
        have a2 := jin_ok hs a2
        exact Or.inr (Or.inr (Or.inl ⟨by omega, a2.1, a2.2⟩))
      · obtain ⟨a1, a2⟩ := sx_an_iff.mp h
        obtain ⟨a1, a3⟩ := sx_an_iff.mp a1
        obtain ⟨a2, a4⟩ := sx_an_iff.mp a2
        have a1 := jin_ok hs a1
        have a2 := jin_ok hs a2
        have a3 := jin_ok hs a3
        have a4 := jin_ok hs a4
        exact Or.inr (Or.inr (Or.inr ⟨by omega, by omega, a2.1, a2.2, a4.1, a4.2⟩))
theorem jb4 {a b c d : Nat} (h : sx_an (sx_an (Nat.blt a 128) (Nat.blt b 128)) (sx_an (Nat.blt c 128) (Nat.blt d 128)) = true) : a < 128 ∧ b < 128 ∧ c < 128 ∧ d < 128 := by
  obtain ⟨h1, h2⟩ := sx_an_iff.mp h
  obtain ⟨h1, h3⟩ := sx_an_iff.mp h1
  obtain ⟨h2, h4⟩ := sx_an_iff.mp h2
  exact ⟨sx_blt h1, sx_blt h3, sx_blt h2, sx_blt h4⟩
theorem jq_ok {P0 P1 P2 P3 : jP} (hs0 : sx_sat ly ib xs L M0 ρ0 M0 t0) (hx : sx_ext t0.1 ρ0 ρ) (hs : sx_sat ly ib xs L M0 ρ M t) (h : (List.range 40).all (jq P0 P1 P2 P3 t0 t) = true) (hJ : jg P0 P1 P2 P3 M0) : jg P0 P1 P2 P3 M := by
  intro q hq
  have h1 := List.all_eq_true.mp h q (List.mem_range.mpr hq)
  unfold jq at h1
  rcases jor h1 with h1 | h1
  · obtain ⟨a, b⟩ := sx_an_iff.mp h1
    obtain ⟨a1, a2⟩ := sx_an_iff.mp a
    obtain ⟨b1, b2⟩ := sx_an_iff.mp b
    rw [ju_ok hs0 hx hs a1, ju_ok hs0 hx hs a2, ju_ok hs0 hx hs b1, ju_ok hs0 hx hs b2]
    exact hJ q hq
  · obtain ⟨a, b⟩ := sx_an_iff.mp h1
    obtain ⟨p0, p1, p2, p3⟩ := jb4 a
    cases e0 : jv t (P0 q) with
    | none => rw [e0] at b; cases b
    | some w =>
      cases e1 : jv t (P1 q) with
      | none => rw [e0, e1] at b; cases b
      | some n =>
        cases e2 : jv t (P2 q) with
        | none => rw [e0, e1, e2] at b; cases b
        | some b9 =>
          cases e3 : jv t (P3 q) with
          | none => rw [e0, e1, e2, e3] at b; cases b
          | some a9 =>
            rw [e0, e1, e2, e3] at b
            rw [(jv_ok hs p0 e0).1, (jv_ok hs p1 e1).1, (jv_ok hs p2 e2).1, (jv_ok hs p3 e3).1]
            rcases jor b with b | b
            · exact jgood_ok hs b
            · obtain ⟨c, b⟩ := sx_an_iff.mp b
              obtain ⟨d, b⟩ := sx_an_iff.mp b
              obtain ⟨q0, q1, q2, q3⟩ := jb4 d
              have := hJ (q + 1) (sx_blt c)
              cases f0 : jv t0 (P0 (q + 1)) with
              | none => rw [f0] at b; cases b
              | some w' =>
                cases f1 : jv t0 (P1 (q + 1)) with
                | none => rw [f0, f1] at b; cases b
                | some n' =>
                  cases f2 : jv t0 (P2 (q + 1)) with
                  | none => rw [f0, f1, f2] at b; cases b
                  | some b' =>
                    cases f3 : jv t0 (P3 (q + 1)) with
                    | none => rw [f0, f1, f2, f3] at b; cases b
                    | some a' =>
                      rw [f0, f1, f2, f3] at b
                      obtain ⟨b1, b2⟩ := sx_an_iff.mp b
                      obtain ⟨b1, b3⟩ := sx_an_iff.mp b1
                      obtain ⟨b2, b4⟩ := sx_an_iff.mp b2
                      obtain ⟨g0, s0⟩ := jv_ok hs0 q0 f0
                      obtain ⟨g1, s1⟩ := jv_ok hs0 q1 f1
                      obtain ⟨g2, s2⟩ := jv_ok hs0 q2 f2
                      obtain ⟨g3, s3⟩ := jv_ok hs0 q3 f3
                      rw [g0, g1, g2, g3] at this
                      rw [sx_ae_iff.mp b1, sx_ae_iff.mp b3, sx_ae_iff.mp b2, sx_ae_iff.mp b4, sx_ext_val hx s0, sx_ext_val hx s1, sx_ext_val hx s2, sx_ext_val hx s3]
                      exact this
theorem jd_ok {c d m : Int} {p q : Nat × Nat} (hs0 : sx_sat ly ib xs L M0 ρ0 M0 t0) (hx : sx_ext t0.1 ρ0 ρ) (hs : sx_sat ly ib xs L M0 ρ M t) (h : jd t0 t c d m p q = true) (hJ : c * M0 p.1 p.2 + d * M0 q.1 q.2 ≤ m) : c * M p.1 p.2 + d * M q.1 q.2 ≤ m := by
  unfold jd at h
  rcases jor h with h | h
  · obtain ⟨a, b⟩ := sx_an_iff.mp h
    rw [ju_ok hs0 hx hs a, ju_ok hs0 hx hs b]
    exact hJ
  · obtain ⟨a, b⟩ := sx_an_iff.mp h
    obtain ⟨a1, a2⟩ := sx_an_iff.mp a
    cases e0 : jv t p with
    | none => rw [e0] at b; cases b
    | some v =>
      cases e1 : jv t q with
      | none => rw [e0, e1] at b; cases b
      | some w =>
        rw [e0, e1] at b
        have b := sx_le_iff.mp b
        have u := mt_ub_ok hs [(c, v), (d, w)]
        rw [(jv_ok hs (sx_blt a1) e0).1, (jv_ok hs (sx_blt a2) e1).1]
        have e : mt_ev ρ [(c, v), (d, w)] = c * sx_val ρ v + (d * sx_val ρ w + 0) := rfl
        rw [e] at u
        omega
theorem jx_ok' (hs0 : sx_sat ly ib xs L M0 ρ0 M0 t0) (hx : sx_ext t0.1 ρ0 ρ) (hs : sx_sat ly ib xs L M0 ρ M t) (h : jx t0 t = true) (hJ : JJ M0) : JJ M := by
  obtain ⟨h1, h2⟩ := sx_an_iff.mp h
  obtain ⟨h1, h3⟩ := sx_an_iff.mp h1
  obtain ⟨h2, h4⟩ := sx_an_iff.mp h2
  obtain ⟨j1, j2, j3, j4⟩ := hJ
  have d1 := jd_ok hs0 hx hs h2 (show 1 * M0 32 1 + (-1) * M0 32 2 ≤ 0 by omega)
  have d2 := jd_ok hs0 hx hs h4 (show 1 * M0 53 14 + 1 * M0 53 15 ≤ 40 by omega)
  have d1 : 1 * M 32 1 + (-1) * M 32 2 ≤ 0 := d1
  have d2 : 1 * M 53 14 + 1 * M 53 15 ≤ 40 := d2
  exact ⟨jq_ok hs0 hx hs h1 j1, jq_ok hs0 hx hs h3 j2, by omega, by omega⟩
end
section
variable {L : Nat} {xs : Nat → Int32}
def ci (L : Nat) (xs : Nat → Int32) (k : Nat) (c : ct_C) : Prop := ct_oki sm_MT sm_LK (sm_RO L xs) sm_NV sm_cq cl_ly cl_lay cl_rf JJ k c
variable {M : Nat → Nat → Int}
theorem jr_kn (hm : sx_mok cl_ly M) : 0 ≤ M 32 2 ∧ M 32 2 ≤ 40 := cv_ly_ok (g := (32, 2, 0, 40)) hm (by decide +kernel)
theorem jr_un (hm : sx_mok cl_ly M) : 0 ≤ M 53 15 ∧ M 53 15 ≤ 40 := cv_ly_ok (g := (53, 15, 0, 40)) hm (by decide +kernel)
end
