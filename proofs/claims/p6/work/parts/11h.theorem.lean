/-! A method's contract, out of its segments: the theorem. -/
section
variable {II : (Nat → Nat → Int) → Prop} {zs : List Nat} {MT : Nat → sm_M} {LK : Nat → Nat → Option sm_L} {RO : List (Nat × (Nat → Int32))} {NV : Nat → List Value} {cq : Nat} {ly : Nat → Option sx_H} {xs : Nat → Int32} {L : Nat} {MM : Nat → Nat → Int} {lay : List sx_H} {rf : Nat → Nat → Option Nat} {rc : List (List Int)} {ρ : Nat → Int} {M : Nat → Nat → Int} {t : sx_S}
theorem sx_tg_t0 (v : sx_F) : ∀ (n k : Nat), sx_tg n (sx_t0 n v) k = v := by
  intro n
  induction n with
  | zero => intro k; rfl
  | succ n ih =>
    intro k
    show (bif Nat.beq (Nat.mod k 2) 0 then sx_tg n (sx_t0 n v) (Nat.div k 2) else sx_tg n (sx_t0 n v) (Nat.div k 2)) = v
    rw [ih]
    cases Nat.beq (Nat.mod k 2) 0 <;> rfl
def mt_agr (mod : List Nat) (MM M : Nat → Nat → Int) : Prop := ∀ a, a < 128 → a ∉ mod → M a = MM a
theorem mt_app_at {c : ct_C} {t0 : sx_S} {ρ0 : Nat → Int} {Ms : Nat → Nat → Int} {ib : sx_A} {a i : Nat} (ha : a < 128) (hs0 : sx_sat ly ib xs L MM ρ0 Ms t0) (hx : sx_ext t0.1 ρ0 ρ) (h0 : ρ 0 = 0) (hMs : Ms a i = MM a i) (hi : ∀ g ∈ c.2.2.1, g.1 = a → g.2.1 ≠ i) : ∀ (l : List (sx_A × sx_A)), (∀ e ∈ l, 0 ≤ sx_val ρ e.1) → l.all (mt_ent c t0 a) = true → sx_app ρ l (MM a) i = MM a i := by
  intro l
  induction l with
  | nil => intro _ _; rfl
  | cons e l ih =>
    intro hp h
    have h := List.all_eq_true.mp h
    have h1 := h e List.mem_cons_self
    have ih := ih (fun q hq => hp q (List.mem_cons_of_mem _ hq)) (List.all_eq_true.mpr fun q hq => h q (List.mem_cons_of_mem _ hq))
    show sx_fup (sx_app ρ l (MM a)) (sx_val ρ e.1).toNat (sx_val ρ e.2) i = MM a i
    unfold sx_fup
    by_cases ei : i = (sx_val ρ e.1).toNat
    · rw [if_pos ei]
      unfold mt_ent at h1
      obtain ⟨k1, k2⟩ := sx_an_iff.mp h1
      have k1 := sx_nbeq.mp k1
      have ev : ∀ r : Nat → Int, r 0 = 0 → sx_val r e.1 = e.1.2 := by
        intro r hr
        unfold sx_val
        rw [k1, hr]; omega
      have hp1 := hp e List.mem_cons_self
      rw [ev ρ h0] at ei hp1
      cases ep : (c.2.2.1.any fun g => sx_an (Nat.beq g.1 a) (sx_eq (Int.ofNat g.2.1) e.1.2))
      · rw [ep] at k2
        have k2 : (match sx_kn (fun _ _ => none) t0 a e.1 with
          | some v => sx_ae v e.2
          | none => false) = true := k2
        cases ek : sx_kn (fun _ _ => none) t0 a e.1 with
        | none => rw [ek] at k2; cases k2
        | some v =>
          rw [ek] at k2
          have k2 := sx_ae_iff.mp k2
          obtain ⟨m1, m2⟩ := sx_kn_ok hs0 ha (by rw [ev ρ0 hs0.2.1]; exact hp1) (fun c _ h9 => by cases h9) ek
          rw [ev ρ0 hs0.2.1, ← ei] at m1
          rw [← k2, sx_ext_val hx m2, ← m1, hMs]
      · obtain ⟨g, hg, g1⟩ := List.any_eq_true.mp ep
        obtain ⟨g1, g2⟩ := sx_an_iff.mp g1
        have g2 := sx_eq_iff.mp g2
        refine absurd ?_ (hi g hg (sx_nbeq.mp g1))
        rw [ei, ← g2]
        rfl
    · rw [if_neg ei]
      exact ih
theorem mt_cells_ok {c : ct_C} {t0 : sx_S} {ρ0 : Nat → Int} {Ms : Nat → Nat → Int} {ib : sx_A} (hs0 : sx_sat ly ib xs L MM ρ0 Ms t0) (hx : sx_ext t0.1 ρ0 ρ) (hfr : ct_fr c MM Ms) (hs : sx_sat ly ib xs L MM ρ M t) (h : mt_cells c t0 t = true) : ct_fr c MM M := by
  intro a i ha hm hi
  have h1 := List.all_eq_true.mp h a (List.mem_range.mpr ha)
  obtain ⟨l1, g0, l2, l3, l4⟩ := hs.2.2.2.2.2.2.1 a ha
  cases e : c.2.2.2.1.any (Nat.beq a)
  · rw [e] at h1
    cases e0 : Nat.beq (sx_tg 7 t.2.2.2 a).1 0
    · rw [e0] at h1
      cases e1 : Nat.beq (sx_tg 7 t.2.2.2 a).1 1
      · rw [e1] at h1; cases h1
      · rw [e1] at h1
        have e1 := sx_nbeq.mp e1
        rw [l3, l2 (by rw [e1]; decide)]
        exact mt_app_at (c := c) ha hs0 hx hs.2.1 (hfr a i ha hm hi) hi _ (fun q hq => (l1 q hq).2.2) h1
    · rw [l4 (sx_nbeq.mp e0)]
  · obtain ⟨b, hb, e1⟩ := List.any_eq_true.mp e
    have := sx_nbeq.mp e1
    subst this
    exact absurd hb hm
/-- it runs to what the contract says -/
def mt_fin (MT : Nat → sm_M) (LK : Nat → Nat → Option sm_L) (RO : List (Nat × (Nat → Int32))) (NV : Nat → List Value) (cq : Nat) (ly : Nat → Option sx_H) (lay : List sx_H) (rf : Nat → Nat → Option Nat) (MM : Nat → Nat → Int) (c : ct_C) (j pc : Nat) (lv : sm_V) (s : List Value) (h : sm_H) : Prop := ∃ F r M', sm_run MT LK RO NV cq F c.2.2.2.2.2.1 j pc lv s h = some (r, sx_HH lay rf M') ∧ sx_mok ly M' ∧ ct_fr c MM M' ∧ ct_g c.2.2.1 M' ∧ ct_r c.2.2.2.2.1 r
theorem mt_end_ok {ib : sx_A} {c : ct_C} {r : Option sx_V} {t0 : sx_S} {ρ0 : Nat → Int} {Ms : Nat → Nat → Int} (hs0 : sx_sat ly ib xs L MM ρ0 Ms t0) (hx : sx_ext t0.1 ρ0 ρ) (hfr : ct_fr c MM Ms) (hs : sx_sat ly ib xs L MM ρ M t) (hr : sx_rok ρ t.1 r) (h : mt_end ly c t0 t r = true) : ct_fr c MM M ∧ ct_g c.2.2.1 M ∧ ct_r c.2.2.2.2.1 (r.map (sx_cv1 ρ)) := by
  obtain ⟨h1, h2⟩ := sx_an_iff.mp h
  obtain ⟨h2, h3⟩ := sx_an_iff.mp h2
  refine ⟨mt_cells_ok hs0 hx hfr hs h1, fun g hg => ct_fg_ok hs (List.all_eq_true.mp h2 g hg), ?_⟩
  cases eq : c.2.2.2.2.1 with
  | none =>
    rw [eq] at h3
    cases r with
    | none => trivial
    | some v => cases h3
  | some q =>
    rw [eq] at h3
    cases r with
    | none => cases h3
    | some v => exact ct_fv_ok hs (hr v rfl) h3
def mt_zv : List (Nat × ct_Q) → List Value → sm_V
  | q :: qs, v :: vs => (q.1, v) :: mt_zv qs vs
  | _, _ => []
theorem mt_lv_cl (ρ : Nat → Int) : ∀ (l : List (Nat × ct_Q)) (vs : List sx_V), sx_cl1 ρ (mt_lv l vs) = mt_zv l (sx_cs1 ρ vs) := by
  intro l
  induction l with
  | nil => intro vs; rfl
  | cons q l ih =>
    intro vs
    cases vs with
    | nil => rfl
    | cons v vs => exact congrArg (List.cons _) (ih vs)
theorem mt_lv_okl {n : Nat} : ∀ {l : List (Nat × ct_Q)} {vs : List sx_V}, sx_oks ρ n vs → sx_okl ρ n (mt_lv l vs) := by
  intro l
  induction l with
  | nil => intro vs _ q hq; cases hq
  | cons q l ih =>
    intro vs h
    cases vs with
    | nil => intro w hw; cases hw
    | cons v vs =>
      intro w hw
      rcases List.mem_cons.mp hw with rfl | hw
      · exact h v List.mem_cons_self
      · exact ih (fun u hu => h u (List.mem_cons_of_mem _ hu)) w hw
theorem mt_at_ok {lv : sx_L} {n : Nat} (hl : sx_okl ρ n lv) : ∀ {l : List (Nat × ct_Q)} {vs : List sx_V}, mt_at l lv = some vs → sx_oks ρ n vs ∧ ∀ i v, sm_ld (mt_zv l (sx_cs1 ρ vs)) i = some v → sm_ld (sx_cl1 ρ lv) i = some v := by
  intro l
  induction l with
  | nil => intro vs h; cases h; exact ⟨fun v hv => (by cases hv), fun i v h => by cases h⟩
  | cons q l ih =>
    intro vs h
    have h : (match sx_lv lv q.1 with
      | some v => (match mt_at l lv with
        | some r => some (v :: r)
        | none => none)
      | none => none) = some vs := h
    cases e1 : sx_lv lv q.1 with
    | none => rw [e1] at h; cases h
    | some v =>
      rw [e1] at h
      cases e2 : mt_at l lv with
      | none => rw [e2] at h; cases h
      | some r =>
        rw [e2] at h
        have h : some (v :: r) = some vs := h
        cases h
        obtain ⟨a, b⟩ := ih e2
        refine ⟨sx_oks_cons (sx_lv_ok hl e1) a, fun i w hw => ?_⟩
        have hw : (if q.1 = i then some (sx_cv1 ρ v) else sm_ld (mt_zv l (sx_cs1 ρ r)) i) = some w := hw
        by_cases hi : q.1 = i
        · rw [if_pos hi] at hw
          rw [sx_lv_ld, ← hi, e1]
          exact hw
        · rw [if_neg hi] at hw
          exact b i w hw
theorem mt_nd_ok : ∀ {l : List Nat}, mt_nd l = true → l.Nodup := by
  intro l
  induction l with
  | nil => intro _; exact List.nodup_nil
  | cons a l ih =>
    intro h
    have h : (bif l.any (Nat.beq a) then false else mt_nd l) = true := h
    cases e : l.any (Nat.beq a)
    · rw [e] at h
      refine List.nodup_cons.mpr ⟨fun hm => ?_, ih h⟩
      have : l.any (Nat.beq a) = true := List.any_eq_true.mpr ⟨a, hm, Nat.beq_refl a⟩
      rw [this] at e
      cases e
    · rw [e] at h
      cases h
theorem mt_zv_nd : ∀ {l : List (Nat × ct_Q)} {vs : List Value}, (l.map fun q => q.1).Nodup → lo_nd (mt_zv l vs) := by
  have key : ∀ {l : List (Nat × ct_Q)} {vs : List Value} {i : Nat}, i ∈ (mt_zv l vs).map Prod.fst → i ∈ l.map fun q => q.1 := by
    intro l
    induction l with
    | nil => intro vs i h; cases vs <;> cases h
    | cons q l ih =>
      intro vs i h
      cases vs with
      | nil => cases h
      | cons v vs =>
        rcases List.mem_cons.mp (show i ∈ q.1 :: (mt_zv l vs).map Prod.fst from h) with rfl | h
        · exact List.mem_cons_self
        · exact List.mem_cons_of_mem _ (ih h)
  intro l
  induction l with
  | nil => intro vs _; cases vs <;> exact List.nodup_nil
  | cons q l ih =>
    intro vs h
    cases vs with
    | nil => exact List.nodup_nil
    | cons v vs =>
      obtain ⟨h1, h2⟩ := List.nodup_cons.mp (show (q.1 :: l.map fun q => q.1).Nodup from h)
      exact List.nodup_cons.mpr ⟨fun hm => h1 (key hm), ih h2⟩
theorem mt_cl_nd {lv : sx_L} (h : (lv.map fun q => q.1).Nodup) : lo_nd (sx_cl1 ρ lv) := by
  unfold lo_nd sx_cl1
  rw [List.map_map]
  exact h
/-- the start of a segment -/
theorem mt_tr_sat {mod : List Nat} (hL : L < 2 ^ 31) (hm : ∀ a ∈ mod, a < 128) (hok : sx_mok ly M) (hag : mt_agr mod MM M) : sx_sat ly (0, -100) xs L MM (fun s => if s = 7 then (L : Int) else 0) M (mt_tr mod) := by
  refine ⟨Nat.le_refl _, rfl, fun s => ?_, (fun q hq => by cases hq), ⟨fun q hq => (by cases hq), fun q hq => (by cases hq)⟩, hok, fun k hk => ?_, rfl, hL, by decide, fun c hc h0 => ?_⟩
  · show sx_w sx_r64 (if s = 7 then (L : Int) else 0)
    split
    · rw [sx_r64_iff]; omega
    · rw [sx_r64_iff]; omega
  · show sx_leaf _ 9 (MM k) (M k) (sx_tg 7 (ct_hav mod (sx_t0 7 (0, []))) k)
    rw [ct_hav_at hk hm]
    by_cases h : k ∈ mod
    · rw [if_pos h]
      exact ⟨(fun e he => by cases he), M k, (fun h2 => absurd rfl h2), rfl, fun h0 => by cases h0⟩
    · rw [if_neg h, sx_tg_t0]
      exact ⟨(fun e he => by cases he), MM k, (fun _ => rfl), hag k hk h, fun _ => hag k hk h⟩
  · have : sx_val (fun s => if s = 7 then (L : Int) else 0) (0, -100) = -100 := rfl
    rw [this] at h0
    omega
end
