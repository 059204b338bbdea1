section
/-! The symbolic executor is sound: whatever way the small machine goes, one of its ways is that. -/
theorem sx_le_iff {a b : Int} : sx_le a b = true ↔ a ≤ b := by
  unfold sx_le
  cases a with
  | ofNat m =>
    cases b with
    | ofNat n => simp only [Nat.ble_eq]; exact ⟨fun h => Int.ofNat_le.mpr h, fun h => Int.ofNat_le.mp h⟩
    | negSucc n => simp; omega
  | negSucc m =>
    cases b with
    | ofNat n => simp; omega
    | negSucc n => simp only [Nat.ble_eq]; omega
theorem sx_le_f {a b : Int} : sx_le a b = false ↔ b < a := by
  have h := @sx_le_iff a b
  cases e : sx_le a b
  · simp only [e, Bool.false_eq_true, false_iff] at h
    simp; omega
  · simp only [e, true_iff] at h
    simp; omega
theorem sx_eq_iff {a b : Int} : sx_eq a b = true ↔ a = b := by
  unfold sx_eq
  cases a with
  | ofNat m =>
    cases b with
    | ofNat n => exact ⟨fun h => congrArg Int.ofNat (Nat.eq_of_beq_eq_true h), fun h => by cases h; exact Nat.beq_refl _⟩
    | negSucc n => exact ⟨fun h => (by cases h), fun h => (by cases h)⟩
  | negSucc m =>
    cases b with
    | ofNat n => exact ⟨fun h => (by cases h), fun h => (by cases h)⟩
    | negSucc n => exact ⟨fun h => congrArg Int.negSucc (Nat.eq_of_beq_eq_true h), fun h => by cases h; exact Nat.beq_refl _⟩
theorem sx_eq_f {a b : Int} : sx_eq a b = false ↔ a ≠ b := by
  have h := @sx_eq_iff a b
  cases e : sx_eq a b
  · simp only [e, Bool.false_eq_true, false_iff] at h
    simp [h]
  · simp only [e, true_iff] at h
    simp [h]
theorem sx_lt_iff {a b : Int} : sx_lt a b = true ↔ a < b := by
  unfold sx_lt
  cases e : sx_le b a
  · simp only [true_iff]; exact sx_le_f.mp e
  · simp only [Bool.false_eq_true, false_iff]; have := sx_le_iff.mp e; omega
theorem sx_lt_f {a b : Int} : sx_lt a b = false ↔ b ≤ a := by
  have h := @sx_lt_iff a b
  cases e : sx_lt a b
  · simp only [e, Bool.false_eq_true, false_iff] at h
    simp; omega
  · simp only [e, true_iff] at h
    simp; omega
theorem sx_an_iff {a b : Bool} : sx_an a b = true ↔ a = true ∧ b = true := by cases a <;> simp [sx_an]
theorem sx_mx_ge {a b c : Int} (h1 : a ≤ c) (h2 : b ≤ c) : sx_mx a b ≤ c := by
  unfold sx_mx; cases sx_le a b <;> simp [h1, h2]
theorem sx_mn_le {a b c : Int} (h1 : c ≤ a) (h2 : c ≤ b) : c ≤ sx_mn a b := by
  unfold sx_mn; cases sx_le a b <;> simp [h1, h2]
theorem sx_mx_ge1 (a b : Int) : a ≤ sx_mx a b ∧ b ≤ sx_mx a b := by
  unfold sx_mx
  cases e : sx_le a b
  · have := sx_le_f.mp e; simp; omega
  · have := sx_le_iff.mp e; simp; omega
theorem sx_mn_le1 (a b : Int) : sx_mn a b ≤ a ∧ sx_mn a b ≤ b := by
  unfold sx_mn
  cases e : sx_le a b
  · have := sx_le_f.mp e; simp; omega
  · have := sx_le_iff.mp e; simp; omega
theorem sx_bt {α : Type} {b : Bool} {x y : α} (h : b = true) : (bif b then x else y) = x := by rw [h]; rfl
theorem sx_bfalse {α : Type} {b : Bool} {x y : α} (h : b = false) : (bif b then x else y) = y := by rw [h]; rfl
/-- a value is what a condition lets through -/
theorem sx_bif {α : Type} {b : Bool} {x : Option α} {v : α} (h : (bif b then x else none) = some v) : b = true ∧ x = some v := by
  cases b
  · cases h
  · exact ⟨rfl, h⟩
theorem sx_bin' {α : Type} {b : Bool} {x : Option α} {v : α} (h : (bif b then none else x) = some v) : b = false ∧ x = some v := by
  cases b
  · exact ⟨rfl, h⟩
  · cases h
theorem sx_in_iff {p r : Int × Int} : sx_in p r = true ↔ r.1 ≤ p.1 ∧ p.2 ≤ r.2 := by
  unfold sx_in; rw [sx_an_iff, sx_le_iff, sx_le_iff]
theorem sx_nbeq {a b : Nat} : Nat.beq a b = true ↔ a = b := by simp
theorem sx_nbeq_f {a b : Nat} : Nat.beq a b = false ↔ a ≠ b := by
  rw [← Bool.not_eq_true, sx_nbeq]
-- meaning
def sx_val (ρ : Nat → Int) (a : sx_A) : Int := ρ a.1 + a.2
def sx_w (r : Int × Int) (z : Int) : Prop := r.1 ≤ z ∧ z ≤ r.2
def sx_cv1 (ρ : Nat → Int) (v : sx_V) : Value := match v.1 with
  | 0 => .int (Int32.ofInt (sx_val ρ v.2))
  | 1 => .long (Int64.ofInt (sx_val ρ v.2))
  | _ => .ref v.2.2.toNat
def sx_cl1 (ρ : Nat → Int) (lv : sx_L) : sm_V := lv.map fun q => (q.1, sx_cv1 ρ q.2)
def sx_cs1 (ρ : Nat → Int) (s : List sx_V) : List Value := s.map (sx_cv1 ρ)
/-- a value is well: its symbol is there, it is in its type's range -/
def sx_ok (ρ : Nat → Int) (n : Nat) (v : sx_V) : Prop := v.2.1 < n ∧ (v.1 = 0 → sx_w sx_r32 (sx_val ρ v.2)) ∧ (v.1 = 1 → sx_w sx_r64 (sx_val ρ v.2))
def sx_oks (ρ : Nat → Int) (n : Nat) (s : List sx_V) : Prop := ∀ v ∈ s, sx_ok ρ n v
def sx_okl (ρ : Nat → Int) (n : Nat) (lv : sx_L) : Prop := ∀ q ∈ lv, sx_ok ρ n q.2
def sx_up (M : Nat → Nat → Int) (k i : Nat) (v : Int) : Nat → Nat → Int := fun k' i' => if k' = k then (if i' = i then v else M k' i') else M k' i'
def sx_fup (g : Nat → Int) (i : Nat) (v : Int) : Nat → Int := fun j => if j = i then v else g j
def sx_app (ρ : Nat → Int) (es : List (sx_A × sx_A)) (g : Nat → Int) : Nat → Int := es.foldr (fun e g => sx_fup g (sx_val ρ e.1).toNat (sx_val ρ e.2)) g
def sx_leaf (ρ : Nat → Int) (n : Nat) (M0 g : Nat → Int) (l : sx_F) : Prop := (∀ e ∈ l.2, e.1.1 < n ∧ e.2.1 < n ∧ 0 ≤ sx_val ρ e.1) ∧ ∃ g0, (l.1 = false → g0 = M0) ∧ g = sx_app ρ l.2 g0
def sx_sz (h : sx_H) : Nat := if h.1 = 0 then h.2.2.1 else h.2.2.2.2.length
/-- what a cell may hold at i -/
def sx_rgo (h : sx_H) (i : Nat) : Option (Int × Int) := if h.1 = 0 then (if h.2.1 = 4 then none else some h.2.2.2.1) else match h.2.2.2.2[i]? with
  | some f => if f.1 = 3 then none else some f.2.1
  | none => none
def sx_mok (ly : Nat → Option sx_H) (M : Nat → Nat → Int) : Prop := ∀ k h i r, ly k = some h → i < sx_sz h → sx_rgo h i = some r → sx_w r (M k i)
def sx_rof (ib : sx_A) (xs : Nat → Int32) (L : Nat) (ρ : Nat → Int) : Prop := ρ 7 = (L : Int) ∧ L < 2 ^ 31 ∧ ib.1 < 8 ∧ ∀ c : Nat, c < 6 → 0 ≤ sx_val ρ ib + c → sx_val ρ ib + c < L ∧ ρ (c + 1) = (xs (sx_val ρ ib + c).toNat).toInt
def sx_sat (ly : Nat → Option sx_H) (ib : sx_A) (xs : Nat → Int32) (L : Nat) (M0 : Nat → Nat → Int) (ρ : Nat → Int) (M : Nat → Nat → Int) (t : sx_S) : Prop :=
  8 ≤ t.1 ∧ ρ 0 = 0 ∧ (∀ s, sx_w sx_r64 (ρ s)) ∧ (∀ q ∈ t.2.1, q.1 < t.1 ∧ sx_w q.2 (ρ q.1)) ∧ (∀ q ∈ t.2.2.1, q.1 < t.1 ∧ ρ q.1 ≠ q.2) ∧ sx_mok ly M ∧ (∀ k, k < 128 → sx_leaf ρ t.1 (M0 k) (M k) (sx_tg 7 t.2.2.2 k)) ∧ sx_rof ib xs L ρ
def sx_ext (n : Nat) (ρ ρ' : Nat → Int) : Prop := ∀ s, s < n → ρ' s = ρ s
theorem sx_ext_rfl {n : Nat} {ρ : Nat → Int} : sx_ext n ρ ρ := fun _ _ => rfl
theorem sx_ext_val {n : Nat} {ρ ρ' : Nat → Int} (h : sx_ext n ρ ρ') {a : sx_A} (ha : a.1 < n) : sx_val ρ' a = sx_val ρ a := by
  unfold sx_val; rw [h _ ha]
theorem sx_ext_cv {n : Nat} {ρ ρ' : Nat → Int} (h : sx_ext n ρ ρ') {v : sx_V} (ha : v.2.1 < n) : sx_cv1 ρ' v = sx_cv1 ρ v := by
  unfold sx_cv1; rw [sx_ext_val h ha]
theorem sx_ext_cs {n : Nat} {ρ ρ' : Nat → Int} (h : sx_ext n ρ ρ') {s : List sx_V} (ha : sx_oks ρ n s) : sx_cs1 ρ' s = sx_cs1 ρ s :=
  List.map_congr_left fun v hv => sx_ext_cv h (ha v hv).1
theorem sx_ext_cl {n : Nat} {ρ ρ' : Nat → Int} (h : sx_ext n ρ ρ') {s : sx_L} (ha : sx_okl ρ n s) : sx_cl1 ρ' s = sx_cl1 ρ s :=
  List.map_congr_left fun v hv => by rw [sx_ext_cv h (ha v hv).1]
theorem sx_ext_ok {n m : Nat} {ρ ρ' : Nat → Int} (h : sx_ext n ρ ρ') (hm : n ≤ m) {v : sx_V} (ha : sx_ok ρ n v) : sx_ok ρ' m v :=
  ⟨Nat.lt_of_lt_of_le ha.1 hm, by rw [sx_ext_val h ha.1]; exact ha.2⟩
theorem sx_ext_oks {n m : Nat} {ρ ρ' : Nat → Int} (h : sx_ext n ρ ρ') (hm : n ≤ m) {s : List sx_V} (ha : sx_oks ρ n s) : sx_oks ρ' m s := fun v hv => sx_ext_ok h hm (ha v hv)
theorem sx_ext_okl {n m : Nat} {ρ ρ' : Nat → Int} (h : sx_ext n ρ ρ') (hm : n ≤ m) {s : sx_L} (ha : sx_okl ρ n s) : sx_okl ρ' m s := fun v hv => sx_ext_ok h hm (ha v hv)
theorem sx_ext_tr {n m : Nat} {ρ ρ' ρ'' : Nat → Int} (h : sx_ext n ρ ρ') (h' : sx_ext m ρ' ρ'') (hm : n ≤ m) : sx_ext n ρ ρ'' := fun s hs => by rw [h' s (Nat.lt_of_lt_of_le hs hm), h s hs]
theorem sx_app_ext {n : Nat} {ρ ρ' : Nat → Int} (h : sx_ext n ρ ρ') : ∀ (es : List (sx_A × sx_A)) (g : Nat → Int), (∀ e ∈ es, e.1.1 < n ∧ e.2.1 < n ∧ 0 ≤ sx_val ρ e.1) → sx_app ρ' es g = sx_app ρ es g := by
  intro es g
  induction es with
  | nil => intro _; rfl
  | cons e es ih =>
    intro hh
    show sx_fup (sx_app ρ' es g) _ _ = sx_fup (sx_app ρ es g) _ _
    rw [ih (fun e he => hh e (List.mem_cons_of_mem _ he)), sx_ext_val h (hh e List.mem_cons_self).1, sx_ext_val h (hh e List.mem_cons_self).2.1]
theorem sx_leaf_ext {n m : Nat} {ρ ρ' : Nat → Int} (h : sx_ext n ρ ρ') (hm : n ≤ m) {M0 g : Nat → Int} {l : sx_F} (hl : sx_leaf ρ n M0 g l) : sx_leaf ρ' m M0 g l := by
  obtain ⟨h1, g0, h2, h3⟩ := hl
  refine ⟨fun e he => ⟨Nat.lt_of_lt_of_le (h1 e he).1 hm, Nat.lt_of_lt_of_le (h1 e he).2.1 hm, ?_⟩, g0, h2, ?_⟩
  · rw [sx_ext_val h (h1 e he).1]; exact (h1 e he).2.2
  · rw [h3, sx_app_ext h _ _ h1]
/-- a fresh symbol -/
def sx_nu (ρ : Nat → Int) (n : Nat) (z : Int) : Nat → Int := fun s => if s = n then z else ρ s
theorem sx_nu_ext {ρ : Nat → Int} {n : Nat} {z : Int} : sx_ext n ρ (sx_nu ρ n z) := fun s hs => by unfold sx_nu; rw [if_neg (Nat.ne_of_lt hs)]
theorem sx_nu_at {ρ : Nat → Int} {n : Nat} {z : Int} : sx_val (sx_nu ρ n z) (n, 0) = z := by unfold sx_val sx_nu; simp
theorem sx_rof_ext {ib : sx_A} {xs : Nat → Int32} {L : Nat} {ρ ρ' : Nat → Int} {n : Nat} (h : sx_ext n ρ ρ') (hn : 8 ≤ n) (hr : sx_rof ib xs L ρ) : sx_rof ib xs L ρ' := by
  obtain ⟨h1, h2, h3, h4⟩ := hr
  refine ⟨by rw [h 7 (by omega)]; exact h1, h2, h3, fun c hc => ?_⟩
  rw [sx_ext_val h (by omega), h (c + 1) (by omega)]
  exact h4 c hc
variable {ly : Nat → Option sx_H} {ib : sx_A} {xs : Nat → Int32} {L : Nat} {M0 : Nat → Nat → Int}
theorem sx_sat_fresh {ρ : Nat → Int} {M : Nat → Nat → Int} {t : sx_S} (hs : sx_sat ly ib xs L M0 ρ M t) {r : Int × Int} {z : Int} (hz : sx_w r z) (h64 : sx_w sx_r64 z) : sx_sat ly ib xs L M0 (sx_nu ρ t.1 z) M (sx_fresh t r).2 := by
  obtain ⟨h1, h2, h3, h4, h5, h6, h7, h8⟩ := hs
  have he : sx_ext t.1 ρ (sx_nu ρ t.1 z) := sx_nu_ext
  refine ⟨Nat.le_succ_of_le h1, by rw [he 0 (by omega)]; exact h2, fun s => ?_, ?_, fun q hq => ⟨Nat.lt_succ_of_lt (h5 q hq).1, ?_⟩, h6, fun k hk => sx_leaf_ext he (Nat.le_succ _) (h7 k hk), sx_rof_ext he h1 h8⟩
  · unfold sx_nu
    split
    · exact h64
    · exact h3 s
  · intro q hq
    rcases List.mem_cons.mp hq with rfl | hq
    · refine ⟨Nat.lt_succ_self _, ?_⟩
      show sx_w r (sx_nu ρ t.1 z t.1)
      unfold sx_nu; rw [if_pos rfl]; exact hz
    · exact ⟨Nat.lt_succ_of_lt (h4 q hq).1, by rw [he _ (h4 q hq).1]; exact (h4 q hq).2⟩
  · rw [he _ (h5 q hq).1]; exact (h5 q hq).2
-- what is known of symbols
theorem sx_fi_ok {ρ : Nat → Int} (h3 : ∀ s, sx_w sx_r64 (ρ s)) (s : Nat) : ∀ (F : List (Nat × Int × Int)), (∀ q ∈ F, sx_w q.2 (ρ q.1)) → sx_w (sx_fi F s) (ρ s) := by
  intro F
  induction F with
  | nil => intro _; exact h3 s
  | cons q F ih =>
    intro h
    show sx_w (bif Nat.beq q.1 s then q.2 else sx_fi F s) (ρ s)
    cases e : Nat.beq q.1 s
    · exact ih fun q hq => h q (List.mem_cons_of_mem _ hq)
    · have := sx_nbeq.mp e; subst this
      exact h q List.mem_cons_self
theorem sx_nh_ok {ρ : Nat → Int} (s : Nat) (v : Int) : ∀ (N : List (Nat × Int)), (∀ q ∈ N, ρ q.1 ≠ q.2) → sx_nh N s v = true → ρ s ≠ v := by
  intro N
  induction N with
  | nil => intro _ h; cases h
  | cons q N ih =>
    intro h e
    have e : (bif sx_an (Nat.beq q.1 s) (sx_eq q.2 v) then true else sx_nh N s v) = true := e
    cases e2 : sx_an (Nat.beq q.1 s) (sx_eq q.2 v)
    · rw [e2] at e
      exact ih (fun q hq => h q (List.mem_cons_of_mem _ hq)) e
    · have := sx_an_iff.mp e2
      have h1 := sx_nbeq.mp this.1
      have h2 := sx_eq_iff.mp this.2
      rw [← h1, ← h2]
      exact h q List.mem_cons_self
theorem sx_ti_ok {ρ : Nat → Int} {N : List (Nat × Int)} (hN : ∀ q ∈ N, ρ q.1 ≠ q.2) (s : Nat) : ∀ (n : Nat) (p : Int × Int), sx_w p (ρ s) → sx_w (sx_ti N s n p) (ρ s) := by
  intro n
  induction n with
  | zero => intro p h; exact h
  | succ n ih =>
    intro p h
    show sx_w (bif sx_nh N s p.1 then sx_ti N s n (p.1 + 1, p.2) else bif sx_nh N s p.2 then sx_ti N s n (p.1, p.2 - 1) else p) (ρ s)
    cases e1 : sx_nh N s p.1
    · cases e2 : sx_nh N s p.2
      · exact h
      · have := sx_nh_ok s _ N hN e2
        refine ih _ ⟨h.1, ?_⟩
        have := h.2
        show ρ s ≤ p.2 - 1
        omega
    · have := sx_nh_ok s _ N hN e1
      refine ih _ ⟨?_, h.2⟩
      have := h.1
      show p.1 + 1 ≤ ρ s
      omega
theorem sx_si_ok {ρ : Nat → Int} {M : Nat → Nat → Int} {t : sx_S} (hs : sx_sat ly ib xs L M0 ρ M t) (s : Nat) : sx_w (sx_si t s) (ρ s) :=
  sx_ti_ok (fun q hq => (hs.2.2.2.2.1 q hq).2) s 4 _ (sx_fi_ok hs.2.2.1 s _ fun q hq => (hs.2.2.2.1 q hq).2)
theorem sx_iv_ok {ρ : Nat → Int} {M : Nat → Nat → Int} {t : sx_S} (hs : sx_sat ly ib xs L M0 ρ M t) (a : sx_A) : sx_w (sx_iv t a) (sx_val ρ a) := by
  unfold sx_iv
  cases e : Nat.beq a.1 0
  · have h := sx_si_ok hs a.1
    have h1 := h.1
    have h2 := h.2
    unfold sx_val
    exact ⟨by show (sx_si t a.1).1 + a.2 ≤ _; omega, by show _ ≤ (sx_si t a.1).2 + a.2; omega⟩
  · have h := sx_nbeq.mp e
    unfold sx_val
    rw [h, hs.2.1]
    exact ⟨by show a.2 ≤ _; omega, by show _ ≤ a.2; omega⟩
theorem sx_k_ok {ρ : Nat → Int} {M : Nat → Nat → Int} {t : sx_S} (hs : sx_sat ly ib xs L M0 ρ M t) {a : sx_A} {c : Int} (h : sx_k t a = some c) : sx_val ρ a = c := by
  unfold sx_k at h
  have hi := sx_iv_ok hs a
  cases e : Nat.beq a.1 0
  · rw [e] at h
    have h : (bif sx_eq (sx_iv t a).1 (sx_iv t a).2 then some (sx_iv t a).1 else none) = some c := h
    obtain ⟨h1, h2⟩ := sx_bif h
    have h1 := sx_eq_iff.mp h1
    have h2 := Option.some.inj h2
    have := hi.1
    have := hi.2
    omega
  · rw [e] at h
    have h := Option.some.inj h
    have e := sx_nbeq.mp e
    unfold sx_val
    rw [e, hs.2.1, h]; omega
theorem sx_n_ok {ρ : Nat → Int} {M : Nat → Nat → Int} {t : sx_S} (hs : sx_sat ly ib xs L M0 ρ M t) {a : sx_A} (ha : a.1 < t.1) : sx_val ρ (sx_n t a) = sx_val ρ a ∧ (sx_n t a).1 < t.1 := by
  unfold sx_n
  split
  · rename_i c e
    rw [sx_k_ok hs e]
    exact ⟨by unfold sx_val; rw [hs.2.1]; show 0 + c = c; omega, by show 0 < t.1; have := hs.1; omega⟩
  · exact ⟨rfl, ha⟩
theorem sx_ff_mem {s : Nat} {q : Nat × Int × Int} : ∀ {F : List (Nat × Int × Int)}, q ∈ sx_ff s F → q ∈ F := by
  intro F
  induction F with
  | nil => intro h; exact h
  | cons w F ih =>
    intro h
    have h : q ∈ (bif Nat.beq w.1 s then sx_ff s F else w :: sx_ff s F) := h
    cases e : Nat.beq w.1 s
    · rw [e] at h
      rcases List.mem_cons.mp h with rfl | h
      · exact List.mem_cons_self
      · exact List.mem_cons_of_mem _ (ih h)
    · rw [e] at h
      exact List.mem_cons_of_mem _ (ih h)
theorem sx_cap_ok {ρ : Nat → Int} {M : Nat → Nat → Int} {t : sx_S} (hs : sx_sat ly ib xs L M0 ρ M t) {a : sx_A} (ha : a.1 < t.1) {lo hi : Int} (h1 : lo ≤ sx_val ρ a) (h2 : sx_val ρ a ≤ hi) : sx_sat ly ib xs L M0 ρ M (sx_cap t a lo hi) ∧ (sx_cap t a lo hi).1 = t.1 := by
  unfold sx_cap
  cases e : Nat.beq a.1 0
  · refine ⟨⟨hs.1, hs.2.1, hs.2.2.1, fun q hq => ?_, hs.2.2.2.2⟩, rfl⟩
    rcases List.mem_cons.mp hq with rfl | hq
    · have h := sx_si_ok hs a.1
      unfold sx_val at h1 h2
      exact ⟨ha, sx_mx_ge h.1 (by show lo - a.2 ≤ ρ a.1; omega), sx_mn_le h.2 (by show ρ a.1 ≤ hi - a.2; omega)⟩
    · exact hs.2.2.2.1 q (sx_ff_mem hq)
  · exact ⟨hs, rfl⟩
theorem sx_not_ok {ρ : Nat → Int} {M : Nat → Nat → Int} {t : sx_S} (hs : sx_sat ly ib xs L M0 ρ M t) {a : sx_A} (ha : a.1 < t.1) {v : Int} (h1 : sx_val ρ a ≠ v) : sx_sat ly ib xs L M0 ρ M (sx_not t a v) ∧ (sx_not t a v).1 = t.1 := by
  unfold sx_not
  cases e : Nat.beq a.1 0
  · refine ⟨⟨hs.1, hs.2.1, hs.2.2.1, hs.2.2.2.1, fun q hq => ?_, hs.2.2.2.2.2⟩, rfl⟩
    rcases List.mem_cons.mp hq with rfl | hq
    · unfold sx_val at h1
      exact ⟨ha, by show ρ a.1 ≠ v - a.2; omega⟩
    · exact hs.2.2.2.2.1 q hq
  · exact ⟨hs, rfl⟩
-- branches
theorem sx_fe_mem {ρ : Nat → Int} {M : Nat → Nat → Int} {t : sx_S} (hs : sx_sat ly ib xs L M0 ρ M t) (x y : sx_A) (b : Bool) (l : List (Bool × sx_S)) : (b, t) ∈ sx_fe t x y b l := by
  unfold sx_fe
  have h1 := sx_iv_ok hs x
  have h2 := sx_iv_ok hs y
  rw [sx_bt (sx_an_iff.mpr ⟨sx_le_iff.mpr (Int.le_trans h1.1 h1.2), sx_le_iff.mpr (Int.le_trans h2.1 h2.2)⟩)]
  exact List.mem_cons_self
theorem sx_fe_sub {t : sx_S} {x y : sx_A} {b : Bool} {l : List (Bool × sx_S)} {q : Bool × sx_S} (h : q ∈ l) : q ∈ sx_fe t x y b l := by
  unfold sx_fe
  cases sx_an (sx_le (sx_iv t x).1 (sx_iv t x).2) (sx_le (sx_iv t y).1 (sx_iv t y).2)
  · exact h
  · exact List.mem_cons_of_mem _ h
theorem sx_w64 {ρ : Nat → Int} {M : Nat → Nat → Int} {t : sx_S} (hs : sx_sat ly ib xs L M0 ρ M t) (s : Nat) : sx_lo64 ≤ ρ s ∧ ρ s ≤ sx_hi64 := hs.2.2.1 s
theorem sx_cap_lo {ρ : Nat → Int} {M : Nat → Nat → Int} {t : sx_S} (hs : sx_sat ly ib xs L M0 ρ M t) {a : sx_A} (ha : a.1 < t.1) (wa : sx_w sx_r64 (sx_val ρ a)) {hi : Int} (h2 : sx_val ρ a ≤ hi) : sx_sat ly ib xs L M0 ρ M (sx_cap t a sx_lo64 hi) ∧ (sx_cap t a sx_lo64 hi).1 = t.1 := sx_cap_ok hs ha wa.1 h2
theorem sx_cap_hi {ρ : Nat → Int} {M : Nat → Nat → Int} {t : sx_S} (hs : sx_sat ly ib xs L M0 ρ M t) {a : sx_A} (ha : a.1 < t.1) (wa : sx_w sx_r64 (sx_val ρ a)) {lo : Int} (h2 : lo ≤ sx_val ρ a) : sx_sat ly ib xs L M0 ρ M (sx_cap t a lo sx_hi64) ∧ (sx_cap t a lo sx_hi64).1 = t.1 := sx_cap_ok hs ha h2 wa.2
theorem sx_clt_ok {ρ : Nat → Int} {M : Nat → Nat → Int} {t : sx_S} (hs : sx_sat ly ib xs L M0 ρ M t) {x y : sx_A} (hx : x.1 < t.1) (hy : y.1 < t.1) (wx : sx_w sx_r64 (sx_val ρ x)) (wy : sx_w sx_r64 (sx_val ρ y)) : ∃ q ∈ sx_clt t x y, q.1 = decide (sx_val ρ x < sx_val ρ y) ∧ sx_sat ly ib xs L M0 ρ M q.2 ∧ q.2.1 = t.1 := by
  have h1 := sx_iv_ok hs x
  have h2 := sx_iv_ok hs y
  unfold sx_clt
  cases e1 : sx_lt (sx_iv t x).2 (sx_iv t y).1
  · rw [sx_bfalse rfl]
    cases e2 : sx_le (sx_iv t y).2 (sx_iv t x).1
    · rw [sx_bfalse rfl]
      cases e3 : Nat.beq x.1 y.1
      · rw [sx_bfalse rfl]
        by_cases hlt : sx_val ρ x < sx_val ρ y
        · obtain ⟨a1, a2⟩ := sx_cap_lo hs hx wx (hi := (sx_iv t y).2 - 1) (by have := h2.2; omega)
          obtain ⟨b1, b2⟩ := sx_cap_hi a1 (a := y) (by rw [a2]; exact hy) wy (lo := (sx_iv t x).1 + 1) (by have := h1.1; omega)
          exact ⟨_, sx_fe_mem b1 x y true _, (decide_eq_true hlt).symm, b1, b2.trans a2⟩
        · obtain ⟨a1, a2⟩ := sx_cap_hi hs hx wx (lo := (sx_iv t y).1) (by have := h2.1; omega)
          obtain ⟨b1, b2⟩ := sx_cap_lo a1 (a := y) (by rw [a2]; exact hy) wy (hi := (sx_iv t x).2) (by have := h1.2; omega)
          exact ⟨_, sx_fe_sub (sx_fe_mem b1 x y false _), (decide_eq_false hlt).symm, b1, b2.trans a2⟩
      · rw [sx_bt rfl]
        have e3 := sx_nbeq.mp e3
        refine ⟨_, List.mem_singleton.mpr rfl, ?_, hs, rfl⟩
        unfold sx_val
        rw [e3]
        by_cases hlt : x.2 < y.2
        · rw [sx_lt_iff.mpr hlt]; exact (decide_eq_true (by omega)).symm
        · rw [sx_lt_f.mpr (by omega)]; exact (decide_eq_false (by omega)).symm
    · rw [sx_bt rfl]
      have e2 := sx_le_iff.mp e2
      refine ⟨_, List.mem_singleton.mpr rfl, (decide_eq_false ?_).symm, hs, rfl⟩
      have := h1.1; have := h2.2; omega
  · rw [sx_bt rfl]
    have e1 := sx_lt_iff.mp e1
    refine ⟨_, List.mem_singleton.mpr rfl, (decide_eq_true ?_).symm, hs, rfl⟩
    have := h1.2; have := h2.1; omega
theorem sx_nes_ok {ρ : Nat → Int} {M : Nat → Nat → Int} {t : sx_S} (hs : sx_sat ly ib xs L M0 ρ M t) {x y : sx_A} (h : sx_nes t x y = true) : sx_val ρ x ≠ sx_val ρ y := by
  unfold sx_nes at h
  split at h
  · rename_i c e
    rw [sx_k_ok hs e]
    have := sx_nh_ok (ρ := ρ) _ _ _ (fun q hq => (hs.2.2.2.2.1 q hq).2) h
    unfold sx_val
    omega
  · cases h
theorem sx_nek_ok {ρ : Nat → Int} {M : Nat → Nat → Int} {t u : sx_S} (hs : sx_sat ly ib xs L M0 ρ M t) (hu : sx_sat ly ib xs L M0 ρ M u) {x y : sx_A} (hx : x.1 < u.1) (h : sx_val ρ x ≠ sx_val ρ y) : sx_sat ly ib xs L M0 ρ M (sx_nek t u x y) ∧ (sx_nek t u x y).1 = u.1 := by
  unfold sx_nek
  split
  · rename_i c e
    rw [sx_k_ok hs e] at h
    exact sx_not_ok hu hx h
  · exact ⟨hu, rfl⟩
theorem sx_ceq_ok {ρ : Nat → Int} {M : Nat → Nat → Int} {t : sx_S} (hs : sx_sat ly ib xs L M0 ρ M t) {x y : sx_A} (hx : x.1 < t.1) (hy : y.1 < t.1) : ∃ q ∈ sx_ceq t x y, q.1 = decide (sx_val ρ x = sx_val ρ y) ∧ sx_sat ly ib xs L M0 ρ M q.2 ∧ q.2.1 = t.1 := by
  have h1 := sx_iv_ok hs x
  have h2 := sx_iv_ok hs y
  unfold sx_ceq
  cases e1 : sx_lt (sx_iv t x).2 (sx_iv t y).1
  · rw [sx_bfalse rfl]
    cases e2 : sx_lt (sx_iv t y).2 (sx_iv t x).1
    · rw [sx_bfalse rfl]
      cases e3 : Nat.beq x.1 y.1
      · rw [sx_bfalse rfl]
        split
        · rename_i a b ea eb
          refine ⟨_, List.mem_singleton.mpr rfl, ?_, hs, rfl⟩
          rw [sx_k_ok hs ea, sx_k_ok hs eb]
          by_cases hq : a = b
          · rw [sx_eq_iff.mpr hq]; exact (decide_eq_true hq).symm
          · rw [sx_eq_f.mpr hq]; exact (decide_eq_false hq).symm
        · cases e4 : sx_nes t x y
          · rw [sx_bfalse rfl]
            cases e5 : sx_nes t y x
            · rw [sx_bfalse rfl]
              by_cases hq : sx_val ρ x = sx_val ρ y
              · obtain ⟨a1, a2⟩ := sx_cap_ok hs hx (lo := (sx_iv t y).1) (hi := (sx_iv t y).2) (by have := h2.1; omega) (by have := h2.2; omega)
                obtain ⟨b1, b2⟩ := sx_cap_ok a1 (a := y) (by rw [a2]; exact hy) (lo := (sx_iv t x).1) (hi := (sx_iv t x).2) (by have := h1.1; omega) (by have := h1.2; omega)
                exact ⟨_, sx_fe_mem b1 x y true _, (decide_eq_true hq).symm, b1, b2.trans a2⟩
              · obtain ⟨a1, a2⟩ := sx_nek_ok hs hs hx hq
                obtain ⟨b1, b2⟩ := sx_nek_ok hs a1 (x := y) (y := x) (by rw [a2]; exact hy) (fun h => hq h.symm)
                exact ⟨_, sx_fe_sub (sx_fe_mem b1 x y false _), (decide_eq_false hq).symm, b1, b2.trans a2⟩
            · rw [sx_bt rfl]
              exact ⟨_, List.mem_singleton.mpr rfl, (decide_eq_false (fun h => sx_nes_ok hs e5 h.symm)).symm, hs, rfl⟩
          · rw [sx_bt rfl]
            exact ⟨_, List.mem_singleton.mpr rfl, (decide_eq_false (sx_nes_ok hs e4)).symm, hs, rfl⟩
      · rw [sx_bt rfl]
        have e3 := sx_nbeq.mp e3
        refine ⟨_, List.mem_singleton.mpr rfl, ?_, hs, rfl⟩
        unfold sx_val
        rw [e3]
        by_cases hlt : x.2 = y.2
        · rw [sx_eq_iff.mpr hlt]; exact (decide_eq_true (by omega)).symm
        · rw [sx_eq_f.mpr hlt]; exact (decide_eq_false (by omega)).symm
    · rw [sx_bt rfl]
      have e2 := sx_lt_iff.mp e2
      refine ⟨_, List.mem_singleton.mpr rfl, (decide_eq_false ?_).symm, hs, rfl⟩
      have := h1.1; have := h2.2; omega
  · rw [sx_bt rfl]
    have e1 := sx_lt_iff.mp e1
    refine ⟨_, List.mem_singleton.mpr rfl, (decide_eq_false ?_).symm, hs, rfl⟩
    have := h1.2; have := h2.1; omega
theorem sx_neg_ok {P : sx_S → Prop} {l : List (Bool × sx_S)} {b c : Bool} (hc : c = !b) (h : ∃ q ∈ l, q.1 = b ∧ P q.2) : ∃ q ∈ sx_neg l, q.1 = c ∧ P q.2 := by
  obtain ⟨q, hq, e, hp⟩ := h
  refine ⟨_, List.mem_map.mpr ⟨q, hq, rfl⟩, ?_, hp⟩
  show (bif q.1 then false else true) = c
  rw [hc, e]
  cases b <;> rfl
theorem sx_r32_iff {z : Int} : sx_w sx_r32 z ↔ -2147483648 ≤ z ∧ z ≤ 2147483647 := Iff.rfl
theorem sx_r64_iff {z : Int} : sx_w sx_r64 z ↔ -9223372036854775808 ≤ z ∧ z ≤ 9223372036854775807 := Iff.rfl
theorem sx_32_64 {z : Int} (h : sx_w sx_r32 z) : sx_w sx_r64 z := by
  rw [sx_r32_iff] at h
  rw [sx_r64_iff]
  omega
theorem sx_b32 {z : Int} (h : sx_w sx_r32 z) : -2 ^ 31 ≤ z ∧ z < 2 ^ 31 := by
  rw [sx_r32_iff] at h
  omega
theorem sx_b64 {z : Int} (h : sx_w sx_r64 z) : -2 ^ 63 ≤ z ∧ z < 2 ^ 63 := by
  rw [sx_r64_iff] at h
  omega
theorem sx_i32 {z : Int} (h : sx_w sx_r32 z) : (Int32.ofInt z).toInt = z := Int32.toInt_ofInt_of_le (sx_b32 h).1 (sx_b32 h).2
theorem sx_i64 {z : Int} (h : sx_w sx_r64 z) : (Int64.ofInt z).toInt = z := Int64.toInt_ofInt_of_le (sx_b64 h).1 (sx_b64 h).2
theorem sx_w32 (x : Int32) : sx_w sx_r32 x.toInt := by
  have h1 := Int32.le_toInt x
  have h2 := Int32.toInt_lt x
  rw [sx_r32_iff]
  omega
theorem sx_w64' (x : Int64) : sx_w sx_r64 x.toInt := by
  have h1 := Int64.le_toInt x
  have h2 := Int64.toInt_lt x
  rw [sx_r64_iff]
  omega
theorem sx_lt32 {a b : Int} (ha : sx_w sx_r32 a) (hb : sx_w sx_r32 b) : (Int32.ofInt a < Int32.ofInt b) ↔ a < b := by rw [Int32.lt_iff_toInt_lt, sx_i32 ha, sx_i32 hb]
theorem sx_le32 {a b : Int} (ha : sx_w sx_r32 a) (hb : sx_w sx_r32 b) : (Int32.ofInt a ≤ Int32.ofInt b) ↔ a ≤ b := by rw [Int32.le_iff_toInt_le, sx_i32 ha, sx_i32 hb]
theorem sx_eq32 {a b : Int} (ha : sx_w sx_r32 a) (hb : sx_w sx_r32 b) : (Int32.ofInt a = Int32.ofInt b) ↔ a = b := by rw [← Int32.toInt_inj, sx_i32 ha, sx_i32 hb]
theorem sx_eq64 {a b : Int} (ha : sx_w sx_r64 a) (hb : sx_w sx_r64 b) : (Int64.ofInt a = Int64.ofInt b) ↔ a = b := by rw [← Int64.toInt_inj, sx_i64 ha, sx_i64 hb]
theorem sx_lt64 {a b : Int} (ha : sx_w sx_r64 a) (hb : sx_w sx_r64 b) : (Int64.ofInt a < Int64.ofInt b) ↔ a < b := by rw [Int64.lt_iff_toInt_lt, sx_i64 ha, sx_i64 hb]
theorem sx_cmp_ok {ρ : Nat → Int} {M : Nat → Nat → Int} {t : sx_S} (hs : sx_sat ly ib xs L M0 ρ M t) {x y : sx_A} (hx : x.1 < t.1) (hy : y.1 < t.1) (wx : sx_w sx_r32 (sx_val ρ x)) (wy : sx_w sx_r32 (sx_val ρ y)) (c : Jvm.ClassFile.Cond) : ∃ q ∈ sx_cmp c t x y, q.1 = sm_c2 c (Int32.ofInt (sx_val ρ x)) (Int32.ofInt (sx_val ρ y)) ∧ sx_sat ly ib xs L M0 ρ M q.2 ∧ q.2.1 = t.1 := by
  have A := sx_clt_ok hs hx hy (sx_32_64 wx) (sx_32_64 wy)
  have B := sx_clt_ok hs hy hx (sx_32_64 wy) (sx_32_64 wx)
  have C := sx_ceq_ok hs hx hy
  cases c
  · unfold sx_cmp sm_c2
    rw [decide_eq_decide.mpr (sx_eq32 wx wy)]
    exact C
  · unfold sx_cmp sm_c2
    refine sx_neg_ok (P := fun q => sx_sat ly ib xs L M0 ρ M q ∧ q.1 = t.1) ?_ C
    rw [decide_eq_decide.mpr (sx_eq32 wx wy)]
  · unfold sx_cmp sm_c2
    rw [decide_eq_decide.mpr (sx_lt32 wx wy)]
    exact A
  · unfold sx_cmp sm_c2
    refine sx_neg_ok (P := fun q => sx_sat ly ib xs L M0 ρ M q ∧ q.1 = t.1) ?_ A
    show decide (Int32.ofInt (sx_val ρ y) ≤ Int32.ofInt (sx_val ρ x)) = _
    rw [decide_eq_decide.mpr (show (Int32.ofInt (sx_val ρ y) ≤ Int32.ofInt (sx_val ρ x)) ↔ ¬ (sx_val ρ x < sx_val ρ y) by rw [sx_le32 wy wx]; omega), decide_not]
  · unfold sx_cmp sm_c2
    rw [decide_eq_decide.mpr (sx_lt32 wy wx)]
    exact B
  · unfold sx_cmp sm_c2
    refine sx_neg_ok (P := fun q => sx_sat ly ib xs L M0 ρ M q ∧ q.1 = t.1) ?_ B
    show decide (Int32.ofInt (sx_val ρ x) ≤ Int32.ofInt (sx_val ρ y)) = _
    rw [decide_eq_decide.mpr (show (Int32.ofInt (sx_val ρ x) ≤ Int32.ofInt (sx_val ρ y)) ↔ ¬ (sx_val ρ y < sx_val ρ x) by rw [sx_le32 wx wy]; omega), decide_not]
theorem sx_rn_mem {lo : Int} : ∀ {n : Nat} {z : Int}, lo ≤ z → z < lo + n → z ∈ sx_rn n lo := by
  intro n
  induction n with
  | zero => intro z h1 h2; simp at h2; omega
  | succ n ih =>
    intro z h1 h2
    show z ∈ (lo + Int.ofNat n) :: sx_rn n lo
    by_cases h : z = lo + Int.ofNat n
    · rw [h]; exact List.mem_cons_self
    · refine List.mem_cons_of_mem _ (ih h1 ?_)
      have : (Int.ofNat n : Int) = (n : Int) := rfl
      rw [this] at h
      push_cast at h2
      omega
theorem sx_spl_ok {ρ : Nat → Int} {M : Nat → Nat → Int} {t : sx_S} (hs : sx_sat ly ib xs L M0 ρ M t) {a : sx_A} (ha : a.1 < t.1) {l : List (Int × sx_S)} (h : sx_spl t a = some l) : ∃ q ∈ l, q.1 = sx_val ρ a ∧ sx_sat ly ib xs L M0 ρ M q.2 ∧ q.2.1 = t.1 := by
  unfold sx_spl at h
  split at h
  · rename_i c e
    cases h
    exact ⟨_, List.mem_singleton.mpr rfl, (sx_k_ok hs e).symm, hs, rfl⟩
  · obtain ⟨-, h⟩ := sx_bif h
    cases h
    have hi := sx_iv_ok hs a
    obtain ⟨c1, c2⟩ := sx_cap_ok hs ha (Int.le_refl (sx_val ρ a)) (Int.le_refl _)
    refine ⟨_, List.mem_map.mpr ⟨sx_val ρ a, sx_rn_mem hi.1 ?_, rfl⟩, rfl, c1, c2⟩
    have := hi.1
    have := hi.2
    rw [Int.toNat_of_nonneg (by omega)]
    omega
-- sums and the like
theorem sx_pl32 {op : Nat} {a b c : Int} (h : sx_pl op a b = some c) : Int32.ofInt c = sx_sem32 op (Int32.ofInt a) (Int32.ofInt b) := by
  unfold sx_pl at h
  split at h <;> cases h
  · exact Int32.ofInt_add _ _
  · exact Int32.ofInt_sub _ _
  · exact Int32.ofInt_mul _ _
theorem sx_kk32_ok {op : Nat} {a b c : Int} (h : sx_kk32 op a b = some c) : sx_w sx_r32 c ∧ Int32.ofInt c = sx_sem32 op (Int32.ofInt a) (Int32.ofInt b) ∧ (sx_isd op = true → b ≠ 0) := by
  unfold sx_kk32 at h
  split at h
  · rename_i c' e
    have hd : sx_isd op = true → b ≠ 0 := by
      intro hd
      unfold sx_pl at e
      split at e <;> cases e <;> cases hd
    cases e1 : sx_in (c', c') sx_r32
    · rw [e1] at h
      cases h
      exact ⟨sx_w32 _, Int32.ofInt_toInt _, hd⟩
    · rw [e1] at h
      cases h
      exact ⟨sx_in_iff.mp e1, sx_pl32 e, hd⟩
  · obtain ⟨e1, h⟩ := sx_bin' h
    cases h
    refine ⟨sx_w32 _, Int32.ofInt_toInt _, fun hd hb => ?_⟩
    rw [hd, sx_eq_iff.mpr hb] at e1
    cases e1
theorem sx_rg32_ok {op : Nat} {a b : Int} {p q : Int × Int} (ha : sx_w p a) (hb : sx_w q b) : sx_w (sx_rg op p q sx_r32) (sx_sem32 op (Int32.ofInt a) (Int32.ofInt b)).toInt := by
  obtain ⟨a1, a2⟩ := ha
  obtain ⟨b1, b2⟩ := hb
  have fin : ∀ {r : Int × Int} {z : Int}, sx_in r sx_r32 = true → r.1 ≤ z → z ≤ r.2 → sx_sem32 op (Int32.ofInt a) (Int32.ofInt b) = Int32.ofInt z → sx_w r (sx_sem32 op (Int32.ofInt a) (Int32.ofInt b)).toInt := by
    intro r z h1 h2 h3 h4
    have h1 := sx_in_iff.mp h1
    rw [h4, sx_i32 ⟨Int.le_trans h1.1 h2, Int.le_trans h3 h1.2⟩]
    exact ⟨h2, h3⟩
  unfold sx_rg
  split
  · cases e : sx_in (p.1 + q.1, p.2 + q.2) sx_r32
    · exact sx_w32 _
    · exact fin (z := a + b) e (by show p.1 + q.1 ≤ _; omega) (by show _ ≤ p.2 + q.2; omega) (Int32.ofInt_add _ _).symm
  · cases e : sx_in (p.1 - q.2, p.2 - q.1) sx_r32
    · exact sx_w32 _
    · exact fin (z := a - b) e (by show p.1 - q.2 ≤ _; omega) (by show _ ≤ p.2 - q.1; omega) (Int32.ofInt_sub _ _).symm
  · cases e : sx_an (sx_an (sx_le 0 p.1) (sx_le 0 q.1)) (sx_in (p.1 * q.1, p.2 * q.2) sx_r32)
    · exact sx_w32 _
    · obtain ⟨e1, e2⟩ := sx_an_iff.mp e
      obtain ⟨e3, e4⟩ := sx_an_iff.mp e1
      have e3 := sx_le_iff.mp e3
      have e4 := sx_le_iff.mp e4
      exact fin (z := a * b) e2 (Int.mul_le_mul a1 b1 e4 (by omega)) (Int.mul_le_mul a2 b2 (by omega) (by omega)) (Int32.ofInt_mul _ _).symm
  · exact sx_w32 _
theorem sx_un32_ok {ρ : Nat → Int} {M : Nat → Nat → Int} {t t' : sx_S} (hs : sx_sat ly ib xs L M0 ρ M t) {op : Nat} {x y v : sx_A} (h : sx_un sx_r32 op t x y = some (v, t')) : ∃ ρ', sx_ext t.1 ρ ρ' ∧ t.1 ≤ t'.1 ∧ sx_sat ly ib xs L M0 ρ' M t' ∧ v.1 < t'.1 ∧ sx_w sx_r32 (sx_val ρ' v) ∧ Int32.ofInt (sx_val ρ' v) = sx_sem32 op (Int32.ofInt (sx_val ρ x)) (Int32.ofInt (sx_val ρ y)) ∧ (sx_isd op = true → sx_val ρ y ≠ 0) := by
  unfold sx_un at h
  obtain ⟨e, h⟩ := sx_bin' h
  cases h
  have hx := sx_iv_ok hs x
  have hy := sx_iv_ok hs y
  refine ⟨_, sx_nu_ext, Nat.le_succ _, sx_sat_fresh hs (sx_rg32_ok (op := op) hx hy) (sx_32_64 (sx_w32 _)), Nat.lt_succ_self _, ?_, ?_, fun hd hb => ?_⟩
  · rw [sx_nu_at]; exact sx_w32 _
  · rw [sx_nu_at]; exact Int32.ofInt_toInt _
  · rw [hb] at hy
    rw [hd, sx_an_iff.mpr ⟨sx_le_iff.mpr hy.1, sx_le_iff.mpr hy.2⟩] at e
    cases e
theorem sx_off32_ok {ρ : Nat → Int} {M : Nat → Nat → Int} {t : sx_S} (hs : sx_sat ly ib xs L M0 ρ M t) {op : Nat} {x v : sx_A} {b : Int} (hx : x.1 < t.1) (h : sx_off sx_r32 op t x b = some v) : v.1 < t.1 ∧ sx_w sx_r32 (sx_val ρ v) ∧ Int32.ofInt (sx_val ρ v) = sx_sem32 op (Int32.ofInt (sx_val ρ x)) (Int32.ofInt b) ∧ sx_isd op = false := by
  have hi := sx_iv_ok hs x
  have := hi.1
  have := hi.2
  unfold sx_off at h
  split at h
  · obtain ⟨e, h⟩ := sx_bif h
    cases h
    have e := sx_in_iff.mp e
    have e1 : sx_r32.1 ≤ (sx_iv t x).1 + b := e.1
    have e2 : (sx_iv t x).2 + b ≤ sx_r32.2 := e.2
    have e3 : sx_val ρ (x.1, x.2 + b) = sx_val ρ x + b := by unfold sx_val; show ρ x.1 + (x.2 + b) = _; omega
    rw [e3]
    exact ⟨hx, ⟨by omega, by omega⟩, Int32.ofInt_add _ _, rfl⟩
  · obtain ⟨e, h⟩ := sx_bif h
    cases h
    have e := sx_in_iff.mp e
    have e1 : sx_r32.1 ≤ (sx_iv t x).1 - b := e.1
    have e2 : (sx_iv t x).2 - b ≤ sx_r32.2 := e.2
    have e3 : sx_val ρ (x.1, x.2 - b) = sx_val ρ x - b := by unfold sx_val; show ρ x.1 + (x.2 - b) = _; omega
    rw [e3]
    exact ⟨hx, ⟨by omega, by omega⟩, Int32.ofInt_sub _ _, rfl⟩
  · cases h
theorem sx_0lt {ρ : Nat → Int} {M : Nat → Nat → Int} {t : sx_S} (hs : sx_sat ly ib xs L M0 ρ M t) : 0 < t.1 := Nat.lt_of_lt_of_le (by decide) hs.1
theorem sx_v0 {ρ : Nat → Int} {M : Nat → Nat → Int} {t : sx_S} (hs : sx_sat ly ib xs L M0 ρ M t) (c : Int) : sx_val ρ (0, c) = c := by unfold sx_val; rw [hs.2.1]; show 0 + c = c; omega
theorem sx_bin32_ok {ρ : Nat → Int} {M : Nat → Nat → Int} {t t' : sx_S} (hs : sx_sat ly ib xs L M0 ρ M t) {op : Nat} {x y v : sx_A} (hx : x.1 < t.1) (hy : y.1 < t.1) (h : sx_bin sx_r32 sx_kk32 op t x y = some (v, t')) : ∃ ρ', sx_ext t.1 ρ ρ' ∧ t.1 ≤ t'.1 ∧ sx_sat ly ib xs L M0 ρ' M t' ∧ v.1 < t'.1 ∧ sx_w sx_r32 (sx_val ρ' v) ∧ Int32.ofInt (sx_val ρ' v) = sx_sem32 op (Int32.ofInt (sx_val ρ x)) (Int32.ofInt (sx_val ρ y)) ∧ (sx_isd op = true → sx_val ρ y ≠ 0) := by
  unfold sx_bin at h
  split at h
  · rename_i a b ea eb
    split at h
    · rename_i c ec
      cases h
      obtain ⟨k1, k2, k3⟩ := sx_kk32_ok ec
      refine ⟨ρ, sx_ext_rfl, Nat.le_refl _, hs, sx_0lt hs, ?_, ?_, ?_⟩
      · rw [sx_v0 hs]; exact k1
      · rw [sx_v0 hs, sx_k_ok hs ea, sx_k_ok hs eb]; exact k2
      · rw [sx_k_ok hs eb]; exact k3
    · cases h
  · rename_i a ea eb
    cases e0 : Nat.beq op 0
    · rw [e0] at h
      exact sx_un32_ok hs h
    · rw [e0] at h
      have e0 := sx_nbeq.mp e0
      have h : (match sx_off sx_r32 0 t y a with
        | some v => some (v, t)
        | none => sx_un sx_r32 op t x y) = some (v, t') := h
      split at h
      · rename_i w ew
        cases h
        obtain ⟨k1, k2, k3, k4⟩ := sx_off32_ok hs hy ew
        refine ⟨ρ, sx_ext_rfl, Nat.le_refl _, hs, k1, k2, ?_, fun hd => by rw [e0] at hd; cases hd⟩
        rw [k3, sx_k_ok hs ea, e0]
        show Int32.ofInt _ + Int32.ofInt _ = Int32.ofInt _ + Int32.ofInt _
        rw [Int32.add_comm]
      · exact sx_un32_ok hs h
  · rename_i b ea eb
    split at h
    · rename_i w ew
      cases h
      obtain ⟨k1, k2, k3, k4⟩ := sx_off32_ok hs hx ew
      refine ⟨ρ, sx_ext_rfl, Nat.le_refl _, hs, k1, k2, ?_, fun hd => by rw [k4] at hd; cases hd⟩
      rw [k3, sx_k_ok hs eb]
    · exact sx_un32_ok hs h
  · exact sx_un32_ok hs h
theorem sx_cv_ok {ρ : Nat → Int} {M : Nat → Nat → Int} {t : sx_S} (hs : sx_sat ly ib xs L M0 ρ M t) {r : Int × Int} {f : Int → Int} {x : sx_A} (hx : x.1 < t.1) (hr : ∀ a, sx_w r a → f a = a) (hw : ∀ a, sx_w r (f a)) (h64 : ∀ a, sx_w r a → sx_w sx_r64 a) : ∃ ρ', sx_ext t.1 ρ ρ' ∧ t.1 ≤ (sx_cv r f t x).2.1 ∧ sx_sat ly ib xs L M0 ρ' M (sx_cv r f t x).2 ∧ (sx_cv r f t x).1.1 < (sx_cv r f t x).2.1 ∧ sx_val ρ' (sx_cv r f t x).1 = f (sx_val ρ x) := by
  have hi := sx_iv_ok hs x
  unfold sx_cv
  cases e : sx_in (sx_iv t x) r
  · rw [sx_bfalse rfl]
    split
    · rename_i c ec
      refine ⟨ρ, sx_ext_rfl, Nat.le_refl _, hs, sx_0lt hs, ?_⟩
      rw [sx_v0 hs, sx_k_ok hs ec]
    · refine ⟨_, sx_nu_ext, Nat.le_succ _, sx_sat_fresh hs (hw (sx_val ρ x)) (h64 _ (hw _)), Nat.lt_succ_self _, ?_⟩
      exact sx_nu_at
  · rw [sx_bt rfl]
    have e := sx_in_iff.mp e
    exact ⟨ρ, sx_ext_rfl, Nat.le_refl _, hs, hx, (hr _ ⟨Int.le_trans e.1 hi.1, Int.le_trans hi.2 e.2⟩).symm⟩
theorem sx_pl64 {op : Nat} {a b c : Int} (h : sx_pl op a b = some c) : Int64.ofInt c = sx_sem64 op (Int64.ofInt a) (Int64.ofInt b) := by
  unfold sx_pl at h
  split at h <;> cases h
  · exact Int64.ofInt_add _ _
  · exact Int64.ofInt_sub _ _
  · exact Int64.ofInt_mul _ _
theorem sx_kk64_ok {op : Nat} {a b c : Int} (h : sx_kk64 op a b = some c) : sx_w sx_r64 c ∧ Int64.ofInt c = sx_sem64 op (Int64.ofInt a) (Int64.ofInt b) ∧ (sx_isd op = true → b ≠ 0) := by
  unfold sx_kk64 at h
  split at h
  · rename_i c' e
    have hd : sx_isd op = true → b ≠ 0 := by
      intro hd
      unfold sx_pl at e
      split at e <;> cases e <;> cases hd
    cases e1 : sx_in (c', c') sx_r64
    · rw [e1] at h
      cases h
      exact ⟨sx_w64' _, Int64.ofInt_toInt _, hd⟩
    · rw [e1] at h
      cases h
      exact ⟨sx_in_iff.mp e1, sx_pl64 e, hd⟩
  · obtain ⟨e1, h⟩ := sx_bin' h
    cases h
    refine ⟨sx_w64' _, Int64.ofInt_toInt _, fun hd hb => ?_⟩
    rw [hd, sx_eq_iff.mpr hb] at e1
    cases e1
theorem sx_rg64_ok {op : Nat} {a b : Int} {p q : Int × Int} (ha : sx_w p a) (hb : sx_w q b) : sx_w (sx_rg op p q sx_r64) (sx_sem64 op (Int64.ofInt a) (Int64.ofInt b)).toInt := by
  obtain ⟨a1, a2⟩ := ha
  obtain ⟨b1, b2⟩ := hb
  have fin : ∀ {r : Int × Int} {z : Int}, sx_in r sx_r64 = true → r.1 ≤ z → z ≤ r.2 → sx_sem64 op (Int64.ofInt a) (Int64.ofInt b) = Int64.ofInt z → sx_w r (sx_sem64 op (Int64.ofInt a) (Int64.ofInt b)).toInt := by
    intro r z h1 h2 h3 h4
    have h1 := sx_in_iff.mp h1
    rw [h4, sx_i64 ⟨Int.le_trans h1.1 h2, Int.le_trans h3 h1.2⟩]
    exact ⟨h2, h3⟩
  unfold sx_rg
  split
  · cases e : sx_in (p.1 + q.1, p.2 + q.2) sx_r64
    · exact sx_w64' _
    · exact fin (z := a + b) e (by show p.1 + q.1 ≤ _; omega) (by show _ ≤ p.2 + q.2; omega) (Int64.ofInt_add _ _).symm
  · cases e : sx_in (p.1 - q.2, p.2 - q.1) sx_r64
    · exact sx_w64' _
    · exact fin (z := a - b) e (by show p.1 - q.2 ≤ _; omega) (by show _ ≤ p.2 - q.1; omega) (Int64.ofInt_sub _ _).symm
  · cases e : sx_an (sx_an (sx_le 0 p.1) (sx_le 0 q.1)) (sx_in (p.1 * q.1, p.2 * q.2) sx_r64)
    · exact sx_w64' _
    · obtain ⟨e1, e2⟩ := sx_an_iff.mp e
      obtain ⟨e3, e4⟩ := sx_an_iff.mp e1
      have e3 := sx_le_iff.mp e3
      have e4 := sx_le_iff.mp e4
      exact fin (z := a * b) e2 (Int.mul_le_mul a1 b1 e4 (by omega)) (Int.mul_le_mul a2 b2 (by omega) (by omega)) (Int64.ofInt_mul _ _).symm
  · exact sx_w64' _
theorem sx_un64_ok {ρ : Nat → Int} {M : Nat → Nat → Int} {t t' : sx_S} (hs : sx_sat ly ib xs L M0 ρ M t) {op : Nat} {x y v : sx_A} (h : sx_un sx_r64 op t x y = some (v, t')) : ∃ ρ', sx_ext t.1 ρ ρ' ∧ t.1 ≤ t'.1 ∧ sx_sat ly ib xs L M0 ρ' M t' ∧ v.1 < t'.1 ∧ sx_w sx_r64 (sx_val ρ' v) ∧ Int64.ofInt (sx_val ρ' v) = sx_sem64 op (Int64.ofInt (sx_val ρ x)) (Int64.ofInt (sx_val ρ y)) ∧ (sx_isd op = true → sx_val ρ y ≠ 0) := by
  unfold sx_un at h
  obtain ⟨e, h⟩ := sx_bin' h
  cases h
  have hx := sx_iv_ok hs x
  have hy := sx_iv_ok hs y
  refine ⟨_, sx_nu_ext, Nat.le_succ _, sx_sat_fresh hs (sx_rg64_ok (op := op) hx hy) (sx_w64' _), Nat.lt_succ_self _, ?_, ?_, fun hd hb => ?_⟩
  · rw [sx_nu_at]; exact sx_w64' _
  · rw [sx_nu_at]; exact Int64.ofInt_toInt _
  · rw [hb] at hy
    rw [hd, sx_an_iff.mpr ⟨sx_le_iff.mpr hy.1, sx_le_iff.mpr hy.2⟩] at e
    cases e
theorem sx_off64_ok {ρ : Nat → Int} {M : Nat → Nat → Int} {t : sx_S} (hs : sx_sat ly ib xs L M0 ρ M t) {op : Nat} {x v : sx_A} {b : Int} (hx : x.1 < t.1) (h : sx_off sx_r64 op t x b = some v) : v.1 < t.1 ∧ sx_w sx_r64 (sx_val ρ v) ∧ Int64.ofInt (sx_val ρ v) = sx_sem64 op (Int64.ofInt (sx_val ρ x)) (Int64.ofInt b) ∧ sx_isd op = false := by
  have hi := sx_iv_ok hs x
  have := hi.1
  have := hi.2
  unfold sx_off at h
  split at h
  · obtain ⟨e, h⟩ := sx_bif h
    cases h
    have e := sx_in_iff.mp e
    have e1 : sx_r64.1 ≤ (sx_iv t x).1 + b := e.1
    have e2 : (sx_iv t x).2 + b ≤ sx_r64.2 := e.2
    have e3 : sx_val ρ (x.1, x.2 + b) = sx_val ρ x + b := by unfold sx_val; show ρ x.1 + (x.2 + b) = _; omega
    rw [e3]
    exact ⟨hx, ⟨by omega, by omega⟩, Int64.ofInt_add _ _, rfl⟩
  · obtain ⟨e, h⟩ := sx_bif h
    cases h
    have e := sx_in_iff.mp e
    have e1 : sx_r64.1 ≤ (sx_iv t x).1 - b := e.1
    have e2 : (sx_iv t x).2 - b ≤ sx_r64.2 := e.2
    have e3 : sx_val ρ (x.1, x.2 - b) = sx_val ρ x - b := by unfold sx_val; show ρ x.1 + (x.2 - b) = _; omega
    rw [e3]
    exact ⟨hx, ⟨by omega, by omega⟩, Int64.ofInt_sub _ _, rfl⟩
  · cases h
theorem sx_bin64_ok {ρ : Nat → Int} {M : Nat → Nat → Int} {t t' : sx_S} (hs : sx_sat ly ib xs L M0 ρ M t) {op : Nat} {x y v : sx_A} (hx : x.1 < t.1) (hy : y.1 < t.1) (h : sx_bin sx_r64 sx_kk64 op t x y = some (v, t')) : ∃ ρ', sx_ext t.1 ρ ρ' ∧ t.1 ≤ t'.1 ∧ sx_sat ly ib xs L M0 ρ' M t' ∧ v.1 < t'.1 ∧ sx_w sx_r64 (sx_val ρ' v) ∧ Int64.ofInt (sx_val ρ' v) = sx_sem64 op (Int64.ofInt (sx_val ρ x)) (Int64.ofInt (sx_val ρ y)) ∧ (sx_isd op = true → sx_val ρ y ≠ 0) := by
  unfold sx_bin at h
  split at h
  · rename_i a b ea eb
    split at h
    · rename_i c ec
      cases h
      obtain ⟨k1, k2, k3⟩ := sx_kk64_ok ec
      refine ⟨ρ, sx_ext_rfl, Nat.le_refl _, hs, sx_0lt hs, ?_, ?_, ?_⟩
      · rw [sx_v0 hs]; exact k1
      · rw [sx_v0 hs, sx_k_ok hs ea, sx_k_ok hs eb]; exact k2
      · rw [sx_k_ok hs eb]; exact k3
    · cases h
  · rename_i a ea eb
    cases e0 : Nat.beq op 0
    · rw [e0] at h
      exact sx_un64_ok hs h
    · rw [e0] at h
      have e0 := sx_nbeq.mp e0
      have h : (match sx_off sx_r64 0 t y a with
        | some v => some (v, t)
        | none => sx_un sx_r64 op t x y) = some (v, t') := h
      split at h
      · rename_i w ew
        cases h
        obtain ⟨k1, k2, k3, k4⟩ := sx_off64_ok hs hy ew
        refine ⟨ρ, sx_ext_rfl, Nat.le_refl _, hs, k1, k2, ?_, fun hd => by rw [e0] at hd; cases hd⟩
        rw [k3, sx_k_ok hs ea, e0]
        show Int64.ofInt _ + Int64.ofInt _ = Int64.ofInt _ + Int64.ofInt _
        rw [Int64.add_comm]
      · exact sx_un64_ok hs h
  · rename_i b ea eb
    split at h
    · rename_i w ew
      cases h
      obtain ⟨k1, k2, k3, k4⟩ := sx_off64_ok hs hx ew
      refine ⟨ρ, sx_ext_rfl, Nat.le_refl _, hs, k1, k2, ?_, fun hd => by rw [k4] at hd; cases hd⟩
      rw [k3, sx_k_ok hs eb]
    · exact sx_un64_ok hs h
  · exact sx_un64_ok hs h
-- cells
theorem sx_tg_ts : ∀ (n : Nat) (t : sx_T n) (k j : Nat) (v : sx_F), k < 2 ^ n → j < 2 ^ n → sx_tg n (sx_ts n t k v) j = if j = k then v else sx_tg n t j := by
  intro n
  induction n with
  | zero =>
    intro t k j v hk hj
    have h1 : k = 0 := by omega
    have h2 : j = 0 := by omega
    subst h1; subst h2
    rfl
  | succ n ih =>
    intro t k j v hk hj
    have hk2 : Nat.div k 2 < 2 ^ n := by show k / 2 < 2 ^ n; rw [Nat.pow_succ] at hk; omega
    have hj2 : Nat.div j 2 < 2 ^ n := by show j / 2 < 2 ^ n; rw [Nat.pow_succ] at hj; omega
    have ek : Nat.mod k 2 = k % 2 := rfl
    have ej : Nat.mod j 2 = j % 2 := rfl
    have fk : Nat.div k 2 = k / 2 := rfl
    have fj : Nat.div j 2 = j / 2 := rfl
    show (bif Nat.beq (Nat.mod j 2) 0 then sx_tg n (bif Nat.beq (Nat.mod k 2) 0 then (sx_ts n t.1 (Nat.div k 2) v, t.2) else (t.1, sx_ts n t.2 (Nat.div k 2) v) : sx_T n × sx_T n).1 (Nat.div j 2) else sx_tg n (bif Nat.beq (Nat.mod k 2) 0 then (sx_ts n t.1 (Nat.div k 2) v, t.2) else (t.1, sx_ts n t.2 (Nat.div k 2) v) : sx_T n × sx_T n).2 (Nat.div j 2)) = if j = k then v else (bif Nat.beq (Nat.mod j 2) 0 then sx_tg n t.1 (Nat.div j 2) else sx_tg n t.2 (Nat.div j 2))
    cases e1 : Nat.beq (Nat.mod k 2) 0
    · have e1 := sx_nbeq_f.mp e1
      cases e2 : Nat.beq (Nat.mod j 2) 0
      · have e2 := sx_nbeq_f.mp e2
        simp only [cond_false]
        rw [ih _ _ _ _ hk2 hj2]
        have : (Nat.div j 2 = Nat.div k 2) ↔ j = k := by rw [fk, fj]; omega
        simp only [this]
      · have e2 := sx_nbeq.mp e2
        simp only [cond_false, cond_true]
        rw [if_neg (by intro h; subst h; exact e1 e2)]
    · have e1 := sx_nbeq.mp e1
      cases e2 : Nat.beq (Nat.mod j 2) 0
      · have e2 := sx_nbeq_f.mp e2
        simp only [cond_false, cond_true]
        rw [if_neg (by intro h; subst h; exact e2 e1)]
      · have e2 := sx_nbeq.mp e2
        simp only [cond_true]
        rw [ih _ _ _ _ hk2 hj2]
        have : (Nat.div j 2 = Nat.div k 2) ↔ j = k := by rw [fk, fj]; omega
        simp only [this]
theorem sx_ae_iff {a b : sx_A} : sx_ae a b = true ↔ a = b := by
  unfold sx_ae
  rw [sx_an_iff, sx_nbeq, sx_eq_iff]
  constructor
  · intro h; exact Prod.ext h.1 h.2
  · intro h; subst h; exact ⟨rfl, rfl⟩
theorem sx_ane_ok {ρ : Nat → Int} {M : Nat → Nat → Int} {t : sx_S} (hs : sx_sat ly ib xs L M0 ρ M t) {a b : sx_A} (h : sx_ane t a b = true) : sx_val ρ a ≠ sx_val ρ b := by
  have h1 := sx_iv_ok hs a
  have h2 := sx_iv_ok hs b
  have a1 := h1.1
  have a2 := h1.2
  have b1 := h2.1
  have b2 := h2.2
  unfold sx_ane at h
  cases e : Nat.beq a.1 b.1
  · rw [e] at h
    have h : (bif sx_lt (sx_iv t a).2 (sx_iv t b).1 then true else sx_lt (sx_iv t b).2 (sx_iv t a).1) = true := h
    cases e2 : sx_lt (sx_iv t a).2 (sx_iv t b).1
    · rw [e2] at h
      have := sx_lt_iff.mp h
      omega
    · have := sx_lt_iff.mp e2
      omega
  · rw [e] at h
    have e := sx_nbeq.mp e
    cases e3 : sx_eq a.2 b.2
    · have := sx_eq_f.mp e3
      unfold sx_val
      rw [e]
      omega
    · rw [e3] at h
      cases h
theorem sx_scan_ok {ρ : Nat → Int} {M : Nat → Nat → Int} {t : sx_S} (hs : sx_sat ly ib xs L M0 ρ M t) {i : sx_A} (hi : 0 ≤ sx_val ρ i) (g : Nat → Int) : ∀ (es : List (sx_A × sx_A)), (∀ e ∈ es, e.1.1 < t.1 ∧ e.2.1 < t.1 ∧ 0 ≤ sx_val ρ e.1) → (∀ v, sx_scan t i es = some (some v) → sx_app ρ es g (sx_val ρ i).toNat = sx_val ρ v ∧ v.1 < t.1) ∧ (sx_scan t i es = some none → sx_app ρ es g (sx_val ρ i).toNat = g (sx_val ρ i).toNat) := by
  intro es
  induction es with
  | nil => intro _; exact ⟨fun v h => (by cases h), fun _ => rfl⟩
  | cons e es ih =>
    intro hh
    obtain ⟨i1, i2⟩ := ih (fun e he => hh e (List.mem_cons_of_mem _ he))
    have he := hh e List.mem_cons_self
    have hsc : sx_scan t i (e :: es) = (bif sx_ae e.1 i then some (some e.2) else bif sx_ane t e.1 i then sx_scan t i es else none) := rfl
    have hap : sx_app ρ (e :: es) g = sx_fup (sx_app ρ es g) (sx_val ρ e.1).toNat (sx_val ρ e.2) := rfl
    rw [hsc, hap]
    cases e1 : sx_ae e.1 i
    · rw [sx_bfalse rfl]
      cases e2 : sx_ane t e.1 i
      · rw [sx_bfalse rfl]
        exact ⟨fun v h => (by cases h), fun h => (by cases h)⟩
      · rw [sx_bt rfl]
        have hne := sx_ane_ok hs e2
        have : sx_fup (sx_app ρ es g) (sx_val ρ e.1).toNat (sx_val ρ e.2) (sx_val ρ i).toNat = sx_app ρ es g (sx_val ρ i).toNat := by
          unfold sx_fup
          rw [if_neg]
          have := he.2.2
          omega
        rw [this]
        exact ⟨i1, i2⟩
    · rw [sx_bt rfl]
      have e1 := sx_ae_iff.mp e1
      refine ⟨fun v h => ?_, fun h => (by cases h)⟩
      cases h
      unfold sx_fup
      rw [e1, if_pos rfl]
      exact ⟨rfl, he.2.1⟩
variable {bs : Nat → Int → Option Int}
theorem sx_kn_ok {ρ : Nat → Int} {M : Nat → Nat → Int} {t : sx_S} (hs : sx_sat ly ib xs L M0 ρ M t) {k : Nat} (hk : k < 128) {i : sx_A} (hi : 0 ≤ sx_val ρ i) (hb : ∀ c, i.1 = 0 → bs k i.2 = some c → M0 k (sx_val ρ i).toNat = c) {v : sx_A} (h : sx_kn bs t k i = some v) : M k (sx_val ρ i).toNat = sx_val ρ v ∧ v.1 < t.1 := by
  obtain ⟨l1, g0, l2, l3⟩ := hs.2.2.2.2.2.2.1 k hk
  obtain ⟨s1, s2⟩ := sx_scan_ok hs hi g0 _ l1
  unfold sx_kn at h
  rw [l3]
  split at h
  · rename_i w e
    cases h
    exact s1 _ e
  · rename_i e
    obtain ⟨e1, h⟩ := sx_bin' h
    obtain ⟨e2, h⟩ := sx_bif h
    have e2 := sx_nbeq.mp e2
    split at h
    · rename_i c ec
      cases h
      rw [s2 e, l2 e1, sx_v0 hs]
      exact ⟨hb _ e2 ec, sx_0lt hs⟩
    · cases h
  · cases h
theorem sx_up_row {M : Nat → Nat → Int} {k i : Nat} {z : Int} : sx_up M k i z k = sx_fup (M k) i z := by
  funext j; unfold sx_up sx_fup; rw [if_pos rfl]
theorem sx_up_ne {M : Nat → Nat → Int} {k i k' : Nat} {z : Int} (h : k' ≠ k) : sx_up M k i z k' = M k' := by
  funext j; unfold sx_up; rw [if_neg h]
theorem sx_up_same {M : Nat → Nat → Int} {k i : Nat} {z : Int} (h : M k i = z) : sx_up M k i z = M := by
  funext k' j
  unfold sx_up
  split
  · rename_i e
    split
    · rename_i e2; subst e; subst e2; exact h.symm
    · rfl
  · rfl
theorem sx_fup_same {g : Nat → Int} {i : Nat} {z : Int} (h : g i = z) : sx_fup g i z = g := by
  funext j; unfold sx_fup; split
  · rename_i e; subst e; exact h.symm
  · rfl
theorem sx_frl_ok {ρ : Nat → Int} {M : Nat → Nat → Int} {t : sx_S} (hs : sx_sat ly ib xs L M0 ρ M t) {k : Nat} (hk : k < 128) {i : sx_A} (hin : i.1 < t.1) (hi : 0 ≤ sx_val ρ i) {r : Int × Int} (hr : sx_w r (M k (sx_val ρ i).toNat)) (h64 : sx_w sx_r64 (M k (sx_val ρ i).toNat)) : sx_sat ly ib xs L M0 (sx_nu ρ t.1 (M k (sx_val ρ i).toNat)) M (sx_frl t k i r).2 := by
  obtain ⟨a1, a2, a3, a4, a5, a6, a7, a8⟩ := sx_sat_fresh (r := r) hs hr h64
  refine ⟨a1, a2, a3, a4, a5, a6, fun k' hk' => ?_, a8⟩
  show sx_leaf _ (t.1 + 1) (M0 k') (M k') (sx_tg 7 (sx_ts 7 t.2.2.2 k _) k')
  rw [sx_tg_ts 7 _ _ _ _ hk hk']
  split
  · rename_i e
    subst e
    obtain ⟨l1, g0, l2, l3⟩ := a7 k' hk'
    have he : sx_ext t.1 ρ (sx_nu ρ t.1 (M k' (sx_val ρ i).toNat)) := sx_nu_ext
    refine ⟨fun e he' => ?_, g0, l2, ?_⟩
    · rcases List.mem_cons.mp he' with rfl | he'
      · exact ⟨Nat.lt_succ_of_lt hin, Nat.lt_succ_self _, by rw [sx_ext_val he hin]; exact hi⟩
      · exact l1 e he'
    · show M k' = sx_fup (sx_app _ _ g0) (sx_val _ i).toNat (sx_val _ (t.1, 0))
      have l3 : M k' = sx_app _ (sx_tg 7 t.2.2.2 k').2 g0 := l3
      rw [← l3, sx_nu_at, sx_ext_val he hin]
      exact (sx_fup_same rfl).symm
  · exact a7 k' hk'
theorem sx_ld_ok {ρ : Nat → Int} {M : Nat → Nat → Int} {t : sx_S} (hs : sx_sat ly ib xs L M0 ρ M t) {k : Nat} (hk : k < 128) {i : sx_A} (hin : i.1 < t.1) (hi : 0 ≤ sx_val ρ i) (hb : ∀ c, i.1 = 0 → bs k i.2 = some c → M0 k (sx_val ρ i).toNat = c) {r : Int × Int} (hr : sx_w r (M k (sx_val ρ i).toNat)) (h64 : sx_w sx_r64 (M k (sx_val ρ i).toNat)) : ∃ ρ', sx_ext t.1 ρ ρ' ∧ t.1 ≤ (sx_ld bs t k i r).2.1 ∧ sx_sat ly ib xs L M0 ρ' M (sx_ld bs t k i r).2 ∧ (sx_ld bs t k i r).1.1 < (sx_ld bs t k i r).2.1 ∧ sx_val ρ' (sx_ld bs t k i r).1 = M k (sx_val ρ i).toNat := by
  unfold sx_ld
  split
  · rename_i v e
    obtain ⟨k1, k2⟩ := sx_kn_ok hs hk hi hb e
    exact ⟨ρ, sx_ext_rfl, Nat.le_refl _, hs, k2, k1.symm⟩
  · exact ⟨_, sx_nu_ext, Nat.le_succ _, sx_frl_ok hs hk hin hi hr h64, Nat.lt_succ_self _, sx_nu_at⟩
theorem sx_flt_app {ρ : Nat → Int} {i : sx_A} {g : Nat → Int} {j : Nat} (hj : j ≠ (sx_val ρ i).toNat) : ∀ (es : List (sx_A × sx_A)), sx_app ρ (sx_flt i es) g j = sx_app ρ es g j := by
  intro es
  induction es with
  | nil => rfl
  | cons e es ih =>
    show sx_app ρ (bif sx_ae e.1 i then sx_flt i es else e :: sx_flt i es) g j = sx_fup (sx_app ρ es g) (sx_val ρ e.1).toNat (sx_val ρ e.2) j
    cases e1 : sx_ae e.1 i
    · show sx_fup (sx_app ρ (sx_flt i es) g) (sx_val ρ e.1).toNat (sx_val ρ e.2) j = _
      unfold sx_fup
      rw [ih]
    · have e1 := sx_ae_iff.mp e1
      rw [sx_bt rfl, ih]
      unfold sx_fup
      rw [e1, if_neg hj]
theorem sx_flt_mem {i : sx_A} {e : sx_A × sx_A} : ∀ {es : List (sx_A × sx_A)}, e ∈ sx_flt i es → e ∈ es := by
  intro es
  induction es with
  | nil => intro h; exact h
  | cons q es ih =>
    intro h
    have h : e ∈ (bif sx_ae q.1 i then sx_flt i es else q :: sx_flt i es) := h
    cases e1 : sx_ae q.1 i
    · rw [e1] at h
      rcases List.mem_cons.mp h with rfl | h
      · exact List.mem_cons_self
      · exact List.mem_cons_of_mem _ (ih h)
    · rw [e1] at h
      exact List.mem_cons_of_mem _ (ih h)
theorem sx_put_ok {ρ : Nat → Int} {M : Nat → Nat → Int} {t : sx_S} (hs : sx_sat ly ib xs L M0 ρ M t) {k : Nat} (hk : k < 128) {i v : sx_A} (hin : i.1 < t.1) (hvn : v.1 < t.1) (hi : 0 ≤ sx_val ρ i) (hm : sx_mok ly (sx_up M k (sx_val ρ i).toNat (sx_val ρ v))) : sx_sat ly ib xs L M0 ρ (sx_up M k (sx_val ρ i).toNat (sx_val ρ v)) (sx_put t k i v) := by
  obtain ⟨a1, a2, a3, a4, a5, a6, a7, a8⟩ := hs
  refine ⟨a1, a2, a3, a4, a5, hm, fun k' hk' => ?_, a8⟩
  show sx_leaf ρ t.1 (M0 k') _ (sx_tg 7 (sx_ts 7 t.2.2.2 k _) k')
  rw [sx_tg_ts 7 _ _ _ _ hk hk']
  split
  · rename_i e
    subst e
    obtain ⟨l1, g0, l2, l3⟩ := a7 k' hk'
    refine ⟨fun e he => ?_, g0, l2, ?_⟩
    · rcases List.mem_cons.mp he with rfl | he
      · exact ⟨hin, hvn, hi⟩
      · exact l1 e (sx_flt_mem he)
    · rw [sx_up_row]
      show _ = sx_fup (sx_app ρ (sx_flt i (sx_tg 7 t.2.2.2 k').2) g0) (sx_val ρ i).toNat (sx_val ρ v)
      rw [l3]
      funext j
      unfold sx_fup
      split
      · rfl
      · rename_i hj
        exact (sx_flt_app hj _).symm
  · rename_i e
    rw [sx_up_ne e]
    exact a7 k' hk'
theorem sx_sto_ok {ρ : Nat → Int} {M : Nat → Nat → Int} {t : sx_S} (hs : sx_sat ly ib xs L M0 ρ M t) {k : Nat} (hk : k < 128) {i v : sx_A} (hin : i.1 < t.1) (hvn : v.1 < t.1) (hi : 0 ≤ sx_val ρ i) (hb : ∀ c, i.1 = 0 → bs k i.2 = some c → M0 k (sx_val ρ i).toNat = c) (hm : sx_mok ly (sx_up M k (sx_val ρ i).toNat (sx_val ρ v))) : sx_sat ly ib xs L M0 ρ (sx_up M k (sx_val ρ i).toNat (sx_val ρ v)) (sx_sto bs t k i v) ∧ (sx_sto bs t k i v).1 = t.1 := by
  unfold sx_sto
  split
  · rename_i w e
    cases e1 : sx_ae w v
    · exact ⟨sx_put_ok hs hk hin hvn hi hm, rfl⟩
    · have e1 := sx_ae_iff.mp e1
      subst e1
      obtain ⟨k1, -⟩ := sx_kn_ok hs hk hi hb e
      rw [sx_up_same k1]
      exact ⟨hs, rfl⟩
  · exact ⟨sx_put_ok hs hk hin hvn hi hm, rfl⟩
theorem sx_mok_up {M : Nat → Nat → Int} (hm : sx_mok ly M) {k i : Nat} {z : Int} {h : sx_H} (hl : ly k = some h) (hz : ∀ r, sx_rgo h i = some r → sx_w r z) : sx_mok ly (sx_up M k i z) := by
  intro k' h' i' r hl' hi' hr'
  unfold sx_up
  split
  · rename_i e
    subst e
    rw [hl] at hl'
    cases hl'
    split
    · rename_i e2
      subst e2
      exact hz r hr'
    · exact hm _ _ _ _ hl hi' hr'
  · exact hm _ _ _ _ hl' hi' hr'
-- the heap
def sx_fv (z : Int) (q : Nat × (Int × Int) × Nat) : Value := if q.1 = 3 then .ref q.2.2 else if q.1 = 2 then .long (Int64.ofInt z) else .int (Int32.ofInt z)
def sx_hc (f : Nat → Int) (g : Nat → Option Nat) (h : sx_H) : sm_C := if h.1 = 0 then (if h.2.1 = 1 then .inl (1, h.2.2.1, .inr (.inl fun i => Int64.ofInt (f i))) else if h.2.1 = 4 then .inl (4, h.2.2.1, .inr (.inr (.inr (.inr g)))) else .inl (h.2.1, h.2.2.1, .inl fun i => Int32.ofInt (f i))) else .inr (h.2.1, h.2.2.2.2.mapIdx fun i q => sx_fv (f i) q)
def sx_HH (lay : List sx_H) (rf : Nat → Nat → Option Nat) (M : Nat → Nat → Int) : sm_H := lay.mapIdx fun k h => sx_hc (M (k + 8)) (rf (k + 8)) h
/-- ranges fit types -/
def sx_gd (h : sx_H) : Bool := if h.1 = 0 then (if h.2.1 = 1 then sx_in h.2.2.2.1 sx_r64 else if h.2.1 = 4 then true else sx_an (bif Nat.beq h.2.1 0 then true else bif Nat.beq h.2.1 2 then sx_in (.negSucc 127, 127) h.2.2.2.1 else bif Nat.beq h.2.1 3 then sx_in (.negSucc 32767, 32767) h.2.2.2.1 else false) (sx_in h.2.2.2.1 sx_r32)) else h.2.2.2.2.all fun q => bif Nat.beq q.1 3 then true else bif Nat.beq q.1 2 then sx_in q.2.1 sx_r64 else bif Nat.beq q.1 1 then sx_in q.2.1 (0, 1) else sx_an (Nat.beq q.1 0) (sx_in q.2.1 sx_r32)
def sx_lok (ly : Nat → Option sx_H) (lay : List sx_H) : Prop := ∀ k h, ly k = some h → 8 ≤ k ∧ k < 128 ∧ lay[k - 8]? = some h ∧ sx_gd h = true
variable {lay : List sx_H} {rf : Nat → Nat → Option Nat}
theorem sx_HH_get (M : Nat → Nat → Int) (k : Nat) : (sx_HH lay rf M)[k]? = (lay[k]?).map fun h => sx_hc (M (k + 8)) (rf (k + 8)) h := by
  unfold sx_HH; rw [List.getElem?_mapIdx]
theorem sx_HH_at (hl : sx_lok ly lay) {M : Nat → Nat → Int} {a : Nat} {h : sx_H} (e : ly a = some h) : (sx_HH lay rf M)[a - 8]? = some (sx_hc (M a) (rf a) h) := by
  obtain ⟨h1, -, h2, -⟩ := hl a h e
  rw [sx_HH_get, h2]
  have : a - 8 + 8 = a := by omega
  rw [this]; rfl
theorem sx_HH_set (hl : sx_lok ly lay) {M : Nat → Nat → Int} {a : Nat} {h : sx_H} (e : ly a = some h) (f : Nat → Int) : (sx_HH lay rf M).set (a - 8) (sx_hc f (rf a) h) = sx_HH lay rf (fun k => if k = a then f else M k) := by
  obtain ⟨h1, -, h2, -⟩ := hl a h e
  have h3 : a - 8 + 8 = a := by omega
  apply List.ext_getElem?
  intro i
  rw [List.getElem?_set, sx_HH_get, sx_HH_get]
  by_cases hi : a - 8 = i
  · subst hi
    rw [if_pos rfl]
    have hlen : a - 8 < (sx_HH lay rf M).length := by
      unfold sx_HH
      rw [List.length_mapIdx]
      exact (List.getElem?_eq_some_iff.mp h2).1
    rw [if_pos hlen, h2, h3, if_pos rfl]
    rfl
  · rw [if_neg hi]
    have : ¬ i + 8 = a := by omega
    rw [if_neg this]
theorem sx_arr_ok {a ty : Nat} {h : sx_H} (e : sx_arr ly a ty = some h) : ly a = some h ∧ h.1 = 0 ∧ h.2.1 = ty := by
  unfold sx_arr at e
  split at e
  · rename_i q e1
    obtain ⟨e2, e⟩ := sx_bif e
    cases e
    obtain ⟨e3, e4⟩ := sx_an_iff.mp e2
    exact ⟨e1, sx_nbeq.mp e3, sx_nbeq.mp e4⟩
  · cases e
theorem sx_hc_ints {f : Nat → Int} {g : Nat → Option Nat} {h : sx_H} {ty : Nat} (h1 : h.1 = 0) (h2 : h.2.1 = ty) (n1 : ty ≠ 1) (n4 : ty ≠ 4) : sx_hc f g h = .inl (ty, h.2.2.1, .inl fun i => Int32.ofInt (f i)) := by
  unfold sx_hc
  rw [if_pos h1, h2, if_neg n1, if_neg n4]
theorem sx_hc_longs {f : Nat → Int} {g : Nat → Option Nat} {h : sx_H} (h1 : h.1 = 0) (h2 : h.2.1 = 1) : sx_hc f g h = .inl (1, h.2.2.1, .inr (.inl fun i => Int64.ofInt (f i))) := by
  unfold sx_hc
  rw [if_pos h1, h2, if_pos rfl]
theorem sx_hc_refs {f : Nat → Int} {g : Nat → Option Nat} {h : sx_H} (h1 : h.1 = 0) (h2 : h.2.1 = 4) : sx_hc f g h = .inl (4, h.2.2.1, .inr (.inr (.inr (.inr g)))) := by
  unfold sx_hc
  rw [if_pos h1, h2]
  rfl
theorem sx_hc_obj {f : Nat → Int} {g : Nat → Option Nat} {h : sx_H} (h1 : h.1 = 1) : sx_hc f g h = .inr (h.2.1, h.2.2.2.2.mapIdx fun i q => sx_fv (f i) q) := by
  unfold sx_hc
  rw [if_neg (by omega)]
theorem sx_nl8 (hl : sx_lok ly lay) {a : Nat} {h : sx_H} (e : ly a = some h) : ¬ a < 8 := by have := (hl a h e).1; omega
theorem sx_ints_at (hl : sx_lok ly lay) {RO : List (Nat × (Nat → Int32))} {M : Nat → Nat → Int} {a ty : Nat} {h : sx_H} (e : sx_arr ly a ty = some h) (n1 : ty ≠ 1) (n4 : ty ≠ 4) : sm_ints RO (sx_HH lay rf M) a ty = some (h.2.2.1, fun i => Int32.ofInt (M a i)) := by
  obtain ⟨e1, e2, e3⟩ := sx_arr_ok e
  unfold sm_ints
  rw [if_neg (sx_nl8 hl e1), sx_HH_at hl e1, sx_hc_ints e2 e3 n1 n4]
  show (if ty = ty then _ else none) = _
  rw [if_pos rfl]
theorem sx_longs_at (hl : sx_lok ly lay) {M : Nat → Nat → Int} {a : Nat} {h : sx_H} (e : sx_arr ly a 1 = some h) : sm_longs (sx_HH lay rf M) a = some (h.2.2.1, fun i => Int64.ofInt (M a i)) := by
  obtain ⟨e1, e2, e3⟩ := sx_arr_ok e
  unfold sm_longs
  rw [if_neg (sx_nl8 hl e1), sx_HH_at hl e1, sx_hc_longs e2 e3]
  rfl
theorem sx_refs_at (hl : sx_lok ly lay) {M : Nat → Nat → Int} {a : Nat} {h : sx_H} (e : sx_arr ly a 4 = some h) : sm_refs (sx_HH lay rf M) a = some (h.2.2.1, rf a) := by
  obtain ⟨e1, e2, e3⟩ := sx_arr_ok e
  unfold sm_refs
  rw [if_neg (sx_nl8 hl e1), sx_HH_at hl e1, sx_hc_refs e2 e3]
  rfl
theorem sx_obj_at (hl : sx_lok ly lay) {M : Nat → Nat → Int} {a ci : Nat} {h : sx_H} (e1 : ly a = some h) (e2 : h.1 = 1) (e3 : h.2.1 = ci) : sm_obj (sx_HH lay rf M) a ci = some (h.2.2.2.2.mapIdx fun i q => sx_fv (M a i) q) := by
  unfold sm_obj
  rw [if_neg (sx_nl8 hl e1), sx_HH_at hl e1, sx_hc_obj e2, e3]
  show (if ci = ci then _ else none) = _
  rw [if_pos rfl]
theorem sx_up_fun {M : Nat → Nat → Int} {a i : Nat} {z : Int} : sx_up M a i z = fun k => if k = a then sx_fup (M a) i z else M k := by
  funext k j
  unfold sx_up
  by_cases h : k = a
  · subst h; rw [if_pos rfl, if_pos rfl]; rfl
  · rw [if_neg h, if_neg h]
theorem sx_set_ints (hl : sx_lok ly lay) {M : Nat → Nat → Int} {a ty i : Nat} {z : Int} {h : sx_H} (e : sx_arr ly a ty = some h) (n1 : ty ≠ 1) (n4 : ty ≠ 4) : (sx_HH lay rf M).set (a - 8) (.inl (ty, h.2.2.1, .inl (upd (fun i => Int32.ofInt (M a i)) i (Int32.ofInt z)))) = sx_HH lay rf (sx_up M a i z) := by
  obtain ⟨e1, e2, e3⟩ := sx_arr_ok e
  rw [sx_up_fun, ← sx_HH_set hl e1, sx_hc_ints e2 e3 n1 n4]
  have hf : (upd (fun i => Int32.ofInt (M a i)) i (Int32.ofInt z)) = fun j => Int32.ofInt (sx_fup (M a) i z j) := by
    funext j
    unfold upd sx_fup
    split <;> rfl
  rw [hf]
theorem sx_set_longs (hl : sx_lok ly lay) {M : Nat → Nat → Int} {a i : Nat} {z : Int} {h : sx_H} (e : sx_arr ly a 1 = some h) : (sx_HH lay rf M).set (a - 8) (.inl (1, h.2.2.1, .inr (.inl (vp_updL (fun i => Int64.ofInt (M a i)) i (Int64.ofInt z))))) = sx_HH lay rf (sx_up M a i z) := by
  obtain ⟨e1, e2, e3⟩ := sx_arr_ok e
  rw [sx_up_fun, ← sx_HH_set hl e1, sx_hc_longs e2 e3]
  have hf : (vp_updL (fun i => Int64.ofInt (M a i)) i (Int64.ofInt z)) = fun j => Int64.ofInt (sx_fup (M a) i z j) := by
    funext j
    unfold vp_updL sx_fup
    split <;> rfl
  rw [hf]
theorem sx_nth_eq {α : Type} : ∀ (l : List α) (n : Nat), sx_nth l n = l[n]? := by
  intro l
  induction l with
  | nil => intro n; rfl
  | cons a l ih =>
    intro n
    show (bif Nat.beq n 0 then some a else sx_nth l (Nat.sub n 1)) = _
    cases n with
    | zero => rfl
    | succ n =>
      show sx_nth l (Nat.sub (n + 1) 1) = _
      rw [ih]
      simp
theorem sx_fld_ok {a ci k : Nat} {q : Nat × (Int × Int) × Nat} (e : sx_fld ly a ci k = some q) : ∃ h, ly a = some h ∧ h.1 = 1 ∧ h.2.1 = ci ∧ h.2.2.2.2[k]? = some q := by
  unfold sx_fld at e
  split at e
  · rename_i h e1
    obtain ⟨e2, e⟩ := sx_bif e
    obtain ⟨e3, e4⟩ := sx_an_iff.mp e2
    rw [sx_nth_eq] at e
    exact ⟨h, e1, sx_nbeq.mp e3, sx_nbeq.mp e4, e⟩
  · cases e
theorem sx_set_fld (hl : sx_lok ly lay) {M : Nat → Nat → Int} {a ci k : Nat} {z : Int} {h : sx_H} {q : Nat × (Int × Int) × Nat} (e1 : ly a = some h) (e2 : h.1 = 1) (e3 : h.2.1 = ci) (e4 : h.2.2.2.2[k]? = some q) : (sx_HH lay rf M).set (a - 8) (.inr (ci, (h.2.2.2.2.mapIdx fun i q => sx_fv (M a i) q).set k (sx_fv z q))) = sx_HH lay rf (sx_up M a k z) := by
  rw [sx_up_fun, ← sx_HH_set hl e1, sx_hc_obj e2, e3]
  congr 3
  apply List.ext_getElem?
  intro i
  rw [List.getElem?_set, List.getElem?_mapIdx, List.getElem?_mapIdx, List.length_mapIdx]
  by_cases hi : k = i
  · subst hi
    rw [if_pos rfl, if_pos (List.getElem?_eq_some_iff.mp e4).1, e4]
    show _ = some (sx_fv (sx_fup (M a) k z k) q)
    unfold sx_fup
    rw [if_pos rfl]
  · rw [if_neg hi]
    cases h.2.2.2.2[i]? with
    | none => rfl
    | some w =>
      show some (sx_fv (M a i) w) = some (sx_fv (sx_fup (M a) k z i) w)
      unfold sx_fup
      rw [if_neg (fun h => hi h.symm)]
-- instructions
def sx_res (ly : Nat → Option sx_H) (ib : sx_A) (xs : Nat → Int32) (L : Nat) (M0 : Nat → Nat → Int) (lay : List sx_H) (rf : Nat → Nat → Option Nat) (ρ : Nat → Int) (n : Nat) (l : List sx_O) (X : Option sm_S) : Prop :=
  ∃ o ∈ l, ∃ ρ' M', sx_ext n ρ ρ' ∧ n ≤ o.2.2.2.1 ∧ sx_sat ly ib xs L M0 ρ' M' o.2.2.2 ∧ sx_okl ρ' o.2.2.2.1 o.2.1 ∧ sx_oks ρ' o.2.2.2.1 o.2.2.1 ∧ X = some (o.1, sx_cl1 ρ' o.2.1, sx_cs1 ρ' o.2.2.1, sx_HH lay rf M')
theorem sx_i1_eq {s : List sx_V} {k : sx_A → List sx_V → Option (List sx_O)} {l : List sx_O} (h : sx_i1 s k = some l) : ∃ a r, s = (0, a) :: r ∧ k a r = some l := by
  unfold sx_i1 at h
  split at h
  · rename_i v r
    obtain ⟨e, h⟩ := sx_bif h
    have e := sx_nbeq.mp e
    exact ⟨v.2, r, by rw [← e], h⟩
  · cases h
theorem sx_l1_eq {s : List sx_V} {k : sx_A → List sx_V → Option (List sx_O)} {l : List sx_O} (h : sx_l1 s k = some l) : ∃ a r, s = (1, a) :: r ∧ k a r = some l := by
  unfold sx_l1 at h
  split at h
  · rename_i v r
    obtain ⟨e, h⟩ := sx_bif h
    have e := sx_nbeq.mp e
    exact ⟨v.2, r, by rw [← e], h⟩
  · cases h
theorem sx_a1_eq {s : List sx_V} {k : Nat → List sx_V → Option (List sx_O)} {l : List sx_O} (h : sx_a1 s k = some l) : ∃ a r, s = (2, a) :: r ∧ k a.2.toNat r = some l := by
  unfold sx_a1 at h
  split at h
  · rename_i v r
    obtain ⟨e, h⟩ := sx_bif h
    have e := sx_nbeq.mp e
    exact ⟨v.2, r, by rw [← e], h⟩
  · cases h
theorem sx_oks_tl {ρ : Nat → Int} {n : Nat} {v : sx_V} {r : List sx_V} (h : sx_oks ρ n (v :: r)) : sx_ok ρ n v ∧ sx_oks ρ n r := ⟨h v List.mem_cons_self, fun w hw => h w (List.mem_cons_of_mem _ hw)⟩
theorem sx_oks_cons {ρ : Nat → Int} {n : Nat} {v : sx_V} {r : List sx_V} (h : sx_ok ρ n v) (h' : sx_oks ρ n r) : sx_oks ρ n (v :: r) := by
  intro w hw
  rcases List.mem_cons.mp hw with rfl | hw
  · exact h
  · exact h' w hw
theorem sx_cat1 (ρ : Nat → Int) (v : sx_V) : (sx_cv1 ρ v).category = if v.1 = 1 then 2 else 1 := by
  unfold sx_cv1
  obtain ⟨k, a⟩ := v
  match k with
  | 0 => rfl
  | 1 => rfl
  | k + 2 => rw [if_neg (by show ¬ k + 2 = 1; omega)]; rfl
theorem sx_lv_ld (ρ : Nat → Int) (i : Nat) : ∀ (lv : sx_L), sm_ld (sx_cl1 ρ lv) i = (sx_lv lv i).map (sx_cv1 ρ) := by
  intro lv
  induction lv with
  | nil => rfl
  | cons q lv ih =>
    show (if q.1 = i then some (sx_cv1 ρ q.2) else sm_ld (sx_cl1 ρ lv) i) = Option.map (sx_cv1 ρ) (bif Nat.beq q.1 i then some q.2 else sx_lv lv i)
    by_cases h : q.1 = i
    · rw [if_pos h, sx_bt (sx_nbeq.mpr h)]; rfl
    · rw [if_neg h, sx_bfalse (sx_nbeq_f.mpr h)]; exact ih
theorem sx_lv_ok {ρ : Nat → Int} {n i : Nat} : ∀ {lv : sx_L} {v : sx_V}, sx_okl ρ n lv → sx_lv lv i = some v → sx_ok ρ n v := by
  intro lv
  induction lv with
  | nil => intro v _ h; cases h
  | cons q lv ih =>
    intro v hl h
    have h : (bif Nat.beq q.1 i then some q.2 else sx_lv lv i) = some v := h
    cases e : Nat.beq q.1 i
    · rw [e] at h
      exact ih (fun w hw => hl w (List.mem_cons_of_mem _ hw)) h
    · rw [e] at h
      cases h
      exact hl q List.mem_cons_self
theorem sx_beq (a b : Nat) : (a == b) = Nat.beq a b := by
  cases h : Nat.beq a b
  · have := sx_nbeq_f.mp h; simp [this]
  · have := sx_nbeq.mp h; simp [this]
theorem sx_s1_cl (ρ : Nat → Int) (lv : sx_L) (i : Nat) (v : sx_V) : sx_cl1 ρ (sx_s1 lv i v) = sm_s1 (sx_cl1 ρ lv) i (sx_cv1 ρ v) := by
  unfold sx_s1 sm_s1
  show (i, sx_cv1 ρ v) :: sx_cl1 ρ _ = _
  congr 1
  induction lv with
  | nil => rfl
  | cons q lv ih =>
    show sx_cl1 ρ (bif Nat.beq q.1 i then _ else bif sx_an (Nat.beq (q.1 + 1) i) (Nat.beq q.2.1 1) then _ else q :: _) = List.filter _ ((q.1, sx_cv1 ρ q.2) :: sx_cl1 ρ lv)
    rw [List.filter_cons]
    have hc : ((sx_cv1 ρ q.2).category == 2) = Nat.beq q.2.1 1 := by
      rw [sx_beq, sx_cat1]
      cases e : Nat.beq q.2.1 1
      · rw [if_neg (sx_nbeq_f.mp e)]; rfl
      · rw [if_pos (sx_nbeq.mp e)]; rfl
    show _ = if (!(q.1 == i) && !(q.1 + 1 == i && ((sx_cv1 ρ q.2).category == 2))) = true then _ else _
    rw [hc, sx_beq, sx_beq]
    cases Nat.beq q.1 i
    · cases Nat.beq (q.1 + 1) i
      · simp only [sx_an, cond_false, Bool.not_false, Bool.false_and, Bool.and_self, if_true]
        exact congrArg (List.cons _) ih
      · cases Nat.beq q.2.1 1
        · simp only [sx_an, cond_false, cond_true, Bool.not_false, Bool.and_false, Bool.and_self, if_true]
          exact congrArg (List.cons _) ih
        · simp only [sx_an, cond_false, cond_true, Bool.not_false, Bool.not_true, Bool.and_self, Bool.and_false, Bool.false_eq_true, if_false]
          exact ih
    · simp only [cond_true, Bool.not_true, Bool.false_and, Bool.false_eq_true, if_false]
      exact ih
theorem sx_s2_cl (ρ : Nat → Int) (lv : sx_L) (i : Nat) (v : sx_V) : sx_cl1 ρ (sx_s2 lv i v) = sm_s2 (sx_cl1 ρ lv) i (sx_cv1 ρ v) := by
  unfold sx_s2 sm_s2
  show (i, sx_cv1 ρ v) :: sx_cl1 ρ _ = _
  congr 1
  induction lv with
  | nil => rfl
  | cons q lv ih =>
    show sx_cl1 ρ (bif Nat.beq q.1 i then _ else bif Nat.beq q.1 (i + 1) then _ else bif sx_an (Nat.beq (q.1 + 1) i) (Nat.beq q.2.1 1) then _ else q :: _) = List.filter _ ((q.1, sx_cv1 ρ q.2) :: sx_cl1 ρ lv)
    rw [List.filter_cons]
    have hc : ((sx_cv1 ρ q.2).category == 2) = Nat.beq q.2.1 1 := by
      rw [sx_beq, sx_cat1]
      cases e : Nat.beq q.2.1 1
      · rw [if_neg (sx_nbeq_f.mp e)]; rfl
      · rw [if_pos (sx_nbeq.mp e)]; rfl
    show _ = if (!(q.1 == i) && (!(q.1 == i + 1) && !(q.1 + 1 == i && ((sx_cv1 ρ q.2).category == 2)))) = true then _ else _
    rw [hc, sx_beq, sx_beq, sx_beq]
    cases Nat.beq q.1 i
    · cases Nat.beq q.1 (i + 1)
      · cases Nat.beq (q.1 + 1) i
        · simp only [sx_an, cond_false, Bool.not_false, Bool.false_and, Bool.and_self, if_true]
          exact congrArg (List.cons _) ih
        · cases Nat.beq q.2.1 1
          · simp only [sx_an, cond_false, cond_true, Bool.not_false, Bool.and_false, Bool.and_self, if_true]
            exact congrArg (List.cons _) ih
          · simp only [sx_an, cond_false, cond_true, Bool.not_false, Bool.not_true, Bool.and_self, Bool.and_false, Bool.false_eq_true, if_false]
            exact ih
      · simp only [cond_false, cond_true, Bool.not_false, Bool.not_true, Bool.false_and, Bool.and_false, Bool.false_eq_true, if_false]
        exact ih
    · simp only [cond_true, Bool.not_true, Bool.false_and, Bool.false_eq_true, if_false]
      exact ih
theorem sx_s1_ok {ρ : Nat → Int} {n : Nat} {lv : sx_L} {i : Nat} {v : sx_V} (hl : sx_okl ρ n lv) (hv : sx_ok ρ n v) : sx_okl ρ n (sx_s1 lv i v) := by
  intro q hq
  rcases List.mem_cons.mp hq with rfl | hq
  · exact hv
  · refine hl q ?_
    clear hl
    induction lv with
    | nil => cases hq
    | cons w lv ih =>
      have hq : q ∈ (bif Nat.beq w.1 i then _ else bif sx_an (Nat.beq (w.1 + 1) i) (Nat.beq w.2.1 1) then _ else w :: _) := hq
      cases e1 : Nat.beq w.1 i
      · rw [e1] at hq
        cases e2 : sx_an (Nat.beq (w.1 + 1) i) (Nat.beq w.2.1 1)
        · rw [e2] at hq
          rcases List.mem_cons.mp hq with rfl | hq
          · exact List.mem_cons_self
          · exact List.mem_cons_of_mem _ (ih (List.mem_cons_of_mem _ hq) hq)
        · rw [e2] at hq
          exact List.mem_cons_of_mem _ (ih (List.mem_cons_of_mem _ hq) hq)
      · rw [e1] at hq
        exact List.mem_cons_of_mem _ (ih (List.mem_cons_of_mem _ hq) hq)
theorem sx_s2_ok {ρ : Nat → Int} {n : Nat} {lv : sx_L} {i : Nat} {v : sx_V} (hl : sx_okl ρ n lv) (hv : sx_ok ρ n v) : sx_okl ρ n (sx_s2 lv i v) := by
  intro q hq
  rcases List.mem_cons.mp hq with rfl | hq
  · exact hv
  · refine hl q ?_
    clear hl
    induction lv with
    | nil => cases hq
    | cons w lv ih =>
      have hq : q ∈ (bif Nat.beq w.1 i then _ else bif Nat.beq w.1 (i + 1) then _ else bif sx_an (Nat.beq (w.1 + 1) i) (Nat.beq w.2.1 1) then _ else w :: _) := hq
      cases e1 : Nat.beq w.1 i
      · rw [e1] at hq
        cases e3 : Nat.beq w.1 (i + 1)
        · rw [e3] at hq
          cases e2 : sx_an (Nat.beq (w.1 + 1) i) (Nat.beq w.2.1 1)
          · rw [e2] at hq
            rcases List.mem_cons.mp hq with rfl | hq
            · exact List.mem_cons_self
            · exact List.mem_cons_of_mem _ (ih (List.mem_cons_of_mem _ hq) hq)
          · rw [e2] at hq
            exact List.mem_cons_of_mem _ (ih (List.mem_cons_of_mem _ hq) hq)
        · rw [e3] at hq
          exact List.mem_cons_of_mem _ (ih (List.mem_cons_of_mem _ hq) hq)
      · rw [e1] at hq
        exact List.mem_cons_of_mem _ (ih (List.mem_cons_of_mem _ hq) hq)
variable {ρ : Nat → Int} {M : Nat → Nat → Int} {t : sx_S} {lv : sx_L} {s : List sx_V} {l : List sx_O} {X : Option sm_S} {pc : Nat}
theorem sx_res_go {pc' : Nat} {lv' : sx_L} {s' : List sx_V} (hs : sx_sat ly ib xs L M0 ρ M t) (hl : sx_okl ρ t.1 lv') (hk : sx_oks ρ t.1 s') (h : sx_go pc' lv' s' t = some l) (e : X = some (pc', sx_cl1 ρ lv', sx_cs1 ρ s', sx_HH lay rf M)) : sx_res ly ib xs L M0 lay rf ρ t.1 l X := by
  cases h
  exact ⟨_, List.mem_singleton.mpr rfl, ρ, M, sx_ext_rfl, Nat.le_refl _, hs, hl, hk, e⟩
theorem sx_res_b32 {op : Nat} {x y : sx_A} {r : List sx_V} (hs : sx_sat ly ib xs L M0 ρ M t) (hl : sx_okl ρ t.1 lv) (hx : x.1 < t.1) (hy : y.1 < t.1) (hk : sx_oks ρ t.1 r) (h : sx_pv 0 1 pc lv r (sx_bin sx_r32 sx_kk32 op t x y) = some l) (wy : sx_w sx_r32 (sx_val ρ y)) (e : (sx_isd op = true → Int32.ofInt (sx_val ρ y) ≠ 0) → X = some (pc + 1, sx_cl1 ρ lv, .int (sx_sem32 op (Int32.ofInt (sx_val ρ x)) (Int32.ofInt (sx_val ρ y))) :: sx_cs1 ρ r, sx_HH lay rf M)) : sx_res ly ib xs L M0 lay rf ρ t.1 l X := by
  unfold sx_pv at h
  split at h
  · rename_i w ew
    cases h
    obtain ⟨v, t'⟩ := w
    obtain ⟨ρ', h1, h2, h3, h4, h5, h6, h7⟩ := sx_bin32_ok hs hx hy ew
    refine ⟨_, List.mem_singleton.mpr rfl, ρ', M, h1, h2, h3, sx_ext_okl h1 h2 hl, sx_oks_cons ⟨h4, fun _ => h5, fun h => by cases h⟩ (sx_ext_oks h1 h2 hk), ?_⟩
    rw [e (fun hd => by
      intro h0
      have h0 : Int32.ofInt (sx_val ρ y) = Int32.ofInt 0 := h0
      exact h7 hd ((sx_eq32 wy ⟨by decide, by decide⟩).mp h0))]
    show _ = some (_, _, sx_cv1 ρ' (0, v) :: sx_cs1 ρ' r, _)
    rw [sx_ext_cl h1 hl, sx_ext_cs h1 hk]
    show _ = some (_, _, .int (Int32.ofInt (sx_val ρ' v)) :: sx_cs1 ρ r, _)
    rw [h6]
  · cases h
theorem sx_res_b64 {op : Nat} {x y : sx_A} {r : List sx_V} (hs : sx_sat ly ib xs L M0 ρ M t) (hl : sx_okl ρ t.1 lv) (hx : x.1 < t.1) (hy : y.1 < t.1) (hk : sx_oks ρ t.1 r) (h : sx_pv 1 1 pc lv r (sx_bin sx_r64 sx_kk64 op t x y) = some l) (wy : sx_w sx_r64 (sx_val ρ y)) (e : (sx_isd op = true → Int64.ofInt (sx_val ρ y) ≠ 0) → X = some (pc + 1, sx_cl1 ρ lv, .long (sx_sem64 op (Int64.ofInt (sx_val ρ x)) (Int64.ofInt (sx_val ρ y))) :: sx_cs1 ρ r, sx_HH lay rf M)) : sx_res ly ib xs L M0 lay rf ρ t.1 l X := by
  unfold sx_pv at h
  split at h
  · rename_i w ew
    cases h
    obtain ⟨v, t'⟩ := w
    obtain ⟨ρ', h1, h2, h3, h4, h5, h6, h7⟩ := sx_bin64_ok hs hx hy ew
    refine ⟨_, List.mem_singleton.mpr rfl, ρ', M, h1, h2, h3, sx_ext_okl h1 h2 hl, sx_oks_cons ⟨h4, (fun h => by cases h), fun _ => h5⟩ (sx_ext_oks h1 h2 hk), ?_⟩
    rw [e (fun hd => by
      intro h0
      have h0 : Int64.ofInt (sx_val ρ y) = Int64.ofInt 0 := h0
      exact h7 hd ((sx_eq64 wy ⟨by decide, by decide⟩).mp h0))]
    show _ = some (_, _, sx_cv1 ρ' (1, v) :: sx_cs1 ρ' r, _)
    rw [sx_ext_cl h1 hl, sx_ext_cs h1 hk]
    show _ = some (_, _, .long (Int64.ofInt (sx_val ρ' v)) :: sx_cs1 ρ r, _)
    rw [h6]
  · cases h
theorem sx_res_get {k n : Nat} {o : Option sx_V} (hs : sx_sat ly ib xs L M0 ρ M t) (hl : sx_okl ρ t.1 lv) (hk : sx_oks ρ t.1 s) (ho : ∀ v, o = some v → sx_ok ρ t.1 v) (h : sx_get k n pc lv s t o = some l) (e : ∀ v, o = some v → v.1 = k → X = some (pc + n, sx_cl1 ρ lv, sx_cv1 ρ v :: sx_cs1 ρ s, sx_HH lay rf M)) : sx_res ly ib xs L M0 lay rf ρ t.1 l X := by
  unfold sx_get at h
  split at h
  · rename_i v
    obtain ⟨e1, h⟩ := sx_bif h
    cases h
    exact ⟨_, List.mem_singleton.mpr rfl, ρ, M, sx_ext_rfl, Nat.le_refl _, hs, hl, sx_oks_cons (ho v rfl) hk, e v rfl (sx_nbeq.mp e1)⟩
  · cases h
theorem sx_res_cv {n : Nat} {r : Int × Int} {f : Int → Int} {x : sx_A} {rs : List sx_V} (hs : sx_sat ly ib xs L M0 ρ M t) (hl : sx_okl ρ t.1 lv) (hx : x.1 < t.1) (hk : sx_oks ρ t.1 rs) (hr : ∀ a, sx_w r a → f a = a) (hw : ∀ a, sx_w r (f a)) (h32 : ∀ a, sx_w r a → sx_w sx_r32 a) (h : sx_pv 0 n pc lv rs (some (sx_cv r f t x)) = some l) (e : X = some (pc + n, sx_cl1 ρ lv, .int (Int32.ofInt (f (sx_val ρ x))) :: sx_cs1 ρ rs, sx_HH lay rf M)) : sx_res ly ib xs L M0 lay rf ρ t.1 l X := by
  cases h
  obtain ⟨ρ', h1, h2, h3, h4, h5⟩ := sx_cv_ok (f := f) hs hx hr hw (fun a ha => sx_32_64 (h32 a ha))
  refine ⟨_, List.mem_singleton.mpr rfl, ρ', M, h1, h2, h3, sx_ext_okl h1 h2 hl, sx_oks_cons ⟨h4, fun _ => ?_, fun h => by cases h⟩ (sx_ext_oks h1 h2 hk), ?_⟩
  · show sx_w sx_r32 (sx_val ρ' (sx_cv r f t x).1)
    rw [h5]; exact h32 _ (hw _)
  · rw [e]
    show _ = some (_, _, sx_cv1 ρ' (0, (sx_cv r f t x).1) :: sx_cs1 ρ' rs, _)
    rw [sx_ext_cl h1 hl, sx_ext_cs h1 hk]
    show _ = some (_, _, .int (Int32.ofInt (sx_val ρ' (sx_cv r f t x).1)) :: sx_cs1 ρ rs, _)
    rw [h5]
theorem sx_res_br {g : Option Nat} {b : Bool} {r : List sx_V} {q : List (Bool × sx_S)} (hl : sx_okl ρ t.1 lv) (hk : sx_oks ρ t.1 r) (hq : ∃ w ∈ q, w.1 = b ∧ sx_sat ly ib xs L M0 ρ M w.2 ∧ w.2.1 = t.1) (h : sx_br g pc lv r q = some l) (e : X = sm_br g b pc (sx_cl1 ρ lv) (sx_cs1 ρ r) (sx_HH lay rf M)) : sx_res ly ib xs L M0 lay rf ρ t.1 l X := by
  unfold sx_br at h
  split at h
  · rename_i g'
    cases h
    obtain ⟨w, hw, e1, hs, e2⟩ := hq
    refine ⟨_, List.mem_map.mpr ⟨w, hw, rfl⟩, ρ, M, sx_ext_rfl, Nat.le_of_eq e2.symm, hs, by rw [e2]; exact hl, by rw [e2]; exact hk, ?_⟩
    rw [e]
    show some (if b = true then g' else pc + 3, _, _, _) = some (bif w.1 then g' else pc + 3, _, _, _)
    rw [e1]
    cases b <;> rfl
  · cases h
-- a heap that fits: layout, range, what is known at the start, references, arrays only read
def sx_hbs (ly : Nat → Option sx_H) (bs : Nat → Int → Option Int) (M0 : Nat → Nat → Int) : Prop := ∀ k h i c, ly k = some h → 0 ≤ i → i < (sx_sz h : Int) → bs k i = some c → M0 k i.toNat = c
def sx_hrf (ly : Nat → Option sx_H) (rf : Nat → Nat → Option Nat) : Prop := ∀ k h i q, ly k = some h → h.1 = 0 → h.2.1 = 4 → i < h.2.2.1 → h.2.2.2.2[i]? = some q → rf k i = some q.2.2
def sx_hro (rc : List (List Int)) (RO : List (Nat × (Nat → Int32))) (xs : Nat → Int32) (L : Nat) : Prop := RO[0]? = some (L, xs) ∧ ∀ a w, rc[a]? = some w → ∃ f, RO[a + 1]? = some (w.length, f) ∧ ∀ j z, w[j]? = some z → f j = Int32.ofInt z ∧ sx_w sx_r32 z
theorem sx_ix_ok {i : sx_A} {n : Nat} (hs : sx_sat ly ib xs L M0 ρ M t) (h : sx_ix t i n = true) : 0 ≤ sx_val ρ i ∧ sx_val ρ i < n := by
  obtain ⟨h1, h2⟩ := sx_an_iff.mp h
  have h1 := sx_le_iff.mp h1
  have h2 := sx_lt_iff.mp h2
  have hi := sx_iv_ok hs i
  have a1 := hi.1
  have a2 := hi.2
  have : (Int.ofNat n : Int) = (n : Int) := rfl
  rw [this] at h2
  omega
theorem sx_in_sm {z : Int} {n : Nat} (w : sx_w sx_r32 z) (h0 : 0 ≤ z) (h1 : z < n) : sm_in (Int32.ofInt z) n = true ∧ (Int32.ofInt z).toNatClampNeg = z.toNat := by
  have e : (Int32.ofInt z).toNatClampNeg = z.toNat := by rw [← Int32.toNat_toInt, sx_i32 w]
  refine ⟨?_, e⟩
  unfold sm_in
  rw [e]
  simp only [Bool.and_eq_true, Bool.not_eq_true', decide_eq_false_iff_not, decide_eq_true_eq]
  refine ⟨fun h => ?_, by omega⟩
  have h : Int32.ofInt z < Int32.ofInt 0 := h
  rw [sx_lt32 w ⟨by decide, by decide⟩] at h
  omega
theorem sx_ext_go {n : Nat} {ρ' : Nat → Int} {M' : Nat → Nat → Int} {o : sx_O} (hm : o ∈ l) (h1 : sx_ext n ρ ρ') (h2 : n ≤ o.2.2.2.1) (hs : sx_sat ly ib xs L M0 ρ' M' o.2.2.2) (hl : sx_okl ρ' o.2.2.2.1 o.2.1) (hk : sx_oks ρ' o.2.2.2.1 o.2.2.1) (e : X = some (o.1, sx_cl1 ρ' o.2.1, sx_cs1 ρ' o.2.2.1, sx_HH lay rf M')) : sx_res ly ib xs L M0 lay rf ρ n l X := ⟨o, hm, ρ', M', h1, h2, hs, hl, hk, e⟩
/-- elements of arrays of ints and longs, read -/
theorem sx_res_al {ty k : Nat} {a : Nat} {i : sx_A} {sp : Bool} {r : List sx_V} {h9 : sx_H} (hlo : sx_lok ly lay) (hb : sx_hbs ly bs M0) (hs : sx_sat ly ib xs L M0 ρ M t) (hl : sx_okl ρ t.1 lv) (hi : i.1 < t.1) (hk : sx_oks ρ t.1 r) (harr : sx_arr ly a ty = some h9) (n4 : ty ≠ 4) (hkk : (ty = 1 ∧ k = 1) ∨ (ty ≠ 1 ∧ k = 0)) (h : sx_al bs ly sp ty k pc lv r t a i = some l) (e : 0 ≤ sx_val ρ i → sx_val ρ i < h9.2.2.1 → X = some (pc + 1, sx_cl1 ρ lv, (if k = 1 then .long (Int64.ofInt (M a (sx_val ρ i).toNat)) else .int (Int32.ofInt (M a (sx_val ρ i).toNat))) :: sx_cs1 ρ r, sx_HH lay rf M)) : sx_res ly ib xs L M0 lay rf ρ t.1 l X := by
  unfold sx_al at h
  rw [harr] at h
  obtain ⟨e1, e2, e3⟩ := sx_arr_ok harr
  obtain ⟨l1, l2, l3, l4⟩ := hlo a h9 e1
  have h : (bif sx_ix t i h9.2.2.1 then _ else none) = some l := h
  obtain ⟨hix, h⟩ := sx_bif h
  obtain ⟨b1, b2⟩ := sx_ix_ok hs hix
  have e := e b1 b2
  have hsz : sx_sz h9 = h9.2.2.1 := by unfold sx_sz; rw [if_pos e2]
  have hrg : sx_rgo h9 (sx_val ρ i).toNat = some h9.2.2.2.1 := by unfold sx_rgo; rw [if_pos e2, if_neg (by rw [e3]; exact n4)]
  have hw : sx_w h9.2.2.2.1 (M a (sx_val ρ i).toNat) := hs.2.2.2.2.2.1 a h9 _ _ e1 (by rw [hsz]; omega) hrg
  have hk64 : sx_w sx_r64 (M a (sx_val ρ i).toNat) ∧ (k = 0 → sx_w sx_r32 (M a (sx_val ρ i).toNat)) := by
    unfold sx_gd at l4
    rw [if_pos e2, e3] at l4
    rcases hkk with ⟨q1, q2⟩ | ⟨q1, q2⟩
    · rw [if_pos q1] at l4
      have := sx_in_iff.mp l4
      exact ⟨⟨Int.le_trans this.1 hw.1, Int.le_trans hw.2 this.2⟩, fun h => by omega⟩
    · rw [if_neg q1, if_neg n4] at l4
      have := sx_in_iff.mp (sx_an_iff.mp l4).2
      have : sx_w sx_r32 (M a (sx_val ρ i).toNat) := ⟨Int.le_trans this.1 hw.1, Int.le_trans hw.2 this.2⟩
      exact ⟨sx_32_64 this, fun _ => this⟩
  have main : ∀ (t2 : sx_S) (i2 : sx_A), sx_sat ly ib xs L M0 ρ M t2 → t2.1 = t.1 → i2.1 < t2.1 → sx_val ρ i2 = sx_val ρ i → (pc + 1, lv, (k, sx_n (sx_ld bs t2 a i2 h9.2.2.2.1).2 (sx_ld bs t2 a i2 h9.2.2.2.1).1) :: r, (sx_ld bs t2 a i2 h9.2.2.2.1).2) ∈ l → sx_res ly ib xs L M0 lay rf ρ t.1 l X := by
    intro t2 i2 hs2 ht2 hi2 hv hm
    obtain ⟨ρ', r1, r2, r3, r4, r5⟩ := sx_ld_ok (bs := bs) hs2 l2 hi2 (by rw [hv]; exact b1) (fun c hc hb9 => by
      have hv9 : sx_val ρ i2 = i2.2 := by unfold sx_val; rw [hc, hs2.2.1]; omega
      rw [hv9]
      exact hb a h9 i2.2 c e1 (by rw [← hv9, hv]; exact b1) (by rw [← hv9, hv, hsz]; exact b2) hb9) (r := h9.2.2.2.1) (by rw [hv]; exact hw) (by rw [hv]; exact hk64.1)
    obtain ⟨n1, n2⟩ := sx_n_ok r3 r4
    rw [ht2] at r1 r2
    refine sx_ext_go hm r1 r2 r3 (sx_ext_okl r1 r2 hl) (sx_oks_cons ⟨n2, fun h0 => ?_, fun h1 => ?_⟩ (sx_ext_oks r1 r2 hk)) ?_
    · show sx_w sx_r32 (sx_val ρ' _)
      rw [n1, r5, hv]; exact hk64.2 h0
    · show sx_w sx_r64 (sx_val ρ' _)
      rw [n1, r5, hv]; exact hk64.1
    · rw [e]
      show _ = some (_, _, sx_cv1 ρ' (k, _) :: sx_cs1 ρ' r, _)
      rw [sx_ext_cl r1 hl, sx_ext_cs r1 hk]
      rcases hkk with ⟨q1, q2⟩ | ⟨q1, q2⟩
      · rw [if_pos q2, q2]
        show _ = some (_, _, Value.long (Int64.ofInt (sx_val ρ' (sx_n _ _))) :: _, _)
        rw [n1, r5, hv]
      · rw [if_neg (by omega), q2]
        show _ = some (_, _, Value.int (Int32.ofInt (sx_val ρ' (sx_n _ _))) :: _, _)
        rw [n1, r5, hv]
  cases sp
  · have h : some _ = some l := h
    cases h
    exact main t i hs rfl hi rfl (List.mem_singleton.mpr rfl)
  · have h : (match sx_spl t i with
      | some l => _
      | none => none) = some l := h
    split at h
    · rename_i w ew
      cases h
      obtain ⟨q, q1, q2, q3, q4⟩ := sx_spl_ok hs hi ew
      refine main q.2 (0, q.1) q3 q4 (sx_0lt q3) (by rw [sx_v0 q3, q2]) ?_
      exact List.mem_map.mpr ⟨q, q1, rfl⟩
    · cases h
/-- stored -/
theorem sx_res_as {ty : Nat} {a : Nat} {i v : sx_A} {r : List sx_V} {h9 : sx_H} {t0 : sx_S} {ρ0 : Nat → Int} (h01 : sx_ext t0.1 ρ0 ρ) (h02 : t0.1 ≤ t.1) (hlo : sx_lok ly lay) (hb : sx_hbs ly bs M0) (hs : sx_sat ly ib xs L M0 ρ M t) (hl : sx_okl ρ t.1 lv) (hi : i.1 < t.1) (hv : v.1 < t.1) (hk : sx_oks ρ t.1 r) (harr : sx_arr ly a ty = some h9) (n4 : ty ≠ 4) (h : sx_as bs ly ty pc lv r t a i v = some l) (e : 0 ≤ sx_val ρ i → sx_val ρ i < h9.2.2.1 → X = some (pc + 1, sx_cl1 ρ lv, sx_cs1 ρ r, sx_HH lay rf (sx_up M a (sx_val ρ i).toNat (sx_val ρ v)))) : sx_res ly ib xs L M0 lay rf ρ0 t0.1 l X := by
  unfold sx_as at h
  rw [harr] at h
  obtain ⟨e1, e2, e3⟩ := sx_arr_ok harr
  obtain ⟨l1, l2, l3, l4⟩ := hlo a h9 e1
  have h : (bif sx_an (sx_ix t i h9.2.2.1) (sx_in (sx_iv t v) h9.2.2.2.1) then _ else none) = some l := h
  obtain ⟨hc, h⟩ := sx_bif h
  cases h
  obtain ⟨c1, c2⟩ := sx_an_iff.mp hc
  obtain ⟨b1, b2⟩ := sx_ix_ok hs c1
  have c2 := sx_in_iff.mp c2
  have hvi := sx_iv_ok hs v
  have hvw : sx_w h9.2.2.2.1 (sx_val ρ v) := ⟨Int.le_trans c2.1 hvi.1, Int.le_trans hvi.2 c2.2⟩
  have hsz : sx_sz h9 = h9.2.2.1 := by unfold sx_sz; rw [if_pos e2]
  have hrg : ∀ j, sx_rgo h9 j = some h9.2.2.2.1 := fun j => by unfold sx_rgo; rw [if_pos e2, if_neg (by rw [e3]; exact n4)]
  obtain ⟨i1, i2⟩ := sx_n_ok hs hi
  obtain ⟨v1, v2⟩ := sx_n_ok hs hv
  have st := sx_sto_ok (bs := bs) hs l2 i2 v2 (by rw [i1]; exact b1) (fun c hc hb9 => by
      have hv9 : sx_val ρ (sx_n t i) = (sx_n t i).2 := by unfold sx_val; rw [hc, hs.2.1]; omega
      rw [hv9]
      exact hb a h9 _ c e1 (by rw [← hv9, i1]; exact b1) (by rw [← hv9, i1, hsz]; exact b2) hb9) (sx_mok_up hs.2.2.2.2.2.1 e1 (fun r hr => by
        rw [hrg] at hr
        cases hr
        rw [v1]; exact hvw))
  rw [i1, v1] at st
  refine sx_ext_go (List.mem_singleton.mpr rfl) h01 (by rw [st.2]; exact h02) st.1 (by rw [st.2]; exact hl) (by rw [st.2]; exact hk) (e b1 b2)
theorem sx_cc0 (hs : sx_sat ly ib xs L M0 ρ M t) (n : Int) : sx_cv1 ρ (0, 0, n) = .int (Int32.ofInt n) := by
  show Value.int (Int32.ofInt (sx_val ρ (0, n))) = _
  rw [sx_v0 hs]
theorem sx_cc1 (hs : sx_sat ly ib xs L M0 ρ M t) (n : Int) : sx_cv1 ρ (1, 0, n) = .long (Int64.ofInt n) := by
  show Value.long (Int64.ofInt (sx_val ρ (0, n))) = _
  rw [sx_v0 hs]
theorem sx_ck0 (hs : sx_sat ly ib xs L M0 ρ M t) {n : Int} (w : sx_w sx_r32 n) : sx_ok ρ t.1 (0, 0, n) := ⟨sx_0lt hs, fun _ => (by show sx_w sx_r32 (sx_val ρ (0, n)); rw [sx_v0 hs]; exact w), fun h => by cases h⟩
theorem sx_ck1 (hs : sx_sat ly ib xs L M0 ρ M t) {n : Int} (w : sx_w sx_r64 n) : sx_ok ρ t.1 (1, 0, n) := ⟨sx_0lt hs, (fun h => by cases h), fun _ => (by show sx_w sx_r64 (sx_val ρ (0, n)); rw [sx_v0 hs]; exact w)⟩
theorem sx_ck2 (hs : sx_sat ly ib xs L M0 ρ M t) (n : Int) : sx_ok ρ t.1 (2, 0, n) := ⟨sx_0lt hs, (fun h => by cases h), fun h => by cases h⟩
theorem sx_cvk0 {v : sx_V} (h : v.1 = 0) : sx_cv1 ρ v = .int (Int32.ofInt (sx_val ρ v.2)) := by unfold sx_cv1; rw [h]; rfl
theorem sx_cvk1 {v : sx_V} (h : v.1 = 1) : sx_cv1 ρ v = .long (Int64.ofInt (sx_val ρ v.2)) := by unfold sx_cv1; rw [h]; rfl
theorem sx_cvk2 {v : sx_V} (h : v.1 = 2) : sx_cv1 ρ v = .ref v.2.2.toNat := by unfold sx_cv1; rw [h]; rfl
theorem sx_blt {a b : Nat} (h : Nat.blt a b = true) : a < b := Nat.le_of_ble_eq_true h
variable {RO : List (Nat × (Nat → Int32))} {rc : List (List Int)} {sp : Bool} {lk : Nat → Option sm_L} {NV : Nat → List Value} {cq : Nat} {ini : Bool} {nL d : Nat}
theorem sx_res_lcmp {x y : sx_A} {r : List sx_V} (hs : sx_sat ly ib xs L M0 ρ M t) (hl : sx_okl ρ t.1 lv) (hx : sx_ok ρ t.1 (1, x)) (hy : sx_ok ρ t.1 (1, y)) (hk : sx_oks ρ t.1 r) (e : X = some (pc + 1, sx_cl1 ρ lv, .int (lg_cmp (Int64.ofInt (sx_val ρ x)) (Int64.ofInt (sx_val ρ y))) :: sx_cs1 ρ r, sx_HH lay rf M)) (h : some ((sx_clt t x y).flatMap fun q => bif q.1 then [(pc + 1, lv, (0, 0, -1) :: r, q.2)] else (sx_clt q.2 y x).map fun w => (pc + 1, lv, (0, 0, bif w.1 then 1 else 0) :: r, w.2)) = some l) : sx_res ly ib xs L M0 lay rf ρ t.1 l X := by
  cases h
  have wx : sx_w sx_r64 (sx_val ρ x) := hx.2.2 rfl
  have wy : sx_w sx_r64 (sx_val ρ y) := hy.2.2 rfl
  obtain ⟨q, q1, q2, q3, q4⟩ := sx_clt_ok hs hx.1 hy.1 wx wy
  by_cases hlt : sx_val ρ x < sx_val ρ y
  · refine sx_ext_go (o := (pc + 1, lv, (0, 0, -1) :: r, q.2)) (List.mem_flatMap.mpr ⟨q, q1, ?_⟩) sx_ext_rfl (Nat.le_of_eq q4.symm) q3 (by rw [q4]; exact hl) (by rw [q4]; exact sx_oks_cons (sx_ck0 hs ⟨by decide, by decide⟩) hk) ?_
    · rw [q2, decide_eq_true hlt]; exact List.mem_singleton.mpr rfl
    · rw [e]
      show _ = some (_, _, sx_cv1 ρ (0, 0, -1) :: _, _)
      rw [sx_cc0 hs]
      have : lg_cmp (Int64.ofInt (sx_val ρ x)) (Int64.ofInt (sx_val ρ y)) = -1 := by
        unfold lg_cmp
        rw [if_neg (show ¬ Int64.ofInt (sx_val ρ y) < Int64.ofInt (sx_val ρ x) by rw [sx_lt64 wy wx]; omega), if_neg (by rw [sx_eq64 wx wy]; omega)]
      rw [this]
      rfl
  · obtain ⟨w, w1, w2, w3, w4⟩ := sx_clt_ok q3 (x := y) (y := x) (by rw [q4]; exact hy.1) (by rw [q4]; exact hx.1) wy wx
    have h4 : w.2.1 = t.1 := w4.trans q4
    refine sx_ext_go (o := (pc + 1, lv, (0, 0, bif w.1 then 1 else 0) :: r, w.2)) (List.mem_flatMap.mpr ⟨q, q1, ?_⟩) sx_ext_rfl (Nat.le_of_eq h4.symm) w3 (by rw [h4]; exact hl) (by rw [h4]; exact sx_oks_cons (sx_ck0 hs (by cases w.1 <;> exact ⟨by decide, by decide⟩)) hk) ?_
    · rw [q2, decide_eq_false hlt]; exact List.mem_map.mpr ⟨w, w1, rfl⟩
    · rw [e]
      show _ = some (_, _, sx_cv1 ρ (0, 0, _) :: _, _)
      rw [sx_cc0 hs, w2]
      unfold lg_cmp
      by_cases hgt : sx_val ρ y < sx_val ρ x
      · rw [if_pos (show Int64.ofInt (sx_val ρ y) < Int64.ofInt (sx_val ρ x) from (sx_lt64 wy wx).mpr hgt), decide_eq_true hgt]; rfl
      · rw [if_neg (show ¬ Int64.ofInt (sx_val ρ y) < Int64.ofInt (sx_val ρ x) by rw [sx_lt64 wy wx]; exact hgt), if_pos ((sx_eq64 wx wy).mpr (by omega)), decide_eq_false hgt]; rfl
theorem sx_all_mem {α : Type} : ∀ {w : List (Option α)} {r : List α} {a : Option α}, sx_all w = some r → a ∈ w → ∃ v, a = some v ∧ v ∈ r := by
  intro w
  induction w with
  | nil => intro r a _ h; cases h
  | cons b w ih =>
    intro r a h hm
    cases b with
    | none => cases h
    | some v =>
      have h : (match sx_all w with
        | some r => some (v :: r)
        | none => none) = some r := h
      cases e : sx_all w with
      | none => rw [e] at h; cases h
      | some r' =>
        rw [e] at h
        have h : some (v :: r') = some r := h
        cases h
        rcases List.mem_cons.mp hm with hm | hm
        · exact ⟨v, hm, List.mem_cons_self⟩
        · obtain ⟨u, h1, h2⟩ := ih e hm
          exact ⟨u, h1, List.mem_cons_of_mem _ h2⟩
/-- switches: some way has the offset -/
theorem sx_res_sw {w : List (Option Nat × sx_S)} {r : List sx_V} {g : Option Nat} (hl : sx_okl ρ t.1 lv) (hk : sx_oks ρ t.1 r) (hq : ∃ q ∈ w, q.1 = g ∧ sx_sat ly ib xs L M0 ρ M q.2 ∧ q.2.1 = t.1) (h : sx_all (w.map (sx_to lv r)) = some l) (e : X = sm_jump g (sx_cl1 ρ lv) (sx_cs1 ρ r) (sx_HH lay rf M)) : sx_res ly ib xs L M0 lay rf ρ t.1 l X := by
  obtain ⟨q, q1, q2, q3, q4⟩ := hq
  obtain ⟨o, o1, o2⟩ := sx_all_mem h (List.mem_map.mpr ⟨q, q1, rfl⟩)
  unfold sx_to at o1
  split at o1
  · rename_i g' eg
    cases o1
    refine sx_ext_go o2 sx_ext_rfl (Nat.le_of_eq q4.symm) q3 (by show sx_okl ρ q.2.1 lv; rw [q4]; exact hl) (by show sx_oks ρ q.2.1 r; rw [q4]; exact hk) ?_
    rw [e, ← q2, eg]
    rfl
  · cases o1
theorem sx_tab_ok {x : sx_A} {dflt lo hi : Int} {offs : Array Int} (hs : sx_sat ly ib xs L M0 ρ M t) (hx : x.1 < t.1) (wx : sx_w sx_r32 (sx_val ρ x)) : ∃ q ∈ sx_tab t x pc dflt lo hi offs.toList, q.1 = (if sx_val ρ x < lo ∨ hi < sx_val ρ x then sm_tg pc dflt else sx_otg pc offs[(sx_val ρ x - lo).toNat]?) ∧ sx_sat ly ib xs L M0 ρ M q.2 ∧ q.2.1 = t.1 := by
  have hi' := sx_iv_ok hs x
  have a1 := hi'.1
  have a2 := hi'.2
  have w64 := sx_32_64 wx
  unfold sx_tab
  by_cases h1 : sx_val ρ x < lo
  · rw [if_pos (Or.inl h1)]
    obtain ⟨c1, c2⟩ := sx_cap_lo hs hx w64 (hi := lo - 1) (by omega)
    refine ⟨(sm_tg pc dflt, sx_cap t x sx_lo64 (lo - 1)), List.mem_append_left _ ?_, rfl, c1, c2⟩
    rw [sx_bt (sx_lt_iff.mpr (by omega))]
    exact List.mem_singleton.mpr rfl
  · by_cases h2 : hi < sx_val ρ x
    · rw [if_pos (Or.inr h2)]
      obtain ⟨c1, c2⟩ := sx_cap_hi hs hx w64 (lo := hi + 1) (by omega)
      refine ⟨(sm_tg pc dflt, sx_cap t x (hi + 1) sx_hi64), List.mem_append_right _ (List.mem_append_left _ ?_), rfl, c1, c2⟩
      rw [sx_bt (sx_lt_iff.mpr (by omega))]
      exact List.mem_singleton.mpr rfl
    · rw [if_neg (by omega)]
      obtain ⟨c1, c2⟩ := sx_cap_ok hs hx (Int.le_refl (sx_val ρ x)) (Int.le_refl _)
      refine ⟨(sx_otg pc (sx_nth offs.toList (sx_val ρ x - lo).toNat), sx_cap t x (sx_val ρ x) (sx_val ρ x)), List.mem_append_right _ (List.mem_append_right _ (List.mem_map.mpr ⟨sx_val ρ x, sx_rn_mem ?_ ?_, rfl⟩)), ?_, c1, c2⟩
      · exact sx_mx_ge (by omega) a1
      · have m1 := sx_mn_le (c := sx_val ρ x) (a := hi) (b := (sx_iv t x).2) (by omega) a2
        have m2 := sx_mx_ge (c := sx_val ρ x) (a := lo) (b := (sx_iv t x).1) (by omega) a1
        rw [Int.toNat_of_nonneg (by omega)]
        omega
      · show sx_otg pc (sx_nth offs.toList _) = _
        rw [sx_nth_eq, Array.getElem?_toList]
end
