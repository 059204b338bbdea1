/-! A method's contract, out of its segments: the check. -/
section
/-- a head of a loop: where; locals (place, kind, from, to); fields that were written; fields that are read; what falls: numbers times locals (by their order), and a number; which local is gone through value by value -/
abbrev mt_K : Type := Nat × List (Nat × ct_Q) × List ct_G × List ct_G × List (Int × Nat) × Int × Option Nat
noncomputable def mt_tr (mod : List Nat) : sx_S := (9, [], ([], []), ct_hav mod (sx_t0 7 (0, [])))
noncomputable def mt_cv (mod : List Nat) (K : mt_K) : List sx_V := (mt_as (K.2.1.map fun q => q.2) (mt_tr mod)).1
noncomputable def mt_ct (mod : List Nat) (K : mt_K) : sx_S := ct_get K.2.2.2.1 (ct_put K.2.2.1 (mt_as (K.2.1.map fun q => q.2) (mt_tr mod)).2)
def mt_lv : List (Nat × ct_Q) → List sx_V → sx_L
  | q :: qs, v :: vs => (q.1, v) :: mt_lv qs vs
  | _, _ => []
def mt_av (v : sx_V) : sx_A := bif Nat.ble v.1 1 then v.2 else (0, 0)
noncomputable def mt_lin (m : List (Int × Nat)) (vs : List sx_V) : List (Int × sx_A) := m.map fun q => (q.1, mt_av ((sx_nth vs q.2).getD (0, 0, 0)))
def mt_ev (ρ : Nat → Int) (l : List (Int × sx_A)) : Int := match l with
  | [] => 0
  | q :: r => q.1 * sx_val ρ q.2 + mt_ev ρ r
noncomputable def mt_add (s : Nat) (c : Int) (l : List (Nat × Int)) : List (Nat × Int) := l.rec [(s, c)] (fun q r ih => bif Nat.beq q.1 s then (s, q.2 + c) :: r else q :: ih)
noncomputable def mt_grp (l : List (Int × sx_A)) : List (Nat × Int) × Int := l.rec ([], 0) (fun q _ ih => (mt_add q.2.1 q.1 ih.1, q.1 * q.2.2 + ih.2))
def mt_es (ρ : Nat → Int) (l : List (Nat × Int)) : Int := match l with
  | [] => 0
  | q :: r => q.2 * ρ q.1 + mt_es ρ r
noncomputable def mt_us (t : sx_S) (l : List (Nat × Int)) : Int := match l with
  | [] => 0
  | q :: r => (bif Nat.beq q.1 0 then 0 else bif sx_le 0 q.2 then q.2 * (sx_si t q.1).2 else q.2 * (sx_si t q.1).1) + mt_us t r
noncomputable def mt_ub (t : sx_S) (l : List (Int × sx_A)) : Int := mt_us t (mt_grp l).1 + (mt_grp l).2
def mt_ng (l : List (Int × sx_A)) : List (Int × sx_A) := l.map fun q => (-q.1, q.2)
variable {ly : Nat → Option sx_H} {ib : sx_A} {xs : Nat → Int32} {L : Nat} {M0 : Nat → Nat → Int} {M : Nat → Nat → Int} {ρ : Nat → Int} {t : sx_S}
theorem mt_add_ok (ρ : Nat → Int) (s : Nat) (c : Int) : ∀ (l : List (Nat × Int)), mt_es ρ (mt_add s c l) = c * ρ s + mt_es ρ l := by
  intro l
  induction l with
  | nil => rfl
  | cons q l ih =>
    show mt_es ρ (bif Nat.beq q.1 s then (s, q.2 + c) :: l else q :: mt_add s c l) = _
    cases e : Nat.beq q.1 s
    · rw [sx_bfalse rfl]
      show q.2 * ρ q.1 + mt_es ρ (mt_add s c l) = c * ρ s + (q.2 * ρ q.1 + mt_es ρ l)
      rw [ih]
      omega
    · rw [sx_bt rfl]
      have e := sx_nbeq.mp e
      show (q.2 + c) * ρ s + mt_es ρ l = c * ρ s + (q.2 * ρ q.1 + mt_es ρ l)
      rw [e, Int.add_mul]
      omega
theorem mt_grp_ok (ρ : Nat → Int) : ∀ (l : List (Int × sx_A)), mt_ev ρ l = mt_es ρ (mt_grp l).1 + (mt_grp l).2 := by
  intro l
  induction l with
  | nil => rfl
  | cons q l ih =>
    show q.1 * sx_val ρ q.2 + mt_ev ρ l = mt_es ρ (mt_add q.2.1 q.1 (mt_grp l).1) + (q.1 * q.2.2 + (mt_grp l).2)
    rw [mt_add_ok, ih]
    unfold sx_val
    rw [Int.mul_add]
    omega
theorem mt_us_ok (hs : sx_sat ly ib xs L M0 ρ M t) : ∀ (l : List (Nat × Int)), mt_es ρ l ≤ mt_us t l := by
  intro l
  induction l with
  | nil => exact Int.le_refl _
  | cons q l ih =>
    show q.2 * ρ q.1 + mt_es ρ l ≤ (bif Nat.beq q.1 0 then 0 else bif sx_le 0 q.2 then q.2 * (sx_si t q.1).2 else q.2 * (sx_si t q.1).1) + mt_us t l
    have hi := sx_si_ok hs q.1
    refine Int.add_le_add ?_ ih
    cases e : Nat.beq q.1 0
    · rw [sx_bfalse rfl]
      cases e2 : sx_le 0 q.2
      · rw [sx_bfalse rfl]
        have := sx_le_f.mp e2
        exact Int.mul_le_mul_of_nonpos_left (by omega) hi.1
      · rw [sx_bt rfl]
        exact Int.mul_le_mul_of_nonneg_left hi.2 (sx_le_iff.mp e2)
    · rw [sx_bt rfl, sx_nbeq.mp e, hs.2.1, Int.mul_zero]
      exact Int.le_refl _
theorem mt_ub_ok (hs : sx_sat ly ib xs L M0 ρ M t) (l : List (Int × sx_A)) : mt_ev ρ l ≤ mt_ub t l := by
  rw [mt_grp_ok]
  exact Int.add_le_add (mt_us_ok hs _) (Int.le_refl _)
theorem mt_ev_app (ρ : Nat → Int) (b : List (Int × sx_A)) : ∀ (a : List (Int × sx_A)), mt_ev ρ (a ++ b) = mt_ev ρ a + mt_ev ρ b := by
  intro a
  induction a with
  | nil => show mt_ev ρ b = 0 + _; omega
  | cons q a ih =>
    show q.1 * sx_val ρ q.2 + mt_ev ρ (a ++ b) = q.1 * sx_val ρ q.2 + mt_ev ρ a + mt_ev ρ b
    rw [ih]; omega
theorem mt_ev_ng (ρ : Nat → Int) : ∀ (a : List (Int × sx_A)), mt_ev ρ (mt_ng a) = - mt_ev ρ a := by
  intro a
  induction a with
  | nil => rfl
  | cons q a ih =>
    show -q.1 * sx_val ρ q.2 + mt_ev ρ (mt_ng a) = -(q.1 * sx_val ρ q.2 + mt_ev ρ a)
    rw [ih, Int.neg_mul]; omega
def mt_z (v : Value) : Int := match v with
  | .int x => x.toInt
  | .long x => x.toInt
  | _ => 0
def mt_mu (m : List (Int × Nat)) (vs : List Value) : Int := match m with
  | [] => 0
  | q :: r => q.1 * mt_z ((vs[q.2]?).getD (.int 0)) + mt_mu r vs
theorem mt_z_ok {n : Nat} {v : sx_V} (h0 : ρ 0 = 0) (hv : sx_ok ρ n v) : mt_z (sx_cv1 ρ v) = sx_val ρ (mt_av v) := by
  unfold mt_av
  by_cases k0 : v.1 = 0
  · rw [sx_cvk0 k0, sx_bt (Nat.ble_eq_true_of_le (by omega))]
    exact sx_i32 (hv.2.1 k0)
  · by_cases k1 : v.1 = 1
    · rw [sx_cvk1 k1, sx_bt (Nat.ble_eq_true_of_le (by omega))]
      exact sx_i64 (hv.2.2 k1)
    · have hb : Nat.ble v.1 1 = false := by
        cases e : Nat.ble v.1 1
        · rfl
        · have := Nat.le_of_ble_eq_true e; omega
      rw [hb]
      obtain ⟨k, a⟩ := v
      match k, k0, k1 with
      | 0, k0, _ => exact absurd rfl k0
      | 1, _, k1 => exact absurd rfl k1
      | k + 2, _, _ =>
        show (0 : Int) = ρ 0 + 0
        rw [h0]; rfl
theorem mt_lin_ok {n : Nat} {vs : List sx_V} (h0 : ρ 0 = 0) (hv : sx_oks ρ n vs) : ∀ (m : List (Int × Nat)), mt_ev ρ (mt_lin m vs) = mt_mu m (sx_cs1 ρ vs) := by
  intro m
  induction m with
  | nil => rfl
  | cons q m ih =>
    show q.1 * sx_val ρ (mt_av ((sx_nth vs q.2).getD (0, 0, 0))) + mt_ev ρ (mt_lin m vs) = q.1 * mt_z (((sx_cs1 ρ vs)[q.2]?).getD (.int 0)) + mt_mu m (sx_cs1 ρ vs)
    rw [ih]
    congr 2
    have e : (sx_cs1 ρ vs)[q.2]? = (vs[q.2]?).map (sx_cv1 ρ) := List.getElem?_map ..
    rw [sx_nth_eq, e]
    cases ev : vs[q.2]? with
    | none =>
      show ρ 0 + 0 = (0 : Int)
      rw [h0]; rfl
    | some v => exact (mt_z_ok h0 (hv v (List.mem_of_getElem? ev))).symm
end
