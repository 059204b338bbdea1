/-! What falls: the lowest bit taken away; rests of divisions. -/
section
variable {ly : Nat → Option sx_H} {xs : Nat → Int32} {L : Nat} {MM : Nat → Nat → Int} {ρ : Nat → Int} {M : Nat → Nat → Int} {t : sx_S}
theorem mk_get {ρ : Nat → Int} {vs : List sx_V} {i : Nat} {v : sx_V} (h : vs[i]? = some v) : (sx_cs1 ρ vs)[i]? = some (sx_cv1 ρ v) := by
  unfold sx_cs1
  rw [List.getElem?_map, h]
  rfl
/-- u had its lowest bit taken away -/
noncomputable def mk_dec (i : Nat) (us vs : List sx_V) (t : sx_S) : Bool := match us[i]?, vs[i]? with
  | some u, some v => sx_an (sx_an (Nat.beq u.1 0) (Nat.beq v.1 0)) (sx_an (sx_nh t.2.2.1.1 u.2.1 (0 - u.2.2)) (match sx_mq t.2.2.1.2 1 u.2 (0, 1) with
    | some w => (match sx_mq t.2.2.1.2 3 u.2 (w, 0) with
      | some z => sx_ae v.2 (z, 0)
      | none => false)
    | none => false))
  | _, _ => false
def mk_mu (i : Nat) (vs : List Value) : Nat := match vs[i]? with
  | some (.int x) => x.toUInt32.toNat
  | _ => 0
theorem mk_and_lt (x : Int32) (h : x ≠ 0) : (x &&& (x - 1)).toUInt32.toNat < x.toUInt32.toNat := by
  rw [Int32.toUInt32_and, Int32.toUInt32_sub, UInt32.toNat_and]
  have h0 : x.toUInt32.toNat ≠ 0 := by
    intro e
    apply h
    have e1 : x.toUInt32 = 0 := UInt32.toNat_inj.mp e
    have := congrArg UInt32.toInt32 e1
    simpa using this
  have h1 : (x.toUInt32 - (1 : Int32).toUInt32).toNat = x.toUInt32.toNat - 1 := by
    rw [UInt32.toNat_sub_of_le]
    · rfl
    · rw [UInt32.le_iff_toNat_le]
      show 1 ≤ _
      omega
  rw [h1]
  have := Nat.and_le_right (n := x.toUInt32.toNat) (m := x.toUInt32.toNat - 1)
  omega
theorem mk_dec_ok {i : Nat} {us vs : List sx_V} (h : mk_dec i us vs t = true) (hs : sx_sat ly (0, -100) xs L MM ρ M t) (hu : sx_oks ρ t.1 us) (hv : sx_oks ρ t.1 vs) : mk_mu i (sx_cs1 ρ vs) < mk_mu i (sx_cs1 ρ us) := by
  unfold mk_dec at h
  cases eu : us[i]? with
  | none => rw [eu] at h; cases h
  | some u =>
    cases ev : vs[i]? with
    | none => rw [eu, ev] at h; cases h
    | some v =>
      rw [eu, ev] at h
      obtain ⟨h1, h⟩ := sx_an_iff.mp h
      obtain ⟨h1, h2⟩ := sx_an_iff.mp h1
      obtain ⟨h3, h⟩ := sx_an_iff.mp h
      have h1 := sx_nbeq.mp h1
      have h2 := sx_nbeq.mp h2
      cases e1 : sx_mq t.2.2.1.2 1 u.2 (0, 1) with
      | none => rw [e1] at h; cases h
      | some w =>
        rw [e1] at h
        dsimp only at h
        cases e2 : sx_mq t.2.2.1.2 3 u.2 (w, 0) with
        | none => rw [e2] at h; cases h
        | some z =>
          rw [e2] at h
          have h := sx_ae_iff.mp h
          obtain ⟨-, w1⟩ := sx_mq_ok hs.2.2.2.2.1.2 e1
          obtain ⟨-, z1⟩ := sx_mq_ok hs.2.2.2.2.1.2 e2
          have hn := sx_nh_ok u.2.1 (0 - u.2.2) _ (fun q hq => (hs.2.2.2.2.1.1 q hq).2) h3
          have hu0 : sx_val ρ u.2 ≠ 0 := by
            unfold sx_val; omega
          have hur := (hu u (List.mem_of_getElem? eu)).2.1 h1
          have hw : sx_val ρ (w, 0) = (Int32.ofInt (sx_val ρ u.2) - 1).toInt := by
            show ρ w + 0 = _
            rw [w1, sx_v0 hs]
            show (Int32.ofInt (sx_val ρ u.2) - Int32.ofInt 1).toInt + 0 = _
            rw [Int.add_zero]
            rfl
          have hz : sx_val ρ v.2 = (Int32.ofInt (sx_val ρ u.2) &&& (Int32.ofInt (sx_val ρ u.2) - 1)).toInt := by
            rw [h]
            show ρ z + 0 = _
            rw [z1, hw]
            show (Int32.ofInt (sx_val ρ u.2) &&& Int32.ofInt (Int32.ofInt (sx_val ρ u.2) - 1).toInt).toInt + 0 = _
            rw [Int32.ofInt_toInt, Int.add_zero]
          unfold mk_mu
          rw [mk_get eu, mk_get ev, sx_cvk0 h1, sx_cvk0 h2, hz]
          show (Int32.ofInt (Int32.toInt _)).toUInt32.toNat < _
          rw [Int32.ofInt_toInt]
          refine mk_and_lt _ (fun h0 => hu0 ?_)
          have := congrArg Int32.toInt h0
          rw [sx_i32 hur] at this
          exact this
/-- v's y is the rest of u's x by u's y -/
noncomputable def mk_rem (ix iy : Nat) (us vs : List sx_V) (t : sx_S) : Bool := match us[ix]?, us[iy]?, vs[iy]? with
  | some x, some y, some v => sx_an (sx_an (Nat.beq x.1 1) (sx_an (Nat.beq y.1 1) (Nat.beq v.1 1))) (sx_an (bif sx_lt 0 (sx_iv t y.2).1 then true else sx_lt (sx_iv t y.2).2 0) (match sx_mq t.2.2.1.2 39 x.2 y.2 with
    | some z => sx_ae v.2 (z, 0)
    | none => false))
  | _, _, _ => false
def mk_abs (i : Nat) (vs : List Value) : Nat := match vs[i]? with
  | some (.long x) => x.toInt.natAbs
  | _ => 0
theorem mk_bm (r b : Int) (h : r.natAbs < b.natAbs) (hb : b.natAbs ≤ 2 ^ 63) : r.bmod (2 ^ 64) = r := by
  rw [Int.bmod_def]
  split <;> omega
theorem mk_rem_lt (x y : Int64) (h : y.toInt ≠ 0) : (x - x / y * y).toInt.natAbs < y.toInt.natAbs := by
  have hb : y.toInt.natAbs ≤ 2 ^ 63 := by
    have h1 := Int64.le_toInt y
    have h2 := Int64.toInt_lt y
    omega
  have hlt : (x.toInt.tmod y.toInt).natAbs < y.toInt.natAbs := by
    rw [Int.natAbs_tmod]
    exact Nat.mod_lt _ (by omega)
  have h1 : (x - x / y * y).toInt = (x.toInt.tmod y.toInt).bmod (2 ^ 64) := by
    rw [Int64.toInt_sub, Int64.toInt_mul, Int64.toInt_div, Int.bmod_mul_bmod, Int.sub_bmod_bmod, Int.tmod_def, Int.mul_comm]
  rw [h1, mk_bm _ _ hlt hb]
  exact hlt
theorem mk_rem_ok {ix iy : Nat} {us vs : List sx_V} (h : mk_rem ix iy us vs t = true) (hs : sx_sat ly (0, -100) xs L MM ρ M t) (hu : sx_oks ρ t.1 us) (hv : sx_oks ρ t.1 vs) : mk_abs iy (sx_cs1 ρ vs) < mk_abs iy (sx_cs1 ρ us) := by
  unfold mk_rem at h
  cases ex : us[ix]? with
  | none => rw [ex] at h; cases h
  | some x =>
    cases ey : us[iy]? with
    | none => rw [ex, ey] at h; cases h
    | some y =>
      cases ev : vs[iy]? with
      | none => rw [ex, ey, ev] at h; cases h
      | some v =>
        rw [ex, ey, ev] at h
        obtain ⟨h1, h⟩ := sx_an_iff.mp h
        obtain ⟨h1, h2⟩ := sx_an_iff.mp h1
        obtain ⟨h2, h3⟩ := sx_an_iff.mp h2
        obtain ⟨h4, h⟩ := sx_an_iff.mp h
        have h1 := sx_nbeq.mp h1
        have h2 := sx_nbeq.mp h2
        have h3 := sx_nbeq.mp h3
        cases e1 : sx_mq t.2.2.1.2 39 x.2 y.2 with
        | none => rw [e1] at h; cases h
        | some z =>
          rw [e1] at h
          have h := sx_ae_iff.mp h
          obtain ⟨-, z1⟩ := sx_mq_ok hs.2.2.2.2.1.2 e1
          have hyr := (hu y (List.mem_of_getElem? ey)).2.2 h2
          have hiv := sx_iv_ok hs y.2
          have hy0 : sx_val ρ y.2 ≠ 0 := by
            have i1 := hiv.1
            have i2 := hiv.2
            cases e : sx_lt 0 (sx_iv t y.2).1
            · rw [e] at h4
              have := sx_lt_iff.mp (show sx_lt (sx_iv t y.2).2 0 = true from h4)
              omega
            · have := sx_lt_iff.mp e
              omega
          have hz : sx_val ρ v.2 = (Int64.ofInt (sx_val ρ x.2) - Int64.ofInt (sx_val ρ x.2) / Int64.ofInt (sx_val ρ y.2) * Int64.ofInt (sx_val ρ y.2)).toInt := by
            rw [h]
            show ρ z + 0 = _
            rw [z1, Int.add_zero]
            rfl
          unfold mk_abs
          rw [mk_get ey, mk_get ev, sx_cvk1 h2, sx_cvk1 h3, hz]
          show (Int64.toInt (Int64.ofInt (Int64.toInt _))).natAbs < _
          rw [Int64.ofInt_toInt]
          refine mk_rem_lt _ _ ?_
          rw [sx_i64 hyr]
          exact hy0
end
