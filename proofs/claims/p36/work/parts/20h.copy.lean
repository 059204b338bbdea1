/-! The reference's parser: the copying loops, on the small machine. 9 is k, 10 how many, 11 and 12 what stands at the new place. -/
section
variable {L : Nat} {xs : Nat → Int32} {M MM M0 M1 : Nat → Nat → Int} {ρ : Nat → Int} {t : sx_S}
noncomputable def rt_k1t : sx_S := (sx_frl (sx_frl (ct_get [(53, 25, 0, 121)] (mt_as [(0, (0, 121))] (mt_tr [])).2) 67 (9, 130) (-128, 127)).2 68 (9, 130) sx_r32).2
noncomputable def rt_k2t : sx_S := (sx_frl (sx_frl (ct_get [(69, 0, 0, 61)] (mt_as [(0, (0, 61))] (mt_tr [])).2) 70 (9, 61) (-32768, 32767)).2 71 (9, 61) (-32768, 32767)).2
noncomputable def rt_kl (w : Bool) (a b : Nat) (t : sx_S) : Bool := match sx_kl t.2.2.1.2 a b 0 with
  | some c => bif w then c else !c
  | none => false
theorem rt_kl_ok {w : Bool} {a b : Nat} (hs : sx_sat cl_ly (0, -100) xs L MM ρ M t) (h : rt_kl w a b t = true) : decide (ρ a < ρ b + 0) = w := by
  unfold rt_kl at h
  cases e : sx_kl t.2.2.1.2 a b 0 with
  | none => rw [e] at h; cases h
  | some c =>
    rw [e] at h
    have k := sx_kl_ok hs.2.1 hs.2.2.2.2.1.2 e
    rw [← k]
    cases w <;> cases c <;> first | rfl | exact absurd h (by decide)
noncomputable def pc_lk4 (v : sx_A) (lv : sx_L) : Bool := sx_an (mt_nd (lv.map fun q => q.1)) (match mt_at [(0, 2, 53, 53), (1, 0, 0, 0), (2, 0, 0, 0)] lv with
  | some [p, q, w] => sx_an (sx_an (Nat.beq p.1 2) (sx_eq p.2.2 53)) (sx_an (sx_an (Nat.beq q.1 0) (sx_ae q.2 (0, 0))) (sx_an (Nat.beq w.1 0) (sx_ae w.2 v)))
  | _ => false)
theorem pc_lk4_ok {v : sx_A} {n : Nat} {lv : sx_L} (h0 : ρ 0 = 0) (hl : sx_okl ρ n lv) (h : pc_lk4 v lv = true) : lo_le [(0, .ref 53), (1, .int (Int32.ofInt 0)), (2, .int (Int32.ofInt (sx_val ρ v)))] (sx_cl1 ρ lv) := by
  obtain ⟨h1, h2⟩ := sx_an_iff.mp h
  cases e : mt_at [(0, 2, 53, 53), (1, 0, 0, 0), (2, 0, 0, 0)] lv with
  | none => rw [e] at h2; cases h2
  | some vs =>
    rw [e] at h2
    match vs, h2, e with
    | [p, q, w], h2, e =>
      obtain ⟨-, a2⟩ := mt_at_ok hl e
      obtain ⟨k1, k2⟩ := sx_an_iff.mp h2
      obtain ⟨k1, k3⟩ := sx_an_iff.mp k1
      obtain ⟨k2, k5⟩ := sx_an_iff.mp k2
      obtain ⟨k2, k4⟩ := sx_an_iff.mp k2
      obtain ⟨k5, k6⟩ := sx_an_iff.mp k5
      refine ⟨by show ([0, 1, 2] : List Nat).Nodup; decide, mt_cl_nd (mt_nd_ok h1), ?_⟩
      have z0 : sx_val ρ (0, 0) = 0 := by
        unfold sx_val
        show ρ 0 + 0 = 0
        omega
      have ez : mt_zv [(0, 2, 53, 53), (1, 0, 0, 0), (2, 0, 0, 0)] (sx_cs1 ρ [p, q, w]) = [(0, .ref 53), (1, .int (Int32.ofInt 0)), (2, .int (Int32.ofInt (sx_val ρ v)))] := by
        show [(0, sx_cv1 ρ p), (1, sx_cv1 ρ q), (2, sx_cv1 ρ w)] = _
        rw [sx_cvk2 (sx_nbeq.mp k1), sx_eq_iff.mp k3, sx_cvk0 (sx_nbeq.mp k2), sx_ae_iff.mp k4, sx_cvk0 (sx_nbeq.mp k5), sx_ae_iff.mp k6, z0]
        rfl
      intro k v hv
      rw [← ez] at hv
      exact a2 k v hv
/-- one place was written; what was read elsewhere stands behind it -/
noncomputable def lw_two (t : sx_S) (k : Nat) (i v r w : sx_A) : Bool := match sx_tg 7 t.2.2.2 k with
  | (1, [e, e2]) => sx_an (sx_an (sx_ae e.1 i) (sx_ae e.2 v)) (sx_an (sx_ae e2.1 r) (sx_ae e2.2 w))
  | _ => false
theorem lw_two_ok {k : Nat} {i v r w : sx_A} (hk : k < 128) (hs : sx_sat cl_ly (0, -100) xs L MM ρ M t) (h : lw_two t k i v r w = true) (h0 : 0 ≤ sx_val ρ i) (h1 : MM k (sx_val ρ r).toNat = sx_val ρ w) : M k (sx_val ρ i).toNat = sx_val ρ v ∧ ∀ j : Nat, (j : Int) ≠ sx_val ρ i → M k j = MM k j := by
  obtain ⟨l1, g0, l2, l3, l4⟩ := hs.2.2.2.2.2.2.1 k hk
  unfold lw_two at h
  split at h
  · rename_i e e2 he
    rw [he] at l2 l3
    have e3 : g0 = MM k := l2 (show (1 : Nat) ≠ 2 by decide)
    obtain ⟨c1, c2⟩ := sx_an_iff.mp h
    obtain ⟨c1, c3⟩ := sx_an_iff.mp c1
    obtain ⟨c2, c4⟩ := sx_an_iff.mp c2
    have c1 := sx_ae_iff.mp c1
    have c3 := sx_ae_iff.mp c3
    have c2 := sx_ae_iff.mp c2
    have c4 := sx_ae_iff.mp c4
    rw [l3, e3]
    have ap : ∀ j, sx_app ρ [e, e2] (MM k) j = if j = (sx_val ρ e.1).toNat then sx_val ρ e.2 else if j = (sx_val ρ e2.1).toNat then sx_val ρ e2.2 else MM k j := fun j => rfl
    refine ⟨?_, fun j hne => ?_⟩
    · show sx_app ρ [e, e2] (MM k) _ = _
      rw [ap, c1, if_pos rfl, c3]
    · show sx_app ρ [e, e2] (MM k) _ = _
      rw [ap, c1, if_neg (by omega), c2, c4]
      by_cases hj : j = (sx_val ρ r).toNat
      · rw [if_pos hj, hj, h1]
      · rw [if_neg hj]
  · cases h
def rt_lv3 : sx_L := [(0, 2, 0, 53), (1, 0, 0, 0), (2, 0, 9, 0)]
noncomputable def rt_k1 (o : sx_P) : Bool := match o.1 with
  | some _ => false
  | none => sx_an (Nat.beq o.2.2.2.1.length 0) (bif Nat.beq o.2.1 105 then sx_an (pc_lk4 (9, 1) o.2.2.1) (sx_an (sx_an (lw [67, 68] [] rt_k1t o.2.2.2.2) (rt_kl true 9 10 o.2.2.2.2)) (sx_an (lw_two o.2.2.2.2 67 (9, 0) (11, 0) (9, 130) (11, 0)) (lw_two o.2.2.2.2 68 (9, 0) (12, 0) (9, 130) (12, 0)))) else sx_an (sx_an (Nat.beq o.2.1 177) (pc_lk4 (0, 0) o.2.2.1)) (sx_an (lw [69] [] rt_k1t o.2.2.2.2) (rt_kl false 9 10 o.2.2.2.2)))
def rt_ks1 (pc : Nat) : Bool := bif Nat.beq pc 105 then true else Nat.beq pc 177
theorem rt_kc1 : gs_chk rt_ks1 rt_k1 400 400 47 174 106 rt_lv3 [(0, 9, 0)] rt_k1t = true := by decide +kernel
noncomputable def rt_k2 (o : sx_P) : Bool := match o.1 with
  | some none => false
  | some (some v) => sx_an (sx_an (Nat.beq v.1 0) (sx_ae v.2 (0, -1))) (sx_an (lw [] [] rt_k2t o.2.2.2.2) (rt_kl false 9 10 o.2.2.2.2))
  | none => sx_an (sx_an (Nat.beq o.2.2.2.1.length 0) (Nat.beq o.2.1 177)) (sx_an (pc_lk4 (9, 1) o.2.2.1) (sx_an (sx_an (lw [70, 71] [] rt_k2t o.2.2.2.2) (rt_kl true 9 10 o.2.2.2.2)) (sx_an (lw_two o.2.2.2.2 70 (9, 0) (11, 0) (9, 61) (11, 0)) (lw_two o.2.2.2.2 71 (9, 0) (12, 0) (9, 61) (12, 0)))))
theorem rt_kc2 : gs_chk (fun pc => Nat.beq pc 177) rt_k2 400 400 47 174 178 rt_lv3 [(0, 9, 0)] rt_k2t = true := by decide +kernel
end
