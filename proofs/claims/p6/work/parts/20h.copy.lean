/-! The reference's parser: the copying loops, on the small machine. 9 is k, 10 how many, 11 and 12 what stands at the new place. -/
section
variable {L : Nat} {xs : Nat → Int32} {M MM M0 M1 : Nat → Nat → Int} {ρ : Nat → Int} {t : sx_S}
noncomputable def rt_kt (hi : Int) (g1 g2 : ct_G) (a1 : Nat) (r1 : Int × Int) (a2 : Nat) (r2 : Int × Int) (o : Int) : sx_S := (sx_frl (sx_frl (ct_get [g1, g2] (mt_as [(0, (0, hi))] (mt_tr [])).2) a1 (9, o) r1).2 a2 (9, o) r2).2
noncomputable def rt_k1t : sx_S := rt_kt 121 (53, 25, 0, 121) (69, 1, 0, 61) 67 (-128, 127) 68 sx_r32 130
noncomputable def rt_k2t : sx_S := rt_kt 61 (69, 0, 0, 61) (69, 1, 0, 61) 70 (-32768, 32767) 71 (-32768, 32767) 61
theorem rt_kt_sat {hi o : Int} {g1 g2 : ct_G} {a1 a2 : Nat} {r1 r2 : Int × Int} {k : Nat} (hL : L < 2 ^ 31) (hm : sx_mok cl_ly M) (hk : (k : Int) ≤ hi) (hh : hi ≤ 121) (h1 : g1.1 < 128 ∧ sx_w g1.2.2 (M g1.1 g1.2.1) ∧ sx_w sx_r64 (M g1.1 g1.2.1)) (h2 : g2.1 < 128 ∧ sx_w g2.2.2 (M g2.1 g2.2.1) ∧ sx_w sx_r64 (M g2.1 g2.2.1)) (ha1 : a1 < 128) (ha2 : a2 < 128) (ho : 0 ≤ o) (w1 : sx_w r1 (M a1 (k + o).toNat)) (v1 : sx_w sx_r64 (M a1 (k + o).toNat)) (w2 : sx_w r2 (M a2 (k + o).toNat)) (v2 : sx_w sx_r64 (M a2 (k + o).toNat)) : ∃ ρ : Nat → Int, sx_sat cl_ly (0, -100) xs L M ρ M (rt_kt hi g1 g2 a1 r1 a2 r2 o) ∧ ρ 9 = (k : Int) ∧ ρ 10 = M g1.1 g1.2.1 ∧ ρ 11 = M g2.1 g2.2.1 ∧ ρ 12 = M a1 (k + o).toNat ∧ ρ 13 = M a2 (k + o).toNat := by
  have wk32 : sx_w sx_r32 (k : Int) := by rw [sx_r32_iff]; omega
  have hvs : ct_vs [(0, (0, hi))] [.int (Int32.ofInt (k : Int))] := ⟨Or.inl ⟨rfl, k, rfl, ⟨by show (0 : Int) ≤ _; omega, hk⟩, wk32⟩, trivial⟩
  obtain ⟨ρ1, b1, b2, b3, b4, b5⟩ := mt_as_ok hvs (mt_tr_sat (MM := M) (M := M) (mod := []) (xs := xs) hL (fun a ha => by cases ha) hm (fun a _ _ => rfl))
  have e1 : (mt_as [(0, (0, hi))] (mt_tr [])).1 = [(0, 9, 0)] := rfl
  rw [e1] at b4 b5
  have w9 : sx_w sx_r32 (ρ1 9) := by
    have := (b5 (0, 9, 0) List.mem_cons_self).2.1 rfl
    unfold sx_val at this
    rw [Int.add_zero] at this
    exact this
  have v4 : [sx_cv1 ρ1 (0, 9, 0)] = [Value.int (Int32.ofInt (k : Int))] := b4
  simp only [gv_cv, List.cons.injEq, and_true] at v4
  have q9 := gv_inj w9 wk32 v4
  obtain ⟨ρ2, c1, c2, c3, c4⟩ := pz_fld (l := [g1, g2]) b3 (fun g hg => by
    simp only [List.mem_cons, List.not_mem_nil, or_false] at hg
    rcases hg with rfl | rfl
    · exact h1
    · exact h2)
  have n10 : (mt_as [(0, (0, hi))] (mt_tr [])).2.1 = 10 := rfl
  have n12 : (ct_get [g1, g2] (mt_as [(0, (0, hi))] (mt_tr [])).2).1 = 12 := c2
  have y9 : ρ2 9 = (k : Int) := by rw [c1 9 (show 9 < 10 by decide)]; exact q9
  have y10 : ρ2 10 = M g1.1 g1.2.1 := c4 0 _ rfl
  have y11 : ρ2 11 = M g2.1 g2.2.1 := c4 1 _ rfl
  have hv : sx_val ρ2 (9, o) = k + o := by unfold sx_val; rw [y9]
  have s1 := sx_frl_ok c3 (k := a1) (i := (9, o)) ha1 (by rw [n12]; show 9 < 12; decide) (by rw [hv]; omega) (r := r1) (by rw [hv]; exact w1) (by rw [hv]; exact v1)
  rw [hv, n12] at s1
  have x1 : sx_ext 12 ρ2 (sx_nu ρ2 12 (M a1 (k + o).toNat)) := sx_nu_ext
  have hv' : sx_val (sx_nu ρ2 12 (M a1 (k + o).toNat)) (9, o) = k + o := by rw [sx_ext_val x1 (show 9 < 12 by decide)]; exact hv
  have n13 : (sx_frl (ct_get [g1, g2] (mt_as [(0, (0, hi))] (mt_tr [])).2) a1 (9, o) r1).2.1 = 13 := by
    show (ct_get [g1, g2] (mt_as [(0, (0, hi))] (mt_tr [])).2).1 + 1 = 13
    rw [n12]
  have s2 := sx_frl_ok s1 (k := a2) (i := (9, o)) ha2 (by rw [n13]; show 9 < 13; decide) (by rw [hv']; omega) (r := r2) (by rw [hv']; exact w2) (by rw [hv']; exact v2)
  rw [hv', n13] at s2
  have x2 : sx_ext 13 (sx_nu ρ2 12 (M a1 (k + o).toNat)) (sx_nu (sx_nu ρ2 12 (M a1 (k + o).toNat)) 13 (M a2 (k + o).toNat)) := sx_nu_ext
  refine ⟨_, s2, ?_, ?_, ?_, ?_, ?_⟩
  · rw [x2 9 (by decide), x1 9 (by decide)]; exact y9
  · rw [x2 10 (by decide), x1 10 (by decide)]; exact y10
  · rw [x2 11 (by decide), x1 11 (by decide)]; exact y11
  · rw [x2 12 (by decide)]
    unfold sx_nu
    rw [if_pos rfl]
  · unfold sx_nu
    rw [if_pos rfl]
noncomputable def rt_kl (w : Bool) (a b : Nat) (t : sx_S) : Bool := match sx_kl t.2.2.1.2 a b 0 with
  | some c => bif w then c else !c
  | none => false
theorem rt_kl_ok {w : Bool} {a b : Nat} (hs : sx_sat cl_ly (0, -100) xs L MM ρ M t) (h : rt_kl w a b t = true) : decide (ρ a < ρ b + 0) = w := by
  unfold rt_kl at h
  cases e : sx_kl t.2.2.1.2 a b 0 with
  | none => rw [e] at h; cases h
  | some c =>
    rw [e] at h
    have k := sx_kl_ok hs.2.1 hs.2.2.2.2.1.2 e
    rw [← k]
    cases w <;> cases c <;> first | rfl | exact absurd h (by decide)
noncomputable def pc_lk4 (v : sx_A) (lv : sx_L) : Bool := sx_an (mt_nd (lv.map fun q => q.1)) (match mt_at [(0, 2, 53, 53), (1, 0, 0, 0), (2, 0, 0, 0)] lv with
  | some [p, q, w] => sx_an (sx_an (Nat.beq p.1 2) (sx_eq p.2.2 53)) (sx_an (sx_an (Nat.beq q.1 0) (sx_ae q.2 (0, 0))) (sx_an (Nat.beq w.1 0) (sx_ae w.2 v)))
  | _ => false)
theorem pc_lk4_ok {v : sx_A} {n : Nat} {lv : sx_L} (h0 : ρ 0 = 0) (hl : sx_okl ρ n lv) (h : pc_lk4 v lv = true) : lo_le [(0, .ref 53), (1, .int (Int32.ofInt 0)), (2, .int (Int32.ofInt (sx_val ρ v)))] (sx_cl1 ρ lv) := by
  obtain ⟨h1, h2⟩ := sx_an_iff.mp h
  cases e : mt_at [(0, 2, 53, 53), (1, 0, 0, 0), (2, 0, 0, 0)] lv with
  | none => rw [e] at h2; cases h2
  | some vs =>
    rw [e] at h2
    match vs, h2, e with
    | [p, q, w], h2, e =>
      obtain ⟨-, a2⟩ := mt_at_ok hl e
      obtain ⟨k1, k2⟩ := sx_an_iff.mp h2
      obtain ⟨k1, k3⟩ := sx_an_iff.mp k1
      obtain ⟨k2, k5⟩ := sx_an_iff.mp k2
      obtain ⟨k2, k4⟩ := sx_an_iff.mp k2
      obtain ⟨k5, k6⟩ := sx_an_iff.mp k5
      refine ⟨by show ([0, 1, 2] : List Nat).Nodup; decide, mt_cl_nd (mt_nd_ok h1), ?_⟩
      have z0 : sx_val ρ (0, 0) = 0 := by
        unfold sx_val
        show ρ 0 + 0 = 0
        omega
      have ez : mt_zv [(0, 2, 53, 53), (1, 0, 0, 0), (2, 0, 0, 0)] (sx_cs1 ρ [p, q, w]) = [(0, .ref 53), (1, .int (Int32.ofInt 0)), (2, .int (Int32.ofInt (sx_val ρ v)))] := by
        show [(0, sx_cv1 ρ p), (1, sx_cv1 ρ q), (2, sx_cv1 ρ w)] = _
        rw [sx_cvk2 (sx_nbeq.mp k1), sx_eq_iff.mp k3, sx_cvk0 (sx_nbeq.mp k2), sx_ae_iff.mp k4, sx_cvk0 (sx_nbeq.mp k5), sx_ae_iff.mp k6, z0]
        rfl
      intro k v hv
      rw [← ez] at hv
      exact a2 k v hv
/-- one place was written; what was read elsewhere stands behind it -/
noncomputable def lw_two (t : sx_S) (k : Nat) (i v r w : sx_A) : Bool := match sx_tg 7 t.2.2.2 k with
  | (1, [e, e2]) => sx_an (sx_an (sx_ae e.1 i) (sx_ae e.2 v)) (sx_an (sx_ae e2.1 r) (sx_ae e2.2 w))
  | _ => false
theorem lw_two_ok {k : Nat} {i v r w : sx_A} (hk : k < 128) (hs : sx_sat cl_ly (0, -100) xs L MM ρ M t) (h : lw_two t k i v r w = true) (h0 : 0 ≤ sx_val ρ i) (h1 : MM k (sx_val ρ r).toNat = sx_val ρ w) : M k (sx_val ρ i).toNat = sx_val ρ v ∧ ∀ j : Nat, (j : Int) ≠ sx_val ρ i → M k j = MM k j := by
  obtain ⟨l1, g0, l2, l3, l4⟩ := hs.2.2.2.2.2.2.1 k hk
  unfold lw_two at h
  split at h
  · rename_i e e2 he
    rw [he] at l2 l3
    have e3 : g0 = MM k := l2 (show (1 : Nat) ≠ 2 by decide)
    obtain ⟨c1, c2⟩ := sx_an_iff.mp h
    obtain ⟨c1, c3⟩ := sx_an_iff.mp c1
    obtain ⟨c2, c4⟩ := sx_an_iff.mp c2
    have c1 := sx_ae_iff.mp c1
    have c3 := sx_ae_iff.mp c3
    have c2 := sx_ae_iff.mp c2
    have c4 := sx_ae_iff.mp c4
    rw [l3, e3]
    have ap : ∀ j, sx_app ρ [e, e2] (MM k) j = if j = (sx_val ρ e.1).toNat then sx_val ρ e.2 else if j = (sx_val ρ e2.1).toNat then sx_val ρ e2.2 else MM k j := fun j => rfl
    refine ⟨?_, fun j hne => ?_⟩
    · show sx_app ρ [e, e2] (MM k) _ = _
      rw [ap, c1, if_pos rfl, c3]
    · show sx_app ρ [e, e2] (MM k) _ = _
      rw [ap, c1, if_neg (by omega), c2, c4]
      by_cases hj : j = (sx_val ρ r).toNat
      · rw [if_pos hj, hj, h1]
      · rw [if_neg hj]
  · cases h
def rt_lv3 : sx_L := [(0, 2, 0, 53), (1, 0, 0, 0), (2, 0, 9, 0)]
noncomputable def rt_k1 (o : sx_P) : Bool := match o.1 with
  | some _ => false
  | none => sx_an (Nat.beq o.2.2.2.1.length 0) (bif Nat.beq o.2.1 105 then sx_an (pc_lk4 (9, 1) o.2.2.1) (sx_an (sx_an (lw [67, 68] [] rt_k1t o.2.2.2.2) (rt_kl true 9 10 o.2.2.2.2)) (sx_an (lw_two o.2.2.2.2 67 (9, 0) (12, 0) (9, 130) (12, 0)) (lw_two o.2.2.2.2 68 (9, 0) (13, 0) (9, 130) (13, 0)))) else sx_an (sx_an (Nat.beq o.2.1 177) (pc_lk4 (0, 0) o.2.2.1)) (sx_an (sx_an (lw [69] [] rt_k1t o.2.2.2.2) (lw_two o.2.2.2.2 69 (0, 0) (11, 0) (0, 1) (11, 0))) (rt_kl false 9 10 o.2.2.2.2)))
def rt_ks1 (pc : Nat) : Bool := bif Nat.beq pc 105 then true else Nat.beq pc 177
theorem rt_kc1 : gs_chk rt_ks1 rt_k1 400 400 47 174 106 rt_lv3 [(0, 9, 0)] rt_k1t = true := by decide +kernel
noncomputable def rt_k2 (o : sx_P) : Bool := match o.1 with
  | some none => false
  | some (some v) => sx_an (sx_an (Nat.beq v.1 0) (sx_ae v.2 (0, -1))) (sx_an (lw [] [] rt_k2t o.2.2.2.2) (rt_kl false 9 10 o.2.2.2.2))
  | none => sx_an (sx_an (Nat.beq o.2.2.2.1.length 0) (Nat.beq o.2.1 177)) (sx_an (pc_lk4 (9, 1) o.2.2.1) (sx_an (sx_an (lw [70, 71] [] rt_k2t o.2.2.2.2) (rt_kl true 9 10 o.2.2.2.2)) (sx_an (lw_two o.2.2.2.2 70 (9, 0) (12, 0) (9, 61) (12, 0)) (lw_two o.2.2.2.2 71 (9, 0) (13, 0) (9, 61) (13, 0)))))
theorem rt_kc2 : gs_chk (fun pc => Nat.beq pc 177) rt_k2 400 400 47 174 178 rt_lv3 [(0, 9, 0)] rt_k2t = true := by decide +kernel
end
