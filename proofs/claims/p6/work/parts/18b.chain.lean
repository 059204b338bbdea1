/-! The reference's parser: the parts that are chains, on the small machine. -/
section
variable {L : Nat} {xs : Nat → Int32} {M MM M0 : Nat → Nat → Int} {ρ : Nat → Int}
def pz_g : List ct_G := [(53, 21, 0, 120), (53, 22, 0, 120), (53, 23, -1, 120), (53, 24, 0, 6), (53, 25, 0, 121)]
/-- a value 9; taped 10, here 11, fault 12, open 13, laid 14 -/
noncomputable def pz_t (r : Int × Int) : sx_S := ct_get pz_g (mt_as [(0, r)] (mt_tr [])).2
def pz_ok (M : Nat → Nat → Int) : Prop := sx_mok cl_ly M ∧ 0 ≤ M 53 22 ∧ M 53 22 ≤ M 53 21 ∧ -1 ≤ M 53 23 ∧ M 53 23 ≤ 120 ∧ 0 ≤ M 53 24 ∧ M 53 24 ≤ 6 ∧ 0 ≤ M 53 25 ∧ M 53 25 ≤ 121
theorem pz_T (hm : sx_mok cl_ly M) : 0 ≤ M 53 21 ∧ M 53 21 ≤ 120 := cv_ly_ok (g := (53, 21, 0, 120)) hm (by decide +kernel)
theorem pz_fld : ∀ {l : List ct_G} {ρ : Nat → Int} {t : sx_S}, sx_sat cl_ly (0, -100) xs L MM ρ M t → (∀ g ∈ l, g.1 < 128 ∧ sx_w g.2.2 (M g.1 g.2.1) ∧ sx_w sx_r64 (M g.1 g.2.1)) → ∃ ρ', sx_ext t.1 ρ ρ' ∧ (ct_get l t).1 = t.1 + l.length ∧ sx_sat cl_ly (0, -100) xs L MM ρ' M (ct_get l t) ∧ ∀ (i : Nat) (g : ct_G), l[i]? = some g → ρ' (t.1 + i) = M g.1 g.2.1 := by
  intro l
  induction l with
  | nil => intro ρ t hs _; exact ⟨ρ, sx_ext_rfl, rfl, hs, fun i g h => by cases h⟩
  | cons g l ih =>
    intro ρ t hs h
    obtain ⟨h1, h2, h3⟩ := h g List.mem_cons_self
    have i0 : sx_val ρ (0, Int.ofNat g.2.1) = (g.2.1 : Int) := sx_v0 hs _
    have i1 : (sx_val ρ (0, Int.ofNat g.2.1)).toNat = g.2.1 := by rw [i0]; rfl
    have st := sx_frl_ok hs h1 (i := (0, Int.ofNat g.2.1)) (sx_0lt hs) (by rw [i0]; omega) (r := g.2.2) (by rw [i1]; exact h2) (by rw [i1]; exact h3)
    rw [i1] at st
    obtain ⟨ρ', a1, a2, a3, a4⟩ := ih st (fun q hq => h q (List.mem_cons_of_mem _ hq))
    have e : (sx_frl t g.1 (0, Int.ofNat g.2.1) g.2.2).2.1 = t.1 + 1 := rfl
    rw [e] at a1 a2 a4
    refine ⟨ρ', sx_ext_tr sx_nu_ext a1 (Nat.le_succ _), ?_, a3, fun i q hq => ?_⟩
    · show (ct_get l _).1 = _
      rw [a2, List.length_cons]; omega
    · cases i with
      | zero =>
        cases hq
        rw [Nat.add_zero, a1 t.1 (Nat.lt_succ_self _)]
        unfold sx_nu
        rw [if_pos rfl]
      | succ i =>
        have := a4 i q hq
        rw [show t.1 + 1 + i = t.1 + (i + 1) by omega] at this
        exact this
theorem pz_sat {z : Int} {r : Int × Int} (hL : L < 2 ^ 31) (hp : pz_ok M) (hz : sx_w r z) (hz32 : sx_w sx_r32 z) : ∃ ρ : Nat → Int, sx_sat cl_ly (0, -100) xs L M ρ M (pz_t r) ∧ ρ 9 = z ∧ ρ 10 = M 53 21 ∧ ρ 11 = M 53 22 ∧ ρ 12 = M 53 23 ∧ ρ 13 = M 53 24 ∧ ρ 14 = M 53 25 := by
  obtain ⟨p1, p2, p3, p4, p5, p6, p7, p8, p9⟩ := hp
  have hT := pz_T p1
  have hvs : ct_vs [(0, r)] [.int (Int32.ofInt z)] := ⟨Or.inl ⟨rfl, z, rfl, hz, hz32⟩, trivial⟩
  obtain ⟨ρ1, a1, a2, a3, a4, a5⟩ := mt_as_ok hvs (mt_tr_sat (MM := M) (M := M) (mod := []) (xs := xs) hL (fun a ha => by cases ha) p1 (fun a _ _ => rfl))
  have e1 : (mt_as [(0, r)] (mt_tr [])).1 = [(0, 9, 0)] := rfl
  rw [e1] at a4 a5
  have w9 : sx_w sx_r32 (ρ1 9) := by
    have := (a5 (0, 9, 0) List.mem_cons_self).2.1 rfl
    unfold sx_val at this
    rw [Int.add_zero] at this
    exact this
  have v4 : [sx_cv1 ρ1 (0, 9, 0)] = [Value.int (Int32.ofInt z)] := a4
  simp only [gv_cv, List.cons.injEq, and_true] at v4
  have q9 := gv_inj w9 hz32 v4
  have w64 : ∀ {x : Int}, -1 ≤ x → x ≤ 121 → sx_w sx_r64 x := fun h1 h2 => by rw [sx_r64_iff]; omega
  obtain ⟨ρ2, b1, b2, b3, b4⟩ := pz_fld (l := pz_g) a3 (fun g hg => by
    simp only [pz_g, List.mem_cons, List.not_mem_nil, or_false] at hg
    rcases hg with rfl | rfl | rfl | rfl | rfl
    · exact ⟨Nat.le_of_ble_eq_true rfl, hT, w64 (x := M 53 21) (by omega) (by omega)⟩
    · exact ⟨Nat.le_of_ble_eq_true rfl, ⟨p2, by show M 53 22 ≤ (120 : Int); omega⟩, w64 (x := M 53 22) (by omega) (by omega)⟩
    · exact ⟨Nat.le_of_ble_eq_true rfl, ⟨p4, p5⟩, w64 (x := M 53 23) (by omega) (by omega)⟩
    · exact ⟨Nat.le_of_ble_eq_true rfl, ⟨p6, p7⟩, w64 (x := M 53 24) (by omega) (by omega)⟩
    · exact ⟨Nat.le_of_ble_eq_true rfl, ⟨p8, p9⟩, w64 (x := M 53 25) (by omega) (by omega)⟩)
  exact ⟨ρ2, b3, by rw [b1 9 (show 9 < 10 by decide)]; exact q9, b4 0 _ rfl, b4 1 _ rfl, b4 2 _ rfl, b4 3 _ rfl, b4 4 _ rfl⟩
/-- nothing is changed -/
noncomputable def pz_same (t : sx_S) : Bool := (List.range 128).all fun a => Nat.beq (sx_tg 7 t.2.2.2 a).1 0
theorem pz_same_ok {t : sx_S} (hs : sx_sat cl_ly (0, -100) xs L MM ρ M t) (h : pz_same t = true) : ∀ a, a < 128 → M a = MM a := by
  intro a ha
  obtain ⟨-, g0, -, -, l4⟩ := hs.2.2.2.2.2.2.1 a ha
  exact l4 (sx_nbeq.mp (List.all_eq_true.mp h a (List.mem_range.mpr ha)))
def pz_ch : ct_C := ([(2, 53, 53)], [], [(53, 22, sx_r32)], [], none, 60, false)
/-- here went on by one, and it was below taped -/
noncomputable def pz_hd (t0 t : sx_S) : Bool := sx_an (mt_cells pz_ch t0 t) (sx_an (match jv t (53, 22) with
  | some v => sx_ae v (11, 1)
  | none => false) (match sx_kl t.2.2.1.2 11 10 0 with
  | some b => b
  | none => false))
theorem pz_hd_ok {r : Int × Int} {ρ0 : Nat → Int} {M' : Nat → Nat → Int} {t : sx_S} (hs0 : sx_sat cl_ly (0, -100) xs L M ρ0 M (pz_t r)) (hx : sx_ext (pz_t r).1 ρ0 ρ) (hs : sx_sat cl_ly (0, -100) xs L M ρ M' t) (h10 : ρ0 10 = M 53 21) (h11 : ρ0 11 = M 53 22) (h : pz_hd (pz_t r) t = true) : ps_hd M M' := by
  obtain ⟨h1, h2⟩ := sx_an_iff.mp h
  obtain ⟨h2, h3⟩ := sx_an_iff.mp h2
  have fr := mt_cells_ok hs0 hx (fun _ _ _ _ _ => rfl) hs h1
  have n15 : (pz_t r).1 = 15 := rfl
  have y : ∀ s, s < 15 → ρ s = ρ0 s := fun s hs => hx s (by rw [n15]; exact hs)
  have f : ∀ {a i : Nat}, a < 128 → (a = 53 → i ≠ 22) → M' a i = M a i := fun {a i} ha hi => fr a i ha (fun hm => by cases hm) (fun g hg e => by
    have : g = (53, 22, sx_r32) := List.mem_singleton.mp hg
    subst this
    exact fun e2 => hi e.symm e2.symm)
  cases e1 : jv t (53, 22) with
  | none => rw [e1] at h2; cases h2
  | some v =>
    rw [e1] at h2
    have h2 := sx_ae_iff.mp h2
    have hv := (jv_ok hs (p := (53, 22)) (by decide) e1).1
    rw [h2] at hv
    have hv : M' 53 22 = ρ 11 + 1 := hv
    rw [y 11 (by decide), h11] at hv
    cases e2 : sx_kl t.2.2.1.2 11 10 0 with
    | none => rw [e2] at h3; cases h3
    | some b =>
      rw [e2] at h3
      have h3 : b = true := h3
      have k := sx_kl_ok hs.2.1 hs.2.2.2.2.1.2 e2
      rw [h3] at k
      have k := of_decide_eq_true k.symm
      rw [y 10 (by decide), y 11 (by decide), h10, h11] at k
      refine ⟨hs.2.2.2.2.2.1, fun a i ha hm hp => f ha (fun e => ?_), hv, by omega, f (by decide) (fun _ => by decide), f (by decide) (fun _ => by decide), f (by decide) (fun _ => by decide), ?_, ?_⟩
      · subst e
        exact fun e3 => hp (53, 22, sx_r32) (by simp [ps_c]) rfl e3.symm
      · funext i; exact f (by decide) (fun e => by omega)
      · funext i; exact f (by decide) (fun e => by omega)
def pz_ca : ct_C := ([(2, 53, 53)], [], [(53, 25, sx_r32)], [67, 68], none, 60, false)
noncomputable def pz_one (t : sx_S) (k : Nat) : Option sx_A := match sx_tg 7 t.2.2.2 k with
  | (1, [e]) => bif sx_ae e.1 (14, 130) then some e.2 else none
  | _ => none
/-- one step was laid: its kind is v -/
noncomputable def pz_ad (v : sx_A) (t0 t : sx_S) : Bool := sx_an (mt_cells pz_ca t0 t) (sx_an (match jv t (53, 25) with
  | some w => sx_ae w (14, 1)
  | none => false) (match pz_one t 67, pz_one t 68 with
  | some w, some _ => sx_ae w v
  | _, _ => false))
theorem pz_one_ok {t : sx_S} {k : Nat} {v : sx_A} (hk : k < 128) (hs : sx_sat cl_ly (0, -100) xs L MM ρ M t) (h : pz_one t k = some v) (h0 : 0 ≤ ρ 14) : M k (130 + ρ 14).toNat = sx_val ρ v ∧ ∀ i : Nat, (i : Int) ≠ 130 + ρ 14 → M k i = MM k i := by
  obtain ⟨l1, g0, l2, l3, l4⟩ := hs.2.2.2.2.2.2.1 k hk
  unfold pz_one at h
  split at h
  · rename_i e he
    rw [he] at l2 l3
    have e2 : g0 = MM k := l2 (show (1 : Nat) ≠ 2 by decide)
    obtain ⟨c, h⟩ := sx_bif h
    have c := sx_ae_iff.mp c
    have hv : e.2 = v := Option.some.inj h
    have hi : sx_val ρ e.1 = 130 + ρ 14 := by
      rw [c]
      unfold sx_val
      show ρ 14 + 130 = _
      omega
    rw [l3, e2]
    have ap : ∀ j, sx_app ρ [e] (MM k) j = if j = (sx_val ρ e.1).toNat then sx_val ρ e.2 else MM k j := fun j => rfl
    refine ⟨?_, fun i hne => ?_⟩
    · show sx_app ρ [e] (MM k) _ = _
      rw [ap, hi, if_pos rfl, hv]
    · show sx_app ρ [e] (MM k) _ = _
      rw [ap, hi, if_neg (by omega)]
  · cases h
theorem pz_ad_ok {r : Int × Int} {v : sx_A} {z : Int} {ρ0 : Nat → Int} {M' : Nat → Nat → Int} {t : sx_S} (hs0 : sx_sat cl_ly (0, -100) xs L M ρ0 M (pz_t r)) (hx : sx_ext (pz_t r).1 ρ0 ρ) (hs : sx_sat cl_ly (0, -100) xs L M ρ M' t) (h14 : ρ0 14 = M 53 25) (hl : 0 ≤ M 53 25) (hv : sx_val ρ v = z) (h : pz_ad v (pz_t r) t = true) : ps_ad z M M' := by
  obtain ⟨h1, h2⟩ := sx_an_iff.mp h
  obtain ⟨h2, h3⟩ := sx_an_iff.mp h2
  have fr := mt_cells_ok hs0 hx (fun _ _ _ _ _ => rfl) hs h1
  have n15 : (pz_t r).1 = 15 := rfl
  have y14 : ρ 14 = M 53 25 := by rw [hx 14 (by rw [n15]; decide)]; exact h14
  have f : ∀ {i : Nat}, i ≠ 25 → M' 53 i = M 53 i := fun {i} hi => fr 53 i (by decide) (by decide) (fun g hg e => by
    have : g = (53, 25, sx_r32) := List.mem_singleton.mp hg
    subst this
    exact fun e2 => hi e2.symm)
  cases e1 : jv t (53, 25) with
  | none => rw [e1] at h2; cases h2
  | some w =>
    rw [e1] at h2
    have h2 := sx_ae_iff.mp h2
    have hw := (jv_ok hs (p := (53, 25)) (by decide) e1).1
    rw [h2] at hw
    have hw : M' 53 25 = ρ 14 + 1 := hw
    rw [y14] at hw
    cases e67 : pz_one t 67 with
    | none => rw [e67] at h3; cases h3
    | some w7 =>
      cases e68 : pz_one t 68 with
      | none => rw [e67, e68] at h3; cases h3
      | some w8 =>
        rw [e67, e68] at h3
        have h3 := sx_ae_iff.mp h3
        obtain ⟨u1, u2⟩ := pz_one_ok (by decide) hs e67 (by omega)
        obtain ⟨-, u4⟩ := pz_one_ok (by decide) hs e68 (by omega)
        rw [y14] at u1 u2 u4
        refine ⟨hs.2.2.2.2.2.1, fun a i ha hm hp => ?_, f (by decide), f (by decide), f (by decide), hw, by rw [u1, h3, hv], fun i hi => ⟨u2 i hi, u4 i hi⟩⟩
        refine fr a i ha hm (fun g hg e e2 => ?_)
        have : g = (53, 25, sx_r32) := List.mem_singleton.mp hg
        subst this
        exact hp (53, 25, sx_r32) (by simp [ps_c]) e e2
end
