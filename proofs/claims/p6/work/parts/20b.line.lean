/-! The reference's parser: a line, on the small machine. -/
section
variable {L : Nat} {xs : Nat → Int32} {M MM M0 M1 M2 M3 : Nat → Nat → Int} {ρ : Nat → Int}
def lz_g : List ct_G := pz_g ++ [(69, 1, 0, 60)]
/-- as pz_t, and the number of lines 15 -/
noncomputable def lz_t (r : Int × Int) : sx_S := ct_get lz_g (mt_as [(0, r)] (mt_tr [])).2
theorem lz_sat {z : Int} {r : Int × Int} (hL : L < 2 ^ 31) (hp : pz_ok M) (hn : 0 ≤ M 69 1 ∧ M 69 1 ≤ 60) (hz : sx_w r z) (hz32 : sx_w sx_r32 z) : ∃ ρ : Nat → Int, sx_sat cl_ly (0, -100) xs L M ρ M (lz_t r) ∧ ρ 9 = z ∧ ρ 10 = M 53 21 ∧ ρ 11 = M 53 22 ∧ ρ 12 = M 53 23 ∧ ρ 13 = M 53 24 ∧ ρ 14 = M 53 25 ∧ ρ 15 = M 69 1 := by
  obtain ⟨p1, p2, p3, p4, p5, p6, p7, p8, p9⟩ := hp
  have hT := pz_T p1
  have hvs : ct_vs [(0, r)] [.int (Int32.ofInt z)] := ⟨Or.inl ⟨rfl, z, rfl, hz, hz32⟩, trivial⟩
  obtain ⟨ρ1, a1, a2, a3, a4, a5⟩ := mt_as_ok hvs (mt_tr_sat (MM := M) (M := M) (mod := []) (xs := xs) hL (fun a ha => by cases ha) p1 (fun a _ _ => rfl))
  have e1 : (mt_as [(0, r)] (mt_tr [])).1 = [(0, 9, 0)] := rfl
  rw [e1] at a4 a5
  have w9 : sx_w sx_r32 (ρ1 9) := by
    have := (a5 (0, 9, 0) List.mem_cons_self).2.1 rfl
    unfold sx_val at this
    rw [Int.add_zero] at this
    exact this
  have v4 : [sx_cv1 ρ1 (0, 9, 0)] = [Value.int (Int32.ofInt z)] := a4
  simp only [gv_cv, List.cons.injEq, and_true] at v4
  have q9 := gv_inj w9 hz32 v4
  have w64 : ∀ {x : Int}, -1 ≤ x → x ≤ 121 → sx_w sx_r64 x := fun h1 h2 => by rw [sx_r64_iff]; omega
  obtain ⟨ρ2, b1, b2, b3, b4⟩ := pz_fld (l := lz_g) a3 (fun g hg => by
    simp only [lz_g, pz_g, List.cons_append, List.nil_append, List.mem_cons, List.not_mem_nil, or_false] at hg
    rcases hg with rfl | rfl | rfl | rfl | rfl | rfl
    · exact ⟨Nat.le_of_ble_eq_true rfl, hT, w64 (x := M 53 21) (by omega) (by omega)⟩
    · exact ⟨Nat.le_of_ble_eq_true rfl, ⟨p2, by show M 53 22 ≤ (120 : Int); omega⟩, w64 (x := M 53 22) (by omega) (by omega)⟩
    · exact ⟨Nat.le_of_ble_eq_true rfl, ⟨p4, p5⟩, w64 (x := M 53 23) (by omega) (by omega)⟩
    · exact ⟨Nat.le_of_ble_eq_true rfl, ⟨p6, p7⟩, w64 (x := M 53 24) (by omega) (by omega)⟩
    · exact ⟨Nat.le_of_ble_eq_true rfl, ⟨p8, p9⟩, w64 (x := M 53 25) (by omega) (by omega)⟩
    · exact ⟨Nat.le_of_ble_eq_true rfl, hn, w64 (x := M 69 1) (by omega) (by omega)⟩)
  exact ⟨ρ2, b3, by rw [b1 9 (show 9 < 10 by decide)]; exact q9, b4 0 _ rfl, b4 1 _ rfl, b4 2 _ rfl, b4 3 _ rfl, b4 4 _ rfl, b4 5 _ rfl⟩
/-- fields of the parser with what they become; the cells that may change -/
def lw_c (ms : List Nat) (ps : List (Nat × sx_A)) : ct_C := ([(2, 53, 53)], [], ps.map fun q => (53, q.1, sx_r32), ms, none, 60, false)
noncomputable def lw (ms : List Nat) (ps : List (Nat × sx_A)) (t0 t : sx_S) : Bool := sx_an (sx_an (mt_cells (lw_c ms ps) t0 t) (sx_an (ps.all fun q => sx_an (Nat.ble 22 q.1) (Nat.ble q.1 25)) (ms.all fun m => sx_an (Nat.ble 67 m) (Nat.ble m 71)))) (ps.all fun q => match jv t (53, q.1) with
  | some v => sx_ae v q.2
  | none => false)
theorem lw_ok {ms : List Nat} {ps : List (Nat × sx_A)} {t0 t : sx_S} {ρ0 : Nat → Int} {M' : Nat → Nat → Int} (hs0 : sx_sat cl_ly (0, -100) xs L M ρ0 M t0) (hx : sx_ext t0.1 ρ0 ρ) (hs : sx_sat cl_ly (0, -100) xs L M ρ M' t) (h : lw ms ps t0 t = true) : ct_fr lz_c M M' ∧ (∀ q ∈ ps, M' 53 q.1 = sx_val ρ q.2) ∧ (∀ i, (∀ q ∈ ps, q.1 ≠ i) → M' 53 i = M 53 i) ∧ ∀ a, a < 128 → a ∉ ms → a ≠ 53 → M' a = M a := by
  obtain ⟨h1, h2⟩ := sx_an_iff.mp h
  obtain ⟨h1, h3⟩ := sx_an_iff.mp h1
  obtain ⟨h3, h5⟩ := sx_an_iff.mp h3
  have fr := mt_cells_ok hs0 hx (fun _ _ _ _ _ => rfl) hs h1
  have hin : ∀ q ∈ ps, 22 ≤ q.1 ∧ q.1 ≤ 25 := fun q hq => by
    obtain ⟨a, b⟩ := sx_an_iff.mp (List.all_eq_true.mp h3 q hq)
    exact ⟨Nat.le_of_ble_eq_true a, Nat.le_of_ble_eq_true b⟩
  have hms : ∀ m ∈ ms, 67 ≤ m ∧ m ≤ 71 := fun q hq => by
    obtain ⟨a, b⟩ := sx_an_iff.mp (List.all_eq_true.mp h5 q hq)
    exact ⟨Nat.le_of_ble_eq_true a, Nat.le_of_ble_eq_true b⟩
  refine ⟨fun a i ha hm hp => fr a i ha (fun h9 => hm ?_) (fun g hg e1 e2 => ?_), fun q hq => ?_, fun i hi => fr 53 i (by decide) (fun h9 => ?_) (fun g hg e1 e2 => ?_), fun a ha hn hne => ?_⟩
  · have hb := hms a h9
    have hb : a = 67 ∨ a = 68 ∨ a = 69 ∨ a = 70 ∨ a = 71 := by omega
    rcases hb with rfl | rfl | rfl | rfl | rfl <;> simp [lz_c]
  · obtain ⟨q, hq, rfl⟩ := List.mem_map.mp (show g ∈ ps.map fun q => (53, q.1, sx_r32) from hg)
    have hb := hin q hq
    have hb : q.1 = 22 ∨ q.1 = 23 ∨ q.1 = 24 ∨ q.1 = 25 := by omega
    exact hp (53, q.1, sx_r32) (by rcases hb with e | e | e | e <;> rw [e] <;> simp [lz_c]) e1 e2
  · have h4 := List.all_eq_true.mp h2 q hq
    cases e : jv t (53, q.1) with
    | none => rw [e] at h4; cases h4
    | some v =>
      rw [e] at h4
      rw [← sx_ae_iff.mp h4]
      exact (jv_ok hs (p := (53, q.1)) (show 53 < 128 by decide) e).1
  · have := hms 53 h9
    omega
  · obtain ⟨q, hq, rfl⟩ := List.mem_map.mp (show g ∈ ps.map fun q => (53, q.1, sx_r32) from hg)
    exact hi q hq e2
  · funext i
    refine fr a i ha hn (fun g hg e1 _ => ?_)
    obtain ⟨q, hq, rfl⟩ := List.mem_map.mp (show g ∈ ps.map fun q => (53, q.1, sx_r32) from hg)
    exact hne e1.symm
/-- one place of a cell was written: place, value -/
noncomputable def lw_one (t : sx_S) (k : Nat) (i v : sx_A) : Bool := match sx_tg 7 t.2.2.2 k with
  | (1, [e]) => sx_an (sx_ae e.1 i) (sx_ae e.2 v)
  | _ => false
theorem lw_one_ok {t : sx_S} {k : Nat} {i v : sx_A} (hk : k < 128) (hs : sx_sat cl_ly (0, -100) xs L MM ρ M t) (h : lw_one t k i v = true) (h0 : 0 ≤ sx_val ρ i) : M k (sx_val ρ i).toNat = sx_val ρ v ∧ ∀ j : Nat, (j : Int) ≠ sx_val ρ i → M k j = MM k j := by
  obtain ⟨l1, g0, l2, l3, l4⟩ := hs.2.2.2.2.2.2.1 k hk
  unfold lw_one at h
  split at h
  · rename_i e he
    rw [he] at l2 l3
    have e2 : g0 = MM k := l2 (show (1 : Nat) ≠ 2 by decide)
    obtain ⟨c1, c2⟩ := sx_an_iff.mp h
    have c1 := sx_ae_iff.mp c1
    have c2 := sx_ae_iff.mp c2
    rw [l3, e2]
    have ap : ∀ j, sx_app ρ [e] (MM k) j = if j = (sx_val ρ e.1).toNat then sx_val ρ e.2 else MM k j := fun j => rfl
    refine ⟨?_, fun j hne => ?_⟩
    · show sx_app ρ [e] (MM k) _ = _
      rw [ap, c1, if_pos rfl, c2]
    · show sx_app ρ [e] (MM k) _ = _
      rw [ap, c1, if_neg (by omega)]
  · cases h
/-- the locals: this, and a number of a known value -/
noncomputable def pc_lkv (v : sx_A) (lv : sx_L) : Bool := sx_an (mt_nd (lv.map fun q => q.1)) (match mt_at [(0, 2, 53, 53), (1, 0, 0, 0)] lv with
  | some [p, q] => sx_an (sx_an (Nat.beq p.1 2) (sx_eq p.2.2 53)) (sx_an (Nat.beq q.1 0) (sx_ae q.2 v))
  | _ => false)
theorem pc_lkv_ok {v : sx_A} {n : Nat} {lv : sx_L} (hl : sx_okl ρ n lv) (h : pc_lkv v lv = true) : lo_le [(0, .ref 53), (1, .int (Int32.ofInt (sx_val ρ v)))] (sx_cl1 ρ lv) := by
  obtain ⟨h1, h2⟩ := sx_an_iff.mp h
  cases e : mt_at [(0, 2, 53, 53), (1, 0, 0, 0)] lv with
  | none => rw [e] at h2; cases h2
  | some vs =>
    rw [e] at h2
    match vs, h2, e with
    | [p, q], h2, e =>
      obtain ⟨-, a2⟩ := mt_at_ok hl e
      obtain ⟨k1, k2⟩ := sx_an_iff.mp h2
      obtain ⟨k1, k3⟩ := sx_an_iff.mp k1
      obtain ⟨k2, k4⟩ := sx_an_iff.mp k2
      refine ⟨by show ([0, 1] : List Nat).Nodup; decide, mt_cl_nd (mt_nd_ok h1), ?_⟩
      have ez : mt_zv [(0, 2, 53, 53), (1, 0, 0, 0)] (sx_cs1 ρ [p, q]) = [(0, .ref 53), (1, .int (Int32.ofInt (sx_val ρ v)))] := by
        show [(0, sx_cv1 ρ p), (1, sx_cv1 ρ q)] = _
        rw [sx_cvk2 (sx_nbeq.mp k1), sx_eq_iff.mp k3, sx_cvk0 (sx_nbeq.mp k2), sx_ae_iff.mp k4]
        rfl
      intro k v hv
      rw [← ez] at hv
      exact a2 k v hv
noncomputable def lz_r1 (o : sx_P) : Bool := match o.1 with
  | some _ => false
  | none => sx_an (sx_an (Nat.beq o.2.1 22) (pc_sk o.2.2.2.1)) (sx_an (pc_lkv (15, 61) o.2.2.1) (sx_an (lw [70] [] (lz_t (0, 0)) o.2.2.2.2) (lw_one o.2.2.2.2 70 (15, 61) (14, 0))))
noncomputable def lz_re (o : sx_P) : Bool := match o.1 with
  | some none => sx_an (lw [69, 71] [] (lz_t (61, 121)) o.2.2.2.2) (sx_an (lw_one o.2.2.2.2 71 (9, 0) (14, 0)) (lw_one o.2.2.2.2 69 (0, 1) (15, 1)))
  | _ => false
noncomputable def lz_r2 (o : sx_P) : Bool := bif lz_re o then true else match o.1 with
  | some _ => false
  | none => sx_an (sx_an (Nat.beq o.2.1 63) (pc_sk o.2.2.2.1)) (sx_an (pc_lkv (9, 0) o.2.2.1) (sx_an (sx_an (jin o.2.2.2.2 (12, 0) (-1) (-1)) (po_lt o.2.2.2.2 0)) (sx_an (lw [70] [(22, (11, 1))] (lz_t (61, 121)) o.2.2.2.2) (lw_one o.2.2.2.2 70 (9, 0) (14, 0)))))
theorem lz_c1 : gs_chk (fun pc => Nat.beq pc 22) lz_r1 400 400 46 175 0 [(0, 2, 0, 53)] [] (lz_t (0, 0)) = true := by decide +kernel
theorem lz_c2 : gs_chk (fun pc => Nat.beq pc 63) lz_r2 400 400 46 175 25 [(0, 2, 0, 53), (1, 0, 9, 0)] [] (lz_t (61, 121)) = true := by decide +kernel
theorem lz_c3 : gs_chk (fun _ => false) lz_re 400 400 46 175 66 [(0, 2, 0, 53), (1, 0, 9, 0)] [] (lz_t (61, 121)) = true := by decide +kernel
end
