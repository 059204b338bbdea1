/-! The reference's parser: operand. -/
section
variable {L : Nat} {xs : Nat → Int32} {M MM M0 M1 : Nat → Nat → Int} {ρ : Nat → Int}
/-- fields of the parser with what they become; whether steps are laid -/
def pw_c (md : Bool) (ps : List (Nat × sx_A)) : ct_C := ([(2, 53, 53)], [], ps.map fun q => (53, q.1, sx_r32), bif md then [67, 68] else [], none, 60, false)
noncomputable def pw (md : Bool) (ps : List (Nat × sx_A)) (t0 t : sx_S) : Bool := sx_an (sx_an (mt_cells (pw_c md ps) t0 t) (ps.all fun q => sx_an (Nat.ble 22 q.1) (Nat.ble q.1 25))) (ps.all fun q => match jv t (53, q.1) with
  | some v => sx_ae v q.2
  | none => false)
theorem pw_ok {md : Bool} {ps : List (Nat × sx_A)} {t0 t : sx_S} {ρ0 : Nat → Int} {M' : Nat → Nat → Int} (hs0 : sx_sat cl_ly (0, -100) xs L M ρ0 M t0) (hx : sx_ext t0.1 ρ0 ρ) (hs : sx_sat cl_ly (0, -100) xs L M ρ M' t) (h : pw md ps t0 t = true) : ct_fr ps_c M M' ∧ (∀ q ∈ ps, M' 53 q.1 = sx_val ρ q.2) ∧ (∀ i, (∀ q ∈ ps, q.1 ≠ i) → M' 53 i = M 53 i) ∧ (md = false → M' 67 = M 67 ∧ M' 68 = M 68) := by
  obtain ⟨h1, h2⟩ := sx_an_iff.mp h
  obtain ⟨h1, h3⟩ := sx_an_iff.mp h1
  have fr := mt_cells_ok hs0 hx (fun _ _ _ _ _ => rfl) hs h1
  have hin : ∀ q ∈ ps, 22 ≤ q.1 ∧ q.1 ≤ 25 := fun q hq => by
    obtain ⟨a, b⟩ := sx_an_iff.mp (List.all_eq_true.mp h3 q hq)
    exact ⟨Nat.le_of_ble_eq_true a, Nat.le_of_ble_eq_true b⟩
  have nm : ∀ {a : Nat}, a ∈ (pw_c md ps).2.2.2.1 → a = 67 ∨ a = 68 := by
    intro a ha
    cases md
    · cases ha
    · have ha : a ∈ ([67, 68] : List Nat) := ha
      simpa using ha
  refine ⟨fun a i ha hm hp => fr a i ha (fun h9 => hm ?_) (fun g hg e1 e2 => ?_), fun q hq => ?_, fun i hi => fr 53 i (by decide) (fun h9 => ?_) (fun g hg e1 e2 => ?_), fun hmd => ?_⟩
  · rcases nm h9 with rfl | rfl <;> simp [ps_c]
  · obtain ⟨q, hq, rfl⟩ := List.mem_map.mp (show g ∈ ps.map fun q => (53, q.1, sx_r32) from hg)
    have hb := hin q hq
    have hb : q.1 = 22 ∨ q.1 = 23 ∨ q.1 = 24 ∨ q.1 = 25 := by omega
    exact hp (53, q.1, sx_r32) (by rcases hb with e | e | e | e <;> rw [e] <;> simp [ps_c]) e1 e2
  · have h4 := List.all_eq_true.mp h2 q hq
    cases e : jv t (53, q.1) with
    | none => rw [e] at h4; cases h4
    | some v =>
      rw [e] at h4
      rw [← sx_ae_iff.mp h4]
      exact (jv_ok hs (p := (53, q.1)) (show 53 < 128 by decide) e).1
  · rcases nm h9 with h9 | h9 <;> exact absurd h9 (by decide)
  · obtain ⟨q, hq, rfl⟩ := List.mem_map.mp (show g ∈ ps.map fun q => (53, q.1, sx_r32) from hg)
    exact hi q hq e2
  · subst hmd
    have f : ∀ a, a < 128 → a ≠ 53 → M' a = M a := fun a ha hne => by
      funext i
      refine fr a i ha (fun h9 => by cases h9) (fun g hg e1 _ => ?_)
      obtain ⟨q, hq, rfl⟩ := List.mem_map.mp (show g ∈ ps.map fun q => (53, q.1, sx_r32) from hg)
      exact hne e1.symm
    exact ⟨f 67 (by decide) (by decide), f 68 (by decide) (by decide)⟩
def pq_g : List ct_G := [(53, 21, 0, 120), (53, 22, 0, 120), (53, 23, -1, -1), (53, 24, 0, 6), (53, 25, 0, 121)]
noncomputable def pq_t : sx_S := ct_get pq_g (mt_as [(0, 0, 0)] (mt_tr [])).2
theorem pq_sat (hL : L < 2 ^ 31) (hp : ps_P M) : ∃ ρ : Nat → Int, sx_sat cl_ly (0, -100) xs L M ρ M pq_t ∧ ρ 9 = 0 ∧ ρ 10 = M 53 21 ∧ ρ 11 = M 53 22 ∧ ρ 12 = M 53 23 ∧ ρ 13 = M 53 24 ∧ ρ 14 = M 53 25 := by
  obtain ⟨p1, p2, p3, p4, p5, p6, p7, p8⟩ := hp
  have hT := pz_T p1
  have hvs : ct_vs [(0, 0, 0)] [.int (Int32.ofInt 0)] := ⟨Or.inl ⟨rfl, 0, rfl, ⟨Int.le_refl _, Int.le_refl _⟩, sx_w0⟩, trivial⟩
  obtain ⟨ρ1, a1, a2, a3, a4, a5⟩ := mt_as_ok hvs (mt_tr_sat (MM := M) (M := M) (mod := []) (xs := xs) hL (fun a ha => by cases ha) p1 (fun a _ _ => rfl))
  have e1 : (mt_as [(0, 0, 0)] (mt_tr [])).1 = [(0, 9, 0)] := rfl
  rw [e1] at a4 a5
  have w9 : sx_w sx_r32 (ρ1 9) := by
    have := (a5 (0, 9, 0) List.mem_cons_self).2.1 rfl
    unfold sx_val at this
    rw [Int.add_zero] at this
    exact this
  have v4 : [sx_cv1 ρ1 (0, 9, 0)] = [Value.int (Int32.ofInt 0)] := a4
  simp only [gv_cv, List.cons.injEq, and_true] at v4
  have q9 := gv_inj w9 sx_w0 v4
  have w64 : ∀ {x : Int}, -1 ≤ x → x ≤ 121 → sx_w sx_r64 x := fun h1 h2 => by rw [sx_r64_iff]; omega
  obtain ⟨ρ2, b1, b2, b3, b4⟩ := pz_fld (l := pq_g) a3 (fun g hg => by
    simp only [pq_g, List.mem_cons, List.not_mem_nil, or_false] at hg
    rcases hg with rfl | rfl | rfl | rfl | rfl
    · exact ⟨Nat.le_of_ble_eq_true rfl, hT, w64 (x := M 53 21) (by omega) (by omega)⟩
    · exact ⟨Nat.le_of_ble_eq_true rfl, ⟨p3, by show M 53 22 ≤ (120 : Int); omega⟩, w64 (x := M 53 22) (by omega) (by omega)⟩
    · exact ⟨Nat.le_of_ble_eq_true rfl, ⟨by show (-1 : Int) ≤ M 53 23; omega, by show M 53 23 ≤ (-1 : Int); omega⟩, w64 (x := M 53 23) (by omega) (by omega)⟩
    · exact ⟨Nat.le_of_ble_eq_true rfl, ⟨p7, p8⟩, w64 (x := M 53 24) (by omega) (by omega)⟩
    · exact ⟨Nat.le_of_ble_eq_true rfl, ⟨p5, by show M 53 25 ≤ (121 : Int); omega⟩, w64 (x := M 53 25) (by omega) (by omega)⟩)
  exact ⟨ρ2, b3, by rw [b1 9 (show 9 < 10 by decide)]; exact q9, b4 0 _ rfl, b4 1 _ rfl, b4 2 _ rfl, b4 3 _ rfl, b4 4 _ rfl⟩
noncomputable def po_lt (t : sx_S) (c : Int) : Bool := match sx_kl t.2.2.1.2 11 10 c with
  | some b => b
  | none => false
theorem po_lt_ok {t : sx_S} {c : Int} (hs : sx_sat cl_ly (0, -100) xs L MM ρ M t) (h : po_lt t c = true) : ρ 11 < ρ 10 + c := by
  unfold po_lt at h
  cases e : sx_kl t.2.2.1.2 11 10 c with
  | none => rw [e] at h; cases h
  | some b =>
    rw [e] at h
    have h : b = true := h
    have k := sx_kl_ok hs.2.1 hs.2.2.2.2.1.2 e
    rw [h] at k
    exact of_decide_eq_true k.symm
/-- the step that was laid: kind z, with w from, to -/
noncomputable def po_one (z : Int) (w : Int × Int) (t : sx_S) : Bool := match pz_one t 67, pz_one t 68 with
  | some a, some b => sx_an (sx_ae a (0, z)) (jin t b w.1 w.2)
  | _, _ => false
theorem po_one_ok {z : Int} {w : Int × Int} {t : sx_S} (hs : sx_sat cl_ly (0, -100) xs L MM ρ M t) (h0 : 0 ≤ ρ 14) (h : po_one z w t = true) : M 67 (130 + ρ 14).toNat = z ∧ w.1 ≤ M 68 (130 + ρ 14).toNat ∧ M 68 (130 + ρ 14).toNat ≤ w.2 ∧ ∀ i : Nat, (i : Int) ≠ 130 + ρ 14 → M 67 i = MM 67 i ∧ M 68 i = MM 68 i := by
  unfold po_one at h
  cases e7 : pz_one t 67 with
  | none => rw [e7] at h; cases h
  | some a =>
    cases e8 : pz_one t 68 with
    | none => rw [e7, e8] at h; cases h
    | some b =>
      rw [e7, e8] at h
      obtain ⟨h1, h2⟩ := sx_an_iff.mp h
      have h2 := jin_ok hs h2
      obtain ⟨u1, u2⟩ := pz_one_ok (by decide) hs e7 h0
      obtain ⟨u3, u4⟩ := pz_one_ok (by decide) hs e8 h0
      rw [sx_ae_iff.mp h1, sx_v0 hs] at u1
      exact ⟨u1, by omega, by omega, fun i hi => ⟨u2 i hi, u4 i hi⟩⟩
-- the ways from operand's first place
noncomputable def po_a (t : sx_S) : Bool := sx_an (sx_an (pw true [(22, (11, 1)), (25, (14, 1))] pq_t t) (po_lt t 0)) (po_one 2 (0, 5) t)
noncomputable def po_b (t : sx_S) : Bool := pw false [(23, (11, 0))] pq_t t
noncomputable def po_n (n : Nat) (t : sx_S) : Bool := sx_an (po_one 1 sx_r32 t) (bif Nat.beq n 0 then pw true [(23, (11, 0)), (25, (14, 1))] pq_t t else sx_an (po_lt t (1 - Int.ofNat n)) (bif pw true [(22, (11, Int.ofNat n)), (25, (14, 1))] pq_t t then true else pw true [(22, (11, Int.ofNat n)), (23, (11, Int.ofNat n)), (25, (14, 1))] pq_t t))
noncomputable def po_d (t : sx_S) : Bool := sx_an (sx_an (pw false [(22, (11, 1)), (24, (13, 1))] pq_t t) (po_lt t 0)) (jin t (13, 0) 0 5)
noncomputable def po_r (o : sx_P) : Bool := match o.1 with
  | some none => bif po_a o.2.2.2.2 then true else bif po_b o.2.2.2.2 then true else (List.range 5).any fun n => po_n n o.2.2.2.2
  | some (some _) => false
  | none => sx_an (sx_an (po_d o.2.2.2.2) (pc_sk o.2.2.2.1)) (bif Nat.beq o.2.1 55 then pc_lk1 [33, 45] o.2.2.2.2 o.2.2.1 else sx_an (Nat.beq o.2.1 102) (pc_lk o.2.2.1))
def po_st (pc : Nat) : Bool := bif Nat.beq pc 55 then true else Nat.beq pc 102
theorem po_c0 : ((List.range 7).all fun e => gs_chk po_st po_r 400 400 (6 * e + 4) 181 0 [(0, 2, 0, 53)] [] pq_t) = true := by decide +kernel
-- behind the operand of ! or -
noncomputable def po_u (z : Int) (r : Int × Int) (o : sx_P) : Bool := match o.1 with
  | some none => sx_an (pw true [(24, (13, -1)), (25, (14, 1))] (pz_t r) o.2.2.2.2) (po_one z (0, 0) o.2.2.2.2)
  | _ => false
theorem po_c1 : ((List.range 7).all fun e => gs_chk (fun _ => false) (po_u 3 (33, 33)) 400 400 (6 * e + 4) 181 58 [(0, 2, 0, 53), (1, 0, 9, 0)] [] (pz_t (33, 33))) = true := by decide +kernel
theorem po_c2 : ((List.range 7).all fun e => gs_chk (fun _ => false) (po_u 4 (45, 45)) 400 400 (6 * e + 4) 181 58 [(0, 2, 0, 53), (1, 0, 9, 0)] [] (pz_t (45, 45))) = true := by decide +kernel
-- behind what stands in brackets
noncomputable def po_k (o : sx_P) : Bool := match o.1 with
  | some none => bif sx_an (pz_same o.2.2.2.2) (jin o.2.2.2.2 (12, 0) 0 120) then true else sx_an (jin o.2.2.2.2 (12, 0) (-1) (-1)) (bif pw false [(23, (11, 0))] (pz_t (0, 0)) o.2.2.2.2 then true else sx_an (pw false [(22, (11, 1)), (24, (13, -1))] (pz_t (0, 0)) o.2.2.2.2) (po_lt o.2.2.2.2 0))
  | _ => false
theorem po_c3 : ((List.range 7).all fun e => gs_chk (fun _ => false) po_k 400 400 (6 * e + 4) 181 105 [(0, 2, 0, 53)] [] (pz_t (0, 0))) = true := by decide +kernel
end
