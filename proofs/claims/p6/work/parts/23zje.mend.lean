/-! mend, undo, redo: the pairs. -/
section
variable {WF : (Nat → Nat → Int) → Prop} {L : Nat} {xs : Nat → Int32} {M M' M0 M1 M2 N N' : Nat → Nat → Int} {w n v b : Int} {c m : Nat}
/-- the changes that are kept, as both sides hold them -/
def nm_K (f g0 g1 g2 g3 : Nat → Int) : Prop := ∀ q : Nat, q < 40 → f (4 * q) = g0 q ∧ f (4 * q + 1) = g1 q ∧ f (4 * q + 2) = g2 q ∧ f (4 * q + 3) = g3 q
theorem nm_K_pt {f g0 g1 g2 g3 : Nat → Int} {d : Nat} (h : nm_K f g0 g1 g2 g3) : nm_K (cx_pt f d w n b v) (dy_pt g0 d w) (dy_pt g1 d n) (dy_pt g2 d b) (dy_pt g3 d v) := by
  intro q hq
  obtain ⟨h0, h1, h2, h3⟩ := h q hq
  unfold cx_pt dy_pt
  by_cases e : q = d
  · refine ⟨?_, ?_, ?_, ?_⟩
    · rw [if_neg (by omega), if_neg (by omega), if_neg (by omega), if_pos (by omega), if_pos e]
    · rw [if_neg (by omega), if_neg (by omega), if_pos (by omega), if_pos e]
    · rw [if_neg (by omega), if_pos (by omega), if_pos e]
    · rw [if_pos (by omega), if_pos e]
  · refine ⟨?_, ?_, ?_, ?_⟩
    · rw [if_neg (by omega), if_neg (by omega), if_neg (by omega), if_neg (by omega), if_neg e]; exact h0
    · rw [if_neg (by omega), if_neg (by omega), if_neg (by omega), if_neg (by omega), if_neg e]; exact h1
    · rw [if_neg (by omega), if_neg (by omega), if_neg (by omega), if_neg (by omega), if_neg e]; exact h2
    · rw [if_neg (by omega), if_neg (by omega), if_neg (by omega), if_neg (by omega), if_neg e]; exact h3
theorem nm_K_sh {f g0 g1 g2 g3 : Nat → Int} (h : nm_K f g0 g1 g2 g3) : nm_K (cx_sh f) (dy_sh g0) (dy_sh g1) (dy_sh g2) (dy_sh g3) := by
  intro q hq
  unfold cx_sh dy_sh
  by_cases e : q < 39
  · obtain ⟨h0, h1, h2, h3⟩ := h (q + 1) (by omega)
    refine ⟨?_, ?_, ?_, ?_⟩
    · rw [if_pos (by omega), if_pos e, show 4 * q + 4 = 4 * (q + 1) by omega]; exact h0
    · rw [if_pos (by omega), if_pos e, show 4 * q + 1 + 4 = 4 * (q + 1) + 1 by omega]; exact h1
    · rw [if_pos (by omega), if_pos e, show 4 * q + 2 + 4 = 4 * (q + 1) + 2 by omega]; exact h2
    · rw [if_pos (by omega), if_pos e, show 4 * q + 3 + 4 = 4 * (q + 1) + 3 by omega]; exact h3
  · obtain ⟨h0, h1, h2, h3⟩ := h q hq
    refine ⟨?_, ?_, ?_, ?_⟩
    · rw [if_neg (by omega), if_neg e]; exact h0
    · rw [if_neg (by omega), if_neg e]; exact h1
    · rw [if_neg (by omega), if_neg e]; exact h2
    · rw [if_neg (by omega), if_neg e]; exact h3
theorem dl_rg (c : Nat) : 54 ≤ dl_cell c ∧ dl_cell c ≤ 61 := by
  unfold dl_cell
  by_cases h : c < 5
  · rw [if_pos h]
    omega
  · rw [if_neg h]
    by_cases h5 : c = 5
    · rw [if_pos h5]
      omega
    · rw [if_neg h5]
      omega
/-- what lays() does, place by place -/
theorem ly_f (h : dy_L (c : Int) (m : Int) v N N') : (∀ a j, 54 ≤ a → a ≤ 61 → N' a j = if c ≠ 7 ∧ a = dl_cell c ∧ j = m then v else N a j) ∧ N' 53 13 = (if c = 7 then v else N 53 13) ∧ (∀ i, i ≠ 13 → N' 53 i = N 53 i) ∧ ∀ a, a < 128 → ¬ (53 ≤ a ∧ a ≤ 61) → N' a = N a := by
  refine ⟨fun a j h1 h2 => ?_, ?_, fun i hi => dy_Lo53 h hi, fun a ha h1 => dy_Lo h ha h1⟩
  · rw [h.2 a (by omega)]
    by_cases e7 : c = 7
    · rw [if_pos (show (c : Int) = 7 by omega), sh_une (show a ≠ 53 by omega), if_neg (show ¬ (c ≠ 7 ∧ a = dl_cell c ∧ j = m) from fun k => k.1 e7)]
    · rw [if_neg (show ¬ (c : Int) = 7 by omega), Int.toNat_natCast, Int.toNat_natCast]
      by_cases ea : a = dl_cell c
      · rw [← ea]
        by_cases ej : j = m
        · rw [if_pos (show c ≠ 7 ∧ a = a ∧ j = m from ⟨e7, rfl, ej⟩), ej, sh_uat]
        · rw [if_neg (show ¬ (c ≠ 7 ∧ a = a ∧ j = m) from fun k => ej k.2.2), sh_unj ej]
      · rw [if_neg (show ¬ (c ≠ 7 ∧ a = dl_cell c ∧ j = m) from fun k => ea k.2.1), sh_une ea]
  · rw [h.2 53 (by decide)]
    by_cases e7 : c = 7
    · rw [if_pos (show (c : Int) = 7 by omega), if_pos e7, sh_uat]
    · have : 53 ≠ dl_cell (c : Int).toNat := by
        have := dl_rg (c : Int).toNat
        omega
      rw [if_neg (show ¬ (c : Int) = 7 by omega), if_neg e7, sh_une this]
/-- a number is laid on both sides: what is held alike stays so -/
theorem bs_lay (hz : ∀ M M' : Nat → Nat → Int, (∀ z ∈ cz_zs, M' z = M z) → WF M → WF M') (hI : la_I WF bs_cps M) (hS : bs_SS M) (hm : sx_mok cl_ly M2) (hb : (c ≤ 4 ∧ m ≤ 5) ∨ (c = 5 ∧ m ≤ 29) ∨ (c = 6 ∧ m ≤ 11) ∨ (c = 7 ∧ m = 0)) (hf : ∀ a, a < 128 → a ≠ 10 → a ≠ 32 → a ≠ 33 → ¬ (53 ≤ a ∧ a ≤ 65) → M2 a = M a) (h10 : ∀ j, M2 10 j = if j = 30 * c + m then v else M 10 j) (hl : ∀ a j, 54 ≤ a → a ≤ 61 → M2 a j = if c ≠ 7 ∧ a = dl_cell c ∧ j = m then v else M a j) (h13 : M2 53 13 = if c = 7 then v else M 53 13) (h53 : ∀ i, i ≠ 13 → i ≠ 14 → i ≠ 15 → M2 53 i = M 53 i) (h5 : M2 32 1 = M2 53 14) (hC : nm_C M2) (hX : xJ (M2 33)) : la_I WF bs_cps M2 ∧ bs_SS M2 ∧ bs_fr M M2 := by
  obtain ⟨e1, e2, -, e4, -, -, -⟩ := bs_eq hI
  have g9 : M2 9 = M 9 := hf 9 (by decide) (by decide) (by decide) (by decide) (by decide)
  refine bs_mk hz hI hS hm (fun a ha q => ?_) ?_ ?_ (fun j hj => by
    unfold bs_v at hj
    exact h53 j (by omega) (by omega) (by omega)) ?_ h5 ⟨nm_up hS.2.1 hb h10 hl (h53 8 (by decide) (by decide) (by decide)), hC⟩ hX
  · unfold bs_o at q
    exact hf a ha (by omega) (by omega) (by omega) (by omega)
  · rw [g9, h53 1 (by decide) (by decide) (by decide)]
    exact e1
  · rw [g9, h53 8 (by decide) (by decide) (by decide)]
    exact e2
  · rw [h10, h13]
    by_cases e7 : c = 7
    · rw [if_pos (show 210 = 30 * c + m by omega), if_pos e7]
    · rw [if_neg (show ¬ 210 = 30 * c + m by omega), if_neg e7]
      exact e4
theorem me_hp (hz : ∀ M M' : Nat → Nat → Int, (∀ z ∈ cz_zs, M' z = M z) → WF M → WF M') (hL : L < 2 ^ 31) (hI : la_I WF bs_cps M) (hS : bs_SS M) (hn : sx_w sx_r32 n) (hw : sx_w sx_r32 w) (hv : sx_w sx_r32 v) : bs_P WF L xs 23 163 [.ref 8, .int (Int32.ofInt n), .int (Int32.ofInt w), .int (Int32.ofInt v)] [.ref 53, .int (Int32.ofInt n), .int (Int32.ofInt w), .int (Int32.ofInt v)] (-2000000000, 143) M := by
  obtain ⟨e1, e2, -, e4, e5, -, -⟩ := bs_eq hI
  have hH := cx_fld (c := 9) (k := 4) (lo := 0) (hi := 6) hI.1 (by decide +kernel)
  have hC9 := cx_fld (c := 9) (k := 5) (lo := 0) (hi := 12) hI.1 (by decide +kernel)
  have f32 := cx_fld (c := 32) (k := 1) (lo := 0) (hi := 40) hI.1 (by decide +kernel)
  obtain ⟨F1, r1, M1, f1, m1, a3⟩ := rz_d (show 2 ≤ 99 by decide) (cx_mend (xs := xs) hL hI.1 hn hw hv)
  obtain ⟨F2, r2, M2, f2, m2, b3⟩ := rz_d (show 3 ≤ 99 by decide) (dy_mend (xs := xs) hL m1 hn hw hv)
  have fr : ∀ a, a < 128 → a ≠ 10 → a ≠ 32 → a ≠ 33 → M1 a = M a := by
    rcases a3 with ⟨-, -, h⟩ | ⟨-, -, -, ⟨-, h⟩ | ⟨-, N1, ⟨-, h, -⟩, -, h'⟩⟩
    · exact fun a ha _ _ _ => h a ha
    · exact fun a ha _ _ _ => h a ha
    · exact fun a ha p q r => by rw [h' a ha, sh_une p, h a ha q r]
  have e53 : M1 53 = M 53 := fr 53 (by decide) (by decide) (by decide) (by decide)
  rw [e53, ← e1, ← e2] at b3
  rcases a3 with ⟨x1, rfl, x3⟩ | ⟨x1, x2, rfl, x4⟩
  · rcases b3 with ⟨y1, rfl, y3⟩ | ⟨y1, y2, -⟩
    · exact bs_P0 (z := -2000000000) hz hI hS ⟨by decide, by decide⟩ (og_w32 (by decide) (by decide)) ⟨F1, f1⟩ m1 x3 ⟨F2, f2⟩ m2 y3
    · exact absurd ⟨y1, y2⟩ x1
  · rcases b3 with ⟨y1, -⟩ | ⟨-, -, -, er, y4⟩
    · exact absurd ⟨x1, x2⟩ y1
    · obtain ⟨b1, b2, b3, b4⟩ := cm_bd hI.1 x1
      obtain ⟨c, ec⟩ := Int.eq_ofNat_of_zero_le b1
      obtain ⟨m, em⟩ := Int.eq_ofNat_of_zero_le b3
      have hpl : (c ≤ 4 ∧ m ≤ 5) ∨ (c = 5 ∧ m ≤ 29) ∨ (c = 6 ∧ m ≤ 11 ∧ (m : Int) < M 53 8) ∨ (c = 7 ∧ m = 0) := by
        unfold cm_pl at x1
        omega
      have hb : (c ≤ 4 ∧ m ≤ 5) ∨ (c = 5 ∧ m ≤ 29) ∨ (c = 6 ∧ m ≤ 11) ∨ (c = 7 ∧ m = 0) := by omega
      have ep : (30 * w + n).toNat = 30 * c + m := by omega
      have at1 : dy_at w n M1 = M 10 (30 * c + m) := by
        rw [nm_at hS.2.1 e4 hpl, ← ec, ← em]
        unfold dy_at
        have hd := dl_rg w.toNat
        rw [e53, fr (dl_cell w.toNat) (by omega) (by omega) (by omega) (by omega)]
      rw [ep] at x4 f1
      rw [at1] at er y4
      have hbr := cx_m10 hI.1 (k := 30 * c + m) (by omega)
      subst er
      rcases x4 with ⟨x5, x6⟩ | ⟨x5, N1, ⟨-, n2, n3, n4, n5⟩, p1, p2⟩
      · rcases y4 with ⟨y5, y6⟩ | ⟨y5, -⟩
        · exact bs_P0 (z := M 10 (30 * c + m)) hz hI hS ⟨by show -2000000000 ≤ M 10 (30 * c + m); omega, by show M 10 (30 * c + m) ≤ 143; omega⟩ (og_w32 (by omega) (by omega)) ⟨F1, f1⟩ m1 x6 ⟨F2, f2⟩ m2 y6
        · exact absurd x5 y5
      · rcases y4 with ⟨y5, -⟩ | ⟨y5, N2, ⟨-, q2, q3, q4, q5⟩, hl⟩
        · exact absurd y5 x5
        · rw [ec, em] at hl
          obtain ⟨l1, l2, l3, l4⟩ := ly_f hl
          rw [ep] at p2
          have u1 : ∀ a, a < 128 → a ≠ 10 → M1 a = N1 a := fun a ha h => by rw [p2 a ha, sh_une h]
          have k33 : M2 33 = N1 33 := by rw [l4 33 (by decide) (by decide), q2 33 (by decide) (by decide) (by decide), u1 33 (by decide) (by decide)]
          have k32 : M2 32 = N1 32 := by rw [l4 32 (by decide) (by decide), q2 32 (by decide) (by decide) (by decide), u1 32 (by decide) (by decide)]
          have k10 : M2 10 = M1 10 := by rw [l4 10 (by decide) (by decide), q2 10 (by decide) (by decide) (by decide)]
          have kq : ∀ a, 62 ≤ a → a ≤ 65 → M2 a = N2 a := fun a h h' => l4 a (by omega) (by omega)
          have k53 : ∀ i, i ≠ 13 → M2 53 i = N2 53 i := l3
          have w53 : ∀ a, 62 ≤ a → a ≤ 65 → M1 a = M a := fun a h h' => fr a (by omega) (by omega) (by omega) (by omega)
          rw [e53, w53 62 (by decide) (by decide), w53 63 (by decide) (by decide), w53 64 (by decide) (by decide), w53 65 (by decide) (by decide), ← e5] at q5
          have hnew := cx_new hI.1 hI.2.2.2.1 x1 x2
          rw [ep] at hnew
          have hK : nm_K (M 33) (M 62) (M 63) (M 64) (M 65) := hS.2.2.1
          have j33 := (JJ_iff.mp hI.2.1).1
          have both : (M2 32 1 = M2 53 14 ∧ nm_C M2) ∧ xJ (M2 33) := by
            unfold nm_C
            rw [k33, k32, kq 62 (by decide) (by decide), kq 63 (by decide) (by decide), kq 64 (by decide) (by decide), kq 65 (by decide) (by decide), k53 14 (by decide), k53 15 (by decide), q4]
            rcases n5 with ⟨d1, d2, d3⟩ | ⟨d1, d2, d3⟩
            · rcases q5 with ⟨t1, t2, t3, t4, t5, t6⟩ | ⟨t1, -⟩
              · rw [d3, t3, t4, t5, t6]
                exact ⟨⟨by omega, nm_K_pt hK, by omega⟩, xJ_pt j33 hnew⟩
              · omega
            · rcases q5 with ⟨t1, -⟩ | ⟨t1, t2, t3, t4, t5, t6⟩
              · omega
              · rw [d3, t3, t4, t5, t6]
                exact ⟨⟨by omega, nm_K_pt (nm_K_sh hK), by omega⟩, xJ_pt (xJ_sh j33) hnew⟩
          have G := bs_lay hz hI hS m2 hb (v := v) (fun a ha g1 g2 g3 g4 => by rw [l4 a ha (by omega), q2 a ha (by omega) (by omega), fr a ha g1 g2 g3]) (fun j => by rw [k10, p2 10 (by decide), sh_up, n2 10 (by decide) (by decide) (by decide)]) (fun a j h h' => by rw [l1 a j h h', q2 a (by omega) (by omega) (by omega), fr a (by omega) (by omega) (by omega) (by omega)]) (by rw [l2, q3 13 (by decide) (by decide), e53]) (fun i h h14 h15 => by rw [l3 i h, q3 i h14 h15, e53]) both.1.1 both.1.2 both.2
          exact ⟨M 10 (30 * c + m), M1, M2, ⟨by show -2000000000 ≤ M 10 (30 * c + m); omega, by show M 10 (30 * c + m) ≤ 143; omega⟩, Or.inl ⟨rfl, og_w32 (by omega) (by omega)⟩, ⟨F1, f1⟩, m1, ⟨F2, f2⟩, m2, G.1, G.2⟩
theorem un_hp (hz : ∀ M M' : Nat → Nat → Int, (∀ z ∈ cz_zs, M' z = M z) → WF M → WF M') (hL : L < 2 ^ 31) (hI : la_I WF bs_cps M) (hS : bs_SS M) : bs_P WF L xs 121 160 [.ref 8] [.ref 53] (-5, 39) M := by
  obtain ⟨-, -, -, e4, e5, -, -⟩ := bs_eq hI
  obtain ⟨j1, j2, j3, j4⟩ := JJ_iff.mp hI.2.1
  have f32 := cx_fld (c := 32) (k := 1) (lo := 0) (hi := 40) hI.1 (by decide +kernel)
  have k32 := jr_kn hI.1
  have u15 := jr_un hI.1
  have hK : nm_K (M 33) (M 62) (M 63) (M 64) (M 65) := hS.2.2.1
  have c2 := hS.2.2.2
  obtain ⟨F1, r1, M1, f1, m1, a3⟩ := rz_d (show 3 ≤ 99 by decide) (cx_undo (xs := xs) hL hI.1 (fun q hq => j1 q hq))
  have fr : ∀ a, a < 128 → a ≠ 10 → a ≠ 32 → M1 a = M a := by
    rcases a3 with ⟨-, -, h⟩ | ⟨-, -, -, h, -⟩
    · exact fun a ha _ _ => h a ha
    · exact fun a ha p q => h a ha q p
  have e53 : M1 53 = M 53 := fr 53 (by decide) (by decide) (by decide)
  have w62 : ∀ a, 62 ≤ a → a ≤ 65 → M1 a = M a := fun a h h' => fr a (by omega) (by omega) (by omega)
  obtain ⟨F2, r2, M2, f2, m2, b3⟩ := rz_d (show 2 ≤ 99 by decide) (dy_undo (xs := xs) hL m1 (by rw [e53]; exact j4) (mJ_on j2 w62))
  rw [e53] at b3
  rcases a3 with ⟨x1, rfl, x3⟩ | ⟨x1, rfl, -, x4, x5, x6, x7⟩
  · rcases b3 with ⟨y1, rfl, y3⟩ | ⟨y1, -⟩
    · exact bs_P0 (z := -5) hz hI hS ⟨by decide, by decide⟩ (og_w32 (by decide) (by decide)) ⟨F1, f1⟩ m1 x3 ⟨F2, f2⟩ m2 y3
    · omega
  · rcases b3 with ⟨y1, -⟩ | ⟨y1, er, N2, hq⟩
    · omega
    · rw [← e5] at er hq
      subst er
      obtain ⟨⟨-, q2, q3, q4, q5⟩, hl⟩ := hq
      have hq40 : (M 32 1 - 1).toNat < 40 := by omega
      obtain ⟨g0, g1, g2, g3⟩ := hK (M 32 1 - 1).toNat hq40
      have hj := j1 (M 32 1 - 1).toNat hq40
      rw [w62 62 (by decide) (by decide), w62 63 (by decide) (by decide), w62 64 (by decide) (by decide), ← g0, ← g1, ← g2] at hl
      unfold cx_p at x7
      have b0 : 0 ≤ M 33 (4 * (M 32 1 - 1).toNat) ∧ 0 ≤ M 33 (4 * (M 32 1 - 1).toNat + 1) := by
        unfold jp at hj
        omega
      obtain ⟨c, ec⟩ := Int.eq_ofNat_of_zero_le b0.1
      obtain ⟨m, em⟩ := Int.eq_ofNat_of_zero_le b0.2
      have hb : (c ≤ 4 ∧ m ≤ 5) ∨ (c = 5 ∧ m ≤ 29) ∨ (c = 6 ∧ m ≤ 11) ∨ (c = 7 ∧ m = 0) := by
        unfold jp at hj
        omega
      rw [ec, em] at hl
      rw [ec, em, show (30 * (c : Int) + (m : Int)).toNat = 30 * c + m by omega] at x7
      obtain ⟨l1, l2, l3, l4⟩ := ly_f hl
      have k10 : M2 10 = M1 10 := by rw [l4 10 (by decide) (by decide), q2 10 (by decide) (by decide)]
      have k32 : M2 32 = M1 32 := by rw [l4 32 (by decide) (by decide), q2 32 (by decide) (by decide)]
      have k33 : M2 33 = M 33 := by rw [l4 33 (by decide) (by decide), q2 33 (by decide) (by decide), x4 33 (by decide) (by decide) (by decide)]
      have kq : ∀ a, 62 ≤ a → a ≤ 65 → M2 a = M a := fun a h h' => by rw [l4 a (by omega) (by omega), q2 a (by omega) (by omega), w62 a h h']
      have k14 : M2 53 14 = M 32 1 - 1 := by rw [l3 14 (by decide), q4]
      have k15 : M2 53 15 = M 53 15 + 1 := by rw [l3 15 (by decide), q5]
      have hx5 := x5 2 (by decide)
      have C : nm_C M2 := by
        unfold nm_C
        rw [k33, k32, kq 62 (by decide) (by decide), kq 63 (by decide) (by decide), kq 64 (by decide) (by decide), kq 65 (by decide) (by decide), k14, k15]
        exact ⟨hK, by omega⟩
      have G := bs_lay hz hI hS m2 hb (v := M 33 (4 * (M 32 1 - 1).toNat + 2)) (fun a ha g1 g2 g3 g4 => by rw [l4 a ha (by omega), q2 a ha (by omega), fr a ha g1 g2]) (fun j => by rw [k10, x7]) (fun a j h h' => by rw [l1 a j h h', q2 a (by omega) (by omega), fr a (by omega) (by omega) (by omega)]) (by rw [l2, q3 13 (by decide) (by decide), e53]) (fun i h h14 h15 => by rw [l3 i h, q3 i h14 h15, e53]) (by rw [k32, x6, k14]) C (by rw [k33]; exact j1)
      exact ⟨M 32 1 - 1, M1, M2, ⟨by show -5 ≤ M 32 1 - 1; omega, by show M 32 1 - 1 ≤ 39; omega⟩, Or.inl ⟨rfl, og_w32 (by omega) (by omega)⟩, ⟨F1, f1⟩, m1, ⟨F2, f2⟩, m2, G.1, G.2⟩
theorem re_hp (hz : ∀ M M' : Nat → Nat → Int, (∀ z ∈ cz_zs, M' z = M z) → WF M → WF M') (hL : L < 2 ^ 31) (hI : la_I WF bs_cps M) (hS : bs_SS M) : bs_P WF L xs 123 162 [.ref 8] [.ref 53] (-5, 39) M := by
  obtain ⟨-, -, -, e4, e5, -, -⟩ := bs_eq hI
  obtain ⟨j1, j2, j3, j4⟩ := JJ_iff.mp hI.2.1
  have f32 := cx_fld (c := 32) (k := 1) (lo := 0) (hi := 40) hI.1 (by decide +kernel)
  have k32 := jr_kn hI.1
  have u15 := jr_un hI.1
  have hK : nm_K (M 33) (M 62) (M 63) (M 64) (M 65) := hS.2.2.1
  have c2 := hS.2.2.2
  obtain ⟨F1, r1, M1, f1, m1, a3⟩ := rz_d (show 3 ≤ 99 by decide) (cx_redo (xs := xs) hL hI.1 j3 (fun q hq => j1 q hq))
  have fr : ∀ a, a < 128 → a ≠ 10 → a ≠ 32 → M1 a = M a := by
    rcases a3 with ⟨-, -, h⟩ | ⟨-, -, -, h, -⟩
    · exact fun a ha _ _ => h a ha
    · exact fun a ha p q => h a ha q p
  have e53 : M1 53 = M 53 := fr 53 (by decide) (by decide) (by decide)
  have w62 : ∀ a, 62 ≤ a → a ≤ 65 → M1 a = M a := fun a h h' => fr a (by omega) (by omega) (by omega)
  obtain ⟨F2, r2, M2, f2, m2, b3⟩ := rz_d (show 2 ≤ 99 by decide) (dy_redo (xs := xs) hL m1 (by rw [e53]; exact j4) (mJ_on j2 w62))
  rw [e53] at b3
  rcases a3 with ⟨x1, rfl, x3⟩ | ⟨x1, rfl, -, x4, x5, x6, x7⟩
  · rcases b3 with ⟨y1, rfl, y3⟩ | ⟨y1, -⟩
    · exact bs_P0 (z := -5) hz hI hS ⟨by decide, by decide⟩ (og_w32 (by decide) (by decide)) ⟨F1, f1⟩ m1 x3 ⟨F2, f2⟩ m2 y3
    · omega
  · rcases b3 with ⟨y1, -⟩ | ⟨y1, er, N2, hq⟩
    · omega
    · rw [← e5] at hq
      rw [show M 53 15 - 1 = M 32 2 - M 32 1 - 1 by omega] at er
      subst er
      obtain ⟨hl, ⟨-, q2, q3, q4, q5⟩⟩ := hq
      have hq40 : (M 32 1).toNat < 40 := by omega
      obtain ⟨g0, g1, g2, g3⟩ := hK (M 32 1).toNat hq40
      have hj := j1 (M 32 1).toNat hq40
      rw [w62 62 (by decide) (by decide), w62 63 (by decide) (by decide), w62 65 (by decide) (by decide), ← g0, ← g1, ← g3] at hl
      unfold cx_p at x7
      have b0 : 0 ≤ M 33 (4 * (M 32 1).toNat) ∧ 0 ≤ M 33 (4 * (M 32 1).toNat + 1) := by
        unfold jp at hj
        omega
      obtain ⟨c, ec⟩ := Int.eq_ofNat_of_zero_le b0.1
      obtain ⟨m, em⟩ := Int.eq_ofNat_of_zero_le b0.2
      have hb : (c ≤ 4 ∧ m ≤ 5) ∨ (c = 5 ∧ m ≤ 29) ∨ (c = 6 ∧ m ≤ 11) ∨ (c = 7 ∧ m = 0) := by
        unfold jp at hj
        omega
      rw [ec, em] at hl
      rw [ec, em, show (30 * (c : Int) + (m : Int)).toNat = 30 * c + m by omega] at x7
      obtain ⟨l1, l2, l3, l4⟩ := ly_f hl
      have k10 : M2 10 = M1 10 := by rw [q2 10 (by decide) (by decide), l4 10 (by decide) (by decide)]
      have k32 : M2 32 = M1 32 := by rw [q2 32 (by decide) (by decide), l4 32 (by decide) (by decide)]
      have k33 : M2 33 = M 33 := by rw [q2 33 (by decide) (by decide), l4 33 (by decide) (by decide), x4 33 (by decide) (by decide) (by decide)]
      have kq : ∀ a, 62 ≤ a → a ≤ 65 → M2 a = M a := fun a h h' => by rw [q2 a (by omega) (by omega), l4 a (by omega) (by omega), w62 a h h']
      have hx5 := x5 2 (by decide)
      have C : nm_C M2 := by
        unfold nm_C
        rw [k33, k32, kq 62 (by decide) (by decide), kq 63 (by decide) (by decide), kq 64 (by decide) (by decide), kq 65 (by decide) (by decide), q4, q5]
        exact ⟨hK, by omega⟩
      have G := bs_lay hz hI hS m2 hb (v := M 33 (4 * (M 32 1).toNat + 3)) (fun a ha g1 g2 g3 g4 => by rw [q2 a ha (by omega), l4 a ha (by omega), fr a ha g1 g2]) (fun j => by rw [k10, x7]) (fun a j h h' => by rw [q2 a (by omega) (by omega), l1 a j h h', fr a (by omega) (by omega) (by omega)]) (by rw [q3 13 (by decide) (by decide), l2, e53]) (fun i h h14 h15 => by rw [q3 i h14 h15, l3 i h, e53]) (by rw [k32, x6, q4]) C (by rw [k33]; exact j1)
      exact ⟨M 32 2 - M 32 1 - 1, M1, M2, ⟨by show -5 ≤ M 32 2 - M 32 1 - 1; omega, by show M 32 2 - M 32 1 - 1 ≤ 39; omega⟩, Or.inl ⟨rfl, og_w32 (by omega) (by omega)⟩, ⟨F1, f1⟩, m1, ⟨F2, f2⟩, m2, G.1, G.2⟩
end
