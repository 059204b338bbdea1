/-! Sets as numbers; pass as a pair. -/
section
variable {L : Nat} {xs : Nat → Int32} {M M' N N' M0 M1 M2 X Y : Nat → Nat → Int} {b s : Int} {nc H : Nat}
theorem fd_bv {a : Nat} (ha : a < 2 ^ 31) : (BitVec.ofInt 32 (a : Int)).toNat = a := by
  rw [BitVec.ofInt_natCast, BitVec.toNat_ofNat]
  exact Nat.mod_eq_of_lt (by omega)
theorem fd_ti {z : BitVec 32} {k : Nat} (h : z.toNat = k) (hk : k < 2 ^ 31) : z.toInt = (k : Int) := by
  rw [BitVec.toInt_eq_toNat_of_lt (by rw [h]; omega), h]
theorem fd_or {a b : Nat} (ha : a < 2 ^ 31) (hb : b < 2 ^ 31) : sx_mf 4 (a : Int) (b : Int) = ((a ||| b : Nat) : Int) := by
  have e : sx_mf 4 (a : Int) (b : Int) = (Int32.ofInt (a : Int) ||| Int32.ofInt (b : Int)).toInt := rfl
  have h : a ||| b < 2 ^ 31 := Nat.or_lt_two_pow ha hb
  rw [e]
  show ((Int32.ofInt (a : Int) ||| Int32.ofInt (b : Int)).toBitVec).toInt = _
  rw [Int32.toBitVec_or]
  show (BitVec.ofInt 32 (a : Int) ||| BitVec.ofInt 32 (b : Int)).toInt = _
  exact fd_ti (by rw [BitVec.toNat_or, fd_bv ha, fd_bv hb]) h
/-- of a set, whatever else: no more than the set -/
theorem fd_and {a : Nat} {y : Int} (ha : a < 2 ^ 31) : ∃ k : Nat, sx_mf 3 (a : Int) y = (k : Int) ∧ k ≤ a := by
  have e : sx_mf 3 (a : Int) y = (Int32.ofInt (a : Int) &&& Int32.ofInt y).toInt := rfl
  refine ⟨a &&& (BitVec.ofInt 32 y).toNat, ?_, Nat.and_le_left⟩
  have h : a &&& (BitVec.ofInt 32 y).toNat < 2 ^ 31 := Nat.lt_of_le_of_lt Nat.and_le_left ha
  rw [e]
  show ((Int32.ofInt (a : Int) &&& Int32.ofInt y).toBitVec).toInt = _
  rw [Int32.toBitVec_and]
  show (BitVec.ofInt 32 (a : Int) &&& BitVec.ofInt 32 y).toInt = _
  exact fd_ti (by rw [BitVec.toNat_and, fd_bv ha]) h
theorem fd_mod {a n : Nat} (ha : a < 2 ^ 31) (hn : n ≤ 31) : sx_mf 3 (a : Int) (((2 ^ n : Nat) : Int) - 1) = ((a % 2 ^ n : Nat) : Int) := by
  have p : 0 < 2 ^ n := Nat.two_pow_pos n
  have q : 2 ^ n ≤ 2 ^ 31 := Nat.pow_le_pow_right (by decide) hn
  have e0 : ((2 ^ n : Nat) : Int) - 1 = ((2 ^ n - 1 : Nat) : Int) := by omega
  have e : sx_mf 3 (a : Int) ((2 ^ n - 1 : Nat) : Int) = (Int32.ofInt (a : Int) &&& Int32.ofInt ((2 ^ n - 1 : Nat) : Int)).toInt := rfl
  have h : a % 2 ^ n < 2 ^ 31 := Nat.lt_of_lt_of_le (Nat.mod_lt _ p) q
  rw [e0, e]
  show ((Int32.ofInt (a : Int) &&& Int32.ofInt ((2 ^ n - 1 : Nat) : Int)).toBitVec).toInt = _
  rw [Int32.toBitVec_and]
  show (BitVec.ofInt 32 (a : Int) &&& BitVec.ofInt 32 ((2 ^ n - 1 : Nat) : Int)).toInt = _
  exact fd_ti (by rw [BitVec.toNat_and, fd_bv ha, fd_bv (by omega), Nat.and_two_pow_sub_one_eq_mod]) h
theorem fd_comm (x y : Int) : sx_mf 4 x y = sx_mf 4 y x := by
  show (Int32.ofInt x ||| Int32.ofInt y).toInt = (Int32.ofInt y ||| Int32.ofInt x).toInt
  rw [Int32.or_comm]
/-- sets of n: their union -/
theorem fs_un2 {x y n : Int} (hn : n ≤ 31) (hx : fs_b x n) (hy : fs_b y n) : fs_b (sx_mf 4 x y) n := by
  obtain ⟨x0, x1⟩ := hx
  obtain ⟨y0, y1⟩ := hy
  obtain ⟨a, rfl⟩ := Int.eq_ofNat_of_zero_le x0
  obtain ⟨b, rfl⟩ := Int.eq_ofNat_of_zero_le y0
  have q : 2 ^ n.toNat ≤ 2 ^ 31 := Nat.pow_le_pow_right (by decide) (by omega)
  have x1 : a < 2 ^ n.toNat := by omega
  have y1 : b < 2 ^ n.toNat := by omega
  rw [fd_or (by omega) (by omega)]
  have := Nat.or_lt_two_pow x1 y1
  exact ⟨by omega, by omega⟩
theorem fs_an2 {x y n : Int} (hn : n ≤ 31) (hx : fs_b x n) : fs_b (sx_mf 3 x y) n := by
  obtain ⟨x0, x1⟩ := hx
  obtain ⟨a, rfl⟩ := Int.eq_ofNat_of_zero_le x0
  have q : 2 ^ n.toNat ≤ 2 ^ 31 := Nat.pow_le_pow_right (by decide) (by omega)
  have x1 : a < 2 ^ n.toNat := by omega
  obtain ⟨k, e, h⟩ := fd_and (a := a) (y := y) (by omega)
  rw [e]
  exact ⟨by omega, by omega⟩
theorem fs_b1c : ((List.range 13).all fun n => (List.range n).all fun h => sx_an (sx_le 0 (sx_mf 8 1 (h : Int))) (sx_lt (sx_mf 8 1 (h : Int)) ((2 ^ n : Nat) : Int))) = true := by decide +kernel
theorem fs_b1 {c n : Int} (h0 : 0 ≤ c) (h1 : c < n) (hn : n ≤ 12) : fs_b (sx_mf 8 1 c) n := by
  obtain ⟨m, rfl⟩ := Int.eq_ofNat_of_zero_le (show 0 ≤ n by omega)
  obtain ⟨h, rfl⟩ := Int.eq_ofNat_of_zero_le h0
  obtain ⟨a, b⟩ := sx_an_iff.mp (List.all_eq_true.mp (List.all_eq_true.mp fs_b1c m (List.mem_range.mpr (by omega))) h (List.mem_range.mpr (by omega)))
  refine ⟨sx_le_iff.mp a, ?_⟩
  rw [Int.toNat_natCast]
  exact sx_lt_iff.mp b
/-- pass of both sides -/
theorem fs_pa (hL : L < 2 ^ 31) (hI : la_I WF bs_cps M) (hS : fs_SS M) (hb : sx_w sx_r32 b) : fs_P WF L xs 0 113 240 [.ref 8, .int (Int32.ofInt b)] [.ref 53, .int (Int32.ofInt b)] (-5, 5) M := by
  obtain ⟨nc, H, hA⟩ := fs_toA hI hS
  obtain ⟨e1, e2, -, e4, -, -, -⟩ := bs_eq hI
  have h29 : 0 ≤ M 10 210 ∧ M 10 210 ≤ 29 := hI.2.2.2.1
  have h4 := cx_fld (c := 9) (k := 4) (lo := 0) (hi := 6) hI.1 (by decide +kernel)
  obtain ⟨⟨s1, s2, s3, s4⟩, o, b1, b2, i, l⟩ := id hS.2
  obtain ⟨⟨a1, a2, a3, a4, a5⟩, q1, -⟩ := id hA
  have hO : ∀ c : Nat, c < nc → 0 ≤ M 11 c ∧ M 11 c < 6 := fun c hc => by
    obtain ⟨-, -, u1, u2⟩ := q1 c hc
    exact ⟨u1, by omega⟩
  obtain ⟨z, M1, A1, A2, A3⟩ := lb_of (k := 113) (vs := [.ref 8, .int (Int32.ofInt b)]) (show 20 ≤ 99 by decide) (pa_cl (xs := xs) (nc := nc) hL hI.1 hI.2.2.1 l.2.2 a1 h29 hb b1 hO)
  unfold pa_P at A3
  have f1 : ∀ a, a < 128 → a ≠ 9 → a ≠ 10 → a ≠ 12 → a ≠ 13 → ¬ (19 ≤ a ∧ a ≤ 23) → M1 a = M a := by
    rcases A3 with ⟨-, -, c⟩ | ⟨-, -, -, c⟩ | ⟨-, -, X, c, -, -, -, c1, -⟩
    · exact fun a ha _ _ _ _ _ => c a ha
    · exact fun a ha _ _ _ _ _ => c a ha
    · exact c1
  have g1 : ∀ a, a < 128 → 53 ≤ a → M1 a = M a := fun a ha h => f1 a ha (by omega) (by omega) (by omega) (by omega) (by omega)
  have e53 : M1 53 = M 53 := g1 53 (by decide) (by decide)
  have w1 : WF M1 ∧ vu_R M1 := by
    refine ⟨WF_zs M M1 (fun k hk => ?_) hI.2.2.1, vu_M (f1 16 (by decide) (by decide) (by decide) (by decide) (by decide) (by decide)) (by rw [f1 14 (by decide) (by decide) (by decide) (by decide) (by decide) (by decide)]) (by rw [e53]) (g1 67 (by decide) (by decide)) (g1 68 (by decide) (by decide)) (g1 69 (by decide) (by decide)) (g1 70 (by decide) (by decide)) (g1 71 (by decide) (by decide)) l.2.2⟩
    simp only [cz_zs, List.mem_cons, List.not_mem_nil, or_false] at hk
    exact g1 k (by omega) (by omega)
  obtain ⟨y, M2, B1, B2, B3⟩ := lb_of (k := 240) (vs := [.ref 53, .int (Int32.ofInt b)]) (show 20 ≤ 99 by decide) (pa_re (xs := xs) (nc := nc) (H := H) hL A2 w1.1 w1.2 (by rw [e53]; exact a4) (by rw [e53]; exact a2) hb (by rw [e53, ← s1, ← e1]; exact b1) (fun c hc => by
    rw [g1 59 (by decide) (by decide), (q1 c hc).2.1]
    exact hO c hc))
  unfold pa_O at B3
  rw [e53, ← e1, ← e4] at B3
  have w : ∀ k : Int, -5 ≤ k → k ≤ 5 → sx_w (-5, 5) k ∧ ((0 = 0 ∧ sx_w sx_r32 k) ∨ (0 = 1 ∧ sx_w sx_r64 k)) := fun k h1 h2 => ⟨⟨h1, h2⟩, Or.inl ⟨rfl, og_w32 (by omega) (by omega)⟩⟩
  have same : (∀ c, c < 128 → M2 c = M c) → la_I WF bs_cps M2 ∧ fs_SS M2 := fun e => fs_q WF_zs hI hS B2 ⟨fun a ha _ => e a ha, fun j _ => by rw [e 53 (by decide)]⟩
  rcases A3 with ⟨rfl, x1, x2⟩ | ⟨rfl, x1, x2, x3⟩ | ⟨x1, x2, X, c, hX, ec, rfl, xF⟩
  · rcases B3 with ⟨rfl, y1, y2⟩ | ⟨-, y1, -⟩ | ⟨y1, -⟩
    · exact ⟨-1, M1, M2, (w _ (by decide) (by decide)).1, (w _ (by decide) (by decide)).2, A1, A2, B1, B2, same fun a ha => (y2 a ha).trans (x2 a ha)⟩
    · exact absurd y1 x1
    · exact absurd y1 x1
  · rcases B3 with ⟨-, y1, -⟩ | ⟨rfl, y1, y2, y3⟩ | ⟨y1, y2, -⟩
    · exact absurd x1 y1
    · exact ⟨-5, M1, M2, (w _ (by decide) (by decide)).1, (w _ (by decide) (by decide)).2, A1, A2, B1, B2, same fun a ha => (y3 a ha).trans (x3 a ha)⟩
    · omega
  · rcases B3 with ⟨-, y1, -⟩ | ⟨-, y1, y2, -⟩ | ⟨y1, y2, Y, c', hY, ec', rfl, yF⟩
    · exact absurd x1 y1
    · omega
    · obtain ⟨t, et⟩ := Int.eq_ofNat_of_zero_le h29.1
      rw [et, Int.toNat_natCast] at ec ec'
      have E0 := (fs_T hA hX g1 hY 0 t (by omega)).2 (by omega)
      have E1 := (fs_T hA hX g1 hY 1 t (by omega)).1
      have ecc : c' = c := by
        rw [ec', ec]
        exact E0.1
      have hr : vq_hs (M1 59) c' = vq_hs (M 11) c := by
        have q : vq_hs (Y 59) (vs_cd X nc t (X 21 6, X 23)) = vq_hs (X 11) (vs_cd X nc t (X 21 6, X 23)) := E0.2
        rw [← ec, hY.2.2.1 59 (by decide) (by decide) (by decide), hX.2.2.1 11 (by decide) (by decide) (by decide)] at q
        rw [ecc]
        exact q
      have hU : (vq_nx (Y 60) (Y 59) (Y 53 36, Y 75) c').1 = (vq_nx (vs_D X) (X 11) (X 21 6, X 23) c).1 := by
        rw [ec', ec]
        exact E1.1.symm
      rw [hU, hr] at yF
      rw [hr] at B1
      have hcr : c < (nc : Int) := by
        rw [ec]
        exact (vq_cd_r (fun d h b => (vq_held_r _).2)).2
      have r6 : -1 ≤ vq_hs (M 11) c ∧ vq_hs (M 11) c < 6 := by
        unfold vq_hs
        by_cases c0 : c < 0
        · rw [if_pos c0]
          exact ⟨by decide, by decide⟩
        · rw [if_neg c0]
          have := hO c.toNat (by omega)
          exact ⟨by omega, this.2⟩
      have vr : -5 ≤ vq_or (vq_hs (M 11) c) ∧ vq_or (vq_hs (M 11) c) ≤ 5 := by
        unfold vq_or
        split
        · exact ⟨by decide, by decide⟩
        · exact ⟨by omega, by omega⟩
      have bU : fs_b (vq_nx (vs_D X) (X 11) (X 21 6, X 23) c).1 (M 9 5) := by
        have bG : fs_b (X 21 6) (M 9 5) := by
          rw [hX.2.2.2.2.1]
          exact b2
        show fs_b (vq_us (vs_D X) (X 21 6) c) (M 9 5)
        unfold vq_us
        by_cases c0 : c < 0
        · rw [if_pos c0]
          exact bG
        · rw [if_neg c0]
          split
          · exact fs_un2 (by omega) bG (fs_b1 (by omega) (by omega) (by omega))
          · exact bG
      obtain ⟨x3, ⟨x4, x5, x6⟩, ⟨x7, x8⟩, x9, x10⟩ := xF
      obtain ⟨y3, ⟨y4, y5, y6, y7⟩, y8, y9⟩ := yF
      rw [e53, ← s1] at y5
      have m1 : ∀ a, a < 128 → a ≠ 53 → ¬ (72 ≤ a ∧ a ≤ 84) → M2 a = M1 a := fun a ha p1 p2 => y3 a ha p1 (by omega) (by omega) (by omega) (by omega) (by omega)
      have m9 : M2 9 = M1 9 := m1 9 (by decide) (by decide) (by decide)
      have m10 : M2 10 = M1 10 := m1 10 (by decide) (by decide) (by decide)
      have mm : ∀ a, a < 128 → a ≠ 9 → a ≠ 10 → a ≠ 12 → a ≠ 13 → ¬ (19 ≤ a ∧ a ≤ 23) → a ≠ 53 → ¬ (72 ≤ a ∧ a ≤ 77) → a ≠ 82 → M2 a = M a := fun a ha p1 p2 p3 p4 p5 p6 p7 p8 => (y3 a ha p6 (by omega) (by omega) (by omega) (by omega) p8).trans (x3 a ha p1 p2 p3 p4 p5)
      have z : ∀ a ∈ [34, 35, 36, 83, 84], M2 a = M a := fun a ha => by
        simp only [List.mem_cons, List.not_mem_nil, or_false] at ha
        exact mm a (by omega) (by omega) (by omega) (by omega) (by omega) (by omega) (by omega) (by omega) (by omega)
      have z53 : ∀ j, j ≠ 7 → j ≠ 11 → j ≠ 13 → j ≠ 35 → j ≠ 36 → M2 53 j = M 53 j := fun j p1 p2 p3 p4 p5 => by rw [y7 j p1 p2 p3 p4 p5, e53]
      have z9 : ∀ j, j ≠ 6 → j ≠ 7 → M2 9 j = M 9 j := fun j p1 p2 => by rw [m9, x6 j p1 p2]
      obtain ⟨k2, k3, k4⟩ := gp_I (M2 := M2) hI i (z 34 (by decide)) (z 35 (by decide)) (z 36 (by decide)) (z 83 (by decide)) (z 84 (by decide)) (fun j h1 h2 => z53 j (by omega) (by omega) (by omega) (by omega) (by omega)) (z9 4 (by decide) (by decide)) (z9 5 (by decide) (by decide))
      obtain ⟨kw, ew, kw64⟩ := pa_w h4.2 x1 b1
      obtain ⟨kx, ex, kx64⟩ := pa_xk (r := vq_hs (M 11) c) kw64 r6.2
      obtain ⟨g1', g2'⟩ := gp_q (M2 := M2) hI hS B2 (fun a ha h => by
        unfold gp_n at h
        exact mm a ha (by omega) (by omega) (by omega) (by omega) (by omega) (by omega) (by omega) (by omega)) z9 (fun j hj => by rw [m10, x8 j hj]) (fun j h => by
        unfold gp_m at h
        exact z53 j (by omega) (by omega) (by omega) (by omega) (by omega)) (by rw [m10, x7, y6, e53, e4]) k2 k3 ⟨by rw [m9, x5, y5], by rw [m9, x4, y4], fun h hh => by
          rw [m1 12 (by decide) (by decide) (by decide), x9 h, y8 h, g1 74 (by decide) (by decide), s3 h hh], fun k hk => by
          rw [m1 13 (by decide) (by decide) (by decide), x10 k, y9 k hk, g1 82 (by decide) (by decide), s4 k hk, e53, ← s1]⟩ (by
        rw [m9, x5, ew, ex]
        exact pa_sb h4.1 h4.2 b1 kx64) (by
        rw [m9, x4]
        exact bU) k4
      exact ⟨vq_or (vq_hs (M 11) c), M1, M2, (w _ vr.1 vr.2).1, (w _ vr.1 vr.2).2, A1, A2, B1, B2, g1', g2'⟩
end
