/-! cards: the pair, with all that is held alike. -/
section
variable {WF : (Nat → Nat → Int) → Prop} {L : Nat} {xs : Nat → Int32} {M M' M0 M1 M2 N : Nat → Nat → Int} {ρ ρ' : Nat → Int} {s i n z : Int} {c k q : Nat}
theorem cd_hb (hz : ∀ M M' : Nat → Nat → Int, (∀ z ∈ cz_zs, M' z = M z) → WF M → WF M') (hL : L < 2 ^ 31) (hI : la_I WF bs_cps M) (hS : bs_SS M) (hs : sx_w sx_r32 s) (hi : sx_w sx_r32 i) (hn : sx_w sx_r32 n) : bs_P WF L xs 18 158 [.ref 8, .int (Int32.ofInt s), .int (Int32.ofInt i), .int (Int32.ofInt n)] [.ref 53, .int (Int32.ofInt s), .int (Int32.ofInt i), .int (Int32.ofInt n)] (-12, 12) M := by
  have hs' := sx_r32_iff.mp hs
  have w : ∀ k : Int, -12 ≤ k → k ≤ 12 → sx_w (-12, 12) k ∧ sx_w sx_r32 k := fun k h1 h2 => ⟨⟨h1, h2⟩, og_w32 (by omega) (by omega)⟩
  have neg : ∀ {r : Int × Int}, r ∈ zo_R → sx_w r s → bs_P WF L xs 18 158 [.ref 8, .int (Int32.ofInt s), .int (Int32.ofInt i), .int (Int32.ofInt n)] [.ref 53, .int (Int32.ofInt s), .int (Int32.ofInt i), .int (Int32.ofInt n)] (-12, 12) M := fun {r} hm hr => by
    obtain ⟨z, M1, a1, a2, rfl, a3⟩ := lb_of (k := 18) (vs := [.ref 8, .int (Int32.ofInt s), .int (Int32.ofInt i), .int (Int32.ofInt n)]) (show 3 ≤ 99 by decide) (zo_o (xs := xs) (a := 8) rfl (List.all_eq_true.mp zo_cx _ hm) hL hI.1 hr hs hi hn)
    obtain ⟨y, M2, b1, b2, rfl, b3⟩ := lb_of (k := 158) (vs := [.ref 53, .int (Int32.ofInt s), .int (Int32.ofInt i), .int (Int32.ofInt n)]) (show 3 ≤ 99 by decide) (zo_o (xs := xs) (a := 53) rfl (List.all_eq_true.mp zo_cm _ hm) hL a2 hr hs hi hn)
    exact bs_P0 hz hI hS (w _ (by decide) (by decide)).1 (w _ (by decide) (by decide)).2 a1 a2 a3 b1 b2 b3
  by_cases h1 : s < 0
  · exact neg (r := (og_mn, -1)) (by simp [zo_R]) ⟨hs'.1, by show s ≤ -1; omega⟩
  by_cases h2 : 5 < s
  · exact neg (r := (6, og_mx)) (by simp [zo_R]) ⟨by show 6 ≤ s; omega, by show s ≤ 2147483647; omega⟩
  obtain ⟨c, rfl⟩ := Int.eq_ofNat_of_zero_le (show 0 ≤ s by omega)
  have h6 : c < 6 := by omega
  obtain ⟨e1, e2, -, e4, e5, -, -⟩ := bs_eq hI
  have hC9 := cx_fld (c := 9) (k := 5) (lo := 0) (hi := 12) hI.1 (by decide +kernel)
  obtain ⟨q, q4, x2, x3, xm, x9⟩ := zd_kd (hS.1 c h6)
  obtain ⟨z, M1, a1, a2, a3⟩ := lb_of (k := 18) (vs := [.ref 8, .int (Int32.ofInt (c : Int)), .int (Int32.ofInt i), .int (Int32.ofInt n)]) (show 5 ≤ 99 by decide) (zd_x (xs := xs) hL hI.1 h6 q4 x2 x3 hi hn)
  -- what the class changes
  have f1 : ∀ a, a < 128 → a ≠ 9 → a ≠ 10 → a ≠ 11 → M1 a = M a := by
    unfold zd_X at a3
    split at a3
    · exact fun a ha _ _ _ => a3.2 a ha
    · split at a3
      · exact fun a ha _ _ _ => a3.2 a ha
      · split at a3
        · obtain ⟨k, -, -, -, -, f, -⟩ := a3
          exact f
        · exact fun a ha _ _ _ => a3.2 a ha
  have e87 : M1 87 = M 87 := f1 87 (by decide) (by decide) (by decide) (by decide)
  have e53 : M1 53 = M 53 := f1 53 (by decide) (by decide) (by decide) (by decide)
  obtain ⟨y, M2, b1, b2, b3⟩ := lb_of (k := 158) (vs := [.ref 53, .int (Int32.ofInt (c : Int)), .int (Int32.ofInt i), .int (Int32.ofInt n)]) (show 4 ≤ 99 by decide) (zd_mm (xs := xs) hL a2 h6 q4 (by rw [e87]; exact xm) hi hn)
  unfold zd_X at a3
  unfold zd_M at b3
  by_cases hb : n < 1 ∨ 12 < n
  · rw [if_pos hb] at a3 b3
    obtain ⟨rfl, x1⟩ := a3
    obtain ⟨rfl, y1⟩ := b3
    exact bs_P0 hz hI hS (w _ (by decide) (by decide)).1 (w _ (by decide) (by decide)).2 a1 a2 x1 b1 b2 y1
  rw [if_neg hb] at a3 b3
  by_cases q0 : q = 0
  · rw [if_pos q0] at a3 b3
    obtain ⟨rfl, x1⟩ := a3
    obtain ⟨rfl, y1⟩ := b3
    exact bs_P0 hz hI hS (w _ (by decide) (by decide)).1 (w _ (by decide) (by decide)).2 a1 a2 x1 b1 b2 y1
  rw [if_neg q0] at a3 b3
  by_cases q3 : q = 3
  · rw [if_pos q3] at a3 b3
    obtain ⟨kx, ez, kx12, nx, fx, -, gx, hx, -⟩ := a3
    obtain ⟨km, ey, km12, nm, fm, f2, gm, hy, -⟩ := b3
    have ek : km = kx := by
      by_cases hi0 : 0 ≤ i
      · have iff := fun k => cd_cond (n := n) (M1 := M1) h6 hi0 (hS.1 c h6) (x9 q3) e1 e2 ⟨f1 88 (by decide) (by decide) (by decide) (by decide), f1 89 (by decide) (by decide) (by decide) (by decide), e53⟩ k
        by_cases h3 : km < kx
        · exact absurd ((iff km).mp (fx km h3)) nm
        · by_cases h4 : kx < km
          · exact absurd ((iff kx).mpr (fm kx h4)) nx
          · omega
      · have z1 : kx = 0 := by
          by_cases h3 : 0 < kx
          · have := (fx 0 h3).2.1
            omega
          · omega
        have z2 : km = 0 := by
          by_cases h3 : 0 < km
          · have := (fm 0 h3).2.1
            omega
          · omega
        omega
    have hk12 : M 9 5 + (kx : Int) ≤ 12 := by
      by_cases h3 : 0 < kx
      · have := (fx (kx - 1) (by omega)).2.2.2.2.2.2.2
        omega
      · omega
    have ey : y = z := by omega
    rw [ey] at b1
    have g9 : ∀ j, M2 9 j = if j = 5 then M 9 5 + (kx : Int) else M 9 j := fun j => by rw [f2 9 (by decide) (by decide) (by decide) (by decide), gx j]
    have g53 : ∀ j, M2 53 j = if j = 8 then M 53 8 + (kx : Int) else M 53 j := fun j => by rw [gm j, e53, ek]
    have g : ∀ a, a < 128 → a ≠ 9 → a ≠ 10 → a ≠ 11 → a ≠ 53 → a ≠ 59 → a ≠ 60 → M2 a = M a := fun a ha h9 h10 h11 h53 h59 h60 => by rw [f2 a ha h53 h59 h60, f1 a ha h9 h10 h11]
    have g10 : ∀ j, M2 10 j = if 180 + (M 9 5).toNat ≤ j ∧ j < 180 + (M 9 5).toNat + kx then xd_o (M (42 + 2 * c)) (i.toNat + 2 * (j - (180 + (M 9 5).toNat)) + 1) else M 10 j := fun j => by rw [f2 10 (by decide) (by decide) (by decide) (by decide), hx j]
    have g60 : ∀ j, M2 60 j = if (M 53 8).toNat ≤ j ∧ j < (M 53 8).toNat + kx then xd_o (M 89) (60 * c + (i + 2 * ((j - (M 53 8).toNat : Nat) : Int)).toNat + 1) else M 60 j := fun j => by rw [hy j, e53, ek, f1 89 (by decide) (by decide) (by decide) (by decide), f1 60 (by decide) (by decide) (by decide) (by decide)]
    have g32 := g 32 (by decide) (by decide) (by decide) (by decide) (by decide) (by decide) (by decide)
    have g33 := g 33 (by decide) (by decide) (by decide) (by decide) (by decide) (by decide) (by decide)
    obtain ⟨⟨n1, n2, n3⟩, c1, c2⟩ := hS.2
    have ci := hS.1 c h6
    have G : la_I WF bs_cps M2 ∧ bs_SS M2 ∧ bs_fr M M2 := by
      refine bs_mk hz hI hS b2 (fun a ha q => ?_) ?_ ?_ (fun j hj => ?_) ?_ ?_ ⟨⟨fun w n hw hn => ?_, fun n hn => ?_, fun n hn h => ?_⟩, fun q hq => ?_, ?_⟩ ?_
      · unfold bs_o at q
        exact g a ha (by omega) (by omega) (by omega) (by omega) (by omega) (by omega)
      · rw [g9 4, if_neg (by decide), g53 1, if_neg (by decide)]
        exact e1
      · rw [g9 5, if_pos rfl, g53 8, if_pos rfl, e2]
      · unfold bs_v at hj
        rw [g53 j, if_neg (by omega)]
      · rw [g10 210, if_neg (by omega), g53 13, if_neg (by decide)]
        exact e4
      · rw [g32, g53 14, if_neg (by decide)]
        exact e5
      · rw [g10, if_neg (by omega), g (54 + w) (by omega) (by omega) (by omega) (by omega) (by omega) (by omega) (by omega)]
        exact n1 w n hw hn
      · rw [g10, if_neg (by omega), g 61 (by decide) (by decide) (by decide) (by decide) (by decide) (by decide) (by decide)]
        exact n2 n hn
      · rw [g53 8, if_pos rfl] at h
        rw [g10, g60]
        by_cases en : (M 53 8).toNat ≤ n
        · rw [if_pos (show 180 + (M 9 5).toNat ≤ 180 + n ∧ 180 + n < 180 + (M 9 5).toNat + kx from ⟨by omega, by omega⟩), if_pos (show (M 53 8).toNat ≤ n ∧ n < (M 53 8).toNat + kx from ⟨en, by omega⟩)]
          have f := fx (n - (M 53 8).toNat) (by omega)
          have f2' := f.2.1
          have f3 := f.2.2.1
          obtain ⟨p1, p2, p3, p4⟩ := so_row ci (x9 q3)
          rw [p3] at f3
          unfold xd_o
          rw [p4 _ (by omega), show 60 * c + (i.toNat + 2 * (180 + n - (180 + (M 9 5).toNat)) + 1) = 60 * c + (i + 2 * ((n - (M 53 8).toNat : Nat) : Int)).toNat + 1 by omega]
        · rw [if_neg (show ¬ (180 + (M 9 5).toNat ≤ 180 + n ∧ 180 + n < 180 + (M 9 5).toNat + kx) by omega), if_neg (show ¬ ((M 53 8).toNat ≤ n ∧ n < (M 53 8).toNat + kx) by omega)]
          exact n3 n hn (by omega)
      · rw [g33, g 62 (by decide) (by decide) (by decide) (by decide) (by decide) (by decide) (by decide), g 63 (by decide) (by decide) (by decide) (by decide) (by decide) (by decide) (by decide), g 64 (by decide) (by decide) (by decide) (by decide) (by decide) (by decide) (by decide), g 65 (by decide) (by decide) (by decide) (by decide) (by decide) (by decide) (by decide)]
        exact c1 q hq
      · rw [g32, g53 14, if_neg (by decide), g53 15, if_neg (by decide)]
        exact c2
      · rw [g33]
        exact (JJ_iff.mp hI.2.1).1
    exact ⟨z, M1, M2, (w z (by omega) (by omega)).1, Or.inl ⟨rfl, (w z (by omega) (by omega)).2⟩, a1, a2, b1, b2, G.1, G.2⟩
  · rw [if_neg q3] at a3 b3
    obtain ⟨rfl, x1⟩ := a3
    obtain ⟨rfl, y1⟩ := b3
    exact bs_P0 hz hI hS (w _ (by decide) (by decide)).1 (w _ (by decide) (by decide)).2 a1 a2 x1 b1 b2 y1
end
