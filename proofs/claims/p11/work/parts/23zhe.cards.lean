/-! cards: the pair. -/
section
variable {WF : (Nat → Nat → Int) → Prop} {L : Nat} {xs : Nat → Int32} {M M' M0 M1 M2 N : Nat → Nat → Int} {ρ ρ' : Nat → Int} {s i n z : Int} {c k q : Nat}
-- no shelf
def zo_g (r : Int × Int) : List ct_Q := [(0, r), (0, sx_r32), (0, sx_r32)]
noncomputable def zo_t (r : Int × Int) : sx_S := og_t (zo_g r) []
def zo_R : List (Int × Int) := [(og_mn, -1), (6, og_mx)]
theorem zo_cx : (zo_R.all fun r => gs_chk (fun _ => false) (fun o => [og_r (-1) []].any (og_chk (zo_t r) o)) 300 300 3 18 0 (ol_3 8) [] (zo_t r)) = true := by decide +kernel
theorem zo_cm : (zo_R.all fun r => gs_chk (fun _ => false) (fun o => [og_r (-1) []].any (og_chk (zo_t r) o)) 300 300 3 158 0 (ol_3 53) [] (zo_t r)) = true := by decide +kernel
theorem zo_o {j a : Nat} {p : Int} {r : Int × Int} (ea : p.toNat = a) (hchk : gs_chk (fun _ => false) (fun o => [og_r (-1) []].any (og_chk (zo_t r) o)) 300 300 3 j 0 (ol_3 p) [] (zo_t r) = true) (hL : L < 2 ^ 31) (hm : sx_mok cl_ly M) (hr : sx_w r s) (hs : sx_w sx_r32 s) (hi : sx_w sx_r32 i) (hn : sx_w sx_r32 n) : rz_fin (sh_Q (fun z M' => z = -1 ∧ zd_same M M')) L xs j 3 0 (sh_a4 a s i n) [] M := by
  obtain ⟨ρ, st, e1, e2, -⟩ := og_sat (xs := xs) (gs := zo_g r) (zs := [s, i, n]) (fs := []) hL hm ⟨og_z rfl hr.1 hr.2 hs, og_z rfl hi.1 hi.2 hi, og_z rfl hn.1 hn.2 hn, trivial⟩ (fun g hg => by cases hg)
  have n12 : (zo_t r).1 = 12 := e1
  obtain ⟨okl, el⟩ := sh_l4 (m := (zo_t r).1) (a := a) (c := p) (fun c => sx_ck2 st c) (by rw [n12]; decide) ea (e2 0 _ rfl) (e2 1 _ rfl) (e2 2 _ rfl) hs hi hn
  refine og_use (Ts := [og_r (-1) []]) (lv := ol_3 p) (s := []) hchk rfl st okl (fun v hv => by cases hv) (Nat.le_refl _) el rfl (fun T hT ρ' M' x h0 hm' hc hM => ?_)
  rw [List.mem_singleton.mp hT] at hM ⊢
  exact ⟨-1, congrArg some (tk_cv h0 (-1)), hm', rfl, hM⟩
/-- how a shelf stands -/
theorem zd_kd (hS : sh_S M c) : ∃ q, q < 4 ∧ sx_w (zd_x2 q) (M (41 + 2 * c) 2) ∧ sx_w (zd_x3 q) (M (41 + 2 * c) 3) ∧ sx_w (zd_m q) (M 87 c) ∧ (q = 3 → M 87 c ≤ -2) := by
  unfold sh_S at hS
  rcases hS with ⟨a, b, d⟩ | ⟨a, b, d, f⟩ | ⟨a, b, d, f, -⟩
  · refine ⟨0, by decide, ?_⟩
    rw [a, b, d]
    exact ⟨⟨by decide, by decide⟩, ⟨by decide, by decide⟩, ⟨by decide, by decide⟩, fun h => by omega⟩
  · refine ⟨1, by decide, ?_⟩
    rw [d, f]
    exact ⟨⟨by decide, by decide⟩, ⟨a, b⟩, ⟨a, b⟩, fun h => by omega⟩
  · by_cases e : M 87 c = -2
    · refine ⟨3, by decide, ?_⟩
      rw [d, f, e]
      exact ⟨⟨by decide, by decide⟩, ⟨by decide, by decide⟩, ⟨by decide, by decide⟩, fun _ => by decide⟩
    · refine ⟨2, by decide, ?_⟩
      rw [d, f]
      refine ⟨⟨?_, ?_⟩, ⟨by decide, by decide⟩, ⟨a, ?_⟩, fun h => by omega⟩
      · show 1 ≤ -2 - M 87 c; omega
      · show -2 - M 87 c ≤ 4; omega
      · show M 87 c ≤ -3; omega
def cd_cps : List la_P := [((9, 4), (53, 1), (0, 6)), ((9, 5), (53, 8), (0, 12)), ((37, 2), (53, 57), (0, 50))]
theorem cd_eq (hI : la_I WF cd_cps M) : M 9 4 = M 53 1 ∧ M 9 5 = M 53 8 ∧ 0 ≤ M 9 5 ∧ M 9 5 ≤ 12 := by
  have h1 := (hI.2.2.2.2 ((9, 4), (53, 1), (0, 6)) (by simp [cd_cps])).2
  have h2 := hI.2.2.2.2 ((9, 5), (53, 8), (0, 12)) (by simp [cd_cps])
  exact ⟨h1, h2.2, h2.1.1, h2.1.2⟩
/-- both sides go on alike -/
theorem cd_cond (h6 : c < 6) (hi : 0 ≤ i) (hS : sh_S M c) (h2 : M 87 c ≤ -2) (e1 : M 9 4 = M 53 1) (e2 : M 9 5 = M 53 8) (e : M1 88 = M 88 ∧ M1 89 = M 89 ∧ M1 53 = M 53) (k : Nat) : xd_cond c i n M k ↔ yd_cond c i n M1 k := by
  obtain ⟨p1, p2, p3, p4⟩ := so_row hS h2
  unfold xd_cond yd_cond
  rw [e.1, e.2.1, e.2.2, p3, e1, e2]
  have key : i + 2 * (k : Int) + 1 < M 88 c → xd_o (M (42 + 2 * c)) (i.toNat + 2 * k) = xd_o (M 89) (60 * c + (i + 2 * (k : Int)).toNat) ∧ xd_o (M (42 + 2 * c)) (i.toNat + 2 * k + 1) = xd_o (M 89) (60 * c + (i + 2 * (k : Int)).toNat + 1) := fun h => by
    unfold xd_o
    rw [p4 _ (by omega), p4 _ (by omega), show (i + 2 * (k : Int)).toNat = i.toNat + 2 * k by omega, show 60 * c + (i.toNat + 2 * k + 1) = 60 * c + (i.toNat + 2 * k) + 1 by omega]
    exact ⟨rfl, rfl⟩
  constructor
  · rintro ⟨a, -, b, d⟩
    rw [(key b).1, (key b).2] at d
    exact ⟨a, by omega, b, d⟩
  · rintro ⟨a, -, b, d⟩
    rw [← (key b).1, ← (key b).2] at d
    exact ⟨a, hi, b, d⟩
theorem cd_P0 {ax am : List Value} {kx km : Nat} {r : Int × Int} (hz : sh_H WF) (hI : la_I WF cd_cps M) (hS : sh_SS M) (hr : sx_w r z) (h32 : sx_w sx_r32 z) (a1 : lb_run L xs kx ax M (lb_val 0 z) M1) (a2 : sx_mok cl_ly M1) (a3 : zd_same M M1) (b1 : lb_run L xs km am M1 (lb_val 0 z) M2) (b2 : sx_mok cl_ly M2) (b3 : zd_same M1 M2) : sh_P WF L xs cd_cps kx km ax am r M := sh_P0 (sh_G_of hz) (by decide +kernel) hI hS hr h32 a1 a2 a3 b1 b2 b3
theorem cd_hp (hz : sh_H WF) (hL : L < 2 ^ 31) (hI : la_I WF cd_cps M) (hS : sh_SS M) (hs : sx_w sx_r32 s) (hi : sx_w sx_r32 i) (hn : sx_w sx_r32 n) : sh_P WF L xs cd_cps 18 158 [.ref 8, .int (Int32.ofInt s), .int (Int32.ofInt i), .int (Int32.ofInt n)] [.ref 53, .int (Int32.ofInt s), .int (Int32.ofInt i), .int (Int32.ofInt n)] (-12, 12) M := by
  have hs' := sx_r32_iff.mp hs
  have w : ∀ k : Int, -12 ≤ k → k ≤ 12 → sx_w (-12, 12) k ∧ sx_w sx_r32 k := fun k h1 h2 => ⟨⟨h1, h2⟩, og_w32 (by omega) (by omega)⟩
  have neg : ∀ {r : Int × Int}, r ∈ zo_R → sx_w r s → sh_P WF L xs cd_cps 18 158 [.ref 8, .int (Int32.ofInt s), .int (Int32.ofInt i), .int (Int32.ofInt n)] [.ref 53, .int (Int32.ofInt s), .int (Int32.ofInt i), .int (Int32.ofInt n)] (-12, 12) M := fun {r} hm hr => by
    obtain ⟨z, M1, a1, a2, rfl, a3⟩ := lb_of (k := 18) (vs := [.ref 8, .int (Int32.ofInt s), .int (Int32.ofInt i), .int (Int32.ofInt n)]) (show 3 ≤ 99 by decide) (zo_o (xs := xs) (a := 8) rfl (List.all_eq_true.mp zo_cx _ hm) hL hI.1 hr hs hi hn)
    obtain ⟨y, M2, b1, b2, rfl, b3⟩ := lb_of (k := 158) (vs := [.ref 53, .int (Int32.ofInt s), .int (Int32.ofInt i), .int (Int32.ofInt n)]) (show 3 ≤ 99 by decide) (zo_o (xs := xs) (a := 53) rfl (List.all_eq_true.mp zo_cm _ hm) hL a2 hr hs hi hn)
    exact cd_P0 hz hI hS (w _ (by decide) (by decide)).1 (w _ (by decide) (by decide)).2 a1 a2 a3 b1 b2 b3
  by_cases h1 : s < 0
  · exact neg (r := (og_mn, -1)) (by simp [zo_R]) ⟨hs'.1, by show s ≤ -1; omega⟩
  by_cases h2 : 5 < s
  · exact neg (r := (6, og_mx)) (by simp [zo_R]) ⟨by show 6 ≤ s; omega, by show s ≤ 2147483647; omega⟩
  obtain ⟨c, rfl⟩ := Int.eq_ofNat_of_zero_le (show 0 ≤ s by omega)
  have h6 : c < 6 := by omega
  obtain ⟨e1, e2, hC0, hC⟩ := cd_eq hI
  obtain ⟨q, q4, x2, x3, xm, x9⟩ := zd_kd (hS c h6)
  obtain ⟨z, M1, a1, a2, a3⟩ := lb_of (k := 18) (vs := [.ref 8, .int (Int32.ofInt (c : Int)), .int (Int32.ofInt i), .int (Int32.ofInt n)]) (show 5 ≤ 99 by decide) (zd_x (xs := xs) hL hI.1 h6 q4 x2 x3 hi hn)
  -- what the class changes
  have f1 : ∀ a, a < 128 → a ≠ 9 → a ≠ 10 → a ≠ 11 → M1 a = M a := by
    unfold zd_X at a3
    split at a3
    · exact fun a ha _ _ _ => a3.2 a ha
    · split at a3
      · exact fun a ha _ _ _ => a3.2 a ha
      · split at a3
        · obtain ⟨k, -, -, -, -, f, -⟩ := a3
          exact f
        · exact fun a ha _ _ _ => a3.2 a ha
  have e87 : M1 87 = M 87 := f1 87 (by decide) (by decide) (by decide) (by decide)
  have e53 : M1 53 = M 53 := f1 53 (by decide) (by decide) (by decide) (by decide)
  obtain ⟨y, M2, b1, b2, b3⟩ := lb_of (k := 158) (vs := [.ref 53, .int (Int32.ofInt (c : Int)), .int (Int32.ofInt i), .int (Int32.ofInt n)]) (show 4 ≤ 99 by decide) (zd_mm (xs := xs) hL a2 h6 q4 (by rw [e87]; exact xm) hi hn)
  unfold zd_X at a3
  unfold zd_M at b3
  by_cases hb : n < 1 ∨ 12 < n
  · rw [if_pos hb] at a3 b3
    obtain ⟨rfl, x1⟩ := a3
    obtain ⟨rfl, y1⟩ := b3
    exact cd_P0 hz hI hS (w _ (by decide) (by decide)).1 (w _ (by decide) (by decide)).2 a1 a2 x1 b1 b2 y1
  rw [if_neg hb] at a3 b3
  by_cases q0 : q = 0
  · rw [if_pos q0] at a3 b3
    obtain ⟨rfl, x1⟩ := a3
    obtain ⟨rfl, y1⟩ := b3
    exact cd_P0 hz hI hS (w _ (by decide) (by decide)).1 (w _ (by decide) (by decide)).2 a1 a2 x1 b1 b2 y1
  rw [if_neg q0] at a3 b3
  by_cases q3 : q = 3
  · rw [if_pos q3] at a3 b3
    obtain ⟨kx, ez, kx12, nx, fx, -, gx, hx, -⟩ := a3
    obtain ⟨km, ey, km12, nm, fm, f2, gm, -, -⟩ := b3
    have ek : km = kx := by
      by_cases hi0 : 0 ≤ i
      · have iff := fun k => cd_cond (n := n) (M1 := M1) h6 hi0 (hS c h6) (x9 q3) e1 e2 ⟨f1 88 (by decide) (by decide) (by decide) (by decide), f1 89 (by decide) (by decide) (by decide) (by decide), e53⟩ k
        by_cases h3 : km < kx
        · exact absurd ((iff km).mp (fx km h3)) nm
        · by_cases h4 : kx < km
          · exact absurd ((iff kx).mpr (fm kx h4)) nx
          · omega
      · have z1 : kx = 0 := by
          by_cases h3 : 0 < kx
          · have := (fx 0 h3).2.1
            omega
          · omega
        have z2 : km = 0 := by
          by_cases h3 : 0 < km
          · have := (fm 0 h3).2.1
            omega
          · omega
        omega
    have hk12 : M 9 5 + (kx : Int) ≤ 12 := by
      by_cases h3 : 0 < kx
      · have := (fx (kx - 1) (by omega)).2.2.2.2.2.2.2
        omega
      · omega
    have ey : y = z := by omega
    rw [ey] at b1
    have g9 : ∀ j, M2 9 j = if j = 5 then M 9 5 + (kx : Int) else M 9 j := fun j => by rw [f2 9 (by decide) (by decide) (by decide) (by decide), gx j]
    have g53 : ∀ j, M2 53 j = if j = 8 then M 53 8 + (kx : Int) else M 53 j := fun j => by rw [gm j, e53, ek]
    have g : ∀ a, a < 128 → a ≠ 9 → a ≠ 10 → a ≠ 11 → a ≠ 53 → a ≠ 59 → a ≠ 60 → M2 a = M a := fun a ha h9 h10 h11 h53 h59 h60 => by rw [f2 a ha h53 h59 h60, f1 a ha h9 h10 h11]
    have g210 : M2 10 210 = M 10 210 := by
      rw [f2 10 (by decide) (by decide) (by decide) (by decide), hx 210, if_neg (by omega)]
    obtain ⟨-, i2, i3, i4, i5⟩ := hI
    refine ⟨z, M1, M2, (w z (by omega) (by omega)).1, Or.inl ⟨rfl, (w z (by omega) (by omega)).2⟩, a1, a2, b1, b2, ⟨b2, ?_, ?_, by rw [g210]; exact i4, fun p hp => ?_⟩, ?_⟩
    · refine fp_JJ M M2 (fun u hu => g u ?_ ?_ ?_ ?_ ?_ ?_ ?_) (fun p hp => ?_) i2
      all_goals first
        | (simp only [List.mem_cons, List.not_mem_nil, or_false] at hu; omega)
        | skip
      simp only [List.mem_cons, List.not_mem_nil, or_false] at hp
      rcases hp with rfl | rfl | rfl | rfl
      · show M2 32 1 = M 32 1
        rw [g 32 (by decide) (by decide) (by decide) (by decide) (by decide) (by decide) (by decide)]
      · show M2 32 2 = M 32 2
        rw [g 32 (by decide) (by decide) (by decide) (by decide) (by decide) (by decide) (by decide)]
      · show M2 53 14 = M 53 14
        rw [g53 14, if_neg (by decide)]
      · show M2 53 15 = M 53 15
        rw [g53 15, if_neg (by decide)]
    · refine hz M M2 (fun u hu => ?_) i3
      have : (cz_zs.all fun u => sx_an (Nat.blt u 128) (([9, 10, 11, 53, 59, 60].all fun v => !Nat.beq u v))) = true := by decide +kernel
      obtain ⟨u1, u2⟩ := sx_an_iff.mp (List.all_eq_true.mp this u hu)
      have ne : ∀ v, v ∈ [9, 10, 11, 53, 59, 60] → u ≠ v := fun v hv e9 => by
        have := List.all_eq_true.mp u2 v hv
        rw [sx_nbeq.mpr e9] at this
        cases this
      exact g u (sx_blt u1) (ne 9 (by decide)) (ne 10 (by decide)) (ne 11 (by decide)) (ne 53 (by decide)) (ne 59 (by decide)) (ne 60 (by decide))
    · have hp5 := i5 p hp
      simp only [cd_cps, List.mem_cons, List.not_mem_nil, or_false] at hp
      rcases hp with rfl | rfl | rfl
      · show sx_w (0, 6) (M2 9 4) ∧ M2 9 4 = M2 53 1
        rw [g9 4, g53 1, if_neg (by decide), if_neg (by decide)]
        exact hp5
      · show sx_w (0, 12) (M2 9 5) ∧ M2 9 5 = M2 53 8
        rw [g9 5, g53 8, if_pos rfl, if_pos rfl, e2]
        exact ⟨⟨by show 0 ≤ M 53 8 + (kx : Int); omega, by show M 53 8 + (kx : Int) ≤ 12; omega⟩, rfl⟩
      · show sx_w (0, 50) (M2 37 2) ∧ M2 37 2 = M2 53 57
        rw [g 37 (by decide) (by decide) (by decide) (by decide) (by decide) (by decide) (by decide), g53 57, if_neg (by decide)]
        exact hp5
    · exact sh_fp M M2 (fun u hu => by
        simp only [List.mem_cons, List.not_mem_nil, or_false] at hu
        exact g u (by omega) (by omega) (by omega) (by omega) (by omega) (by omega) (by omega)) (fun p hp => by cases hp) hS
  · rw [if_neg q3] at a3 b3
    obtain ⟨rfl, x1⟩ := a3
    obtain ⟨rfl, y1⟩ := b3
    exact cd_P0 hz hI hS (w _ (by decide) (by decide)).1 (w _ (by decide) (by decide)).2 a1 a2 x1 b1 b2 y1
end
