/-! Shelves: put and element, both sides. -/
section
variable {WF : (Nat → Nat → Int) → Prop} {L : Nat} {xs : Nat → Int32} {M M' M0 M1 M2 : Nat → Nat → Int} {s i v : Int} {c : Nat} {cps : List la_P}
def sh_cp (cps : List la_P) : Bool := cps.all (fun q => sx_an (sh_o q.1.1) (sh_o q.2.1.1))
/-- a pair of calls: the same answer, and the shelves are held alike -/
def sh_P (WF : (Nat → Nat → Int) → Prop) (L : Nat) (xs : Nat → Int32) (cps : List la_P) (kx km : Nat) (ax am : List Value) (r : Int × Int) (M : Nat → Nat → Int) : Prop := ∃ z M1 M2, sx_w r z ∧ ((0 = 0 ∧ sx_w sx_r32 z) ∨ (0 = 1 ∧ sx_w sx_r64 z)) ∧ lb_run L xs kx ax M (lb_val 0 z) M1 ∧ sx_mok cl_ly M1 ∧ lb_run L xs km am M1 (lb_val 0 z) M2 ∧ sx_mok cl_ly M2 ∧ la_I WF cps M2 ∧ sh_SS M2
/-- both sides change nothing -/
theorem sh_P0 {kx km : Nat} {ax am : List Value} {r : Int × Int} {z : Int} (hz : sh_G WF) (hc : sh_cp cps = true) (hI : la_I WF cps M) (hS : sh_SS M) (hr : sx_w r z) (h32 : sx_w sx_r32 z) (a1 : lb_run L xs kx ax M (lb_val 0 z) M1) (a2 : sx_mok cl_ly M1) (a3 : ∀ a, a < 128 → M1 a = M a) (b1 : lb_run L xs km am M1 (lb_val 0 z) M2) (b2 : sx_mok cl_ly M2) (b3 : ∀ a, a < 128 → M2 a = M1 a) : sh_P WF L xs cps kx km ax am r M := ⟨z, M1, M2, hr, Or.inl ⟨rfl, h32⟩, a1, a2, b1, b2, sh_I hz hc hI (sh_m_tr (sh_same a2 a3) (sh_same b2 b3)), sh_SSsame b3 (sh_SSsame a3 hS)⟩
theorem pt_hp (hz : sh_G WF) (hc : sh_cp cps = true) (hL : L < 2 ^ 31) (hI : la_I WF cps M) (hS : sh_SS M) (hs : sx_w sx_r32 s) (hi : sx_w sx_r32 i) (hv : sx_w sx_r64 v) : sh_P WF L xs cps 142 265 [.ref 8, .int (Int32.ofInt s), .int (Int32.ofInt i), .long (Int64.ofInt v)] [.ref 53, .int (Int32.ofInt s), .int (Int32.ofInt i), .long (Int64.ofInt v)] (-13, 1) M := by
  have hs' := sx_r32_iff.mp hs
  have neg : ∀ {r : Int × Int}, sx_w r s → gs_chk (fun _ => false) (fun o => [og_r (-1) []].any (og_chk (op_t9 r) o)) 300 300 4 142 0 (op_l 8) [] (op_t9 r) = true → gs_chk (fun _ => false) (fun o => [og_r (-1) []].any (og_chk (op_t9 r) o)) 300 300 4 265 0 (op_l 53) [] (op_t9 r) = true → sh_P WF L xs cps 142 265 [.ref 8, .int (Int32.ofInt s), .int (Int32.ofInt i), .long (Int64.ofInt v)] [.ref 53, .int (Int32.ofInt s), .int (Int32.ofInt i), .long (Int64.ofInt v)] (-13, 1) M := fun {r} hr h1 h2 => by
    obtain ⟨z, M1, a1, a2, rfl, a3⟩ := lb_of (k := 142) (vs := [.ref 8, .int (Int32.ofInt s), .int (Int32.ofInt i), .long (Int64.ofInt v)]) (show 4 ≤ 99 by decide) (pt_o (xs := xs) (a := 8) rfl h1 hL hI.1 hr hs hi hv)
    obtain ⟨y, M2, b1, b2, rfl, b3⟩ := lb_of (k := 265) (vs := [.ref 53, .int (Int32.ofInt s), .int (Int32.ofInt i), .long (Int64.ofInt v)]) (show 4 ≤ 99 by decide) (pt_o (xs := xs) (a := 53) rfl h2 hL a2 hr hs hi hv)
    exact sh_P0 hz hc hI hS ⟨by decide, by decide⟩ (og_w32 (by decide) (by decide)) a1 a2 a3 b1 b2 b3
  by_cases h1 : s < 0
  · exact neg (r := (og_mn, -1)) ⟨hs'.1, by show s ≤ -1; omega⟩ op_cx9 op_cm9
  by_cases h2 : 5 < s
  · exact neg (r := (6, og_mx)) ⟨by show 6 ≤ s; omega, by show s ≤ 2147483647; omega⟩ op_cx6 op_cm6
  obtain ⟨c, rfl⟩ := Int.eq_ofNat_of_zero_le (show 0 ≤ s by omega)
  have hc6 : c < 6 := by omega
  obtain ⟨z, M1, a1, a2, a3⟩ := lb_of (k := 142) (vs := [.ref 8, .int (Int32.ofInt (c : Int)), .int (Int32.ofInt i), .long (Int64.ofInt v)]) (show 4 ≤ 99 by decide) (pt_x (xs := xs) hL hI.1 hc6 rfl hi hv)
  obtain ⟨y, M2, b1, b2, b3⟩ := lb_of (k := 265) (vs := [.ref 53, .int (Int32.ofInt (c : Int)), .int (Int32.ofInt i), .long (Int64.ofInt v)]) (show 4 ≤ 99 by decide) (pt_m (xs := xs) hL a2 hc6 rfl hi hv)
  have w : ∀ k : Int, -13 ≤ k → k ≤ 1 → sx_w (-13, 1) k ∧ sx_w sx_r32 k := fun k h1 h2 => ⟨⟨h1, h2⟩, og_w32 (by omega) (by omega)⟩
  have hS0 := hS c hc6
  unfold sh_S at hS0
  rcases a3 with ⟨rfl, x1, x2, x3⟩ | ⟨rfl, x1, x2, x3⟩ | ⟨rfl, x1, x2, x3⟩ | ⟨rfl, x1, x2, x3, x4⟩
  · rcases b3 with ⟨rfl, y1, y3⟩ | ⟨rfl, y1, y3⟩ | ⟨rfl, y1, y2, y3⟩ | ⟨rfl, y1, y2, y3, y4⟩
    · exact sh_P0 hz hc hI hS (w _ (by decide) (by decide)).1 (w _ (by decide) (by decide)).2 a1 a2 x3 b1 b2 y3
    all_goals (rw [x3 87 (by decide)] at y1; omega)
  · rcases b3 with ⟨rfl, y1, y3⟩ | ⟨rfl, y1, y3⟩ | ⟨rfl, y1, y2, y3⟩ | ⟨rfl, y1, y2, y3, y4⟩
    · rw [x3 87 (by decide)] at y1; omega
    · exact sh_P0 hz hc hI hS (w _ (by decide) (by decide)).1 (w _ (by decide) (by decide)).2 a1 a2 x3 b1 b2 y3
    all_goals (rw [x3 87 (by decide)] at y1; omega)
  · rcases b3 with ⟨rfl, y1, y3⟩ | ⟨rfl, y1, y3⟩ | ⟨rfl, y1, y2, y3⟩ | ⟨rfl, y1, y2, y3, y4⟩
    · rw [x3 87 (by decide)] at y1; omega
    · rw [x3 87 (by decide)] at y1; omega
    · exact sh_P0 hz hc hI hS (w _ (by decide) (by decide)).1 (w _ (by decide) (by decide)).2 a1 a2 x3 b1 b2 y3
    · rw [x3 87 (by decide)] at y1; rw [x3 88 (by decide)] at y3; omega
  · have f1 : ∀ a, a < 128 → a ≠ 42 + 2 * c → M1 a = M a := fun a ha ne => by rw [x4 a ha, sh_une ne]
    have e87 : M1 87 = M 87 := f1 87 (by decide) (by omega)
    have e88 : M1 88 = M 88 := f1 88 (by decide) (by omega)
    unfold pt_M at b3
    rw [e87, e88] at b3
    rcases b3 with ⟨rfl, y1, y3⟩ | ⟨rfl, y1, y3⟩ | ⟨rfl, y1, y2, y3⟩ | ⟨rfl, y1, y2, y3, y4⟩
    · omega
    · omega
    · omega
    · have f2 : ∀ a, a < 128 → a ≠ 89 → M2 a = M1 a := fun a ha ne => by rw [y4 a ha, sh_une ne]
      have h88 := sh_88 hI.1 hc6
      obtain ⟨s1, s2, s3, s4, s5, s6⟩ : -6 ≤ M 87 c ∧ M 87 c ≤ -2 ∧ M (41 + 2 * c) 2 = -2 - M 87 c ∧ M (41 + 2 * c) 3 = -1 ∧ M (41 + 2 * c) 1 = M 88 c ∧ ∀ i : Nat, (i : Int) < M 88 c → M (42 + 2 * c) i = M 89 (60 * c + i) := by
        rcases hS0 with h | h | h
        · omega
        · omega
        · exact h
      refine ⟨1, M1, M2, ⟨by decide, by decide⟩, Or.inl ⟨rfl, og_w32 (by decide) (by decide)⟩, a1, a2, b1, b2, sh_I hz hc hI ⟨b2, fun a ha x y => by rw [f2 a ha (by omega), f1 a ha (by omega)]⟩, fun k hk => ?_⟩
      have g87 : M2 87 k = M 87 k := by rw [f2 87 (by decide) (by decide), e87]
      have g88 : M2 88 k = M 88 k := by rw [f2 88 (by decide) (by decide), e88]
      have gf : M2 (41 + 2 * k) = M (41 + 2 * k) := by rw [f2 _ (by omega) (by omega), f1 _ (by omega) (by omega)]
      have e89 : M1 89 = M 89 := f1 89 (by decide) (by omega)
      by_cases e : k = c
      · subst e
        refine Or.inr (Or.inr ?_)
        rw [g87, g88, gf]
        refine ⟨s1, s2, s3, s4, s5, fun j hj => ?_⟩
        rw [f2 _ (by omega) (by omega), x4 _ (by omega), y4 89 (by decide), ← s3]
        by_cases ej : j = i.toNat
        · subst ej
          rw [sh_uat, show (i + 60 * (k : Int)).toNat = 60 * k + i.toNat by omega, sh_uat]
        · rw [sh_unj ej, sh_unj (by omega), e89]
          exact s6 j hj
      · refine sh_S_on (hS k hk) g87 g88 (fun j hj => ?_) gf (by rw [f2 _ (by omega) (by omega), f1 _ (by omega) (by omega)]) (sh_88 hI.1 hk).2
        rw [y4 89 (by decide), sh_unj (by omega), e89]
-- element
end
