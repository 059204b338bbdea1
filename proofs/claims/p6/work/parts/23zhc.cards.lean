/-! cards: both sides. -/
section
variable {WF : (Nat → Nat → Int) → Prop} {L : Nat} {xs : Nat → Int32} {M M' M0 M1 M2 N : Nat → Nat → Int} {ρ ρ' : Nat → Int} {Q : Option Value → (Nat → Nat → Int) → Prop} {s b i n z : Int} {c k q : Nat} {cps : List la_P}
-- keep, whatever else is held alike
theorem kp_hp' (hz : sh_G WF) (hc : sh_cp cps = true) (hb9 : ((37, 2), (53, 57), ((0 : Int), (50 : Int))) ∈ cps) (hL : L < 2 ^ 31) (hI : la_I WF cps M) (hS : sh_SS M) (hs : sx_w sx_r32 s) (hb : sx_w sx_r32 b) : sh_P WF L xs cps 138 263 [.ref 8, .int (Int32.ofInt s), .int (Int32.ofInt b)] [.ref 53, .int (Int32.ofInt s), .int (Int32.ofInt b)] (-1, 1) M := by
  obtain ⟨hB, eB⟩ := hI.2.2.2.2 _ hb9
  have hB : sx_w (0, 50) (M 37 2) := hB
  have eB : M 37 2 = M 53 57 := eB
  obtain ⟨z, M1, a1, a2, a3⟩ := lb_of (k := 138) (vs := [.ref 8, .int (Int32.ofInt s), .int (Int32.ofInt b)]) (show 3 ≤ 99 by decide) (kp_x (xs := xs) hL hI.1 hs hb)
  obtain ⟨y, M2, b1, b2, b3⟩ := lb_of (k := 263) (vs := [.ref 53, .int (Int32.ofInt s), .int (Int32.ofInt b)]) (show 4 ≤ 99 by decide) (kp_m (xs := xs) hL a2 hs hb)
  rcases a3 with ⟨rfl, c1, c2⟩ | ⟨rfl, c1, c2⟩
  · have e57 : M1 53 57 = M 37 2 := by rw [c2 53 (by decide), eB]
    rcases b3 with ⟨rfl, d1, d2⟩ | ⟨rfl, d1, d2⟩
    · exact sh_P0 hz hc hI hS ⟨by decide, by decide⟩ (og_w32 (by decide) (by decide)) a1 a2 c2 b1 b2 d2
    · rw [e57] at d1
      exact absurd c1 d1
  · have hs6 : 0 ≤ s ∧ s ≤ 5 ∧ -1 ≤ b ∧ b < M 37 2 ∨ 0 ≤ s ∧ s ≤ 5 ∧ b = -1 := by unfold kp_no at c1; omega
    have hk : s.toNat < 6 := by omega
    have f1 : ∀ a, a < 128 → a ≠ 41 + 2 * s.toNat → M1 a = M a := fun a ha ne => by rw [c2 a ha, sh_wne ne]
    have e57 : M1 53 57 = M 37 2 := by rw [f1 53 (by decide) (by omega), eB]
    rcases b3 with ⟨rfl, d1, d2⟩ | ⟨rfl, d1, d2⟩
    · rw [e57] at d1
      exact absurd d1 c1
    · have f2 : ∀ a, a < 128 → a ≠ 87 → M2 a = M1 a := fun a ha ne => by rw [d2 a ha, sh_une ne]
      refine ⟨1, M1, M2, ⟨by decide, by decide⟩, Or.inl ⟨rfl, og_w32 (by decide) (by decide)⟩, a1, a2, b1, b2, sh_I hz hc hI ⟨b2, fun a ha x y => by rw [f2 a ha (by omega), f1 a ha (by omega)]⟩, fun j hj => ?_⟩
      by_cases e : j = s.toNat
      · subst e
        have g87 : M2 87 s.toNat = b := by rw [d2 87 (by decide), sh_uat]
        have g2 : M2 (41 + 2 * s.toNat) 2 = -1 := by rw [f2 _ (by omega) (by omega), c2 _ (by omega), sh_w2]
        have g3 : M2 (41 + 2 * s.toNat) 3 = b := by rw [f2 _ (by omega) (by omega), c2 _ (by omega), sh_w3]
        unfold sh_S
        rw [g87, g2, g3]
        have := hB.2
        by_cases eb : b = -1
        · exact Or.inl ⟨eb, rfl, eb⟩
        · exact Or.inr (Or.inl ⟨by omega, by omega, rfl, rfl⟩)
      · exact sh_uS hj e (Or.inl rfl) a2 (sh_wS hk hj e hI.1 (hS j hj) c2) d2
-- the ways in: q = 0 empty, 1 a body, 2 a row of another sort, 3 bytes; 9 i, 10 n
def zd_g : List ct_Q := [(0, sx_r32), (0, sx_r32)]
def zd_x2 (q : Nat) : Int × Int := if q = 2 then (1, 4) else if q = 3 then (0, 0) else (-1, -1)
def zd_x3 (q : Nat) : Int × Int := if q = 1 then (0, 49) else (-1, -1)
def zd_m (q : Nat) : Int × Int := if q = 0 then (-1, -1) else if q = 1 then (0, 49) else if q = 2 then (-6, -3) else (-2, -2)
def zd_fx (c q : Nat) : List ct_G := [(41 + 2 * c, 2, zd_x2 q), (41 + 2 * c, 3, zd_x3 q)]
def zd_fm (c q : Nat) : List ct_G := [(87, c, zd_m q)]
noncomputable def zd_tx (c q : Nat) : sx_S := og_t zd_g (zd_fx c q)
noncomputable def zd_tm (c q : Nat) : sx_S := og_t zd_g (zd_fm c q)
def zd_l (a : Int) (c : Nat) : sx_L := [(0, 2, 0, a), (1, 0, 0, (c : Int)), (2, 0, 9, 0), (3, 0, 10, 0)]
def zd_bad : List og_T := [og_r (-1) [og_b 10 og_mn 0], og_r (-1) [og_b 10 13 og_mx]]
def zd_Tx (c q : Nat) : List og_T := zd_bad ++ (if q = 0 then [og_r 0 [og_b 10 1 12]] else if q = 3 then [og_r 0 [og_b 10 1 12, og_b 9 og_mn (-1)], (some 62, none, [(0, 10, 0), (0, 9, 0), (2, 0, 41 + 2 * (c : Int)), (2, 0, 8)], [], [], [og_b 10 1 12, og_b 9 0 og_mx])] else [og_r (-12) [og_b 10 1 12]])
def zd_Tm (c q : Nat) : List og_T := zd_bad ++ (if q = 0 then [og_r 0 [og_b 10 1 12]] else if q = 3 then [(some 58, none, [], [(0, 2, 0, 53), (1, 0, 0, (c : Int)), (2, 0, 9, 0), (3, 0, 10, 0), (4, 0, 0, 0)], [], [og_b 10 1 12])] else [og_r (-12) [og_b 10 1 12]])
def zd_all (p : Nat → Nat → Bool) : Bool := (List.range 6).all fun c => (List.range 4).all fun q => p c q
theorem zd_all_ok {p : Nat → Nat → Bool} (h : zd_all p = true) (hc : c < 6) (hq : q < 4) : p c q = true := List.all_eq_true.mp (List.all_eq_true.mp h c (List.mem_range.mpr hc)) q (List.mem_range.mpr hq)
theorem zd_cx : zd_all (fun c q => gs_chk (fun pc => Nat.beq pc 62) (fun o => (zd_Tx c q).any (og_chk (zd_tx c q) o)) 300 300 5 18 0 (zd_l 8 c) [] (zd_tx c q)) = true := by decide +kernel
theorem zd_cm : zd_all (fun c q => gs_chk (fun pc => Nat.beq pc 58) (fun o => (zd_Tm c q).any (og_chk (zd_tm c q) o)) 300 300 4 158 0 (zd_l 53 c) [] (zd_tm c q)) = true := by decide +kernel
theorem zd_nd : zd_all (fun c q => (zd_Tx c q ++ zd_Tm c q).all fun T => mt_nd (T.2.2.2.1.map fun q => q.1)) = true := by decide +kernel
theorem zd_okl {m : Nat} {a : Int} (hc : ∀ c, sx_ok ρ m (2, 0, c)) (hm : 10 < m) (h0 : ρ 0 = 0) (h6 : c < 6) (r9 : ρ 9 = i) (r10 : ρ 10 = n) (hi : sx_w sx_r32 i) (hn : sx_w sx_r32 n) : sx_okl ρ m (zd_l a c) := fun q hq => by
  simp only [zd_l, List.mem_cons, List.not_mem_nil, or_false] at hq
  rcases hq with rfl | rfl | rfl | rfl
  · exact hc _
  · exact sn_k0 (by omega) h0 h6
  · exact tk_ok0 (by omega) (by rw [r9]; exact hi)
  · exact tk_ok0 (by omega) (by rw [r10]; exact hn)
def zd_a (a c : Nat) (i n : Int) : sm_V := [(0, .ref a), (1, .int (Int32.ofInt (c : Int))), (2, .int (Int32.ofInt i)), (3, .int (Int32.ofInt n))]
theorem zd_cl {a : Int} {r : Nat} (ea : a.toNat = r) (h0 : ρ 0 = 0) (r9 : ρ 9 = i) (r10 : ρ 10 = n) : sx_cl1 ρ (zd_l a c) = zd_a r c i n := by
  show [(0, Value.ref a.toNat), (1, sx_cv1 ρ (0, 0, (c : Int))), (2, sx_cv1 ρ (0, 9, 0)), (3, sx_cv1 ρ (0, 10, 0))] = _
  rw [ea, tk_cv h0 (c : Int), og_int r9, og_int r10]
  rfl
def zd_same (M M' : Nat → Nat → Int) : Prop := ∀ a, a < 128 → M' a = M a
/-- what the class does; 62 calls the loop -/
def zd_X (c q : Nat) (i n : Int) (M : Nat → Nat → Int) (z : Int) (M' : Nat → Nat → Int) : Prop := if n < 1 ∨ 12 < n then z = -1 ∧ zd_same M M' else if q = 0 then z = 0 ∧ zd_same M M' else if q = 3 then xd_R c i n M z M' else z = -12 ∧ zd_same M M'
def zd_M (c q : Nat) (i n : Int) (M : Nat → Nat → Int) (z : Int) (M' : Nat → Nat → Int) : Prop := if n < 1 ∨ 12 < n then z = -1 ∧ zd_same M M' else if q = 0 then z = 0 ∧ zd_same M M' else if q = 3 then yd_R c i n M z M' else z = -12 ∧ zd_same M M'
theorem zd_call : ∀ {c : Nat}, c < 6 → sx_call cl_ly (sm_LK (sm_MT 18).1) (fun k => (sm_MT k).2.2.2.1) (.invokevirtual 102) [(0, 10, 0), (0, 9, 0), (2, 0, 41 + 2 * (c : Int)), (2, 0, 8)] = some (22, [(2, 0, 8), (2, 0, 41 + 2 * (c : Int)), (0, 9, 0), (0, 10, 0)], [])
  | 0, _ => rfl
  | 1, _ => rfl
  | 2, _ => rfl
  | 3, _ => rfl
  | 4, _ => rfl
  | 5, _ => rfl
  | _ + 6, h => absurd h (by omega)
theorem zd_f62 : (sm_MT 18).2.2.2.2.2 62 = some (.invokevirtual 102, 3) := rfl
end
