/-! cards: the pair. -/
section
variable {WF : (Nat → Nat → Int) → Prop} {L : Nat} {xs : Nat → Int32} {M M' M0 M1 M2 N : Nat → Nat → Int} {ρ ρ' : Nat → Int} {s i n z : Int} {c k q : Nat}
-- no shelf
def zo_g (r : Int × Int) : List ct_Q := [(0, r), (0, sx_r32), (0, sx_r32)]
noncomputable def zo_t (r : Int × Int) : sx_S := og_t (zo_g r) []
def zo_R : List (Int × Int) := [(og_mn, -1), (6, og_mx)]
theorem zo_cx : (zo_R.all fun r => gs_chk (fun _ => false) (fun o => [og_r (-1) []].any (og_chk (zo_t r) o)) 300 300 3 18 0 (ol_3 8) [] (zo_t r)) = true := by decide +kernel
theorem zo_cm : (zo_R.all fun r => gs_chk (fun _ => false) (fun o => [og_r (-1) []].any (og_chk (zo_t r) o)) 300 300 3 158 0 (ol_3 53) [] (zo_t r)) = true := by decide +kernel
theorem zo_o {j a : Nat} {p : Int} {r : Int × Int} (ea : p.toNat = a) (hchk : gs_chk (fun _ => false) (fun o => [og_r (-1) []].any (og_chk (zo_t r) o)) 300 300 3 j 0 (ol_3 p) [] (zo_t r) = true) (hL : L < 2 ^ 31) (hm : sx_mok cl_ly M) (hr : sx_w r s) (hs : sx_w sx_r32 s) (hi : sx_w sx_r32 i) (hn : sx_w sx_r32 n) : rz_fin (sh_Q (fun z M' => z = -1 ∧ zd_same M M')) L xs j 3 0 (sh_a4 a s i n) [] M := by
  obtain ⟨ρ, st, e1, e2, -⟩ := og_sat (xs := xs) (gs := zo_g r) (zs := [s, i, n]) (fs := []) hL hm ⟨og_z rfl hr.1 hr.2 hs, og_z rfl hi.1 hi.2 hi, og_z rfl hn.1 hn.2 hn, trivial⟩ (fun g hg => by cases hg)
  have n12 : (zo_t r).1 = 12 := e1
  obtain ⟨okl, el⟩ := sh_l4 (m := (zo_t r).1) (a := a) (c := p) (fun c => sx_ck2 st c) (by rw [n12]; decide) ea (e2 0 _ rfl) (e2 1 _ rfl) (e2 2 _ rfl) hs hi hn
  refine og_use (Ts := [og_r (-1) []]) (lv := ol_3 p) (s := []) hchk rfl st okl (fun v hv => by cases hv) (Nat.le_refl _) el rfl (fun T hT ρ' M' x h0 hm' hc hM => ?_)
  rw [List.mem_singleton.mp hT] at hM ⊢
  exact ⟨-1, congrArg some (tk_cv h0 (-1)), hm', rfl, hM⟩
/-- how a shelf stands -/
theorem zd_kd (hS : sh_S M c) : ∃ q, q < 4 ∧ sx_w (zd_x2 q) (M (41 + 2 * c) 2) ∧ sx_w (zd_x3 q) (M (41 + 2 * c) 3) ∧ sx_w (zd_m q) (M 87 c) ∧ (q = 3 → M 87 c ≤ -2) := by
  unfold sh_S at hS
  rcases hS with ⟨a, b, d⟩ | ⟨a, b, d, f⟩ | ⟨a, b, d, f, -⟩
  · refine ⟨0, by decide, ?_⟩
    rw [a, b, d]
    exact ⟨⟨by decide, by decide⟩, ⟨by decide, by decide⟩, ⟨by decide, by decide⟩, fun h => by omega⟩
  · refine ⟨1, by decide, ?_⟩
    rw [d, f]
    exact ⟨⟨by decide, by decide⟩, ⟨a, b⟩, ⟨a, b⟩, fun h => by omega⟩
  · by_cases e : M 87 c = -2
    · refine ⟨3, by decide, ?_⟩
      rw [d, f, e]
      exact ⟨⟨by decide, by decide⟩, ⟨by decide, by decide⟩, ⟨by decide, by decide⟩, fun _ => by decide⟩
    · refine ⟨2, by decide, ?_⟩
      rw [d, f]
      refine ⟨⟨?_, ?_⟩, ⟨by decide, by decide⟩, ⟨a, ?_⟩, fun h => by omega⟩
      · show 1 ≤ -2 - M 87 c; omega
      · show -2 - M 87 c ≤ 4; omega
      · show M 87 c ≤ -3; omega
/-- both sides go on alike -/
theorem cd_cond (h6 : c < 6) (hi : 0 ≤ i) (hS : sh_S M c) (h2 : M 87 c ≤ -2) (e1 : M 9 4 = M 53 1) (e2 : M 9 5 = M 53 8) (e : M1 88 = M 88 ∧ M1 89 = M 89 ∧ M1 53 = M 53) (k : Nat) : xd_cond c i n M k ↔ yd_cond c i n M1 k := by
  obtain ⟨p1, p2, p3, p4⟩ := so_row hS h2
  unfold xd_cond yd_cond
  rw [e.1, e.2.1, e.2.2, p3, e1, e2]
  have key : i + 2 * (k : Int) + 1 < M 88 c → xd_o (M (42 + 2 * c)) (i.toNat + 2 * k) = xd_o (M 89) (60 * c + (i + 2 * (k : Int)).toNat) ∧ xd_o (M (42 + 2 * c)) (i.toNat + 2 * k + 1) = xd_o (M 89) (60 * c + (i + 2 * (k : Int)).toNat + 1) := fun h => by
    unfold xd_o
    rw [p4 _ (by omega), p4 _ (by omega), show (i + 2 * (k : Int)).toNat = i.toNat + 2 * k by omega, show 60 * c + (i.toNat + 2 * k + 1) = 60 * c + (i.toNat + 2 * k) + 1 by omega]
    exact ⟨rfl, rfl⟩
  constructor
  · rintro ⟨a, -, b, d⟩
    rw [(key b).1, (key b).2] at d
    exact ⟨a, by omega, b, d⟩
  · rintro ⟨a, -, b, d⟩
    rw [← (key b).1, ← (key b).2] at d
    exact ⟨a, hi, b, d⟩
end
