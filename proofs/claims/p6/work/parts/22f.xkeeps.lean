/-! Changes of the class: what holds of them stays. -/
section
variable {L : Nat} {xs : Nat → Int32} {M M' MM M0 M1 M2 N : Nat → Nat → Int} {ρ ρ' : Nat → Int} {n w v b : Int}
def xJ (f : Nat → Int) : Prop := ∀ q, q < 40 → jp (f (4 * q)) (f (4 * q + 1)) (f (4 * q + 2)) (f (4 * q + 3))
theorem xJ_pt {f : Nat → Int} {q0 : Nat} (h : xJ f) (hn : jp w n b v) : xJ (cx_pt f q0 w n b v) := by
  intro q hq
  by_cases e : q = q0
  · subst e
    have e0 : cx_pt f q w n b v (4 * q) = w := by unfold cx_pt; rw [if_neg (by omega), if_neg (by omega), if_neg (by omega), if_pos rfl]
    have e1 : cx_pt f q w n b v (4 * q + 1) = n := by unfold cx_pt; rw [if_neg (by omega), if_neg (by omega), if_pos rfl]
    have e2 : cx_pt f q w n b v (4 * q + 2) = b := by unfold cx_pt; rw [if_neg (by omega), if_pos rfl]
    have e3 : cx_pt f q w n b v (4 * q + 3) = v := by unfold cx_pt; rw [if_pos rfl]
    rw [e0, e1, e2, e3]
    exact hn
  · have ee : ∀ k, k < 4 → cx_pt f q0 w n b v (4 * q + k) = f (4 * q + k) := fun k hk => by
      unfold cx_pt
      rw [if_neg (by omega), if_neg (by omega), if_neg (by omega), if_neg (by omega)]
    have e0 := ee 0 (by decide)
    rw [Nat.add_zero] at e0
    rw [e0, ee 1 (by decide), ee 2 (by decide), ee 3 (by decide)]
    exact h q hq
theorem xJ_sh {f : Nat → Int} (h : xJ f) : xJ (cx_sh f) := by
  intro q hq
  by_cases e : q = 39
  · subst e
    have ee : ∀ k, cx_sh f (4 * 39 + k) = f (4 * 39 + k) := fun k => by
      unfold cx_sh
      rw [if_neg (by omega)]
    have e0 := ee 0
    rw [Nat.add_zero] at e0
    rw [e0, ee 1, ee 2, ee 3]
    exact h 39 hq
  · have ee : ∀ k, k < 4 → cx_sh f (4 * q + k) = f (4 * (q + 1) + k) := fun k hk => by
      unfold cx_sh
      rw [if_pos (by omega), show 4 * q + k + 4 = 4 * (q + 1) + k by omega]
    have e0 := ee 0 (by decide)
    rw [Nat.add_zero, Nat.add_zero] at e0
    rw [e0, ee 1 (by decide), ee 2 (by decide), ee 3 (by decide)]
    exact h (q + 1) (by omega)
def mJ (M : Nat → Nat → Int) : Prop := ∀ q, q < 40 → jp (M 62 q) (M 63 q) (M 64 q) (M 65 q)
theorem JJ_iff : JJ M ↔ xJ (M 33) ∧ mJ M ∧ M 32 1 ≤ M 32 2 ∧ M 53 14 + M 53 15 ≤ 40 := Iff.rfl
theorem mJ_on (h : mJ M) (e : ∀ a, 62 ≤ a → a ≤ 65 → M' a = M a) : mJ M' := fun q hq => by
  rw [e 62 (by decide) (by decide), e 63 (by decide) (by decide), e 64 (by decide) (by decide), e 65 (by decide) (by decide)]
  exact h q hq
theorem cv_i32 {lo hi : Int} {a : Value} (h : ct_v (0, lo, hi) a) : ∃ z, a = .int (Int32.ofInt z) ∧ (lo ≤ z ∧ z ≤ hi) ∧ sx_w sx_r32 z := by
  rcases h with ⟨-, z, e, h1, h2⟩ | ⟨k, -⟩ | ⟨k, -⟩
  · exact ⟨z, e, h1, h2⟩
  · cases k
  · cases k
theorem cv_ref {c hi : Int} {a : Value} (h : ct_v (2, c, hi) a) : a = .ref c.toNat := by
  rcases h with ⟨k, -⟩ | ⟨k, -⟩ | ⟨-, e⟩
  · cases k
  · cases k
  · exact e
theorem cv_cons {q : ct_Q} {qs : List ct_Q} {as : List Value} (h : ct_vs (q :: qs) as) : ∃ a r, as = a :: r ∧ ct_v q a ∧ ct_vs qs r := by
  cases as with
  | nil => cases h
  | cons a r => exact ⟨a, r, rfl, h.1, h.2⟩
theorem cv_nil {as : List Value} (h : ct_vs [] as) : as = [] := by
  cases as with
  | nil => rfl
  | cons a r => cases h
def kx_mend : ct_C := ([(2, .ofNat 8, .ofNat 8), (0, sx_r32), (0, sx_r32), (0, sx_r32)], [(10, 210, .ofNat 0, .ofNat 29)], [(10, 210, .ofNat 0, .ofNat 29), (32, 1, .ofNat 0, .ofNat 40), (32, 2, .ofNat 0, .ofNat 40)], [10, 33], some (0, sx_r32), 2, false)
def kx_undo : ct_C := ([(2, .ofNat 8, .ofNat 8)], [(10, 210, .ofNat 0, .ofNat 29)], [(10, 210, .ofNat 0, .ofNat 29), (32, 1, .ofNat 0, .ofNat 40)], [10], some (0, .negSucc 4, .ofNat 39), 3, false)
theorem kx_pre {c : ct_C} (h : ct_g c.2.1 M) (e : c.2.1 = [(10, 210, .ofNat 0, .ofNat 29)]) : 0 ≤ M 10 210 ∧ M 10 210 ≤ 29 := h (10, 210, .ofNat 0, .ofNat 29) (by rw [e]; exact List.mem_cons_self)
/-- a new change is as it must be -/
theorem cx_new (hm : sx_mok cl_ly M) (h210 : 0 ≤ M 10 210 ∧ M 10 210 ≤ 29) (h1 : cm_pl (M 9 4) (M 9 5) w n) (h2 : cm_rg w v) : jp w n (M 10 (30 * w + n).toNat) v := by
  obtain ⟨b1, b2, b3, b4⟩ := cm_bd hm h1
  have hb := cx_m10 hm (k := (30 * w + n).toNat) (by omega)
  have hH := cx_fld (c := 9) (k := 4) (lo := 0) (hi := 6) hm (by decide +kernel)
  have hC := cx_fld (c := 9) (k := 5) (lo := 0) (hi := 12) hm (by decide +kernel)
  have h7 : w = 7 → 0 ≤ M 10 (30 * w + n).toNat ∧ M 10 (30 * w + n).toNat ≤ 29 := fun e => by
    have : (30 * w + n).toNat = 210 := by unfold cm_pl at h1; omega
    rw [this]; exact h210
  unfold jp
  unfold cm_pl at h1
  unfold cm_rg at h2
  omega
theorem c2_xmend (hL : L < 2 ^ 31) : ci L xs 23 kx_mend := by
  intro d as M hd has hg hm hJ
  have h210 := kx_pre hg rfl
  obtain ⟨a0, as, rfl, v0, has⟩ := cv_cons has
  obtain ⟨a1, as, rfl, v1, has⟩ := cv_cons has
  obtain ⟨a2, as, rfl, v2, has⟩ := cv_cons has
  obtain ⟨a3, as, rfl, v3, has⟩ := cv_cons has
  have ea := cv_nil has
  subst ea
  have e0 := cv_ref v0
  obtain ⟨n, e1, -, hn⟩ := cv_i32 v1
  obtain ⟨w, e2, -, hw⟩ := cv_i32 v2
  obtain ⟨v, e3, -, hv⟩ := cv_i32 v3
  subst e0 e1 e2 e3
  obtain ⟨F, r, M', e, hm', hR⟩ := cx_mend (xs := xs) hL hm hn hw hv
  have hd : 2 ≤ d := hd
  obtain ⟨j1, j2, j3, j4⟩ := JJ_iff.mp hJ
  have g32 := cx_fld (c := 32) (k := 1) (lo := 0) (hi := 40) hm' (by decide +kernel)
  have g32' := jr_kn hm'
  have main : (0 ≤ M' 10 210 ∧ M' 10 210 ≤ 29) ∧ JJ M' ∧ (∀ a i, a < 128 → a ≠ 10 → a ≠ 33 → (a = 32 → i ≠ 1 ∧ i ≠ 2) → M' a i = M a i) ∧ ∃ z, r = some (.int (Int32.ofInt z)) ∧ sx_w sx_r32 z := by
    rcases hR with ⟨-, h2, h3⟩ | ⟨h1, h2, h3, ⟨h4, h5⟩ | ⟨h4, M1, ⟨a1, a2, a3, a4, a5⟩, r1, r2⟩⟩
    · have k10 := h3 10 (by decide)
      have k32 := h3 32 (by decide)
      have k33 := h3 33 (by decide)
      have k53 := h3 53 (by decide)
      refine ⟨by rw [k10]; exact h210, JJ_iff.mpr ⟨by rw [k33]; exact j1, mJ_on j2 (fun a x y => h3 a (by omega)), by rw [k32]; exact j3, by rw [k53]; exact j4⟩, fun a i ha _ _ _ => by rw [h3 a ha], _, h2, by rw [sx_r32_iff]; omega⟩
    · have k10 := h5 10 (by decide)
      have k32 := h5 32 (by decide)
      have k33 := h5 33 (by decide)
      have k53 := h5 53 (by decide)
      obtain ⟨b1, b2, b3, b4⟩ := cm_bd hm h1
      have hb := cx_m10 hm (k := (30 * w + n).toNat) (by omega)
      refine ⟨by rw [k10]; exact h210, JJ_iff.mpr ⟨by rw [k33]; exact j1, mJ_on j2 (fun a x y => h5 a (by omega)), by rw [k32]; exact j3, by rw [k53]; exact j4⟩, fun a i ha _ _ _ => by rw [h5 a ha], _, h3, by rw [sx_r32_iff]; omega⟩
    · obtain ⟨b1, b2, b3, b4⟩ := cm_bd hm h1
      have hb := cx_m10 hm (k := (30 * w + n).toNat) (by omega)
      have hnew := cx_new hm h210 h1 h2
      have k33 : M' 33 = M1 33 := by
        rw [r2 33 (by decide)]
        rfl
      have k32 : M' 32 = M1 32 := by
        rw [r2 32 (by decide)]
        rfl
      have k53 : M' 53 = M 53 := by
        rw [r2 53 (by decide)]
        exact a2 53 (by decide) (by decide) (by decide)
      have k10 : M' 10 210 = (if 210 = (30 * w + n).toNat then v else M 10 210) := by
        rw [r2 10 (by decide), ← a2 10 (by decide) (by decide) (by decide)]
        rfl
      refine ⟨?_, JJ_iff.mpr ⟨?_, mJ_on j2 (fun a x y => ?_), ?_, by rw [k53]; exact j4⟩, fun a i ha h10 h33 h32 => ?_, _, h3, by rw [sx_r32_iff]; omega⟩
      · rw [k10]
        by_cases e : 210 = (30 * w + n).toNat
        · rw [if_pos e]
          unfold cm_pl at h1
          unfold cm_rg at h2
          omega
        · rw [if_neg e]; exact h210
      · rw [k33]
        rcases a5 with ⟨c1, c2, c3⟩ | ⟨c1, c2, c3⟩
        · rw [c3]; exact xJ_pt j1 hnew
        · rw [c3]; exact xJ_pt (xJ_sh j1) hnew
      · rw [r2 a (by omega)]
        show (fun i => sx_up M1 10 (30 * w + n).toNat v a i) = M a
        funext i
        unfold sx_up
        rw [if_neg (by omega), a2 a (by omega) (by omega) (by omega)]
      · rw [k32]; omega
      · rw [r2 a ha]
        unfold sx_up
        rw [if_neg h10]
        by_cases e32 : a = 32
        · have := h32 e32
          subst e32
          exact a3 i this.1 this.2
        · rw [a2 a ha e32 h33]
  obtain ⟨m1, m2, m3, z, m4, m5⟩ := main
  refine ⟨F, r, M', mt_d e hd, hm', fun a i ha hmod hp => m3 a i ha (fun h => hmod (by rw [h]; simp [kx_mend])) (fun h => hmod (by rw [h]; simp [kx_mend])) (fun h => ⟨fun h9 => ?_, fun h9 => ?_⟩), fun g hg => ?_, ?_, m2⟩
  · exact hp (32, 1, .ofNat 0, .ofNat 40) (by simp [kx_mend]) h.symm h9.symm
  · exact hp (32, 2, .ofNat 0, .ofNat 40) (by simp [kx_mend]) h.symm h9.symm
  · simp only [kx_mend, List.mem_cons, List.not_mem_nil, or_false] at hg
    rcases hg with rfl | rfl | rfl
    · exact m1
    · exact g32
    · exact g32'
  · rw [m4]
    exact Or.inl ⟨rfl, z, rfl, m5, m5⟩
/-- a number is laid, done is set: what holds of the changes stays -/
theorem cx_SJ {d p v : Int} (hJ : JJ M) (hS : cx_S d p v M M') (hd : d ≤ M 32 2) : JJ M' := by
  obtain ⟨j1, j2, j3, j4⟩ := JJ_iff.mp hJ
  obtain ⟨a1, a2, a3, a4, a5⟩ := hS
  refine JJ_iff.mpr ⟨by rw [a2 33 (by decide) (by decide) (by decide)]; exact j1, mJ_on j2 (fun a x y => a2 a (by omega) (by omega) (by omega)), by rw [a4, a3 2 (by decide)]; exact hd, by rw [a2 53 (by decide) (by decide) (by decide)]; exact j4⟩
theorem cx_S10 {d v : Int} {q : Nat} (hS : cx_S d (cx_p M q) v M M') (hJ : cx_J M q) (hv : v = M 33 (4 * q + 2) ∨ v = M 33 (4 * q + 3)) (h210 : 0 ≤ M 10 210 ∧ M 10 210 ≤ 29) : 0 ≤ M' 10 210 ∧ M' 10 210 ≤ 29 := by
  obtain ⟨a1, a2, a3, a4, a5⟩ := hS
  rw [a5]
  show 0 ≤ (if 210 = (cx_p M q).toNat then v else M 10 210) ∧ (if 210 = (cx_p M q).toNat then v else M 10 210) ≤ 29
  by_cases e : 210 = (cx_p M q).toNat
  · rw [if_pos e]
    unfold cx_J jp at hJ
    unfold cx_p at e
    omega
  · rw [if_neg e]; exact h210
/-- undo() or redo(): out of what they do -/
theorem cx_ud {d p v z : Int} {r : Option Value} (hm' : sx_mok cl_ly M') (hJ : JJ M) (h210 : 0 ≤ M 10 210 ∧ M 10 210 ≤ 29) (h : (r = some (.int (Int32.ofInt (-5))) ∧ ∀ a, a < 128 → M' a = M a) ∨ (r = some (.int (Int32.ofInt z)) ∧ (0 ≤ z ∧ z ≤ 39) ∧ cx_S d p v M M' ∧ d ≤ M 32 2 ∧ 0 ≤ M' 10 210 ∧ M' 10 210 ≤ 29)) : ct_fr kx_undo M M' ∧ ct_g kx_undo.2.2.1 M' ∧ ct_r kx_undo.2.2.2.2.1 r ∧ JJ M' := by
  have g32 := cx_fld (c := 32) (k := 1) (lo := 0) (hi := 40) hm' (by decide +kernel)
  have post : (0 ≤ M' 10 210 ∧ M' 10 210 ≤ 29) → ct_g kx_undo.2.2.1 M' := fun h9 g hg => by
    simp only [kx_undo, List.mem_cons, List.not_mem_nil, or_false] at hg
    rcases hg with rfl | rfl
    · exact h9
    · exact g32
  rcases h with ⟨rfl, h3⟩ | ⟨rfl, h1, hS, h2, h3⟩
  · have k10 := h3 10 (by decide)
    have k32 := h3 32 (by decide)
    have k33 := h3 33 (by decide)
    have k53 := h3 53 (by decide)
    obtain ⟨j1, j2, j3, j4⟩ := JJ_iff.mp hJ
    exact ⟨fun a i ha _ _ => by rw [h3 a ha], post (by rw [k10]; exact h210), Or.inl ⟨rfl, -5, rfl, ⟨by decide, by decide⟩, by rw [sx_r32_iff]; omega⟩, JJ_iff.mpr ⟨by rw [k33]; exact j1, mJ_on j2 (fun a x y => h3 a (by omega)), by rw [k32]; exact j3, by rw [k53]; exact j4⟩⟩
  · refine ⟨fun a i ha hmod hp => ?_, post h3, Or.inl ⟨rfl, z, rfl, ⟨by show (-5 : Int) ≤ z; omega, h1.2⟩, by rw [sx_r32_iff]; omega⟩, cx_SJ hJ hS h2⟩
    have h10 : a ≠ 10 := fun h => hmod (by rw [h]; simp [kx_undo])
    by_cases e : a = 32
    · subst e
      exact hS.2.2.1 i (fun h => hp (32, 1, .ofNat 0, .ofNat 40) (by simp [kx_undo]) rfl h.symm)
    · rw [hS.2.1 a ha e h10]
theorem c2_xundo (hL : L < 2 ^ 31) : ci L xs 121 kx_undo := by
  intro d as M hd has hg hm hJ
  have h210 := kx_pre hg rfl
  have hd : 3 ≤ d := hd
  obtain ⟨a0, as, rfl, v0, has⟩ := cv_cons has
  have ea := cv_nil has
  subst ea
  have e0 := cv_ref v0
  subst e0
  have hJ1 : ∀ q, q < 40 → cx_J M q := hJ.1
  have hdn := cx_fld (c := 32) (k := 1) (lo := 0) (hi := 40) hm (by decide +kernel)
  obtain ⟨F, r, M', e, hm', hR⟩ := cx_undo (xs := xs) hL hm hJ1
  obtain ⟨f1, f2, f3, f4⟩ := cx_ud (r := r) (z := M 32 1 - 1) (d := M 32 1 - 1) (p := cx_p M (M 32 1 - 1).toNat) (v := M 33 (4 * (M 32 1 - 1).toNat + 2)) hm' hJ h210 (by
    rcases hR with ⟨-, h2, h3⟩ | ⟨h1, h2, h3⟩
    · exact Or.inl ⟨h2, h3⟩
    · exact Or.inr ⟨h2, by omega, h3, by have := hJ.2.2.1; omega, cx_S10 h3 (hJ1 _ (by omega)) (Or.inl rfl) h210⟩)
  exact ⟨F, r, M', mt_d e hd, hm', f1, f2, f3, f4⟩
theorem c2_xredo (hL : L < 2 ^ 31) : ci L xs 123 kx_undo := by
  intro d as M hd has hg hm hJ
  have h210 := kx_pre hg rfl
  have hd : 3 ≤ d := hd
  obtain ⟨a0, as, rfl, v0, has⟩ := cv_cons has
  have ea := cv_nil has
  subst ea
  have e0 := cv_ref v0
  subst e0
  have hJ1 : ∀ q, q < 40 → cx_J M q := hJ.1
  have hdn := cx_fld (c := 32) (k := 1) (lo := 0) (hi := 40) hm (by decide +kernel)
  have hk := jr_kn hm
  obtain ⟨F, r, M', e, hm', hR⟩ := cx_redo (xs := xs) hL hm hJ.2.2.1 hJ1
  obtain ⟨f1, f2, f3, f4⟩ := cx_ud (r := r) (z := M 32 2 - M 32 1 - 1) (d := M 32 1 + 1) (p := cx_p M (M 32 1).toNat) (v := M 33 (4 * (M 32 1).toNat + 3)) hm' hJ h210 (by
    rcases hR with ⟨-, h2, h3⟩ | ⟨h1, h2, h3⟩
    · exact Or.inl ⟨h2, h3⟩
    · exact Or.inr ⟨h2, by omega, h3, by omega, cx_S10 h3 (hJ1 _ (by omega)) (Or.inr rfl) h210⟩)
  exact ⟨F, r, M', mt_d e hd, hm', f1, f2, f3, f4⟩
end
