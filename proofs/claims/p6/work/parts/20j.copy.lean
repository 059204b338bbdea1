/-! The reference's parser: the second copying loop. -/
section
variable {L : Nat} {xs : Nat → Int32} {M MM M0 M1 M2 : Nat → Nat → Int} {ρ : Nat → Int} {t : sx_S} {Q : Option Value → (Nat → Nat → Int) → Prop}
theorem wk_m70 (hm : sx_mok cl_ly M) {k : Nat} (hk : k < 122) : sx_w (-32768, 32767) (M 70 k) := hm 70 _ k _ rfl hk rfl
theorem wk_m71 (hm : sx_mok cl_ly M) {k : Nat} (hk : k < 122) : sx_w (-32768, 32767) (M 71 k) := hm 71 _ k _ rfl hk rfl
/-- k lines are copied -/
def rt_K2 (M2 M : Nat → Nat → Int) (k : Nat) : Prop := sx_mok cl_ly M ∧ (∀ a, a < 128 → a ≠ 70 → a ≠ 71 → M a = M2 a) ∧ (∀ i : Nat, 61 ≤ i → M 70 i = M2 70 i ∧ M 71 i = M2 71 i) ∧ ∀ i : Nat, i < k → M 70 i = M2 70 (61 + i) ∧ M 71 i = M2 71 (61 + i)
theorem rt_cp2 (hL : L < 2 ^ 31) (h0 : 0 ≤ M2 69 0 ∧ M2 69 0 ≤ 60) (h69 : 0 ≤ M2 69 1 ∧ M2 69 1 ≤ 61) (hex : ∀ M M', rt_K2 M2 M (M2 69 0).toNat → sx_mok cl_ly M' → (∀ a, a < 128 → M' a = M a) → Q (some (.int (Int32.ofInt (-1)))) M') : ∀ (m k : Nat) (M : Nat → Nat → Int), rt_K2 M2 M k → (k : Int) ≤ M2 69 0 → (M2 69 0).toNat - k = m → rz_fin Q L xs 174 47 177 (rt_v k) [] M := by
  have step : ∀ (k : Nat) (M : Nat → Nat → Int), rt_K2 M2 M k → (k : Int) ≤ M2 69 0 → (∀ M', rt_K2 M2 M' (k + 1) → (k : Int) < M2 69 0 → rz_fin Q L xs 174 47 177 (rt_v ((k + 1 : Nat) : Int)) [] M') → rz_fin Q L xs 174 47 177 (rt_v k) [] M := by
    intro k M hK hk next
    obtain ⟨hm, q1, q2, q3⟩ := hK
    have e69 := q1 69 (by decide) (by decide) (by decide)
    have kk : ((k : Int) + 61).toNat = 61 + k := by omega
    have r64 : ∀ {x : Int}, -2147483648 ≤ x → x ≤ 2147483647 → sx_w sx_r64 x := fun h1 h2 => by rw [sx_r64_iff]; omega
    have w7 := wk_m70 hm (k := 61 + k) (by omega)
    have w8 := wk_m71 hm (k := 61 + k) (by omega)
    have w71 : (-32768 : Int) ≤ M 70 (61 + k) := w7.1
    have w72 : M 70 (61 + k) ≤ (32767 : Int) := w7.2
    have w81 : (-32768 : Int) ≤ M 71 (61 + k) := w8.1
    have w82 : M 71 (61 + k) ≤ (32767 : Int) := w8.2
    have g0 : 0 ≤ M 69 0 ∧ M 69 0 ≤ 61 := by rw [e69]; omega
    have g69 : 0 ≤ M 69 1 ∧ M 69 1 ≤ 61 := by rw [e69]; exact h69
    obtain ⟨ρ, s, r9, r10, r11, r12, r13⟩ := rt_kt_sat (xs := xs) (k := k) (hi := 61) (o := 61) (g1 := (69, 0, 0, 61)) (g2 := (69, 1, 0, 61)) (a1 := 70) (r1 := (-32768, 32767)) (a2 := 71) (r2 := (-32768, 32767)) hL hm (by omega) (by decide) ⟨Nat.le_of_ble_eq_true rfl, g0, r64 (x := M 69 0) (by omega) (by omega)⟩ ⟨Nat.le_of_ble_eq_true rfl, g69, r64 (x := M 69 1) (by omega) (by omega)⟩ (by decide) (by decide) (by decide) (by rw [kk]; exact w7) (by rw [kk]; exact r64 (by omega) (by omega)) (by rw [kk]; exact w8) (by rw [kk]; exact r64 (by omega) (by omega))
    rw [kk] at r12 r13
    have r10 : ρ 10 = M2 69 0 := by rw [r10, ← e69]
    have w9 : sx_w sx_r32 (ρ 9) := by rw [r9, sx_r32_iff]; omega
    obtain ⟨okl, oks⟩ := rt_okl3 (n := rt_k2t.1) s (show 9 < 14 by decide) (sx_ck2 s _) w9
    obtain ⟨o, ρ', M3, rec, x1, x2, x3, x4⟩ := gs_use rt_kc2 s okl oks
    obtain ⟨el, es⟩ := rt_el s.2.1 r9
    rw [el, es] at x4
    have y : ∀ j, j < 14 → ρ' j = ρ j := fun j hj => x1 j hj
    have z : ∀ (j : Nat), j < 14 → sx_val ρ' (j, 0) = ρ j := fun j hj => by
      unfold sx_val
      rw [y j hj]
      exact Int.add_zero _
    refine rz_il rt_f177 rfl ?_
    unfold rt_k2 at rec
    split at rec
    · cases rec
    · rename_i v eo
      rcases x4 with ⟨r, w1, w2, F, w3⟩ | ⟨w1, -⟩
      · rw [eo] at w1
        cases w1
        obtain ⟨k1, k2⟩ := sx_an_iff.mp rec
        obtain ⟨k1, k3⟩ := sx_an_iff.mp k1
        obtain ⟨k2, k4⟩ := sx_an_iff.mp k2
        have k4 := of_decide_eq_false (rt_kl_ok x3 k4)
        rw [y 9 (by decide), y 10 (by decide), r9, r10] at k4
        obtain ⟨-, -, n, m⟩ := lw_ok s x1 x3 k2
        refine ⟨F, _, M3, w3, ?_⟩
        show Q (some (sx_cv1 ρ' v)) M3
        have zm : sx_val ρ' v.2 = -1 := by
          rw [sx_ae_iff.mp k3]
          exact sx_v0 x3 (-1)
        rw [sx_cvk0 (sx_nbeq.mp k1), zm]
        refine hex M M3 ?_ x3.2.2.2.2.2.1 (fun a ha => ?_)
        · rw [show (M2 69 0).toNat = k by omega]
          exact ⟨hm, q1, q2, q3⟩
        · by_cases h53 : a = 53
          · subst h53
            funext i
            exact n i (fun q hq => by cases hq)
          · exact m a ha (fun h => by cases h) h53
      · rw [eo] at w1; cases w1
    · rename_i eo
      have ok' : sx_okl ρ' o.2.2.2.2.1 o.2.2.1 := by
        rcases x4 with ⟨r, w1, -⟩ | ⟨-, -, w3, -⟩
        · rw [w1] at eo; cases eo
        · exact w3
      obtain ⟨k0, rec⟩ := sx_an_iff.mp rec
      obtain ⟨k0, k9⟩ := sx_an_iff.mp k0
      have hst : sx_cs1 ρ' o.2.2.2.1 = [] := by rw [List.eq_nil_of_length_eq_zero (sx_nbeq.mp k0)]; rfl
      obtain ⟨k1, k2⟩ := sx_an_iff.mp rec
      obtain ⟨k2, k3⟩ := sx_an_iff.mp k2
      obtain ⟨k2, k4⟩ := sx_an_iff.mp k2
      obtain ⟨k3, k5⟩ := sx_an_iff.mp k3
      have k4 := of_decide_eq_true (rt_kl_ok x3 k4)
      rw [y 9 (by decide), y 10 (by decide), r9, r10] at k4
      obtain ⟨-, -, n, m⟩ := lw_ok s x1 x3 k2
      have z61 : sx_val ρ' (9, 61) = k + 61 := by
        unfold sx_val
        rw [y 9 (by decide), r9]
      obtain ⟨u1, u2⟩ := lw_two_ok (by decide) x3 k3 (by rw [z 9 (by decide), r9]; omega) (by rw [z61, kk, z 12 (by decide), r12])
      obtain ⟨u3, u4⟩ := lw_two_ok (by decide) x3 k5 (by rw [z 9 (by decide), r9]; omega) (by rw [z61, kk, z 13 (by decide), r13])
      rw [z 9 (by decide), r9, z 12 (by decide), r12, Int.toNat_natCast] at u1
      rw [z 9 (by decide), r9, z 13 (by decide), r13, Int.toNat_natCast] at u3
      rw [z 9 (by decide), r9] at u2 u4
      have hle := pc_lk4_ok x3.2.1 ok' k1
      have zz : sx_val ρ' (9, 1) = ((k + 1 : Nat) : Int) := by
        unfold sx_val
        rw [y 9 (by decide), r9]
        rfl
      rw [zz] at hle
      refine rz_cont eo (sx_nbeq.mp k9) hle hst x4 (next M3 ⟨x3.2.2.2.2.2.1, fun a ha h7 h8 => ?_, fun i hi => ?_, fun i hi => ?_⟩ (by omega))
      · rw [← q1 a ha h7 h8]
        by_cases h53 : a = 53
        · subst h53
          funext i
          exact n i (fun q hq => by cases hq)
        · exact m a ha (by simp only [List.mem_cons, List.not_mem_nil, or_false]; omega) h53
      · rw [u2 i (by omega), u4 i (by omega)]
        exact q2 i hi
      · by_cases hik : i = k
        · subst hik
          rw [u1, u3]
          exact q2 _ (by omega)
        · rw [u2 i (by omega), u4 i (by omega)]
          exact q3 i (by omega)
  intro m
  induction m with
  | zero =>
    intro k M hK hk hm
    exact step k M hK hk (fun M' hK' h => by omega)
  | succ m ih =>
    intro k M hK hk hm
    exact step k M hK hk (fun M' hK' h => ih (k + 1) M' hK' (by omega) (by omega))
end
