/-! The reference's parser: the copying loops. -/
section
variable {L : Nat} {xs : Nat → Int32} {M MM M0 M1 M2 : Nat → Nat → Int} {ρ : Nat → Int} {t : sx_S} {Q : Option Value → (Nat → Nat → Int) → Prop}
theorem rz_ilS {lk : Nat → Option sm_L} {RO : List (Nat × (Nat → Int32))} {NV : Nat → List Value} {cq nL d pc : Nat} {ini : Bool} {lv : sm_V} {h : sm_H} {x : Int32} (hl : sm_ld lv 2 = some (.int x)) : sm_step lk RO NV cq ini nL d (.iload_n 2) pc lv [] h = some (pc + 1, lv, [.int x], h) := by
  dsimp only [sm_step]
  show (match sm_ld lv 2 with
    | some (Value.int x) => some (pc + 1, lv, [Value.int x], h)
    | x => none) = _
  rw [hl]
theorem rz_ilR (k : Nat) (s : List Value) : sm_ret k (.iload_n 2) s = none := rfl
theorem rz_ilC (lk : Nat → Option sm_L) (MA : Nat → Nat) (s : List Value) (h : sm_H) : sm_call lk MA (.iload_n 2) s h = none := rfl
theorem rz_ilL : 1 = sm_len (.iload_n 2) 1 := rfl
set_option maxHeartbeats 40000 in
theorem rz_il1 {j d pc F : Nat} {lv : sm_V} {x : Int32} {r : Option Value} {M' : Nat → Nat → Int} (hf : (sm_MT j).2.2.2.2.2 pc = some (.iload_n 2, 1)) (hl : sm_ld lv 2 = some (.int x)) (e : sm_run sm_MT sm_LK (sm_RO L xs) sm_NV sm_cq F d j (pc + 1) lv [.int x] (sx_HH cl_lay cl_rf M) = some (r, sx_HH cl_lay cl_rf M')) : sm_run sm_MT sm_LK (sm_RO L xs) sm_NV sm_cq (F + 1) d j pc lv [] (sx_HH cl_lay cl_rf M) = some (r, sx_HH cl_lay cl_rf M') := by
  have k1 := gs_st (L := L) (xs := xs) (j := j) (d := d) (pc := pc) (len := 1) (F := F) (ins := .iload_n 2) (lv := lv) (s := []) (h := sx_HH cl_lay cl_rf M) (o := (pc + 1, lv, [.int x], sx_HH cl_lay cl_rf M)) (res := (r, sx_HH cl_lay cl_rf M'))
  have k2 := k1 hf
  have k3 := k2 rz_ilL
  have k4 := k3 (rz_ilR _ _)
  have k5 := k4 (rz_ilC _ _ _ _)
  have k6 := k5 (rz_ilS hl)
  dsimp only at k6
  exact k6 e
theorem rz_il {j d pc : Nat} {lv : sm_V} {x : Int32} (hf : (sm_MT j).2.2.2.2.2 pc = some (.iload_n 2, 1)) (hl : sm_ld lv 2 = some (.int x)) (k : rz_fin Q L xs j d (pc + 1) lv [.int x] M) : rz_fin Q L xs j d pc lv [] M := by
  obtain ⟨F, r, M', e, e1⟩ := k
  exact ⟨F + 1, r, M', rz_il1 hf hl e, e1⟩
def rt_v (k : Int) : sm_V := [(0, .ref 53), (1, .int (Int32.ofInt 0)), (2, .int (Int32.ofInt k))]
theorem rt_f105 : (sm_MT 174).2.2.2.2.2 105 = some (.iload_n 2, 1) := rfl
theorem rt_f177 : (sm_MT 174).2.2.2.2.2 177 = some (.iload_n 2, 1) := rfl
theorem rt_okl3 {n : Nat} (hs : sx_sat cl_ly (0, -100) xs L MM ρ M t) (hn : 9 < n) (hc : sx_ok ρ n (2, 0, 53)) (h9 : sx_w sx_r32 (ρ 9)) : sx_okl ρ n rt_lv3 ∧ sx_oks ρ n [(0, 9, 0)] := by
  have c9 : sx_ok ρ n (0, 9, 0) := ⟨hn, fun _ => by show sx_w sx_r32 (ρ 9 + 0); rw [Int.add_zero]; exact h9, fun h => by cases h⟩
  refine ⟨fun q hq => ?_, fun v hv => by rw [List.mem_singleton.mp hv]; exact c9⟩
  simp only [rt_lv3, List.mem_cons, List.not_mem_nil, or_false] at hq
  rcases hq with rfl | rfl | rfl
  · exact hc
  · exact ⟨by show 0 < n; omega, fun _ => by
      show sx_w sx_r32 (ρ 0 + 0)
      rw [hs.2.1]
      exact sx_w0, fun h => by cases h⟩
  · exact c9
theorem rt_el {k : Int} (h0 : ρ 0 = 0) (h9 : ρ 9 = k) : sx_cl1 ρ rt_lv3 = rt_v k ∧ sx_cs1 ρ [(0, 9, 0)] = [.int (Int32.ofInt k)] := by
  have z0 : sx_val ρ (0, 0) = 0 := by
    unfold sx_val
    show ρ 0 + 0 = 0
    omega
  constructor
  · show [(0, Value.ref 53), (1, sx_cv1 ρ (0, 0, 0)), (2, sx_cv1 ρ (0, 9, 0))] = _
    rw [gv_cv, gv_cv, h0, h9]
    rfl
  · show [sx_cv1 ρ (0, 9, 0)] = _
    rw [gv_cv, h9]
/-- k steps are copied -/
def rt_K1 (M2 M : Nat → Nat → Int) (k : Nat) : Prop := sx_mok cl_ly M ∧ (∀ a, a < 128 → a ≠ 67 → a ≠ 68 → M a = M2 a) ∧ (∀ i : Nat, 130 ≤ i → M 67 i = M2 67 i ∧ M 68 i = M2 68 i) ∧ ∀ i : Nat, i < k → M 67 i = M2 67 (130 + i) ∧ M 68 i = M2 68 (130 + i)
theorem rt_cp1 (hL : L < 2 ^ 31) (h25 : 0 ≤ M2 53 25 ∧ M2 53 25 ≤ 121) (h69 : 0 ≤ M2 69 1 ∧ M2 69 1 ≤ 61) (hex : ∀ M M', rt_K1 M2 M (M2 53 25).toNat → sx_mok cl_ly M' → (∀ a, a < 128 → a ≠ 69 → M' a = M a) → M' 69 0 = M 69 1 → (∀ i : Nat, i ≠ 0 → M' 69 i = M 69 i) → rz_fin Q L xs 174 47 177 (rt_v 0) [] M') : ∀ (m k : Nat) (M : Nat → Nat → Int), rt_K1 M2 M k → (k : Int) ≤ M2 53 25 → (M2 53 25).toNat - k = m → rz_fin Q L xs 174 47 105 (rt_v k) [] M := by
  have step : ∀ (k : Nat) (M : Nat → Nat → Int), rt_K1 M2 M k → (k : Int) ≤ M2 53 25 → (∀ M', rt_K1 M2 M' (k + 1) → (k : Int) < M2 53 25 → rz_fin Q L xs 174 47 105 (rt_v ((k + 1 : Nat) : Int)) [] M') → rz_fin Q L xs 174 47 105 (rt_v k) [] M := by
    intro k M hK hk next
    obtain ⟨hm, q1, q2, q3⟩ := hK
    have e53 := q1 53 (by decide) (by decide) (by decide)
    have e69 := q1 69 (by decide) (by decide) (by decide)
    have kk : ((k : Int) + 130).toNat = 130 + k := by omega
    have r64 : ∀ {x : Int}, -2147483648 ≤ x → x ≤ 2147483647 → sx_w sx_r64 x := fun h1 h2 => by rw [sx_r64_iff]; omega
    have w7 := wk_m67 hm (k := 130 + k) (by omega)
    have w8 := wk_m68 hm (k := 130 + k) (by omega)
    have w8' := sx_r32_iff.mp w8
    have w71 : (-128 : Int) ≤ M 67 (130 + k) := w7.1
    have w72 : M 67 (130 + k) ≤ (127 : Int) := w7.2
    have g25 : 0 ≤ M 53 25 ∧ M 53 25 ≤ 121 := by rw [e53]; exact h25
    have g69 : 0 ≤ M 69 1 ∧ M 69 1 ≤ 61 := by rw [e69]; exact h69
    obtain ⟨ρ, s, r9, r10, r11, r12, r13⟩ := rt_kt_sat (xs := xs) (k := k) (hi := 121) (o := 130) (g1 := (53, 25, 0, 121)) (g2 := (69, 1, 0, 61)) (a1 := 67) (r1 := (-128, 127)) (a2 := 68) (r2 := sx_r32) hL hm (by omega) (by decide) ⟨Nat.le_of_ble_eq_true rfl, g25, r64 (x := M 53 25) (by omega) (by omega)⟩ ⟨Nat.le_of_ble_eq_true rfl, g69, r64 (x := M 69 1) (by omega) (by omega)⟩ (by decide) (by decide) (by decide) (by rw [kk]; exact w7) (by rw [kk]; exact r64 (by omega) (by omega)) (by rw [kk]; exact w8) (by rw [kk]; exact r64 (by omega) (by omega))
    rw [kk] at r12 r13
    have r10 : ρ 10 = M2 53 25 := by rw [r10, ← e53]
    have w9 : sx_w sx_r32 (ρ 9) := by rw [r9, sx_r32_iff]; omega
    obtain ⟨okl, oks⟩ := rt_okl3 (n := rt_k1t.1) s (show 9 < 14 by decide) (sx_ck2 s _) w9
    obtain ⟨o, ρ', M3, rec, x1, x2, x3, x4⟩ := gs_use rt_kc1 s okl oks
    obtain ⟨el, es⟩ := rt_el s.2.1 r9
    rw [el, es] at x4
    have y : ∀ j, j < 14 → ρ' j = ρ j := fun j hj => x1 j hj
    have z : ∀ (j : Nat), j < 14 → sx_val ρ' (j, 0) = ρ j := fun j hj => by
      unfold sx_val
      rw [y j hj]
      exact Int.add_zero _
    refine rz_il rt_f105 rfl ?_
    unfold rt_k1 at rec
    cases eo : o.1 with
    | some r => rw [eo] at rec; cases rec
    | none =>
      rw [eo] at rec
      have ok' : sx_okl ρ' o.2.2.2.2.1 o.2.2.1 := by
        rcases x4 with ⟨r, w1, -⟩ | ⟨-, -, w3, -⟩
        · rw [w1] at eo; cases eo
        · exact w3
      obtain ⟨k0, rec⟩ := sx_an_iff.mp rec
      have hst : sx_cs1 ρ' o.2.2.2.1 = [] := by rw [List.eq_nil_of_length_eq_zero (sx_nbeq.mp k0)]; rfl
      cases h105 : Nat.beq o.2.1 105 with
      | true =>
        rw [h105] at rec
        obtain ⟨k1, k2⟩ := sx_an_iff.mp (show sx_an (pc_lk4 (9, 1) o.2.2.1) (sx_an (sx_an (lw [67, 68] [] rt_k1t o.2.2.2.2) (rt_kl true 9 10 o.2.2.2.2)) (sx_an (lw_two o.2.2.2.2 67 (9, 0) (12, 0) (9, 130) (12, 0)) (lw_two o.2.2.2.2 68 (9, 0) (13, 0) (9, 130) (13, 0)))) = true from rec)
        obtain ⟨k2, k3⟩ := sx_an_iff.mp k2
        obtain ⟨k2, k4⟩ := sx_an_iff.mp k2
        obtain ⟨k3, k5⟩ := sx_an_iff.mp k3
        have k4 := of_decide_eq_true (rt_kl_ok x3 k4)
        rw [y 9 (by decide), y 10 (by decide), r9, r10] at k4
        obtain ⟨-, -, n, m⟩ := lw_ok s x1 x3 k2
        have z130 : sx_val ρ' (9, 130) = k + 130 := by
          unfold sx_val
          rw [y 9 (by decide), r9]
        obtain ⟨u1, u2⟩ := lw_two_ok (by decide) x3 k3 (by rw [z 9 (by decide), r9]; omega) (by rw [z130, kk, z 12 (by decide), r12])
        obtain ⟨u3, u4⟩ := lw_two_ok (by decide) x3 k5 (by rw [z 9 (by decide), r9]; omega) (by rw [z130, kk, z 13 (by decide), r13])
        rw [z 9 (by decide), r9, z 12 (by decide), r12, Int.toNat_natCast] at u1
        rw [z 9 (by decide), r9, z 13 (by decide), r13, Int.toNat_natCast] at u3
        rw [z 9 (by decide), r9] at u2 u4
        have hle := pc_lk4_ok x3.2.1 ok' k1
        have zz : sx_val ρ' (9, 1) = ((k + 1 : Nat) : Int) := by
          unfold sx_val
          rw [y 9 (by decide), r9]
          rfl
        rw [zz] at hle
        refine rz_cont eo (sx_nbeq.mp h105) hle hst x4 (next M3 ⟨x3.2.2.2.2.2.1, fun a ha h7 h8 => ?_, fun i hi => ?_, fun i hi => ?_⟩ (by omega))
        · rw [← q1 a ha h7 h8]
          by_cases h53 : a = 53
          · subst h53
            funext i
            exact n i (fun q hq => by cases hq)
          · exact m a ha (by simp only [List.mem_cons, List.not_mem_nil, or_false]; omega) h53
        · rw [u2 i (by omega), u4 i (by omega)]
          exact q2 i hi
        · by_cases hik : i = k
          · subst hik
            rw [u1, u3]
            exact q2 _ (by omega)
          · rw [u2 i (by omega), u4 i (by omega)]
            exact q3 i (by omega)
      | false =>
        rw [h105] at rec
        obtain ⟨k1, k2⟩ := sx_an_iff.mp (show sx_an (sx_an (Nat.beq o.2.1 177) (pc_lk4 (0, 0) o.2.2.1)) (sx_an (sx_an (lw [69] [] rt_k1t o.2.2.2.2) (lw_two o.2.2.2.2 69 (0, 0) (11, 0) (0, 1) (11, 0))) (rt_kl false 9 10 o.2.2.2.2)) = true from rec)
        obtain ⟨k1, k3⟩ := sx_an_iff.mp k1
        obtain ⟨k2, k4⟩ := sx_an_iff.mp k2
        obtain ⟨k2, k5⟩ := sx_an_iff.mp k2
        have k4 := of_decide_eq_false (rt_kl_ok x3 k4)
        rw [y 9 (by decide), y 10 (by decide), r9, r10] at k4
        obtain ⟨-, -, n, m⟩ := lw_ok s x1 x3 k2
        have z0 : sx_val ρ' (0, 0) = 0 := sx_v0 x3 0
        have z1 : sx_val ρ' (0, 1) = 1 := sx_v0 x3 1
        obtain ⟨u1, u2⟩ := lw_two_ok (by decide) x3 k5 (by rw [z0]; decide) (by rw [z1, z 11 (by decide), r11]; rfl)
        rw [z0, z 11 (by decide), r11] at u1
        rw [z0] at u2
        have hle := pc_lk4_ok x3.2.1 ok' k3
        rw [z0] at hle
        refine rz_cont eo (sx_nbeq.mp k1) hle hst x4 (hex M M3 ?_ x3.2.2.2.2.2.1 (fun a ha h9 => ?_) u1 (fun i hi => u2 i (by omega)))
        · rw [show (M2 53 25).toNat = k by omega]
          exact ⟨hm, q1, q2, q3⟩
        · by_cases h53 : a = 53
          · subst h53
            funext i
            exact n i (fun q hq => by cases hq)
          · exact m a ha (by simp only [List.mem_cons, List.not_mem_nil, or_false]; omega) h53
  intro m
  induction m with
  | zero =>
    intro k M hK hk hm
    exact step k M hK hk (fun M' hK' h => by omega)
  | succ m ih =>
    intro k M hK hk hm
    exact step k M hK hk (fun M' hK' h => ih (k + 1) M' hK' (by omega) (by omega))
end
