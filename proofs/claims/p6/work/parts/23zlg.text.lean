/-! The reference's parser: a whole text, and what the class takes. -/
section
variable {L : Nat} {xs : Nat → Int32} {M M' M0 M1 M2 M3 M4 M5 : Nat → Nat → Int} {ρ ρ' : Nat → Int} {t : sx_S} {z c : Int} {Q : Option Value → (Nat → Nat → Int) → Prop}
def yj_f (M : Nat → Nat → Int) (lb l : Nat) : Int := if l = 0 then 0 else M 71 (lb + (l - 1))
/-- what line l laid; sb, lb: where steps and lines lie -/
def yj_W (M : Nat → Nat → Int) (sb lb l : Nat) : Nat → List Int := if M 70 (lb + l) = yj_f M lb l then yk_w1 (yr_L M (sb + (yj_f M lb l).toNat) (M 71 (lb + l) - yj_f M lb l).toNat) else yk_w2 (yr_L M (sb + (yj_f M lb l).toNat) (M 70 (lb + l) - yj_f M lb l).toNat) (yr_L M (sb + (M 70 (lb + l)).toNat) (M 71 (lb + l) - M 70 (lb + l)).toNat)
def yj_P (M : Nat → Nat → Int) (sb lb : Nat) : Nat → Nat → List Int
  | 0 => fun _ => []
  | n + 1 => yk_w3 (yj_P M sb lb n) (yj_W M sb lb n)
theorem yj_L {k k' : Nat} : ∀ {c : Nat}, (∀ i, i < c → M1 67 (k' + i) = M 67 (k + i) ∧ M1 68 (k' + i) = M 68 (k + i)) → yr_L M1 k' c = yr_L M k c := by
  intro c
  induction c with
  | zero => intro _; rfl
  | succ c ih =>
    intro h
    show yr_L M1 k' c ++ [yr_en (M1 67 (k' + c)) (M1 68 (k' + c))] = yr_L M k c ++ [yr_en (M 67 (k + c)) (M 68 (k + c))]
    rw [ih (fun i h1 => h i (by omega)), (h c (by omega)).1, (h c (by omega)).2]
def yj_b (M : Nat → Nat → Int) (lb l : Nat) (c : Int) : Prop := 0 ≤ yj_f M lb l ∧ yj_f M lb l ≤ M 70 (lb + l) ∧ M 70 (lb + l) ≤ M 71 (lb + l) ∧ M 71 (lb + l) ≤ c
theorem yj_W_eq {sb sb' lb lb' l : Nat} (b : yj_b M lb l c) (h6 : ∀ i : Nat, (i : Int) < c → M1 67 (sb' + i) = M 67 (sb + i) ∧ M1 68 (sb' + i) = M 68 (sb + i)) (h7 : ∀ i, i ≤ l → M1 70 (lb' + i) = M 70 (lb + i) ∧ M1 71 (lb' + i) = M 71 (lb + i)) : yj_W M1 sb' lb' l = yj_W M sb lb l := by
  have ef : yj_f M1 lb' l = yj_f M lb l := by
    unfold yj_f
    by_cases h : l = 0
    · rw [if_pos h, if_pos h]
    · rw [if_neg h, if_neg h]
      exact (h7 (l - 1) (by omega)).2
  obtain ⟨e1, e2⟩ := h7 l (Nat.le_refl _)
  obtain ⟨b1, b2, b3, b4⟩ := b
  have g : ∀ x y : Int, 0 ≤ x → y ≤ c → yr_L M1 (sb' + x.toNat) (y - x).toNat = yr_L M (sb + x.toNat) (y - x).toNat := fun x y hx hy => yj_L (fun i hi => by
    have := h6 (x.toNat + i) (by omega)
    rw [← Nat.add_assoc, ← Nat.add_assoc] at this
    exact this)
  unfold yj_W
  rw [ef, e1, e2, g (yj_f M lb l) (M 71 (lb + l)) b1 b4, g (yj_f M lb l) (M 70 (lb + l)) b1 (by omega), g (M 70 (lb + l)) (M 71 (lb + l)) (by omega) b4]
theorem yj_P_eq {sb sb' lb lb' : Nat} : ∀ {n : Nat}, (∀ l, l < n → yj_b M lb l c) → (∀ i : Nat, (i : Int) < c → M1 67 (sb' + i) = M 67 (sb + i) ∧ M1 68 (sb' + i) = M 68 (sb + i)) → (∀ i, i < n → M1 70 (lb' + i) = M 70 (lb + i) ∧ M1 71 (lb' + i) = M 71 (lb + i)) → yj_P M1 sb' lb' n = yj_P M sb lb n := by
  intro n
  induction n with
  | zero => intro _ _ _; rfl
  | succ n ih =>
    intro b h6 h7
    show yk_w3 (yj_P M1 sb' lb' n) (yj_W M1 sb' lb' n) = yk_w3 (yj_P M sb lb n) (yj_W M sb lb n)
    rw [ih (fun l hl => b l (by omega)) h6 (fun i hi => h7 i (by omega)), yj_W_eq (b n (by omega)) h6 (fun i hi => h7 i (by omega))]
theorem yj_rb {l : Nat} (h : rt_L M l) : yj_b M 61 l (M 53 25) := ⟨h.1, h.2.1, h.2.2.1, h.2.2.2.1⟩
-- before a line; behind one
/-- no line is empty -/
def yj_N (M : Nat → Nat → Int) (lb n : Nat) : Prop := ∀ l, l < n → M 70 (lb + l) < M 71 (lb + l)
def yj_A (M0 M : Nat → Nat → Int) (n : Nat) : Prop := yj_N M 61 n ∧ ((n = 0 ∧ M 53 22 = 0) ∨ ∃ b : Nat, (M 53 22).toNat = b + 1 ∧ yr_T M0 b = 59 ∧ yk_L (yr_T M0) 0 b (yj_P M 130 61 n))
def yj_B (M0 M : Nat → Nat → Int) (n : Nat) : Prop := yj_N M 61 n ∧ yk_L (yr_T M0) 0 (M 53 22).toNat (yj_P M 130 61 n)
theorem yj_w30 {W : Nat → List Int} : yk_w3 (fun _ => []) W = W := by
  funext m
  show [] ++ W (m + 0) = W m
  rw [Nat.add_zero]
  rfl
theorem yj_line {n : Nat} (h : rt_I 0 M0 M n) (hA : yj_A M0 M n) (hR : yf_R M M1) : (M1 53 23 = -1 → yj_B M0 M1 (n + 1)) ∧ (0 ≤ M1 53 23 → yk_M (yr_T M0) (M0 53 21).toNat 0 (M1 53 23).toNat) := by
  obtain ⟨⟨b1, b2, b3, b4, b5⟩, ⟨p1, p2, p3, p4, p5, p6, p7, p8⟩, i1, i2, i3, i4, i5⟩ := h
  obtain ⟨⟨a1, a2, a3, a4, a5, a6, a7, a8, a9, a10⟩, r2, r3⟩ := hR
  have hT := pz_T p1
  have eT : yr_T M = yr_T M0 := yf_T_on b2
  have e21 := lz_T b2
  rw [eT] at r2 r3
  rw [e21] at r3
  obtain ⟨hN, hA⟩ := hA
  refine ⟨fun e => ?_, fun e => ?_⟩
  · obtain ⟨r2, r4⟩ := r2 e
    rcases a10 with ⟨k1, k2, k3, k4, k5, k6, k7, k8, k9⟩ | ⟨k1, -⟩
    · have en : (61 + M 69 1).toNat = 61 + n := by rw [i2]; omega
      rw [en] at k5 k6 k7 r4
      have ef : yj_f M1 61 n = M 53 25 := by
        rw [← i4]
        unfold yj_f rt_from
        by_cases h : n = 0
        · rw [if_pos h, if_pos h]
        · rw [if_neg h, if_neg h]
          exact (a9 _ (by omega)).2
      have eW : yf_W M M1 = yj_W M1 130 61 n := by
        unfold yf_W yj_W
        rw [en, ef, k5, show (130 + M 53 25).toNat = 130 + (M 53 25).toNat by omega, show (130 + M1 70 (61 + n)).toNat = 130 + (M1 70 (61 + n)).toNat by omega]
      have eP : yj_P M1 130 61 n = yj_P M 130 61 n := yj_P_eq (c := M 53 25) (fun l hl => yj_rb (i5 l hl)) (fun i hi => a6 (130 + i) (by omega)) (fun i hi => a9 (61 + i) (by omega))
      rw [eW] at r2
      refine ⟨fun l hl => ?_, ?_⟩
      · by_cases el : l = n
        · subst el
          rw [k5]
          exact r4
        · obtain ⟨u1, u2⟩ := a9 (61 + l) (by omega)
          rw [u1, u2]
          exact hN l (by omega)
      show yk_L _ _ _ (yk_w3 (yj_P M1 130 61 n) (yj_W M1 130 61 n))
      rw [eP]
      rcases hA with ⟨rfl, h0⟩ | ⟨b, c1, c2, c3⟩
      · rw [h0] at r2
        show yk_L _ _ _ (yk_w3 (fun _ => []) (yj_W M1 130 61 0))
        rw [yj_w30]
        exact r2
      · rw [c1] at r2
        exact yk_L_cat c3 c2 r2
    · omega
  · have r3 := r3 e
    rcases hA with ⟨-, h0⟩ | ⟨b, c1, c2, c3⟩
    · rw [h0] at r3
      exact r3
    · rw [c1] at r3
      exact yk_M_cat c3 c2 r3
theorem yj_semi {n : Nat} (h : rt_I 1 M0 M n) (hB : yj_B M0 M n) (hz : yr_T M (M 53 22).toNat = 59) (hh : ps_hd M M1) : yj_A M0 M1 n := by
  obtain ⟨⟨b1, b2, b3, b4, b5⟩, ⟨p1, p2, p3, p4, p5, p6, p7, p8⟩, -⟩ := h
  obtain ⟨a1, a2, a3, a4, a5, a6, a7, a8, a9⟩ := hh
  have o70 : M1 70 = M 70 := ps_oth (by decide) (by decide) (by decide) (by decide) a2
  have o71 : M1 71 = M 71 := ps_oth (by decide) (by decide) (by decide) (by decide) a2
  have eP : ∀ k, yj_P M1 130 61 k = yj_P M 130 61 k := fun k => by
    induction k with
    | zero => rfl
    | succ k ih =>
      show yk_w3 (yj_P M1 130 61 k) (yj_W M1 130 61 k) = yk_w3 (yj_P M 130 61 k) (yj_W M 130 61 k)
      have el : ∀ k c, yr_L M1 k c = yr_L M k c := fun k c => yr_L_on (fun i _ _ => by rw [a8, a9]; exact ⟨rfl, rfl⟩)
      rw [ih]
      unfold yj_W yj_f
      simp only [o70, o71, el]
  refine ⟨by unfold yj_N; rw [o70, o71]; exact hB.1, Or.inr ⟨(M 53 22).toNat, by omega, ?_, ?_⟩⟩
  · rw [← yf_T_on b2]
    exact hz
  · rw [eP]
    exact hB.2
-- the walks behind a line
noncomputable def yj_c (p : Nat) (t : sx_S) (Ts : List og_T) : Bool := gs_chk rt_st (fun u => Ts.any (og_chk t u)) 400 400 47 174 p rt_lv [] t
def yj_Tf : List og_T := [(none, some (0, 12, 0), [], [], [(53, (0, 21), (0, 0))], [])]
def yj_Tg : List og_T := [(none, some (0, 11, 0), [], [], [(53, (0, 21), (0, 0)), (53, (0, 23), (11, 0))], [])]
def yj_Ts : List og_T := [(some 58, none, [(2, 0, 53)], rt_lv, [(53, (0, 22), (11, 1))], [])]
def yj_Te : List og_T := [(some 105, none, [], [(0, 2, 0, 53), (1, 0, 0, 0), (2, 0, 0, 0)], [(53, (0, 21), (0, 0))], [])]
theorem yj_c1 : ([31, 61].all fun p => yj_c p (yz_t (0, 0) (0, 120) (0, 120) (0, 120)) yj_Tf) = true := by decide +kernel
theorem yj_c2 : ([31, 61].all fun p => yj_c p (yz_l (0, 0) (-1, -1) (59, 59)) yj_Ts) = true := by decide +kernel
theorem yj_c3 : ([31, 61].all fun p => [((-128 : Int), (58 : Int)), (60, 127)].all fun q => yj_c p (yz_l (0, 0) (-1, -1) q) yj_Tg) = true := by decide +kernel
theorem yj_c4 : ([31, 61].all fun p => yj_c p (yz_e (0, 0) (-1, -1)) yj_Te) = true := by decide +kernel
theorem yj_V (h0 : ρ 0 = 0) : sx_cl1 ρ rt_lv = ya_V 0 := by
  show [(0, Value.ref 53), (1, sx_cv1 ρ (0, 0, 0))] = _
  rw [tk_cv h0]
  rfl
theorem yj_after {pc : Nat} (hL : L < 2 ^ 31) (hpc : pc ∈ [31, 61]) (hok : pz_ok M) (kf : ∀ M', 0 ≤ M 53 23 → rt_x M M' → Q (some (.int (Int32.ofInt (M 53 23)))) M') (kg : ∀ M', M 53 23 = -1 → M 53 22 < M 53 21 → yr_T M (M 53 22).toNat ≠ 59 → rt_x M M' → Q (some (.int (Int32.ofInt (M 53 22)))) M') (kcopy : ∀ M', M 53 23 = -1 → M 53 22 = M 53 21 → rt_x M M' → rz_fin Q L xs 174 47 105 (rt_v 0) [] M') (ksemi : ∀ M', M 53 23 = -1 → yr_T M (M 53 22).toNat = 59 → ps_hd M M' → rz_fin Q L xs 174 47 58 (ya_V 0) [.ref 53] M') : rz_fin Q L xs 174 47 pc (ya_V 0) [] M := by
  obtain ⟨p1, p2, p3, p4, p5, p6, p7, p8, p9⟩ := id hok
  have hT := pz_T p1
  by_cases hf : M 53 23 = -1
  · have f1 : sx_w (-1, -1) (M 53 23) := by rw [hf]; exact ⟨by decide, by decide⟩
    by_cases hlt : M 53 22 < M 53 21
    · have eT := yr_T_lt p2 hlt
      have w66 : sx_w (-128, 127) (M 66 (M 53 22).toNat) := p1 66 _ _ _ rfl (by show (M 53 22).toNat < 120; omega) rfl
      obtain ⟨w1, w2⟩ := w66
      have w1 : -128 ≤ M 66 (M 53 22).toNat := w1
      have w2 : M 66 (M 53 22).toNat ≤ 127 := w2
      by_cases h59 : M 66 (M 53 22).toNat = 59
      · obtain ⟨ρ, s, n1, r9, r10, r11, r12, r13, r14, r15⟩ := yz_lsat (xs := xs) (z := 0) (g := (0, 0)) (f := (-1, -1)) (p := (59, 59)) hL hok hlt ⟨by decide, by decide⟩ sx_w0 f1 (by rw [h59]; exact ⟨by decide, by decide⟩)
        refine og_use (Ts := yj_Ts) (lv := rt_lv) (s := []) (List.all_eq_true.mp yj_c2 pc hpc) (by rfl) s (rt_okl s (by rw [n1]; decide) (sx_ck2 s _)) (fun v hv => by cases hv) (Nat.le_refl _) (yj_V s.2.1) rfl (fun T hT' ρ' M' x h0 hm' hc hM => ?_)
        rw [n1] at x
        have q11 := og_v x (show 11 < 16 by decide) r11
        rw [List.mem_singleton.mp hT'] at hM ⊢
        show rz_fin _ L xs 174 47 58 (sx_cl1 ρ' rt_lv) [.ref 53] M'
        rw [yj_V h0]
        exact ksemi M' hf (eT.trans h59) (yr_hd h0 q11 hlt hm' hM)
      · obtain ⟨q, hq, hq1⟩ : ∃ q ∈ [((-128 : Int), (58 : Int)), (60, 127)], q.1 ≤ M 66 (M 53 22).toNat ∧ M 66 (M 53 22).toNat ≤ q.2 := by
          by_cases h : M 66 (M 53 22).toNat ≤ 58
          · exact ⟨(-128, 58), by decide, w1, h⟩
          · exact ⟨(60, 127), by decide, by show (60 : Int) ≤ _; omega, w2⟩
        obtain ⟨ρ, s, n1, r9, r10, r11, r12, r13, r14, r15⟩ := yz_lsat (xs := xs) (z := 0) (g := (0, 0)) (f := (-1, -1)) (p := q) hL hok hlt ⟨by decide, by decide⟩ sx_w0 f1 hq1
        refine og_use (Ts := yj_Tg) (lv := rt_lv) (s := []) (List.all_eq_true.mp (List.all_eq_true.mp yj_c3 pc hpc) q hq) (by rfl) s (rt_okl s (by rw [n1]; decide) (sx_ck2 s _)) (fun v hv => by cases hv) (Nat.le_refl _) (yj_V s.2.1) rfl (fun T hT' ρ' M' x h0 hm' hc hM => ?_)
        rw [n1] at x
        have q11 := og_v x (show 11 < 16 by decide) r11
        rw [List.mem_singleton.mp hT'] at hM ⊢
        have hM : ∀ b, b < 128 → M' b = sx_up (sx_up M 53 (sx_val ρ' (0, ((23 : Nat) : Int))).toNat (sx_val ρ' (11, 0))) 53 (sx_val ρ' (0, ((21 : Nat) : Int))).toNat (sx_val ρ' (0, 0)) b := hM
        rw [yw_n h0, yw_n h0, og_c h0] at hM
        show Q (some (sx_cv1 ρ' (0, 11, 0))) M'
        rw [og_int q11]
        refine kg M' hf hlt (by rw [eT]; exact h59) ⟨hm', ?_, fun k h1 h2 => ?_, fun a ha g => by rw [hM a ha, sh_une g, sh_une g]⟩
        · rw [hM 53 (by decide)]
          simp [sx_up]
        · rw [hM 53 (by decide)]
          simp [sx_up, h1, h2]
    · have hee : M 53 22 = M 53 21 := by omega
      obtain ⟨ρ, s, n1, r9, r10, r11, r12, r13⟩ := yz_esat (xs := xs) (z := 0) (g := (0, 0)) (f := (-1, -1)) hL hok hee ⟨by decide, by decide⟩ sx_w0 f1
      refine og_use (Ts := yj_Te) (lv := rt_lv) (s := []) (List.all_eq_true.mp yj_c4 pc hpc) (by rfl) s (rt_okl s (by rw [n1]; decide) (sx_ck2 s _)) (fun v hv => by cases hv) (Nat.le_refl _) (yj_V s.2.1) rfl (fun T hT' ρ' M' x h0 hm' hc hM => ?_)
      rw [List.mem_singleton.mp hT'] at hM ⊢
      have hM : ∀ b, b < 128 → M' b = sx_up M 53 (sx_val ρ' (0, ((21 : Nat) : Int))).toNat (sx_val ρ' (0, 0)) b := hM
      rw [yw_n h0, og_c h0] at hM
      show rz_fin _ L xs 174 47 105 (sx_cl1 ρ' [(0, 2, 0, 53), (1, 0, 0, 0), (2, 0, 0, 0)]) [] M'
      have eV : sx_cl1 ρ' [(0, 2, 0, 53), (1, 0, 0, 0), (2, 0, 0, 0)] = rt_v 0 := by
        show [(0, Value.ref 53), (1, sx_cv1 ρ' (0, 0, 0)), (2, sx_cv1 ρ' (0, 0, 0))] = _
        rw [tk_cv h0]
        rfl
      rw [eV]
      refine kcopy M' hf hee ⟨hm', ?_, fun k h1 h2 => ?_, fun a ha g => by rw [hM a ha, sh_une g]⟩
      · rw [hM 53 (by decide)]
        simp [sx_up]
      · rw [hM 53 (by decide)]
        simp [sx_up, h1]
  · obtain ⟨ρ, s, n1, r9, r10, r11, r12, r13, r14⟩ := yz_sat (xs := xs) (z := 0) (g := (0, 0)) (a := (0, 120)) (b := (0, 120)) (f := (0, 120)) hL hok ⟨by decide, by decide⟩ sx_w0 hT ⟨p2, by show M 53 22 ≤ (120 : Int); omega⟩ ⟨by show (0 : Int) ≤ M 53 23; omega, p5⟩
    refine og_use (Ts := yj_Tf) (lv := rt_lv) (s := []) (List.all_eq_true.mp yj_c1 pc hpc) (by rfl) s (rt_okl s (by rw [n1]; decide) (sx_ck2 s _)) (fun v hv => by cases hv) (Nat.le_refl _) (yj_V s.2.1) rfl (fun T hT' ρ' M' x h0 hm' hc hM => ?_)
    rw [n1] at x
    have q12 := og_v x (show 12 < 15 by decide) r12
    rw [List.mem_singleton.mp hT'] at hM ⊢
    have hM : ∀ b, b < 128 → M' b = sx_up M 53 (sx_val ρ' (0, ((21 : Nat) : Int))).toNat (sx_val ρ' (0, 0)) b := hM
    rw [yw_n h0, og_c h0] at hM
    show Q (some (sx_cv1 ρ' (0, 12, 0))) M'
    rw [og_int q12]
    refine kf M' (by omega) ⟨hm', ?_, fun k h1 h2 => ?_, fun a ha g => by rw [hM a ha, sh_une g]⟩
    · rw [hM 53 (by decide)]
      simp [sx_up]
    · rw [hM 53 (by decide)]
      simp [sx_up, h1]
/-- what readText does -/
def yj_R (M0 : Nat → Nat → Int) (r : Option Value) (M' : Nat → Nat → Int) : Prop := ∃ z : Int, r = some (.int (Int32.ofInt z)) ∧ -1 ≤ z ∧ z ≤ 120 ∧ rq_R M0 M' ∧ (z = -1 → 1 ≤ M' 69 0 ∧ yk_L (yr_T M0) 0 (M0 53 21).toNat (yj_P M' 0 0 (M' 69 0).toNat) ∧ yj_N M' 0 (M' 69 0).toNat) ∧ (0 ≤ z → yk_M (yr_T M0) (M0 53 21).toNat 0 z.toNat ∧ (∀ i : Nat, i < 130 → M' 67 i = M0 67 i ∧ M' 68 i = M0 68 i) ∧ M' 69 0 = M0 69 0 ∧ ∀ i : Nat, i < 61 → M' 70 i = M0 70 i ∧ M' 71 i = M0 71 i)
theorem yj_kend (h1 : 0 ≤ z) (h2 : z ≤ 120) (hw : WF M0) (hB : rt_B M0 M) (hx : rt_x M M') (hM : yk_M (yr_T M0) (M0 53 21).toNat 0 z.toNat) : yj_R M0 (some (.int (Int32.ofInt z))) M' := by
  refine ⟨z, rfl, by omega, h2, ⟨hx.1, rq_mk (fun _ _ ha h67 h53 => rq_fr hB.2.1 hx ha h67 h53), hx.2.1, WF_zs M M' (fun k hk => hx.2.2.2 k (cz_lt hk).1 (cz_lt hk).2) (rt_WF hB hw)⟩, fun h => by omega, fun _ => ⟨hM, ?_, ?_, ?_⟩⟩
  · rw [hx.2.2.2 67 (by decide) (by decide), hx.2.2.2 68 (by decide) (by decide)]
    exact hB.2.2.1
  · rw [hx.2.2.2 69 (by decide) (by decide)]
    exact hB.2.2.2.1 0 (by decide)
  · rw [hx.2.2.2 70 (by decide) (by decide), hx.2.2.2 71 (by decide) (by decide)]
    exact hB.2.2.2.2
theorem yj_kcopy (hL : L < 2 ^ 31) {n : Nat} (hn : 1 ≤ n) (hI : rt_I 1 M0 M n) (hY : yj_B M0 M n) (hee : M 53 22 = M 53 21) (hx : rt_x M M') : rz_fin (yj_R M0) L xs 174 47 105 (rt_v 0) [] M' := by
  obtain ⟨hB, ⟨p1, p2, p3, p4, p5, p6, p7, p8⟩, i1, i2, i3, i4, i5⟩ := hI
  have hx0 := hx
  obtain ⟨x1, x2, x3, x4⟩ := hx
  have hT := pz_T p1
  have e25 : M' 53 25 = M 53 25 := x3 25 (by decide) (by decide)
  have e67 := x4 67 (by decide) (by decide)
  have e68 := x4 68 (by decide) (by decide)
  have e69 := x4 69 (by decide) (by decide)
  have e70 := x4 70 (by decide) (by decide)
  have e71 := x4 71 (by decide) (by decide)
  have m691 : M' 69 1 = (n : Int) := by rw [e69]; exact i2
  have b25 : 0 ≤ M' 53 25 ∧ M' 53 25 ≤ 121 := by omega
  have b69 : 0 ≤ M' 69 1 ∧ M' 69 1 ≤ 61 := by omega
  have main := rt_cp1 (Q := yj_R M0) (xs := xs) (M2 := M') hL b25 b69 (fun M3 M4 hK hm4 q4 q40 q41 => by
    obtain ⟨k1, k2, k3, k4⟩ := hK
    have e691 : M3 69 1 = (n : Int) := by rw [k2 69 (by decide) (by decide) (by decide)]; exact m691
    have a0 : M4 69 0 = (n : Int) := by rw [q40, e691]
    have a1 : M4 69 1 = (n : Int) := by rw [q41 1 (by decide), e691]
    have c0 : 0 ≤ M4 69 0 ∧ M4 69 0 ≤ 60 := by omega
    have c1 : 0 ≤ M4 69 1 ∧ M4 69 1 ≤ 61 := by omega
    have f67 := q4 67 (by decide) (by decide)
    have f68 := q4 68 (by decide) (by decide)
    have f70 := (q4 70 (by decide) (by decide)).trans (k2 70 (by decide) (by decide) (by decide))
    have f71 := (q4 71 (by decide) (by decide)).trans (k2 71 (by decide) (by decide) (by decide))
    have main2 := rt_cp2 (Q := yj_R M0) (xs := xs) (M2 := M4) hL c0 c1 (fun M5 M6 hK5 hm6 q6 => by
      obtain ⟨l1, l2, l3, l4⟩ := hK5
      have g6 : ∀ i : Nat, (i : Int) < M 53 25 → M5 67 i = M 67 (130 + i) ∧ M5 68 i = M 68 (130 + i) := fun i hi => by
        obtain ⟨u1, u2⟩ := k4 i (by omega)
        rw [l2 67 (by decide) (by decide) (by decide), l2 68 (by decide) (by decide) (by decide), f67, f68, u1, u2, e67, e68]
        exact ⟨rfl, rfl⟩
      have g7 : ∀ i, i < n → M5 70 i = M 70 (61 + i) ∧ M5 71 i = M 71 (61 + i) := fun i hi => by
        obtain ⟨u1, u2⟩ := l4 i (by omega)
        rw [u1, u2, f70, f71, e70, e71]
        exact ⟨rfl, rfl⟩
      have n5 : M5 69 0 = (n : Int) := by rw [l2 69 (by decide) (by decide) (by decide)]; exact a0
      have hw5 : WF M5 := rt_new (M := M) (n := n) i5 (by omega) (by omega) n5 g6 g7
      have e6 : ∀ a i : Nat, a < 128 → ¬ (67 ≤ a ∧ a ≤ 71) → M6 a i = M' a i := fun a i ha h67 => by
        rw [q6 a ha, l2 a ha (by omega) (by omega), q4 a ha (by omega), k2 a ha (by omega) (by omega)]
      have n6 : M6 69 0 = (n : Int) := by rw [q6 69 (by decide)]; exact n5
      refine ⟨-1, rfl, by decide, by decide, ⟨hm6, rq_mk (fun a i ha h67 h53 => ?_), ?_, WF_zs M5 M6 (fun z hz => q6 z (cz_lt hz).1) hw5⟩, fun _ => ⟨by omega, ?_, fun l hl => ?_⟩, fun h => absurd h (by decide)⟩
      · rw [e6 a i ha h67]
        exact rq_fr hB.2.1 hx0 ha h67 h53
      · rw [e6 53 21 (by decide) (by decide)]
        exact x2
      · have eP : yj_P M6 0 0 n = yj_P M 130 61 n := yj_P_eq (c := M 53 25) (fun l hl => yj_rb (i5 l hl)) (fun i hi => by
          rw [Nat.zero_add, q6 67 (by decide), q6 68 (by decide)]
          exact g6 i hi) (fun i hi => by
          rw [Nat.zero_add, q6 70 (by decide), q6 71 (by decide)]
          exact g7 i hi)
        rw [n6, Int.toNat_natCast, eP, ← lz_T hB.2.1, ← hee]
        exact hY.2
      · rw [n6, Int.toNat_natCast] at hl
        rw [Nat.zero_add, q6 70 (by decide), q6 71 (by decide), (g7 l hl).1, (g7 l hl).2]
        exact hY.1 l hl) _ 0 M4 ⟨hm4, fun a _ _ _ => rfl, fun i _ => ⟨rfl, rfl⟩, fun i hi => absurd hi (Nat.not_lt_zero _)⟩ c0.1 rfl
    exact main2) _ 0 M' ⟨x1, fun a _ _ _ => rfl, fun i _ => ⟨rfl, rfl⟩, fun i hi => absurd hi (Nat.not_lt_zero _)⟩ b25.1 rfl
  exact main
theorem yj_lines (hL : L < 2 ^ 31) (hw : WF M0) : ∀ (m n : Nat) (M : Nat → Nat → Int) (pc : Nat), (pc = 28 ∨ pc = 58) → rt_I 0 M0 M n → yj_A M0 M n → (60 - n : Nat) = m → rz_fin (yj_R M0) L xs 174 47 pc (ya_V 0) [.ref 53] M := by
  have le60 : ∀ {n : Nat} {M : Nat → Nat → Int}, rt_I 0 M0 M n → n ≤ 60 := fun {n M} h => by
    obtain ⟨-, ⟨p1, p2, p3, p4, -⟩, -, -, i3, -⟩ := h
    have := pz_T p1
    omega
  have step : ∀ (n : Nat) (M : Nat → Nat → Int) (pc : Nat), (pc = 28 ∨ pc = 58) → rt_I 0 M0 M n → yj_A M0 M n → (∀ M', rt_I 0 M0 M' (n + 1) → yj_A M0 M' (n + 1) → rz_fin (yj_R M0) L xs 174 47 58 (ya_V 0) [.ref 53] M') → rz_fin (yj_R M0) L xs 174 47 pc (ya_V 0) [.ref 53] M := by
    intro n M pc hpc hI hA next
    have hn := le60 hI
    have hP : ps_P M := hI.2.1
    have hS : ∃ F M', sm_run sm_MT sm_LK (sm_RO L xs) sm_NV sm_cq F 46 175 0 [(0, .ref 53)] [] (sx_HH cl_lay cl_rf M) = some (none, sx_HH cl_lay cl_rf M') ∧ yf_R M M' := by
      obtain ⟨F, r, M', e, rfl, e1⟩ := yf_line (xs := xs) hL hP hI.2.2.1 (by have := hI.2.2.2.1; omega)
      exact ⟨F, M', e, e1⟩
    have hf : (sm_MT 174).2.2.2.2.2 pc = some (.invokevirtual 249, 3) := by
      rcases hpc with rfl | rfl
      · exact rt_f28
      · exact rt_f58
    have hpc' : pc + 3 ∈ [31, 61] := by
      rcases hpc with rfl | rfl <;> decide
    refine rz_call (k := 175) (d := 46) (R := yf_R M) hf rfl (Nat.le_of_ble_eq_true rfl) hS (fun M1 hR => ?_)
    obtain ⟨hB, hI1⟩ := rt_line hI hR.1
    obtain ⟨y1, y2⟩ := yj_line hI hA hR
    have ok1 := lz_ok hP hR.1
    obtain ⟨o1, o2, o3, o4, o5, o6, o7, o8, o9⟩ := id ok1
    have hT1 := pz_T o1
    have eT1 : yr_T M1 = yr_T M0 := yf_T_on hB.2.1
    have e21 := lz_T hB.2.1
    refine yj_after hL hpc' ok1 (fun M' h1 hx => yj_kend h1 o5 hw hB hx (y2 h1)) (fun M' hf hlt hz hx => yj_kend o2 (by omega) hw hB hx (yk_L_M (y1 hf).2 (by omega) (by rw [← eT1]; exact hz))) (fun M' hf hee hx => ?_) (fun M' hf hz hh => ?_)
    · rcases hI1 with ⟨-, h⟩ | ⟨h, -⟩
      · exact yj_kcopy hL (by omega) h (y1 hf) hee hx
      · omega
    · rcases hI1 with ⟨-, h⟩ | ⟨h, -⟩
      · exact next M' (rt_semi h hh) (yj_semi h (y1 hf) hz hh)
      · omega
  intro m
  induction m with
  | zero =>
    intro n M pc hpc hI hA hm
    exact step n M pc hpc hI hA (fun M' hI' _ => by
      have := le60 hI'
      omega)
  | succ m ih =>
    intro n M pc hpc hI hA hm
    exact step n M pc hpc hI hA (fun M' hI' hA' => ih (n + 1) M' 58 (Or.inr rfl) hI' hA' (by omega))
theorem yj_text (hL : L < 2 ^ 31) (hm : sx_mok cl_ly M0) (hw : WF M0) : rz_fin (yj_R M0) L xs 174 47 0 [(0, .ref 53), (1, .int (Int32.ofInt 0))] [] M0 := by
  have hvs : ct_vs [(0, ((0 : Int), (0 : Int)))] [.int (Int32.ofInt 0)] := ⟨Or.inl ⟨rfl, 0, rfl, ⟨by decide, by decide⟩, sx_w0⟩, trivial⟩
  obtain ⟨ρ, a1, a2, s, a4, a5⟩ := mt_as_ok hvs (mt_tr_sat (MM := M0) (M := M0) (mod := []) (xs := xs) hL (fun a ha => by cases ha) hm (fun a _ _ => rfl))
  have s : sx_sat cl_ly (0, -100) xs L M0 ρ M0 rt_t0 := s
  obtain ⟨o, ρ', M1, rec, x1, x2, x3, x4⟩ := gs_use rt_c1 s (rt_okl s (show 0 < 10 by decide) (sx_ck2 s _)) (fun v hv => by cases hv)
  have z0 : sx_val ρ (0, 0) = 0 := sx_v0 s 0
  have el : sx_cl1 ρ rt_lv = [(0, .ref 53), (1, .int (Int32.ofInt 0))] := by
    show [(0, Value.ref 53), (1, sx_cv1 ρ (0, 0, 0))] = _
    rw [sx_cvk0 (v := (0, 0, 0)) rfl, z0]
  rw [el] at x4
  unfold rt_r1 at rec
  cases eo : o.1 with
  | some r => rw [eo] at rec; cases rec
  | none =>
    rw [eo] at rec
    have ok' : sx_okl ρ' o.2.2.2.2.1 o.2.2.1 := by
      rcases x4 with ⟨r, w1, -⟩ | ⟨-, -, w3, -⟩
      · rw [w1] at eo; cases eo
      · exact w3
    obtain ⟨k1, k2⟩ := sx_an_iff.mp rec
    obtain ⟨k1, k3⟩ := sx_an_iff.mp k1
    obtain ⟨k2, k4⟩ := sx_an_iff.mp k2
    obtain ⟨k4, k5⟩ := sx_an_iff.mp k4
    obtain ⟨f, v, n, m⟩ := lw_ok s x1 x3 k4
    have c0 : ∀ c : Int, sx_val ρ' (0, c) = c := fun c => sx_v0 x3 c
    have v22 : M1 53 22 = 0 := (v (22, (0, 0)) (by simp)).trans (c0 0)
    have v23 : M1 53 23 = -1 := (v (23, (0, -1)) (by simp)).trans (c0 (-1))
    have v24 : M1 53 24 = 0 := (v (24, (0, 0)) (by simp)).trans (c0 0)
    have v25 : M1 53 25 = 0 := (v (25, (0, 0)) (by simp)).trans (c0 0)
    obtain ⟨u1, u2⟩ := lw_one_ok (by decide) x3 k5 (by rw [c0]; decide)
    rw [c0, c0] at u1
    rw [c0] at u2
    have u1 : M1 69 1 = 0 := u1
    have n21 : M1 53 21 = M0 53 21 := n 21 (by simp)
    have hT := pz_T hm
    have hle := pc_lkv_ok ok' k2
    rw [c0] at hle
    refine rz_cont eo (sx_nbeq.mp k1) hle (pc_sk_ok k3) x4 (yj_lines (M0 := M0) hL hw _ 0 M1 28 (Or.inl rfl) ⟨⟨x3.2.2.2.2.2.1, f, fun i _ => ?_, fun i hi => u2 i (by omega), fun i _ => ?_⟩, ⟨x3.2.2.2.2.2.1, v23, by omega, by omega, by omega, by omega, by omega, by omega⟩, v24, u1, by omega, ?_, fun l hl => absurd hl (Nat.not_lt_zero _)⟩ ⟨fun l hl => absurd hl (Nat.not_lt_zero _), Or.inl ⟨rfl, v22⟩⟩ rfl)
    · rw [m 67 (by decide) (by decide) (by decide), m 68 (by decide) (by decide) (by decide)]
      exact ⟨rfl, rfl⟩
    · rw [m 70 (by decide) (by decide) (by decide), m 71 (by decide) (by decide) (by decide)]
      exact ⟨rfl, rfl⟩
    · rw [v25]
      rfl
end
