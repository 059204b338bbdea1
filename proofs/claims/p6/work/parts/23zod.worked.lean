/-! The class's law, line by line. -/
section
variable {L : Nat} {xs : Nat → Int32} {M M' M1 M2 : Nat → Nat → Int} {N : Nat → Int} {A B U V X : List Int} {s a b z : Int} {i : Nat} {Q R : Option Value → (Nat → Nat → Int) → Prop} {zs : List Int}
theorem vt_gl {k : Nat} (h : k < A.length) : (A ++ B).getD k 0 = A.getD k 0 := by
  rw [List.getD_eq_getElem?_getD, List.getElem?_append_left h, ← List.getD_eq_getElem?_getD]
theorem vt_gr {k : Nat} : (A ++ B).getD (A.length + k) 0 = B.getD k 0 := by
  rw [List.getD_eq_getElem?_getD, List.getElem?_append_right (Nat.le_add_right _ _), Nat.add_sub_cancel_left, ← List.getD_eq_getElem?_getD]
theorem wx_len : ∀ (A V : List Int) {U : List Int}, vt_sr N A V = some U → U.length ≤ V.length + vt_c A := by
  intro A
  induction A with
  | nil =>
    intro V U h
    have h : some V = some U := h
    cases h
    exact Nat.le_refl _
  | cons s A ih =>
    intro V U h
    cases e1 : vt_st N s V with
    | none =>
      have h : (match vt_st N s V with
        | some U => vt_sr N A U
        | none => none) = some U := h
      rw [e1] at h
      cases h
    | some W =>
      rw [vt_sr_cons e1] at h
      rw [vt_c_cons]
      have h1 := ih W h
      have h2 := wx_one e1
      omega
theorem wx_split : ∀ {n l m : Nat}, l < n → ∃ X, yj_P M 0 0 n m = yj_P M 0 0 l m ++ yj_W M 0 0 l (m + (yj_P M 0 0 l m).length) ++ X := by
  intro n
  induction n with
  | zero => intro l m h; exact absurd h (Nat.not_lt_zero _)
  | succ n ih =>
    intro l m h
    have e : yj_P M 0 0 (n + 1) m = yj_P M 0 0 n m ++ yj_W M 0 0 n (m + (yj_P M 0 0 n m).length) := rfl
    by_cases c : l = n
    · subst c
      exact ⟨[], by rw [e, List.append_nil]⟩
    · obtain ⟨X, hX⟩ := ih (m := m) (show l < n by omega)
      exact ⟨X ++ yj_W M 0 0 n (m + (yj_P M 0 0 n m).length), by rw [e, ← List.append_assoc, ← hX]⟩
/-- where line l lies -/
def wx_p (M : Nat → Nat → Int) (l : Nat) : Nat := (yj_P M 0 0 l 0).length
/-- what line l lays -/
def wx_W (M : Nat → Nat → Int) (l : Nat) : List Int := yj_W M 0 0 l (wx_p M l)
theorem wx_p_succ (M : Nat → Nat → Int) (l : Nat) : wx_p M (l + 1) = wx_p M l + (wx_W M l).length := by
  show (yj_P M 0 0 l 0 ++ yj_W M 0 0 l (0 + (yj_P M 0 0 l 0).length)).length = _
  rw [List.length_append, Nat.zero_add]
  rfl
theorem wx_at {n : Nat} (hD : yh_D (M 16) (M 14 7).toNat = yj_P M 0 0 n 0) {l k : Nat} (hl : l < n) (hk : k < (wx_W M l).length) : M 16 (wx_p M l + k) = (wx_W M l).getD k 0 ∧ wx_p M l + k < (M 14 7).toNat := by
  obtain ⟨X, hX⟩ := wx_split (M := M) (m := 0) hl
  rw [Nat.zero_add] at hX
  have hX : yj_P M 0 0 n 0 = yj_P M 0 0 l 0 ++ wx_W M l ++ X := hX
  have ep : wx_p M l = (yj_P M 0 0 l 0).length := rfl
  have hj : wx_p M l + k < (M 14 7).toNat := by
    have := congrArg List.length (hD.trans hX)
    rw [yh_D_len, List.length_append, List.length_append] at this
    omega
  refine ⟨?_, hj⟩
  rw [← yh_D_get (f := M 16) hj, hD, hX, vt_gl (by rw [List.length_append]; omega), ep, vt_gr]
theorem wx_cnt {n : Nat} (hD : yh_D (M 16) (M 14 7).toNat = yj_P M 0 0 n 0) (hc : vt_c (yh_D (M 16) (M 14 7).toNat) ≤ 121) {l : Nat} (hl : l < n) : vt_c (wx_W M l) ≤ 121 := by
  obtain ⟨X, hX⟩ := wx_split (M := M) (m := 0) hl
  rw [Nat.zero_add] at hX
  have hX : yj_P M 0 0 n 0 = yj_P M 0 0 l 0 ++ wx_W M l ++ X := hX
  rw [hD, hX, vt_c_app, vt_c_app] at hc
  omega
theorem wx_W1 {l : Nat} (c : M 70 l = yj_f M 0 l) : wx_W M l = vt_B M l ++ [-59] := by
  unfold wx_W yj_W vt_B
  rw [Nat.zero_add, Nat.zero_add, if_pos c, c]
  rfl
theorem wx_W2 {l : Nat} (c : M 70 l ≠ yj_f M 0 l) : wx_W M l = vt_A M l ++ ([-63, (wx_p M (l + 1) : Int)] ++ (vt_B M l ++ [-59])) := by
  have e : wx_W M l = yk_w2 (vt_A M l) (vt_B M l) (wx_p M l) := by
    unfold wx_W yj_W vt_A vt_B
    rw [Nat.zero_add, Nat.zero_add, if_neg c, Nat.zero_add]
  have el : (wx_W M l).length = (vt_A M l).length + 2 + (vt_B M l).length + 1 := by
    rw [e]
    unfold yk_w2
    simp only [List.length_append, List.length_cons, List.length_nil]
  have ep : ((wx_p M l + (vt_A M l).length + 2 + (vt_B M l).length + 1 : Nat) : Int) = (wx_p M (l + 1) : Int) := by
    rw [wx_p_succ, el]
    omega
  rw [e]
  unfold yk_w2
  rw [ep, List.append_assoc, List.append_assoc]
def wx_V (M : Nat → Nat → Int) (z : Int) (r : Option Value) (M' : Nat → Nat → Int) : Prop := r = some (.int (Int32.ofInt z)) ∧ sx_w sx_r32 z ∧ sx_mok cl_ly M' ∧ ∀ a, a < 128 → a ≠ 19 → M' a = M a
def wx6_T : List og_T := [(none, some (0, 13, 0), [], [], [], [])]
theorem wx6_c : qs_chk wx_st (wx_i 0 128 (-59) (-59) [(1, 19, (0, 0), sx_r32)]) 0 wx6_T 400 400 2 61 4 wx_l [] = true := by decide +kernel
def wx7_i : List qs_I := [(0, 0, (0, 0), (0, 128)), (0, 0, (0, 0), (0, 254)), (1, 14, (0, 7), (2, 256)), (1, 16, (10, 0), (-63, -63)), (2, 11, (10, 1), (0, 0)), (1, 19, (0, 0), sx_r32), (1, 16, (10, 1), (0, 9999)), (2, 14, (10, 1), (0, 0))]
def wx7_T : List og_T := [(some 4, none, [], [(0, 2, 0, 14), (1, 0, 0, 0), (2, 0, 14, 0)], [], [(0, (13, 0), (0, 0), 0, 0)]), (some 4, none, [], [(0, 2, 0, 14), (1, 0, 0, 0), (2, 0, 10, 2)], [], [(7, (13, 0), (0, 0), 0, 0)])]
theorem wx7_c : qs_chk wx_st wx7_i 0 wx7_T 400 400 2 61 4 wx_l [] = true := by decide +kernel
def wx8_i : List qs_I := [(0, 0, (0, 0), (0, 128)), (0, 0, (0, 0), (0, 256)), (1, 14, (0, 7), (0, 256)), (3, 11, (10, 0), (0, 0))]
def wx8_T : List og_T := [(none, some (0, 0, 0), [], [], [], [])]
theorem wx8_c : qs_chk wx_st wx8_i 0 wx8_T 400 400 2 61 4 wx_l [] = true := by decide +kernel
def wx0_T : List og_T := [(some 4, none, [], [(0, 2, 0, 14), (1, 0, 0, 0), (2, 0, 0, 0)], [], [])]
theorem wx0_c : qs_chk wx_st [] 0 wx0_T 400 400 2 61 0 [(0, 2, 0, 14)] [] = true := by decide +kernel
/-- the end of a line -/
theorem wx_end (hL : L < 2 ^ 31) (hm : sx_mok cl_ly M') (h : ∀ a, a < 128 → a ≠ 19 → M' a = M a) (hS : wu_S 19 M' U) (hn : U ≠ []) (hi : (i : Int) < M 14 7) (hs : M 16 i = -59) (hU : U.length ≤ 128) : rz_fin (wx_V M (U.getLastD 0)) L xs 61 2 4 (wx_v (U.length : Int) (i : Int)) [] M' := by
  have e14 := h 14 (by decide) (by decide)
  have e16 := h 16 (by decide) (by decide)
  have w := wx_19 hm (i := 0) (by decide)
  rw [wu_bot hS hn] at w
  have ok := wx_ok (t0 := 0) (t1 := 128) (s0 := -59) (s1 := -59) (t := (U.length : Int)) (i := i) (s := -59) (l := [(1, 19, (0, 0), sx_r32)]) (ys := [U.getLastD 0]) hm (show 0 ≤ (U.length : Int) ∧ (U.length : Int) ≤ 128 by omega) (by rw [e14]; exact hi) (by rw [e16]; exact hs) ⟨Int.le_refl _, Int.le_refl _⟩ (qs_rd (Int.le_refl 0) (wu_bot hS hn) w (qs_fin rfl))
  refine qs_use (zs := [(U.length : Int), (i : Int), M' 14 7, -59, U.getLastD 0]) wx6_c hL hm ok (Nat.le_refl _) rfl rfl (qs_c (fun M2 hm2 hc hM => ?_) qs_z)
  exact ⟨rfl, w, hm2, fun a ha h19 => (hM a ha).trans (h a ha h19)⟩
theorem wx_lines {n : Nat} (hL : L < 2 ^ 31) (hD : yh_D (M 16) (M 14 7).toNat = yj_P M 0 0 n 0) (hc : vt_c (yh_D (M 16) (M 14 7).toNat) ≤ 121) (h14 : 0 ≤ M 14 7 ∧ M 14 7 ≤ 256) (hln : ∀ l, l < n → vt_ln M l) : ∀ (c l : Nat) (M' : Nat → Nat → Int), l + c = n → sx_mok cl_ly M' → (∀ a, a < 128 → a ≠ 19 → M' a = M a) → rz_fin (wx_V M (vt_gv M (M 20) c l)) L xs 61 2 4 (wx_v 0 (wx_p M l : Int)) [] M' := by
  intro c
  induction c with
  | zero =>
    intro l M' hl hm h
    have e14 := h 14 (by decide) (by decide)
    have ep : wx_p M l = (M 14 7).toNat := by
      have := congrArg List.length hD
      rw [yh_D_len] at this
      rw [show l = n by omega]
      exact this.symm
    refine qs_use (zs := [0, (wx_p M l : Int), M 14 7]) wx8_c hL hm (qs_in ⟨Int.le_refl 0, (show (0 : Int) ≤ 128 by decide)⟩ (qs_in (show 0 ≤ (wx_p M l : Int) ∧ (wx_p M l : Int) ≤ 256 by omega) (qs_rd (show (0 : Int) ≤ 7 by decide) (by rw [e14]; rfl) h14 (qs_ge (show ¬ (wx_p M l : Int) < M 14 7 by omega) (qs_fin rfl))))) (Nat.le_refl _) rfl rfl (qs_c (fun M2 hm2 hc2 hM => ?_) qs_z)
    exact ⟨rfl, sx_w0, hm2, fun a ha h19 => (hM a ha).trans (h a ha h19)⟩
  | succ c ih =>
    intro l M' hl hm h
    have e14 := h 14 (by decide) (by decide)
    have e16 := h 16 (by decide) (by decide)
    have e20 := h 20 (by decide) (by decide)
    have hl' : l < n := by omega
    have hcW := wx_cnt hD hc hl'
    obtain ⟨⟨b1, b2, b3, b4⟩, a5, b5, -, pA, pB⟩ := hln l hl'
    obtain ⟨UB, hUB⟩ := Option.isSome_iff_exists.mp (b5 (M 20))
    have lB : (vt_B M l).length = (M 71 l - M 70 l).toNat := yr_L_len _ _ _
    have lA : (vt_A M l).length = (M 70 l - yj_f M 0 l).toNat := yr_L_len _ _ _
    have nB : UB ≠ [] := vt_sr_ne _ _ hUB (Or.inl (fun e => by rw [e] at lB; have lB : 0 = (M 71 l - M 70 l).toNat := lB; omega))
    by_cases c1 : M 70 l = yj_f M 0 l
    · -- no test
      have eW := wx_W1 c1
      have lW : (wx_W M l).length = (vt_B M l).length + 1 := by rw [eW, List.length_append]; rfl
      have cB : vt_c (vt_B M l) ≤ 121 := by rw [eW, vt_c_app] at hcW; omega
      show rz_fin (wx_V M (if M 70 l = yj_f M 0 l ∨ vt_val (M 20) (vt_A M l) ≠ 0 then vt_val (M 20) (vt_B M l) else vt_gv M (M 20) c (l + 1))) L xs 61 2 4 (wx_v 0 (wx_p M l : Int)) [] M'
      rw [if_pos (Or.inl c1), vt_val_some hUB]
      obtain ⟨g1, g2⟩ := wx_at hD hl' (k := (vt_B M l).length) (by omega)
      have hUl : UB.length ≤ 128 := by
        have := wx_len _ _ hUB
        have e0 : ([] : List Int).length = 0 := rfl
        omega
      refine wx_run hL (vt_B M l) [] UB (wx_p M l) M' hm rfl (by rw [e14]; omega) (fun k hk => ?_) pB (by show 0 + _ ≤ 128; omega) (by rw [e20]; exact hUB) (fun M2 hm2 f2 hS2 => ?_)
      · rw [e16, (wx_at hD hl' (k := k) (by omega)).1, eW, vt_gl hk]
      · refine wx_end (M := M) hL hm2 (fun a ha h19 => (f2 a ha h19).trans (h a ha h19)) hS2 nB (by omega) ?_ hUl
        rw [g1, eW, show (vt_B M l).length = (vt_B M l).length + 0 from rfl, vt_gr]
        rfl
    · obtain ⟨UA, hUA⟩ := Option.isSome_iff_exists.mp (a5 (M 20))
      have nA : UA ≠ [] := vt_sr_ne _ _ hUA (Or.inl (fun e => by rw [e] at lA; have lA : 0 = (M 70 l - yj_f M 0 l).toNat := lA; omega))
      have eW := wx_W2 c1
      have lW : (wx_W M l).length = (vt_A M l).length + (2 + ((vt_B M l).length + 1)) := by
        rw [eW]
        simp only [List.length_append, List.length_cons, List.length_nil]
      have ep := wx_p_succ M l
      rw [lW] at ep
      have cAB : vt_c (vt_A M l) ≤ 121 ∧ vt_c (vt_B M l) ≤ 121 := by
        rw [eW, vt_c_app, vt_c_app, vt_c_app] at hcW
        omega
      have hUl : UA.length ≤ 128 ∧ UB.length ≤ 128 := by
        have h1 := wx_len _ _ hUA
        have h2 := wx_len _ _ hUB
        have e0 : ([] : List Int).length = 0 := rfl
        omega
      obtain ⟨g1, g2⟩ := wx_at hD hl' (k := (vt_A M l).length) (by omega)
      obtain ⟨k1, k2⟩ := wx_at hD hl' (k := (vt_A M l).length + 1) (by omega)
      have q1 : M 16 (wx_p M l + (vt_A M l).length) = -63 := by
        rw [g1, eW, show (vt_A M l).length = (vt_A M l).length + 0 from rfl, vt_gr]
        rfl
      have q2 : M 16 (wx_p M l + (vt_A M l).length + 1) = (wx_p M (l + 1) : Int) := by
        rw [Nat.add_assoc, k1, eW, vt_gr]
        rfl
      have q3 : ∀ k, k < (vt_B M l).length → M 16 (wx_p M l + (vt_A M l).length + 2 + k) = (vt_B M l).getD k 0 := fun k hk => by
        rw [show wx_p M l + (vt_A M l).length + 2 + k = wx_p M l + ((vt_A M l).length + (2 + k)) by omega, (wx_at hD hl' (k := (vt_A M l).length + (2 + k)) (by omega)).1, eW, vt_gr, show 2 + k = ([-63, (wx_p M (l + 1) : Int)] : List Int).length + k from rfl, vt_gr, vt_gl hk]
      have q4 : M 16 (wx_p M l + (vt_A M l).length + 2 + (vt_B M l).length) = -59 := by
        rw [show wx_p M l + (vt_A M l).length + 2 + (vt_B M l).length = wx_p M l + ((vt_A M l).length + (2 + (vt_B M l).length)) by omega, (wx_at hD hl' (k := (vt_A M l).length + (2 + (vt_B M l).length)) (by omega)).1, eW, vt_gr, show 2 + (vt_B M l).length = ([-63, (wx_p M (l + 1) : Int)] : List Int).length + (vt_B M l).length from rfl, vt_gr, show (vt_B M l).length = (vt_B M l).length + 0 from rfl, vt_gr]
        rfl
      obtain ⟨m1, m2⟩ := wx_at hD hl' (k := (vt_A M l).length + (2 + (vt_B M l).length)) (by omega)
      show rz_fin (wx_V M (if M 70 l = yj_f M 0 l ∨ vt_val (M 20) (vt_A M l) ≠ 0 then vt_val (M 20) (vt_B M l) else vt_gv M (M 20) c (l + 1))) L xs 61 2 4 (wx_v 0 (wx_p M l : Int)) [] M'
      refine wx_run hL (vt_A M l) [] UA (wx_p M l) M' hm rfl (by rw [e14]; omega) (fun k hk => ?_) pA (by show 0 + _ ≤ 128; omega) (by rw [e20]; exact hUA) (fun M2 hm2 f2 hS2 => ?_)
      · rw [e16, (wx_at hD hl' (k := k) (by omega)).1, eW, vt_gl hk]
      · have r2 : ∀ a, a < 128 → a ≠ 19 → M2 a = M a := fun a ha h19 => (f2 a ha h19).trans (h a ha h19)
        have w := wx_19 hm2 (i := 0) (by decide)
        have w0 := wu_bot hS2 nA
        rw [w0] at w
        have d14 := r2 14 (by decide) (by decide)
        have d16 := r2 16 (by decide) (by decide)
        obtain ⟨i1, hi1⟩ : ∃ i1 : Nat, i1 = wx_p M l + (vt_A M l).length := ⟨_, rfl⟩
        rw [← hi1] at q1 q2 q3 q4 g2 ⊢
        have b16 := wx_16 hm2 (i := i1 + 1) (by omega)
        rw [d16, q2] at b16
        refine qs_use (zs := [(UA.length : Int), (i1 : Int), M 14 7, -63, UA.getLastD 0, (wx_p M (l + 1) : Int)]) wx7_c hL hm2 (qs_in (show 0 ≤ (UA.length : Int) ∧ (UA.length : Int) ≤ 128 by omega) (qs_in (show 0 ≤ (i1 : Int) ∧ (i1 : Int) ≤ 254 by omega) (qs_rd (show (0 : Int) ≤ 7 by decide) (by rw [d14]; rfl) (show 2 ≤ M 14 7 ∧ M 14 7 ≤ 256 by omega) (qs_rd (show 0 ≤ (i1 : Int) by omega) (by rw [d16]; exact q1) ⟨Int.le_refl _, Int.le_refl _⟩ (qs_lt (show (i1 : Int) + 1 < M 14 7 by omega) (qs_rd (Int.le_refl 0) w0 w (qs_rd (show 0 ≤ (i1 : Int) + 1 by omega) (show M2 16 ((i1 : Int) + 1).toNat = _ by rw [d16, show ((i1 : Int) + 1).toNat = i1 + 1 by omega]; exact q2) (show 0 ≤ (wx_p M (l + 1) : Int) ∧ (wx_p M (l + 1) : Int) ≤ 9999 from ⟨by omega, b16.2⟩) (qs_lt (show (i1 : Int) + 1 < (wx_p M (l + 1) : Int) by omega) (qs_fin rfl))))))))) (Nat.le_refl _) rfl rfl (qs_c (fun M3 hm3 hc3 hM3 => ?_) (qs_c (fun M3 hm3 hc3 hM3 => ?_) qs_z))
        · have c3 : 0 ≤ UA.getLastD 0 ∧ UA.getLastD 0 ≤ 0 := hc3.1
          rw [if_neg (by rw [vt_val_some hUA]; omega)]
          exact ih (l + 1) M3 (by omega) hm3 (fun a ha h19 => (hM3 a ha).trans (r2 a ha h19))
        · have c3 : UA.getLastD 0 ≠ 0 := hc3.1
          rw [if_pos (Or.inr (by rw [vt_val_some hUA]; exact c3)), vt_val_some hUB]
          have r3 : ∀ a, a < 128 → a ≠ 19 → M3 a = M a := fun a ha h19 => (hM3 a ha).trans (r2 a ha h19)
          have t14 := r3 14 (by decide) (by decide)
          have t16 := r3 16 (by decide) (by decide)
          have t20 := r3 20 (by decide) (by decide)
          have := wx_run (xs := xs) (Q := wx_V M (UB.getLastD 0)) hL (vt_B M l) [] UB (i1 + 2) M3 hm3 rfl (by rw [t14]; omega) (fun k hk => by rw [t16]; exact q3 k hk) pB (by show 0 + _ ≤ 128; omega) (by rw [t20]; exact hUB) (fun M4 hm4 f4 hS4 => wx_end (M := M) hL hm4 (fun a ha h19 => (f4 a ha h19).trans (r3 a ha h19)) hS4 nB (by omega) q4 hUl.2)
          rw [show ((i1 + 2 : Nat) : Int) = (i1 : Int) + 2 by omega] at this
          exact this
/-- the class's law gives what its lines give -/
theorem wx_worked {n : Nat} (hL : L < 2 ^ 31) (hm : sx_mok cl_ly M) (hD : yh_D (M 16) (M 14 7).toNat = yj_P M 0 0 n 0) (hc : vt_c (yh_D (M 16) (M 14 7).toNat) ≤ 121) (hln : ∀ l, l < n → vt_ln M l) : rz_fin (wx_V M (vt_gv M (M 20) n 0)) L xs 61 2 0 [(0, .ref 14)] [] M := by
  refine qs_use (zs := []) (lv := [(0, 2, 0, 14)]) (s := []) wx0_c hL hm (qs_fin rfl) (Nat.le_refl _) rfl rfl (qs_c (fun M2 hm2 hc2 hM => ?_) qs_z)
  exact wx_lines hL hD hc (wx_7 hm) hln n 0 M2 (by omega) hm2 (fun a ha _ => hM a ha)
end
