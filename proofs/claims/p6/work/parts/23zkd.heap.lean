/-! The class's text on the heap; settle, endOperand. -/
section
variable {L : Nat} {xs : Nat → Int32} {M M' M0 M1 M2 : Nat → Nat → Int} {ρ ρ' : Nat → Int} {t : sx_S} {Q : Option Value → (Nat → Nat → Int) → Prop}
def yh_P (f : Nat → Int) : Nat → List Int
  | 0 => []
  | n + 1 => f n :: yh_P f n
def yh_D (f : Nat → Int) : Nat → List Int
  | 0 => []
  | n + 1 => yh_D f n ++ [f n]
theorem yh_P_len (f : Nat → Int) : ∀ n, (yh_P f n).length = n := by
  intro n
  induction n with
  | zero => rfl
  | succ n ih => show (yh_P f n).length + 1 = n + 1; rw [ih]
theorem yh_D_len (f : Nat → Int) : ∀ n, (yh_D f n).length = n := by
  intro n
  induction n with
  | zero => rfl
  | succ n ih =>
    show (yh_D f n ++ [f n]).length = n + 1
    rw [List.length_append, ih]
    rfl
theorem yh_P_on {f g : Nat → Int} : ∀ {n : Nat}, (∀ k, k < n → g k = f k) → yh_P g n = yh_P f n := by
  intro n
  induction n with
  | zero => intro _; rfl
  | succ n ih =>
    intro h
    show g n :: yh_P g n = f n :: yh_P f n
    rw [h n (by omega), ih (fun k hk => h k (by omega))]
theorem yh_D_on {f g : Nat → Int} : ∀ {n : Nat}, (∀ k, k < n → g k = f k) → yh_D g n = yh_D f n := by
  intro n
  induction n with
  | zero => intro _; rfl
  | succ n ih =>
    intro h
    show yh_D g n ++ [g n] = yh_D f n ++ [f n]
    rw [h n (by omega), ih (fun k hk => h k (by omega))]
theorem yh_D_get {f : Nat → Int} : ∀ {n k : Nat}, k < n → (yh_D f n).getD k 0 = f k := by
  intro n
  induction n with
  | zero => intro k h; omega
  | succ n ih =>
    intro k h
    show (yh_D f n ++ [f n]).getD k 0 = f k
    rw [List.getD_eq_getElem?_getD]
    by_cases e : k = n
    · subst e
      rw [List.getElem?_append_right (by rw [yh_D_len]; exact Nat.le_refl _), yh_D_len, Nat.sub_self]
      rfl
    · rw [List.getElem?_append_left (by rw [yh_D_len]; omega), ← List.getD_eq_getElem?_getD]
      exact ih (by omega)
theorem yh_D_set {f g : Nat → Int} {v : Int} {k : Nat} (hk : g k = v) (hg : ∀ i, i ≠ k → g i = f i) : ∀ {n : Nat}, k < n → yh_D g n = (yh_D f n).set k v := by
  intro n
  induction n with
  | zero => intro h; omega
  | succ n ih =>
    intro h
    show yh_D g n ++ [g n] = (yh_D f n ++ [f n]).set k v
    by_cases e : k = n
    · subst e
      rw [List.set_append_right _ _ (by rw [yh_D_len]; exact Nat.le_refl _), yh_D_len, Nat.sub_self, hk, yh_D_on (fun i hi => hg i (by omega))]
      rfl
    · rw [List.set_append_left _ _ (by rw [yh_D_len]; omega), ih (by omega), hg n (by omega)]
theorem yh_Dn {f g : Nat → Int} {z z' v : Int} (h0 : 0 ≤ z) (hz : z' = z + 1) (hg : ∀ k : Nat, (k : Int) < z → g k = f k) (hv : g z.toNat = v) : yh_D g z'.toNat = yh_D f z.toNat ++ [v] := by
  rw [show z'.toNat = z.toNat + 1 by omega]
  show yh_D g z.toNat ++ [g z.toNat] = _
  rw [hv, yh_D_on (fun k hk => hg k (by omega))]
theorem yh_Pn {f g : Nat → Int} {z z' v : Int} (h0 : 0 ≤ z) (hz : z' = z + 1) (hg : ∀ k : Nat, (k : Int) < z → g k = f k) (hv : g z.toNat = v) : yh_P g z'.toNat = v :: yh_P f z.toNat := by
  rw [show z'.toNat = z.toNat + 1 by omega]
  show g z.toNat :: yh_P g z.toNat = _
  rw [hv, yh_P_on (fun k hk => hg k (by omega))]
theorem yh_Pt {f g : Nat → Int} {z z' : Int} (h1 : 1 ≤ z) (hz : z' = z - 1) (hg : ∀ k : Nat, (k : Int) < z' → g k = f k) : yh_P f z.toNat = f z'.toNat :: yh_P g z'.toNat := by
  rw [show z.toNat = z'.toNat + 1 by omega, yh_P_on (f := f) (g := g) (n := z'.toNat) (fun k hk => hg k (by omega))]
  rfl
noncomputable def yh_s (M : Nat → Nat → Int) : yk_S := (yh_D (M 17) (M 14 8).toNat, yh_P (M 18) (M 14 9).toNat, M 14 10, M 14 11, M 14 12, M 14 13, M 14 14, decide (M 14 15 = 1))
/-- what the signs' methods may change -/
def yh_f (M M' : Nat → Nat → Int) : Prop := (∀ a, a < 128 → a ≠ 14 → a ≠ 17 → a ≠ 18 → M' a = M a) ∧ ∀ j, ¬ (8 ≤ j ∧ j ≤ 15) → M' 14 j = M 14 j
theorem yh_f_tr (h1 : yh_f M0 M1) (h2 : yh_f M1 M2) : yh_f M0 M2 := ⟨fun a h a1 a2 a3 => (h2.1 a h a1 a2 a3).trans (h1.1 a h a1 a2 a3), fun j h => (h2.2 j h).trans (h1.2 j h)⟩
theorem yh_f_rf : yh_f M M := ⟨fun _ _ _ _ _ => rfl, fun _ _ => rfl⟩
theorem yh_f_on (h : yh_f M0 M) (e : ∀ a, a < 128 → M' a = M a) : yh_f M0 M' := ⟨fun a ha a1 a2 a3 => by rw [e a ha]; exact h.1 a ha a1 a2 a3, fun j hj => by rw [e 14 (by decide)]; exact h.2 j hj⟩
/-- the heap holds the state s, behind i signs -/
def yh_W (i : Int) (s : yk_S) (M : Nat → Nat → Int) : Prop := sx_mok cl_ly M ∧ 0 ≤ M 14 8 ∧ 0 ≤ M 14 9 ∧ yh_s M = s ∧ yk_inv i s
theorem yh_W_on {i : Int} {s : yk_S} (h : yh_W i s M) (hm : sx_mok cl_ly M') (e : ∀ a, a < 128 → M' a = M a) : yh_W i s M' := by
  obtain ⟨h1, h2, h3, h4, h5⟩ := h
  have e14 := e 14 (by decide)
  refine ⟨hm, by rw [e14]; exact h2, by rw [e14]; exact h3, ?_, h5⟩
  unfold yh_s at h4 ⊢
  rw [e14, e 17 (by decide), e 18 (by decide)]
  exact h4
variable {D P : List Int} {o b g n j i z : Int} {due : Bool}
theorem yh_eq (h : yh_s M = (D, P, o, b, g, n, j, due)) : yh_D (M 17) (M 14 8).toNat = D ∧ yh_P (M 18) (M 14 9).toNat = P ∧ M 14 10 = o ∧ M 14 11 = b ∧ M 14 12 = g ∧ M 14 13 = n ∧ M 14 14 = j ∧ decide (M 14 15 = 1) = due := by
  unfold yh_s at h
  simp only [Prod.mk.injEq] at h
  exact h
theorem yh_mk (h1 : yh_D (M 17) (M 14 8).toNat = D) (h2 : yh_P (M 18) (M 14 9).toNat = P) (h3 : M 14 10 = o) (h4 : M 14 11 = b) (h5 : M 14 12 = g) (h6 : M 14 13 = n) (h7 : M 14 14 = j) (h8 : decide (M 14 15 = 1) = due) : yh_s M = (D, P, o, b, g, n, j, due) := by
  unfold yh_s
  rw [h1, h2, h3, h4, h5, h6, h7, h8]
/-- within which bounds all lies -/
theorem yh_bd (h : yh_W i (D, P, o, b, g, n, j, due) M) (hi : i ≤ 120) : (0 ≤ M 14 8 ∧ M 14 8 ≤ 240) ∧ (0 ≤ M 14 9 ∧ M 14 9 ≤ 120) ∧ (-120 ≤ M 14 10 ∧ M 14 10 ≤ 120) ∧ (0 ≤ M 14 11 ∧ M 14 11 ≤ 120) ∧ (0 ≤ M 14 12 ∧ M 14 12 ≤ 4) ∧ (-1 ≤ M 14 14 ∧ M 14 14 ≤ 255) ∧ (0 ≤ M 14 15 ∧ M 14 15 ≤ 1) ∧ M 14 14 < M 14 8 ∧ (D.length : Int) = M 14 8 ∧ (P.length : Int) = M 14 9 := by
  obtain ⟨h1, h2, h3, h4, i1, i2, i3, i4, i5, i6, i7, i8, i9, i10⟩ := h
  obtain ⟨e1, e2, e3, e4, e5, e6, e7, e8⟩ := yh_eq h4
  have w15 := cx_fld (c := 14) (k := 15) (lo := 0) (hi := 1) h1 (by decide +kernel)
  have l1 : (D.length : Int) = M 14 8 := by rw [← e1, yh_D_len]; omega
  have l2 : (P.length : Int) = M 14 9 := by rw [← e2, yh_P_len]; omega
  have i2 : (P.length : Int) ≤ i := i2
  have i3 : (D.length : Int) + (P.length : Int) ≤ 2 * i := i3
  have i4 : 0 ≤ b := i4
  have i5 : b ≤ yk_cp yk_p1 P := i5
  have i6 : o ≤ yk_cp yk_p3 P := i6
  have i7 : yk_cp yk_p3 P - i ≤ o := i7
  have i8 : -1 ≤ j := i8
  have i9 : j < (D.length : Int) := i9
  have c1 := yk_cp_r yk_p1 P
  have c3 := yk_cp_r yk_p3 P
  have g5 : 0 ≤ M 14 12 ∧ M 14 12 ≤ 4 := by
    rw [e5]
    have i10 : yk_dg D g n := i10
    unfold yk_dg at i10
    omega
  refine ⟨⟨h2, by omega⟩, ⟨h3, by omega⟩, ⟨by omega, by omega⟩, ⟨by omega, by omega⟩, g5, ⟨by omega, by omega⟩, w15, by omega, l1, l2⟩
-- the start of a walk: 9 the sign, 10 steps, 11 waiting, 12 open, 13 brackets, 14 digits, 15 numberAt, 16 jumpAt, 17 due
def yt_f (w g n d : Int × Int) : List ct_G := [(14, 8, (0, 240)), (14, 9, w), (14, 10, (-120, 120)), (14, 11, (0, 120)), (14, 12, g), (14, 13, n), (14, 14, (-1, 255)), (14, 15, d)]
noncomputable def yt_t (s w g n d : Int × Int) : sx_S := og_t [(0, s)] (yt_f w g n d)
theorem yt_sat {s w gg nn d : Int × Int} (hL : L < 2 ^ 31) (hW : yh_W i (D, P, o, b, g, n, j, due) M) (hi : i ≤ 120) (hz : sx_w s z) (z32 : sx_w sx_r32 z) (hw : sx_w w (M 14 9)) (hg : sx_w gg (M 14 12)) (hn : sx_w nn (M 14 13)) (hd : sx_w d (M 14 15)) : ∃ ρ : Nat → Int, sx_sat cl_ly (0, -100) xs L M ρ M (yt_t s w gg nn d) ∧ (yt_t s w gg nn d).1 = 18 ∧ ρ 9 = z ∧ ρ 10 = M 14 8 ∧ ρ 11 = M 14 9 ∧ ρ 12 = M 14 10 ∧ ρ 13 = M 14 11 ∧ ρ 14 = M 14 12 ∧ ρ 15 = M 14 13 ∧ ρ 16 = M 14 14 ∧ ρ 17 = M 14 15 := by
  obtain ⟨b1, b2, b3, b4, b5, b6, b7, -⟩ := yh_bd hW hi
  have hm := hW.1
  have f : ∀ k, 8 ≤ k → k ≤ 15 → sx_w sx_r64 (M 14 k) := fun k h1 h2 => by
    have : k = 8 ∨ k = 9 ∨ k = 10 ∨ k = 11 ∨ k = 12 ∨ k = 13 ∨ k = 14 ∨ k = 15 := by omega
    rcases this with rfl | rfl | rfl | rfl | rfl | rfl | rfl | rfl
    · exact sx_32_64 (cv_ly_ok (g := (14, 8, sx_r32)) hm (by decide +kernel))
    · exact sx_32_64 (cv_ly_ok (g := (14, 9, sx_r32)) hm (by decide +kernel))
    · exact sx_32_64 (cv_ly_ok (g := (14, 10, sx_r32)) hm (by decide +kernel))
    · exact sx_32_64 (cv_ly_ok (g := (14, 11, sx_r32)) hm (by decide +kernel))
    · exact sx_32_64 (cv_ly_ok (g := (14, 12, sx_r32)) hm (by decide +kernel))
    · exact sx_32_64 (cv_ly_ok (g := (14, 13, sx_r32)) hm (by decide +kernel))
    · exact sx_32_64 (cv_ly_ok (g := (14, 14, sx_r32)) hm (by decide +kernel))
    · exact sx_32_64 (cv_ly_ok (g := (14, 15, sx_r32)) hm (by decide +kernel))
  obtain ⟨ρ, s1, e1, e2, e3⟩ := og_sat (xs := xs) (gs := [(0, s)]) (zs := [z]) (fs := yt_f w gg nn d) hL hm ⟨⟨Nat.zero_le _, hz, fun _ => z32, sx_32_64 z32⟩, trivial⟩ (fun q hq => by
    simp only [yt_f, List.mem_cons, List.not_mem_nil, or_false] at hq
    rcases hq with rfl | rfl | rfl | rfl | rfl | rfl | rfl | rfl
    · exact ⟨Nat.le_of_ble_eq_true rfl, b1, f 8 (by decide) (by decide)⟩
    · exact ⟨Nat.le_of_ble_eq_true rfl, hw, f 9 (by decide) (by decide)⟩
    · exact ⟨Nat.le_of_ble_eq_true rfl, b3, f 10 (by decide) (by decide)⟩
    · exact ⟨Nat.le_of_ble_eq_true rfl, b4, f 11 (by decide) (by decide)⟩
    · exact ⟨Nat.le_of_ble_eq_true rfl, hg, f 12 (by decide) (by decide)⟩
    · exact ⟨Nat.le_of_ble_eq_true rfl, hn, f 13 (by decide) (by decide)⟩
    · exact ⟨Nat.le_of_ble_eq_true rfl, b6, f 14 (by decide) (by decide)⟩
    · exact ⟨Nat.le_of_ble_eq_true rfl, hd, f 15 (by decide) (by decide)⟩)
  exact ⟨ρ, s1, e1, e2 0 _ rfl, e3 0 _ rfl, e3 1 _ rfl, e3 2 _ rfl, e3 3 _ rfl, e3 4 _ rfl, e3 5 _ rfl, e3 6 _ rfl, e3 7 _ rfl⟩
/-- the same, with the sign on top read: 18 -/
noncomputable def yt_p (s w g n d : Int × Int) (p : Int) : sx_S := (sx_frl (yt_t s w g n d) 18 (11, -1) (p, p)).2
theorem yt_psat {s w gg nn d : Int × Int} {p : Int} (hL : L < 2 ^ 31) (hW : yh_W i (D, P, o, b, g, n, j, due) M) (hi : i ≤ 120) (hz : sx_w s z) (z32 : sx_w sx_r32 z) (hw : sx_w w (M 14 9)) (hg : sx_w gg (M 14 12)) (hn : sx_w nn (M 14 13)) (hd : sx_w d (M 14 15)) (h1 : 1 ≤ M 14 9) (hp : M 18 (M 14 9 - 1).toNat = p) (hps : 0 ≤ p ∧ p ≤ 255) : ∃ ρ : Nat → Int, sx_sat cl_ly (0, -100) xs L M ρ M (yt_p s w gg nn d p) ∧ (yt_p s w gg nn d p).1 = 19 ∧ ρ 9 = z ∧ ρ 10 = M 14 8 ∧ ρ 11 = M 14 9 ∧ ρ 12 = M 14 10 ∧ ρ 13 = M 14 11 ∧ ρ 14 = M 14 12 ∧ ρ 15 = M 14 13 ∧ ρ 16 = M 14 14 ∧ ρ 17 = M 14 15 ∧ ρ 18 = p := by
  obtain ⟨ρ, s1, e1, r9, r10, r11, r12, r13, r14, r15, r16, r17⟩ := yt_sat (xs := xs) hL hW hi hz z32 hw hg hn hd
  have v11 : sx_val ρ (11, -1) = M 14 9 - 1 := og_vv r11
  obtain ⟨ρ2, x2, s2, r18⟩ := tg_rd (k := 18) (i := (11, -1)) (r := (p, p)) (n := 18) s1 e1 (by decide) (by decide) (by rw [v11]; omega) (by rw [v11, hp]; exact ⟨Int.le_refl _, Int.le_refl _⟩) (by rw [v11, hp, sx_r64_iff]; omega)
  rw [v11, hp] at r18
  have y : ∀ {k : Nat} {q : Int}, ρ k = q → k < 18 → ρ2 k = q := fun h hk => by rw [x2 _ hk]; exact h
  refine ⟨ρ2, s2, ?_, y r9 (by decide), y r10 (by decide), y r11 (by decide), y r12 (by decide), y r13 (by decide), y r14 (by decide), y r15 (by decide), y r16 (by decide), y r17 (by decide), r18⟩
  show (yt_t s w gg nn d).1 + 1 = 19
  rw [e1]
/-- what was written, read off -/
theorem yw_n (h0 : ρ 0 = 0) (c : Nat) : (sx_val ρ (0, (c : Int))).toNat = c := by
  rw [og_c h0]; exact Int.toNat_natCast c
-- settle
def ys_T (p : Int) : List og_T := [(some 0, none, [], [(0, 2, 0, 14), (1, 0, 9, 0)], [(14, (0, 8), (10, 1)), (17, (10, 0), (0, -p)), (14, (0, 9), (11, -1))], [og_b 9 1 (yk_rank p)]), (none, none, [], [], [], [og_b 9 (yk_rank p + 1) 5])]
theorem ys_c : (yk_sg.all fun p => gs_chk (fun pc => Nat.beq pc 0) (fun q => (ys_T p).any (og_chk (yt_p (1, 5) (1, 120) (0, 4) sx_r32 (0, 1) p) q)) 300 300 5 45 1 tl_1 ts_0 (yt_p (1, 5) (1, 120) (0, 4) sx_r32 (0, 1) p)) = true := by decide +kernel
theorem ys_c0 : gs_chk (fun pc => Nat.beq pc 0) (fun q => [((none, none, [], [], [], []) : og_T)].any (og_chk (yt_t (1, 5) (0, 0) (0, 4) sx_r32 (0, 1)) q)) 300 300 5 45 1 tl_1 ts_0 (yt_t (1, 5) (0, 0) (0, 4) sx_r32 (0, 1)) = true := by decide +kernel
theorem yw_13 (hm : sx_mok cl_ly M) : sx_w sx_r32 (M 14 13) := cv_ly_ok (g := (14, 13, sx_r32)) hm (by decide +kernel)
theorem yk_sg_r {p : Int} (h : p ∈ yk_sg) : 0 ≤ p ∧ p ≤ 255 := by
  simp only [yk_sg, List.mem_cons, List.not_mem_nil, or_false] at h
  omega
theorem yk_sd_cons {r p : Int} (h : r ≤ yk_rank p) : yk_sd r D (p :: P) = yk_sd r (D ++ [-p]) P ∧ yk_sp r (p :: P) = yk_sp r P := by
  have h := yk_ge_iff.mpr h
  unfold yk_sd yk_sp
  rw [List.takeWhile_cons, List.dropWhile_cons, h, if_pos rfl, if_pos rfl]
  refine ⟨?_, rfl⟩
  show D ++ (-p :: _) = _
  rw [List.append_assoc]
  rfl
theorem yk_sd_stop {r p : Int} (h : yk_rank p < r) : yk_sd r D (p :: P) = D ∧ yk_sp r (p :: P) = p :: P := by
  have h : yk_ge r p = false := decide_eq_false (by omega)
  unfold yk_sd yk_sp
  rw [List.takeWhile_cons, List.dropWhile_cons, h]
  exact ⟨List.append_nil _, rfl⟩
/-- an answer: the state then -/
def yh_V (i : Int) (M0 : Nat → Nat → Int) (s : yk_S) (r : Option Value) (M' : Nat → Nat → Int) : Prop := r = none ∧ yh_f M0 M' ∧ yh_W i s M'
theorem yt_l1 {m : Nat} (hc : ∀ c, sx_ok ρ m (2, 0, c)) (h : 9 < m) (r9 : ρ 9 = z) (w : sx_w sx_r32 z) : sx_okl ρ m tl_1 ∧ sx_cl1 ρ tl_1 = tv_r z := ⟨tl_okl (hc 14) h (by rw [r9]; exact w), tv_el r9⟩
theorem yk_sub_inv {X : List Int} {p : Int} (h : yk_inv i (D, p :: P, o, b, g, n, j, due)) (hp : yk_rank p ≠ 0) : yk_inv i (D ++ [-p], P, o, b, g, n, j, due) := by
  obtain ⟨h1, h2, h3, h4, h5, h6, h7, h8, h9, h10⟩ := h
  obtain ⟨-, q1, q3⟩ := yk_ops hp
  have h2 : ((p :: P).length : Int) ≤ i := h2
  have h3 : (D.length : Int) + ((p :: P).length : Int) ≤ 2 * i := h3
  have h5 : b ≤ yk_cp yk_p1 (p :: P) := h5
  have h6 : o ≤ yk_cp yk_p3 (p :: P) := h6
  have h7 : yk_cp yk_p3 (p :: P) - i ≤ o := h7
  have h9 : j < (D.length : Int) := h9
  rw [yk_cp_cons, q1] at h5
  rw [yk_cp_cons, q3] at h6 h7
  rw [List.length_cons] at h2 h3
  have el : ((D ++ [-p]).length : Int) = (D.length : Int) + 1 := by rw [List.length_append]; show ((D.length + 1 : Nat) : Int) = _; omega
  have z0 : (if false = true then (1 : Int) else 0) = 0 := rfl
  rw [z0] at h5 h6 h7
  exact yk_inv_mk (fun q hq => h1 q (List.mem_cons_of_mem _ hq)) (by omega) (by omega) h4 (by omega) (by omega) (by omega) h8 (by omega) (yk_dg_app h10 _)
theorem ys_all (hL : L < 2 ^ 31) (hi : i ≤ 120) (hz : 1 ≤ z ∧ z ≤ 5) : ∀ (m : Nat) (D P : List Int) (M : Nat → Nat → Int), (M 14 9).toNat = m → yh_W i (D, P, o, b, g, n, j, due) M → rz_fin (yh_V i M (yk_sd z D P, yk_sp z P, o, b, g, n, j, due)) L xs 45 5 0 (tv_r z) [] M := by
  have z32 : sx_w sx_r32 z := by rw [sx_r32_iff]; omega
  intro m
  induction m with
  | zero =>
    intro D P M hm hW
    obtain ⟨b1, b2, b3, b4, b5, b6, b7, b8, b9, b10⟩ := yh_bd hW hi
    have hP : P = [] := List.eq_nil_of_length_eq_zero (by omega)
    subst hP
    refine rz_al tk_f45 rfl ?_
    obtain ⟨ρ, s, e1, r9, -⟩ := yt_sat (xs := xs) (w := (0, 0)) (gg := (0, 4)) (nn := sx_r32) (d := (0, 1)) hL hW hi (s := (1, 5)) hz z32 ⟨b2.1, by show M 14 9 ≤ (0 : Int); omega⟩ b5 (yw_13 hW.1) b7
    obtain ⟨okl, el⟩ := yt_l1 (m := (yt_t (1, 5) (0, 0) (0, 4) sx_r32 (0, 1)).1) (fun c => sx_ck2 s c) (by rw [e1]; decide) r9 z32
    refine og_use (lv := tl_1) (s := ts_0) ys_c0 (by decide +kernel) s okl (fun v hv => by rw [List.mem_singleton.mp hv]; exact sx_ck2 s _) (Nat.le_refl _) el rfl (fun T hT ρ' M' x h0 hm' hc hM => ?_)
    rw [List.mem_singleton.mp hT] at hM ⊢
    rw [show yk_sd z D [] = D from List.append_nil D, show yk_sp z [] = [] from rfl]
    exact ⟨rfl, yh_f_on yh_f_rf hM, yh_W_on hW hm' hM⟩
  | succ m ih =>
    intro D P M hm hW
    obtain ⟨b1, b2, b3, b4, b5, b6, b7, b8, b9, b10⟩ := yh_bd hW hi
    have h1 : 1 ≤ M 14 9 := by omega
    obtain ⟨e1, e2, e3, e4, e5, e6, e7, e8⟩ := yh_eq hW.2.2.2.1
    obtain ⟨p, hp⟩ : ∃ p, M 18 (M 14 9 - 1).toNat = p := ⟨_, rfl⟩
    have eP := yh_Pt (f := M 18) (g := M 18) h1 rfl (fun _ _ => rfl)
    rw [hp, e2] at eP
    have psg : p ∈ yk_sg := hW.2.2.2.2.1 p (by rw [eP]; exact List.mem_cons_self)
    refine rz_al tk_f45 rfl ?_
    obtain ⟨ρ, s, n1, r9, r10, r11, r12, r13, r14, r15, r16, r17, r18⟩ := yt_psat (xs := xs) (w := (1, 120)) (gg := (0, 4)) (nn := sx_r32) (d := (0, 1)) hL hW hi (s := (1, 5)) hz z32 ⟨h1, b2.2⟩ b5 (yw_13 hW.1) b7 h1 hp (yk_sg_r psg)
    obtain ⟨okl, el⟩ := yt_l1 (m := (yt_p (1, 5) (1, 120) (0, 4) sx_r32 (0, 1) p).1) (fun c => sx_ck2 s c) (by rw [n1]; decide) r9 z32
    refine og_use (Ts := ys_T p) (lv := tl_1) (s := ts_0) (List.all_eq_true.mp ys_c p psg) (by
      have : (yk_sg.all fun p => (ys_T p).all fun T => mt_nd (T.2.2.2.1.map fun q => q.1)) = true := by decide +kernel
      exact List.all_eq_true.mp this p psg) s okl (fun v hv => by rw [List.mem_singleton.mp hv]; exact sx_ck2 s _) (Nat.le_refl _) el rfl (fun T hT ρ' M' x h0 hm' hc hM => ?_)
    rw [n1] at x
    have q9 := og_v x (show 9 < 19 by decide) r9
    have q10 := og_v x (show 10 < 19 by decide) r10
    have q11 := og_v x (show 11 < 19 by decide) r11
    simp only [ys_T, List.mem_cons, List.not_mem_nil, or_false] at hT
    rcases hT with rfl | rfl
    · obtain ⟨⟨c1, c2⟩, -⟩ := hc
      have c2 : sx_val ρ' (9, 0) ≤ yk_rank p := c2
      rw [og_v0 q9] at c2
      have hM : ∀ a, a < 128 → M' a = sx_up (sx_up (sx_up M 14 (sx_val ρ' (0, ((9 : Nat) : Int))).toNat (sx_val ρ' (11, -1))) 17 (sx_val ρ' (10, 0)).toNat (sx_val ρ' (0, -p))) 14 (sx_val ρ' (0, ((8 : Nat) : Int))).toNat (sx_val ρ' (10, 1)) a := hM
      rw [yw_n h0, yw_n h0, og_vv (c := -1) q11, og_v0 q10, og_c h0, og_vv (c := 1) q10] at hM
      have h14 : ∀ k, M' 14 k = if k = 8 then M 14 8 + 1 else if k = 9 then M 14 9 + -1 else M 14 k := fun k => by
        rw [hM 14 (by decide)]
        simp [sx_up]
      have h17 : ∀ k, M' 17 k = if k = (M 14 8).toNat then -p else M 17 k := fun k => by
        rw [hM 17 (by decide)]
        simp [sx_up]
      have hoth : ∀ a, a < 128 → a ≠ 14 → a ≠ 17 → M' a = M a := fun a ha g1 g2 => by
        rw [hM a ha, sh_une g1, sh_une g2, sh_une g1]
      have f8 : M' 14 8 = M 14 8 + 1 := h14 8
      have f9 : M' 14 9 = M 14 9 - 1 := h14 9
      have f : ∀ k, k ≠ 8 → k ≠ 9 → M' 14 k = M 14 k := fun k k8 k9 => by rw [h14 k, if_neg k8, if_neg k9]
      have h18 := hoth 18 (by decide) (by decide) (by decide)
      have hne : yk_rank p ≠ 0 := by omega
      have hi1 : yk_inv i (D, p :: yh_P (M 18) (M 14 9 - 1).toNat, o, b, g, n, j, due) := by
        have := hW.2.2.2.2
        rw [eP] at this
        exact this
      have hW' : yh_W i (D ++ [-p], yh_P (M 18) (M 14 9 - 1).toNat, o, b, g, n, j, due) M' := by
        refine ⟨hm', by omega, by omega, yh_mk ?_ ?_ ?_ ?_ ?_ ?_ ?_ ?_, yk_sub_inv (X := []) hi1 hne⟩
        · rw [← e1]
          exact yh_Dn b1.1 f8 (fun k hk => by rw [h17, if_neg (by omega)]) (by rw [h17, if_pos rfl])
        · rw [f9, h18]
        · rw [f 10 (by decide) (by decide)]; exact e3
        · rw [f 11 (by decide) (by decide)]; exact e4
        · rw [f 12 (by decide) (by decide)]; exact e5
        · rw [f 13 (by decide) (by decide)]; exact e6
        · rw [f 14 (by decide) (by decide)]; exact e7
        · rw [f 15 (by decide) (by decide)]; exact e8
      have el' : sx_cl1 ρ' tl_1 = tv_r z := tv_el q9
      show rz_fin _ L xs 45 5 0 (sx_cl1 ρ' tl_1) [] M'
      rw [el']
      obtain ⟨F, r, M2, f1, rfl, f2, f3⟩ := ih (D ++ [-p]) (yh_P (M 18) (M 14 9 - 1).toNat) M' (by omega) hW'
      obtain ⟨s1, s2⟩ := yk_sd_cons (D := D) (P := yh_P (M 18) (M 14 9 - 1).toNat) (r := z) (p := p) (by omega)
      rw [← s1, ← s2, ← eP] at f3
      exact ⟨F, none, M2, f1, rfl, yh_f_tr ⟨fun a ha a1 a2 _ => hoth a ha a1 a2, fun k hk => f k (by omega) (by omega)⟩ f2, f3⟩
    · obtain ⟨⟨c1, c2⟩, -⟩ := hc
      have c1 : yk_rank p + 1 ≤ sx_val ρ' (9, 0) := c1
      rw [og_v0 q9] at c1
      obtain ⟨s1, s2⟩ := yk_sd_stop (D := D) (P := yh_P (M 18) (M 14 9 - 1).toNat) (r := z) (p := p) (by omega)
      rw [← eP] at s1 s2
      rw [s1, s2]
      exact ⟨rfl, yh_f_on yh_f_rf hM, yh_W_on hW hm' hM⟩
-- endOperand
def ye_T (p : Int) : List og_T := if p = 33 ∨ p = 126 then [(some 5, none, [], [(0, 2, 0, 14)], [(14, (0, 8), (10, 1)), (17, (10, 0), (0, -p)), (14, (0, 10), (12, -1)), (14, (0, 9), (11, -1))], [])] else [(none, none, [], [], [], [])]
theorem ye_c : (yk_sg.all fun p => gs_chk (fun pc => Nat.beq pc 5) (fun q => (ye_T p).any (og_chk (yt_p (0, 0) (1, 120) (0, 4) sx_r32 (0, 0) p) q)) 300 300 5 42 6 tl_0 ts_0 (yt_p (0, 0) (1, 120) (0, 4) sx_r32 (0, 0) p)) = true := by decide +kernel
theorem ye_c0 : gs_chk (fun pc => Nat.beq pc 5) (fun q => [((none, none, [], [], [], []) : og_T)].any (og_chk (yt_t (0, 0) (0, 0) (0, 4) sx_r32 (0, 0)) q)) 300 300 5 42 6 tl_0 ts_0 (yt_t (0, 0) (0, 0) (0, 4) sx_r32 (0, 0)) = true := by decide +kernel
theorem ye_cs : gs_chk (fun pc => Nat.beq pc 5) (fun q => [((some 5, none, [], [(0, 2, 0, 14)], [(14, (0, 15), (0, 0))], []) : og_T)].any (og_chk (og_t [] []) q)) 300 300 5 42 0 tl_0 [] (og_t [] []) = true := by decide +kernel
theorem yk_fd_px {p : Int} (hp : p = 33 ∨ p = 126) : yk_fd D (p :: P) = yk_fd (D ++ [-p]) P ∧ yk_fp (p :: P) = yk_fp P ∧ yk_fo (p :: P) o = yk_fo P (o - 1) := by
  obtain ⟨h1, h2, h3⟩ := yk_fin_px (D := D) (P := P) (o := o - 1) hp
  rw [show o - 1 + 1 = o by omega] at h3
  exact ⟨h1, h2, h3⟩
theorem yk_fd_no {p : Int} (hp : ¬ (p = 33 ∨ p = 126)) : yk_fd D (p :: P) = D ∧ yk_fp (p :: P) = p :: P ∧ yk_fo (p :: P) o = o := by
  have h : yk_px p = false := decide_eq_false hp
  unfold yk_fd yk_fp yk_fo
  rw [List.takeWhile_cons, List.dropWhile_cons, h]
  exact ⟨List.append_nil _, rfl, by show o - ((0 : Nat) : Int) = o; omega⟩
theorem yk_px_inv {p : Int} (h : yk_inv i (D, p :: P, o, b, g, n, j, due)) (hp : p = 33 ∨ p = 126) : yk_inv i (D ++ [-p], P, o - 1, b, g, n, j, due) := by
  obtain ⟨h1, h2, h3, h4, h5, h6, h7, h8, h9, h10⟩ := h
  have h2 : ((p :: P).length : Int) ≤ i := h2
  have h3 : (D.length : Int) + ((p :: P).length : Int) ≤ 2 * i := h3
  have h5 : b ≤ yk_cp yk_p1 (p :: P) := h5
  have h6 : o ≤ yk_cp yk_p3 (p :: P) := h6
  have h7 : yk_cp yk_p3 (p :: P) - i ≤ o := h7
  have h9 : j < (D.length : Int) := h9
  have q1 : yk_p1 p = false := decide_eq_false (by omega)
  have q3 : yk_p3 p = true := decide_eq_true (by omega)
  rw [yk_cp_cons, q1] at h5
  rw [yk_cp_cons, q3] at h6 h7
  rw [List.length_cons] at h2 h3
  have el : ((D ++ [-p]).length : Int) = (D.length : Int) + 1 := by rw [List.length_append]; show ((D.length + 1 : Nat) : Int) = _; omega
  have z0 : (if false = true then (1 : Int) else 0) = 0 := rfl
  have z1 : (if true = true then (1 : Int) else 0) = 1 := rfl
  rw [z0] at h5
  rw [z1] at h6 h7
  exact yk_inv_mk (fun q hq => h1 q (List.mem_cons_of_mem _ hq)) (by omega) (by omega) h4 (by omega) (by omega) (by omega) h8 (by omega) (yk_dg_app h10 _)
theorem ye_all (hL : L < 2 ^ 31) (hi : i ≤ 120) : ∀ (m : Nat) (D P : List Int) (o : Int) (M : Nat → Nat → Int), (M 14 9).toNat = m → yh_W i (D, P, o, b, g, n, j, false) M → rz_fin (yh_V i M (yk_fd D P, yk_fp P, yk_fo P o, b, g, n, j, false)) L xs 42 5 5 [(0, .ref 14)] [] M := by
  intro m
  induction m with
  | zero =>
    intro D P o M hm hW
    obtain ⟨b1, b2, b3, b4, b5, b6, b7, b8, b9, b10⟩ := yh_bd hW hi
    have e8 := (yh_eq hW.2.2.2.1).2.2.2.2.2.2.2
    have e8 := of_decide_eq_false e8
    have hP : P = [] := List.eq_nil_of_length_eq_zero (by omega)
    subst hP
    refine rz_al tk_f42 rfl ?_
    obtain ⟨ρ, s, e1, r9, -⟩ := yt_sat (xs := xs) (z := 0) (w := (0, 0)) (gg := (0, 4)) (nn := sx_r32) (d := (0, 0)) hL hW hi (s := (0, 0)) ⟨by decide, by decide⟩ sx_w0 ⟨b2.1, by show M 14 9 ≤ (0 : Int); omega⟩ b5 (yw_13 hW.1) ⟨b7.1, by show M 14 15 ≤ (0 : Int); omega⟩
    refine og_use (lv := tl_0) (s := ts_0) ye_c0 (by decide +kernel) s (tl_okl0 (sx_ck2 s _)) (fun v hv => by rw [List.mem_singleton.mp hv]; exact sx_ck2 s _) (Nat.le_refl _) rfl rfl (fun T hT ρ' M' x h0 hm' hc hM => ?_)
    rw [List.mem_singleton.mp hT] at hM ⊢
    refine ⟨rfl, yh_f_on yh_f_rf hM, ?_⟩
    have : yk_fo [] o = o := Int.sub_zero o
    rw [this, show yk_fd D [] = D from List.append_nil D]
    exact yh_W_on hW hm' hM
  | succ m ih =>
    intro D P o M hm hW
    obtain ⟨b1, b2, b3, b4, b5, b6, b7, b8, b9, b10⟩ := yh_bd hW hi
    have h1 : 1 ≤ M 14 9 := by omega
    obtain ⟨e1, e2, e3, e4, e5, e6, e7, e8⟩ := yh_eq hW.2.2.2.1
    have e8' := of_decide_eq_false e8
    obtain ⟨p, hp⟩ : ∃ p, M 18 (M 14 9 - 1).toNat = p := ⟨_, rfl⟩
    have eP := yh_Pt (f := M 18) (g := M 18) h1 rfl (fun _ _ => rfl)
    rw [hp, e2] at eP
    have psg : p ∈ yk_sg := hW.2.2.2.2.1 p (by rw [eP]; exact List.mem_cons_self)
    refine rz_al tk_f42 rfl ?_
    obtain ⟨ρ, s, n1, r9, r10, r11, r12, r13, r14, r15, r16, r17, r18⟩ := yt_psat (xs := xs) (z := 0) (w := (1, 120)) (gg := (0, 4)) (nn := sx_r32) (d := (0, 0)) hL hW hi (s := (0, 0)) ⟨by decide, by decide⟩ sx_w0 ⟨h1, b2.2⟩ b5 (yw_13 hW.1) ⟨b7.1, by show M 14 15 ≤ (0 : Int); omega⟩ h1 hp (yk_sg_r psg)
    refine og_use (Ts := ye_T p) (lv := tl_0) (s := ts_0) (List.all_eq_true.mp ye_c p psg) (by
      have : (yk_sg.all fun p => (ye_T p).all fun T => mt_nd (T.2.2.2.1.map fun q => q.1)) = true := by decide +kernel
      exact List.all_eq_true.mp this p psg) s (tl_okl0 (sx_ck2 s _)) (fun v hv => by rw [List.mem_singleton.mp hv]; exact sx_ck2 s _) (Nat.le_refl _) rfl rfl (fun T hT ρ' M' x h0 hm' hc hM => ?_)
    rw [n1] at x
    have q10 := og_v x (show 10 < 19 by decide) r10
    have q11 := og_v x (show 11 < 19 by decide) r11
    have q12 := og_v x (show 12 < 19 by decide) r12
    unfold ye_T at hT
    by_cases hpx : p = 33 ∨ p = 126
    · rw [if_pos hpx] at hT
      rw [List.mem_singleton.mp hT] at hM ⊢
      have hM : ∀ a, a < 128 → M' a = sx_up (sx_up (sx_up (sx_up M 14 (sx_val ρ' (0, ((9 : Nat) : Int))).toNat (sx_val ρ' (11, -1))) 14 (sx_val ρ' (0, ((10 : Nat) : Int))).toNat (sx_val ρ' (12, -1))) 17 (sx_val ρ' (10, 0)).toNat (sx_val ρ' (0, -p))) 14 (sx_val ρ' (0, ((8 : Nat) : Int))).toNat (sx_val ρ' (10, 1)) a := hM
      rw [yw_n h0, yw_n h0, yw_n h0, og_vv (c := -1) q11, og_vv (c := -1) q12, og_v0 q10, og_c h0, og_vv (c := 1) q10] at hM
      have h14 : ∀ k, M' 14 k = if k = 8 then M 14 8 + 1 else if k = 10 then M 14 10 + -1 else if k = 9 then M 14 9 + -1 else M 14 k := fun k => by
        rw [hM 14 (by decide)]
        simp [sx_up]
      have h17 : ∀ k, M' 17 k = if k = (M 14 8).toNat then -p else M 17 k := fun k => by
        rw [hM 17 (by decide)]
        simp [sx_up]
      have hoth : ∀ a, a < 128 → a ≠ 14 → a ≠ 17 → M' a = M a := fun a ha g1 g2 => by
        rw [hM a ha, sh_une g1, sh_une g2, sh_une g1, sh_une g1]
      have f8 : M' 14 8 = M 14 8 + 1 := h14 8
      have f9 : M' 14 9 = M 14 9 - 1 := h14 9
      have f10 : M' 14 10 = M 14 10 - 1 := h14 10
      have f : ∀ k, k ≠ 8 → k ≠ 9 → k ≠ 10 → M' 14 k = M 14 k := fun k k8 k9 k10 => by rw [h14 k, if_neg k8, if_neg k10, if_neg k9]
      have h18 := hoth 18 (by decide) (by decide) (by decide)
      have hi1 : yk_inv i (D, p :: yh_P (M 18) (M 14 9 - 1).toNat, o, b, g, n, j, false) := by
        have := hW.2.2.2.2
        rw [eP] at this
        exact this
      have hW' : yh_W i (D ++ [-p], yh_P (M 18) (M 14 9 - 1).toNat, o - 1, b, g, n, j, false) M' := by
        refine ⟨hm', by omega, by omega, yh_mk ?_ ?_ ?_ ?_ ?_ ?_ ?_ ?_, yk_px_inv hi1 hpx⟩
        · rw [← e1]
          exact yh_Dn b1.1 f8 (fun k hk => by rw [h17, if_neg (by omega)]) (by rw [h17, if_pos rfl])
        · rw [f9, h18]
        · rw [f10, e3]
        · rw [f 11 (by decide) (by decide) (by decide)]; exact e4
        · rw [f 12 (by decide) (by decide) (by decide)]; exact e5
        · rw [f 13 (by decide) (by decide) (by decide)]; exact e6
        · rw [f 14 (by decide) (by decide) (by decide)]; exact e7
        · rw [f 15 (by decide) (by decide) (by decide)]; exact e8
      show rz_fin _ L xs 42 5 5 [(0, .ref 14)] [] M'
      obtain ⟨F, r, M2, f1, rfl, f2, f3⟩ := ih (D ++ [-p]) (yh_P (M 18) (M 14 9 - 1).toNat) (o - 1) M' (by omega) hW'
      obtain ⟨s1, s2, s3⟩ := yk_fd_px (D := D) (P := yh_P (M 18) (M 14 9 - 1).toNat) (o := o) hpx
      rw [← s1, ← s2, ← s3, ← eP] at f3
      exact ⟨F, none, M2, f1, rfl, yh_f_tr ⟨fun a ha a1 a2 _ => hoth a ha a1 a2, fun k hk => f k (by omega) (by omega) (by omega)⟩ f2, f3⟩
    · rw [if_neg hpx] at hT
      rw [List.mem_singleton.mp hT] at hM ⊢
      obtain ⟨s1, s2, s3⟩ := yk_fd_no (D := D) (P := yh_P (M 18) (M 14 9 - 1).toNat) (o := o) hpx
      rw [← eP] at s1 s2 s3
      rw [s1, s2, s3]
      exact ⟨rfl, yh_f_on yh_f_rf hM, yh_W_on hW hm' hM⟩
theorem ye_end (hL : L < 2 ^ 31) (hi : i ≤ 120) (hW : yh_W i (D, P, o, b, g, n, j, due) M) : rz_fin (yh_V i M (yk_fd D P, yk_fp P, yk_fo P o, b, g, n, j, false)) L xs 42 5 0 [(0, .ref 14)] [] M := by
  obtain ⟨ρ, s, e1, -, -⟩ := og_sat (xs := xs) (gs := []) (zs := []) (fs := []) hL hW.1 trivial (fun g hg => by cases hg)
  refine og_use (lv := tl_0) (s := []) ye_cs (by decide +kernel) s (tl_okl0 (sx_ck2 s _)) (fun v hv => by cases hv) (Nat.le_refl _) rfl rfl (fun T hT ρ' M' x h0 hm' hc hM => ?_)
  rw [List.mem_singleton.mp hT] at hM ⊢
  have hM : ∀ a, a < 128 → M' a = sx_up M 14 (sx_val ρ' (0, ((15 : Nat) : Int))).toNat (sx_val ρ' (0, 0)) a := hM
  rw [yw_n h0, og_c h0] at hM
  have h14 : ∀ k, M' 14 k = if k = 15 then 0 else M 14 k := fun k => by
    rw [hM 14 (by decide)]
    simp [sx_up]
  have hoth : ∀ a, a < 128 → a ≠ 14 → M' a = M a := fun a ha g1 => by rw [hM a ha, sh_une g1]
  have f : ∀ k, k ≠ 15 → M' 14 k = M 14 k := fun k h => by rw [h14, if_neg h]
  obtain ⟨w1, w2, w3, w4, w5⟩ := hW
  obtain ⟨e1, e2, e3, e4, e5, e6, e7, e8⟩ := yh_eq w4
  have hW' : yh_W i (D, P, o, b, g, n, j, false) M' := by
    refine ⟨hm', by rw [f 8 (by decide)]; exact w2, by rw [f 9 (by decide)]; exact w3, yh_mk ?_ ?_ ?_ ?_ ?_ ?_ ?_ ?_, w5⟩
    · rw [f 8 (by decide), hoth 17 (by decide) (by decide)]; exact e1
    · rw [f 9 (by decide), hoth 18 (by decide) (by decide)]; exact e2
    · rw [f 10 (by decide)]; exact e3
    · rw [f 11 (by decide)]; exact e4
    · rw [f 12 (by decide)]; exact e5
    · rw [f 13 (by decide)]; exact e6
    · rw [f 14 (by decide)]; exact e7
    · rw [h14, if_pos rfl]; rfl
  show rz_fin _ L xs 42 5 5 [(0, .ref 14)] [] M'
  obtain ⟨F, r, M2, f1, rfl, f2, f3⟩ := ye_all (xs := xs) hL hi _ D P o M' rfl hW'
  exact ⟨F, none, M2, f1, rfl, yh_f_tr ⟨fun a ha a1 _ _ => hoth a ha a1, fun k hk => f k (by omega)⟩ f2, f3⟩
end
