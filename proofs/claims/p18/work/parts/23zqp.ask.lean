/-! ask: the class. -/
section
variable {L : Nat} {xs : Nat → Int32} {M M' N N' X : Nat → Nat → Int} {t d e h nc : Nat}
def aw1_i : List qs_I := [(0, 0, (0, 0), (0, 5)), (0, 0, (0, 0), (0, 29))]
def aw1_T : List og_T := [(some 2, none, [(0, 10, 0), (2, 0, 21)], [(0, 2, 0, 21), (1, 0, 9, 0), (2, 0, 10, 0)], [], [])]
theorem aw1_c : qs_chk (fun pc => Nat.beq pc 2) aw1_i 0 aw1_T 400 400 20 86 0 [(0, 2, 0, 21), (1, 0, 9, 0), (2, 0, 10, 0)] [] = true := by decide +kernel
def aw2_i : List qs_I := [(0, 0, (0, 0), (0, 5)), (0, 0, (0, 0), (0, 29)), (0, 0, (0, 0), (-2, -1))]
def aw2_T : List og_T := [(some 37, none, [(0, 10, 0), (0, 9, 0), (2, 0, 21)], [(0, 2, 0, 21), (1, 0, 9, 0), (2, 0, 10, 0), (3, 0, 11, 0), (4, 0, 0, -2)], [], [])]
theorem aw2_c : qs_chk (fun pc => Nat.beq pc 37) aw2_i 0 aw2_T 400 400 20 86 5 [(0, 2, 0, 21), (1, 0, 9, 0), (2, 0, 10, 0)] [(0, 11, 0)] = true := by decide +kernel
def aw3_i : List qs_I := [(0, 0, (0, 0), (0, 5)), (0, 0, (0, 0), (0, 29)), (0, 0, (0, 0), (0, 11)), (1, 11, (11, 0), (0, 5))]
def aw3_T : List og_T := [(none, some (0, 0, 1), [], [], [], [(3, (12, 0), (9, 0), 0, 0)]), (some 37, none, [(0, 10, 0), (0, 9, 0), (2, 0, 21)], [(0, 2, 0, 21), (1, 0, 9, 0), (2, 0, 10, 0), (3, 0, 11, 0), (4, 0, 12, 0)], [], [(4, (12, 0), (9, 0), 0, 0)])]
theorem aw3_c : qs_chk (fun pc => Nat.beq pc 37) aw3_i 0 aw3_T 400 400 20 86 5 [(0, 2, 0, 21), (1, 0, 9, 0), (2, 0, 10, 0)] [(0, 11, 0)] = true := by decide +kernel
def aw4_i : List qs_I := [(0, 0, (0, 0), (0, 5)), (0, 0, (0, 0), (0, 29)), (0, 0, (0, 0), (-2, -1)), (0, 0, (0, 0), (-99, 99))]
def aw4_T : List og_T := [(none, some (0, 0, 1), [], [], [], [(0, (12, 0), (0, 0), 1, 99)]), (none, some (0, 0, 0), [], [], [], [(0, (12, 0), (0, 0), -99, 0)])]
theorem aw4_c : qs_chk (fun _ => false) aw4_i 0 aw4_T 400 400 20 86 40 [(0, 2, 0, 21), (1, 0, 9, 0), (2, 0, 10, 0), (3, 0, 11, 0), (4, 0, 0, -2)] [(0, 12, 0)] = true := by decide +kernel
def aw5_i : List qs_I := [(0, 0, (0, 0), (0, 5)), (0, 0, (0, 0), (0, 29)), (0, 0, (0, 0), (0, 11)), (0, 0, (0, 0), (0, 5)), (0, 0, (0, 0), (-99, 99))]
def aw5_T : List og_T := [(some 53, none, [(0, 10, 0), (0, 12, 0), (2, 0, 21), (0, 13, 0)], [(0, 2, 0, 21), (1, 0, 9, 0), (2, 0, 10, 0), (3, 0, 11, 0), (4, 0, 12, 0)], [], [])]
theorem aw5_c : qs_chk (fun pc => Nat.beq pc 53) aw5_i 0 aw5_T 400 400 20 86 40 [(0, 2, 0, 21), (1, 0, 9, 0), (2, 0, 10, 0), (3, 0, 11, 0), (4, 0, 12, 0)] [(0, 13, 0)] = true := by decide +kernel
def aw6_i : List qs_I := [(0, 0, (0, 0), (-99, 99)), (0, 0, (0, 0), (-99, 99))]
def aw6_T : List og_T := [(none, some (0, 0, 1), [], [], [], [(0, (9, 0), (0, 0), -98, 99), (0, (10, 0), (0, 0), -99, 98), (1, (10, 0), (9, 0), 0, 0)]), (none, some (0, 0, 0), [], [], [], [(2, (10, 0), (9, 0), 0, 0)])]
theorem aw6_c : qs_chk (fun _ => false) aw6_i 0 aw6_T 400 400 20 86 56 [] [(0, 10, 0), (0, 9, 0)] = true := by decide +kernel
def aq1_i : List qs_I := [(0, 0, (0, 0), sx_r32), (1, 9, (0, 4), (0, 6)), (1, 9, (0, 6), sx_r32), (1, 9, (0, 5), (0, 12))]
def aq1_T : List og_T := [(none, some (0, 0, -1), [], [], [], [(0, (9, 0), (0, 0), -2147483648, -1)]), (none, some (0, 0, -1), [], [], [], [(0, (9, 0), (0, 0), 0, 2147483647), (2, (9, 0), (10, 0), 0, 0)]), (none, some (0, 0, -2), [], [], [], [(0, (9, 0), (0, 0), 0, 5), (0, (10, 0), (0, 0), 1, 6), (0, (14, 0), (0, 0), 0, 0), (1, (9, 0), (10, 0), 0, 0), (5, (11, 0), (9, 0), 10, 13), (5, (13, 0), (0, 1), 3, 14)]), (none, some (0, 0, -2), [], [], [], [(0, (9, 0), (0, 0), 0, 5), (0, (10, 0), (0, 0), 1, 6), (0, (12, 0), (0, 0), 12, 12), (7, (14, 0), (0, 0), 0, 0), (1, (9, 0), (10, 0), 0, 0), (5, (11, 0), (9, 0), 10, 13), (5, (13, 0), (0, 1), 3, 14)]), (some 51, none, [(2, 0, 21)], [(0, 2, 0, 8), (1, 0, 9, 0), (2, 0, 0, -2), (3, 0, 0, -1)], [], [(0, (9, 0), (0, 0), 0, 5), (0, (10, 0), (0, 0), 1, 6), (7, (12, 0), (0, 0), 12, 0), (7, (14, 0), (0, 0), 0, 0), (1, (9, 0), (10, 0), 0, 0), (5, (11, 0), (9, 0), 10, 13), (5, (13, 0), (0, 1), 3, 14)])]
theorem aq1_c : qs_chk (fun pc => Nat.beq pc 51) aq1_i 2 aq1_T 400 400 22 85 0 [(0, 2, 0, 8), (1, 0, 9, 0)] [] = true := by decide +kernel
def aq2_i : List qs_I := [(0, 0, (0, 0), (0, 5)), (1, 10, (0, 210), (0, 29))]
def aq2_T : List og_T := [(some 63, none, [], [(0, 2, 0, 8), (1, 0, 9, 0), (2, 0, 0, -2), (3, 0, 0, -1), (4, 0, 10, 0)], [], [])]
theorem aq2_c : qs_chk (fun pc => Nat.beq pc 63) aq2_i 0 aq2_T 400 400 22 85 54 [(0, 2, 0, 8), (1, 0, 9, 0), (2, 0, 0, -2), (3, 0, 0, -1)] [] = true := by decide +kernel
def aq3_i : List qs_I := [(0, 0, (0, 0), (0, 5)), (0, 0, (0, 0), (-2, 29)), (0, 0, (0, 0), (-1, 2300)), (0, 0, (0, 0), (0, 29)), (1, 10, (9, 30), (-1, 143)), (1, 10, (12, 150), (-1, 143))]
def aq3_T : List og_T := [(some 95, none, [(0, 12, 0), (0, 9, 0), (2, 0, 21)], [(0, 2, 0, 8), (1, 0, 9, 0), (2, 0, 10, 0), (3, 0, 11, 0), (4, 0, 12, 0), (5, 0, 16, 0)], [], [(0, (16, 0), (0, 0), 0, 2147483647), (1, (11, 0), (16, 0), 0, 0), (5, (13, 0), (14, 0), 2, 15), (5, (15, 0), (0, 9), 6, 16)]), (some 113, none, [(0, 12, 0), (2, 0, 21)], [(0, 2, 0, 8), (1, 0, 9, 0), (2, 0, 10, 0), (3, 0, 11, 0), (4, 0, 12, 0), (5, 0, 16, 0)], [], [(0, (16, 0), (0, 0), -2147483648, 2300), (2, (11, 0), (16, 0), 0, 0), (5, (13, 0), (14, 0), 2, 15), (5, (15, 0), (0, 9), 6, 16)])]
theorem aq3_c : qs_chk (fun pc => bif Nat.beq pc 95 then true else Nat.beq pc 113) aq3_i 2 aq3_T 400 400 22 85 63 [(0, 2, 0, 8), (1, 0, 9, 0), (2, 0, 10, 0), (3, 0, 11, 0), (4, 0, 12, 0)] [] = true := by decide +kernel
def aq4_i : List qs_I := [(0, 0, (0, 0), (0, 5)), (0, 0, (0, 0), (-2, 29)), (0, 0, (0, 0), (-1, 2300)), (0, 0, (0, 0), (0, 29)), (0, 0, (0, 0), sx_r32), (0, 0, (0, 0), (0, 1))]
def aq4_T : List og_T := [(some 113, none, [(0, 12, 0), (2, 0, 21)], [(0, 2, 0, 8), (1, 0, 9, 0), (2, 0, 10, 0), (3, 0, 11, 0), (4, 0, 12, 0), (5, 0, 13, 0)], [], [(0, (14, 0), (0, 0), 0, 0)]), (some 113, none, [(0, 12, 0), (2, 0, 21)], [(0, 2, 0, 8), (1, 0, 9, 0), (2, 0, 12, 0), (3, 0, 13, 0), (4, 0, 12, 0), (5, 0, 13, 0)], [], [(7, (14, 0), (0, 0), 0, 0)])]
theorem aq4_c : qs_chk (fun pc => Nat.beq pc 113) aq4_i 0 aq4_T 400 400 22 85 98 [(0, 2, 0, 8), (1, 0, 9, 0), (2, 0, 10, 0), (3, 0, 11, 0), (4, 0, 12, 0), (5, 0, 13, 0)] [(0, 14, 0)] = true := by decide +kernel
def aq5_i : List qs_I := [(0, 0, (0, 0), (0, 5)), (0, 0, (0, 0), (-2, 29)), (0, 0, (0, 0), (-1, 2300)), (0, 0, (0, 0), (0, 29)), (0, 0, (0, 0), sx_r32), (0, 0, (0, 0), (-2, 5))]
def aq5_T : List og_T := [(some 63, none, [], [(0, 2, 0, 8), (1, 0, 9, 0), (2, 0, 10, 0), (3, 0, 11, 0), (4, 0, 12, 1)], [], [])]
theorem aq5_c : qs_chk (fun pc => Nat.beq pc 63) aq5_i 0 aq5_T 400 400 22 85 116 [(0, 2, 0, 8), (1, 0, 9, 0), (2, 0, 10, 0), (3, 0, 11, 0), (4, 0, 12, 0), (5, 0, 13, 0)] [(0, 14, 0)] = true := by decide +kernel
def aq6_i : List qs_I := [(0, 0, (0, 0), (0, 5)), (0, 0, (0, 0), (-2, 29)), (0, 0, (0, 0), (-1, 2300))]
def aq6_T : List og_T := [(none, some (0, 10, 0), [], [], [], [])]
theorem aq6_c : qs_chk (fun pc => bif Nat.beq pc 95 then true else Nat.beq pc 113) aq6_i 0 aq6_T 400 400 22 85 63 [(0, 2, 0, 8), (1, 0, 9, 0), (2, 0, 10, 0), (3, 0, 11, 0), (4, 0, 0, 30)] [] = true := by decide +kernel
/-- how likely it burns -/
def od9 (a b : Int) : Int := sx_mf 6 (sx_mf 2 a b) 9
theorem od9_T : ((List.range 144).all fun a => (List.range 144).all fun b => sx_an (sx_le 0 (od9 (a : Int) (b : Int))) (sx_le (od9 (a : Int) (b : Int)) 2300)) = true := by decide +kernel
theorem od9_r {a b : Int} (ha : 0 ≤ a ∧ a ≤ 143) (hb : 0 ≤ b ∧ b ≤ 143) : 0 ≤ od9 a b ∧ od9 a b ≤ 2300 := by
  obtain ⟨a, rfl⟩ := Int.eq_ofNat_of_zero_le ha.1
  obtain ⟨b, rfl⟩ := Int.eq_ofNat_of_zero_le hb.1
  obtain ⟨x, y⟩ := sx_an_iff.mp (List.all_eq_true.mp (List.all_eq_true.mp od9_T a (List.mem_range.mpr (by omega))) b (List.mem_range.mpr (by omega)))
  exact ⟨sx_le_iff.mp x, sx_le_iff.mp y⟩
/-- the best day: a day, and how likely -/
def akd (od : Nat → Int) (wn : Nat → Bool) : Nat → Nat → Int × Int → Int × Int
  | 0, _, σ => σ
  | k + 1, d, σ => akd od wn k (d + 1) (if σ.2 < od d ∧ wn d = true then ((d : Int), od d) else σ)
/-- the best day alone -/
def akr (od : Nat → Int) (wn : Nat → Bool) : Nat → Nat → Int → Int
  | 0, _, r => r
  | k + 1, d, r => akr od wn k (d + 1) (if wn d = true ∧ (r < 0 ∨ od r.toNat < od d) then (d : Int) else r)
theorem ak_eq {od od' : Nat → Int} {wn wn' : Nat → Bool} : ∀ (k d : Nat) (r : Int), (∀ i, i < d + k → 0 ≤ od i ∧ od' i = od i) → (∀ i, d ≤ i → i < d + k → wn' i = wn i) → r < (d : Int) → akr od' wn' k d r = (akd od wn k d (r, if r < 0 then -1 else od r.toNat)).1 := by
  intro k
  induction k with
  | zero => intro d r _ _ _; rfl
  | succ k ih =>
    intro d r ho hw hr
    obtain ⟨o1, o2⟩ := ho d (by omega)
    have e1 := hw d (Nat.le_refl d) (by omega)
    show akr od' wn' k (d + 1) (if wn' d = true ∧ (r < 0 ∨ od' r.toNat < od' d) then (d : Int) else r) = (akd od wn k (d + 1) (if (if r < 0 then -1 else od r.toNat) < od d ∧ wn d = true then ((d : Int), od d) else (r, if r < 0 then -1 else od r.toNat))).1
    rw [e1, o2]
    have nx : ∀ s : Int, s < ((d + 1 : Nat) : Int) → akr od' wn' k (d + 1) s = (akd od wn k (d + 1) (s, if s < 0 then -1 else od s.toNat)).1 := fun s hs => ih (d + 1) s (fun i hi => ho i (by omega)) (fun i h1 h2 => hw i (by omega) (by omega)) hs
    have nd := nx (d : Int) (by omega)
    rw [if_neg (show ¬ (d : Int) < 0 by omega), Int.toNat_natCast] at nd
    have nr := nx r (by omega)
    by_cases w : wn d = true
    · by_cases q : r < 0
      · rw [if_pos q] at nr ⊢
        rw [if_pos (show wn d = true ∧ (r < 0 ∨ od' r.toNat < od d) from ⟨w, Or.inl q⟩), if_pos (show (-1 : Int) < od d ∧ wn d = true from ⟨by omega, w⟩)]
        exact nd
      · obtain ⟨-, o3⟩ := ho r.toNat (by omega)
        rw [if_neg q] at nr ⊢
        rw [o3]
        by_cases c : od r.toNat < od d
        · rw [if_pos (show wn d = true ∧ (r < 0 ∨ od r.toNat < od d) from ⟨w, Or.inr c⟩), if_pos (show od r.toNat < od d ∧ wn d = true from ⟨c, w⟩)]
          exact nd
        · rw [if_neg (show ¬ (wn d = true ∧ (r < 0 ∨ od r.toNat < od d)) from fun x => x.2.elim q c), if_neg (show ¬ (od r.toNat < od d ∧ wn d = true) from fun x => c x.1)]
          exact nr
    · rw [if_neg (show ¬ (wn d = true ∧ (r < 0 ∨ od' r.toNat < od d)) from fun x => w x.1), if_neg (show ¬ ((if r < 0 then -1 else od r.toNat) < od d ∧ wn d = true) from fun x => w x.2)]
      exact nr
theorem akd_le {od : Nat → Int} {wn : Nat → Bool} : ∀ (k d : Nat) (σ : Int × Int), d + k ≤ 30 → -2 ≤ σ.1 ∧ σ.1 ≤ 29 → -2 ≤ (akd od wn k d σ).1 ∧ (akd od wn k d σ).1 ≤ 29 := by
  intro k
  induction k with
  | zero => intro d σ _ h; exact h
  | succ k ih =>
    intro d σ hd h
    refine ih (d + 1) _ (by omega) ?_
    split
    · show -2 ≤ (d : Int) ∧ (d : Int) ≤ 29
      omega
    · exact h
theorem vq_ch_2 {D W lk : Nat → Int} {S G d : Int} : ∀ n, (vq_ch D W lk S G d n).2 = if (vq_ch D W lk S G d n).1 < 0 then 0 else lk (W (vq_ch D W lk S G d n).1.toNat).toNat := by
  intro n
  induction n with
  | zero => exact (if_pos (show (-1 : Int) < 0 by decide)).symm
  | succ n ih =>
    have e : vq_ch D W lk S G d (n + 1) = if vq_may D W S G d n = true ∧ (vq_ch D W lk S G d n).2 < lk (W n).toNat then ((n : Int), lk (W n).toNat) else vq_ch D W lk S G d n := rfl
    rw [e]
    by_cases c : vq_may D W S G d n = true ∧ (vq_ch D W lk S G d n).2 < lk (W n).toNat
    · rw [if_pos c]
      show lk (W n).toNat = if (n : Int) < 0 then 0 else lk (W (n : Int).toNat).toNat
      rw [if_neg (by omega), Int.toNat_natCast]
    · rw [if_neg c]
      exact ih
/-- how a house is liked -/
theorem aw_lk (hL : L < 2 ^ 31) (hm : sx_mok cl_ly M) (hw : WF M) (hR : vu_R M) (hh : h ≤ 5) (he : e ≤ 29) : rz_fin (fun r M2 => r = some (.int (Int32.ofInt (vr_lk M e h))) ∧ sx_mok cl_ly M2 ∧ ∀ a, a < 128 → a ≠ 19 → a ≠ 20 → M2 a = M a) L xs 64 19 0 [(0, .ref 21), (1, .int (Int32.ofInt (h : Int))), (2, .int (Int32.ofInt (e : Int)))] [] M := by
  have w23 : sx_w sx_r32 (M 23 h) := hm 23 _ h _ rfl (by show h < 6; omega) rfl
  refine qs_use (zs := [(h : Int), (e : Int), M 23 h]) li5_c hL hm (qs_in (show 0 ≤ (h : Int) ∧ (h : Int) ≤ 5 by omega) (qs_in (show 0 ≤ (e : Int) ∧ (e : Int) ≤ 29 by omega) (qs_rd (show 0 ≤ (h : Int) by omega) rfl w23 (qs_fin rfl)))) (Nat.le_refl _) rfl rfl (qs_c (fun M2 hm2 hc2 hM2 => ?_) qs_z)
  have f2 : ∀ a, a < 128 → M2 a = M a := hM2
  obtain ⟨w2, r2, X2⟩ := vr_keep hw hR (M' := M2) (fun a ha _ _ _ => f2 a ha)
  have hlk := wy_like (xs := xs) (M := M2) (h := h) (d := e) (b := M 23 h) hL hm2 w2 r2 hh he w23
  rw [X2] at hlk
  show rz_fin _ L xs 64 19 16 [(0, .ref 21), (1, .int (Int32.ofInt (h : Int))), (2, .int (Int32.ofInt (e : Int)))] [.int (Int32.ofInt (M 23 h)), .int (Int32.ofInt (e : Int)), .int (Int32.ofInt (h : Int)), .ref 9, .ref 14] M2
  refine qs_vc (k := 59) (b := 14) (d := 18) (d' := 18) (rest := []) rfl rfl rfl rfl rfl rfl rfl rfl (Nat.le_refl _) rfl (rz_d (by decide) hlk) (fun r9 M3 hr => ?_)
  obtain ⟨rfl, hm3, f3⟩ := hr
  have wl : -99 ≤ vq_X M h e (M 23 h) ∧ vq_X M h e (M 23 h) ≤ 99 := vr_lk_r (M := M) e h
  have wv : sx_w sx_r32 (vq_X M h e (M 23 h)) := og_w32 (by omega) (by omega)
  refine qs_nl (by show ([0, 1, 2] : List Nat).Nodup; decide) (qs_use (zs := [vq_X M h e (M 23 h)]) li6_c hL hm3 (qs_iw wv (qs_fin rfl)) (Nat.le_refl _) rfl rfl (qs_c (fun M4 hm4 hc4 hM4 => ?_) qs_z))
  have f4 : ∀ a, a < 128 → M4 a = M3 a := hM4
  exact ⟨rfl, hm4, fun a ha x1 x2 => by rw [f4 a ha, f3 a ha x1 x2]; exact f2 a ha⟩
/-- would it win -/
def aw_b (W : Nat → Int) (h : Nat) (c l m : Int) : Bool := decide (vq_hs W c = (h : Int) ∨ l < m)
def aw_Q (M : Nat → Nat → Int) (nc h d : Nat) (r : Option Value) (N : Nat → Nat → Int) : Prop := r = some (.int (Int32.ofInt (if aw_b (M 11) h (vr_ch M d nc).1 (vr_ch M d nc).2 (vr_lk M d h) = true then 1 else 0))) ∧ sx_mok cl_ly N ∧ ∀ a, a < 128 → a ≠ 19 → a ≠ 20 → a ≠ 22 → N a = M a
theorem aw_wins (hL : L < 2 ^ 31) (hm : sx_mok cl_ly M) (hw : WF M) (hR : vu_R M) (hnc : M 9 5 = (nc : Int)) (hh : h ≤ 5) (hd : d ≤ 29) : rz_fin (aw_Q M nc h d) L xs 86 20 0 [(0, .ref 21), (1, .int (Int32.ofInt (h : Int))), (2, .int (Int32.ofInt (d : Int)))] [] M := by
  have h12 : 0 ≤ M 9 5 ∧ M 9 5 ≤ 12 := cv_ly_ok (g := (9, 5, 0, 12)) hm (by decide +kernel)
  have rg := vq_ch_r (D := fun c => M 10 (c + 180)) (W := M 11) (S := M 21 8) (G := M 21 6) (d := (d : Int)) (fun i => (vr_lk_r (M := M) d i).2) nc
  have rg : -1 ≤ (vr_ch M d nc).1 ∧ (vr_ch M d nc).1 < (nc : Int) := ⟨rg.1, rg.2.1⟩
  have e2 : (vr_ch M d nc).2 = if (vr_ch M d nc).1 < 0 then 0 else vr_lk M d (M 11 (vr_ch M d nc).1.toNat).toNat := vq_ch_2 nc
  have lh : -99 ≤ vr_lk M d h ∧ vr_lk M d h ≤ 99 := vr_lk_r (M := M) d h
  unfold aw_Q
  rw [e2]
  refine qs_use (zs := [(h : Int), (d : Int)]) aw1_c hL hm (qs_in (show 0 ≤ (h : Int) ∧ (h : Int) ≤ 5 by omega) (qs_in (show 0 ≤ (d : Int) ∧ (d : Int) ≤ 29 by omega) (qs_fin rfl))) (Nat.le_refl _) rfl rfl (qs_c (fun M2 hM2 hc hM => ?_) qs_z)
  have f2 : ∀ a, a < 128 → M2 a = M a := hM
  obtain ⟨w2, r2, X2⟩ := vr_keep hw hR (M' := M2) (fun a ha _ _ _ => f2 a ha)
  have ch := vr_choice (xs := xs) (d := d) (nc := nc) hL hM2 hd w2 r2 (by rw [f2 9 (by decide)]; exact hnc)
  rw [vr_ch_on X2 (fun a ha _ _ _ => f2 a ha)] at ch
  generalize (vr_ch M d nc).1 = c at rg ch ⊢
  show rz_fin _ L xs 86 20 2 [(0, .ref 21), (1, .int (Int32.ofInt (h : Int))), (2, .int (Int32.ofInt (d : Int)))] [.int (Int32.ofInt (d : Int)), .ref 21] M2
  refine qs_vc (k := 57) (b := 21) (d := 19) (d' := 19) (rest := []) rfl rfl rfl rfl rfl rfl rfl rfl (Nat.le_refl _) rfl (rz_d (by decide) ch) (fun r9 M3 hr => ?_)
  obtain ⟨rfl, hm3, f3⟩ := hr
  have h3 : ∀ a, a < 128 → a ≠ 19 → a ≠ 20 → a ≠ 22 → M3 a = M a := fun a ha x1 x2 x3 => (f3 a ha x1 x2 x3).trans (f2 a ha)
  obtain ⟨w3, r3, X3⟩ := vr_keep hw hR (M' := M3) h3
  have l3 : ∀ g, vr_lk M3 d g = vr_lk M d g := fun g => by
    unfold vr_lk
    rw [X3, h3 23 (by decide) (by decide) (by decide) (by decide)]
  have like : ∀ (g : Nat) (N : Nat → Nat → Int), g ≤ 5 → sx_mok cl_ly N → (∀ a, a < 128 → a ≠ 19 → a ≠ 20 → a ≠ 22 → N a = M a) → rz_fin (fun r K => r = some (.int (Int32.ofInt (vr_lk M d g))) ∧ sx_mok cl_ly K ∧ ∀ a, a < 128 → a ≠ 19 → a ≠ 20 → a ≠ 22 → K a = M a) L xs 64 19 0 [(0, .ref 21), (1, .int (Int32.ofInt (g : Int))), (2, .int (Int32.ofInt (d : Int)))] [] N := fun g N hg hN hf => by
    obtain ⟨w4, r4, X4⟩ := vr_keep hw hR (M' := N) hf
    have el : vr_lk N d g = vr_lk M d g := by
      unfold vr_lk
      rw [X4, hf 23 (by decide) (by decide) (by decide) (by decide)]
    refine qs_w (aw_lk (xs := xs) hL hN w4 r4 hg hd) (fun r K q => ?_)
    obtain ⟨q1, q2, q3⟩ := q
    rw [el] at q1
    exact ⟨q1, q2, fun a ha x1 x2 x3 => (q3 a ha x1 x2).trans (hf a ha x1 x2 x3)⟩
  by_cases c0 : c < 0
  · have eo : vq_or c = -2 := if_pos c0
    rw [eo, if_pos c0]
    refine qs_use (zs := [(h : Int), (d : Int), (-2 : Int)]) aw2_c hL hm3 (qs_in (show 0 ≤ (h : Int) ∧ (h : Int) ≤ 5 by omega) (qs_in (show 0 ≤ (d : Int) ∧ (d : Int) ≤ 29 by omega) (qs_in (show -2 ≤ (-2 : Int) ∧ (-2 : Int) ≤ -1 by omega) (qs_fin rfl)))) (Nat.le_refl _) rfl rfl (qs_c (fun M4 hM4 hc hM => ?_) qs_z)
    have f4 : ∀ a, a < 128 → M4 a = M3 a := hM
    show rz_fin _ L xs 86 20 37 [(0, .ref 21), (1, .int (Int32.ofInt (h : Int))), (2, .int (Int32.ofInt (d : Int))), (3, .int (Int32.ofInt (-2))), (4, .int (Int32.ofInt (-2)))] [.int (Int32.ofInt (d : Int)), .int (Int32.ofInt (h : Int)), .ref 21] M4
    refine qs_vc (k := 64) (b := 21) (d := 19) (d' := 19) (rest := []) rfl rfl rfl rfl rfl rfl rfl rfl (Nat.le_refl _) rfl (like h M4 hh hM4 (fun a ha x1 x2 x3 => (f4 a ha).trans (h3 a ha x1 x2 x3))) (fun r9 M5 hr => ?_)
    obtain ⟨rfl, hm5, f5⟩ := hr
    have nh : ¬ vq_hs (M 11) c = (h : Int) := by
      unfold vq_hs
      rw [if_pos c0]
      omega
    generalize vr_lk M d h = m at lh ⊢
    refine qs_use (zs := [(h : Int), (d : Int), (-2 : Int), m]) aw4_c hL hm5 (qs_in (show 0 ≤ (h : Int) ∧ (h : Int) ≤ 5 by omega) (qs_in (show 0 ≤ (d : Int) ∧ (d : Int) ≤ 29 by omega) (qs_in (show -2 ≤ (-2 : Int) ∧ (-2 : Int) ≤ -1 by omega) (qs_in lh (qs_fin rfl))))) (Nat.le_refl _) rfl rfl (qs_c (fun M6 hM6 hc hM => ?_) (qs_c (fun M6 hM6 hc hM => ?_) qs_z))
    · obtain ⟨c1, -⟩ := hc
      have c1 : 1 ≤ m ∧ m ≤ 99 := c1
      have fM6 : ∀ a, a < 128 → M6 a = M5 a := hM
      have e : aw_b (M 11) h c 0 m = true := decide_eq_true (Or.inr (by omega))
      rw [if_pos e]
      exact ⟨rfl, hM6, fun a ha x1 x2 x3 => (fM6 a ha).trans (f5 a ha x1 x2 x3)⟩
    · obtain ⟨c1, -⟩ := hc
      have c1 : -99 ≤ m ∧ m ≤ 0 := c1
      have fM6 : ∀ a, a < 128 → M6 a = M5 a := hM
      have e : ¬ aw_b (M 11) h c 0 m = true := fun q => (of_decide_eq_true q).elim nh (fun x => by omega)
      rw [if_neg e]
      exact ⟨rfl, hM6, fun a ha x1 x2 x3 => (fM6 a ha).trans (f5 a ha x1 x2 x3)⟩
  · obtain ⟨k, rfl⟩ := Int.eq_ofNat_of_zero_le (show 0 ≤ c by omega)
    have eo : vq_or (k : Int) = (k : Int) := if_neg c0
    have eh : vq_hs (M 11) (k : Int) = M 11 k := by
      unfold vq_hs
      rw [if_neg c0, Int.toNat_natCast]
    have w11 : 0 ≤ M 11 k ∧ M 11 k ≤ 5 := hm 11 _ k _ rfl (by show k < 12; omega) rfl
    rw [eo, if_neg c0, Int.toNat_natCast]
    have z11 : M3 11 k = M 11 k := by rw [h3 11 (by decide) (by decide) (by decide) (by decide)]
    obtain ⟨w, ew⟩ := Int.eq_ofNat_of_zero_le w11.1
    have lw : -99 ≤ vr_lk M d w ∧ vr_lk M d w ≤ 99 := vr_lk_r (M := M) d w
    rw [ew] at z11 eh ⊢
    rw [Int.toNat_natCast]
    refine qs_use (zs := [(h : Int), (d : Int), (k : Int), (w : Int)]) aw3_c hL hm3 (qs_in (show 0 ≤ (h : Int) ∧ (h : Int) ≤ 5 by omega) (qs_in (show 0 ≤ (d : Int) ∧ (d : Int) ≤ 29 by omega) (qs_in (show 0 ≤ (k : Int) ∧ (k : Int) ≤ 11 by omega) (qs_rd (show 0 ≤ (k : Int) by omega) z11 (show 0 ≤ (w : Int) ∧ (w : Int) ≤ 5 by omega) (qs_fin rfl))))) (Nat.le_refl _) rfl rfl (qs_c (fun M4 hM4 hc hM => ?_) (qs_c (fun M4 hM4 hc hM => ?_) qs_z))
    · obtain ⟨c1, -⟩ := hc
      have c1 : (w : Int) = (h : Int) := c1
      have fM4 : ∀ a, a < 128 → M4 a = M3 a := hM
      have e : aw_b (M 11) h (k : Int) (vr_lk M d w) (vr_lk M d h) = true := decide_eq_true (Or.inl (eh.trans c1))
      rw [if_pos e]
      exact ⟨rfl, hM4, fun a ha x1 x2 x3 => (fM4 a ha).trans (h3 a ha x1 x2 x3)⟩
    · obtain ⟨c1, -⟩ := hc
      have c1 : ¬ (w : Int) = (h : Int) := c1
      have fM4 : ∀ a, a < 128 → M4 a = M3 a := hM
      show rz_fin _ L xs 86 20 37 [(0, .ref 21), (1, .int (Int32.ofInt (h : Int))), (2, .int (Int32.ofInt (d : Int))), (3, .int (Int32.ofInt (k : Int))), (4, .int (Int32.ofInt (w : Int)))] [.int (Int32.ofInt (d : Int)), .int (Int32.ofInt (h : Int)), .ref 21] M4
      refine qs_vc (k := 64) (b := 21) (d := 19) (d' := 19) (rest := []) rfl rfl rfl rfl rfl rfl rfl rfl (Nat.le_refl _) rfl (like h M4 hh hM4 (fun a ha x1 x2 x3 => (fM4 a ha).trans (h3 a ha x1 x2 x3))) (fun r9 M5 hr => ?_)
      obtain ⟨rfl, hm5, f5⟩ := hr
      have nh : ¬ vq_hs (M 11) (k : Int) = (h : Int) := fun q => c1 (eh.symm.trans q)
      generalize vr_lk M d h = m at lh ⊢
      refine qs_use (zs := [(h : Int), (d : Int), (k : Int), (w : Int), m]) aw5_c hL hm5 (qs_in (show 0 ≤ (h : Int) ∧ (h : Int) ≤ 5 by omega) (qs_in (show 0 ≤ (d : Int) ∧ (d : Int) ≤ 29 by omega) (qs_in (show 0 ≤ (k : Int) ∧ (k : Int) ≤ 11 by omega) (qs_in (show 0 ≤ (w : Int) ∧ (w : Int) ≤ 5 by omega) (qs_in lh (qs_fin rfl)))))) (Nat.le_refl _) rfl rfl (qs_c (fun M6 hM6 hc hM => ?_) qs_z)
      have f6 : ∀ a, a < 128 → M6 a = M5 a := hM
      show rz_fin _ L xs 86 20 53 [(0, .ref 21), (1, .int (Int32.ofInt (h : Int))), (2, .int (Int32.ofInt (d : Int))), (3, .int (Int32.ofInt (k : Int))), (4, .int (Int32.ofInt (w : Int)))] [.int (Int32.ofInt (d : Int)), .int (Int32.ofInt (w : Int)), .ref 21, .int (Int32.ofInt m)] M6
      refine qs_vc (k := 64) (b := 21) (d := 19) (d' := 19) (rest := [.int (Int32.ofInt m)]) rfl rfl rfl rfl rfl rfl rfl rfl (Nat.le_refl _) rfl (like w M6 (by omega) hM6 (fun a ha x1 x2 x3 => (f6 a ha).trans (f5 a ha x1 x2 x3))) (fun r9 M7 hr => ?_)
      obtain ⟨rfl, hm7, f7⟩ := hr
      generalize vr_lk M d w = l at lw ⊢
      refine qs_nl (by show ([0, 1, 2, 3, 4] : List Nat).Nodup; decide) (qs_use (zs := [m, l]) aw6_c hL hm7 (qs_in lh (qs_in lw (qs_fin rfl))) (Nat.le_refl _) rfl rfl (qs_c (fun M8 hM8 hc hM => ?_) (qs_c (fun M8 hM8 hc hM => ?_) qs_z)))
      · obtain ⟨c1, c2, c3, -⟩ := hc
        have c1 : -98 ≤ m ∧ m ≤ 99 := c1
        have c2 : -99 ≤ l ∧ l ≤ 98 := c2
        have c3 : l < m := c3
        have fM8 : ∀ a, a < 128 → M8 a = M7 a := hM
        have e : aw_b (M 11) h (k : Int) l m = true := decide_eq_true (Or.inr c3)
        rw [if_pos e]
        exact ⟨rfl, hM8, fun a ha x1 x2 x3 => (fM8 a ha).trans (f7 a ha x1 x2 x3)⟩
      · obtain ⟨c1, -⟩ := hc
        have c1 : ¬ l < m := c1
        have fM8 : ∀ a, a < 128 → M8 a = M7 a := hM
        have e : ¬ aw_b (M 11) h (k : Int) l m = true := fun q => (of_decide_eq_true q).elim nh c1
        rw [if_neg e]
        exact ⟨rfl, hM8, fun a ha x1 x2 x3 => (fM8 a ha).trans (f7 a ha x1 x2 x3)⟩
/-- would a card of house h win day d -/
def aw_X (X : Nat → Nat → Int) (nc t h d : Nat) : Bool := aw_b (X 11) h (vs_cd X nc d (vs_T X nc (d - t) t (X 21 6, X 23))) (vq_ch (vs_D X) (X 11) (fun g => vs_lk X d g ((vs_T X nc (d - t) t (X 21 6, X 23)).2 g)) (X 21 8) (vs_T X nc (d - t) t (X 21 6, X 23)).1 (d : Int) nc).2 (vs_lk X d h ((vs_T X nc (d - t) t (X 21 6, X 23)).2 h))
/-- the class: day by day -/
theorem aq_loop (hL : L < 2 ^ 31) (hm0 : sx_mok cl_ly X) (hw : WF X) (hR : vu_R X) (hn : X 9 5 = (nc : Int)) (h12 : nc ≤ 12) (hh : h ≤ 5) (ho : ∀ d, d < 30 → 0 ≤ od9 (X 10 (30 + h)) (X 10 (150 + d)) ∧ od9 (X 10 (30 + h)) (X 10 (150 + d)) ≤ 2300) : ∀ (k d : Nat) (σ : Int × Int) (M' : Nat → Nat → Int), d + k = 30 → t ≤ d → -2 ≤ σ.1 ∧ σ.1 ≤ 29 → -1 ≤ σ.2 ∧ σ.2 ≤ 2300 → sx_mok cl_ly M' → vs_F X M' → vs_P (vs_T X nc (d - t) t (X 21 6, X 23)) M' → rz_fin (fun r N => r = some (.int (Int32.ofInt (akd (fun d => od9 (X 10 (30 + h)) (X 10 (150 + d))) (aw_X X nc t h) k d σ).1)) ∧ sx_mok cl_ly N ∧ vs_F X N) L xs 85 22 63 [(0, .ref 8), (1, .int (Int32.ofInt (h : Int))), (2, .int (Int32.ofInt σ.1)), (3, .int (Int32.ofInt σ.2)), (4, .int (Int32.ofInt (d : Int)))] [] M' := by
  intro k
  induction k with
  | zero =>
    intro d σ M' hd ht h1 h2 hm F P
    have e : d = 30 := by omega
    subst e
    refine qs_use (zs := [(h : Int), σ.1, σ.2]) aq6_c hL hm (qs_in (show 0 ≤ (h : Int) ∧ (h : Int) ≤ 5 by omega) (qs_in h1 (qs_in h2 (qs_fin rfl)))) (Nat.le_refl _) rfl rfl (qs_c (fun N1 hN1 hc hM => ?_) qs_z)
    have f1 : ∀ a, a < 128 → N1 a = M' a := hM
    exact ⟨rfl, hN1, vs_Fr F f1⟩
  | succ k ih =>
    intro d σ M' hd ht h1 h2 hm F P
    have z10 : M' 10 = X 10 := F.1 10 (by decide) (by decide)
    have wR := cx_m10 hm0 (k := 30 + h) (by omega)
    have wD := cx_m10 hm0 (k := 150 + d) (by omega)
    have od := ho d (by omega)
    have e0 : akd (fun d => od9 (X 10 (30 + h)) (X 10 (150 + d))) (aw_X X nc t h) (k + 1) d σ = akd (fun d => od9 (X 10 (30 + h)) (X 10 (150 + d))) (aw_X X nc t h) k (d + 1) (if σ.2 < od9 (X 10 (30 + h)) (X 10 (150 + d)) ∧ aw_X X nc t h d = true then ((d : Int), od9 (X 10 (30 + h)) (X 10 (150 + d))) else σ) := rfl
    rw [e0]
    -- the day is spent
    have sp : ∀ (τ : Int × Int) (o : Int) (N : Nat → Nat → Int), -2 ≤ τ.1 ∧ τ.1 ≤ 29 → -1 ≤ τ.2 ∧ τ.2 ≤ 2300 → sx_w sx_r32 o → sx_mok cl_ly N → vs_F X N → vs_P (vs_T X nc (d - t) t (X 21 6, X 23)) N → rz_fin (fun r N => r = some (.int (Int32.ofInt (akd (fun d => od9 (X 10 (30 + h)) (X 10 (150 + d))) (aw_X X nc t h) k (d + 1) τ).1)) ∧ sx_mok cl_ly N ∧ vs_F X N) L xs 85 22 113 [(0, .ref 8), (1, .int (Int32.ofInt (h : Int))), (2, .int (Int32.ofInt τ.1)), (3, .int (Int32.ofInt τ.2)), (4, .int (Int32.ofInt (d : Int))), (5, .int (Int32.ofInt o))] [.int (Int32.ofInt (d : Int)), .ref 21] N := fun τ o N g1 g2 wo hN F P => by
      refine qs_vc (k := 56) (b := 21) (d := 21) (d' := 21) (rest := []) rfl rfl rfl rfl rfl rfl rfl rfl (Nat.le_refl _) rfl (rz_d (by decide) (vs_spend (xs := xs) (nc := nc) (d := d) hL hN (by omega) hw hR hn F P)) (fun r9 N2 hr => ?_)
      obtain ⟨rfl, hN2, F3, P3⟩ := hr
      have wv := fa_w (t := t) (d := d) hN2 F3 h12
      have e1 : vs_T X nc (d + 1 - t) t (X 21 6, X 23) = vq_nx (vs_D X) (X 11) (vs_T X nc (d - t) t (X 21 6, X 23)) (vs_cd X nc d (vs_T X nc (d - t) t (X 21 6, X 23))) := by
        have q := vq_T_succ (D := vs_D X) (W := X 11) (lk := vs_lk X) (S := X 21 8) (nc := nc) (d - t) t (X 21 6, X 23)
        rw [show t + (d - t) = d by omega, show d - t + 1 = d + 1 - t by omega] at q
        exact q
      show rz_fin _ L xs 85 22 116 [(0, .ref 8), (1, .int (Int32.ofInt (h : Int))), (2, .int (Int32.ofInt τ.1)), (3, .int (Int32.ofInt τ.2)), (4, .int (Int32.ofInt (d : Int))), (5, .int (Int32.ofInt o))] [.int (Int32.ofInt (vq_or (fa_h X nc t d)))] N2
      generalize vq_or (fa_h X nc t d) = v at wv ⊢
      refine qs_use (zs := [(h : Int), τ.1, τ.2, (d : Int), o, v]) aq5_c hL hN2 (qs_in (show 0 ≤ (h : Int) ∧ (h : Int) ≤ 5 by omega) (qs_in g1 (qs_in g2 (qs_in (show 0 ≤ (d : Int) ∧ (d : Int) ≤ 29 by omega) (qs_iw wo (qs_in wv (qs_fin rfl))))))) (Nat.le_refl _) rfl rfl (qs_c (fun N3 hN3 hc hM => ?_) qs_z)
      have f3 : ∀ a, a < 128 → N3 a = N2 a := hM
      exact ih (d + 1) τ N3 (by omega) (by omega) g1 g2 hN3 (vs_Fr F3 f3) (by
        rw [e1]
        exact ⟨by rw [f3 21 (by decide)]; exact P3.1, fun g => by rw [f3 23 (by decide)]; exact P3.2 g⟩)
    refine qs_use (zs := [(h : Int), σ.1, σ.2, (d : Int), X 10 (30 + h), X 10 (150 + d)]) aq3_c hL hm (qs_in (show 0 ≤ (h : Int) ∧ (h : Int) ≤ 5 by omega) (qs_in h1 (qs_in h2 (qs_in (show 0 ≤ (d : Int) ∧ (d : Int) ≤ 29 by omega) (qs_rd (show 0 ≤ (h : Int) + 30 by omega) (show M' 10 ((h : Int) + 30).toNat = X 10 (30 + h) by rw [z10, show ((h : Int) + 30).toNat = 30 + h by omega]) wR (qs_rd (show 0 ≤ (d : Int) + 150 by omega) (show M' 10 ((d : Int) + 150).toNat = X 10 (150 + d) by rw [z10, show ((d : Int) + 150).toNat = 150 + d by omega]) wD (qs_fin rfl))))))) (Nat.le_refl _) rfl rfl (qs_c (fun u1 u2 N1 hN1 hc hM => ?_) (qs_c (fun u1 u2 N1 hN1 hc hM => ?_) qs_z))
    · obtain ⟨c1, c2, c3, c4, -⟩ := hc
      have c1 : 0 ≤ u2 ∧ u2 ≤ 2147483647 := c1
      have c2 : σ.2 < u2 := c2
      have c3 : u1 = sx_mf 2 (X 10 (30 + h)) (X 10 (150 + d)) := c3
      have c4 : u2 = sx_mf 6 u1 9 := c4
      have fN1 : ∀ a, a < 128 → N1 a = M' a := hM
      have eo : u2 = od9 (X 10 (30 + h)) (X 10 (150 + d)) := by rw [c4, c3]; rfl
      rw [← eo] at od ⊢
      have wo : sx_w sx_r32 u2 := og_w32 (by omega) (by omega)
      have F1 := vs_Fr F fN1
      have P1 : vs_P (vs_T X nc (d - t) t (X 21 6, X 23)) N1 := ⟨by rw [fN1 21 (by decide)]; exact P.1, fun g => by rw [fN1 23 (by decide)]; exact P.2 g⟩
      obtain ⟨w1, r1, eX⟩ := vs_keep hw hR F1
      have e10 : N1 10 = X 10 := F1.1 10 (by decide) (by decide)
      have e11 : N1 11 = X 11 := F1.1 11 (by decide) (by decide)
      have e8 : N1 21 8 = X 21 8 := F1.2 8 (by decide)
      have e5 : vr_lk N1 d = fun g => vs_lk X d g ((vs_T X nc (d - t) t (X 21 6, X 23)).2 g) := by
        funext g
        unfold vr_lk vs_lk
        rw [eX, P1.2 g]
      have e6 : (fun c => N1 10 (c + 180)) = vs_D X := by
        funext c
        unfold vs_D
        rw [e10]
      have ech : vr_ch N1 d nc = vq_ch (vs_D X) (X 11) (fun g => vs_lk X d g ((vs_T X nc (d - t) t (X 21 6, X 23)).2 g)) (X 21 8) (vs_T X nc (d - t) t (X 21 6, X 23)).1 (d : Int) nc := by
        unfold vr_ch
        rw [e5, e6, e11, e8, P1.1]
      have ew : aw_b (N1 11) h (vr_ch N1 d nc).1 (vr_ch N1 d nc).2 (vr_lk N1 d h) = aw_X X nc t h d := by
        rw [ech, e11, e5]
        rfl
      have win := aw_wins (xs := xs) (nc := nc) (h := h) (d := d) hL hN1 w1 r1 (by rw [F1.1 9 (by decide) (by decide)]; exact hn) hh (by omega)
      unfold aw_Q at win
      rw [ew] at win
      show rz_fin _ L xs 85 22 95 [(0, .ref 8), (1, .int (Int32.ofInt (h : Int))), (2, .int (Int32.ofInt σ.1)), (3, .int (Int32.ofInt σ.2)), (4, .int (Int32.ofInt (d : Int))), (5, .int (Int32.ofInt u2))] [.int (Int32.ofInt (d : Int)), .int (Int32.ofInt (h : Int)), .ref 21] N1
      refine qs_vc (k := 86) (b := 21) (d := 21) (d' := 21) (rest := []) rfl rfl rfl rfl rfl rfl rfl rfl (Nat.le_refl _) rfl (rz_d (by decide) win) (fun r9 N2 hr => ?_)
      obtain ⟨rfl, hN2, f2⟩ := hr
      have F2 : vs_F X N2 := ⟨fun a ha q => (f2 a ha (by omega) (by omega) (by omega)).trans (F1.1 a ha q), fun j q => by rw [f2 21 (by decide) (by decide) (by decide) (by decide)]; exact F1.2 j q⟩
      have P2 : vs_P (vs_T X nc (d - t) t (X 21 6, X 23)) N2 := ⟨by rw [f2 21 (by decide) (by decide) (by decide) (by decide)]; exact P1.1, fun g => by rw [f2 23 (by decide) (by decide) (by decide) (by decide)]; exact P1.2 g⟩
      have wb : 0 ≤ (if aw_X X nc t h d = true then (1 : Int) else 0) ∧ (if aw_X X nc t h d = true then (1 : Int) else 0) ≤ 1 := by split <;> decide
      obtain ⟨b, eb⟩ : ∃ b, (if aw_X X nc t h d = true then (1 : Int) else 0) = b := ⟨_, rfl⟩
      rw [eb] at wb ⊢
      refine qs_use (zs := [(h : Int), σ.1, σ.2, (d : Int), u2, b]) aq4_c hL hN2 (qs_in (show 0 ≤ (h : Int) ∧ (h : Int) ≤ 5 by omega) (qs_in h1 (qs_in h2 (qs_in (show 0 ≤ (d : Int) ∧ (d : Int) ≤ 29 by omega) (qs_iw wo (qs_in wb (qs_fin rfl))))))) (Nat.le_refl _) rfl rfl (qs_c (fun N3 hN3 hc hM => ?_) (qs_c (fun N3 hN3 hc hM => ?_) qs_z))
      · have f3 : ∀ a, a < 128 → N3 a = N2 a := hM
        have b0 : 0 ≤ b ∧ b ≤ 0 := hc.1
        have nw : ¬ aw_X X nc t h d = true := fun q => by
          rw [if_pos q] at eb
          omega
        rw [if_neg (fun q => nw q.2)]
        exact sp σ u2 N3 h1 h2 wo hN3 (vs_Fr F2 f3) ⟨by rw [f3 21 (by decide)]; exact P2.1, fun g => by rw [f3 23 (by decide)]; exact P2.2 g⟩
      · have f3 : ∀ a, a < 128 → N3 a = N2 a := hM
        have b0 : b ≠ 0 := hc.1
        have yw : aw_X X nc t h d = true := Decidable.byContradiction fun q => by
          rw [if_neg q] at eb
          omega
        rw [if_pos ⟨c2, yw⟩]
        exact sp ((d : Int), u2) u2 N3 (by show -2 ≤ (d : Int) ∧ (d : Int) ≤ 29; omega) (by show -1 ≤ u2 ∧ u2 ≤ 2300; omega) wo hN3 (vs_Fr F2 f3) ⟨by rw [f3 21 (by decide)]; exact P2.1, fun g => by rw [f3 23 (by decide)]; exact P2.2 g⟩
    · obtain ⟨c1, c2, c3, c4, -⟩ := hc
      have c1 : -2147483648 ≤ u2 ∧ u2 ≤ 2300 := c1
      have c2 : ¬ σ.2 < u2 := c2
      have c3 : u1 = sx_mf 2 (X 10 (30 + h)) (X 10 (150 + d)) := c3
      have c4 : u2 = sx_mf 6 u1 9 := c4
      have fN1 : ∀ a, a < 128 → N1 a = M' a := hM
      have eo : u2 = od9 (X 10 (30 + h)) (X 10 (150 + d)) := by rw [c4, c3]; rfl
      rw [← eo] at od ⊢
      have wo : sx_w sx_r32 u2 := og_w32 (by omega) (by omega)
      rw [if_neg (fun q => c2 q.1)]
      exact sp σ u2 N1 h1 h2 wo hN1 (vs_Fr F fN1) ⟨by rw [fN1 21 (by decide)]; exact P.1, fun g => by rw [fN1 23 (by decide)]; exact P.2 g⟩
/-- asking: the class -/
def aq_ok (c H S nc : Int) : Prop := 0 ≤ c ∧ c < H ∧ vq_bt S c = 1 ∧ nc ≠ 12
theorem aq_x {c : Int} (hL : L < 2 ^ 31) (hm : sx_mok cl_ly M) (hw : WF M) (hR : vu_R M) (h5 : M 9 5 = (nc : Int)) (h12 : nc ≤ 12) (ht : M 10 210 = (t : Int)) (h29 : t ≤ 29) (wc : sx_w sx_r32 c) (ho : ∀ h d : Nat, h < 6 → d < 30 → 0 ≤ od9 (M 10 (30 + h)) (M 10 (150 + d)) ∧ od9 (M 10 (30 + h)) (M 10 (150 + d)) ≤ 2300) : rz_fin (fun r N => sx_mok cl_ly N ∧ fs_x M N ∧ ((¬ (0 ≤ c ∧ c < M 9 4) ∧ r = some (.int (Int32.ofInt (-1)))) ∨ ((0 ≤ c ∧ c < M 9 4) ∧ ¬ aq_ok c (M 9 4) (M 9 6) (M 9 5) ∧ r = some (.int (Int32.ofInt (-2)))) ∨ (aq_ok c (M 9 4) (M 9 6) (M 9 5) ∧ ∃ X, pb_Q M none X ∧ r = some (.int (Int32.ofInt (akd (fun d => od9 (M 10 (30 + c.toNat)) (M 10 (150 + d))) (aw_X X nc t c.toNat) (30 - t) t (-2, -1)).1))))) L xs 85 22 0 [(0, .ref 8), (1, .int (Int32.ofInt c))] [] M := by
  have hH := cx_fld (c := 9) (k := 4) (lo := 0) (hi := 6) hm (by decide +kernel)
  have hC := cx_fld (c := 9) (k := 5) (lo := 0) (hi := 12) hm (by decide +kernel)
  have w6 : sx_w sx_r32 (M 9 6) := cv_ly_ok (g := (9, 6, sx_r32)) hm (by decide +kernel)
  have bt := vq_bt_r (M 9 6) c
  refine qs_use (zs := [c, M 9 4, M 9 6, M 9 5]) aq1_c hL hm (qs_iw wc (qs_rd (show (0 : Int) ≤ 4 by decide) rfl hH (qs_rd (show (0 : Int) ≤ 6 by decide) rfl w6 (qs_rd (show (0 : Int) ≤ 5 by decide) rfl hC (qs_fin rfl))))) (Nat.le_refl _) rfl rfl (qs_c (fun u1 u2 K hK hc hM => ?_) (qs_c (fun u1 u2 K hK hc hM => ?_) (qs_c (fun u1 u2 K hK hc hM => ?_) (qs_c (fun u1 u2 K hK hc hM => ?_) (qs_c (fun u1 u2 K hK hc hM => ?_) qs_z)))))
  · obtain ⟨c1, -⟩ := hc
    have c1 : -2147483648 ≤ c ∧ c ≤ -1 := c1
    have fK : ∀ a, a < 128 → K a = M a := hM
    exact ⟨hK, fun a ha _ => fK a ha, Or.inl ⟨fun q => by omega, rfl⟩⟩
  · obtain ⟨c1, c2, -⟩ := hc
    have c1 : 0 ≤ c ∧ c ≤ 2147483647 := c1
    have c2 : ¬ c < M 9 4 := c2
    have fK : ∀ a, a < 128 → K a = M a := hM
    exact ⟨hK, fun a ha _ => fK a ha, Or.inl ⟨fun q => c2 q.2, rfl⟩⟩
  · obtain ⟨c1, c2, c3, c4, c5, c6, -⟩ := hc
    have c1 : 0 ≤ c ∧ c ≤ 5 := c1
    have c2 : 1 ≤ M 9 4 ∧ M 9 4 ≤ 6 := c2
    have c3 : 0 ≤ u2 ∧ u2 ≤ 0 := c3
    have c4 : c < M 9 4 := c4
    have c5 : u1 = sx_mf 10 (M 9 6) c := c5
    have c6 : u2 = sx_mf 3 u1 1 := c6
    have fK : ∀ a, a < 128 → K a = M a := hM
    have e : u2 = vq_bt (M 9 6) c := by rw [c6, c5]; rfl
    exact ⟨hK, fun a ha _ => fK a ha, Or.inr (Or.inl ⟨⟨c1.1, c4⟩, fun q => by have := q.2.2.1; omega, rfl⟩)⟩
  · obtain ⟨c1, c2, c3, c4, c5, c6, c7, -⟩ := hc
    have c1 : 0 ≤ c ∧ c ≤ 5 := c1
    have c2 : 1 ≤ M 9 4 ∧ M 9 4 ≤ 6 := c2
    have c3 : 12 ≤ M 9 5 ∧ M 9 5 ≤ 12 := c3
    have c4 : u2 ≠ 0 := c4
    have c5 : c < M 9 4 := c5
    have c6 : u1 = sx_mf 10 (M 9 6) c := c6
    have c7 : u2 = sx_mf 3 u1 1 := c7
    have fK : ∀ a, a < 128 → K a = M a := hM
    exact ⟨hK, fun a ha _ => fK a ha, Or.inr (Or.inl ⟨⟨c1.1, c5⟩, fun q => by have := q.2.2.2; omega, rfl⟩)⟩
  · obtain ⟨c1, c2, c3, c4, c5, c6, c7, -⟩ := hc
    have c1 : 0 ≤ c ∧ c ≤ 5 := c1
    have c2 : 1 ≤ M 9 4 ∧ M 9 4 ≤ 6 := c2
    have c3 : M 9 5 ≠ 12 := c3
    have c4 : u2 ≠ 0 := c4
    have c5 : c < M 9 4 := c5
    have c6 : u1 = sx_mf 10 (M 9 6) c := c6
    have c7 : u2 = sx_mf 3 u1 1 := c7
    have fK : ∀ a, a < 128 → K a = M a := hM
    have e : u2 = vq_bt (M 9 6) c := by rw [c7, c6]; rfl
    have ok : aq_ok c (M 9 4) (M 9 6) (M 9 5) := ⟨c1.1, c5, by omega, c3⟩
    obtain ⟨h, rfl⟩ := Int.eq_ofNat_of_zero_le c1.1
    have go : ∀ X, pb_Q M none X → rz_fin (fun r N => r = some (.int (Int32.ofInt (akd (fun d => od9 (M 10 (30 + h)) (M 10 (150 + d))) (aw_X X nc t h) (30 - t) t (-2, -1)).1)) ∧ sx_mok cl_ly N ∧ vs_F X N) L xs 85 22 54 [(0, .ref 8), (1, .int (Int32.ofInt (h : Int))), (2, .int (Int32.ofInt (-2))), (3, .int (Int32.ofInt (-1)))] [] X := fun X hX => by
      obtain ⟨wX, rX⟩ := pb_keep hw hR hX
      have x10 : X 10 = M 10 := hX.2.2.1 10 (by decide) (by decide) (by decide)
      have x9 : X 9 = M 9 := hX.2.2.1 9 (by decide) (by decide) (by decide)
      refine qs_use (zs := [(h : Int), (t : Int)]) aq2_c hL hX.2.1 (qs_in (show 0 ≤ (h : Int) ∧ (h : Int) ≤ 5 by omega) (qs_rd (show (0 : Int) ≤ 210 by decide) (by rw [x10]; exact ht) (show 0 ≤ (t : Int) ∧ (t : Int) ≤ 29 by omega) (qs_fin rfl))) (Nat.le_refl _) rfl rfl (qs_c (fun N2 hN2 hc hM => ?_) qs_z)
      have f2 : ∀ a, a < 128 → N2 a = X a := hM
      have g := aq_loop (xs := xs) (X := X) (nc := nc) (t := t) (h := h) hL hX.2.1 wX rX (by rw [x9]; exact h5) h12 (by omega) (fun d hd => by rw [x10]; exact ho h d (by omega) hd) (30 - t) t (-2, -1) N2 (by omega) (Nat.le_refl _) (by decide) (by decide) hN2 (vs_Fr vs_F_rfl f2) (by rw [Nat.sub_self]; exact ⟨by rw [f2 21 (by decide)]; rfl, fun g => by rw [f2 23 (by decide)]; rfl⟩)
      rw [x10] at g
      exact g
    show rz_fin _ L xs 85 22 51 [(0, .ref 8), (1, .int (Int32.ofInt (h : Int))), (2, .int (Int32.ofInt (-2))), (3, .int (Int32.ofInt (-1)))] [.ref 21] K
    refine qs_vc (k := 54) (b := 21) (d := 21) (d' := 21) (rest := []) rfl rfl rfl rfl rfl rfl rfl rfl (Nat.le_refl _) rfl (rz_d (by decide) (pb_begin (xs := xs) hL hK)) (fun r9 X hX => ?_)
    have hr : r9 = none := hX.1
    subst hr
    have hX := pb_tr fK hX
    refine qs_w (go X hX) (fun r N q => ?_)
    obtain ⟨q1, q2, q3⟩ := q
    exact ⟨q2, fun a ha g => (q3.1 a ha (by omega)).trans (hX.2.2.1 a ha (by omega) (by omega)), Or.inr (Or.inr ⟨ok, X, hX, q1⟩)⟩
end
