/-! ask: the reference. -/
section
variable {L : Nat} {xs : Nat → Int32} {M M' N N' K X Y : Nat → Nat → Int} {t h nc H : Nat} {v : Int}
def ar1_i : List qs_I := [(0, 0, (0, 0), sx_r32), (1, 53, (0, 1), (0, 6)), (1, 53, (0, 7), sx_r32), (1, 53, (0, 8), (0, 12)), (1, 53, (0, 13), (0, 29))]
def ar1_T : List og_T := [(none, some (0, 0, -1), [], [], [], [(0, (9, 0), (0, 0), -2147483648, -1)]), (none, some (0, 0, -1), [], [], [], [(0, (9, 0), (0, 0), 0, 2147483647), (1, (10, 0), (9, 0), 1, 0)]), (none, some (0, 0, -2), [], [], [], [(0, (9, 0), (0, 0), 0, 5), (0, (10, 0), (0, 0), 1, 6), (0, (12, 0), (0, 0), 12, 12), (0, (15, 0), (0, 0), 1, 1), (2, (10, 0), (9, 0), 1, 0), (5, (11, 0), (9, 0), 9, 14), (5, (14, 0), (0, 1), 3, 15)]), (some 61, none, [], [(0, 2, 0, 53), (1, 0, 9, 0), (2, 0, 0, -2), (3, 0, 13, 0)], [(59, (12, 0), (9, 0)), (53, (0, 8), (12, 1))], [(0, (9, 0), (0, 0), 0, 5), (0, (10, 0), (0, 0), 1, 6), (0, (15, 0), (0, 0), 1, 1), (7, (12, 0), (0, 0), 12, 0), (2, (10, 0), (9, 0), 1, 0), (5, (11, 0), (9, 0), 9, 14), (5, (14, 0), (0, 1), 3, 15)]), (none, some (0, 0, -2), [], [], [], [(0, (9, 0), (0, 0), 0, 5), (0, (10, 0), (0, 0), 1, 6), (7, (15, 0), (0, 0), 1, 0), (2, (10, 0), (9, 0), 1, 0), (5, (11, 0), (9, 0), 9, 14), (5, (14, 0), (0, 1), 3, 15)])]
theorem ar1_c : qs_chk (fun pc => Nat.beq pc 61) ar1_i 2 ar1_T 400 400 21 216 0 [(0, 2, 0, 53), (1, 0, 9, 0)] [] = true := by decide +kernel
def ar2_i : List qs_I := [(0, 0, (0, 0), (0, 5)), (0, 0, (0, 0), (-2, 29)), (0, 0, (0, 0), (0, 29)), (1, 53, (0, 8), (1, 12))]
def ar2_T : List og_T := [(some 82, none, [(0, 11, 0), (0, 9, 0), (2, 0, 53)], [(0, 2, 0, 53), (1, 0, 9, 0), (2, 0, 10, 0), (3, 0, 11, 0)], [(60, (12, -1), (11, 0))], [])]
theorem ar2_c : qs_chk (fun pc => bif Nat.beq pc 82 then true else Nat.beq pc 115) ar2_i 0 ar2_T 400 400 21 216 61 [(0, 2, 0, 53), (1, 0, 9, 0), (2, 0, 10, 0), (3, 0, 11, 0)] [] = true := by decide +kernel
def ar3_i : List qs_I := [(0, 0, (0, 0), (0, 5)), (0, 0, (0, 0), (-2, -1)), (0, 0, (0, 0), (0, 29)), (0, 0, (0, 0), (1, 1))]
def ar3_T : List og_T := [(some 61, none, [], [(0, 2, 0, 53), (1, 0, 9, 0), (2, 0, 11, 0), (3, 0, 11, 1)], [], [])]
theorem ar3_c : qs_chk (fun pc => Nat.beq pc 61) ar3_i 0 ar3_T 400 400 21 216 85 [(0, 2, 0, 53), (1, 0, 9, 0), (2, 0, 10, 0), (3, 0, 11, 0)] [(0, 12, 0)] = true := by decide +kernel
def ar5_i : List qs_I := [(0, 0, (0, 0), (0, 5)), (0, 0, (0, 0), (0, 29)), (0, 0, (0, 0), (0, 29)), (0, 0, (0, 0), (1, 1)), (1, 55, (9, 0), (-1, 143)), (1, 61, (11, 0), (-1, 143))]
def ar5_T : List og_T := [(some 101, none, [(0, 10, 0), (0, 9, 0), (2, 0, 53), (0, 16, 0)], [(0, 2, 0, 53), (1, 0, 9, 0), (2, 0, 10, 0), (3, 0, 11, 0)], [], [(5, (13, 0), (14, 0), 2, 15), (5, (15, 0), (0, 9), 6, 16)])]
theorem ar5_c : qs_chk (fun pc => Nat.beq pc 101) ar5_i 2 ar5_T 400 400 21 216 85 [(0, 2, 0, 53), (1, 0, 9, 0), (2, 0, 10, 0), (3, 0, 11, 0)] [(0, 12, 0)] = true := by decide +kernel
def ar7_i : List qs_I := [(0, 0, (0, 0), (0, 5)), (0, 0, (0, 0), (0, 29)), (0, 0, (0, 0), (0, 29)), (0, 0, (0, 0), sx_r32), (1, 55, (9, 0), (-1, 143)), (1, 61, (10, 0), (-1, 143))]
def ar7_T : List og_T := [(some 61, none, [], [(0, 2, 0, 53), (1, 0, 9, 0), (2, 0, 11, 0), (3, 0, 11, 1)], [], [(0, (12, 0), (0, 0), -2147483647, 2147483647), (0, (16, 0), (0, 0), -2147483648, 2147483646), (1, (16, 0), (12, 0), 0, 0), (5, (13, 0), (14, 0), 2, 15), (5, (15, 0), (0, 9), 6, 16)]), (some 61, none, [], [(0, 2, 0, 53), (1, 0, 9, 0), (2, 0, 10, 0), (3, 0, 11, 1)], [], [(2, (16, 0), (12, 0), 0, 0), (5, (13, 0), (14, 0), 2, 15), (5, (15, 0), (0, 9), 6, 16)])]
theorem ar7_c : qs_chk (fun pc => Nat.beq pc 61) ar7_i 2 ar7_T 400 400 21 216 101 [(0, 2, 0, 53), (1, 0, 9, 0), (2, 0, 10, 0), (3, 0, 11, 0)] [(0, 10, 0), (0, 9, 0), (2, 0, 53), (0, 12, 0)] = true := by decide +kernel
def ar6_i : List qs_I := [(0, 0, (0, 0), (0, 5)), (0, 0, (0, 0), (-2, 29)), (0, 0, (0, 0), (0, 29)), (0, 0, (0, 0), (0, 0))]
def ar6_T : List og_T := [(some 61, none, [], [(0, 2, 0, 53), (1, 0, 9, 0), (2, 0, 10, 0), (3, 0, 11, 1)], [], [])]
theorem ar6_c : qs_chk (fun pc => Nat.beq pc 61) ar6_i 0 ar6_T 400 400 21 216 85 [(0, 2, 0, 53), (1, 0, 9, 0), (2, 0, 10, 0), (3, 0, 11, 0)] [(0, 12, 0)] = true := by decide +kernel
def ar4_i : List qs_I := [(0, 0, (0, 0), (0, 5)), (0, 0, (0, 0), (-2, 29)), (1, 53, (0, 8), (1, 12))]
def ar4_T : List og_T := [(none, some (0, 10, 0), [], [], [(53, (0, 8), (11, -1))], [])]
theorem ar4_c : qs_chk (fun pc => Nat.beq pc 82) ar4_i 0 ar4_T 400 400 21 216 61 [(0, 2, 0, 53), (1, 0, 9, 0), (2, 0, 10, 0), (3, 0, 0, 30)] [] = true := by decide +kernel
theorem vq_may_no {D W : Nat → Int} {S G : Int} {d e : Nat} (h : D nc = (e : Int)) (hd : d ≠ e) : vq_may D W S G (d : Int) nc = false := decide_eq_false (fun q => by
  have q := q.1
  omega)
theorem vq_cd_more {D W : Nat → Int} {lk : Nat → Nat → Int → Int} {S : Int} {d e : Nat} {T : Int × (Nat → Int)} (h : D nc = (e : Int)) (hd : d ≠ e) : vq_cd D W lk S (nc + 1) d T = vq_cd D W lk S nc d T := by
  have q : vq_ch D W (fun g => lk d g (T.2 g)) S T.1 (d : Int) (nc + 1) = vq_ch D W (fun g => lk d g (T.2 g)) S T.1 (d : Int) nc := if_neg (fun q => by
    rw [vq_may_no h hd] at q
    exact absurd q.1 (by decide))
  exact congrArg Prod.fst q
theorem vq_T_more {D W : Nat → Int} {lk : Nat → Nat → Int → Int} {S : Int} {e : Nat} (h : D nc = (e : Int)) : ∀ (k d : Nat) (T : Int × (Nat → Int)), d + k ≤ e → vq_T D W lk S (nc + 1) k d T = vq_T D W lk S nc k d T := by
  intro k
  induction k with
  | zero => intro d T _; rfl
  | succ k ih =>
    intro d T hd
    show vq_T D W lk S (nc + 1) k (d + 1) (vq_nx D W T (vq_cd D W lk S (nc + 1) d T)) = vq_T D W lk S nc k (d + 1) (vq_nx D W T (vq_cd D W lk S nc d T))
    rw [vq_cd_more h (by omega)]
    exact ih (d + 1) _ (by omega)
/-- one card more, for day d -/
theorem aw_v {d : Nat} (h60 : Y 60 nc = (d : Int)) (h59 : Y 59 nc = (h : Int)) (hS : vq_bt (Y 53 35) (h : Int) = 1) (htd : t ≤ d) : vj Y (nc + 1) t d = (h : Int) ↔ aw_b (Y 59) h (ms_cd Y nc d (ms_T Y nc (d - t) t (Y 53 36, Y 75))) (vq_ch (Y 60) (Y 59) (fun g => ms_lk Y d g ((ms_T Y nc (d - t) t (Y 53 36, Y 75)).2 g)) (Y 53 35) (ms_T Y nc (d - t) t (Y 53 36, Y 75)).1 (d : Int) nc).2 (ms_lk Y d h ((ms_T Y nc (d - t) t (Y 53 36, Y 75)).2 h)) = true := by
  have eT : ms_T Y (nc + 1) (d - t) t (Y 53 36, Y 75) = (ms_T Y nc (d - t) t (Y 53 36, Y 75)) := vq_T_more (e := d) h60 (d - t) t _ (by omega)
  unfold vj
  rw [eT]
  generalize (ms_T Y nc (d - t) t (Y 53 36, Y 75)) = T
  have may : vq_may (Y 60) (Y 59) (Y 53 35) T.1 (d : Int) nc = true := decide_eq_true ⟨Or.inl h60, by rw [h59]; exact hS⟩
  have e : vq_ch (Y 60) (Y 59) (fun g => ms_lk Y d g (T.2 g)) (Y 53 35) T.1 (d : Int) (nc + 1) = if (vq_ch (Y 60) (Y 59) (fun g => ms_lk Y d g (T.2 g)) (Y 53 35) T.1 (d : Int) nc).2 < ms_lk Y d h (T.2 h) then ((nc : Int), ms_lk Y d h (T.2 h)) else vq_ch (Y 60) (Y 59) (fun g => ms_lk Y d g (T.2 g)) (Y 53 35) T.1 (d : Int) nc := by
    show (if vq_may (Y 60) (Y 59) (Y 53 35) T.1 (d : Int) nc = true ∧ (vq_ch (Y 60) (Y 59) (fun g => ms_lk Y d g (T.2 g)) (Y 53 35) T.1 (d : Int) nc).2 < ms_lk Y d (Y 59 nc).toNat (T.2 (Y 59 nc).toNat) then ((nc : Int), ms_lk Y d (Y 59 nc).toNat (T.2 (Y 59 nc).toNat)) else vq_ch (Y 60) (Y 59) (fun g => ms_lk Y d g (T.2 g)) (Y 53 35) T.1 (d : Int) nc) = _
    rw [h59, Int.toNat_natCast]
    by_cases c : (vq_ch (Y 60) (Y 59) (fun g => ms_lk Y d g (T.2 g)) (Y 53 35) T.1 (d : Int) nc).2 < ms_lk Y d h (T.2 h)
    · rw [if_pos ⟨may, c⟩, if_pos c]
    · rw [if_neg (fun q => c q.2), if_neg c]
  have e1 : ms_cd Y (nc + 1) d T = (vq_ch (Y 60) (Y 59) (fun g => ms_lk Y d g (T.2 g)) (Y 53 35) T.1 (d : Int) (nc + 1)).1 := rfl
  have e2 : ms_cd Y nc d T = (vq_ch (Y 60) (Y 59) (fun g => ms_lk Y d g (T.2 g)) (Y 53 35) T.1 (d : Int) nc).1 := rfl
  rw [e1, e2, e]
  generalize vq_ch (Y 60) (Y 59) (fun g => ms_lk Y d g (T.2 g)) (Y 53 35) T.1 (d : Int) nc = σ
  unfold aw_b
  rw [decide_eq_true_iff]
  by_cases c : σ.2 < ms_lk Y d h (T.2 h)
  · rw [if_pos c]
    refine ⟨fun _ => Or.inr c, fun _ => ?_⟩
    show vq_hs (Y 59) (nc : Int) = (h : Int)
    unfold vq_hs
    rw [if_neg (by omega), Int.toNat_natCast]
    exact h59
  · rw [if_neg c]
    exact ⟨Or.inl, fun q => q.elim id (fun x => absurd x c)⟩
/-- what the reference's memory is while it asks -/
def yq (M : Nat → Nat → Int) (nc h : Nat) (N : Nat → Nat → Int) : Prop := (∀ a, a < 128 → a ≠ 53 → a ≠ 59 → a ≠ 60 → a ≠ 72 → a ≠ 73 → ¬ (75 ≤ a ∧ a ≤ 77) → N a = M a) ∧ (∀ j, j ≠ nc → N 59 j = M 59 j ∧ N 60 j = M 60 j) ∧ N 59 nc = (h : Int) ∧ (∀ j, j ≠ 8 → j ≠ 35 → j ≠ 36 → N 53 j = M 53 j) ∧ N 53 8 = ((nc + 1 : Nat) : Int)
theorem yq_on (hy : yq M nc h N) (f : ∀ a, a < 128 → K a = N a) : yq M nc h K := ⟨fun a ha x1 x2 x3 x4 x5 x6 => (f a ha).trans (hy.1 a ha x1 x2 x3 x4 x5 x6), fun j hj => by rw [f 59 (by decide), f 60 (by decide)]; exact hy.2.1 j hj, by rw [f 59 (by decide)]; exact hy.2.2.1, fun j x1 x2 x3 => by rw [f 53 (by decide)]; exact hy.2.2.2.1 j x1 x2 x3, by rw [f 53 (by decide)]; exact hy.2.2.2.2⟩
theorem yq_60 (hy : yq M nc h N) (f : ∀ a, a < 128 → K a = sx_up N 60 nc v a) : yq M nc h K ∧ K 60 nc = v := by
  have o : ∀ a, a < 128 → a ≠ 60 → K a = N a := fun a ha x => by rw [f a ha, sh_une x]
  refine ⟨⟨fun a ha x1 x2 x3 x4 x5 x6 => (o a ha x3).trans (hy.1 a ha x1 x2 x3 x4 x5 x6), fun j hj => ⟨by rw [o 59 (by decide) (by decide)]; exact (hy.2.1 j hj).1, by rw [f 60 (by decide), sh_unj hj]; exact (hy.2.1 j hj).2⟩, by rw [o 59 (by decide) (by decide)]; exact hy.2.2.1, fun j x1 x2 x3 => by rw [o 53 (by decide) (by decide)]; exact hy.2.2.2.1 j x1 x2 x3, by rw [o 53 (by decide) (by decide)]; exact hy.2.2.2.2⟩, by rw [f 60 (by decide), sh_uat]⟩
theorem yq_day (hy : yq M nc h K) (hY : my_Q K H none Y) (hF : ms_F Y N) : yq M nc h N := by
  have o : ∀ a, a < 128 → a ≠ 53 → a ≠ 72 → a ≠ 73 → ¬ (75 ≤ a ∧ a ≤ 77) → N a = K a := fun a ha x1 x2 x3 x4 => (hF.1 a ha x1 x2 x3 x4).trans (hY.2.2.1 a ha x1 (by omega))
  have o53 : ∀ j, j ≠ 35 → j ≠ 36 → N 53 j = K 53 j := fun j x1 x2 => (hF.2 j x2).trans (hY.2.2.2.1 j x1 x2)
  exact ⟨fun a ha x1 x2 x3 x4 x5 x6 => (o a ha x1 x4 x5 x6).trans (hy.1 a ha x1 x2 x3 x4 x5 x6), fun j hj => by rw [o 59 (by decide) (by decide) (by decide) (by decide) (by decide), o 60 (by decide) (by decide) (by decide) (by decide) (by decide)]; exact hy.2.1 j hj, by rw [o 59 (by decide) (by decide) (by decide) (by decide) (by decide)]; exact hy.2.2.1, fun j x1 x2 x3 => (o53 j x2 x3).trans (hy.2.2.2.1 j x1 x2 x3), (o53 8 (by decide) (by decide)).trans hy.2.2.2.2⟩
/-- the reference: day by day -/
theorem ar_loop {wn : Nat → Bool} (hL : L < 2 ^ 31) (hw : WF M) (hR : vu_R M) (hH : M 53 1 = (H : Int)) (h12 : nc ≤ 11) (hh : h ≤ 5) (ht : M 53 13 = (t : Int)) (m55 : -1 ≤ M 55 h ∧ M 55 h ≤ 143) (hv : ∀ (d : Nat) (N Y : Nat → Nat → Int), t ≤ d → d < 30 → yq M nc h N → N 60 nc = (d : Int) → my_Q N H none Y → (vj Y (nc + 1) t d = (h : Int) ↔ wn d = true)) : ∀ (k d : Nat) (r : Int) (N : Nat → Nat → Int), d + k = 30 → t ≤ d → -2 ≤ r ∧ r ≤ 29 → r < (d : Int) → sx_mok cl_ly N → yq M nc h N → rz_fin (fun r' _ => r' = some (.int (Int32.ofInt (akr (fun d => od9 (M 55 h) (M 61 d)) wn k d r)))) L xs 216 21 61 [(0, .ref 53), (1, .int (Int32.ofInt (h : Int))), (2, .int (Int32.ofInt r)), (3, .int (Int32.ofInt (d : Int)))] [] N := by
  intro k
  induction k with
  | zero =>
    intro d r N hd ht hr hrd hm hy
    have e : d = 30 := by omega
    subst e
    refine qs_use (zs := [(h : Int), r, ((nc + 1 : Nat) : Int)]) ar4_c hL hm (qs_in (show 0 ≤ (h : Int) ∧ (h : Int) ≤ 5 by omega) (qs_in hr (qs_rd (show (0 : Int) ≤ 8 by decide) hy.2.2.2.2 (show 1 ≤ ((nc + 1 : Nat) : Int) ∧ ((nc + 1 : Nat) : Int) ≤ 12 by omega) (qs_fin rfl)))) (Nat.le_refl _) rfl rfl (qs_c (fun N1 hN1 hc hM => ?_) qs_z)
    exact rfl
  | succ k ih =>
    intro d r N hd htd hr hrd hm hy
    refine qs_use (zs := [(h : Int), r, (d : Int), ((nc + 1 : Nat) : Int)]) ar2_c hL hm (qs_in (show 0 ≤ (h : Int) ∧ (h : Int) ≤ 5 by omega) (qs_in hr (qs_in (show 0 ≤ (d : Int) ∧ (d : Int) ≤ 29 by omega) (qs_rd (show (0 : Int) ≤ 8 by decide) hy.2.2.2.2 (show 1 ≤ ((nc + 1 : Nat) : Int) ∧ ((nc + 1 : Nat) : Int) ≤ 12 by omega) (qs_fin rfl))))) (Nat.le_refl _) rfl rfl (qs_c (fun K hK hc hM => ?_) qs_z)
    have fK : ∀ a, a < 128 → K a = sx_up N 60 (((nc + 1 : Nat) : Int) + -1).toNat (d : Int) a := hM
    rw [show (((nc + 1 : Nat) : Int) + -1).toNat = nc by omega] at fK
    obtain ⟨yK, k60⟩ := yq_60 hy fK
    obtain ⟨wK, rK⟩ := wr_ref hw hR (fun a q => yK.1 a (by omega) (by omega) (by omega) (by omega) (by omega) (by omega) (by omega)) (yK.2.2.2.1 33 (by decide) (by decide) (by decide))
    show rz_fin _ L xs 216 21 82 [(0, .ref 53), (1, .int (Int32.ofInt (h : Int))), (2, .int (Int32.ofInt r)), (3, .int (Int32.ofInt (d : Int)))] [.int (Int32.ofInt (d : Int)), .int (Int32.ofInt (h : Int)), .ref 53] K
    refine qs_vc (k := 217) (b := 53) (d := 20) (d' := 20) (rest := []) rfl rfl rfl rfl rfl rfl rfl rfl (Nat.le_refl _) rfl (vi_ref (xs := xs) (M := K) (H := H) (nc := nc + 1) (t := t) (e := d) (h := h) hL hK wK rK (by rw [yK.2.2.2.1 1 (by decide) (by decide) (by decide)]; exact hH) yK.2.2.2.2 (by rw [yK.2.2.2.1 13 (by decide) (by decide) (by decide)]; exact ht) htd (by omega) hh) (fun r9 N2 hq => ?_)
    obtain ⟨Y, hY, F2, hN2, rfl⟩ := hq
    have y2 := yq_day yK hY F2
    have vw := hv d K Y htd (by omega) yK k60 hY
    have e0 : akr (fun d => od9 (M 55 h) (M 61 d)) wn (k + 1) d r = akr (fun d => od9 (M 55 h) (M 61 d)) wn k (d + 1) (if wn d = true ∧ (r < 0 ∨ od9 (M 55 h) (M 61 r.toNat) < od9 (M 55 h) (M 61 d)) then (d : Int) else r) := rfl
    rw [e0]
    have z55 : N2 55 = M 55 := y2.1 55 (by decide) (by decide) (by decide) (by decide) (by decide) (by decide) (by decide)
    have z61 : N2 61 = M 61 := y2.1 61 (by decide) (by decide) (by decide) (by decide) (by decide) (by decide) (by decide)
    by_cases w : wn d = true
    · rw [if_pos (vw.mpr w)]
      by_cases r0 : r < 0
      · have e : (if wn d = true ∧ (r < 0 ∨ od9 (M 55 h) (M 61 r.toNat) < od9 (M 55 h) (M 61 d)) then (d : Int) else r) = (d : Int) := if_pos ⟨w, Or.inl r0⟩
        rw [e]
        have rr : -2 ≤ r ∧ r ≤ -1 := by omega
        refine qs_use (zs := [(h : Int), r, (d : Int), (1 : Int)]) ar3_c hL hN2 (qs_in (show 0 ≤ (h : Int) ∧ (h : Int) ≤ 5 by omega) (qs_in rr (qs_in (show 0 ≤ (d : Int) ∧ (d : Int) ≤ 29 by omega) (qs_in (show 1 ≤ (1 : Int) ∧ (1 : Int) ≤ 1 by omega) (qs_fin rfl))))) (Nat.le_refl _) rfl rfl (qs_c (fun N3 hN3 hc hM => ?_) qs_z)
        have f3 : ∀ a, a < 128 → N3 a = N2 a := hM
        exact ih (d + 1) (d : Int) N3 (by omega) (by omega) (by omega) (by omega) hN3 (yq_on y2 f3)
      · have rr : 0 ≤ r ∧ r ≤ 29 := by omega
        have m61 : ∀ k : Nat, k < 30 → -1 ≤ M 61 k ∧ M 61 k ≤ 143 := fun k hk => by
          have q : sx_w (-1, 143) (N2 61 k) := hN2 61 _ k _ rfl hk rfl
          rw [z61] at q
          exact q
        refine qs_use (zs := [(h : Int), r, (d : Int), (1 : Int), M 55 h, M 61 d]) ar5_c hL hN2 (qs_in (show 0 ≤ (h : Int) ∧ (h : Int) ≤ 5 by omega) (qs_in rr (qs_in (show 0 ≤ (d : Int) ∧ (d : Int) ≤ 29 by omega) (qs_in (show 1 ≤ (1 : Int) ∧ (1 : Int) ≤ 1 by omega) (qs_rd (show 0 ≤ (h : Int) by omega) (show N2 55 h = M 55 h by rw [z55]) m55 (qs_rd (show 0 ≤ (d : Int) by omega) (show N2 61 d = M 61 d by rw [z61]) (m61 d (by omega)) (qs_fin rfl))))))) (Nat.le_refl _) rfl rfl (qs_c (fun u1 u2 N3 hN3 hc hM => ?_) qs_z)
        obtain ⟨c1, c2, -⟩ := hc
        have c1 : u1 = sx_mf 2 (M 55 h) (M 61 d) := c1
        have c2 : u2 = sx_mf 6 u1 9 := c2
        have fN3 : ∀ a, a < 128 → N3 a = N2 a := hM
        have o3 : u2 = od9 (M 55 h) (M 61 d) := by rw [c2, c1]; rfl
        have w3 : sx_w sx_r32 u2 := by
          rw [o3]
          exact sx_w32 (Int32.ofInt (sx_mf 2 (M 55 h) (M 61 d)) / Int32.ofInt 9)
        show rz_fin _ L xs 216 21 101 [(0, .ref 53), (1, .int (Int32.ofInt (h : Int))), (2, .int (Int32.ofInt r)), (3, .int (Int32.ofInt (d : Int)))] [.int (Int32.ofInt r), .int (Int32.ofInt (h : Int)), .ref 53, .int (Int32.ofInt u2)] N3
        refine qs_use (zs := [(h : Int), r, (d : Int), u2, M 55 h, M 61 r.toNat]) ar7_c hL hN3 (qs_in (show 0 ≤ (h : Int) ∧ (h : Int) ≤ 5 by omega) (qs_in rr (qs_in (show 0 ≤ (d : Int) ∧ (d : Int) ≤ 29 by omega) (qs_iw w3 (qs_rd (show 0 ≤ (h : Int) by omega) (show N3 55 h = M 55 h by rw [fN3 55 (by decide), z55]) m55 (qs_rd (show 0 ≤ r by omega) (show N3 61 r.toNat = M 61 r.toNat by rw [fN3 61 (by decide), z61]) (m61 r.toNat (by omega)) (qs_fin rfl))))))) (Nat.le_refl _) rfl rfl (qs_c (fun v1 v2 N4 hN4 hc hM => ?_) (qs_c (fun v1 v2 N4 hN4 hc hM => ?_) qs_z))
        · obtain ⟨-, -, c3, c4, c5, -⟩ := hc
          have c3 : v2 < u2 := c3
          have c4 : v1 = sx_mf 2 (M 55 h) (M 61 r.toNat) := c4
          have c5 : v2 = sx_mf 6 v1 9 := c5
          have fN4 : ∀ a, a < 128 → N4 a = N3 a := hM
          have o6 : v2 = od9 (M 55 h) (M 61 r.toNat) := by rw [c5, c4]; rfl
          rw [o3, o6] at c3
          have e : (if wn d = true ∧ (r < 0 ∨ od9 (M 55 h) (M 61 r.toNat) < od9 (M 55 h) (M 61 d)) then (d : Int) else r) = (d : Int) := if_pos ⟨w, Or.inr c3⟩
          rw [e]
          exact ih (d + 1) (d : Int) N4 (by omega) (by omega) (by omega) (by omega) hN4 (yq_on y2 (fun a ha => (fN4 a ha).trans (fN3 a ha)))
        · obtain ⟨c3, c4, c5, -⟩ := hc
          have c3 : ¬ v2 < u2 := c3
          have c4 : v1 = sx_mf 2 (M 55 h) (M 61 r.toNat) := c4
          have c5 : v2 = sx_mf 6 v1 9 := c5
          have fN4 : ∀ a, a < 128 → N4 a = N3 a := hM
          have o6 : v2 = od9 (M 55 h) (M 61 r.toNat) := by rw [c5, c4]; rfl
          rw [o3, o6] at c3
          have e : (if wn d = true ∧ (r < 0 ∨ od9 (M 55 h) (M 61 r.toNat) < od9 (M 55 h) (M 61 d)) then (d : Int) else r) = r := if_neg (fun q => q.2.elim r0 c3)
          rw [e]
          exact ih (d + 1) r N4 (by omega) (by omega) hr (by omega) hN4 (yq_on y2 (fun a ha => (fN4 a ha).trans (fN3 a ha)))
    · rw [if_neg (fun q => w (vw.mp q))]
      have e : (if wn d = true ∧ (r < 0 ∨ od9 (M 55 h) (M 61 r.toNat) < od9 (M 55 h) (M 61 d)) then (d : Int) else r) = r := if_neg (fun q => w q.1)
      rw [e]
      refine qs_use (zs := [(h : Int), r, (d : Int), (0 : Int)]) ar6_c hL hN2 (qs_in (show 0 ≤ (h : Int) ∧ (h : Int) ≤ 5 by omega) (qs_in hr (qs_in (show 0 ≤ (d : Int) ∧ (d : Int) ≤ 29 by omega) (qs_in (show 0 ≤ (0 : Int) ∧ (0 : Int) ≤ 0 by omega) (qs_fin rfl))))) (Nat.le_refl _) rfl rfl (qs_c (fun N3 hN3 hc hM => ?_) qs_z)
      have f3 : ∀ a, a < 128 → N3 a = N2 a := hM
      exact ih (d + 1) r N3 (by omega) (by omega) hr (by omega) hN3 (yq_on y2 f3)
/-- asking: the reference -/
theorem ar_x {c : Int} {wn : Nat → Bool} (hL : L < 2 ^ 31) (hm : sx_mok cl_ly M) (hw : WF M) (hR : vu_R M) (hH : M 53 1 = (H : Int)) (h8 : M 53 8 = (nc : Int)) (h12 : nc ≤ 12) (ht : M 53 13 = (t : Int)) (h29 : t ≤ 29) (wc : sx_w sx_r32 c) (hv : aq_ok c (M 53 1) (M 53 7) (M 53 8) → ∀ (d : Nat) (N Y : Nat → Nat → Int), t ≤ d → d < 30 → yq M nc c.toNat N → N 60 nc = (d : Int) → my_Q N H none Y → (vj Y (nc + 1) t d = ((c.toNat : Nat) : Int) ↔ wn d = true)) : rz_fin (fun r _ => (¬ (0 ≤ c ∧ c < M 53 1) ∧ r = some (.int (Int32.ofInt (-1)))) ∨ ((0 ≤ c ∧ c < M 53 1) ∧ ¬ aq_ok c (M 53 1) (M 53 7) (M 53 8) ∧ r = some (.int (Int32.ofInt (-2)))) ∨ (aq_ok c (M 53 1) (M 53 7) (M 53 8) ∧ r = some (.int (Int32.ofInt (akr (fun d => od9 (M 55 c.toNat) (M 61 d)) wn (30 - t) t (-2)))))) L xs 216 21 0 [(0, .ref 53), (1, .int (Int32.ofInt c))] [] M := by
  have f1 := cx_fld (c := 53) (k := 1) (lo := 0) (hi := 6) hm (by decide +kernel)
  have f8 := cx_fld (c := 53) (k := 8) (lo := 0) (hi := 12) hm (by decide +kernel)
  have f13 := cx_fld (c := 53) (k := 13) (lo := 0) (hi := 29) hm (by decide +kernel)
  have w7 : sx_w sx_r32 (M 53 7) := cv_ly_ok (g := (53, 7, sx_r32)) hm (by decide +kernel)
  have be : ∀ u1 u2 : Int, 0 ≤ c → c ≤ 5 → u1 = sx_mf 9 (M 53 7) c → u2 = sx_mf 3 u1 1 → u2 = vq_bt (M 53 7) c := fun u1 u2 k1 k2 k3 k4 => by
    obtain ⟨k, rfl⟩ := Int.eq_ofNat_of_zero_le k1
    rw [k4, k3]
    exact vq_b9 _ (by omega)
  refine qs_use (zs := [c, M 53 1, M 53 7, M 53 8, M 53 13]) ar1_c hL hm (qs_iw wc (qs_rd (show (0 : Int) ≤ 1 by decide) rfl f1 (qs_rd (show (0 : Int) ≤ 7 by decide) rfl w7 (qs_rd (show (0 : Int) ≤ 8 by decide) rfl f8 (qs_rd (show (0 : Int) ≤ 13 by decide) rfl f13 (qs_fin rfl)))))) (Nat.le_refl _) rfl rfl (qs_c (fun u1 u2 K hK hc hM => ?_) (qs_c (fun u1 u2 K hK hc hM => ?_) (qs_c (fun u1 u2 K hK hc hM => ?_) (qs_c (fun u1 u2 K hK hc hM => ?_) (qs_c (fun u1 u2 K hK hc hM => ?_) qs_z)))))
  · obtain ⟨c1, -⟩ := hc
    have c1 : -2147483648 ≤ c ∧ c ≤ -1 := c1
    have fK : ∀ a, a < 128 → K a = M a := hM
    exact Or.inl ⟨fun q => by omega, rfl⟩
  · obtain ⟨c1, c2, -⟩ := hc
    have c1 : 0 ≤ c ∧ c ≤ 2147483647 := c1
    have c2 : M 53 1 < c + 1 := c2
    have fK : ∀ a, a < 128 → K a = M a := hM
    exact Or.inl ⟨fun q => by omega, rfl⟩
  · obtain ⟨c1, c2, c3, c4, c5, c6, c7, -⟩ := hc
    have c1 : 0 ≤ c ∧ c ≤ 5 := c1
    have c2 : 1 ≤ M 53 1 ∧ M 53 1 ≤ 6 := c2
    have c3 : 12 ≤ M 53 8 ∧ M 53 8 ≤ 12 := c3
    have c4 : 1 ≤ u2 ∧ u2 ≤ 1 := c4
    have c5 : ¬ M 53 1 < c + 1 := c5
    have c6 : u1 = sx_mf 9 (M 53 7) c := c6
    have c7 : u2 = sx_mf 3 u1 1 := c7
    have fK : ∀ a, a < 128 → K a = M a := hM
    exact Or.inr (Or.inl ⟨⟨c1.1, by omega⟩, fun q => by have := q.2.2.2; omega, rfl⟩)
  · obtain ⟨c1, c2, c3, c4, c5, c6, c7, -⟩ := hc
    have c1 : 0 ≤ c ∧ c ≤ 5 := c1
    have c2 : 1 ≤ M 53 1 ∧ M 53 1 ≤ 6 := c2
    have c3 : 1 ≤ u2 ∧ u2 ≤ 1 := c3
    have c4 : M 53 8 ≠ 12 := c4
    have c5 : ¬ M 53 1 < c + 1 := c5
    have c6 : u1 = sx_mf 9 (M 53 7) c := c6
    have c7 : u2 = sx_mf 3 u1 1 := c7
    have fK : ∀ a, a < 128 → K a = sx_up (sx_up M 53 8 (M 53 8 + 1)) 59 (M 53 8).toNat c a := hM
    have e := be u1 u2 c1.1 c1.2 c6 c7
    have ok : aq_ok c (M 53 1) (M 53 7) (M 53 8) := ⟨c1.1, by omega, by omega, c4⟩
    have hv := hv ok
    obtain ⟨h, rfl⟩ := Int.eq_ofNat_of_zero_le c1.1
    rw [h8] at fK
    rw [Int.toNat_natCast] at hv fK
    have m55 : -1 ≤ M 55 h ∧ M 55 h ≤ 143 := hm 55 _ h _ rfl (by show h < 6; omega) rfl
    have o : ∀ a, a < 128 → a ≠ 53 → a ≠ 59 → K a = M a := fun a ha x1 x2 => by rw [fK a ha]; first | rw [sh_une x1, sh_une x2] | rw [sh_une x2, sh_une x1]
    have o59 : ∀ j, j ≠ nc → K 59 j = M 59 j := fun j hj => by rw [fK 59 (by decide)]; first | rw [sh_unj hj, sh_une (by decide)] | rw [sh_une (by decide), sh_unj hj]
    have o53 : ∀ j, j ≠ 8 → K 53 j = M 53 j := fun j hj => by rw [fK 53 (by decide)]; first | rw [sh_unj hj, sh_une (by decide)] | rw [sh_une (by decide), sh_unj hj]
    have p59 : K 59 nc = (h : Int) := by rw [fK 59 (by decide)]; first | rw [sh_uat] | rw [sh_une (by decide), sh_uat]
    have p53 : K 53 8 = (nc : Int) + 1 := by rw [fK 53 (by decide)]; first | rw [sh_uat] | rw [sh_une (by decide), sh_uat]
    have yK : yq M nc h K := ⟨fun a ha x1 x2 _ _ _ _ => o a ha x1 x2, fun j hj => ⟨o59 j hj, by rw [o 60 (by decide) (by decide) (by decide)]⟩, p59, fun j x1 _ _ => o53 j x1, p53⟩
    have n12 : ¬ (nc : Int) = 12 := fun q => c4 (h8.trans q)
    show rz_fin _ L xs 216 21 61 [(0, .ref 53), (1, .int (Int32.ofInt (h : Int))), (2, .int (Int32.ofInt (-2))), (3, .int (Int32.ofInt (M 53 13)))] [] K
    rw [ht]
    refine qs_w (ar_loop (xs := xs) (M := M) (H := H) (nc := nc) (t := t) (h := h) (wn := wn) hL hw hR hH (by omega) (by omega) ht m55 hv (30 - t) t (-2) K (by omega) (Nat.le_refl _) (by decide) (by omega) hK yK) (fun r N q => Or.inr (Or.inr ⟨ok, q⟩))
  · obtain ⟨c1, c2, c3, c4, c5, c6, -⟩ := hc
    have c1 : 0 ≤ c ∧ c ≤ 5 := c1
    have c2 : 1 ≤ M 53 1 ∧ M 53 1 ≤ 6 := c2
    have c3 : u2 ≠ 1 := c3
    have c4 : ¬ M 53 1 < c + 1 := c4
    have c5 : u1 = sx_mf 9 (M 53 7) c := c5
    have c6 : u2 = sx_mf 3 u1 1 := c6
    have fK : ∀ a, a < 128 → K a = M a := hM
    have e := be u1 u2 c1.1 c1.2 c5 c6
    exact Or.inr (Or.inl ⟨⟨c1.1, by omega⟩, fun q => by have := q.2.2.1; omega, rfl⟩)
end
