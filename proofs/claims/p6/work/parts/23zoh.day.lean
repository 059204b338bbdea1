/-! A day in thought, and days: the reference. -/
section
variable {L : Nat} {xs : Nat → Int32} {M M' M0 M1 M2 : Nat → Nat → Int} {D W N B B' : Nat → Int} {lk lk' : Nat → Nat → Int → Int} {S G s a b z e f r : Int} {i h q n d nc k : Nat} {T : Int × (Nat → Int)} {Q R : Option Value → (Nat → Nat → Int) → Prop} {zs : List Int}
def mm1_i : List qs_I := [(0, 0, (0, 0), (0, 11)), (0, 0, (0, 0), (0, 29)), (1, 53, (0, 35), sx_r32), (1, 59, (9, 0), (0, 5)), (1, 60, (9, 0), (-1, 143)), (1, 53, (0, 36), sx_r32)]
def mm1_T : List og_T := [(none, some (0, 0, 1), [], [], [], [(0, (13, 0), (0, 0), 0, 29), (0, (16, 0), (0, 0), 1, 1), (3, (13, 0), (10, 0), 0, 0), (5, (11, 0), (12, 0), 9, 15), (5, (15, 0), (0, 1), 3, 16)]), (none, some (0, 0, 0), [], [], [], [(0, (13, 0), (0, 0), -1, -1), (0, (16, 0), (0, 0), 1, 1), (0, (18, 0), (0, 0), 1, 1), (4, (13, 0), (10, 0), 0, 0), (5, (11, 0), (12, 0), 9, 15), (5, (15, 0), (0, 1), 3, 16), (5, (14, 0), (9, 0), 9, 17), (5, (17, 0), (0, 1), 3, 18)]), (none, some (0, 0, 1), [], [], [], [(0, (13, 0), (0, 0), -1, -1), (0, (16, 0), (0, 0), 1, 1), (7, (18, 0), (0, 0), 1, 0), (4, (13, 0), (10, 0), 0, 0), (5, (11, 0), (12, 0), 9, 15), (5, (15, 0), (0, 1), 3, 16), (5, (14, 0), (9, 0), 9, 17), (5, (17, 0), (0, 1), 3, 18)]), (none, some (0, 0, 0), [], [], [], [(0, (13, 0), (0, 0), 0, 143), (0, (16, 0), (0, 0), 1, 1), (4, (13, 0), (10, 0), 0, 0), (5, (11, 0), (12, 0), 9, 15), (5, (15, 0), (0, 1), 3, 16)]), (none, some (0, 0, 0), [], [], [], [(7, (16, 0), (0, 0), 1, 0), (5, (11, 0), (12, 0), 9, 15), (5, (15, 0), (0, 1), 3, 16)])]
theorem mm1_c : qs_chk (fun _ => false) mm1_i 4 mm1_T 400 400 3 194 0 [(0, 2, 0, 53), (1, 0, 9, 0), (2, 0, 10, 0)] [] = true := by decide +kernel
def mc1_i : List qs_I := [(0, 0, (0, 0), (0, 29)), (0, 0, (0, 0), (-1, 11)), (0, 0, (0, 0), (0, 99)), (0, 0, (0, 0), (0, 11)), (1, 53, (0, 8), (0, 12)), (2, 13, (12, 0), (0, 0))]
def mc1_T : List og_T := [(some 20, none, [(0, 9, 0), (0, 12, 0), (2, 0, 53)], [(0, 2, 0, 53), (1, 0, 9, 0), (2, 0, 10, 0), (3, 0, 11, 0), (4, 0, 12, 0)], [], [])]
theorem mc1_c : qs_chk (fun pc => Nat.beq pc 20) mc1_i 0 mc1_T 400 400 11 193 7 [(0, 2, 0, 53), (1, 0, 9, 0), (2, 0, 10, 0), (3, 0, 11, 0), (4, 0, 12, 0)] [] = true := by decide +kernel
def mc2_i : List qs_I := [(0, 0, (0, 0), (0, 29)), (0, 0, (0, 0), (-1, 11)), (0, 0, (0, 0), (0, 99)), (0, 0, (0, 0), (0, 11)), (0, 0, (0, 0), (0, 1))]
def mc2_T : List og_T := [(some 7, none, [], [(0, 2, 0, 53), (1, 0, 9, 0), (2, 0, 10, 0), (3, 0, 11, 0), (4, 0, 12, 1)], [], [(0, (13, 0), (0, 0), 0, 0)]), (some 33, none, [(0, 9, 0), (0, 12, 0), (2, 0, 53)], [(0, 2, 0, 53), (1, 0, 9, 0), (2, 0, 10, 0), (3, 0, 11, 0), (4, 0, 12, 0)], [], [(7, (13, 0), (0, 0), 0, 0)])]
theorem mc2_c : qs_chk (fun pc => bif Nat.beq pc 7 then true else Nat.beq pc 33) mc2_i 0 mc2_T 400 400 11 193 23 [(0, 2, 0, 53), (1, 0, 9, 0), (2, 0, 10, 0), (3, 0, 11, 0), (4, 0, 12, 0)] [(0, 13, 0)] = true := by decide +kernel
def mc3_i : List qs_I := [(0, 0, (0, 0), (0, 29)), (0, 0, (0, 0), (-1, 11)), (0, 0, (0, 0), (0, 99)), (0, 0, (0, 0), (0, 11)), (0, 0, (0, 0), (-99, 99))]
def mc3_T : List og_T := [(some 7, none, [], [(0, 2, 0, 53), (1, 0, 9, 0), (2, 0, 12, 0), (3, 0, 13, 0), (4, 0, 12, 1)], [], [(0, (11, 0), (0, 0), 0, 98), (0, (13, 0), (0, 0), 1, 99), (1, (11, 0), (13, 0), 0, 0)]), (some 7, none, [], [(0, 2, 0, 53), (1, 0, 9, 0), (2, 0, 10, 0), (3, 0, 11, 0), (4, 0, 12, 1)], [], [(2, (11, 0), (13, 0), 0, 0)])]
theorem mc3_c : qs_chk (fun pc => Nat.beq pc 7) mc3_i 0 mc3_T 400 400 11 193 36 [(0, 2, 0, 53), (1, 0, 9, 0), (2, 0, 10, 0), (3, 0, 11, 0), (4, 0, 12, 0)] [(0, 13, 0)] = true := by decide +kernel
def mc4_i : List qs_I := [(0, 0, (0, 0), (0, 29)), (0, 0, (0, 0), (-1, 11)), (0, 0, (0, 0), (0, 99)), (0, 0, (0, 0), (0, 12)), (1, 53, (0, 8), (0, 12)), (3, 13, (12, 0), (0, 0))]
def mc4_T : List og_T := [(none, some (0, 10, 0), [], [], [], [])]
theorem mc4_c : qs_chk (fun _ => false) mc4_i 0 mc4_T 400 400 11 193 7 [(0, 2, 0, 53), (1, 0, 9, 0), (2, 0, 10, 0), (3, 0, 11, 0), (4, 0, 12, 0)] [] = true := by decide +kernel
def mc5_i : List qs_I := [(0, 0, (0, 0), (0, 29))]
def mc5_T : List og_T := [(some 7, none, [], [(0, 2, 0, 53), (1, 0, 9, 0), (2, 0, 0, -1), (3, 0, 0, 0), (4, 0, 0, 0)], [], [])]
theorem mc5_c : qs_chk (fun pc => Nat.beq pc 7) mc5_i 0 mc5_T 400 400 11 193 0 [(0, 2, 0, 53), (1, 0, 9, 0)] [] = true := by decide +kernel
def mg1_i : List qs_I := [(0, 0, (0, 0), (0, 29))]
def mg1_T : List og_T := [(some 2, none, [(0, 9, 0), (2, 0, 53)], [(0, 2, 0, 53), (1, 0, 9, 0)], [], [])]
theorem mg1_c : qs_chk (fun pc => Nat.beq pc 2) mg1_i 0 mg1_T 400 400 13 192 0 [(0, 2, 0, 53), (1, 0, 9, 0)] [] = true := by decide +kernel
def mg2_i : List qs_I := [(0, 0, (0, 0), (0, 29)), (0, 0, (0, 0), (0, 11)), (1, 59, (10, 0), (0, 5)), (1, 60, (10, 0), (-1, 143)), (1, 53, (0, 36), sx_r32), (1, 75, (11, 0), sx_r32)]
def mg2_T : List og_T := [(none, some (0, 11, 0), [], [], [(77, (9, 0), (11, 0)), (76, (9, 0), (10, 0)), (75, (11, 0), (17, 0)), (53, (0, 36), (16, 0))], [(0, (12, 0), (0, 0), -1, -1), (5, (0, 1), (10, 0), 8, 15), (5, (13, 0), (15, 0), 4, 16), (5, (14, 0), (0, 1), 0, 17)]), (none, some (0, 11, 0), [], [], [(77, (9, 0), (11, 0)), (76, (9, 0), (10, 0)), (75, (11, 0), (15, 0))], [(0, (12, 0), (0, 0), 0, 143), (5, (14, 0), (0, 1), 0, 15)])]
theorem mg2_c : qs_chk (fun _ => false) mg2_i 3 mg2_T 400 400 13 192 5 [(0, 2, 0, 53), (1, 0, 9, 0)] [(0, 10, 0)] = true := by decide +kernel
def mg3_i : List qs_I := [(0, 0, (0, 0), (0, 29))]
def mg3_T : List og_T := [(none, some (0, 0, -1), [], [], [(77, (9, 0), (0, -1)), (76, (9, 0), (0, -1))], [])]
theorem mg3_c : qs_chk (fun _ => false) mg3_i 0 mg3_T 400 400 13 192 5 [(0, 2, 0, 53), (1, 0, 9, 0)] [(0, 0, -1)] = true := by decide +kernel
theorem mm_may {c : Nat} (hL : L < 2 ^ 31) (hm : sx_mok cl_ly M) (hc : c ≤ 11) (hd : d ≤ 29) : rz_fin (vl_Q M (if vq_may (M 60) (M 59) (M 53 35) (M 53 36) (d : Int) c = true then 1 else 0)) L xs 194 3 0 [(0, .ref 53), (1, .int (Int32.ofInt (c : Int))), (2, .int (Int32.ofInt (d : Int)))] [] M := by
  have w59 : 0 ≤ M 59 c ∧ M 59 c ≤ 5 := hm 59 _ c _ rfl (by show c < 12; omega) rfl
  have w60 : -1 ≤ M 60 c ∧ M 60 c ≤ 143 := hm 60 _ c _ rfl (by show c < 12; omega) rfl
  have w35 : sx_w sx_r32 (M 53 35) := cv_ly_ok (g := (53, 35, sx_r32)) hm (by decide +kernel)
  have w36 : sx_w sx_r32 (M 53 36) := cv_ly_ok (g := (53, 36, sx_r32)) hm (by decide +kernel)
  obtain ⟨g, hg⟩ : ∃ g : Nat, M 59 c = (g : Int) := ⟨(M 59 c).toNat, by omega⟩
  have fin : ∀ {M' : Nat → Nat → Int} {b : Bool} {z : Int}, (if b = true then (1 : Int) else 0) = z → vq_may (M 60) (M 59) (M 53 35) (M 53 36) (d : Int) c = b → sx_mok cl_ly M' → (∀ a, a < 128 → M' a = M a) → vl_Q M (if vq_may (M 60) (M 59) (M 53 35) (M 53 36) (d : Int) c = true then 1 else 0) (some (.int (Int32.ofInt z))) M' := fun {M' b z} hz hb hm' hM => by
    rw [hb, hz]
    exact ⟨rfl, hm', hM⟩
  have b1 : ∀ {u v : Int}, u = sx_mf 9 (M 53 35) (g : Int) → v = sx_mf 3 u 1 → v = vq_bt (M 53 35) (M 59 c) := fun {u v} h1 h2 => by rw [h2, h1, hg]; exact vq_b9 _ (by omega)
  have b2 : ∀ {u v : Int}, u = sx_mf 9 (M 53 36) (c : Int) → v = sx_mf 3 u 1 → v = vq_bt (M 53 36) (c : Int) := fun {u v} h1 h2 => by rw [h2, h1]; exact vq_b9 _ (by omega)
  refine qs_use (zs := [(c : Int), (d : Int), M 53 35, (g : Int), M 60 c, M 53 36]) mm1_c hL hm (qs_in (show 0 ≤ (c : Int) ∧ (c : Int) ≤ 11 by omega) (qs_in (show 0 ≤ (d : Int) ∧ (d : Int) ≤ 29 by omega) (qs_rd (show (0 : Int) ≤ 35 by decide) rfl w35 (qs_rd (show 0 ≤ (c : Int) by omega) hg (show 0 ≤ (g : Int) ∧ (g : Int) ≤ 5 by omega) (qs_rd (show 0 ≤ (c : Int) by omega) rfl w60 (qs_rd (show (0 : Int) ≤ 36 by decide) rfl w36 (qs_fin rfl))))))) (Nat.le_refl _) rfl rfl (qs_c (fun u1 u2 u3 u4 M' hm' hc hM => ?_) (qs_c (fun u1 u2 u3 u4 M' hm' hc hM => ?_) (qs_c (fun u1 u2 u3 u4 M' hm' hc hM => ?_) (qs_c (fun u1 u2 u3 u4 M' hm' hc hM => ?_) (qs_c (fun u1 u2 u3 u4 M' hm' hc hM => ?_) qs_z)))))
  · obtain ⟨-, c1, c2, c3, c4, -⟩ := hc
    have c1 : 1 ≤ u2 ∧ u2 ≤ 1 := c1
    have c2 : M 60 c = (d : Int) := c2
    have c5 : u2 = vq_bt (M 53 35) (M 59 c) := b1 c3 c4
    exact fin (b := true) rfl (decide_eq_true ⟨Or.inl c2, by omega⟩) hm' hM
  · obtain ⟨c0, c1, c6, c2, c3, c4, c7, c8, -⟩ := hc
    have c6 : 1 ≤ u4 ∧ u4 ≤ 1 := c6
    have c2 : ¬ M 60 c = (d : Int) := c2
    have c9 : u4 = vq_bt (M 53 36) (c : Int) := b2 c7 c8
    exact fin (b := false) rfl (decide_eq_false fun g => g.1.elim c2 (fun g => by have := g.2; omega)) hm' hM
  · obtain ⟨c0, c1, c6, c2, c3, c4, c7, c8, -⟩ := hc
    have c0 : -1 ≤ M 60 c ∧ M 60 c ≤ -1 := c0
    have c1 : 1 ≤ u2 ∧ u2 ≤ 1 := c1
    have c6 : u4 ≠ 1 := c6
    have c5 : u2 = vq_bt (M 53 35) (M 59 c) := b1 c3 c4
    have c9 : u4 = vq_bt (M 53 36) (c : Int) := b2 c7 c8
    have := vq_bt_r (M 53 36) (c : Int)
    exact fin (b := true) rfl (decide_eq_true ⟨Or.inr ⟨by omega, by omega⟩, by omega⟩) hm' hM
  · obtain ⟨c0, c1, c2, -⟩ := hc
    have c0 : 0 ≤ M 60 c ∧ M 60 c ≤ 143 := c0
    have c2 : ¬ M 60 c = (d : Int) := c2
    exact fin (b := false) rfl (decide_eq_false fun g => g.1.elim c2 (fun g => by have := g.1; omega)) hm' hM
  · obtain ⟨c1, c3, c4, -⟩ := hc
    have c1 : u2 ≠ 1 := c1
    have c5 : u2 = vq_bt (M 53 35) (M 59 c) := b1 c3 c4
    exact fin (b := false) rfl (decide_eq_false fun g => c1 (c5.trans g.2)) hm' hM
/-- how much the reference likes cards of a house on day d, as things stand in M -/
def mw_lk (M : Nat → Nat → Int) (d : Nat) (h : Nat) : Int := vq_Y M h d (M 75 h)
def mw_ch (M : Nat → Nat → Int) (d n : Nat) : Int × Int := vq_ch (M 60) (M 59) (mw_lk M d) (M 53 35) (M 53 36) (d : Int) n
def mw_Q (M : Nat → Nat → Int) (z : Int) (r : Option Value) (M' : Nat → Nat → Int) : Prop := r = some (.int (Int32.ofInt z)) ∧ sx_mok cl_ly M' ∧ ∀ a, a < 128 → a ≠ 72 → a ≠ 73 → M' a = M a
theorem mw_lk_r (d h : Nat) : -99 ≤ mw_lk M d h ∧ mw_lk M d h ≤ 99 := vq_held_r _
theorem mw_keep (hw : WF M) (hR : vu_R M) (h : ∀ a, a < 128 → a ≠ 72 → a ≠ 73 → M' a = M a) : WF M' ∧ vu_R M' ∧ ∀ g d b, vq_Y M' g d b = vq_Y M g d b := by
  have e67 := h 67 (by decide) (by decide) (by decide)
  have e68 := h 68 (by decide) (by decide) (by decide)
  have e69 := h 69 (by decide) (by decide) (by decide)
  have e70 := h 70 (by decide) (by decide) (by decide)
  have e71 := h 71 (by decide) (by decide) (by decide)
  have e53 := h 53 (by decide) (by decide) (by decide)
  refine ⟨WF_zs M M' (fun k hk => ?_) hw, vu_on hR hw (h 16 (by decide) (by decide) (by decide)) (by rw [h 14 (by decide) (by decide) (by decide)]) (by rw [e53]) (fun i _ => by rw [e67, e68]; exact ⟨rfl, rfl⟩) (by rw [e69]) (fun i _ => by rw [e70, e71]; exact ⟨rfl, rfl⟩), fun g d b => ?_⟩
  · simp only [cz_zs, List.mem_cons, List.not_mem_nil, or_false] at hk
    exact h k (by omega) (by omega) (by omega)
  · unfold vq_Y
    rw [h 55 (by decide) (by decide) (by decide), h 56 (by decide) (by decide) (by decide), h 57 (by decide) (by decide) (by decide), h 61 (by decide) (by decide) (by decide)]
    exact vq_like_M (by rw [e53]) (by rw [e69]) e67 e68 e70 e71
def mw_v (d b m c : Int) : sm_V := [(0, .ref 53), (1, .int (Int32.ofInt d)), (2, .int (Int32.ofInt b)), (3, .int (Int32.ofInt m)), (4, .int (Int32.ofInt c))]
theorem mw_loop (hL : L < 2 ^ 31) (hd : d ≤ 29) (hw : WF M) (hR : vu_R M) (hnc : M 53 8 = (nc : Int)) (hn : nc ≤ 12) : ∀ (m k : Nat) (M' : Nat → Nat → Int), k + m = nc → sx_mok cl_ly M' → (∀ a, a < 128 → a ≠ 72 → a ≠ 73 → M' a = M a) → rz_fin (mw_Q M (mw_ch M d nc).1) L xs 193 11 7 (mw_v (d : Int) (mw_ch M d k).1 (mw_ch M d k).2 (k : Int)) [] M' := by
  intro m
  induction m with
  | zero =>
    intro k M' hk hm h
    have r := vq_ch_r (D := M 60) (W := M 59) (S := M 53 35) (G := M 53 36) (d := (d : Int)) (fun i => (mw_lk_r (M := M) d i).2) k
    have r : -1 ≤ (mw_ch M d k).1 ∧ (mw_ch M d k).1 < (k : Int) ∧ 0 ≤ (mw_ch M d k).2 ∧ (mw_ch M d k).2 ≤ 99 := r
    have e53 := h 53 (by decide) (by decide) (by decide)
    rw [show nc = k by omega]
    refine qs_use (zs := [(d : Int), (mw_ch M d k).1, (mw_ch M d k).2, (k : Int), M 53 8]) mc4_c hL hm (qs_in (show 0 ≤ (d : Int) ∧ (d : Int) ≤ 29 by omega) (qs_in (show -1 ≤ (mw_ch M d k).1 ∧ (mw_ch M d k).1 ≤ 11 by omega) (qs_in r.2.2 (qs_in (show 0 ≤ (k : Int) ∧ (k : Int) ≤ 12 by omega) (qs_rd (show (0 : Int) ≤ 8 by decide) (by rw [e53]; rfl) (show 0 ≤ M 53 8 ∧ M 53 8 ≤ 12 by omega) (qs_ge (show ¬ (k : Int) < M 53 8 by omega) (qs_fin rfl))))))) (Nat.le_refl _) rfl rfl (qs_c (fun M2 hm2 hc2 hM => ?_) qs_z)
    exact ⟨rfl, hm2, fun a ha x1 x2 => (hM a ha).trans (h a ha x1 x2)⟩
  | succ m ih =>
    intro k M' hk hm h
    have r := vq_ch_r (D := M 60) (W := M 59) (S := M 53 35) (G := M 53 36) (d := (d : Int)) (fun i => (mw_lk_r (M := M) d i).2) k
    have r : -1 ≤ (mw_ch M d k).1 ∧ (mw_ch M d k).1 < (k : Int) ∧ 0 ≤ (mw_ch M d k).2 ∧ (mw_ch M d k).2 ≤ 99 := r
    have e53 := h 53 (by decide) (by decide) (by decide)
    have e59 := h 59 (by decide) (by decide) (by decide)
    have e60 := h 60 (by decide) (by decide) (by decide)
    have e75 := h 75 (by decide) (by decide) (by decide)
    have w59 : 0 ≤ M 59 k ∧ M 59 k ≤ 5 := by rw [← e59]; exact hm 59 _ k _ rfl (by show k < 12; omega) rfl
    obtain ⟨g, hg⟩ : ∃ g : Nat, M 59 k = (g : Int) := ⟨(M 59 k).toNat, by omega⟩
    have gt : (M 59 k).toNat = g := by omega
    obtain ⟨b, hb⟩ : ∃ b : Bool, vq_may (M 60) (M 59) (M 53 35) (M 53 36) (d : Int) k = b := ⟨_, rfl⟩
    have step : mw_ch M d (k + 1) = if b = true ∧ (mw_ch M d k).2 < mw_lk M d g then ((k : Int), mw_lk M d g) else mw_ch M d k := by
      show (if vq_may (M 60) (M 59) (M 53 35) (M 53 36) (d : Int) k = true ∧ (mw_ch M d k).2 < mw_lk M d (M 59 k).toNat then ((k : Int), mw_lk M d (M 59 k).toNat) else mw_ch M d k) = _
      rw [hb, gt]
    refine qs_use (zs := [(d : Int), (mw_ch M d k).1, (mw_ch M d k).2, (k : Int), M 53 8]) mc1_c hL hm (qs_in (show 0 ≤ (d : Int) ∧ (d : Int) ≤ 29 by omega) (qs_in (show -1 ≤ (mw_ch M d k).1 ∧ (mw_ch M d k).1 ≤ 11 by omega) (qs_in r.2.2 (qs_in (show 0 ≤ (k : Int) ∧ (k : Int) ≤ 11 by omega) (qs_rd (show (0 : Int) ≤ 8 by decide) (by rw [e53]; rfl) (show 0 ≤ M 53 8 ∧ M 53 8 ≤ 12 by omega) (qs_lt (show (k : Int) < M 53 8 by omega) (qs_fin rfl))))))) (Nat.le_refl _) rfl rfl (qs_c (fun M2 hm2 hc2 hM2 => ?_) qs_z)
    have f2 : ∀ a, a < 128 → M2 a = M' a := hM2
    show rz_fin _ L xs 193 11 20 (mw_v (d : Int) (mw_ch M d k).1 (mw_ch M d k).2 (k : Int)) [.int (Int32.ofInt (d : Int)), .int (Int32.ofInt (k : Int)), .ref 53] M2
    have hl := mm_may (xs := xs) (M := M2) (c := k) (d := d) hL hm2 (by omega) hd
    rw [f2 60 (by decide), f2 59 (by decide), f2 53 (by decide), e60, e59, e53, hb] at hl
    refine qs_vc (k := 194) (b := 53) (d := 10) (d' := 10) (rest := []) rfl rfl rfl rfl rfl rfl rfl rfl (Nat.le_refl _) rfl (rz_d (by decide) hl) (fun r9 M3 hr => ?_)
    obtain ⟨rfl, hm3, f3⟩ := hr
    have h3 : ∀ a, a < 128 → a ≠ 72 → a ≠ 73 → M3 a = M a := fun a ha x1 x2 => (f3 a ha).trans ((f2 a ha).trans (h a ha x1 x2))
    refine qs_use (zs := [(d : Int), (mw_ch M d k).1, (mw_ch M d k).2, (k : Int), if b = true then 1 else 0]) mc2_c hL hm3 (qs_in (show 0 ≤ (d : Int) ∧ (d : Int) ≤ 29 by omega) (qs_in (show -1 ≤ (mw_ch M d k).1 ∧ (mw_ch M d k).1 ≤ 11 by omega) (qs_in r.2.2 (qs_in (show 0 ≤ (k : Int) ∧ (k : Int) ≤ 11 by omega) (qs_in (show 0 ≤ (if b = true then (1 : Int) else 0) ∧ (if b = true then (1 : Int) else 0) ≤ 1 by split <;> omega) (qs_fin rfl)))))) (Nat.le_refl _) rfl rfl (qs_c (fun M4 hm4 hc4 hM4 => ?_) (qs_c (fun M4 hm4 hc4 hM4 => ?_) qs_z))
    · have c1 : 0 ≤ (if b = true then (1 : Int) else 0) ∧ (if b = true then (1 : Int) else 0) ≤ 0 := hc4.1
      have hb0 : b ≠ true := fun e => by rw [if_pos e] at c1; omega
      rw [if_neg (fun e => hb0 e.1)] at step
      have := ih (k + 1) M4 (by omega) hm4 (fun a ha x1 x2 => (hM4 a ha).trans (h3 a ha x1 x2))
      rw [step, show ((k + 1 : Nat) : Int) = (k : Int) + 1 by omega] at this
      exact this
    · have c2 : (if b = true then (1 : Int) else 0) ≠ 0 := hc4.1
      have hb1 : b = true := by
        by_cases e : b = true
        · exact e
        · rw [if_neg e] at c2
          exact absurd rfl c2
      have h4 : ∀ a, a < 128 → a ≠ 72 → a ≠ 73 → M4 a = M a := fun a ha x1 x2 => (hM4 a ha).trans (h3 a ha x1 x2)
      obtain ⟨w4, r4, X4⟩ := mw_keep hw hR h4
      show rz_fin _ L xs 193 11 33 (mw_v (d : Int) (mw_ch M d k).1 (mw_ch M d k).2 (k : Int)) [.int (Int32.ofInt (d : Int)), .int (Int32.ofInt (k : Int)), .ref 53] M4
      have hlk := wz_like (xs := xs) (M := M4) (h := g) (d := d) (card := k) hL hm4 w4 r4 (by omega) (by omega) (by rw [h4 59 (by decide) (by decide) (by decide)]; exact hg) hd
      rw [X4, h4 75 (by decide) (by decide) (by decide)] at hlk
      have hlk : rz_fin (wz_Q M4 (mw_lk M d g)) L xs 195 9 0 [(0, .ref 53), (1, .int (Int32.ofInt (k : Int))), (2, .int (Int32.ofInt (d : Int)))] [] M4 := hlk
      refine qs_vc (k := 195) (b := 53) (d := 10) (d' := 10) (rest := []) rfl rfl rfl rfl rfl rfl rfl rfl (Nat.le_refl _) rfl (rz_d (by decide) hlk) (fun r9 M5 hr => ?_)
      obtain ⟨rfl, hm5, f5⟩ := hr
      have lr := mw_lk_r (M := M) d g
      have h5 : ∀ a, a < 128 → a ≠ 72 → a ≠ 73 → M5 a = M a := fun a ha x1 x2 => (f5 a ha x1 x2).trans (h4 a ha x1 x2)
      refine qs_use (zs := [(d : Int), (mw_ch M d k).1, (mw_ch M d k).2, (k : Int), mw_lk M d g]) mc3_c hL hm5 (qs_in (show 0 ≤ (d : Int) ∧ (d : Int) ≤ 29 by omega) (qs_in (show -1 ≤ (mw_ch M d k).1 ∧ (mw_ch M d k).1 ≤ 11 by omega) (qs_in r.2.2 (qs_in (show 0 ≤ (k : Int) ∧ (k : Int) ≤ 11 by omega) (qs_in lr (qs_fin rfl)))))) (Nat.le_refl _) rfl rfl (qs_c (fun M6 hm6 hc6 hM6 => ?_) (qs_c (fun M6 hm6 hc6 hM6 => ?_) qs_z))
      · have c5 : (mw_ch M d k).2 < mw_lk M d g := hc6.2.2.1
        rw [if_pos ⟨hb1, c5⟩] at step
        have := ih (k + 1) M6 (by omega) hm6 (fun a ha x1 x2 => (hM6 a ha).trans (h5 a ha x1 x2))
        rw [step, show ((k + 1 : Nat) : Int) = (k : Int) + 1 by omega] at this
        exact this
      · have c5 : ¬ (mw_ch M d k).2 < mw_lk M d g := hc6.1
        rw [if_neg (fun e => c5 e.2)] at step
        have := ih (k + 1) M6 (by omega) hm6 (fun a ha x1 x2 => (hM6 a ha).trans (h5 a ha x1 x2))
        rw [step, show ((k + 1 : Nat) : Int) = (k : Int) + 1 by omega] at this
        exact this
theorem mw_card (hL : L < 2 ^ 31) (hm : sx_mok cl_ly M) (hd : d ≤ 29) (hw : WF M) (hR : vu_R M) (hnc : M 53 8 = (nc : Int)) : rz_fin (mw_Q M (mw_ch M d nc).1) L xs 193 11 0 [(0, .ref 53), (1, .int (Int32.ofInt (d : Int)))] [] M := by
  have h12 : 0 ≤ M 53 8 ∧ M 53 8 ≤ 12 := cv_ly_ok (g := (53, 8, 0, 12)) hm (by decide +kernel)
  refine qs_use (zs := [(d : Int)]) mc5_c hL hm (qs_in (show 0 ≤ (d : Int) ∧ (d : Int) ≤ 29 by omega) (qs_fin rfl)) (Nat.le_refl _) rfl rfl (qs_c (fun M2 hm2 hc hM => ?_) qs_z)
  exact mw_loop hL hd hw hR hnc (by omega) nc 0 M2 (by omega) hm2 (fun a ha _ _ => hM a ha)
-- a day
def ms_lk (M : Nat → Nat → Int) (d h : Nat) (b : Int) : Int := vq_Y M h d b
def ms_cd (M : Nat → Nat → Int) (nc d : Nat) (T : Int × (Nat → Int)) : Int := vq_cd (M 60) (M 59) (ms_lk M) (M 53 35) nc d T
def ms_T (M : Nat → Nat → Int) (nc k d : Nat) (T : Int × (Nat → Int)) : Int × (Nat → Int) := vq_T (M 60) (M 59) (ms_lk M) (M 53 35) nc k d T
/-- what thinking leaves as it was -/
def ms_F (M M' : Nat → Nat → Int) : Prop := (∀ a, a < 128 → a ≠ 53 → a ≠ 72 → a ≠ 73 → ¬ (75 ≤ a ∧ a ≤ 77) → M' a = M a) ∧ ∀ j, j ≠ 36 → M' 53 j = M 53 j
def ms_P (T : Int × (Nat → Int)) (M : Nat → Nat → Int) : Prop := M 53 36 = T.1 ∧ ∀ h, M 75 h = T.2 h
theorem ms_F_tr (h1 : ms_F M M1) (h2 : ms_F M1 M2) : ms_F M M2 := ⟨fun a ha x1 x2 x3 x4 => (h2.1 a ha x1 x2 x3 x4).trans (h1.1 a ha x1 x2 x3 x4), fun j hj => (h2.2 j hj).trans (h1.2 j hj)⟩
theorem ms_keep (hw : WF M) (hR : vu_R M) (h : ms_F M M') : WF M' ∧ vu_R M' ∧ ∀ g d b, vq_Y M' g d b = vq_Y M g d b := by
  have e := h.1
  have e67 := e 67 (by decide) (by decide) (by decide) (by decide) (by decide)
  have e68 := e 68 (by decide) (by decide) (by decide) (by decide) (by decide)
  have e69 := e 69 (by decide) (by decide) (by decide) (by decide) (by decide)
  have e70 := e 70 (by decide) (by decide) (by decide) (by decide) (by decide)
  have e71 := e 71 (by decide) (by decide) (by decide) (by decide) (by decide)
  have e33 := h.2 33 (by decide)
  refine ⟨WF_zs M M' (fun k hk => ?_) hw, vu_on hR hw (e 16 (by decide) (by decide) (by decide) (by decide) (by decide)) (by rw [e 14 (by decide) (by decide) (by decide) (by decide) (by decide)]) e33 (fun i _ => by rw [e67, e68]; exact ⟨rfl, rfl⟩) (by rw [e69]) (fun i _ => by rw [e70, e71]; exact ⟨rfl, rfl⟩), fun g d b => ?_⟩
  · simp only [cz_zs, List.mem_cons, List.not_mem_nil, or_false] at hk
    exact e k (by omega) (by omega) (by omega) (by omega) (by omega)
  · unfold vq_Y
    rw [e 55 (by decide) (by decide) (by decide) (by decide) (by decide), e 56 (by decide) (by decide) (by decide) (by decide) (by decide), e 57 (by decide) (by decide) (by decide) (by decide) (by decide), e 61 (by decide) (by decide) (by decide) (by decide) (by decide)]
    exact vq_like_M e33 (by rw [e69]) e67 e68 e70 e71
theorem ms_eq (hX : ∀ g d b, vq_Y M' g d b = vq_Y M g d b) (h : ms_F M M') : M' 60 = M 60 ∧ M' 59 = M 59 ∧ ms_lk M' = ms_lk M ∧ M' 53 35 = M 53 35 := by
  refine ⟨h.1 60 (by decide) (by decide) (by decide) (by decide) (by decide), h.1 59 (by decide) (by decide) (by decide) (by decide) (by decide), ?_, h.2 35 (by decide)⟩
  funext d g b
  exact hX g d b
theorem ms_ch (hP : ms_P T M') (hX : ∀ g d b, vq_Y M' g d b = vq_Y M g d b) (h : ms_F M M') : (mw_ch M' d nc).1 = ms_cd M nc d T := by
  obtain ⟨e1, e2, e3, e4⟩ := ms_eq hX h
  have e5 : mw_lk M' d = fun g => ms_lk M d g (T.2 g) := by
    funext g
    unfold mw_lk ms_lk
    rw [hX, hP.2 g]
  unfold mw_ch ms_cd vq_cd
  rw [e5, e1, e2, e4, hP.1]
/-- what a day tells: whose card, which house -/
def ms_on (d : Nat) (c v : Int) (M M' : Nat → Nat → Int) : Prop := M' 76 d = c ∧ M' 77 d = v ∧ ∀ i, i ≠ d → M' 76 i = M 76 i ∧ M' 77 i = M 77 i
def mg_Q (M : Nat → Nat → Int) (d : Nat) (c : Int) (r : Option Value) (M' : Nat → Nat → Int) : Prop := r = some (.int (Int32.ofInt (vq_hs (M 59) c))) ∧ sx_mok cl_ly M' ∧ ms_F M M' ∧ ms_P (vq_nx (M 60) (M 59) (M 53 36, M 75) c) M' ∧ ms_on d c (vq_hs (M 59) c) M M'
theorem mg_day (hL : L < 2 ^ 31) (hm : sx_mok cl_ly M) (hd : d ≤ 29) (hw : WF M) (hR : vu_R M) (hnc : M 53 8 = (nc : Int)) : rz_fin (mg_Q M d (mw_ch M d nc).1) L xs 192 13 0 [(0, .ref 53), (1, .int (Int32.ofInt (d : Int)))] [] M := by
  have h12 : 0 ≤ M 53 8 ∧ M 53 8 ≤ 12 := cv_ly_ok (g := (53, 8, 0, 12)) hm (by decide +kernel)
  have rg := vq_ch_r (D := M 60) (W := M 59) (S := M 53 35) (G := M 53 36) (d := (d : Int)) (fun i => (mw_lk_r (M := M) d i).2) nc
  have rg : -1 ≤ (mw_ch M d nc).1 ∧ (mw_ch M d nc).1 < (nc : Int) := ⟨rg.1, rg.2.1⟩
  obtain ⟨c, hc⟩ : ∃ c, (mw_ch M d nc).1 = c := ⟨_, rfl⟩
  rw [hc] at rg ⊢
  refine qs_use (zs := [(d : Int)]) mg1_c hL hm (qs_in (show 0 ≤ (d : Int) ∧ (d : Int) ≤ 29 by omega) (qs_fin rfl)) (Nat.le_refl _) rfl rfl (qs_c (fun M2 hm2 hc2 hM2 => ?_) qs_z)
  have f2 : ∀ a, a < 128 → M2 a = M a := hM2
  obtain ⟨w2, r2, X2⟩ := mw_keep hw hR (M' := M2) (fun a ha _ _ => f2 a ha)
  have ch := mw_card (xs := xs) (d := d) (nc := nc) hL hm2 hd w2 r2 (by rw [f2 53 (by decide)]; exact hnc)
  have e5 : mw_lk M2 d = mw_lk M d := by
    funext g
    unfold mw_lk
    rw [X2, f2 75 (by decide)]
  have ec : (mw_ch M2 d nc).1 = c := by
    rw [← hc]
    unfold mw_ch
    rw [e5, f2 60 (by decide), f2 59 (by decide), f2 53 (by decide)]
  rw [ec] at ch
  show rz_fin _ L xs 192 13 2 [(0, .ref 53), (1, .int (Int32.ofInt (d : Int)))] [.int (Int32.ofInt (d : Int)), .ref 53] M2
  refine qs_vc (k := 193) (b := 53) (d := 12) (d' := 12) (rest := []) rfl rfl rfl rfl rfl rfl rfl rfl (Nat.le_refl _) rfl (rz_d (by decide) ch) (fun r9 M3 hr => ?_)
  obtain ⟨rfl, hm3, f3⟩ := hr
  have h3 : ∀ a, a < 128 → a ≠ 72 → a ≠ 73 → M3 a = M a := fun a ha x1 x2 => (f3 a ha x1 x2).trans (f2 a ha)
  have z53 := h3 53 (by decide) (by decide) (by decide)
  have z59 := h3 59 (by decide) (by decide) (by decide)
  have z60 := h3 60 (by decide) (by decide) (by decide)
  have z75 := h3 75 (by decide) (by decide) (by decide)
  have z76 := h3 76 (by decide) (by decide) (by decide)
  have z77 := h3 77 (by decide) (by decide) (by decide)
  by_cases hc0 : c < 0
  · have e : c = -1 := by omega
    have e2 : vq_hs (M 59) c = -1 := if_pos hc0
    subst e
    unfold mg_Q
    rw [e2]
    refine qs_use (zs := [(d : Int)]) mg3_c hL hm3 (qs_in (show 0 ≤ (d : Int) ∧ (d : Int) ≤ 29 by omega) (qs_fin rfl)) (Nat.le_refl _) rfl rfl (qs_c (fun M4 hm4 hc4 hM4 => ?_) qs_z)
    have hM4 : ∀ a, a < 128 → M4 a = sx_up (sx_up M3 76 (d : Int).toNat (-1)) 77 (d : Int).toNat (-1) a := hM4
    rw [Int.toNat_natCast] at hM4
    refine ⟨rfl, hm4, ⟨fun a ha x1 x2 x3 x4 => ?_, fun j _ => ?_⟩, ⟨?_, fun h => ?_⟩, ?_, ?_, fun i hi => ⟨?_, ?_⟩⟩
    · rw [hM4 a ha, sh_une (by omega), sh_une (by omega)]
      exact h3 a ha x2 x3
    · rw [hM4 53 (by decide), sh_une (by decide), sh_une (by decide), z53]
    · rw [hM4 53 (by decide), sh_une (by decide), sh_une (by decide), z53]
      rfl
    · rw [hM4 75 (by decide), sh_une (by decide), sh_une (by decide), z75]
      rfl
    · rw [hM4 76 (by decide), sh_une (by decide), sh_uat]
    · rw [hM4 77 (by decide), sh_uat]
    · rw [hM4 76 (by decide), sh_une (by decide), sh_unj hi, z76]
    · rw [hM4 77 (by decide), sh_unj hi, sh_une (by decide), z77]
  · obtain ⟨k, rfl⟩ : ∃ k : Nat, c = (k : Int) := ⟨c.toNat, by omega⟩
    have w59 : 0 ≤ M 59 k ∧ M 59 k ≤ 5 := by
      rw [← z59]
      exact hm3 59 _ k _ rfl (by show k < 12; omega) rfl
    obtain ⟨g, hg⟩ : ∃ g : Nat, M 59 k = (g : Int) := ⟨(M 59 k).toNat, by omega⟩
    have e2 : vq_hs (M 59) (k : Int) = (g : Int) := by
      unfold vq_hs
      rw [if_neg hc0, Int.toNat_natCast, hg]
    have w60 : -1 ≤ M 60 k ∧ M 60 k ≤ 143 := by
      rw [← z60]
      exact hm3 60 _ k _ rfl (by show k < 12; omega) rfl
    have w36 : sx_w sx_r32 (M 53 36) := by rw [← z53]; exact cv_ly_ok (g := (53, 36, sx_r32)) hm3 (by decide +kernel)
    have w75 : sx_w sx_r32 (M 75 g) := by rw [← z75]; exact hm3 75 _ g _ rfl (by show g < 6; omega) rfl
    unfold mg_Q
    rw [e2]
    refine qs_use (zs := [(d : Int), (k : Int), (g : Int), M 60 k, M 53 36, M 75 g]) mg2_c hL hm3 (qs_in (show 0 ≤ (d : Int) ∧ (d : Int) ≤ 29 by omega) (qs_in (show 0 ≤ (k : Int) ∧ (k : Int) ≤ 11 by omega) (qs_rd (show 0 ≤ (k : Int) by omega) (by rw [z59]; exact hg) (show 0 ≤ (g : Int) ∧ (g : Int) ≤ 5 by omega) (qs_rd (show 0 ≤ (k : Int) by omega) (by rw [z60]; rfl) w60 (qs_rd (show (0 : Int) ≤ 36 by decide) (by rw [z53]; rfl) w36 (qs_rd (show 0 ≤ (g : Int) by omega) (by rw [z75]; rfl) w75 (qs_fin rfl))))))) (Nat.le_refl _) rfl rfl (qs_c (fun u1 u2 u3 M4 hm4 hc4 hM4 => ?_) (qs_c (fun u1 u2 u3 M4 hm4 hc4 hM4 => ?_) qs_z))
    · obtain ⟨c1, c2, c3, c4, -⟩ := hc4
      have c1 : -1 ≤ M 60 k ∧ M 60 k ≤ -1 := c1
      have c2 : u1 = sx_mf 8 1 (k : Int) := c2
      have c3 : u2 = sx_mf 4 (M 53 36) u1 := c3
      have c4 : u3 = sx_mf 0 (M 75 g) 1 := c4
      have hM4 : ∀ a, a < 128 → M4 a = sx_up (sx_up (sx_up (sx_up M3 53 36 u2) 75 (g : Int).toNat u3) 76 (d : Int).toNat (k : Int)) 77 (d : Int).toNat (g : Int) a := hM4
      rw [Int.toNat_natCast, Int.toNat_natCast] at hM4
      refine ⟨rfl, hm4, ⟨fun a ha x1 x2 x3 x4 => ?_, fun j hj => ?_⟩, ⟨?_, fun h => ?_⟩, ?_, ?_, fun i hi => ⟨?_, ?_⟩⟩
      · rw [hM4 a ha, sh_une (by omega), sh_une (by omega), sh_une (by omega), sh_une x1]
        exact h3 a ha x2 x3
      · rw [hM4 53 (by decide), sh_une (by decide), sh_une (by decide), sh_une (by decide), sh_unj hj, z53]
      · rw [hM4 53 (by decide), sh_une (by decide), sh_une (by decide), sh_une (by decide), sh_uat]
        show u2 = vq_us (M 60) (M 53 36) (k : Int)
        unfold vq_us
        rw [if_neg hc0, Int.toNat_natCast, if_pos (show M 60 k = -1 by omega), c3, c2]
      · rw [hM4 75 (by decide), sh_une (by decide), sh_une (by decide)]
        show _ = vq_bn (M 59) (M 75) (k : Int) h
        unfold vq_bn
        rw [if_neg hc0, Int.toNat_natCast, hg]
        by_cases eh : h = g
        · rw [eh, sh_uat, if_pos rfl, c4]
        · rw [sh_unj eh, sh_une (by decide), if_neg (by omega), z75]
      · rw [hM4 76 (by decide), sh_une (by decide), sh_uat]
      · rw [hM4 77 (by decide), sh_uat]
      · rw [hM4 76 (by decide), sh_une (by decide), sh_unj hi, sh_une (by decide), sh_une (by decide), z76]
      · rw [hM4 77 (by decide), sh_unj hi, sh_une (by decide), sh_une (by decide), sh_une (by decide), z77]
    · obtain ⟨c1, c4, -⟩ := hc4
      have c1 : 0 ≤ M 60 k ∧ M 60 k ≤ 143 := c1
      have c4 : u1 = sx_mf 0 (M 75 g) 1 := c4
      have hM4 : ∀ a, a < 128 → M4 a = sx_up (sx_up (sx_up M3 75 (g : Int).toNat u1) 76 (d : Int).toNat (k : Int)) 77 (d : Int).toNat (g : Int) a := hM4
      rw [Int.toNat_natCast, Int.toNat_natCast] at hM4
      refine ⟨rfl, hm4, ⟨fun a ha x1 x2 x3 x4 => ?_, fun j hj => ?_⟩, ⟨?_, fun h => ?_⟩, ?_, ?_, fun i hi => ⟨?_, ?_⟩⟩
      · rw [hM4 a ha, sh_une (by omega), sh_une (by omega), sh_une (by omega)]
        exact h3 a ha x2 x3
      · rw [hM4 53 (by decide), sh_une (by decide), sh_une (by decide), sh_une (by decide), z53]
      · rw [hM4 53 (by decide), sh_une (by decide), sh_une (by decide), sh_une (by decide), z53]
        show M 53 36 = vq_us (M 60) (M 53 36) (k : Int)
        unfold vq_us
        rw [if_neg hc0, Int.toNat_natCast, if_neg (show ¬ M 60 k = -1 by omega)]
      · rw [hM4 75 (by decide), sh_une (by decide), sh_une (by decide)]
        show _ = vq_bn (M 59) (M 75) (k : Int) h
        unfold vq_bn
        rw [if_neg hc0, Int.toNat_natCast, hg]
        by_cases eh : h = g
        · rw [eh, sh_uat, if_pos rfl, c4]
        · rw [sh_unj eh, if_neg (by omega), z75]
      · rw [hM4 76 (by decide), sh_une (by decide), sh_uat]
      · rw [hM4 77 (by decide), sh_uat]
      · rw [hM4 76 (by decide), sh_une (by decide), sh_unj hi, sh_une (by decide), z76]
      · rw [hM4 77 (by decide), sh_unj hi, sh_une (by decide), sh_une (by decide), z77]
/-- a day, as thinking goes on from M0 -/
theorem ms_day (hL : L < 2 ^ 31) (hm : sx_mok cl_ly M) (hd : d ≤ 29) (hw : WF M0) (hR : vu_R M0) (hnc : M0 53 8 = (nc : Int)) (hF : ms_F M0 M) (hP : ms_P T M) : rz_fin (fun r M' => r = some (.int (Int32.ofInt (vq_hs (M0 59) (ms_cd M0 nc d T)))) ∧ sx_mok cl_ly M' ∧ ms_F M0 M' ∧ ms_P (vq_nx (M0 60) (M0 59) T (ms_cd M0 nc d T)) M' ∧ ms_on d (ms_cd M0 nc d T) (vq_hs (M0 59) (ms_cd M0 nc d T)) M M') L xs 192 13 0 [(0, .ref 53), (1, .int (Int32.ofInt (d : Int)))] [] M := by
  obtain ⟨w, r, X⟩ := ms_keep hw hR hF
  obtain ⟨e1, e2, -, -⟩ := ms_eq X hF
  have h := mg_day (xs := xs) (nc := nc) hL hm hd w r (by rw [hF.2 8 (by decide)]; exact hnc)
  rw [ms_ch (nc := nc) hP X hF] at h
  refine qs_w h (fun r M' g => ?_)
  obtain ⟨g1, g2, g3, g4, g5⟩ := g
  rw [e2] at g1 g5
  refine ⟨g1, g2, ms_F_tr hF g3, ?_, g5⟩
  rw [e1, e2, hP.1, show M 75 = T.2 from funext hP.2] at g4
  exact g4
end
