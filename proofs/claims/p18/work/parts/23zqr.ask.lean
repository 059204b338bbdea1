/-! ask: both sides. -/
section
variable {L : Nat} {xs : Nat → Int32} {M M' N N' K V X Y : Nat → Nat → Int} {t d h nc H : Nat} {c : Int}
theorem aw_eq (hV : fs_A V nc H) (pX : pv V X) (mY : mv V H Y) (htd : t ≤ d) (hd : d < 30) (hh : h < H) : aw_b (Y 59) h (ms_cd Y nc d (ms_T Y nc (d - t) t (Y 53 36, Y 75))) (vq_ch (Y 60) (Y 59) (fun g => ms_lk Y d g ((ms_T Y nc (d - t) t (Y 53 36, Y 75)).2 g)) (Y 53 35) (ms_T Y nc (d - t) t (Y 53 36, Y 75)).1 (d : Int) nc).2 (ms_lk Y d h ((ms_T Y nc (d - t) t (Y 53 36, Y 75)).2 h)) = aw_X X nc t h d := by
  have E := fv_T hV pX mY (d - t) t (by omega)
  rw [show t + (d - t) = d by omega] at E
  obtain ⟨E1, E2⟩ := E
  obtain ⟨E2, E3⟩ := E2 hd
  obtain ⟨⟨a1, a2, a3, a4, a5⟩, b1, b2, b3, b4, b5⟩ := id hV
  obtain ⟨⟨x10, x11, -⟩, x3, x4, x5⟩ := id pX
  obtain ⟨⟨-, -, -, y59, y60, -⟩, y3, y4, y5⟩ := id mY
  unfold aw_X
  rw [E2]
  generalize (vs_T X nc (d - t) t (X 21 6, X 23)) = S at E1 E3 ⊢
  generalize (ms_T Y nc (d - t) t (Y 53 36, Y 75)) = S' at E1 ⊢
  have lk : ∀ g, g < H → ms_lk Y d g (S'.2 g) = vs_lk X d g (S.2 g) := fun g hg => by
    rw [fv_lk hV pX mY hd (by omega) (S'.2 g), E1.2 g hg]
  have ec : vq_ch (Y 60) (Y 59) (fun g => ms_lk Y d g (S'.2 g)) (Y 53 35) S'.1 (d : Int) nc = vq_ch (vs_D X) (X 11) (fun g => vs_lk X d g (S.2 g)) (X 21 8) S.1 (d : Int) nc := by
    rw [y3, x4, b4, E1.1]
    refine vq_ch_eq nc (Nat.le_refl _) (fun c hc => ?_)
    obtain ⟨q1, q2, q3, q4⟩ := b1 c hc
    refine ⟨?_, ?_, ?_⟩
    · unfold vs_D
      rw [y60, x10]
      exact q1
    · rw [y59, x11]
      exact q2
    · show ms_lk Y d (X 11 c).toNat (S'.2 (X 11 c).toNat) = vs_lk X d (X 11 c).toNat (S.2 (X 11 c).toNat)
      exact lk _ (by rw [x11]; omega)
  rw [ec, lk h hh]
  unfold aw_b
  rw [E3]
/-- one card more: as the class would say -/
theorem aw_iff (hA : fs_A M nc H) (hX : pb_Q M none X) (hK : ∀ a, a < 128 → 53 ≤ a → K a = M a) (hs : vq_bt (M 53 7) (h : Int) = 1) (hh : h < H) (htd : t ≤ d) (hd : d < 30) (hy : yq K nc h N) (h60 : N 60 nc = (d : Int)) (hY : my_Q N H none Y) : vj Y (nc + 1) t d = (h : Int) ↔ aw_X X nc t h d = true := by
  obtain ⟨V, eV⟩ : ∃ V : Nat → Nat → Int, V = fun a => if a = 59 then N 59 else if a = 60 then N 60 else M a := ⟨_, rfl⟩
  have vo : ∀ a, a ≠ 59 → a ≠ 60 → V a = M a := fun a x1 x2 => by rw [eV]; show (if a = 59 then N 59 else if a = 60 then N 60 else M a) = M a; rw [if_neg x1, if_neg x2]
  have v59 : V 59 = N 59 := by rw [eV]; exact if_pos rfl
  have v60 : V 60 = N 60 := by rw [eV]; show (if 60 = 59 then N 59 else if 60 = 60 then N 60 else M 60) = N 60; rw [if_neg (by decide), if_pos rfl]
  have hV : fs_A V nc H := by
    obtain ⟨q1, b1, q2⟩ := id hA
    unfold fs_A
    rw [v59, v60, vo 9 (by decide) (by decide), vo 53 (by decide) (by decide), vo 10 (by decide) (by decide), vo 11 (by decide) (by decide), vo 56 (by decide) (by decide), vo 57 (by decide) (by decide), vo 55 (by decide) (by decide), vo 12 (by decide) (by decide), vo 74 (by decide) (by decide), vo 61 (by decide) (by decide)]
    refine ⟨q1, fun c hc => ?_, q2⟩
    obtain ⟨g1, g2⟩ := hy.2.1 c (by omega)
    rw [g1, g2, hK 59 (by decide) (by decide), hK 60 (by decide) (by decide)]
    exact b1 c hc
  have pX : pv V X := pv_of (fun a ha => (vo a (by omega) (by omega)).symm) hX
  have mY : mv V H Y := mv_of (fun a ha => by
    by_cases q : a = 59
    · rw [q, v59]
    · by_cases q2 : a = 60
      · rw [q2, v60]
      · rw [vo a q q2, hy.1 a (by omega) (by omega) q q2 (by omega) (by omega) (by omega)]
        exact hK a (by omega) (by omega)) (fun j hj => by
    rw [vo 53 (by decide) (by decide), hy.2.2.2.1 j (by omega) (by omega) (by omega), hK 53 (by decide) (by decide)]) hY
  obtain ⟨-, -, y1, -, y3, -, -⟩ := hY
  rw [← aw_eq (h := h) hV pX mY htd hd hh]
  exact aw_v (by rw [y1 60 (by decide) (by decide) (by decide)]; exact h60) (by rw [y1 59 (by decide) (by decide) (by decide)]; exact hy.2.2.1) (by rw [y3, hy.2.2.2.1 7 (by decide) (by decide) (by decide), hK 53 (by decide) (by decide)]; exact hs) htd
/-- ask of both sides -/
theorem hn_ask (he : cc_env WF L xs) (hI : la_I WF bs_cps M) (hS : hn_SS M) (wc : sx_w sx_r32 c) : hn_P WF L xs 0 85 216 [.ref 8, .int (Int32.ofInt c)] [.ref 53, .int (Int32.ofInt c)] (-2, 29) M := by
  have hL : L < 2 ^ 31 := he.1
  obtain ⟨z, z', M1, M2, p0, p2, p3, p4, p5, p6, p7⟩ := fs_ak he hI hS.1 wc
  have nM2 : nn M2 := by
    obtain ⟨v, N1, n1, n2, n3, n4⟩ := gn_cc (as := [.ref 8, .int (Int32.ofInt c)]) he (c_ask he) rfl (show (6 : Nat) ≤ 99 by decide) ⟨lp_rf (show (8 : Int).toNat = 8 from rfl), lp_v wc wc, trivial⟩ (gs_pre hI.1 hI.2.2.2.1 (by decide +kernel)) hI.1 hI.2.2.1 hS.2 (by decide +kernel) (by decide +kernel)
    obtain ⟨v', N2, q1, q2, q3⟩ := gn_cx (as := [.ref 53, .int (Int32.ofInt c)]) he (c_mask he) rfl (show (11 : Nat) ≤ 99 by decide) ⟨lp_rf (show (53 : Int).toNat = 53 from rfl), lp_v wc wc, trivial⟩ (gs_prm n2 (by decide +kernel)) n2 n3 n4 (by decide +kernel)
    obtain ⟨-, e1⟩ := fd_run p2 n1
    have p4' : lb_run L xs 216 [.ref 53, .int (Int32.ofInt c)] N1 (lb_val 0 z') M2 := by
      unfold lb_run at p4 ⊢
      rw [← e1]
      exact p4
    obtain ⟨-, e2⟩ := fd_run p4' q1
    exact nn_H e2 p5 q2 q3
  obtain ⟨nc, H, hA⟩ := fs_toA hI hS.1
  obtain ⟨e1, e2, -, e4, -, -, -⟩ := bs_eq hI
  have h29 : 0 ≤ M 10 210 ∧ M 10 210 ≤ 29 := hI.2.2.2.1
  have hm := hI.1
  have hw := hI.2.2.1
  have hR : vu_R M := hS.1.2.2.2.2.2.2.2.2
  obtain ⟨⟨a1, a2, a3, a4, a5⟩, b1, b2, b3, b4, -⟩ := id hA
  obtain ⟨t, et⟩ := Int.eq_ofNat_of_zero_le h29.1
  have nR : ∀ g : Nat, g < 6 → 0 ≤ M 10 (30 + g) ∧ M 10 (30 + g) ≤ 143 := fun g hg => by
    have q := hS.2.1 g hg
    have u : -1 ≤ M 55 g ∧ M 55 g ≤ 143 := hm 55 _ g _ rfl hg rfl
    rw [(b2 g hg).2.2.1, Nat.add_comm g 30] at q u
    exact ⟨q, u.2⟩
  have nD : ∀ g : Nat, g < 30 → 0 ≤ M 10 (150 + g) ∧ M 10 (150 + g) ≤ 143 := fun g hg => by
    have q := hS.2.2.1 g hg
    have u : -1 ≤ M 61 g ∧ M 61 g ≤ 143 := hm 61 _ g _ rfl hg rfl
    rw [b3 g hg, Nat.add_comm g 150] at q u
    exact ⟨q, u.2⟩
  obtain ⟨F1, v1, K1, f1, m1, x1, h1⟩ := rz_d (show 22 ≤ 99 by decide) (aq_x (xs := xs) (nc := nc) (t := t) hL hm hw hR a1 a3 et (by omega) wc (fun g d hg hd => od9_r (nR g hg) (nD d hd)))
  obtain ⟨y1, ey1⟩ : ∃ y, v1 = some y := by
    rcases h1 with ⟨-, e⟩ | ⟨-, -, e⟩ | ⟨_, _, _, e⟩
    · exact ⟨_, e⟩
    · exact ⟨_, e⟩
    · exact ⟨_, e⟩
  subst ey1
  have q1 : lb_run L xs 85 [.ref 8, .int (Int32.ofInt c)] M y1 K1 := ⟨F1, f1⟩
  obtain ⟨ev1, eH1⟩ := fd_run p2 q1
  obtain ⟨w1, r1⟩ := fs_same hw hR x1
  have hK : ∀ a, a < 128 → 53 ≤ a → K1 a = M a := fun a ha g => x1 a ha (by omega)
  have o53 : K1 53 = M 53 := hK 53 (by decide) (by decide)
  have p4' : lb_run L xs 216 [.ref 53, .int (Int32.ofInt c)] K1 (lb_val 0 z') M2 := by
    unfold lb_run at p4 ⊢
    rw [← eH1]
    exact p4
  have ref : ∀ wn : Nat → Bool, (aq_ok c (M 9 4) (M 9 6) (M 9 5) → ∀ (d : Nat) (N Y : Nat → Nat → Int), t ≤ d → d < 30 → yq K1 nc c.toNat N → N 60 nc = (d : Int) → my_Q N H none Y → (vj Y (nc + 1) t d = ((c.toNat : Nat) : Int) ↔ wn d = true)) → (¬ (0 ≤ c ∧ c < M 9 4) ∧ some (lb_val 0 z') = some (.int (Int32.ofInt (-1)))) ∨ ((0 ≤ c ∧ c < M 9 4) ∧ ¬ aq_ok c (M 9 4) (M 9 6) (M 9 5) ∧ some (lb_val 0 z') = some (.int (Int32.ofInt (-2)))) ∨ (aq_ok c (M 9 4) (M 9 6) (M 9 5) ∧ some (lb_val 0 z') = some (.int (Int32.ofInt (akr (fun d => od9 (K1 55 c.toNat) (K1 61 d)) wn (30 - t) t (-2))))) := fun wn hv => by
    obtain ⟨F2, v2, K2, f2, h2⟩ := rz_d (show 21 ≤ 99 by decide) (ar_x (xs := xs) (M := K1) (H := H) (nc := nc) (t := t) (c := c) (wn := wn) hL m1 w1 r1 (by rw [o53]; exact a4) (by rw [o53]; exact a2) a3 (by rw [o53, ← e4]; exact et) (by omega) wc (fun ok => hv (by rw [o53, ← e1, ← e2, ← b4] at ok; exact ok)))
    obtain ⟨y2, ey2⟩ : ∃ y, v2 = some y := by
      rcases h2 with ⟨-, e⟩ | ⟨-, -, e⟩ | ⟨-, e⟩
      · exact ⟨_, e⟩
      · exact ⟨_, e⟩
      · exact ⟨_, e⟩
    subst ey2
    have q2 : lb_run L xs 216 [.ref 53, .int (Int32.ofInt c)] K1 y2 K2 := ⟨F2, f2⟩
    obtain ⟨ev2, -⟩ := fd_run p4' q2
    rw [o53, ← e1, ← e2, ← b4, ← ev2] at h2
    exact h2
  have fin : ∀ w : Int, sx_w (-2, 29) w → some y1 = some (.int (Int32.ofInt w)) → some (lb_val 0 z') = some (.int (Int32.ofInt w)) → hn_P WF L xs 0 85 216 [.ref 8, .int (Int32.ofInt c)] [.ref 53, .int (Int32.ofInt c)] (-2, 29) M := fun w hw g1 g2 => by
    have r : -2 ≤ w ∧ w ≤ 29 := hw
    have k1 : lb_val 0 z = lb_val 0 w := ev1.trans (Option.some.inj g1)
    have k2 : lb_val 0 z' = lb_val 0 w := Option.some.inj g2
    rw [k1] at p2
    rw [k2] at p4
    exact ⟨w, M1, M2, hw, Or.inl ⟨rfl, og_w32 (by omega) (by omega)⟩, p2, p3, p4, p5, p6, p7, nM2⟩
  rcases h1 with ⟨n1, rv⟩ | ⟨k1, n1, rv⟩ | ⟨k1, X, hX, rv⟩
  · rcases ref (fun _ => true) (fun ok => absurd ⟨ok.1, ok.2.1⟩ n1) with ⟨-, g⟩ | ⟨k, -⟩ | ⟨k, -⟩
    · exact fin (-1) ⟨by decide, by decide⟩ rv g
    · exact absurd k n1
    · exact absurd ⟨k.1, k.2.1⟩ n1
  · rcases ref (fun _ => true) (fun ok => absurd ok n1) with ⟨k, -⟩ | ⟨-, -, g⟩ | ⟨k, -⟩
    · exact absurd k1 k
    · exact fin (-2) ⟨by decide, by decide⟩ rv g
    · exact absurd k n1
  · obtain ⟨c0, cH, cs, -⟩ := id k1
    have hcH : c.toNat < H := by omega
    have ec : ((c.toNat : Nat) : Int) = c := by omega
    rcases ref (aw_X X nc t c.toNat) (fun _ d N Y htd hd hy h60 hY => aw_iff hA hX hK (by rw [ec, ← b4]; exact cs) hcH htd hd hy h60 hY) with ⟨k, -⟩ | ⟨-, k, -⟩ | ⟨-, g⟩
    · exact absurd ⟨c0, cH⟩ k
    · exact absurd k1 k
    · have eq := ak_eq (od := fun d => od9 (M 10 (30 + c.toNat)) (M 10 (150 + d))) (od' := fun d => od9 (K1 55 c.toNat) (K1 61 d)) (wn := aw_X X nc t c.toNat) (wn' := aw_X X nc t c.toNat) (30 - t) t (-2) (fun i hi => by
        have i30 : i < 30 := by omega
        refine ⟨(od9_r (nR c.toNat (by omega)) (nD i i30)).1, ?_⟩
        show od9 (K1 55 c.toNat) (K1 61 i) = od9 (M 10 (30 + c.toNat)) (M 10 (150 + i))
        rw [hK 55 (by decide) (by decide), hK 61 (by decide) (by decide), (b2 c.toNat (by omega)).2.2.1, b3 i i30, Nat.add_comm c.toNat 30, Nat.add_comm i 150]) (fun _ _ _ => rfl) (by omega)
      rw [eq, if_pos (by decide)] at g
      exact fin _ (akd_le (30 - t) t (-2, -1) (by omega) (by decide)) rv g
end
