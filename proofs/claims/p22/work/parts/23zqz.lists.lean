/-! Lists: the pair. -/
section
variable {L : Nat} {xs : Nat → Int32} {M M' N M1 M2 : Nat → Nat → Int} {nc H s g t : Nat} {c : Int}
theorem osn_q {P Q : Nat → Bool} {W V : Nat → Int} : ∀ n, (∀ c, c < n → Q c = P c ∧ V c = W c) → osn Q V n = osn P W n := by
  intro n
  induction n with
  | zero => intro _; rfl
  | succ n ih =>
    intro e
    obtain ⟨e1, e2⟩ := e n (Nat.lt_succ_self n)
    show (if Q n = true then osn Q V n ||| 2 ^ (V n).toNat else osn Q V n) = (if P n = true then osn P W n ||| 2 ^ (W n).toNat else osn P W n)
    rw [ih (fun c hc => e c (by omega)), e1, e2]
/-- houses that have no day -/
theorem mgr_none {D : Nat → Nat → Bool} : ∀ (k h : Nat) (U : Nat → Bool), (∀ x d, h ≤ x → D x d = false) → mgr D k h U = 0 := by
  intro k
  induction k with
  | zero => intro h U _; rfl
  | succ k ih =>
    intro h U hD
    show mfd (fun d => mgr D k (h + 1) (mup U d)) (fun d => D h d && !U d) 30 (mgr D k (h + 1) U) = 0
    rw [mfd_0 30 (fun i _ => by rw [hD h i (Nat.le_refl h)]; rfl)]
    exact ih (h + 1) U (fun x d hx => hD x d (by omega))
theorem mgr_pad {D : Nat → Nat → Bool} {k : Nat} : ∀ (m h : Nat) (U : Nat → Bool), (∀ x d, h + m ≤ x → D x d = false) → mgr D (m + k) h U = mgr D m h U := by
  intro m
  induction m with
  | zero =>
    intro h U hD
    rw [Nat.zero_add]
    exact mgr_none k h U (fun x d hx => hD x d (by omega))
  | succ m ih =>
    intro h U hD
    have e : m + 1 + k = m + k + 1 := by omega
    rw [e]
    show mfd (fun d => mgr D (m + k) (h + 1) (mup U d)) (fun d => D h d && !U d) 30 (mgr D (m + k) (h + 1) U) = mfd (fun d => mgr D m (h + 1) (mup U d)) (fun d => D h d && !U d) 30 (mgr D m (h + 1) U)
    have i1 : ∀ V : Nat → Bool, mgr D (m + k) (h + 1) V = mgr D m (h + 1) V := fun V => ih (h + 1) V (fun x d hx => hD x d (by omega))
    rw [i1 U, show (fun d => mgr D (m + k) (h + 1) (mup U d)) = fun d => mgr D m (h + 1) (mup U d) from funext fun d => i1 (mup U d)]
/-- both sides' cards -/
def liC (M : Nat → Nat → Int) (nc H : Nat) : Prop := ∀ c, c < nc → M 60 c = M 10 (c + 180) ∧ M 59 c = M 11 c ∧ 0 ≤ M 11 c ∧ M 11 c < (H : Int)
theorem li_O (hC : liC M nc H) (hH : H ≤ 6) (s64 : s < 64) (d : Nat) : lrO M nc s d = (lsO M nc d &&& s) ∧ (lsO M nc d &&& s) < 64 := by
  refine ⟨Nat.eq_of_testBit_eq fun i => ?_, Nat.lt_of_le_of_lt Nat.and_le_right s64⟩
  have q1 : (lrO M nc s d).testBit i = true ↔ ∃ c, c < nc ∧ (decide (M 60 c = (d : Int)) && decide (vq_bt (s : Int) (M 59 c) = 1)) = true ∧ (M 59 c).toNat = i := osn_b nc
  have q2 : (lsO M nc d).testBit i = true ↔ ∃ c, c < nc ∧ decide (M 10 (c + 180) = (d : Int)) = true ∧ (M 11 c).toNat = i := osn_b nc
  rw [Nat.testBit_and]
  refine Bool.eq_iff_iff.mpr ?_
  rw [Bool.and_eq_true, q1, q2]
  constructor
  · rintro ⟨c, c1, c2, c3⟩
    obtain ⟨e1, e2, e3, e4⟩ := hC c c1
    rw [Bool.and_eq_true, decide_eq_true_iff, decide_eq_true_iff] at c2
    rw [e1] at c2
    have ei : M 59 c = (i : Int) := by omega
    have b := c2.2
    rw [ei, lk_bt (by omega) (by omega)] at b
    refine ⟨⟨c, c1, decide_eq_true c2.1, by rw [← e2]; exact c3⟩, Decidable.byContradiction fun q => ?_⟩
    rw [if_neg q] at b
    exact absurd b (by decide)
  · rintro ⟨⟨c, c1, c2, c3⟩, b⟩
    obtain ⟨e1, e2, e3, e4⟩ := hC c c1
    have ei : M 59 c = (i : Int) := by omega
    refine ⟨c, c1, Bool.and_eq_true_iff.mpr ⟨decide_eq_true ?_, decide_eq_true ?_⟩, by rw [e2]; exact c3⟩
    · rw [e1]
      exact of_decide_eq_true c2
    · rw [ei, lk_bt (by omega) (by omega), if_pos b]
theorem li_E (hC : liC M nc H) (h6 : M 9 6 = (s : Int)) (h7 : M 9 7 = (g : Int)) : lrE M s nc g t = lsD M nc t := by
  funext h d
  have e : osn (vq_may (M 60) (M 59) (s : Int) (g : Int) (d : Int)) (M 59) nc = lsA M nc d := osn_q nc (fun c hc => by
    obtain ⟨e1, e2, -⟩ := hC c hc
    refine ⟨?_, e2⟩
    unfold lsP vq_may
    rw [e1, e2, h6, h7])
  show (decide (t ≤ d ∧ d < 30) && (osn (vq_may (M 60) (M 59) (s : Int) (g : Int) (d : Int)) (M 59) nc).testBit h) = (decide (t ≤ d ∧ d < 30) && (lsA M nc d).testBit h)
  rw [e]
theorem li_H (hC : liC M nc H) {x d : Nat} (hx : H ≤ x) : lsD M nc t x d = false := by
  cases e : lsD M nc t x d with
  | false => rfl
  | true =>
    unfold lsD at e
    rw [Bool.and_eq_true] at e
    obtain ⟨c, c1, -, c3⟩ := (osn_b nc).mp (show (osn (lsP M d) (M 11) nc).testBit x = true from e.2)
    obtain ⟨-, -, e3, e4⟩ := hC c c1
    omega
/-- both sides answer alike -/
theorem li_V (hm : sx_mok cl_ly M) (hC : liC M nc H) (h12 : nc ≤ 12) (hH : H ≤ 6) (sH : s < 2 ^ H) (h6 : M 9 6 = (s : Int)) (h7 : M 9 7 = (g : Int)) (ht : t ≤ 29) : lrV M H nc s g t c = lsV M nc s t c ∧ -1 ≤ lsV M nc s t c ∧ lsV M nc s t c ≤ 1073741823 := by
  have pH : 2 ^ H ≤ 2 ^ 6 := Nat.pow_le_pow_right (by decide) hH
  have s64 : s < 64 := by omega
  have eE := li_E (t := t) hC h6 h7
  unfold lrV lsV
  by_cases c0 : c = 0
  · rw [if_pos c0, if_pos c0]
    have e : dsn (lrC M nc s) 30 = dsn (lsC M nc s) 30 := dsn_q 30 (fun d _ => by
      obtain ⟨o1, o2⟩ := li_O hC hH s64 d
      unfold lrC lsC
      rw [o1, (bcn_p o2).1]
      all_goals rfl)
    have lt : dsn (lsC M nc s) 30 < 2 ^ 30 := dsn_lt 30
    rw [e]
    exact ⟨rfl, by omega, by omega⟩
  rw [if_neg c0, if_neg c0]
  by_cases c1 : c = 1
  · rw [if_pos c1, if_pos c1]
    have lt := lwA_lt (f := lsA M nc) (t := t) (fun d => lsA_lt hm h12) (30 - t)
    obtain ⟨k, k1, k2, k3⟩ := lk_andn (a := s) (b := lwA (lsA M nc) t (30 - t)) (by omega) (by omega)
    rw [k1]
    have e : dsn (lrW M s nc g t) H = k := Nat.eq_of_testBit_eq fun i => by
      refine Bool.eq_iff_iff.mpr ?_
      rw [dsn_b, k3 i, Bool.and_eq_true]
      have w1 : (lwA (lsA M nc) t (30 - t)).testBit i = true ↔ ∃ e, t ≤ e ∧ e < t + (30 - t) ∧ (lsA M nc e).testBit i = true := lwA_b (30 - t)
      have w2 : (dsn (lrE M s nc g t i) 30 = 0) ↔ ¬ (lwA (lsA M nc) t (30 - t)).testBit i = true := by
        rw [w1, eE]
        constructor
        · rintro q ⟨e, e1, e2, e3⟩
          have b := (dsn_b (P := lsD M nc t i) (g := e) 30).mpr ⟨by omega, by
            unfold lsD
            rw [e3, decide_eq_true (show t ≤ e ∧ e < 30 by omega)]
            all_goals rfl⟩
          rw [q, Nat.zero_testBit] at b
          exact absurd b (by decide)
        · intro q
          refine Nat.eq_of_testBit_eq fun e => ?_
          rw [Nat.zero_testBit, ← Bool.not_eq_true, dsn_b]
          rintro ⟨e1, e2⟩
          unfold lsD at e2
          rw [Bool.and_eq_true] at e2
          have r := of_decide_eq_true e2.1
          exact q ⟨e, r.1, by omega, e2.2⟩
      constructor
      · rintro ⟨i1, i2⟩
        unfold lrW at i2
        rw [Bool.and_eq_true, decide_eq_true_iff, decide_eq_true_iff, lk_bt (by omega) (by omega), w2] at i2
        refine ⟨Decidable.byContradiction fun q => ?_, ?_⟩
        · have i3 := i2.1
          rw [if_neg q] at i3
          exact absurd i3 (by decide)
        · rw [Bool.not_eq_true] at i2
          rw [i2.2]
          all_goals rfl
      · rintro ⟨i1, i2⟩
        have iH : i < H := Decidable.byContradiction fun q => by
          rw [lk_b0 sH (show H ≤ i by omega)] at i1
          exact absurd i1 (by decide)
        refine ⟨iH, ?_⟩
        unfold lrW
        rw [Bool.and_eq_true, decide_eq_true_iff, decide_eq_true_iff, lk_bt (by omega) (by omega), w2, if_pos i1]
        refine ⟨rfl, fun q => ?_⟩
        rw [q] at i2
        exact absurd i2 (by decide)
    rw [e]
    exact ⟨rfl, by omega, by omega⟩
  rw [if_neg c1, if_neg c1]
  by_cases c2 : c = 2
  · rw [if_pos c2, if_pos c2, eE]
    have e := mgr_pad (D := lsD M nc t) (k := 6 - H) H 0 (fun _ => false) (fun x d hx => li_H hC (by omega))
    rw [show H + (6 - H) = 6 by omega] at e
    rw [← e]
    have le : mgr (lsD M nc t) 6 0 (fun _ => false) ≤ 6 := mgr_m
    exact ⟨rfl, by omega, by omega⟩
  · rw [if_neg c2, if_neg c2]
    exact ⟨rfl, by decide, by decide⟩
theorem jn_li (he : cc_env WF L xs) (hI : la_I WF bs_cps M) (hS : jn_SS M) (wc : sx_w sx_r32 c) : jn_P WF L xs 0 98 229 [.ref 8, .int (Int32.ofInt c)] [.ref 53, .int (Int32.ofInt c)] (-1, 1073741823) M := by
  have hL : L < 2 ^ 31 := he.1
  obtain ⟨nc, H, hA⟩ := fs_toA hI hS.1
  obtain ⟨e1, -, -, e4, -, -, -⟩ := bs_eq hI
  have h29 : 0 ≤ M 10 210 ∧ M 10 210 ≤ 29 := hI.2.2.2.1
  have hm := hI.1
  obtain ⟨⟨a1, a2, a3, a4, a5⟩, b1, b2, b3, b4, b5⟩ := id hA
  obtain ⟨t, et⟩ := Int.eq_ofNat_of_zero_le h29.1
  obtain ⟨-, -, q6, q7, -⟩ := hS.1.2
  unfold fs_b at q6 q7
  obtain ⟨s, es⟩ := Int.eq_ofNat_of_zero_le q6.1
  obtain ⟨g, eg⟩ := Int.eq_ofNat_of_zero_le q7.1
  have sH : s < 2 ^ H := by
    have q := q6.2
    rw [es, show (M 9 4).toNat = H by omega] at q
    omega
  have gC : g < 2 ^ nc := by
    have q := q7.2
    rw [eg, show (M 9 5).toNat = nc by omega] at q
    omega
  have pH : 2 ^ H ≤ 2 ^ 6 := Nat.pow_le_pow_right (by decide) a5
  have pC : 2 ^ nc ≤ 2 ^ 12 := Nat.pow_le_pow_right (by decide) a3
  have hC : liC M nc H := b1
  obtain ⟨v1, v2, v3⟩ := li_V (c := c) (t := t) hm hC a3 a5 sH es eg (by omega)
  obtain ⟨F1, r1, M1, f1, h1, m1, x1⟩ := rz_d (show 23 ≤ 99 by decide) (lx_x (xs := xs) (M := M) (nc := nc) (s := s) (t := t) (c := c) hL hm a1 a3 es (by omega) et (by omega) wc)
  have o53 := x1 53 (by decide)
  have o59 := x1 59 (by decide)
  have o60 := x1 60 (by decide)
  have hh : lrH M1 H s nc g t := by
    unfold lrH
    rw [o53, o59, o60]
    refine ⟨a4, a5, by rw [← b4]; exact es, by omega, a2, a3, by rw [← b5]; exact eg, by omega, by rw [← e4]; exact et, by omega, fun i hi => ?_⟩
    obtain ⟨g1, g2, g3, g4⟩ := hC i hi
    have g5 : -1 ≤ M 60 i ∧ M 60 i ≤ 143 := hm 60 _ i _ rfl (by show i < 12; omega) rfl
    exact ⟨⟨by omega, by omega⟩, g5.1, hS.2.1 i (by omega)⟩
  obtain ⟨F2, r2, M2, f2, h2, m2, x2⟩ := rz_d (show 23 ≤ 99 by decide) (lg_x (xs := xs) (M := M1) (c := c) hL m1 hh wc)
  have eV : lrV M1 H nc s g t c = lrV M H nc s g t c := by
    unfold lrV lrC lrO lrW lrE
    rw [o59, o60]
  rw [eV, v1] at h2
  generalize lsV M nc s t c = z at v2 v3 h1 h2
  subst h1 h2
  have w32 : sx_w sx_r32 z := og_w32 (by omega) (by omega)
  obtain ⟨z', K1, K2, p0, p1, p2, p3, p4, p5, p6, p7⟩ := fs_P0 (r := (-1, 1073741823)) hI hS.1 ⟨v2, v3⟩ w32 (⟨F1, f1⟩ : lb_run L xs 98 [.ref 8, .int (Int32.ofInt c)] M (lb_val 0 z) M1) m1 x1 (⟨F2, f2⟩ : lb_run L xs 229 [.ref 53, .int (Int32.ofInt c)] M1 (lb_val 0 z) M2) m2 x2
  have q1 : lb_run L xs 98 [.ref 8, .int (Int32.ofInt c)] M (lb_val 0 z) M1 := ⟨F1, f1⟩
  have q2 : lb_run L xs 229 [.ref 53, .int (Int32.ofInt c)] M1 (lb_val 0 z) M2 := ⟨F2, f2⟩
  obtain ⟨-, d1⟩ := fd_run p2 q1
  have p4' : lb_run L xs 229 [.ref 53, .int (Int32.ofInt c)] M1 (lb_val 0 z') K2 := by
    unfold lb_run at p4 ⊢
    rw [← d1]
    exact p4
  obtain ⟨-, d2⟩ := fd_run p4' q2
  exact ⟨z', K1, K2, p0, p1, p2, p3, p4, p5, p6, p7, nd_H d2 p5 m2 (nd_same (fun a ha => (x2 a ha).trans (x1 a ha)) hS.2)⟩
end
