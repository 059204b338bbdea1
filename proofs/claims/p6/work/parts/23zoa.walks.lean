/-! Walks told by lists of numbers: what a walk begins with, what it comes to, all symbols by one list. -/
section
variable {L : Nat} {xs : Nat → Int32} {M M' MM : Nat → Nat → Int} {ρ ρ' : Nat → Int} {t : sx_S} {Q : Option Value → (Nat → Nat → Int) → Prop} {zs us : List Int}
def qs_n : List Int → Nat → Int
  | [], _ => 0
  | z :: _, 0 => z
  | _ :: l, k + 1 => qs_n l k
/-- the symbols: 9 is the first of the list -/
def qs_e (zs : List Int) (s : Nat) : Int := bif Nat.blt s 9 then 0 else qs_n zs (Nat.sub s 9)
def qs_add (x c : Int) : Int := match c with
  | .ofNat 0 => x
  | c => x + c
def qs_a (zs : List Int) (a : sx_A) : Int := bif Nat.beq a.1 0 then a.2 else qs_add (qs_e zs a.1) a.2
theorem qs_add_eq (x c : Int) : qs_add x c = x + c := by
  unfold qs_add
  split
  · exact (Int.add_zero x).symm
  · rfl
/-- a symbol that is there -/
def qs_sb (n s : Nat) : Bool := bif Nat.beq s 0 then true else sx_an (Nat.ble 9 s) (Nat.blt s n)
def qs_ag (zs : List Int) (n : Nat) (ρ : Nat → Int) : Prop := ∀ s, 9 ≤ s → s < n → ρ s = qs_e zs s
theorem qs_sb_ok {n s : Nat} (h : qs_sb n s = true) (h9 : 9 ≤ n) : s < n ∧ (s = 0 ∨ 9 ≤ s) := by
  unfold qs_sb at h
  cases e : Nat.beq s 0 with
  | true =>
    have := sx_nbeq.mp e
    omega
  | false =>
    rw [e] at h
    obtain ⟨h1, h2⟩ := sx_an_iff.mp (show sx_an (Nat.ble 9 s) (Nat.blt s n) = true from h)
    exact ⟨sx_blt h2, Or.inr (Nat.le_of_ble_eq_true h1)⟩
theorem qs_sy {n s : Nat} (ag : qs_ag zs n ρ) (h0 : ρ 0 = 0) (h : qs_sb n s = true) : ρ s = qs_e zs s := by
  unfold qs_sb at h
  cases e : Nat.beq s 0 with
  | true =>
    rw [sx_nbeq.mp e, h0]
    rfl
  | false =>
    rw [e] at h
    obtain ⟨h1, h2⟩ := sx_an_iff.mp (show sx_an (Nat.ble 9 s) (Nat.blt s n) = true from h)
    exact ag s (Nat.le_of_ble_eq_true h1) (sx_blt h2)
theorem qs_val {n : Nat} {a : sx_A} (ag : qs_ag zs n ρ) (h0 : ρ 0 = 0) (h : qs_sb n a.1 = true) : sx_val ρ a = qs_a zs a := by
  unfold sx_val qs_a
  cases e : Nat.beq a.1 0 with
  | true =>
    rw [sx_nbeq.mp e, h0]
    exact Int.zero_add _
  | false =>
    rw [qs_sy ag h0 h]
    exact (qs_add_eq _ _).symm
theorem qs_n_app {k : Nat} : ∀ {l : List Int}, k < l.length → qs_n (l ++ us) k = qs_n l k := by
  induction k with
  | zero =>
    intro l h
    cases l with
    | nil => exact absurd h (Nat.lt_irrefl 0)
    | cons z l => rfl
  | succ k ih =>
    intro l h
    cases l with
    | nil => exact absurd h (Nat.not_lt_zero _)
    | cons z l => exact ih (Nat.lt_of_succ_lt_succ h)
theorem qs_e_at {s : Nat} (h : 9 ≤ s) : qs_e zs s = qs_n zs (s - 9) := by
  unfold qs_e
  cases e : Nat.blt s 9 with
  | true => exact absurd (sx_blt e) (by omega)
  | false => rfl
-- what a walk begins with: 0 a number of a range; 1 what cell holds at a place; 2, 3, 4, 5 the value is (isn't) below, is (isn't) another one; 6 it isn't that
abbrev qs_I : Type := Nat × Nat × sx_A × (Int × Int)
noncomputable def qs_st (q : qs_I) (t : sx_S) : sx_S := match q.1 with
  | 0 => (sx_fresh t q.2.2.2).2
  | 1 => (sx_frl t q.2.1 q.2.2.1 q.2.2.2).2
  | 2 => sx_ml t 80 q.2.2.1 (q.2.1, q.2.2.2.1)
  | 3 => sx_ml t 81 q.2.2.1 (q.2.1, q.2.2.2.1)
  | 4 => sx_ml t 82 q.2.2.1 (q.2.1, q.2.2.2.1)
  | 5 => sx_ml t 83 q.2.2.1 (q.2.1, q.2.2.2.1)
  | _ => sx_not t q.2.2.1 q.2.2.2.1
noncomputable def qs_t (l : List qs_I) : sx_S → sx_S := l.rec (fun t => t) (fun q _ ih t => ih (qs_st q t))
def qs_g1 (q : qs_I) (k : Nat) : Bool := match q.1 with
  | 0 => sx_in q.2.2.2 sx_r64
  | 1 => sx_an (Nat.blt q.2.1 128) (sx_an (qs_sb k q.2.2.1.1) (sx_in q.2.2.2 sx_r64))
  | _ => sx_an (qs_sb k q.2.2.1.1) (qs_sb k q.2.1)
def qs_nx (q : qs_I) (k : Nat) : Nat := match q.1 with
  | 0 => k + 1
  | 1 => k + 1
  | _ => k
def qs_gd : List qs_I → Nat → Bool
  | [], _ => true
  | q :: l, k => sx_an (qs_g1 q k) (qs_gd l (qs_nx q k))
def qs_o1 (M : Nat → Nat → Int) (zs : List Int) (q : qs_I) (k : Nat) : Prop := match q.1 with
  | 0 => q.2.2.2.1 ≤ qs_n zs k ∧ qs_n zs k ≤ q.2.2.2.2
  | 1 => 0 ≤ qs_a zs q.2.2.1 ∧ M q.2.1 (qs_a zs q.2.2.1).toNat = qs_n zs k ∧ q.2.2.2.1 ≤ qs_n zs k ∧ qs_n zs k ≤ q.2.2.2.2
  | 2 => qs_a zs q.2.2.1 < qs_a zs (q.2.1, q.2.2.2.1)
  | 3 => ¬ qs_a zs q.2.2.1 < qs_a zs (q.2.1, q.2.2.2.1)
  | 4 => qs_a zs q.2.2.1 = qs_a zs (q.2.1, q.2.2.2.1)
  | 5 => ¬ qs_a zs q.2.2.1 = qs_a zs (q.2.1, q.2.2.2.1)
  | _ => qs_a zs q.2.2.1 ≠ q.2.2.2.1
def qs_ok (M : Nat → Nat → Int) (zs : List Int) : List qs_I → Nat → Prop
  | [], k => zs.length = k
  | q :: l, k => qs_o1 M zs q k ∧ qs_ok M zs l (qs_nx q k)
theorem qs_fact {g : Nat} {x y : sx_A} {n : Nat} (hs : sx_sat cl_ly (0, -100) xs L MM ρ M t) (ht : t.1 = n) (h9 : 9 ≤ n) (ag : qs_ag zs n ρ) (hx : qs_sb n x.1 = true) (hy : qs_sb n y.1 = true) (h : (0 : Int) = sx_mf g (qs_a zs x) (qs_a zs y)) : sx_sat cl_ly (0, -100) xs L MM ρ M (sx_ml t g x y) ∧ (sx_ml t g x y).1 = n := by
  have h1 := sx_ml_ok (g := g) hs (by rw [ht]; exact (qs_sb_ok hx h9).1) (by rw [ht]; exact (qs_sb_ok hy h9).1) (by rw [qs_val ag hs.2.1 hx, qs_val ag hs.2.1 hy]; exact h)
  exact ⟨h1.1, h1.2.trans ht⟩
theorem qs_f0 {a b : Int} (h : a < b) : (0 : Int) = sx_mf 80 a b := by
  show (0 : Int) = if a < b then 0 else 1
  rw [if_pos h]
theorem qs_f1 {a b : Int} (h : ¬ a < b) : (0 : Int) = sx_mf 81 a b := by
  show (0 : Int) = if a < b then 1 else 0
  rw [if_neg h]
theorem qs_f2 {a b : Int} (h : a = b) : (0 : Int) = sx_mf 82 a b := by
  show (0 : Int) = if a = b then 0 else 1
  rw [if_pos h]
theorem qs_f3 {a b : Int} (h : ¬ a = b) : (0 : Int) = sx_mf 83 a b := by
  show (0 : Int) = if a = b then 1 else 0
  rw [if_neg h]
theorem qs_sat_go : ∀ (l : List qs_I) (k : Nat) (ρ : Nat → Int) (t : sx_S), qs_gd l (9 + k) = true → qs_ok M zs l k → sx_sat cl_ly (0, -100) xs L M ρ M t → t.1 = 9 + k → qs_ag zs (9 + k) ρ → ∃ ρ', sx_sat cl_ly (0, -100) xs L M ρ' M (qs_t l t) ∧ (qs_t l t).1 = 9 + zs.length ∧ qs_ag zs (9 + zs.length) ρ' := by
  intro l
  induction l with
  | nil =>
    intro k ρ t _ ho hs ht ag
    have ho : zs.length = k := ho
    rw [ho]
    exact ⟨ρ, hs, ht, ag⟩
  | cons q l ih =>
    intro k ρ t hg ho hs ht ag
    obtain ⟨g1, g2⟩ := sx_an_iff.mp (show sx_an (qs_g1 q (9 + k)) (qs_gd l (qs_nx q (9 + k))) = true from hg)
    obtain ⟨o1, o2⟩ := (show qs_o1 M zs q k ∧ qs_ok M zs l (qs_nx q k) from ho)
    have h0 := hs.2.1
    obtain ⟨c, u, a, r⟩ := q
    have new : ∀ (ρ' : Nat → Int), sx_ext (9 + k) ρ ρ' → ρ' (9 + k) = qs_n zs k → qs_ag zs (9 + (k + 1)) ρ' := fun ρ' x y s h1 h2 => by
      by_cases e : s = 9 + k
      · rw [e, y, qs_e_at (Nat.le_add_right 9 k), Nat.add_sub_cancel_left]
      · rw [x s (by omega)]
        exact ag s h1 (by omega)
    match c, g1, g2, o1, o2 with
    | 0, g1, g2, o1, o2 =>
      have w := sx_in_iff.mp (show sx_in r sx_r64 = true from g1)
      have o1 : r.1 ≤ qs_n zs k ∧ qs_n zs k ≤ r.2 := o1
      obtain ⟨ρ', x, s, e⟩ := tg_fr (r := r) (z := qs_n zs k) hs ht o1 ⟨Int.le_trans w.1 o1.1, Int.le_trans o1.2 w.2⟩
      exact ih (k + 1) ρ' _ g2 o2 s (by show t.1 + 1 = _; omega) (new ρ' x e)
    | 1, g1, g2, o1, o2 =>
      obtain ⟨g3, g4⟩ := sx_an_iff.mp (show sx_an (Nat.blt u 128) (sx_an (qs_sb (9 + k) a.1) (sx_in r sx_r64)) = true from g1)
      obtain ⟨g4, g5⟩ := sx_an_iff.mp g4
      have w := sx_in_iff.mp g5
      obtain ⟨b1, b2, b3⟩ := (show 0 ≤ qs_a zs a ∧ M u (qs_a zs a).toNat = qs_n zs k ∧ r.1 ≤ qs_n zs k ∧ qs_n zs k ≤ r.2 from o1)
      have ev := qs_val ag h0 g4
      obtain ⟨ρ', x, s, e⟩ := tg_rd (k := u) (i := a) (r := r) hs ht (sx_blt g3) (qs_sb_ok g4 (Nat.le_add_right 9 k)).1 (by rw [ev]; exact b1) (by rw [ev, b2]; exact b3) (by rw [ev, b2]; exact ⟨Int.le_trans w.1 b3.1, Int.le_trans b3.2 w.2⟩)
      exact ih (k + 1) ρ' _ g2 o2 s (by show t.1 + 1 = _; omega) (new ρ' x (by rw [e, ev, b2]))
    | 2, g1, g2, o1, o2 =>
      obtain ⟨g3, g4⟩ := sx_an_iff.mp (show sx_an (qs_sb (9 + k) a.1) (qs_sb (9 + k) u) = true from g1)
      obtain ⟨s1, s2⟩ := qs_fact (g := 80) (x := a) (y := (u, r.1)) hs ht (Nat.le_add_right 9 k) ag g3 g4 (qs_f0 o1)
      exact ih k ρ _ g2 o2 s1 s2 ag
    | 3, g1, g2, o1, o2 =>
      obtain ⟨g3, g4⟩ := sx_an_iff.mp (show sx_an (qs_sb (9 + k) a.1) (qs_sb (9 + k) u) = true from g1)
      obtain ⟨s1, s2⟩ := qs_fact (g := 81) (x := a) (y := (u, r.1)) hs ht (Nat.le_add_right 9 k) ag g3 g4 (qs_f1 o1)
      exact ih k ρ _ g2 o2 s1 s2 ag
    | 4, g1, g2, o1, o2 =>
      obtain ⟨g3, g4⟩ := sx_an_iff.mp (show sx_an (qs_sb (9 + k) a.1) (qs_sb (9 + k) u) = true from g1)
      obtain ⟨s1, s2⟩ := qs_fact (g := 82) (x := a) (y := (u, r.1)) hs ht (Nat.le_add_right 9 k) ag g3 g4 (qs_f2 o1)
      exact ih k ρ _ g2 o2 s1 s2 ag
    | 5, g1, g2, o1, o2 =>
      obtain ⟨g3, g4⟩ := sx_an_iff.mp (show sx_an (qs_sb (9 + k) a.1) (qs_sb (9 + k) u) = true from g1)
      obtain ⟨s1, s2⟩ := qs_fact (g := 83) (x := a) (y := (u, r.1)) hs ht (Nat.le_add_right 9 k) ag g3 g4 (qs_f3 o1)
      exact ih k ρ _ g2 o2 s1 s2 ag
    | c + 6, g1, g2, o1, o2 =>
      obtain ⟨g3, -⟩ := sx_an_iff.mp (show sx_an (qs_sb (9 + k) a.1) (qs_sb (9 + k) u) = true from g1)
      have o1 : qs_a zs a ≠ r.1 := o1
      obtain ⟨s1, s2⟩ := sx_not_ok (v := r.1) hs (by rw [ht]; exact (qs_sb_ok g3 (Nat.le_add_right 9 k)).1) (by rw [qs_val ag h0 g3]; exact o1)
      exact ih k ρ _ g2 o2 s1 (s2.trans ht) ag
/-- the start of a walk -/
noncomputable def qs_0 (l : List qs_I) : sx_S := qs_t l (og_t [] [])
theorem qs_sat {l : List qs_I} (hL : L < 2 ^ 31) (hm : sx_mok cl_ly M) (hg : qs_gd l 9 = true) (ho : qs_ok M zs l 0) : ∃ ρ : Nat → Int, sx_sat cl_ly (0, -100) xs L M ρ M (qs_0 l) ∧ (qs_0 l).1 = 9 + zs.length ∧ qs_ag zs (9 + zs.length) ρ := by
  obtain ⟨ρ, s, n, -, -⟩ := og_sat (xs := xs) (gs := []) (zs := []) (fs := []) hL hm trivial (fun g hg => by cases hg)
  exact qs_sat_go l 0 ρ _ hg ho s n (fun s h1 h2 => absurd h2 (by omega))
-- values
def qs_cv (zs : List Int) (v : sx_V) : Value := match v.1 with
  | 0 => .int (Int32.ofInt (qs_a zs v.2))
  | 1 => .long (Int64.ofInt (qs_a zs v.2))
  | _ => .ref v.2.2.toNat
def qs_cl (zs : List Int) (lv : sx_L) : sm_V := lv.map fun q => (q.1, qs_cv zs q.2)
def qs_cs (zs : List Int) (s : List sx_V) : List Value := s.map (qs_cv zs)
def qs_up (zs : List Int) (ws : List og_W) (M : Nat → Nat → Int) : Nat → Nat → Int := ws.foldr (fun w N => sx_up N w.1 (qs_a zs w.2.1).toNat (qs_a zs w.2.2)) M
def qs_ds (zs : List Int) (M : Nat → Nat → Int) (q : og_D) : Prop := match q.1 with
  | 0 => q.2.2.2.1 ≤ qs_a zs q.2.1 ∧ qs_a zs q.2.1 ≤ q.2.2.2.2
  | 1 => qs_e zs q.2.1.1 < qs_add (qs_e zs q.2.2.1.1) q.2.2.2.1
  | 2 => ¬ qs_e zs q.2.1.1 < qs_add (qs_e zs q.2.2.1.1) q.2.2.2.1
  | 3 => qs_e zs q.2.1.1 = qs_add (qs_e zs q.2.2.1.1) q.2.2.2.1
  | 4 => ¬ qs_e zs q.2.1.1 = qs_add (qs_e zs q.2.2.1.1) q.2.2.2.1
  | 5 => qs_e zs q.2.2.2.2.toNat = sx_mf q.2.2.2.1.toNat (qs_a zs q.2.1) (qs_a zs q.2.2.1)
  | 7 => qs_e zs q.2.1.1 ≠ q.2.2.2.1
  | _ => M q.2.2.2.1.toNat (qs_a zs q.2.1).toNat = qs_a zs q.2.2.1
def qs_cc (zs : List Int) (M : Nat → Nat → Int) : List og_D → Prop
  | [] => True
  | q :: r => qs_ds zs M q ∧ qs_cc zs M r
def qs_db (n : Nat) (q : og_D) : Bool := sx_an (sx_an (qs_sb n q.2.1.1) (qs_sb n q.2.2.1.1)) (bif Nat.beq q.1 5 then qs_sb n q.2.2.2.2.toNat else true)
def qs_tb (n : Nat) (T : og_T) : Bool := sx_an (sx_an (sx_an (match T.2.1 with
  | some v => qs_sb n v.2.1
  | none => true) (T.2.2.1.all fun v => qs_sb n v.2.1)) (sx_an (T.2.2.2.1.all fun q => qs_sb n q.2.2.1) (mt_nd (T.2.2.2.1.map fun q => q.1)))) (sx_an (T.2.2.2.2.1.all fun w => sx_an (qs_sb n w.2.1.1) (qs_sb n w.2.2.1)) (T.2.2.2.2.2.all (qs_db n)))
theorem qs_cv_ok {n : Nat} {v : sx_V} (ag : qs_ag zs n ρ) (h0 : ρ 0 = 0) (h : qs_sb n v.2.1 = true) : sx_cv1 ρ v = qs_cv zs v := by
  unfold sx_cv1 qs_cv
  rw [qs_val ag h0 h]
  rfl
theorem qs_cl_ok {n : Nat} {lv : sx_L} (ag : qs_ag zs n ρ) (h0 : ρ 0 = 0) (h : (lv.all fun q => qs_sb n q.2.2.1) = true) : sx_cl1 ρ lv = qs_cl zs lv :=
  List.map_congr_left fun q hq => by rw [qs_cv_ok ag h0 (List.all_eq_true.mp h q hq)]
theorem qs_cs_ok {n : Nat} {s : List sx_V} (ag : qs_ag zs n ρ) (h0 : ρ 0 = 0) (h : (s.all fun v => qs_sb n v.2.1) = true) : sx_cs1 ρ s = qs_cs zs s :=
  List.map_congr_left fun v hv => qs_cv_ok ag h0 (List.all_eq_true.mp h v hv)
theorem qs_up_ok {n : Nat} (ag : qs_ag zs n ρ) (h0 : ρ 0 = 0) : ∀ {ws : List og_W}, (ws.all fun w => sx_an (qs_sb n w.2.1.1) (qs_sb n w.2.2.1)) = true → og_up ρ ws M = qs_up zs ws M := by
  intro ws
  induction ws with
  | nil => intro _; rfl
  | cons w ws ih =>
    intro h
    have h := List.all_eq_true.mp h
    obtain ⟨h1, h2⟩ := sx_an_iff.mp (h w List.mem_cons_self)
    show sx_up (og_up ρ ws M) w.1 (sx_val ρ w.2.1).toNat (sx_val ρ w.2.2) = sx_up (qs_up zs ws M) w.1 (qs_a zs w.2.1).toNat (qs_a zs w.2.2)
    rw [qs_val ag h0 h1, qs_val ag h0 h2, ih (List.all_eq_true.mpr fun u hu => h u (List.mem_cons_of_mem _ hu))]
theorem qs_ds_ok {n : Nat} {q : og_D} (ag : qs_ag zs n ρ) (h0 : ρ 0 = 0) (h : qs_db n q = true) (hd : og_ds ρ M q) : qs_ds zs M q := by
  obtain ⟨k, a, b, lo, hi⟩ := q
  obtain ⟨h1, h3⟩ := sx_an_iff.mp h
  obtain ⟨h1, h2⟩ := sx_an_iff.mp h1
  have h1 : qs_sb n a.1 = true := h1
  have h2 : qs_sb n b.1 = true := h2
  have e1 := qs_sy ag h0 h1
  have e2 := qs_sy ag h0 h2
  have v1 := qs_val ag h0 h1
  have v2 := qs_val ag h0 h2
  match k, h3, hd with
  | 0, _, hd =>
    have hd : lo ≤ sx_val ρ a ∧ sx_val ρ a ≤ hi := hd
    rw [v1] at hd
    exact hd
  | 1, _, hd =>
    have hd : ρ a.1 < ρ b.1 + lo := hd
    rw [e1, e2] at hd
    show qs_e zs a.1 < qs_add (qs_e zs b.1) lo
    rw [qs_add_eq]
    exact hd
  | 2, _, hd =>
    have hd : ¬ ρ a.1 < ρ b.1 + lo := hd
    rw [e1, e2] at hd
    show ¬ qs_e zs a.1 < qs_add (qs_e zs b.1) lo
    rw [qs_add_eq]
    exact hd
  | 3, _, hd =>
    have hd : ρ a.1 = ρ b.1 + lo := hd
    rw [e1, e2] at hd
    show qs_e zs a.1 = qs_add (qs_e zs b.1) lo
    rw [qs_add_eq]
    exact hd
  | 4, _, hd =>
    have hd : ¬ ρ a.1 = ρ b.1 + lo := hd
    rw [e1, e2] at hd
    show ¬ qs_e zs a.1 = qs_add (qs_e zs b.1) lo
    rw [qs_add_eq]
    exact hd
  | 5, h3, hd =>
    have hd : ρ hi.toNat = sx_mf lo.toNat (sx_val ρ a) (sx_val ρ b) := hd
    have h3 : qs_sb n hi.toNat = true := h3
    rw [v1, v2, qs_sy ag h0 h3] at hd
    exact hd
  | 6, _, hd =>
    have hd : M lo.toNat (sx_val ρ a).toNat = sx_val ρ b := hd
    rw [v1, v2] at hd
    exact hd
  | 7, _, hd =>
    have hd : ρ a.1 ≠ lo := hd
    rw [e1] at hd
    exact hd
  | k + 8, _, hd =>
    have hd : M lo.toNat (sx_val ρ a).toNat = sx_val ρ b := hd
    rw [v1, v2] at hd
    exact hd
theorem qs_cc_ok {n : Nat} (ag : qs_ag zs n ρ) (h0 : ρ 0 = 0) : ∀ {l : List og_D}, l.all (qs_db n) = true → og_cs ρ M l → qs_cc zs M l := by
  intro l
  induction l with
  | nil => intro _ _; trivial
  | cons q l ih =>
    intro h hc
    have h := List.all_eq_true.mp h
    exact ⟨qs_ds_ok ag h0 (h q List.mem_cons_self) hc.1, ih (List.all_eq_true.mpr fun w hw => h w (List.mem_cons_of_mem _ hw)) hc.2⟩
/-- what is owed for a way -/
def qs_K1 (Q : Option Value → (Nat → Nat → Int) → Prop) (L : Nat) (xs : Nat → Int32) (j d : Nat) (M : Nat → Nat → Int) (T : og_T) (zs : List Int) : Prop := ∀ M', sx_mok cl_ly M' → qs_cc zs M' T.2.2.2.2.2 → (∀ a, a < 128 → M' a = qs_up zs T.2.2.2.2.1 M a) → match T.1 with
  | some p => rz_fin Q L xs j d p (qs_cl zs T.2.2.2.1) (qs_cs zs T.2.2.1) M'
  | none => Q (T.2.1.map (qs_cv zs)) M'
def qs_all : Nat → (List Int → Prop) → Prop
  | 0, P => P []
  | n + 1, P => ∀ u, qs_all n fun us => P (u :: us)
theorem qs_all_use : ∀ {n : Nat} {P : List Int → Prop}, qs_all n P → ∀ us : List Int, us.length = n → P us := by
  intro n
  induction n with
  | zero =>
    intro P h us hu
    rw [List.length_eq_zero_iff.mp hu]
    exact h
  | succ n ih =>
    intro P h us hu
    cases us with
    | nil => cases hu
    | cons u us => exact ih (P := fun us => P (u :: us)) (h u) us (Nat.succ.inj hu)
/-- of all ways; each with n numbers that came new -/
def qs_Ks (Q : Option Value → (Nat → Nat → Int) → Prop) (L : Nat) (xs : Nat → Int32) (j d n : Nat) (M : Nat → Nat → Int) (zs : List Int) : List og_T → Prop
  | [] => True
  | T :: r => qs_all n (fun us => qs_K1 Q L xs j d M T (zs ++ us)) ∧ qs_Ks Q L xs j d n M zs r
theorem qs_Ks_at {j d n : Nat} : ∀ {Ts : List og_T}, qs_Ks Q L xs j d n M zs Ts → ∀ T ∈ Ts, ∀ us : List Int, us.length = n → qs_K1 Q L xs j d M T (zs ++ us) := by
  intro Ts
  induction Ts with
  | nil => intro _ T hT; cases hT
  | cons T0 Ts ih =>
    intro h T hT us hu
    rcases List.mem_cons.mp hT with rfl | hT
    · exact qs_all_use (P := fun us => qs_K1 Q L xs j d M T (zs ++ us)) h.1 us hu
    · exact ih h.2 T hT us hu
noncomputable def qs_vk (t : sx_S) (v : sx_V) : Bool := sx_an (qs_sb t.1 v.2.1) (match v.1 with
  | 0 => sx_in (sx_iv t v.2) sx_r32
  | 1 => sx_in (sx_iv t v.2) sx_r64
  | _ => true)
noncomputable def qs_chk (stp : Nat → Bool) (l : List qs_I) (n : Nat) (Ts : List og_T) (fc f d j pc : Nat) (lv : sx_L) (s : List sx_V) : Bool := sx_an (sx_an (qs_gd l 9) (sx_an (lv.all fun q => qs_vk (qs_0 l) q.2) (s.all (qs_vk (qs_0 l))))) (sx_an (Ts.all (qs_tb ((qs_0 l).1 + n))) (gs_chk stp (fun o => Ts.any (og_chk (qs_0 l) o)) fc f d j pc lv s (qs_0 l)))
theorem qs_vk_ok {v : sx_V} (hs : sx_sat cl_ly (0, -100) xs L MM ρ M t) (h : qs_vk t v = true) : sx_ok ρ t.1 v := by
  obtain ⟨h1, h2⟩ := sx_an_iff.mp h
  have hi := sx_iv_ok hs v.2
  refine ⟨(qs_sb_ok h1 hs.1).1, fun e => ?_, fun e => ?_⟩
  · rw [e] at h2
    have := sx_in_iff.mp (show sx_in (sx_iv t v.2) sx_r32 = true from h2)
    exact ⟨Int.le_trans this.1 hi.1, Int.le_trans hi.2 this.2⟩
  · rw [e] at h2
    have := sx_in_iff.mp (show sx_in (sx_iv t v.2) sx_r64 = true from h2)
    exact ⟨Int.le_trans this.1 hi.1, Int.le_trans hi.2 this.2⟩
theorem qs_all_sb {α : Type} {f : α → Bool} {g : α → Bool} {l : List α} (h : l.all f = true) (k : ∀ a, f a = true → g a = true) : l.all g = true := List.all_eq_true.mpr fun a ha => k a (List.all_eq_true.mp h a ha)
theorem qs_use {stp : Nat → Bool} {l : List qs_I} {n : Nat} {Ts : List og_T} {fc f d d' j pc : Nat} {lv : sx_L} {s : List sx_V} {LV : sm_V} {S : List Value} (h : qs_chk stp l n Ts fc f d j pc lv s = true) (hL : L < 2 ^ 31) (hm : sx_mok cl_ly M) (ok : qs_ok M zs l 0) (hd : d ≤ d') (eL : qs_cl zs lv = LV) (eS : qs_cs zs s = S) (K : qs_Ks Q L xs j d n M zs Ts) : rz_fin Q L xs j d' pc LV S M := by
  obtain ⟨h1, h2⟩ := sx_an_iff.mp h
  obtain ⟨h1, h3⟩ := sx_an_iff.mp h1
  obtain ⟨h3, h4⟩ := sx_an_iff.mp h3
  obtain ⟨h2, h5⟩ := sx_an_iff.mp h2
  obtain ⟨ρ, sat, n1, ag⟩ := qs_sat (xs := xs) hL hm h1 ok
  have h0 := sat.2.1
  have okl : sx_okl ρ (qs_0 l).1 lv := fun q hq => qs_vk_ok sat (List.all_eq_true.mp h3 q hq)
  have oks : sx_oks ρ (qs_0 l).1 s := fun v hv => qs_vk_ok sat (List.all_eq_true.mp h4 v hv)
  rw [n1] at h2
  have el : sx_cl1 ρ lv = LV := by
    rw [← eL]
    refine qs_cl_ok ag h0 (qs_all_sb h3 fun q hq => ?_)
    have := (sx_an_iff.mp hq).1
    rw [n1] at this
    exact this
  have es : sx_cs1 ρ s = S := by
    rw [← eS]
    refine qs_cs_ok ag h0 (qs_all_sb h4 fun q hq => ?_)
    have := (sx_an_iff.mp hq).1
    rw [n1] at this
    exact this
  refine og_use h5 (List.all_eq_true.mpr fun T hT => ?_) sat okl oks hd el es (fun T hT ρ' M' x h0' hm' hc hM => ?_)
  · exact (sx_an_iff.mp (sx_an_iff.mp (sx_an_iff.mp (List.all_eq_true.mp h2 T hT)).1).2).2
  · obtain ⟨t1, t2⟩ := sx_an_iff.mp (List.all_eq_true.mp h2 T hT)
    obtain ⟨t1, t3⟩ := sx_an_iff.mp t1
    obtain ⟨t1, t4⟩ := sx_an_iff.mp t1
    obtain ⟨t3, -⟩ := sx_an_iff.mp t3
    obtain ⟨t2, t5⟩ := sx_an_iff.mp t2
    rw [n1] at x
    have ln : ((List.range n).map fun i => ρ' (9 + zs.length + i)).length = n := by rw [List.length_map, List.length_range]
    have gn : ∀ (m : Nat) (g : Nat → Int) (k : Nat), k < m → qs_n ((List.range m).map g) k = g k := by
      intro m
      induction m with
      | zero => intro g k h; exact absurd h (Nat.not_lt_zero _)
      | succ m ih =>
        intro g k h
        rw [List.range_succ_eq_map, List.map_cons, List.map_map]
        cases k with
        | zero => rfl
        | succ k => exact ih (g ∘ Nat.succ) k (Nat.lt_of_succ_lt_succ h)
    have qa : ∀ (l1 l2 : List Int) (k : Nat), qs_n (l1 ++ l2) (l1.length + k) = qs_n l2 k := by
      intro l1
      induction l1 with
      | nil => intro l2 k; rw [List.length_nil, Nat.zero_add]; rfl
      | cons z l1 ih =>
        intro l2 k
        rw [List.length_cons, show l1.length + 1 + k = (l1.length + k) + 1 by omega]
        exact ih l2 k
    have ag' : qs_ag (zs ++ (List.range n).map fun i => ρ' (9 + zs.length + i)) (9 + zs.length + n) ρ' := fun s g1 g2 => by
      rw [qs_e_at g1]
      by_cases c : s < 9 + zs.length
      · rw [qs_n_app (by omega), x s c, ag s g1 c, qs_e_at g1]
      · obtain ⟨i, hi⟩ : ∃ i, s = 9 + zs.length + i := ⟨s - (9 + zs.length), by omega⟩
        rw [hi, show 9 + zs.length + i - 9 = zs.length + i by omega, qa, gn n _ i (by omega)]
    have k1 := qs_Ks_at K T hT _ ln M' hm' (qs_cc_ok ag' h0' t5 hc) (fun a ha => by rw [hM a ha, qs_up_ok ag' h0' t2])
    unfold og_K
    cases e : T.1 with
    | some p =>
      rw [e] at k1
      show rz_fin Q L xs j d p (sx_cl1 ρ' T.2.2.2.1) (sx_cs1 ρ' T.2.2.1) M'
      rw [qs_cl_ok ag' h0' t3, qs_cs_ok ag' h0' t4]
      exact k1
    | none =>
      rw [e] at k1
      show Q (T.2.1.map (sx_cv1 ρ')) M'
      cases e2 : T.2.1 with
      | none =>
        rw [e2] at k1
        exact k1
      | some v =>
        rw [e2] at k1 t1
        have k1 : Q (some (qs_cv _ v)) M' := k1
        show Q (some (sx_cv1 ρ' v)) M'
        rw [qs_cv_ok ag' h0' t1]
        exact k1
end
