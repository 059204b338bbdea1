/-! A text, line by line. -/
section
variable {T : Nat → Int} {N a b c f : Nat} {A B : List Int} {W W1 W2 : Nat → List Int}
/-- a line, or more: W tells what is laid, by how much lies already -/
def yk_L (T : Nat → Int) (a b : Nat) (W : Nat → List Int) : Prop := a ≤ b ∧ ∀ (D : List Int) (n : Int), ∃ D' Q g n' j', yk_run T a (b - a) (D, [], 0, 0, 0, n, -1, true) = some (D', Q, 0, 0, g, n', j', false) ∧ (∀ q ∈ Q, 1 ≤ yk_rank q) ∧ yk_el D' Q j' = D ++ W D.length ∧ yk_stop 1 g Q (T b) ∧ (T b = 63 → j' ≠ -1)
def yk_M (T : Nat → Int) (N a f : Nat) : Prop := a ≤ f ∧ f ≤ N ∧ ∀ (D : List Int) (n : Int), ∃ D' P' o' b' g' n' j' due, yk_run T a (f - a) (D, [], 0, 0, 0, n, -1, true) = some (D', P', o', b', g', n', j', due) ∧ yk_go (D', P', o', b', g', n', j', due) (T f) = none ∧ (f = N → due = true ∨ 0 < b')
def yk_w1 (A : List Int) (_ : Nat) : List Int := A ++ [-59]
def yk_w2 (A B : List Int) (m : Nat) : List Int := A ++ [-63, ((m + A.length + 2 + B.length + 1 : Nat) : Int)] ++ B ++ [-59]
def yk_w3 (W1 W2 : Nat → List Int) (m : Nat) : List Int := W1 m ++ W2 (m + (W1 m).length)
theorem yk_all {D Q : List Int} (h : ∀ q ∈ Q, 1 ≤ yk_rank q) : yk_sd 1 D Q = D ++ Q.map yk_ng ∧ yk_sp 1 Q = [] := by
  have := yk_settle (D := D) (r := 1) (k := 1) h (yk_top_nil 1) (Int.le_refl 1)
  rw [List.append_nil] at this
  exact this
theorem yk_E_L (h : yk_E T 1 1 0 a b A) (hb : T b ≠ 63) : yk_L T a b (yk_w1 A) := by
  refine ⟨h.1, fun D n => ?_⟩
  obtain ⟨D', Q, g, n', h1, h2, h3, h4⟩ := h.2 D [] 0 n (-1) (yk_top_nil 1) (Int.le_refl 0)
  rw [List.append_nil] at h1
  refine ⟨D', Q, g, n', -1, h1, h2, ?_, h4, fun e => absurd e hb⟩
  unfold yk_el
  rw [if_pos rfl, (yk_all h2).1, h3, List.append_assoc]
  rfl
/-- behind the first E -/
theorem yk_go_q {D Q : List Int} {g n : Int} (hQ : ∀ q ∈ Q, 1 ≤ yk_rank q) : yk_go (D, Q, 0, 0, g, n, -1, false) 63 = some (D ++ Q.map yk_ng ++ [-63] ++ [0], [], 0, 0, 0, n, ((D ++ Q.map yk_ng).length : Int) + 1, true) := by
  show yk_cond D Q 0 0 n (-1) = _
  unfold yk_cond
  obtain ⟨s1, s2⟩ := yk_all (D := D) hQ
  rw [if_neg (by omega), s1, s2]
theorem yk_set_mid {X Y : List Int} {x y : Int} : (X ++ [x] ++ Y).set X.length y = X ++ [y] ++ Y := by
  rw [List.append_assoc, List.append_assoc, List.set_append_right _ _ (Nat.le_refl _), Nat.sub_self]
  rfl
theorem yk_E_L2 (h : yk_E T 1 1 0 a b A) (hb : T b = 63) (h2 : yk_E T 1 1 0 (b + 1) c B) : yk_L T a c (yk_w2 A B) := by
  have hbc := h2.1
  refine ⟨by have := h.1; omega, fun D n => ?_⟩
  obtain ⟨D1, Q1, g1, n1, a1, a2, a3, -⟩ := h.2 D [] 0 n (-1) (yk_top_nil 1) (Int.le_refl 0)
  rw [List.append_nil] at a1
  have e0 := yk_go_q (D := D1) (g := g1) (n := n1) a2
  rw [a3] at e0
  have e := (congrArg (yk_go (D1, Q1, 0, 0, g1, n1, -1, false)) hb).trans e0
  obtain ⟨D2, Q2, g2, n2, b1, b2, b3, b4⟩ := h2.2 (D ++ A ++ [-63] ++ [0]) [] 0 n1 (((D ++ A).length : Int) + 1) (yk_top_nil 1) (Int.le_refl 0)
  rw [List.append_nil] at b1
  refine ⟨D2, Q2, g2, n2, _, yk_run_cat h.1 (by omega) a1 (yk_run_cat1 (by omega) e b1), b2, ?_, b4, fun _ => by omega⟩
  unfold yk_el
  rw [if_neg (by omega), (yk_all b2).1, b3, show (((D ++ A).length : Int) + 1).toNat = (D ++ A ++ [-63]).length by rw [List.length_append (as := D ++ A)]; show _ = (D ++ A).length + 1; omega]
  rw [show D ++ A ++ [-63] ++ [0] ++ B ++ [-59] = (D ++ A ++ [-63]) ++ [0] ++ (B ++ [-59]) by simp, yk_set_mid]
  unfold yk_w2
  have el : (((D ++ A ++ [-63] ++ [0] ++ B).length : Int) + 1) = ((D.length + A.length + 2 + B.length + 1 : Nat) : Int) := by
    simp only [List.length_append, List.length_cons, List.length_nil]
    omega
  rw [el]
  simp
theorem yk_el_len {D P : List Int} {j : Int} : (yk_el D P j).length = (yk_sd 1 D P).length + 1 := by
  unfold yk_el
  split
  · rw [List.length_append]; rfl
  · rw [List.length_set, List.length_append]; rfl
theorem yk_go_n {D Q W : List Int} {g n j : Int} (hQ : ∀ q ∈ Q, 1 ≤ yk_rank q) (he : yk_el D Q j = W) : yk_go (D, Q, 0, 0, g, n, j, false) 59 = some (W, [], 0, 0, 0, n, -1, true) := by
  show yk_next D Q 0 0 n j = _
  unfold yk_next
  rw [if_neg (by omega), he, (yk_all (D := D) hQ).2]
theorem yk_L_cat (h1 : yk_L T a b W1) (hb : T b = 59) (h2 : yk_L T (b + 1) c W2) : yk_L T a c (yk_w3 W1 W2) := by
  have hbc := h2.1
  refine ⟨by have := h1.1; omega, fun D n => ?_⟩
  obtain ⟨D1, Q1, g1, n1, j1, a1, a2, a3, -, -⟩ := h1.2 D n
  have e := yk_go_n (g := g1) (n := n1) a2 a3
  rw [← hb] at e
  obtain ⟨D2, Q2, g2, n2, j2, b1, b2, b3, b4, b5⟩ := h2.2 (D ++ W1 D.length) n1
  refine ⟨D2, Q2, g2, n2, j2, yk_run_cat h1.1 (by omega) a1 (yk_run_cat1 (by omega) e b1), b2, ?_, b4, b5⟩
  rw [b3, List.length_append, List.append_assoc]
  rfl
theorem yk_F_M (h : yk_F T N 1 0 a f) : yk_M T N a f := ⟨h.1, h.2.1, fun D n => h.2.2 D [] 0 n (-1) (yk_top_nil 1) (Int.le_refl 0)⟩
theorem yk_F_M2 (h : yk_E T 1 1 0 a b A) (hb : T b = 63) (h2 : yk_F T N 1 0 (b + 1) f) : yk_M T N a f := by
  obtain ⟨f1, f2, f3⟩ := h2
  refine ⟨by have := h.1; omega, f2, fun D n => ?_⟩
  obtain ⟨D1, Q1, g1, n1, a1, a2, a3, -⟩ := h.2 D [] 0 n (-1) (yk_top_nil 1) (Int.le_refl 0)
  rw [List.append_nil] at a1
  have e0 := yk_go_q (D := D1) (g := g1) (n := n1) a2
  rw [a3] at e0
  have e := (congrArg (yk_go (D1, Q1, 0, 0, g1, n1, -1, false)) hb).trans e0
  obtain ⟨D', P', o', b', g', n', j', due, w1, w2⟩ := f3 (D ++ A ++ [-63] ++ [0]) [] 0 n1 (((D ++ A).length : Int) + 1) (yk_top_nil 1) (Int.le_refl 0)
  exact ⟨D', P', o', b', g', n', j', due, yk_run_cat h.1 (by omega) a1 (yk_run_cat1 (by omega) e w1), w2⟩
theorem yk_M_cat (h1 : yk_L T a b W1) (hb : T b = 59) (h2 : yk_M T N (b + 1) f) : yk_M T N a f := by
  obtain ⟨f1, f2, f3⟩ := h2
  refine ⟨by have := h1.1; omega, f2, fun D n => ?_⟩
  obtain ⟨D1, Q1, g1, n1, j1, a1, a2, a3, -, -⟩ := h1.2 D n
  have e := yk_go_n (g := g1) (n := n1) a2 a3
  rw [← hb] at e
  obtain ⟨D', P', o', b', g', n', j', due, w1, w2⟩ := f3 (D ++ W1 D.length) n1
  exact ⟨D', P', o', b', g', n', j', due, yk_run_cat h1.1 (by omega) a1 (yk_run_cat1 (by omega) e w1), w2⟩
/-- a sign that no line ends with -/
theorem yk_L_M (h : yk_L T a b W) (hN : b < N) (hb : T b ≠ 59) : yk_M T N a b := by
  refine ⟨h.1, by omega, fun D n => ?_⟩
  obtain ⟨D1, Q1, g1, n1, j1, a1, a2, a3, a4, a5⟩ := h.2 D n
  refine ⟨D1, Q1, 0, 0, g1, n1, j1, false, a1, ?_, fun h9 => by omega⟩
  have := yk_none (P := []) (D := D1) (o := 0) (br := 0) (n := n1) (j := j1) a4 (fun _ => rfl) (fun e => Or.inr (a5 e)) (fun e => absurd e hb)
  rw [List.append_nil] at this
  exact this
end
