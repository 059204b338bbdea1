/-! Seasons by draws: what is drawn, who burns, day by day. -/
section
variable {n v c g h d nc H k m : Nat} {od od' : Nat → Int} {V z : Int}
def lcg (z : Int) : Int := sx_mf 0 (sx_mf 2 z 1103515245) 12345
def drw (z : Int) : Int := sx_mf 7 (sx_mf 10 z 8) 12
/-- who burns: bits, and what was drawn last -/
def dfr (n : Nat) (od : Nat → Int) : Nat → Nat → Nat × Int → Nat × Int
  | 0, _, σ => σ
  | m + 1, h, σ => if n / 2 ^ h % 2 = 1 then dfr n od m (h + 1) (if drw (lcg σ.2) < od h then σ.1 + 2 ^ h else σ.1, lcg σ.2) else dfr n od m (h + 1) σ
/-- who burns and isn't visited -/
def dfb (n : Nat) (od : Nat → Int) (V : Int) : Nat → Nat → Nat × Int → Nat × Int
  | 0, _, σ => σ
  | m + 1, h, σ => if n / 2 ^ h % 2 = 1 then dfb n od V m (h + 1) (if drw (lcg σ.2) < od h ∧ ¬ (h : Int) = V then σ.1 + 2 ^ h else σ.1, lcg σ.2) else dfb n od V m (h + 1) σ
def rmv (V : Int) (b : Nat) : Nat := if V < 0 then b else b - b / 2 ^ V.toNat % 2 * 2 ^ V.toNat
theorem pw_s (h : Nat) : 2 ^ (h + 1) = 2 ^ h + 2 ^ h := by rw [Nat.pow_succ]; omega
theorem rmv_lt {b : Nat} (hb : b < 2 ^ h) (q : (h : Int) = V) : rmv V b = b ∧ rmv V (b + 2 ^ h) = b := by
  subst q
  unfold rmv
  rw [if_neg (by omega), if_neg (by omega), Int.toNat_natCast, ft_hi hb (Nat.le_refl h), ft_at hb]
  omega
theorem bit_le {b : Nat} (k : Nat) : b / 2 ^ k % 2 * 2 ^ k ≤ b := by
  have h1 : b / 2 ^ k % 2 ≤ b / 2 ^ k := Nat.mod_le _ _
  have h2 : b / 2 ^ k % 2 * 2 ^ k ≤ b / 2 ^ k * 2 ^ k := Nat.mul_le_mul_right _ h1
  have h3 : b / 2 ^ k * 2 ^ k ≤ b := Nat.div_mul_le_self b (2 ^ k)
  omega
theorem rmv_ne {b : Nat} (hb : b < 2 ^ h) (q : ¬ (h : Int) = V) : rmv V (b + 2 ^ h) = rmv V b + 2 ^ h := by
  unfold rmv
  by_cases v0 : V < 0
  · rw [if_pos v0, if_pos v0]
  · rw [if_neg v0, if_neg v0]
    obtain ⟨k, rfl⟩ := Int.eq_ofNat_of_zero_le (show 0 ≤ V by omega)
    rw [Int.toNat_natCast]
    by_cases hk : k < h
    · rw [ft_lo hk]
      have := bit_le (b := b) k
      omega
    · have e1 : b < 2 ^ k := Nat.lt_of_lt_of_le hb (Nat.pow_le_pow_right (by decide) (by omega))
      have e2 : b + 2 ^ h < 2 ^ (h + 1) := by rw [pw_s]; omega
      rw [ft_hi e1 (Nat.le_refl k), ft_hi e2 (show h + 1 ≤ k by omega)]
      omega
theorem dfr_lt : ∀ (m h : Nat) (σ : Nat × Int), σ.1 < 2 ^ h → (dfr n od m h σ).1 < 2 ^ (h + m) := by
  intro m
  induction m with
  | zero => intro h σ hs; exact hs
  | succ m ih =>
    intro h σ hs
    have e := pw_s h
    rw [show h + (m + 1) = h + 1 + m by omega]
    show (if n / 2 ^ h % 2 = 1 then dfr n od m (h + 1) (if drw (lcg σ.2) < od h then σ.1 + 2 ^ h else σ.1, lcg σ.2) else dfr n od m (h + 1) σ).1 < _
    split
    · refine ih (h + 1) _ ?_
      show (if drw (lcg σ.2) < od h then σ.1 + 2 ^ h else σ.1) < 2 ^ (h + 1)
      split <;> omega
    · exact ih (h + 1) σ (by omega)
theorem dfb_rm : ∀ (m h : Nat) (σ : Nat × Int), σ.1 < 2 ^ h → dfb n od V m h (rmv V σ.1, σ.2) = (rmv V (dfr n od m h σ).1, (dfr n od m h σ).2) := by
  intro m
  induction m with
  | zero => intro h σ _; rfl
  | succ m ih =>
    intro h σ hs
    have e := pw_s h
    show (if n / 2 ^ h % 2 = 1 then dfb n od V m (h + 1) (if drw (lcg σ.2) < od h ∧ ¬ (h : Int) = V then rmv V σ.1 + 2 ^ h else rmv V σ.1, lcg σ.2) else dfb n od V m (h + 1) (rmv V σ.1, σ.2)) = (rmv V (if n / 2 ^ h % 2 = 1 then dfr n od m (h + 1) (if drw (lcg σ.2) < od h then σ.1 + 2 ^ h else σ.1, lcg σ.2) else dfr n od m (h + 1) σ).1, (if n / 2 ^ h % 2 = 1 then dfr n od m (h + 1) (if drw (lcg σ.2) < od h then σ.1 + 2 ^ h else σ.1, lcg σ.2) else dfr n od m (h + 1) σ).2)
    by_cases q : n / 2 ^ h % 2 = 1
    · rw [if_pos q, if_pos q]
      generalize lcg σ.2 = L
      have g := ih (h + 1) (if drw (L) < od h then σ.1 + 2 ^ h else σ.1, L) (by
        show (if drw (L) < od h then σ.1 + 2 ^ h else σ.1) < 2 ^ (h + 1)
        split <;> omega)
      rw [← g]
      refine congrArg (dfb n od V m (h + 1)) ?_
      refine congrArg (fun k => (k, L)) (show (if drw (L) < od h ∧ ¬ (h : Int) = V then rmv V σ.1 + 2 ^ h else rmv V σ.1) = rmv V (if drw (L) < od h then σ.1 + 2 ^ h else σ.1) from ?_)
      by_cases w : drw (L) < od h
      · rw [if_pos w]
        by_cases x : (h : Int) = V
        · rw [if_neg (fun y => y.2 x), (rmv_lt hs x).1, (rmv_lt hs x).2]
        · rw [if_pos ⟨w, x⟩, rmv_ne hs x]
      · rw [if_neg w, if_neg (fun y => w y.1)]
    · rw [if_neg q, if_neg q]
      exact ih (h + 1) σ (by omega)
theorem dfb_z : dfb n od V m 0 (0, z) = (rmv V (dfr n od m 0 (0, z)).1, (dfr n od m 0 (0, z)).2) := by
  have g := dfb_rm (n := n) (od := od) (V := V) m 0 (0, z) (show (0 : Nat) < 2 ^ 0 by decide)
  have e : rmv V 0 = 0 := by
    unfold rmv
    split
    · rfl
    · exact Nat.zero_sub _
  rw [show ((0, z) : Nat × Int).1 = 0 from rfl, e] at g
  exact g
theorem dfb_eq : ∀ (m h : Nat) (σ : Nat × Int), (∀ j, h ≤ j → j < h + m → od' j = od j) → dfb n od' V m h σ = dfb n od V m h σ := by
  intro m
  induction m with
  | zero => intro h σ _; rfl
  | succ m ih =>
    intro h σ q
    show (if n / 2 ^ h % 2 = 1 then dfb n od' V m (h + 1) (if drw (lcg σ.2) < od' h ∧ ¬ (h : Int) = V then σ.1 + 2 ^ h else σ.1, lcg σ.2) else dfb n od' V m (h + 1) σ) = if n / 2 ^ h % 2 = 1 then dfb n od V m (h + 1) (if drw (lcg σ.2) < od h ∧ ¬ (h : Int) = V then σ.1 + 2 ^ h else σ.1, lcg σ.2) else dfb n od V m (h + 1) σ
    rw [q h (Nat.le_refl h) (by omega), ih (h + 1) _ (fun j a b => q j (by omega) (by omega)), ih (h + 1) σ (fun j a b => q j (by omega) (by omega))]
/-- b is part of n -/
def sbs (b n : Nat) : Prop := ∀ g, b / 2 ^ g % 2 ≤ n / 2 ^ g % 2
theorem dfb_sub : ∀ (m h : Nat) (σ : Nat × Int), σ.1 < 2 ^ h → sbs σ.1 n → sbs (dfb n od V m h σ).1 n ∧ (dfb n od V m h σ).1 < 2 ^ (h + m) := by
  intro m
  induction m with
  | zero => intro h σ a b; exact ⟨b, a⟩
  | succ m ih =>
    intro h σ a b
    have e := pw_s h
    rw [show h + (m + 1) = h + 1 + m by omega]
    show sbs (if n / 2 ^ h % 2 = 1 then dfb n od V m (h + 1) (if drw (lcg σ.2) < od h ∧ ¬ (h : Int) = V then σ.1 + 2 ^ h else σ.1, lcg σ.2) else dfb n od V m (h + 1) σ).1 n ∧ (if n / 2 ^ h % 2 = 1 then dfb n od V m (h + 1) (if drw (lcg σ.2) < od h ∧ ¬ (h : Int) = V then σ.1 + 2 ^ h else σ.1, lcg σ.2) else dfb n od V m (h + 1) σ).1 < _
    by_cases q : n / 2 ^ h % 2 = 1
    · rw [if_pos q]
      refine ih (h + 1) _ ?_ ?_
      · show (if drw (lcg σ.2) < od h ∧ ¬ (h : Int) = V then σ.1 + 2 ^ h else σ.1) < 2 ^ (h + 1)
        split <;> omega
      · show sbs (if drw (lcg σ.2) < od h ∧ ¬ (h : Int) = V then σ.1 + 2 ^ h else σ.1) n
        split
        · intro g
          by_cases x : g < h
          · rw [ft_lo x]
            exact b g
          · by_cases y : g = h
            · rw [y, ft_at a, q]
              exact Nat.le_refl 1
            · rw [ft_hi (show σ.1 + 2 ^ h < 2 ^ (h + 1) by omega) (by omega)]
              exact Nat.zero_le _
        · exact b
    · rw [if_neg q]
      exact ih (h + 1) σ (by omega) b
-- tables
theorem sb_T : ((List.range 64).all fun n => (List.range 64).all fun b => bif (List.range 6).all (fun g => Nat.ble (b / 2 ^ g % 2) (n / 2 ^ g % 2)) then sx_an (sx_eq (sx_mf 3 (n : Int) (sx_mf 5 (b : Int) (-1))) ((n - b : Nat) : Int)) (sx_an (Nat.ble b n) ((List.range 6).all fun g => Nat.beq ((n - b) / 2 ^ g % 2 + b / 2 ^ g % 2) (n / 2 ^ g % 2))) else true) = true := by decide +kernel
theorem sb_ok {b n : Nat} (hn : n < 64) (hb : b < 64) (h : sbs b n) : sx_mf 3 (n : Int) (sx_mf 5 (b : Int) (-1)) = ((n - b : Nat) : Int) ∧ b ≤ n ∧ ∀ g, (n - b) / 2 ^ g % 2 + b / 2 ^ g % 2 = n / 2 ^ g % 2 := by
  have t := List.all_eq_true.mp (List.all_eq_true.mp sb_T n (List.mem_range.mpr hn)) b (List.mem_range.mpr hb)
  have c : ((List.range 6).all fun g => Nat.ble (b / 2 ^ g % 2) (n / 2 ^ g % 2)) = true := List.all_eq_true.mpr fun g _ => Nat.ble_eq_true_of_le (h g)
  rw [c] at t
  obtain ⟨t1, t2⟩ := sx_an_iff.mp (show sx_an (sx_eq (sx_mf 3 (n : Int) (sx_mf 5 (b : Int) (-1))) ((n - b : Nat) : Int)) (sx_an (Nat.ble b n) ((List.range 6).all fun g => Nat.beq ((n - b) / 2 ^ g % 2 + b / 2 ^ g % 2) (n / 2 ^ g % 2))) = true from t)
  obtain ⟨t2, t3⟩ := sx_an_iff.mp t2
  have le := Nat.le_of_ble_eq_true t2
  refine ⟨sx_eq_iff.mp t1, le, fun g => ?_⟩
  by_cases q : g < 6
  · exact sx_nbeq.mp (List.all_eq_true.mp t3 g (List.mem_range.mpr q))
  · rw [ft_hi (show n - b < 2 ^ 6 by omega) (by omega), ft_hi (show b < 2 ^ 6 by omega) (by omega), ft_hi (show n < 2 ^ 6 by omega) (by omega)]
theorem sb_R : ((List.range 64).all fun b => (List.range 6).all fun k => sx_eq (sx_mf 3 (b : Int) (sx_mf 5 (sx_mf 8 1 (k : Int)) (-1))) ((b - b / 2 ^ k % 2 * 2 ^ k : Nat) : Int)) = true := by decide +kernel
theorem sb_r {b k : Nat} (hb : b < 64) (hk : k < 6) : sx_mf 3 (b : Int) (sx_mf 5 (sx_mf 8 1 (k : Int)) (-1)) = ((b - b / 2 ^ k % 2 * 2 ^ k : Nat) : Int) := sx_eq_iff.mp (List.all_eq_true.mp (List.all_eq_true.mp sb_R b (List.mem_range.mpr hb)) k (List.mem_range.mpr hk))
theorem pcn_add {x y w : Nat} : ∀ k, (∀ g, g < k → x / 2 ^ g % 2 + y / 2 ^ g % 2 = w / 2 ^ g % 2) → pcn x k + pcn y k = pcn w k := by
  intro k
  induction k with
  | zero => intro _; rfl
  | succ k ih =>
    intro h
    have := ih (fun g hg => h g (by omega))
    have := h k (Nat.lt_succ_self k)
    show pcn x k + x / 2 ^ k % 2 + (pcn y k + y / 2 ^ k % 2) = pcn w k + w / 2 ^ k % 2
    omega
theorem pcn_1 : ((List.range 10).all fun e => Nat.beq (pcn (2 ^ e) 10) 1) = true := by decide +kernel
theorem pcn_s {e c : Nat} (he : e < 10) (hc : c < 2 ^ e) : pcn (c + 2 ^ e) 10 = pcn c 10 + 1 := by
  have one : ∀ g, (2 ^ e) / 2 ^ g % 2 = if g = e then 1 else 0 := fun g => by
    have z := Nat.zero_add (2 ^ e)
    by_cases q : g = e
    · rw [if_pos q, q]
      have := ft_at (n := 0) (k := e) (Nat.pow_pos (by decide))
      rw [z] at this
      exact this
    · rw [if_neg q]
      by_cases w : g < e
      · have := ft_lo (n := 0) w
        rw [z, Nat.zero_div] at this
        exact this
      · exact ft_hi (show 2 ^ e < 2 ^ (e + 1) by rw [pw_s]; have : 0 < 2 ^ e := Nat.pow_pos (by decide); omega) (by omega)
  rw [← pcn_add (x := c) (y := 2 ^ e) (w := c + 2 ^ e) 10 (fun g _ => by
    rw [one g]
    by_cases q : g = e
    · rw [if_pos q, q, ft_at hc, ft_hi hc (Nat.le_refl e)]
    · rw [if_neg q]
      by_cases w : g < e
      · rw [ft_lo w]
        rfl
      · rw [ft_hi hc (by omega), ft_hi (show c + 2 ^ e < 2 ^ (e + 1) by rw [pw_s]; omega) (by omega)]), sx_nbeq.mp (List.all_eq_true.mp pcn_1 e (List.mem_range.mpr he))]
theorem pcn_le {x : Nat} : ∀ k, pcn x k ≤ k := by
  intro k
  induction k with
  | zero => exact Nat.le_refl 0
  | succ k ih =>
    have := Nat.mod_lt (x / 2 ^ k) (show 0 < 2 by decide)
    show pcn x k + x / 2 ^ k % 2 ≤ k + 1
    omega
end
/-! Days of a season. -/
section
variable {nc H d n h k m : Nat} {D D' W W' : Nat → Int} {lk lk' : Nat → Nat → Int → Int} {od od' : Nat → Nat → Int} {T T' : Int × (Nat → Int)} {z : Int}
/-- after k days from day d on: who stands; what is used and how often houses were visited; what was drawn -/
def dws (D W : Nat → Int) (lk : Nat → Nat → Int → Int) (nc H : Nat) (od : Nat → Nat → Int) : Nat → Nat → Nat → Int × (Nat → Int) → Int → Nat × Int
  | 0, _, n, _, z => (n, z)
  | k + 1, d, n, T, z => dws D W lk nc H od k (d + 1) (n - (dfb n (fun h => od h d) (vq_hs W (vq_cd D W lk (n : Int) nc d T)) H 0 (0, z)).1) (vq_nx D W T (vq_cd D W lk (n : Int) nc d T)) (dfb n (fun h => od h d) (vq_hs W (vq_cd D W lk (n : Int) nc d T)) H 0 (0, z)).2
theorem dws_eq (hD : ∀ c, c < nc → D' c = D c ∧ W' c = W c ∧ 0 ≤ W c ∧ W c < (H : Int)) (hl : ∀ d h b, d < 30 → h < H → lk' d h b = lk d h b) (h99 : ∀ d h b, lk d h b ≤ 99) (ho : ∀ h d, h < H → d < 30 → od' h d = od h d) : ∀ (k d n : Nat) (T T' : Int × (Nat → Int)) (z : Int), d + k ≤ 30 → vq_E H T T' → dws D' W' lk' nc H od' k d n T' z = dws D W lk nc H od k d n T z := by
  intro k
  induction k with
  | zero => intro d n T T' z _ _; rfl
  | succ k ih =>
    intro d n T T' z hd hE
    have ec : vq_cd D' W' lk' (n : Int) nc d T' = vq_cd D W lk (n : Int) nc d T := vq_cd_eq hD (fun h b hh => hl d h b (by omega) hh) hE
    have rc := (vq_cd_r (D := D) (W := W) (S := (n : Int)) (nc := nc) (d := d) (T := T) h99).2
    have ev : vq_hs W' (vq_cd D W lk (n : Int) nc d T) = vq_hs W (vq_cd D W lk (n : Int) nc d T) := by
      unfold vq_hs
      by_cases q : vq_cd D W lk (n : Int) nc d T < 0
      · rw [if_pos q, if_pos q]
      · rw [if_neg q, if_neg q, (hD _ (by omega)).2.1]
    show dws D' W' lk' nc H od' k (d + 1) (n - (dfb n (fun h => od' h d) (vq_hs W' (vq_cd D' W' lk' (n : Int) nc d T')) H 0 (0, z)).1) (vq_nx D' W' T' (vq_cd D' W' lk' (n : Int) nc d T')) (dfb n (fun h => od' h d) (vq_hs W' (vq_cd D' W' lk' (n : Int) nc d T')) H 0 (0, z)).2 = dws D W lk nc H od k (d + 1) (n - (dfb n (fun h => od h d) (vq_hs W (vq_cd D W lk (n : Int) nc d T)) H 0 (0, z)).1) (vq_nx D W T (vq_cd D W lk (n : Int) nc d T)) (dfb n (fun h => od h d) (vq_hs W (vq_cd D W lk (n : Int) nc d T)) H 0 (0, z)).2
    rw [ec, ev, dfb_eq (od := fun h => od h d) (od' := fun h => od' h d) H 0 (0, z) (fun j _ hj => ho j d (by omega) (by omega))]
    exact ih (d + 1) _ _ _ _ (by omega) (vq_nx_eq hD rc hE)
/-- who stands at the end stood before -/
theorem dws_sub : ∀ (k d n : Nat) (T : Int × (Nat → Int)) (z : Int), n < 64 → H ≤ 6 → sbs (dws D W lk nc H od k d n T z).1 n ∧ (dws D W lk nc H od k d n T z).1 < 64 := by
  intro k
  induction k with
  | zero => intro d n T z hn _; exact ⟨fun g => Nat.le_refl _, hn⟩
  | succ k ih =>
    intro d n T z hn hH
    obtain ⟨b1, b2⟩ := dfb_sub (n := n) (od := fun h => od h d) (V := vq_hs W (vq_cd D W lk (n : Int) nc d T)) H 0 (0, z) (show (0 : Nat) < 2 ^ 0 by decide) (fun g => by
      show 0 / 2 ^ g % 2 ≤ _
      rw [Nat.zero_div]
      exact Nat.zero_le _)
    have p6 : 2 ^ (0 + H) ≤ 2 ^ 6 := Nat.pow_le_pow_right (by decide) (by omega)
    obtain ⟨-, s2, s3⟩ := sb_ok hn (by omega) b1
    obtain ⟨g1, g2⟩ := ih (d + 1) (n - (dfb n (fun h => od h d) (vq_hs W (vq_cd D W lk (n : Int) nc d T)) H 0 (0, z)).1) (vq_nx D W T (vq_cd D W lk (n : Int) nc d T)) (dfb n (fun h => od h d) (vq_hs W (vq_cd D W lk (n : Int) nc d T)) H 0 (0, z)).2 (by omega) hH
    refine ⟨fun g => ?_, g2⟩
    have a := g1 g
    have b := s3 g
    show (dws D W lk nc H od k (d + 1) _ _ _).1 / 2 ^ g % 2 ≤ _
    omega
end
