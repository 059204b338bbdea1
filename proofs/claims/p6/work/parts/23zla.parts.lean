/-! The reference's parser: what its parts read is what the class takes. -/
section
variable {L : Nat} {xs : Nat → Int32} {M M' M0 M1 M2 M3 M4 : Nat → Nat → Int} {k m z : Int}
/-- the sign at a place; behind the text: -1 -/
def yr_T (M : Nat → Nat → Int) (i : Nat) : Int := if (i : Int) < M 53 21 then M 66 i else -1
/-- what can't be is -5000 -/
def yr_en (w v : Int) : Int := if w = 1 then (if 0 ≤ v then v else -5000) else if w = 2 then -1000 - v else if w = 3 then -33 else if w = 4 then -126 else if yk_rank w = 0 then -5000 else -w
/-- c steps from place k on, as the class lays them -/
def yr_L (M : Nat → Nat → Int) (k : Nat) : Nat → List Int
  | 0 => []
  | c + 1 => yr_L M k c ++ [yr_en (M 67 (k + c)) (M 68 (k + c))]
theorem yr_L_len (M : Nat → Nat → Int) (k : Nat) : ∀ c, (yr_L M k c).length = c := by
  intro c
  induction c with
  | zero => rfl
  | succ c ih =>
    show (yr_L M k c ++ [_]).length = c + 1
    rw [List.length_append, ih]
    rfl
theorem yr_L_on {k : Nat} : ∀ {c : Nat}, (∀ i, k ≤ i → i < k + c → M' 67 i = M 67 i ∧ M' 68 i = M 68 i) → yr_L M' k c = yr_L M k c := by
  intro c
  induction c with
  | zero => intro _; rfl
  | succ c ih =>
    intro h
    show yr_L M' k c ++ [yr_en (M' 67 (k + c)) (M' 68 (k + c))] = yr_L M k c ++ [yr_en (M 67 (k + c)) (M 68 (k + c))]
    rw [ih (fun i h1 h2 => h i h1 (by omega)), (h (k + c) (by omega) (by omega)).1, (h (k + c) (by omega) (by omega)).2]
theorem yr_L_add (M : Nat → Nat → Int) (k a : Nat) : ∀ b, yr_L M k (a + b) = yr_L M k a ++ yr_L M (k + a) b := by
  intro b
  induction b with
  | zero => exact (List.append_nil _).symm
  | succ b ih =>
    show yr_L M k (a + b) ++ [yr_en (M 67 (k + (a + b))) (M 68 (k + (a + b)))] = yr_L M k a ++ (yr_L M (k + a) b ++ [yr_en (M 67 (k + a + b)) (M 68 (k + a + b))])
    rw [ih, List.append_assoc, Nat.add_assoc]
theorem yr_T_on (h : ct_fr ps_c M M') : yr_T M' = yr_T M := by
  funext i
  unfold yr_T
  rw [ps_T h, h 66 i (by decide) (by decide) (fun g hg => by
    simp only [ps_c, List.mem_cons, List.not_mem_nil, or_false] at hg
    rcases hg with rfl | rfl | rfl | rfl <;> exact fun e => absurd e (by decide))]
/-- a part of rank k, stopped by m -/
def yr_C (k m : Int) (M M' : Nat → Nat → Int) : Prop := ps_R M M' ∧ (M' 53 23 = -1 → yk_E (yr_T M) k m (M 53 24) (M 53 22).toNat (M' 53 22).toNat (yr_L M' (130 + M 53 25).toNat (M' 53 25 - M 53 25).toNat)) ∧ (0 ≤ M' 53 23 → yk_F (yr_T M) (M 53 21).toNat k (M 53 24) (M 53 22).toNat (M' 53 23).toNat)
/-- an operand -/
def yr_B (M M' : Nat → Nat → Int) : Prop := ps_R M M' ∧ (M' 53 23 = -1 → yk_O (yr_T M) (M 53 24) (M 53 22).toNat (M' 53 22).toNat (yr_L M' (130 + M 53 25).toNat (M' 53 25 - M 53 25).toNat)) ∧ (0 ≤ M' 53 23 → yk_G (yr_T M) (M 53 21).toNat (M 53 24) (M 53 22).toNat (M' 53 23).toNat)
theorem yr_BC (h : yr_B M M') (hk : k ≤ 6) : yr_C k 6 M M' := ⟨h.1, fun e => yk_O_E (h.2.1 e) hk, fun e => yk_G_F (h.2.2 e)⟩
theorem yr_same (h : yr_C k m M0 M) (hm : sx_mok cl_ly M') (he : ∀ a, a < 128 → M' a = M a) : yr_C k m M0 M' := by
  obtain ⟨h1, h2, h3⟩ := h
  refine ⟨ps_R_same h1 hm he, ?_, ?_⟩
  all_goals rw [he 53 (by decide)]
  · intro e
    rw [yr_L_on (M := M) (fun i _ _ => by rw [he 67 (by decide), he 68 (by decide)]; exact ⟨rfl, rfl⟩)]
    exact h2 e
  · exact h3
theorem yr_up (h : yr_C (k + 1) (k + 1) M0 M) : yr_C k (k + 1) M0 M := ⟨h.1, fun e => yk_E_k (h.2.1 e), fun e => yk_F_up (h.2.2 e)⟩
theorem yr_dn (h : yr_C k (k + 1) M0 M) (hz : M 53 23 = -1 → yk_rank (yr_T M0 (M 53 22).toNat) ≠ k) : yr_C k k M0 M := ⟨h.1, fun e => yk_E_dn (h.2.1 e) (hz e), h.2.2⟩
theorem yr_dn3 (h : yr_C 4 4 M0 M) (hz : M 53 23 = -1 → yk_rank (yr_T M0 (M 53 22).toNat) ≠ 3) : yr_C 3 3 M0 M := ⟨h.1, fun e => yk_E_up (h.2.1 e) (hz e), fun e => yk_F_up (h.2.2 e)⟩
theorem ps_25 (h : ps_R M0 M1) : M0 53 25 ≤ M1 53 25 := h.2.2.2.2.1
theorem yr_rk {z : Int} (h : yk_rank z ≠ 0) : z ≠ 1 ∧ z ≠ 2 ∧ z ≠ 3 ∧ z ≠ 4 := by
  refine ⟨?_, ?_, ?_, ?_⟩ <;> (intro e; subst e; exact h rfl)
theorem yr_en_op {z v : Int} (h : yk_rank z ≠ 0) : yr_en z v = -z := by
  obtain ⟨h1, h2, h3, h4⟩ := yr_rk h
  unfold yr_en
  rw [if_neg h1, if_neg h2, if_neg h3, if_neg h4, if_neg h]
/-- what was laid by both parts and by the sign -/
theorem yr_cat (hp : ps_P M0) (h1 : ps_R M0 M1) (h2 : ps_hd M1 M2) (h3 : ps_R M2 M3) (h4 : ps_ad z M3 M4) (hz : yk_rank z ≠ 0) : yr_L M4 (130 + M0 53 25).toNat (M4 53 25 - M0 53 25).toNat = yr_L M1 (130 + M0 53 25).toNat (M1 53 25 - M0 53 25).toNat ++ yr_L M3 (130 + M2 53 25).toNat (M3 53 25 - M2 53 25).toNat ++ [-z] := by
  obtain ⟨p1, p2, p3, p4, p5, p6, p7, p8⟩ := hp
  have a5 := ps_25 h1
  have c5 := ps_25 h3
  have c6 := h3.2.2.2.2.2.1
  obtain ⟨b1, b2, b3, b4, b5, b6, b7, b8, b9⟩ := h2
  obtain ⟨d1, d2, d3, d4, d5, d6, d7, d8⟩ := h4
  rw [show (M4 53 25 - M0 53 25).toNat = ((M1 53 25 - M0 53 25).toNat + (M3 53 25 - M2 53 25).toNat) + 1 by omega]
  show yr_L M4 (130 + M0 53 25).toNat ((M1 53 25 - M0 53 25).toNat + (M3 53 25 - M2 53 25).toNat) ++ [_] = _
  rw [yr_L_add, show (130 + M0 53 25).toNat + ((M1 53 25 - M0 53 25).toNat + (M3 53 25 - M2 53 25).toNat) = (130 + M3 53 25).toNat by omega, show (130 + M0 53 25).toNat + (M1 53 25 - M0 53 25).toNat = (130 + M2 53 25).toNat by omega, d7, yr_en_op hz]
  rw [yr_L_on (M := M1) (M' := M4) (k := (130 + M0 53 25).toNat) (fun i h1 h2 => by
    obtain ⟨e1, e2⟩ := d8 i (by omega)
    obtain ⟨e3, e4⟩ := c6 i (by omega)
    rw [e1, e2, e3, e4, b8, b9]
    exact ⟨rfl, rfl⟩), yr_L_on (M := M3) (M' := M4) (k := (130 + M2 53 25).toNat) (fun i h1 h2 => d8 i (by omega))]
/-- a chain goes on -/
theorem yr_bin (hk : 1 ≤ k) (h3k : k ≠ 3) (hp : ps_P M0) (h1 : yr_C k (k + 1) M0 M1) (hf : M1 53 23 = -1) (hT : yr_T M0 (M1 53 22).toNat = z) (hz : yk_rank z = k) (h2 : ps_hd M1 M2) (h3 : yr_C (k + 1) (k + 1) M2 M3) (h4 : ps_ad z M3 M4) : yr_C k (k + 1) M0 M4 := by
  have hz0 : yk_rank z ≠ 0 := by omega
  have R4 := ps_chain hp h1.1 hf h2 h3.1 h4 (yr_rk hz0)
  have cat := yr_cat hp h1.1 h2 h3.1 h4 hz0
  have fr2 : ct_fr ps_c M0 M2 := ps_fr_tr h1.1.2.1 h2.2.1
  have eT : yr_T M2 = yr_T M0 := yr_T_on fr2
  have e21 := ps_T fr2
  obtain ⟨p1, p2, p3, p4, p5, p6, p7, p8⟩ := hp
  have a3 := h1.1.2.2.1
  obtain ⟨b1, b2, b3, b4, b5, b6, b7, b8, b9⟩ := id h2
  obtain ⟨d1, d2, d3, d4, d5, d6, d7, d8⟩ := id h4
  have e24 : M2 53 24 = M0 53 24 := by
    rw [b6]
    rcases h1.1.2.2.2.2.2.2 with ⟨-, h, -⟩ | ⟨h, -⟩
    · exact h
    · omega
  have e22 : (M2 53 22).toNat = (M1 53 22).toNat + 1 := by omega
  refine ⟨R4, fun e => ?_, fun e => ?_⟩
  · have E1 := h1.2.1 hf
    have E2 := h3.2.1 (by omega)
    rw [eT, e24, e22] at E2
    rw [cat, ← hT]
    rw [← hT] at hz
    rw [d3]
    exact yk_E_bin hk h3k E1 hz E2
  · have E1 := h1.2.1 hf
    have E2 := h3.2.2 (by omega)
    rw [eT, e24, e22, e21] at E2
    rw [← hT] at hz
    rw [d4]
    exact yk_F_bin hk h3k E1 hz E2
/-- a comparison -/
theorem yr_cmp (hp : ps_P M0) (h1 : yr_C 4 4 M0 M1) (hf : M1 53 23 = -1) (hT : yr_T M0 (M1 53 22).toNat = z) (hz : yk_rank z = 3) (h2 : ps_hd M1 M2) (h3 : yr_C 4 4 M2 M3) (h4 : ps_ad z M3 M4) : yr_C 3 3 M0 M4 := by
  have hz0 : yk_rank z ≠ 0 := by omega
  have R4 := ps_chain hp h1.1 hf h2 h3.1 h4 (yr_rk hz0)
  have cat := yr_cat hp h1.1 h2 h3.1 h4 hz0
  have fr2 : ct_fr ps_c M0 M2 := ps_fr_tr h1.1.2.1 h2.2.1
  have eT : yr_T M2 = yr_T M0 := yr_T_on fr2
  have e21 := ps_T fr2
  obtain ⟨p1, p2, p3, p4, p5, p6, p7, p8⟩ := hp
  have a3 := h1.1.2.2.1
  obtain ⟨b1, b2, b3, b4, b5, b6, b7, b8, b9⟩ := id h2
  obtain ⟨d1, d2, d3, d4, d5, d6, d7, d8⟩ := id h4
  have e24 : M2 53 24 = M0 53 24 := by
    rw [b6]
    rcases h1.1.2.2.2.2.2.2 with ⟨-, h, -⟩ | ⟨h, -⟩
    · exact h
    · omega
  have e22 : (M2 53 22).toNat = (M1 53 22).toNat + 1 := by omega
  refine ⟨R4, fun e => ?_, fun e => ?_⟩
  · have E1 := h1.2.1 hf
    have E2 := h3.2.1 (by omega)
    rw [eT, e24, e22] at E2
    rw [cat, ← hT]
    rw [← hT] at hz
    rw [d3]
    exact yk_E_cmp E1 hz E2
  · have E1 := h1.2.1 hf
    have E2 := h3.2.2 (by omega)
    rw [eT, e24, e22, e21] at E2
    rw [← hT] at hz
    rw [d4]
    exact yk_F_cmp E1 hz E2
-- the start of a walk that reads: 9 a number, 10 taped, 11 here, 12 fault, 13 open, 14 laid; 15 the sign
def yz_f (a b f : Int × Int) : List ct_G := [(53, 21, a), (53, 22, b), (53, 23, f), (53, 24, (0, 6)), (53, 25, (0, 121))]
noncomputable def yz_t (g : Int × Int) (a b f : Int × Int) : sx_S := og_t [(0, g)] (yz_f a b f)
/-- here is below taped -/
noncomputable def yz_l (g f p : Int × Int) : sx_S := (sx_frl (sx_ml (yz_t g (1, 120) (0, 119) f) 80 (11, 0) (10, 0)) 66 (11, 0) p).2
/-- here is taped: 9 a number, 10 here, 11 fault, 12 open, 13 laid -/
def yz_fe (f : Int × Int) : List ct_G := [(53, 22, (0, 120)), (53, 23, f), (53, 24, (0, 6)), (53, 25, (0, 121))]
noncomputable def yz_e (g f : Int × Int) : sx_S := la_ad (og_t [(0, g)] (yz_fe f)) 53 21 (10, 0)
variable {ρ : Nat → Int} {t : sx_S}
theorem yz_ml {ly : Nat → Option sx_H} {ib : sx_A} {M0 : Nat → Nat → Int} {x y : sx_A} (hs : sx_sat ly ib xs L M0 ρ M t) (hx : x.1 < t.1) (hy : y.1 < t.1) (h : sx_val ρ x < sx_val ρ y) : sx_sat ly ib xs L M0 ρ M (sx_ml t 80 x y) := (sx_ml_ok hs hx hy (by
  show (0 : Int) = sx_mf 80 (sx_val ρ x) (sx_val ρ y)
  unfold sx_mf
  simp [h])).1
theorem yz_w64 {x : Int} (h1 : -1 ≤ x) (h2 : x ≤ 121) : sx_w sx_r64 x := by rw [sx_r64_iff]; omega
theorem yz_lsat {g f p : Int × Int} (hL : L < 2 ^ 31) (hok : pz_ok M) (hlt : M 53 22 < M 53 21) (hg : sx_w g z) (z32 : sx_w sx_r32 z) (hf : sx_w f (M 53 23)) (hp : sx_w p (M 66 (M 53 22).toNat)) : ∃ ρ : Nat → Int, sx_sat cl_ly (0, -100) xs L M ρ M (yz_l g f p) ∧ (yz_l g f p).1 = 16 ∧ ρ 9 = z ∧ ρ 10 = M 53 21 ∧ ρ 11 = M 53 22 ∧ ρ 12 = M 53 23 ∧ ρ 13 = M 53 24 ∧ ρ 14 = M 53 25 ∧ ρ 15 = M 66 (M 53 22).toNat := by
  obtain ⟨p1, p2, p3, p4, p5, p6, p7, p8, p9⟩ := hok
  have hT := pz_T p1
  obtain ⟨ρ1, s1, n1, e1, e2⟩ := og_sat (xs := xs) (gs := [(0, g)]) (zs := [z]) (fs := yz_f (1, 120) (0, 119) f) hL p1 ⟨⟨Nat.zero_le _, hg, fun _ => z32, sx_32_64 z32⟩, trivial⟩ (fun q hq => by
    simp only [yz_f, List.mem_cons, List.not_mem_nil, or_false] at hq
    rcases hq with rfl | rfl | rfl | rfl | rfl
    · exact ⟨Nat.le_of_ble_eq_true rfl, ⟨by show (1 : Int) ≤ M 53 21; omega, hT.2⟩, yz_w64 (x := M 53 21) (by omega) (by omega)⟩
    · exact ⟨Nat.le_of_ble_eq_true rfl, ⟨p2, by show M 53 22 ≤ (119 : Int); omega⟩, yz_w64 (x := M 53 22) (by omega) (by omega)⟩
    · exact ⟨Nat.le_of_ble_eq_true rfl, hf, yz_w64 (x := M 53 23) (by omega) (by omega)⟩
    · exact ⟨Nat.le_of_ble_eq_true rfl, ⟨p6, p7⟩, yz_w64 (x := M 53 24) (by omega) (by omega)⟩
    · exact ⟨Nat.le_of_ble_eq_true rfl, ⟨p8, p9⟩, yz_w64 (x := M 53 25) (by omega) (by omega)⟩)
  have n1 : (yz_t g (1, 120) (0, 119) f).1 = 15 := n1
  have r9 : ρ1 9 = z := e1 0 _ rfl
  have r10 : ρ1 10 = M 53 21 := e2 0 _ rfl
  have r11 : ρ1 11 = M 53 22 := e2 1 _ rfl
  have r12 : ρ1 12 = M 53 23 := e2 2 _ rfl
  have r13 : ρ1 13 = M 53 24 := e2 3 _ rfl
  have r14 : ρ1 14 = M 53 25 := e2 4 _ rfl
  have s2 := yz_ml (x := (11, 0)) (y := (10, 0)) s1 (by show 11 < (yz_t g (1, 120) (0, 119) f).1; rw [n1]; decide) (by show 10 < (yz_t g (1, 120) (0, 119) f).1; rw [n1]; decide) (by rw [og_v0 r11, og_v0 r10]; exact hlt)
  have n2 : (sx_ml (yz_t g (1, 120) (0, 119) f) 80 (11, 0) (10, 0)).1 = 15 := n1
  have v11 : sx_val ρ1 (11, 0) = M 53 22 := og_v0 r11
  have w66 : sx_w (-128, 127) (M 66 (M 53 22).toNat) := p1 66 _ _ _ rfl (by show (M 53 22).toNat < 120; omega) rfl
  obtain ⟨ρ2, x2, s3, r15⟩ := tg_rd (k := 66) (i := (11, 0)) (r := p) (n := 15) s2 n2 (by decide) (by decide) (by rw [v11]; exact p2) (by rw [v11]; exact hp) (by rw [v11]; exact ⟨Int.le_trans (by decide) w66.1, Int.le_trans w66.2 (by decide)⟩)
  rw [v11] at r15
  have y : ∀ {k : Nat} {q : Int}, ρ1 k = q → k < 15 → ρ2 k = q := fun h hk => by rw [x2 _ hk]; exact h
  refine ⟨ρ2, s3, ?_, y r9 (by decide), y r10 (by decide), y r11 (by decide), y r12 (by decide), y r13 (by decide), y r14 (by decide), r15⟩
  show (sx_ml (yz_t g (1, 120) (0, 119) f) 80 (11, 0) (10, 0)).1 + 1 = 16
  rw [n2]
theorem yz_esat {g f : Int × Int} (hL : L < 2 ^ 31) (hok : pz_ok M) (he : M 53 22 = M 53 21) (hg : sx_w g z) (z32 : sx_w sx_r32 z) (hf : sx_w f (M 53 23)) : ∃ ρ : Nat → Int, sx_sat cl_ly (0, -100) xs L M ρ M (yz_e g f) ∧ (yz_e g f).1 = 14 ∧ ρ 9 = z ∧ ρ 10 = M 53 22 ∧ ρ 11 = M 53 23 ∧ ρ 12 = M 53 24 ∧ ρ 13 = M 53 25 := by
  obtain ⟨p1, p2, p3, p4, p5, p6, p7, p8, p9⟩ := hok
  have hT := pz_T p1
  obtain ⟨ρ1, s1, n1, e1, e2⟩ := og_sat (xs := xs) (gs := [(0, g)]) (zs := [z]) (fs := yz_fe f) hL p1 ⟨⟨Nat.zero_le _, hg, fun _ => z32, sx_32_64 z32⟩, trivial⟩ (fun q hq => by
    simp only [yz_fe, List.mem_cons, List.not_mem_nil, or_false] at hq
    rcases hq with rfl | rfl | rfl | rfl
    · exact ⟨Nat.le_of_ble_eq_true rfl, ⟨p2, by show M 53 22 ≤ (120 : Int); omega⟩, yz_w64 (x := M 53 22) (by omega) (by omega)⟩
    · exact ⟨Nat.le_of_ble_eq_true rfl, hf, yz_w64 (x := M 53 23) (by omega) (by omega)⟩
    · exact ⟨Nat.le_of_ble_eq_true rfl, ⟨p6, p7⟩, yz_w64 (x := M 53 24) (by omega) (by omega)⟩
    · exact ⟨Nat.le_of_ble_eq_true rfl, ⟨p8, p9⟩, yz_w64 (x := M 53 25) (by omega) (by omega)⟩)
  have n1 : (og_t [(0, g)] (yz_fe f)).1 = 14 := n1
  have r10 : ρ1 10 = M 53 22 := e2 0 _ rfl
  refine ⟨ρ1, la_ad_ok s1 (by decide) (by show 10 < (og_t [(0, g)] (yz_fe f)).1; rw [n1]; decide) (by rw [og_v0 r10]; exact he.symm), n1, e1 0 _ rfl, r10, e2 1 _ rfl, e2 2 _ rfl, e2 3 _ rfl⟩
end
