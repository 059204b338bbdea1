/-! The reference's evaluator: a part of a line. -/
section
variable {L : Nat} {xs : Nat → Int32} {M M' M1 M2 : Nat → Nat → Int} {ρ ρ' : Nat → Int} {V U : List Int} {e n f : Int} {Q : Option Value → (Nat → Nat → Int) → Prop}
theorem wu_Lc (M : Nat → Nat → Int) (k c : Nat) : yr_L M k (c + 1) = yr_en (M 67 k) (M 68 k) :: yr_L M (k + 1) c := by
  rw [Nat.add_comm c 1, yr_L_add]
  rfl
def wu_lx : sx_L := [(0, 2, 0, 53), (1, 0, 0, 0), (3, 0, 9, 0), (4, 0, 10, 0), (5, 0, 9, 0)]
noncomputable def wu_tx : sx_S := (sx_frl (og_t [(0, (0, 130)), (0, (0, 130))] []) 73 (0, 0) sx_r32).2
def wu_Tx : List og_T := [(none, some (0, 11, 0), [], [], [], [])]
theorem wu_cx : gs_chk (fun pc => Nat.beq pc 12) (fun u => wu_Tx.any (og_chk wu_tx u)) 400 400 6 197 12 wu_lx [] wu_tx = true := by decide +kernel
def wu_V (M : Nat → Nat → Int) (z : Int) (r : Option Value) (M' : Nat → Nat → Int) : Prop := r = some (.int (Int32.ofInt z)) ∧ sx_w sx_r32 z ∧ sx_mok cl_ly M' ∧ ∀ a, a < 128 → a ≠ 73 → M' a = M a
theorem wu_exit (hL : L < 2 ^ 31) (hm : sx_mok cl_ly M) (hS : wu_S 73 M V) (hn : V ≠ []) (he : 0 ≤ e ∧ e ≤ 130) (hV : V.length ≤ 130) : rz_fin (wu_V M (V.getLastD 0)) L xs 197 6 12 (wu_v e (V.length : Int) e) [] M := by
  have we : sx_w sx_r32 e := og_w32 (by omega) (by omega)
  have wn : sx_w sx_r32 (V.length : Int) := og_w32 (by omega) (by omega)
  obtain ⟨ρ1, s1, n1, e1, -⟩ := og_sat (xs := xs) (gs := [(0, (0, 130)), (0, (0, 130))]) (zs := [e, (V.length : Int)]) (fs := []) hL hm ⟨og_z rfl he.1 he.2 we, og_z rfl (show (0 : Int) ≤ _ by omega) (show _ ≤ (130 : Int) by omega) wn, trivial⟩ (fun g hg => by cases hg)
  have n1 : (og_t [(0, (0, 130)), (0, (0, 130))] []).1 = 11 := n1
  have r9 : ρ1 9 = e := e1 0 _ rfl
  have r10 : ρ1 10 = (V.length : Int) := e1 1 _ rfl
  have h01 : ρ1 0 = 0 := s1.2.1
  have w0 := wu_73 hm (i := 0) (by decide)
  have v0 : sx_val ρ1 (0, 0) = 0 := og_c h01 0
  obtain ⟨ρ, x, s, r11⟩ := tg_rd (k := 73) (i := (0, 0)) (r := sx_r32) (n := 11) s1 n1 (by decide) (by decide) (by rw [v0]; decide) (by rw [v0]; exact w0) (by rw [v0]; exact sx_32_64 w0)
  rw [v0] at r11
  have r11 : ρ 11 = V.getLastD 0 := r11.trans (wu_bot hS hn)
  have n2 : wu_tx.1 = 12 := by show (og_t [(0, (0, 130)), (0, (0, 130))] []).1 + 1 = 12; rw [n1]
  have h0 : ρ 0 = 0 := s.2.1
  have q9 := (x 9 (by decide)).trans r9
  have q10 := (x 10 (by decide)).trans r10
  refine og_use (Ts := wu_Tx) (lv := wu_lx) (s := []) wu_cx (by rfl) s (fun q hq => by
    simp only [wu_lx, List.mem_cons, List.not_mem_nil, or_false] at hq
    rcases hq with rfl | rfl | rfl | rfl | rfl
    · exact sx_ck2 s _
    · exact ⟨by show 0 < wu_tx.1; rw [n2]; decide, fun _ => by show sx_w sx_r32 (ρ 0 + 0); rw [h0]; exact sx_w0, fun h => by cases h⟩
    · exact tk_ok0 (by rw [n2]; decide) (by rw [q9]; exact we)
    · exact tk_ok0 (by rw [n2]; decide) (by rw [q10]; exact wn)
    · exact tk_ok0 (by rw [n2]; decide) (by rw [q9]; exact we)) (fun v hv => by cases hv) (Nat.le_refl _) (by
    show [(0, Value.ref 53), (1, sx_cv1 ρ (0, 0, 0)), (3, sx_cv1 ρ (0, 9, 0)), (4, sx_cv1 ρ (0, 10, 0)), (5, sx_cv1 ρ (0, 9, 0))] = _
    rw [tk_cv h0, og_int q9, og_int q10]
    rfl) rfl (fun T hT ρ' M' y h0' hm' hc hM => ?_)
  rw [n2] at y
  rw [List.mem_singleton.mp hT] at hM ⊢
  have hM : ∀ a, a < 128 → M' a = M a := hM
  refine ⟨?_, by rw [← wu_bot hS hn]; exact w0, hm', fun a ha _ => hM a ha⟩
  show some (sx_cv1 ρ' (0, 11, 0)) = _
  rw [og_int (og_v y (show 11 < 12 by decide) r11)]
/-- steps that can be worked: their kinds, their names -/
def wu_K (M : Nat → Nat → Int) (i : Nat) : Prop := vt_ok (yr_en (M 67 i) (M 68 i)) ∧ (M 67 i = 2 → 0 ≤ M 68 i ∧ M 68 i ≤ 5)
theorem vt_st_len {N : Nat → Int} {s : Int} (h : vt_st N s V = some U) : U.length ≤ V.length + 1 := by
  unfold vt_st at h
  by_cases c1 : 0 ≤ s
  · rw [if_pos c1] at h
    cases h
    exact Nat.le_refl _
  · rw [if_neg c1] at h
    by_cases c2 : s ≤ -1000
    · rw [if_pos c2] at h
      cases h
      exact Nat.le_refl _
    · rw [if_neg c2] at h
      by_cases c3 : s = -33
      · rw [if_pos c3] at h
        cases V with
        | nil => cases h
        | cons a R =>
          cases h
          show R.length + 1 ≤ R.length + 1 + 1
          omega
      · rw [if_neg c3] at h
        by_cases c4 : s = -126
        · rw [if_pos c4] at h
          cases V with
          | nil => cases h
          | cons a R =>
            cases h
            show R.length + 1 ≤ R.length + 1 + 1
            omega
        · rw [if_neg c4] at h
          cases V with
          | nil => cases h
          | cons b R =>
            cases R with
            | nil => cases h
            | cons a R =>
              cases h
              show R.length + 1 ≤ R.length + 1 + 1 + 1
              omega
theorem wu_loop (hL : L < 2 ^ 31) (he : e ≤ 130) : ∀ (c k : Nat) (V U : List Int) (M : Nat → Nat → Int), ((k + c : Nat) : Int) = e → vt_sr (M 72) (yr_L M k c) V = some U → (∀ i, k ≤ i → i < k + c → wu_K M i) → V.length + c ≤ 130 → (c ≠ 0 ∨ V ≠ []) → sx_mok cl_ly M → wu_S 73 M V → rz_fin (wu_V M (U.getLastD 0)) L xs 197 6 12 (wu_v e (V.length : Int) (k : Int)) [] M := by
  intro c
  induction c with
  | zero =>
    intro k V U M hk h hK hV hn hm hS
    have h : some V = some U := h
    cases h
    have ek : (k : Int) = e := by omega
    rw [ek]
    rcases hn with hn | hn
    · exact absurd rfl hn
    · exact wu_exit hL hm hS hn ⟨by omega, he⟩ (by omega)
  | succ c ih =>
    intro k V U M hk h hK hV hn hm hS
    rw [wu_Lc] at h
    cases e1 : vt_st (M 72) (yr_en (M 67 k) (M 68 k)) V with
    | none =>
      have h : (match vt_st (M 72) (yr_en (M 67 k) (M 68 k)) V with
        | some U => vt_sr (M 72) (yr_L M (k + 1) c) U
        | none => none) = some U := h
      rw [e1] at h
      cases h
    | some W =>
      rw [vt_sr_cons e1] at h
      obtain ⟨k1, k2⟩ := hK k (Nat.le_refl _) (by omega)
      have ek : ((k : Int)).toNat = k := Int.toNat_natCast k
      refine wu_round (U := W) hL hm hS (by omega) (by omega) he (by omega) (by rw [ek]; exact k1) (by rw [ek]; exact k2) (by rw [ek]; exact e1) (fun M' hm' f1 hS' => ?_)
      have e67 := f1 67 (by decide) (by decide)
      have e68 := f1 68 (by decide) (by decide)
      have e72 := f1 72 (by decide) (by decide)
      have eL : yr_L M' (k + 1) c = yr_L M (k + 1) c := yr_L_on (fun i _ _ => by rw [e67, e68]; exact ⟨rfl, rfl⟩)
      have := vt_st_len e1
      obtain ⟨F, r, M2, g1, g2, gw, g3, g4⟩ := ih (k + 1) W U M' (by omega) (by rw [e72, eL]; exact h) (fun i h1 h2 => by
        unfold wu_K
        rw [e67, e68]
        exact hK i (by omega) (by omega)) (by omega) (Or.inr (vt_st_ne e1)) hm' hS'
      rw [show ((k + 1 : Nat) : Int) = (k : Int) + 1 by omega] at g1
      exact ⟨F, r, M2, g1, g2, gw, g3, fun a ha h73 => (g4 a ha h73).trans (f1 a ha h73)⟩
-- its start
def wu_ls : sx_L := [(0, 2, 0, 53), (1, 0, 0, 0), (2, 0, 9, 0), (3, 0, 10, 0)]
noncomputable def wu_ts : sx_S := og_t [(0, (0, 130)), (0, (0, 130))] []
def wu_Ts : List og_T := [(some 12, none, [], [(0, 2, 0, 53), (1, 0, 0, 0), (3, 0, 10, 0), (4, 0, 0, 0), (5, 0, 9, 0)], [], [])]
theorem wu_cs : gs_chk (fun pc => Nat.beq pc 12) (fun u => wu_Ts.any (og_chk wu_ts u)) 400 400 6 197 0 wu_ls [] wu_ts = true := by decide +kernel
def wu_a (f e : Int) : sm_V := [(0, .ref 53), (1, .int (Int32.ofInt 0)), (2, .int (Int32.ofInt f)), (3, .int (Int32.ofInt e))]
theorem wu_worked (hL : L < 2 ^ 31) (hm : sx_mok cl_ly M) (h0 : 0 ≤ f) (hfe : f < e) (he : e ≤ 130) (hU : vt_sr (M 72) (yr_L M f.toNat (e - f).toNat) [] = some U) (hK : ∀ i : Nat, f ≤ (i : Int) → (i : Int) < e → wu_K M i) : rz_fin (wu_V M (U.getLastD 0)) L xs 197 6 0 (wu_a f e) [] M := by
  have we : sx_w sx_r32 e := og_w32 (by omega) (by omega)
  have wf : sx_w sx_r32 f := og_w32 (by omega) (by omega)
  obtain ⟨ρ, s, n1, e1, -⟩ := og_sat (xs := xs) (gs := [(0, (0, 130)), (0, (0, 130))]) (zs := [f, e]) (fs := []) hL hm ⟨og_z rfl h0 (show f ≤ (130 : Int) by omega) wf, og_z rfl (show (0 : Int) ≤ e by omega) (show e ≤ (130 : Int) by omega) we, trivial⟩ (fun g hg => by cases hg)
  have n1 : wu_ts.1 = 11 := n1
  have r9 : ρ 9 = f := e1 0 _ rfl
  have r10 : ρ 10 = e := e1 1 _ rfl
  have h00 : ρ 0 = 0 := s.2.1
  refine og_use (Ts := wu_Ts) (lv := wu_ls) (s := []) wu_cs (by rfl) s (fun q hq => by
    simp only [wu_ls, List.mem_cons, List.not_mem_nil, or_false] at hq
    rcases hq with rfl | rfl | rfl | rfl
    · exact sx_ck2 s _
    · exact ⟨by show 0 < wu_ts.1; rw [n1]; decide, fun _ => by show sx_w sx_r32 (ρ 0 + 0); rw [h00]; exact sx_w0, fun h => by cases h⟩
    · exact tk_ok0 (by rw [n1]; decide) (by rw [r9]; exact wf)
    · exact tk_ok0 (by rw [n1]; decide) (by rw [r10]; exact we)) (fun v hv => by cases hv) (Nat.le_refl _) (by
    show [(0, Value.ref 53), (1, sx_cv1 ρ (0, 0, 0)), (2, sx_cv1 ρ (0, 9, 0)), (3, sx_cv1 ρ (0, 10, 0))] = _
    rw [tk_cv h00, og_int r9, og_int r10]
    rfl) rfl (fun T hT ρ' M' y h0' hm' hc hM => ?_)
  rw [n1] at y
  have q9 := og_v y (show 9 < 11 by decide) r9
  have q10 := og_v y (show 10 < 11 by decide) r10
  rw [List.mem_singleton.mp hT] at hM ⊢
  have hM : ∀ a, a < 128 → M' a = M a := hM
  have e67 := hM 67 (by decide)
  have e68 := hM 68 (by decide)
  have e72 := hM 72 (by decide)
  show rz_fin _ L xs 197 6 12 (sx_cl1 ρ' [(0, 2, 0, 53), (1, 0, 0, 0), (3, 0, 10, 0), (4, 0, 0, 0), (5, 0, 9, 0)]) [] M'
  have el : sx_cl1 ρ' [(0, 2, 0, 53), (1, 0, 0, 0), (3, 0, 10, 0), (4, 0, 0, 0), (5, 0, 9, 0)] = wu_v e ((([] : List Int).length : Nat) : Int) ((f.toNat : Nat) : Int) := by
    show [(0, Value.ref 53), (1, sx_cv1 ρ' (0, 0, 0)), (3, sx_cv1 ρ' (0, 10, 0)), (4, sx_cv1 ρ' (0, 0, 0)), (5, sx_cv1 ρ' (0, 9, 0))] = _
    rw [tk_cv h0', og_int q9, og_int q10, show ((f.toNat : Nat) : Int) = f by omega]
    rfl
  rw [el]
  have eL : yr_L M' f.toNat (e - f).toNat = yr_L M f.toNat (e - f).toNat := yr_L_on (fun i _ _ => by rw [e67, e68]; exact ⟨rfl, rfl⟩)
  obtain ⟨F, r, M2, g1, g2, gw, g3, g4⟩ := wu_loop (xs := xs) hL (by omega) (e - f).toNat f.toNat [] U M' (by omega) (by rw [e72, eL]; exact hU) (fun i h1 h2 => by
    unfold wu_K
    rw [e67, e68]
    exact hK i (by omega) (by omega)) (by show 0 + _ ≤ 130; omega) (Or.inl (by omega)) hm' rfl
  exact ⟨F, r, M2, g1, g2, gw, g3, fun a ha h => (g4 a ha h).trans (hM a ha)⟩
end
