/-! The loop: all its rounds; the way in. -/
section
variable {WF : (Nat → Nat → Int) → Prop} {L : Nat} {xs : Nat → Int32} {M M' M0 N N' : Nat → Nat → Int} {ρ ρ' Z Z' : Nat → Int} {t t0 : sx_S} {Q : Option Value → (Nat → Nat → Int) → Prop} {b : Int} {pv : Nat}
/-- but for what calls may change, and one place, nothing is changed -/
def rl_F (P : rl_P) (pv : Nat) (M N : Nat → Nat → Int) : Prop := ∀ a i, a < 128 → a ∉ P.2.2.2.2.1.1 → ¬ (a = P.2.2.2.1.1 ∧ i = pv) → (∀ q ∈ P.2.2.2.2.1.2, q.1 = a → q.2 ≠ i) → N a i = M a i
def rl_R (P : rl_P) (pv : Nat) (b : Int) (M : Nat → Nat → Int) (r : Option Value) (M' : Nat → Nat → Int) : Prop := ∃ y, r = some (.int (Int32.ofInt y)) ∧ sx_w P.2.2.2.2.2.2 y ∧ sx_mok cl_ly M' ∧ rl_F P pv M M' ∧ M' P.2.2.2.1.1 pv = b
def rl_okc (q : Nat × sx_V) : Bool := bif Nat.beq q.2.1 2 then Nat.beq q.2.2.1 0 else sx_an (Nat.beq q.2.1 0) (bif Nat.beq q.2.2.1 0 then sx_in (q.2.2.2, q.2.2.2) sx_r32 else sx_eq q.2.2.2 0)
theorem rl_okl {P : rl_P} {n : Nat} {lv : sx_L} (hc : lv.all rl_okc = true) (hin : ∀ q ∈ lv, rl_in P.2.1.1.length q.2.2 = true) (hn : 9 + P.2.1.1.length ≤ n) (h0 : ρ 0 = 0) (hZ : rl_Z P Z) (he : ∀ a, rl_in P.2.1.1.length a = true → sx_val ρ a = sx_val Z a) : sx_okl ρ n lv := fun q hq => by
  have h := List.all_eq_true.mp hc q hq
  have hi := hin q hq
  have hlt : q.2.2.1 < n := by
    unfold rl_in at hi
    cases e : Nat.beq q.2.2.1 0 with
    | true => rw [sx_nbeq.mp e]; omega
    | false =>
      rw [e] at hi
      have := sx_blt (sx_an_iff.mp hi).2
      omega
  unfold rl_okc at h
  cases e : Nat.beq q.2.1 2 with
  | true =>
    have e := sx_nbeq.mp e
    exact ⟨hlt, (fun h1 => by rw [e] at h1; cases h1), (fun h1 => by rw [e] at h1; cases h1)⟩
  | false =>
    rw [e] at h
    obtain ⟨h1, h2⟩ := sx_an_iff.mp h
    have h1 := sx_nbeq.mp h1
    refine ⟨hlt, fun _ => ?_, fun h9 => by rw [h1] at h9; cases h9⟩
    cases e2 : Nat.beq q.2.2.1 0 with
    | true =>
      rw [e2] at h2
      have h2 := sx_in_iff.mp h2
      unfold sx_val
      rw [sx_nbeq.mp e2, h0, Int.zero_add]
      exact h2
    | false =>
      rw [e2] at h2
      have h2 := sx_eq_iff.mp h2
      rw [he _ hi]
      unfold sx_val
      rw [h2, Int.add_zero]
      unfold rl_in at hi
      rw [e2] at hi
      obtain ⟨a1, a2⟩ := sx_an_iff.mp hi
      have a1 := Nat.le_of_ble_eq_true a1
      have a2 := sx_blt a2
      have hk : q.2.2.1 - 9 < P.2.1.1.length := by omega
      have := (hZ.2 (q.2.2.1 - 9) (P.2.1.1[q.2.2.1 - 9]) (List.getElem?_eq_getElem hk)).2
      rw [show 9 + (q.2.2.1 - 9) = q.2.2.1 by omega] at this
      exact this
/-- what is asked of a loop, once -/
def rl_ck (P : rl_P) (cts : List (Nat × ct_C)) : Prop := rl_gd P = true ∧ (∀ q ∈ P.2.2.1.2.2, P.2.1.1[q.2 - 9]? = some (0, sx_r32) ∧ 11 ≤ q.2) ∧ P.2.2.1.1.all (fun q => P.2.2.1.2.2.all fun w => bif Nat.beq q.2.2.1 w.2 then false else true) = true ∧ (P.2.2.1.2.2.map fun q => q.2).Nodup ∧ ((List.range 11).all fun m => sx_an ((rl_lv P m).all rl_okc) (rl_seg cts (fun pc => Nat.beq pc P.1.2.1) (rl_rec P m) 3000 3000 P.1.2.2 P.1.1 P.1.2.1 (rl_lv P m) (rl_t P))) = true
theorem rl_pv {P : rl_P} (hg : rl_gd P = true) (hwr : ∀ q ∈ P.2.2.1.2.2, P.2.1.1[q.2 - 9]? = some (0, sx_r32) ∧ 11 ≤ q.2) (hk : ∀ k, (∀ q ∈ P.2.2.1.2.2, q.2 ≠ k) → Z' k = Z k) : sx_val Z' P.2.2.2.1.2 = sx_val Z P.2.2.2.1.2 ∧ Z' 10 = Z 10 := by
  obtain ⟨-, hg⟩ := sx_an_iff.mp hg
  obtain ⟨-, hg⟩ := sx_an_iff.mp hg
  obtain ⟨hg, -⟩ := sx_an_iff.mp hg
  obtain ⟨hg, -⟩ := sx_an_iff.mp hg
  obtain ⟨-, hg⟩ := sx_an_iff.mp hg
  have hg := Nat.le_of_ble_eq_true hg
  refine ⟨?_, hk 10 (fun q hq e => by have := (hwr q hq).2; omega)⟩
  unfold sx_val
  rw [hk _ (fun q hq e => by have := (hwr q hq).2; omega)]
theorem rl_lt {P : rl_P} {n : Nat} {a : sx_A} (hn : 9 + P.2.1.1.length ≤ n) (ha : rl_in P.2.1.1.length a = true) : a.1 < n := by
  unfold rl_in at ha
  cases e : Nat.beq a.1 0 with
  | true => rw [sx_nbeq.mp e]; omega
  | false =>
    rw [e] at ha
    have := sx_blt (sx_an_iff.mp ha).2
    omega
theorem rl_step {P : rl_P} {cts : List (Nat × ct_C)} {m : Nat} (hck : rl_ck P cts) (hz : ∀ M M' : Nat → Nat → Int, (∀ z ∈ cz_zs, M' z = M z) → WF M → WF M') (hall : ∀ c ∈ cts, cc WF L xs c.1 c.2) (hL : L < 2 ^ 31) (hW : WF N) (hf : ∀ g ∈ P.2.1.2, sx_w g.2.2 (N g.1 g.2.1) ∧ sx_w sx_r64 (N g.1 g.2.1)) (hm : m < 11) (hZ : rl_Z P Z) (hb : Z 10 = b) (hpv : sx_val Z P.2.2.2.1.2 = (pv : Int)) (hmok : sx_mok cl_ly N) (hF : rl_F P pv M N) (nx : ∀ m', m = m' + 1 → ∀ (Z' : Nat → Int) (N' : Nat → Nat → Int), rl_Z P Z' → Z' 10 = b → sx_val Z' P.2.2.2.1.2 = (pv : Int) → sx_mok cl_ly N' → rl_F P pv M N' → rz_fin (rl_R P pv b M) L xs P.1.1 P.1.2.2 P.1.2.1 (sx_cl1 Z' (rl_lv P m')) [] N') : rz_fin (rl_R P pv b M) L xs P.1.1 P.1.2.2 P.1.2.1 (sx_cl1 Z (rl_lv P m)) [] N := by
  obtain ⟨hg, hwr, hws, hwd, hck⟩ := hck
  have hp128 : P.2.2.2.1.1 < 128 := by
    obtain ⟨-, g1⟩ := sx_an_iff.mp hg
    obtain ⟨-, g1⟩ := sx_an_iff.mp g1
    obtain ⟨g1, -⟩ := sx_an_iff.mp g1
    obtain ⟨-, g1⟩ := sx_an_iff.mp g1
    exact sx_blt g1
  have hpin : rl_in P.2.1.1.length P.2.2.2.1.2 = true := by
    obtain ⟨-, g1⟩ := sx_an_iff.mp hg
    obtain ⟨-, g1⟩ := sx_an_iff.mp g1
    obtain ⟨g1, -⟩ := sx_an_iff.mp g1
    obtain ⟨g1, -⟩ := sx_an_iff.mp g1
    exact (sx_an_iff.mp g1).1
  have h10in : rl_in P.2.1.1.length (10, 0) = true := by
    obtain ⟨-, g1⟩ := sx_an_iff.mp hg
    obtain ⟨-, g1⟩ := sx_an_iff.mp g1
    obtain ⟨-, g1⟩ := sx_an_iff.mp g1
    have h1 := sx_blt (sx_an_iff.mp g1).1
    show (bif Nat.beq 10 0 then true else sx_an (Nat.ble 9 10) (Nat.blt 10 (9 + P.2.1.1.length))) = true
    have : Nat.blt 10 (9 + P.2.1.1.length) = true := Nat.ble_eq_true_of_le (by omega)
    rw [this]
    rfl
  obtain ⟨c1, c2⟩ := sx_an_iff.mp (List.all_eq_true.mp hck m (List.mem_range.mpr hm))
  obtain ⟨ρ, st, n1, h0, he⟩ := rl_sat (xs := xs) hg hL hmok hZ hf
  have hlt : ∀ a, rl_in P.2.1.1.length a = true → a.1 < (rl_t P).1 := fun a ha => rl_lt (P := P) (by rw [n1]; omega) ha
  rw [← rl_cl (rl_lvin hg m) he]
  refine rl_use hz hW hall c2 st (rl_okl c1 (rl_lvin hg m) (by rw [n1]; omega) h0 hZ he) (Nat.le_refl _) (fun o ρ' M' rec x hs => ?_)
  have he' : ∀ a, rl_in P.2.1.1.length a = true → sx_val ρ' a = sx_val Z a := fun a ha => by rw [sx_ext_val x (hlt a ha), he a ha]
  have ep := he' _ hpin
  have toF : rl_m P.2.2.2.2.1.1 (rl_al P) (rl_t P) o.2.2.2.2 = true → rl_F P pv M M' := fun h a i ha hmo hp hal => by
    have hfr := rl_m_ok st x hs h
    rw [hfr a i ha hmo (fun q hq e1 e2 => ?_)]
    · exact hF a i ha hmo hp hal
    · rcases List.mem_cons.mp hq with rfl | hq
      · refine hp ⟨e1.symm, ?_⟩
        rw [e2, ep, hpv, Int.toNat_natCast]
      · obtain ⟨p, hp9, rfl⟩ := List.mem_map.mp hq
        refine hal p hp9 e1 ?_
        rw [e2]
        show p.2 = (sx_val ρ' (0, (p.2 : Int))).toNat
        rw [og_c hs.2.1, Int.toNat_natCast]
  unfold rl_rec at rec
  cases eo : o.1 with
  | some r =>
    cases r with
    | none => rw [eo] at rec; cases rec
    | some v =>
      rw [eo] at rec
      obtain ⟨r1, r2⟩ := sx_an_iff.mp rec
      obtain ⟨r1, r3⟩ := sx_an_iff.mp r1
      obtain ⟨r2, r4⟩ := sx_an_iff.mp r2
      refine ⟨fun w hw => ?_, fun h => by cases h⟩
      cases hw
      have hr := sx_iv_ok hs v.2
      have hr3 := sx_in_iff.mp r3
      refine ⟨sx_val ρ' v.2, ?_, ⟨Int.le_trans hr3.1 hr.1, Int.le_trans hr.2 hr3.2⟩, hs.2.2.2.2.2.1, toF r2, ?_⟩
      · show some (sx_cv1 ρ' v) = _
        rw [sx_cvk0 (sx_nbeq.mp r1)]
      · cases e7 : sx_kn (fun _ _ => none) o.2.2.2.2 P.2.2.2.1.1 P.2.2.2.1.2 with
        | none => rw [e7] at r4; cases r4
        | some u =>
          rw [e7] at r4
          obtain ⟨k1, -⟩ := sx_kn_ok hs hp128 (by rw [ep, hpv]; omega) (fun c _ h9 => by cases h9) e7
          rw [ep, hpv, Int.toNat_natCast] at k1
          rw [k1, sx_ae_iff.mp r4, he' _ h10in]
          show Z 10 + 0 = b
          rw [Int.add_zero, hb]
  | none =>
    rw [eo] at rec
    refine ⟨(fun v hv => by cases hv), fun _ hokl => ?_⟩
    cases m with
    | zero => cases rec
    | succ m =>
      obtain ⟨r1, r2⟩ := sx_an_iff.mp (show rl_go P m (rl_al P) P.2.2.2.2.1.1 (rl_t P) o = true from rec)
      obtain ⟨r1, r3⟩ := sx_an_iff.mp r1
      obtain ⟨r2, r4⟩ := sx_an_iff.mp r2
      obtain ⟨r2, r5⟩ := sx_an_iff.mp r2
      obtain ⟨Z', z1, z2, z3⟩ := rl_new hg hs.2.1 hokl hZ he' r2 r5 hwr hws hwd
      obtain ⟨y1, y2⟩ := rl_pv hg hwr z2
      have est : sx_cs1 ρ' o.2.2.2.1 = [] := by rw [List.eq_nil_of_length_eq_zero (sx_nbeq.mp r3)]; rfl
      refine ⟨_, z3, ?_⟩
      rw [est, sx_nbeq.mp r1]
      exact nx m rfl Z' M' z1 (y2.trans hb) (y1.trans hpv) hs.2.2.2.2.2.1 (toF r4)
theorem rl_loop {P : rl_P} {cts : List (Nat × ct_C)} (hck : rl_ck P cts) (hz : ∀ M M' : Nat → Nat → Int, (∀ z ∈ cz_zs, M' z = M z) → WF M → WF M') (hall : ∀ c ∈ cts, cc WF L xs c.1 c.2) (hL : L < 2 ^ 31) (hW : ∀ N, rl_F P pv M N → WF N) (hf : ∀ N, sx_mok cl_ly N → rl_F P pv M N → ∀ g ∈ P.2.1.2, sx_w g.2.2 (N g.1 g.2.1) ∧ sx_w sx_r64 (N g.1 g.2.1)) : ∀ (m : Nat) (Z : Nat → Int) (N : Nat → Nat → Int), m < 11 → rl_Z P Z → Z 10 = b → sx_val Z P.2.2.2.1.2 = (pv : Int) → sx_mok cl_ly N → rl_F P pv M N → rz_fin (rl_R P pv b M) L xs P.1.1 P.1.2.2 P.1.2.1 (sx_cl1 Z (rl_lv P m)) [] N := by
  intro m
  induction m with
  | zero =>
    intro Z N hm hZ hb hpv hmok hF
    exact rl_step hck hz hall hL (hW N hF) (hf N hmok hF) hm hZ hb hpv hmok hF (fun m' h => by omega)
  | succ m ih =>
    intro Z N hm hZ hb hpv hmok hF
    refine rl_step hck hz hall hL (hW N hF) (hf N hmok hF) hm hZ hb hpv hmok hF (fun m' h Z' N' a1 a2 a3 a4 a5 => ?_)
    have e : m' = m := by omega
    subst e
    exact ih Z' N' (by omega) a1 a2 a3 a4 a5
-- the way in
noncomputable def rl_te (P : rl_P) : sx_S := jt_ad P.2.2.2.1.1 P.2.2.2.1.2 (10, 0) (rl_t P)
noncomputable def rl_re (P : rl_P) (o : sx_P) : Bool := match o.1 with
  | some _ => false
  | none => rl_go P 10 [] [] (rl_te P) o
noncomputable def rl_ce (P : rl_P) (lvA : sx_L) : Bool := sx_an (sx_an (lvA.all rl_okc) (lvA.all fun q => rl_in P.2.1.1.length q.2.2)) (rl_seg [] (fun pc => Nat.beq pc P.1.2.1) (rl_re P) 3000 3000 P.1.2.2 P.1.1 0 lvA (rl_te P))
theorem rl_all {P : rl_P} {cts : List (Nat × ct_C)} {lvA : sx_L} (hck : rl_ck P cts) (hce : rl_ce P lvA = true) (hz : ∀ M M' : Nat → Nat → Int, (∀ z ∈ cz_zs, M' z = M z) → WF M → WF M') (hall : ∀ c ∈ cts, cc WF L xs c.1 c.2) (hL : L < 2 ^ 31) (hW : ∀ N, rl_F P pv M N → WF N) (hf : ∀ N, sx_mok cl_ly N → rl_F P pv M N → ∀ g ∈ P.2.1.2, sx_w g.2.2 (N g.1 g.2.1) ∧ sx_w sx_r64 (N g.1 g.2.1)) (hZ : rl_Z P Z) (hpv : sx_val Z P.2.2.2.1.2 = (pv : Int)) (hb : Z 10 = M P.2.2.2.1.1 pv) (hm : sx_mok cl_ly M) : rz_fin (rl_R P pv (M P.2.2.2.1.1 pv) M) L xs P.1.1 P.1.2.2 0 (sx_cl1 Z lvA) [] M := by
  have hck0 := hck
  obtain ⟨hg, hwr, hws, hwd, -⟩ := hck0
  have hF0 : rl_F P pv M M := fun _ _ _ _ _ _ => rfl
  obtain ⟨ce, c2⟩ := sx_an_iff.mp hce
  obtain ⟨c1, c3⟩ := sx_an_iff.mp ce
  have hin : ∀ q ∈ lvA, rl_in P.2.1.1.length q.2.2 = true := fun q hq => List.all_eq_true.mp c3 q hq
  have hp128 : P.2.2.2.1.1 < 128 := by
    obtain ⟨-, g1⟩ := sx_an_iff.mp hg
    obtain ⟨-, g1⟩ := sx_an_iff.mp g1
    obtain ⟨g1, -⟩ := sx_an_iff.mp g1
    obtain ⟨-, g1⟩ := sx_an_iff.mp g1
    exact sx_blt g1
  have hpin : rl_in P.2.1.1.length P.2.2.2.1.2 = true := by
    obtain ⟨-, g1⟩ := sx_an_iff.mp hg
    obtain ⟨-, g1⟩ := sx_an_iff.mp g1
    obtain ⟨g1, -⟩ := sx_an_iff.mp g1
    obtain ⟨g1, -⟩ := sx_an_iff.mp g1
    exact (sx_an_iff.mp g1).1
  have h10in : rl_in P.2.1.1.length (10, 0) = true := by
    obtain ⟨-, g1⟩ := sx_an_iff.mp hg
    obtain ⟨-, g1⟩ := sx_an_iff.mp g1
    obtain ⟨-, g1⟩ := sx_an_iff.mp g1
    have h1 := sx_blt (sx_an_iff.mp g1).1
    show (bif Nat.beq 10 0 then true else sx_an (Nat.ble 9 10) (Nat.blt 10 (9 + P.2.1.1.length))) = true
    have : Nat.blt 10 (9 + P.2.1.1.length) = true := Nat.ble_eq_true_of_le (by omega)
    rw [this]
    rfl
  obtain ⟨ρ, st, n1, h0, he⟩ := rl_sat (xs := xs) hg hL hm hZ (hf M hm hF0)
  have hlt : ∀ a, rl_in P.2.1.1.length a = true → a.1 < (rl_t P).1 := fun a ha => rl_lt (P := P) (by rw [n1]; omega) ha
  have st2 : sx_sat cl_ly (0, -100) xs L M ρ M (rl_te P) := jt_ad_ok st hp128 (hlt _ hpin) (by rw [he _ hpin, hpv]; omega) (hlt _ h10in) (by
    rw [he _ hpin, hpv, Int.toNat_natCast, he _ h10in]
    show _ = Z 10 + 0
    rw [Int.add_zero, hb])
  rw [← rl_cl hin he]
  refine rl_use hz (hW M hF0) (cts := []) (fun c hc => by cases hc) c2 st2 (rl_okl c1 hin (by show 9 + P.2.1.1.length ≤ (rl_t P).1; rw [n1]; omega) h0 hZ he) (Nat.le_refl _) (fun o ρ' M' rec x hs => ?_)
  have x : sx_ext (rl_t P).1 ρ ρ' := x
  have he' : ∀ a, rl_in P.2.1.1.length a = true → sx_val ρ' a = sx_val Z a := fun a ha => by rw [sx_ext_val x (hlt a ha), he a ha]
  unfold rl_re at rec
  cases eo : o.1 with
  | some r => rw [eo] at rec; cases rec
  | none =>
    rw [eo] at rec
    refine ⟨fun v hv => (by cases hv), fun _ hokl => ?_⟩
    obtain ⟨r1, r2⟩ := sx_an_iff.mp rec
    obtain ⟨r1, r3⟩ := sx_an_iff.mp r1
    obtain ⟨r2, r4⟩ := sx_an_iff.mp r2
    obtain ⟨r2, r5⟩ := sx_an_iff.mp r2
    obtain ⟨Z', z1, z2, z3⟩ := rl_new hg hs.2.1 hokl hZ he' r2 r5 hwr hws hwd
    obtain ⟨y1, y2⟩ := rl_pv hg hwr z2
    have est : sx_cs1 ρ' o.2.2.2.1 = [] := by rw [List.eq_nil_of_length_eq_zero (sx_nbeq.mp r3)]; rfl
    refine ⟨_, z3, ?_⟩
    rw [est, sx_nbeq.mp r1]
    have hfr := rl_m_ok st2 x hs r4
    exact rl_loop hck hz hall hL hW hf 10 Z' M' (by decide) z1 (y2.trans hb) (y1.trans hpv) hs.2.2.2.2.2.1 (fun a i ha _ _ _ => hfr a i ha (fun h => by cases h) (fun q hq => by cases hq))
end
