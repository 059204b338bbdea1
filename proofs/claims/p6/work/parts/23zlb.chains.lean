/-! The reference's parser: product, sum, compared, both, either. -/
section
variable {L : Nat} {xs : Nat → Int32} {M M' M0 M1 M2 M3 M4 : Nat → Nat → Int} {ρ ρ' : Nat → Int} {t : sx_S} {k ov z : Int} {Q R : Option Value → (Nat → Nat → Int) → Prop}
def yr_S (L : Nat) (xs : Nat → Int32) (j d : Nat) (Rel : (Nat → Nat → Int) → (Nat → Nat → Int) → Prop) (ov : Int) : Prop := ∀ M, ps_P M → M 53 24 = ov → rz_fin (fun r M' => r = none ∧ Rel M M') L xs j d 0 [(0, .ref 53)] [] M
theorem yr_go0 {j k d d' pc ix : Nat} {lv : sm_V} (hf : (sm_MT j).2.2.2.2.2 pc = some (.invokevirtual ix, 3)) (hc : sx_call cl_ly (sm_LK (sm_MT j).1) (fun k => (sm_MT k).2.2.2.1) (.invokevirtual ix) [(2, 0, 53)] = some (k, [(2, 0, 53)], [])) (hk1 : 1 ≤ (sm_MT k).2.1) (hd : d ≤ d') (hS : rz_fin R L xs k d 0 [(0, .ref 53)] [] M) (next : ∀ r M', R r M' → rz_fin Q L xs j (d' + 1) (pc + 3) lv (r.toList ++ []) M') : rz_fin Q L xs j (d' + 1) pc lv [.ref 53] M := by
  have hok : sx_oks (fun _ => 0) 1 [(2, 0, 53)] := fun v hv => by
    rw [List.mem_singleton.mp hv]
    exact ⟨Nat.lt_succ_self _, (fun h => by cases h), fun h => by cases h⟩
  have c1 := (sx_call_ok (ρ := fun _ => 0) (M := M) (lay := cl_lay) (rf := cl_rf) cl_lok hok hc).1
  exact rz_callv (k := k) (as := [.ref 53]) (rest := []) hf c1 ⟨Nat.zero_le _, hk1⟩ (rz_d hd hS) next
theorem yr_call {j k d d' pc ix : Nat} {lv : sm_V} {Rel : (Nat → Nat → Int) → (Nat → Nat → Int) → Prop} (hf : (sm_MT j).2.2.2.2.2 pc = some (.invokevirtual ix, 3)) (hc : sx_call cl_ly (sm_LK (sm_MT j).1) (fun k => (sm_MT k).2.2.2.1) (.invokevirtual ix) [(2, 0, 53)] = some (k, [(2, 0, 53)], [])) (hk1 : 1 ≤ (sm_MT k).2.1) (hd : d ≤ d') (hS : yr_S L xs k d Rel ov) (hP : ps_P M) (ho : M 53 24 = ov) (next : ∀ M', Rel M M' → rz_fin Q L xs j (d' + 1) (pc + 3) lv [] M') : rz_fin Q L xs j (d' + 1) pc lv [.ref 53] M :=
  yr_go0 hf hc hk1 hd (hS M hP ho) (fun r M' h => by
    obtain ⟨rfl, h⟩ := h
    exact next M' h)
theorem yr_T_lt (h0 : 0 ≤ M 53 22) (h : M 53 22 < M 53 21) : yr_T M (M 53 22).toNat = M 66 (M 53 22).toNat := by
  unfold yr_T
  rw [if_pos (by omega)]
theorem yr_T_ge (h : M 53 22 = M 53 21) (h0 : 0 ≤ M 53 22) : yr_T M (M 53 22).toNat = -1 := by
  unfold yr_T
  rw [if_neg (by omega)]
/-- nothing was changed -/
def ya_N : List og_T := [(none, none, [], [], [], [])]
def ya_T (pc2 : Nat) (lv : Int → sx_L) (zs : List Int) : List og_T := (none, none, [], [], [], zs.map fun z => (7, (15, 0), (0, 0), z, 0)) :: zs.map fun z => (some pc2, none, [(2, 0, 53)], lv z, [(53, (0, 22), (11, 1))], [og_b 15 z z])
noncomputable def ya_c1 (j pc2 d : Nat) (lv : Int → sx_L) (zs : List Int) : Bool := gs_chk (fun pc => Nat.beq pc pc2) (fun u => (ya_T pc2 lv zs).any (og_chk (yz_l (0, 0) (-1, -1) (-128, 127)) u)) 400 400 d j 4 [(0, 2, 0, 53)] [] (yz_l (0, 0) (-1, -1) (-128, 127))
noncomputable def ya_ce (j pc2 d : Nat) : Bool := gs_chk (fun pc => Nat.beq pc pc2) (fun u => ya_N.any (og_chk (yz_e (0, 0) (-1, -1)) u)) 400 400 d j 4 [(0, 2, 0, 53)] [] (yz_e (0, 0) (-1, -1))
noncomputable def ya_cf (j pc2 d : Nat) : Bool := gs_chk (fun pc => Nat.beq pc pc2) (fun u => ya_N.any (og_chk (yz_t (0, 0) (0, 120) (0, 120) (0, 120)) u)) 400 400 d j 4 [(0, 2, 0, 53)] [] (yz_t (0, 0) (0, 120) (0, 120) (0, 120))
/-- the sign's step -/
def ya_S (ret : Bool) (lv : sx_L) (z : Int) : List og_T := [(bif ret then none else some 4, none, [], bif ret then [] else [(0, 2, 0, 53)], [(53, (0, 25), (14, 1)), (68, (14, 130), (0, 0)), (67, (14, 130), (0, z))], [])]
noncomputable def ya_c2 (ret : Bool) (j pc2 d : Nat) (lv : sx_L) (zs : List Int) : Bool := zs.all fun z => gs_chk (fun pc => Nat.beq pc 4) (fun u => (ya_S ret lv z).any (og_chk (yz_t (z, z) (0, 120) (0, 120) (-1, 120)) u)) 400 400 d j (pc2 + 3) lv [] (yz_t (z, z) (0, 120) (0, 120) (-1, 120))
theorem yz_sat {g a b f : Int × Int} (hL : L < 2 ^ 31) (hok : pz_ok M) (hg : sx_w g z) (z32 : sx_w sx_r32 z) (ha : sx_w a (M 53 21)) (hb : sx_w b (M 53 22)) (hf : sx_w f (M 53 23)) : ∃ ρ : Nat → Int, sx_sat cl_ly (0, -100) xs L M ρ M (yz_t g a b f) ∧ (yz_t g a b f).1 = 15 ∧ ρ 9 = z ∧ ρ 10 = M 53 21 ∧ ρ 11 = M 53 22 ∧ ρ 12 = M 53 23 ∧ ρ 13 = M 53 24 ∧ ρ 14 = M 53 25 := by
  obtain ⟨p1, p2, p3, p4, p5, p6, p7, p8, p9⟩ := hok
  have hT := pz_T p1
  obtain ⟨ρ1, s1, n1, e1, e2⟩ := og_sat (xs := xs) (gs := [(0, g)]) (zs := [z]) (fs := yz_f a b f) hL p1 ⟨⟨Nat.zero_le _, hg, fun _ => z32, sx_32_64 z32⟩, trivial⟩ (fun q hq => by
    simp only [yz_f, List.mem_cons, List.not_mem_nil, or_false] at hq
    rcases hq with rfl | rfl | rfl | rfl | rfl
    · exact ⟨Nat.le_of_ble_eq_true rfl, ha, yz_w64 (x := M 53 21) (by omega) (by omega)⟩
    · exact ⟨Nat.le_of_ble_eq_true rfl, hb, yz_w64 (x := M 53 22) (by omega) (by omega)⟩
    · exact ⟨Nat.le_of_ble_eq_true rfl, hf, yz_w64 (x := M 53 23) (by omega) (by omega)⟩
    · exact ⟨Nat.le_of_ble_eq_true rfl, ⟨p6, p7⟩, yz_w64 (x := M 53 24) (by omega) (by omega)⟩
    · exact ⟨Nat.le_of_ble_eq_true rfl, ⟨p8, p9⟩, yz_w64 (x := M 53 25) (by omega) (by omega)⟩)
  exact ⟨ρ1, s1, n1, e1 0 _ rfl, e2 0 _ rfl, e2 1 _ rfl, e2 2 _ rfl, e2 3 _ rfl, e2 4 _ rfl⟩
/-- here goes on by one -/
theorem yr_hd (h0 : ρ 0 = 0) (q11 : ρ 11 = M 53 22) (hlt : M 53 22 < M 53 21) (hm : sx_mok cl_ly M') (hM : ∀ a, a < 128 → M' a = og_up ρ [(53, (0, 22), (11, 1))] M a) : ps_hd M M' := by
  have hM : ∀ a, a < 128 → M' a = sx_up M 53 (sx_val ρ (0, ((22 : Nat) : Int))).toNat (sx_val ρ (11, 1)) a := hM
  rw [yw_n h0, og_vv (c := 1) q11] at hM
  have h53 : ∀ k, M' 53 k = if k = 22 then M 53 22 + 1 else M 53 k := fun k => by
    rw [hM 53 (by decide)]; simp [sx_up]
  have hoth : ∀ a, a < 128 → a ≠ 53 → M' a = M a := fun a ha g => by rw [hM a ha, sh_une g]
  refine ⟨hm, fun a i ha hmm hp => ?_, h53 22, by rw [h53 22]; show M 53 22 + 1 ≤ _; omega, h53 23, h53 24, h53 25, hoth 67 (by decide) (by decide), hoth 68 (by decide) (by decide)⟩
  by_cases e : a = 53
  · subst e
    rw [h53, if_neg (fun e => hp (53, 22, sx_r32) (by simp [ps_c]) rfl e.symm)]
  · rw [hoth a ha e]
/-- a step is laid -/
theorem yr_ad (h0 : ρ 0 = 0) (q14 : ρ 14 = M 53 25) (hl : 0 ≤ M 53 25) (hm : sx_mok cl_ly M') (hM : ∀ a, a < 128 → M' a = og_up ρ [(53, (0, 25), (14, 1)), (68, (14, 130), (0, 0)), (67, (14, 130), (0, z))] M a) : ps_ad z M M' := by
  have hM : ∀ a, a < 128 → M' a = sx_up (sx_up (sx_up M 67 (sx_val ρ (14, 130)).toNat (sx_val ρ (0, z))) 68 (sx_val ρ (14, 130)).toNat (sx_val ρ (0, 0))) 53 (sx_val ρ (0, ((25 : Nat) : Int))).toNat (sx_val ρ (14, 1)) a := hM
  rw [yw_n h0, og_vv (c := 1) q14, og_vv (c := 130) q14, og_c h0, og_c h0] at hM
  have ee : (M 53 25 + 130).toNat = (130 + M 53 25).toNat := by omega
  rw [ee] at hM
  have h53 : ∀ k, M' 53 k = if k = 25 then M 53 25 + 1 else M 53 k := fun k => by
    rw [hM 53 (by decide)]; simp [sx_up]
  have h67 : ∀ k, M' 67 k = if k = (130 + M 53 25).toNat then z else M 67 k := fun k => by
    rw [hM 67 (by decide)]; simp [sx_up]
  have h68 : ∀ k, M' 68 k = if k = (130 + M 53 25).toNat then 0 else M 68 k := fun k => by
    rw [hM 68 (by decide)]; simp [sx_up]
  have hoth : ∀ a, a < 128 → a ≠ 53 → a ≠ 67 → a ≠ 68 → M' a = M a := fun a ha g1 g2 g3 => by rw [hM a ha, sh_une g1, sh_une g3, sh_une g2]
  refine ⟨hm, fun a i ha hmm hp => ?_, h53 22, h53 23, h53 24, h53 25, by rw [h67, if_pos rfl], fun i hi => ⟨by rw [h67, if_neg (by omega)], by rw [h68, if_neg (by omega)]⟩⟩
  by_cases e : a = 53
  · subst e
    rw [h53, if_neg (fun e => hp (53, 25, sx_r32) (by simp [ps_c]) rfl e.symm)]
  · rw [hoth a ha e (fun h => hmm (by rw [h]; simp [ps_c])) (fun h => hmm (by rw [h]; simp [ps_c]))]
theorem ya_nd0 : (ya_N.all fun T => mt_nd (T.2.2.2.1.map fun q => q.1)) = true := rfl
theorem ya_okl {n : Nat} {lv : sx_L} (hc : ∀ c, sx_ok ρ n (2, 0, c)) (h : 9 < n) (r9 : ρ 9 = z) (z32 : sx_w sx_r32 z) (hlv : lv = [(0, 2, 0, 53)] ∨ lv = [(0, 2, 0, 53), (1, 0, 9, 0)]) : sx_okl ρ n lv := by
  intro q hq
  rcases hlv with rfl | rfl
  · rw [List.mem_singleton.mp hq]
    exact hc _
  · simp only [List.mem_cons, List.not_mem_nil, or_false] at hq
    rcases hq with rfl | rfl
    · exact hc _
    · exact tk_ok0 h (by rw [r9]; exact z32)
/-- the walk from the head: it ends, or a sign of this rank was read -/
theorem ya_head {j pc2 d : Nat} {lv : Int → sx_L} {zs : List Int} (hL : L < 2 ^ 31) (h1 : ya_c1 j pc2 d lv zs = true) (he : ya_ce j pc2 d = true) (hf : ya_cf j pc2 d = true) (hnd : (zs.all fun z => mt_nd ((lv z).map fun q => q.1)) = true) (hok : pz_ok M) (k0 : ∀ M', sx_mok cl_ly M' → (∀ a, a < 128 → M' a = M a) → (M 53 23 = -1 → yr_T M (M 53 22).toNat ∉ zs) → Q none M') (k1 : ∀ z ∈ zs, ∀ (ρ' : Nat → Int) (M' : Nat → Nat → Int), ρ' 0 = 0 → ρ' 15 = z → M 53 23 = -1 → yr_T M (M 53 22).toNat = z → ps_hd M M' → rz_fin Q L xs j d pc2 (sx_cl1 ρ' (lv z)) [.ref 53] M') (hzs : -1 ∉ zs) : rz_fin Q L xs j d 4 [(0, .ref 53)] [] M := by
  obtain ⟨p1, p2, p3, p4, p5, p6, p7, p8, p9⟩ := id hok
  have hT := pz_T p1
  by_cases hfl : M 53 23 = -1
  · by_cases hlt : M 53 22 < M 53 21
    · have w66 : sx_w (-128, 127) (M 66 (M 53 22).toNat) := p1 66 _ _ _ rfl (by show (M 53 22).toNat < 120; omega) rfl
      obtain ⟨ρ, s, n1, r9, r10, r11, r12, r13, r14, r15⟩ := yz_lsat (xs := xs) (z := 0) (g := (0, 0)) (f := (-1, -1)) (p := (-128, 127)) hL hok hlt ⟨by decide, by decide⟩ sx_w0 (by rw [hfl]; exact ⟨by decide, by decide⟩) w66
      have eT := yr_T_lt p2 hlt
      refine og_use (Ts := ya_T pc2 lv zs) (lv := [(0, 2, 0, 53)]) (s := []) h1 (by
        unfold ya_T
        rw [List.all_cons, List.all_map]
        exact (Bool.and_eq_true_iff.mpr ⟨rfl, hnd⟩)) s (fun q hq => by rw [List.mem_singleton.mp hq]; exact sx_ck2 s _) (fun v hv => by cases hv) (Nat.le_refl _) rfl rfl (fun T hT' ρ' M' x h0 hm' hc hM => ?_)
      rw [n1] at x
      have q11 := og_v x (show 11 < 16 by decide) r11
      have q15 := og_v x (show 15 < 16 by decide) r15
      unfold ya_T at hT'
      rcases List.mem_cons.mp hT' with rfl | hT'
      · refine k0 M' hm' hM (fun _ hz => ?_)
        rw [eT] at hz
        have key : ∀ (l : List Int), og_cs ρ' M' (l.map fun z => ((7, (15, 0), (0, 0), z, 0) : og_D)) → M 66 (M 53 22).toNat ∉ l := by
          intro l
          induction l with
          | nil => intro _ h; cases h
          | cons y l ih =>
            intro h hy
            obtain ⟨c1, c2⟩ := h
            have c1 : ρ' 15 ≠ y := c1
            rcases List.mem_cons.mp hy with e | hy
            · exact c1 (q15.trans e)
            · exact ih c2 hy
        exact key zs hc hz
      · obtain ⟨z, hz, rfl⟩ := List.mem_map.mp hT'
        obtain ⟨⟨c1, c2⟩, -⟩ := hc
        have c1 : z ≤ sx_val ρ' (15, 0) := c1
        have c2 : sx_val ρ' (15, 0) ≤ z := c2
        have ez : ρ' 15 = z := by
          rw [og_v0 q15] at c1 c2
          rw [q15]
          omega
        exact k1 z hz ρ' M' h0 ez hfl (by rw [eT, ← q15, ez]) (yr_hd h0 q11 hlt hm' hM)
    · have hee : M 53 22 = M 53 21 := by omega
      obtain ⟨ρ, s, n1, -⟩ := yz_esat (xs := xs) (z := 0) (g := (0, 0)) (f := (-1, -1)) hL hok hee ⟨by decide, by decide⟩ sx_w0 (by rw [hfl]; exact ⟨by decide, by decide⟩)
      refine og_use (Ts := ya_N) (lv := [(0, 2, 0, 53)]) (s := []) he ya_nd0 s (fun q hq => by rw [List.mem_singleton.mp hq]; exact sx_ck2 s _) (fun v hv => by cases hv) (Nat.le_refl _) rfl rfl (fun T hT' ρ' M' x h0 hm' hc hM => ?_)
      rw [List.mem_singleton.mp hT'] at hM ⊢
      exact k0 M' hm' hM (fun _ => by rw [yr_T_ge hee p2]; exact hzs)
  · obtain ⟨ρ, s, n1, -⟩ := yz_sat (xs := xs) (z := 0) (g := (0, 0)) (a := (0, 120)) (b := (0, 120)) (f := (0, 120)) hL hok ⟨by decide, by decide⟩ sx_w0 hT ⟨p2, by show M 53 22 ≤ (120 : Int); omega⟩ ⟨by show (0 : Int) ≤ M 53 23; omega, p5⟩
    refine og_use (Ts := ya_N) (lv := [(0, 2, 0, 53)]) (s := []) hf ya_nd0 s (fun q hq => by rw [List.mem_singleton.mp hq]; exact sx_ck2 s _) (fun v hv => by cases hv) (Nat.le_refl _) rfl rfl (fun T hT' ρ' M' x h0 hm' hc hM => ?_)
    rw [List.mem_singleton.mp hT'] at hM ⊢
    exact k0 M' hm' hM (fun h => absurd h hfl)
/-- behind the second call -/
theorem ya_step {j pc2 d : Nat} {ret : Bool} {l : sx_L} {zs : List Int} (hL : L < 2 ^ 31) (h2 : ya_c2 ret j pc2 d l zs = true) (hz : z ∈ zs) (z32 : sx_w sx_r32 z) (hl : l = [(0, 2, 0, 53)] ∨ l = [(0, 2, 0, 53), (1, 0, 9, 0)]) (hok : pz_ok M) {V : sm_V} (eV : ∀ ρ : Nat → Int, ρ 9 = z → sx_cl1 ρ l = V) (k : ∀ M', ps_ad z M M' → bif ret then Q none M' else rz_fin Q L xs j d 4 [(0, .ref 53)] [] M') : rz_fin Q L xs j d (pc2 + 3) V [] M := by
  obtain ⟨p1, p2, p3, p4, p5, p6, p7, p8, p9⟩ := id hok
  have hT := pz_T p1
  obtain ⟨ρ, s, n1, r9, r10, r11, r12, r13, r14⟩ := yz_sat (xs := xs) (z := z) (g := (z, z)) (a := (0, 120)) (b := (0, 120)) (f := (-1, 120)) hL hok ⟨Int.le_refl _, Int.le_refl _⟩ z32 hT ⟨p2, by show M 53 22 ≤ (120 : Int); omega⟩ ⟨p4, p5⟩
  refine og_use (Ts := ya_S ret l z) (lv := l) (s := []) (List.all_eq_true.mp h2 z hz) (by cases ret <;> rfl) s (ya_okl (fun c => sx_ck2 s c) (by rw [n1]; decide) r9 z32 hl) (fun v hv => by cases hv) (Nat.le_refl _) (eV ρ r9) rfl (fun T hT' ρ' M' x h0 hm' hc hM => ?_)
  rw [n1] at x
  have q14 := og_v x (show 14 < 15 by decide) r14
  rw [List.mem_singleton.mp hT'] at hM ⊢
  have had := yr_ad h0 q14 p8 hm' hM
  have k := k M' had
  cases ret with
  | true => exact k
  | false => exact k
theorem ps_nx (hP : ps_P M0) (h1 : ps_R M0 M1) (hf : M1 53 23 = -1) (h2 : ps_hd M1 M2) : ps_P M2 ∧ M2 53 24 = M0 53 24 := by
  refine ⟨ps_next hP h1 hf h2, ?_⟩
  obtain ⟨-, -, -, -, -, b6, -⟩ := h2
  obtain ⟨-, -, -, -, -, -, a7⟩ := h1
  rw [b6]
  rcases a7 with ⟨q1, q2, -⟩ | ⟨q1, -⟩
  · exact q2
  · omega
theorem ya_all {j k' d pc2 ix1 ix2 : Nat} {lv : Int → sx_L} {l : sx_L} {zs : List Int} {V : Int → sm_V} (hL : L < 2 ^ 31) (hk : 1 ≤ k) (h3k : k ≠ 3) (f0 : (sm_MT j).2.2.2.2.2 0 = some (.aload_n 0, 1)) (f1 : (sm_MT j).2.2.2.2.2 1 = some (.invokevirtual ix1, 3)) (c1 : sx_call cl_ly (sm_LK (sm_MT j).1) (fun k => (sm_MT k).2.2.2.1) (.invokevirtual ix1) [(2, 0, 53)] = some (k', [(2, 0, 53)], [])) (f2 : (sm_MT j).2.2.2.2.2 pc2 = some (.invokevirtual ix2, 3)) (c2 : sx_call cl_ly (sm_LK (sm_MT j).1) (fun k => (sm_MT k).2.2.2.1) (.invokevirtual ix2) [(2, 0, 53)] = some (k', [(2, 0, 53)], [])) (hk1 : 1 ≤ (sm_MT k').2.1) (h1 : ya_c1 j pc2 (d + 1) lv zs = true) (he : ya_ce j pc2 (d + 1) = true) (hf : ya_cf j pc2 (d + 1) = true) (h2 : ya_c2 false j pc2 (d + 1) l zs = true) (hnd : (zs.all fun z => mt_nd ((lv z).map fun q => q.1)) = true) (hl : l = [(0, 2, 0, 53)] ∨ l = [(0, 2, 0, 53), (1, 0, 9, 0)]) (hV1 : ∀ z, ∀ ρ : Nat → Int, ρ 0 = 0 → ρ 15 = z → sx_cl1 ρ (lv z) = V z) (hV2 : ∀ z, ∀ ρ : Nat → Int, ρ 9 = z → sx_cl1 ρ l = V z) (hzs : ∀ z, z ∈ zs ↔ yk_rank z = k) (z32 : ∀ z ∈ zs, sx_w sx_r32 z) (hS : yr_S L xs k' d (yr_C (k + 1) (k + 1)) ov) : yr_S L xs j (d + 1) (yr_C k k) ov := by
  intro M hP ho
  have hm1 : -1 ∉ zs := fun h => by
    have e := (hzs (-1)).mp h
    have : yk_rank (-1) = 0 := rfl
    omega
  have step : ∀ (M1 : Nat → Nat → Int), yr_C k (k + 1) M M1 → (∀ M4, yr_C k (k + 1) M M4 → M1 53 22 < M4 53 22 → rz_fin (fun r M' => r = none ∧ yr_C k k M M') L xs j (d + 1) 4 [(0, .ref 53)] [] M4) → rz_fin (fun r M' => r = none ∧ yr_C k k M M') L xs j (d + 1) 4 [(0, .ref 53)] [] M1 := by
    intro M1 hR ih
    have eT : yr_T M1 = yr_T M := yr_T_on hR.1.2.1
    refine ya_head hL h1 he hf hnd (ps_okM hP hR.1) (fun M' hm' hM hz => ⟨rfl, ?_⟩) (fun z hz ρ' M2 h0 e15 hf1 eT1 hhd => ?_) hm1
    · refine yr_same (yr_dn hR (fun e h => hz e ?_)) hm' hM
      rw [eT]
      exact (hzs _).mpr h
    · rw [hV1 z ρ' h0 e15]
      obtain ⟨hP2, ho2⟩ := ps_nx hP hR.1 hf1 hhd
      refine yr_call f2 c2 hk1 (Nat.le_refl _) hS hP2 (ho2.trans ho) (fun M3 hR3 => ?_)
      refine ya_step hL h2 hz (z32 z hz) hl (ps_okM hP2 hR3.1) (hV2 z) (fun M4 h4 => ?_)
      rw [eT] at eT1
      refine ih M4 (yr_bin hk h3k hP hR hf1 eT1 ((hzs z).mp hz) hhd hR3 h4) ?_
      obtain ⟨-, -, b3, -⟩ := hhd
      have c3 := hR3.1.2.2.1
      obtain ⟨-, -, d3, -⟩ := h4
      omega
  have loop : ∀ (n : Nat) (M1 : Nat → Nat → Int), yr_C k (k + 1) M M1 → (M 53 21 - M1 53 22).toNat ≤ n → rz_fin (fun r M' => r = none ∧ yr_C k k M M') L xs j (d + 1) 4 [(0, .ref 53)] [] M1 := by
    intro n
    induction n with
    | zero =>
      intro M1 hR hn
      exact step M1 hR (fun M4 hR4 hlt => by
        have a4 := hR4.1.2.2.2.1
        omega)
    | succ n ih =>
      intro M1 hR hn
      exact step M1 hR (fun M4 hR4 hlt => ih M4 hR4 (by
        have a4 := hR4.1.2.2.2.1
        omega))
  exact rz_al f0 rfl (yr_call f1 c1 hk1 (Nat.le_refl _) hS hP ho (fun M1 hR => loop _ M1 (yr_up hR) (Nat.le_refl _)))
theorem ya_cmp {j k' d pc2 ix1 ix2 : Nat} {lv : Int → sx_L} {l : sx_L} {zs : List Int} {V : Int → sm_V} (hL : L < 2 ^ 31) (f0 : (sm_MT j).2.2.2.2.2 0 = some (.aload_n 0, 1)) (f1 : (sm_MT j).2.2.2.2.2 1 = some (.invokevirtual ix1, 3)) (c1 : sx_call cl_ly (sm_LK (sm_MT j).1) (fun k => (sm_MT k).2.2.2.1) (.invokevirtual ix1) [(2, 0, 53)] = some (k', [(2, 0, 53)], [])) (f2 : (sm_MT j).2.2.2.2.2 pc2 = some (.invokevirtual ix2, 3)) (c2 : sx_call cl_ly (sm_LK (sm_MT j).1) (fun k => (sm_MT k).2.2.2.1) (.invokevirtual ix2) [(2, 0, 53)] = some (k', [(2, 0, 53)], [])) (hk1 : 1 ≤ (sm_MT k').2.1) (h1 : ya_c1 j pc2 (d + 1) lv zs = true) (he : ya_ce j pc2 (d + 1) = true) (hf : ya_cf j pc2 (d + 1) = true) (h2 : ya_c2 true j pc2 (d + 1) l zs = true) (hnd : (zs.all fun z => mt_nd ((lv z).map fun q => q.1)) = true) (hl : l = [(0, 2, 0, 53)] ∨ l = [(0, 2, 0, 53), (1, 0, 9, 0)]) (hV1 : ∀ z, ∀ ρ : Nat → Int, ρ 0 = 0 → ρ 15 = z → sx_cl1 ρ (lv z) = V z) (hV2 : ∀ z, ∀ ρ : Nat → Int, ρ 9 = z → sx_cl1 ρ l = V z) (hzs : ∀ z, z ∈ zs ↔ yk_rank z = 3) (z32 : ∀ z ∈ zs, sx_w sx_r32 z) (hS : yr_S L xs k' d (yr_C 4 4) ov) : yr_S L xs j (d + 1) (yr_C 3 3) ov := by
  intro M hP ho
  have hm1 : -1 ∉ zs := fun h => by
    have e := (hzs (-1)).mp h
    have : yk_rank (-1) = 0 := rfl
    omega
  refine rz_al f0 rfl (yr_call f1 c1 hk1 (Nat.le_refl _) hS hP ho (fun M1 hR => ?_))
  have eT : yr_T M1 = yr_T M := yr_T_on hR.1.2.1
  refine ya_head hL h1 he hf hnd (ps_okM hP hR.1) (fun M' hm' hM hz => ⟨rfl, ?_⟩) (fun z hz ρ' M2 h0 e15 hf1 eT1 hhd => ?_) hm1
  · refine yr_same (yr_dn3 hR (fun e h => hz e ?_)) hm' hM
    rw [eT]
    exact (hzs _).mpr h
  · rw [hV1 z ρ' h0 e15]
    obtain ⟨hP2, ho2⟩ := ps_nx hP hR.1 hf1 hhd
    refine yr_call f2 c2 hk1 (Nat.le_refl _) hS hP2 (ho2.trans ho) (fun M3 hR3 => ?_)
    refine ya_step (ret := true) hL h2 hz (z32 z hz) hl (ps_okM hP2 hR3.1) (hV2 z) (fun M4 h4 => ?_)
    rw [eT] at eT1
    exact ⟨rfl, yr_cmp hP hR hf1 eT1 ((hzs z).mp hz) hhd hR3 h4⟩
-- the parts
def ya_l1 : sx_L := [(0, 2, 0, 53)]
def ya_l2 : sx_L := [(0, 2, 0, 53), (1, 0, 9, 0)]
def ya_k (z : Int) : sx_L := [(0, 2, 0, 53), (1, 0, 0, z)]
def ya_y (_ : Int) : sx_L := [(0, 2, 0, 53), (1, 0, 15, 0)]
def ya_o (_ : Int) : sx_L := [(0, 2, 0, 53)]
def ya_V (z : Int) : sm_V := [(0, .ref 53), (1, .int (Int32.ofInt z))]
def ya_W (_ : Int) : sm_V := [(0, .ref 53)]
theorem ya_Vk (z : Int) (ρ : Nat → Int) (h0 : ρ 0 = 0) (_ : ρ 15 = z) : sx_cl1 ρ (ya_k z) = ya_V z := by
  show [(0, Value.ref 53), (1, sx_cv1 ρ (0, 0, z))] = _
  rw [tk_cv h0]
  rfl
theorem ya_Vy (z : Int) (ρ : Nat → Int) (_ : ρ 0 = 0) (h : ρ 15 = z) : sx_cl1 ρ (ya_y z) = ya_V z := by
  show [(0, Value.ref 53), (1, sx_cv1 ρ (0, 15, 0))] = _
  rw [og_int h]
  rfl
theorem ya_V9 (z : Int) (ρ : Nat → Int) (h : ρ 9 = z) : sx_cl1 ρ ya_l2 = ya_V z := by
  show [(0, Value.ref 53), (1, sx_cv1 ρ (0, 9, 0))] = _
  rw [og_int h]
  rfl
theorem ya_rk {zs : List Int} {k : Int} (h1 : (zs.all fun z => decide (yk_rank z = k)) = true) (h2 : ∀ z, yk_rank z = k → z ∈ zs) (z : Int) : z ∈ zs ↔ yk_rank z = k := ⟨fun h => of_decide_eq_true (List.all_eq_true.mp h1 z h), h2 z⟩
theorem ya_in (z : Int) (h : yk_rank z ≠ 0) : (z = 124 ∧ yk_rank z = 1) ∨ (z = 38 ∧ yk_rank z = 2) ∨ ((z = 60 ∨ z = 61 ∨ z = 62) ∧ yk_rank z = 3) ∨ ((z = 43 ∨ z = 45) ∧ yk_rank z = 4) ∨ ((z = 42 ∨ z = 47 ∨ z = 37) ∧ yk_rank z = 5) := by
  obtain ⟨h1, -⟩ := yk_ops h
  simp only [yk_sg, List.mem_cons, List.not_mem_nil, or_false] at h1
  rcases h1 with rfl | rfl | rfl | rfl | rfl | rfl | rfl | rfl | rfl | rfl | rfl | rfl | rfl
  all_goals first | decide | exact absurd rfl h
theorem ya_p1 : ((List.range 7).all fun e => sx_an (ya_c1 180 54 (6 * e + 5) ya_k [42, 47, 37]) (sx_an (ya_ce 180 54 (6 * e + 5)) (sx_an (ya_cf 180 54 (6 * e + 5)) (ya_c2 false 180 54 (6 * e + 5) ya_l2 [42, 47, 37])))) = true := by decide +kernel
theorem ya_product (hL : L < 2 ^ 31) {e : Nat} (he : e < 7) (hS : yr_S L xs 181 (6 * e + 4) yr_B ov) : yr_S L xs 180 (6 * e + 5) (yr_C 5 5) ov := by
  obtain ⟨a1, a2⟩ := sx_an_iff.mp (List.all_eq_true.mp ya_p1 e (List.mem_range.mpr he))
  obtain ⟨a2, a3⟩ := sx_an_iff.mp a2
  obtain ⟨a3, a4⟩ := sx_an_iff.mp a3
  exact ya_all (d := 6 * e + 4) (pc2 := 54) (k := 5) (V := ya_V) hL (by decide) (by decide) rfl rfl rfl rfl rfl (Nat.le_of_ble_eq_true rfl) a1 a2 a3 a4 (by decide) (Or.inr rfl) ya_Vk ya_V9 (ya_rk (by decide) (fun z h => by
    have := ya_in z (by omega)
    simp only [List.mem_cons, List.not_mem_nil, or_false]
    omega)) (fun z hz => by
    simp only [List.mem_cons, List.not_mem_nil, or_false] at hz
    exact og_w32 (by omega) (by omega)) (fun M hP ho => by
    obtain ⟨F, r, M', f1, f2, f3⟩ := hS M hP ho
    exact ⟨F, r, M', f1, f2, yr_BC f3 (by decide)⟩)
theorem ya_p2 : ((List.range 7).all fun e => sx_an (ya_c1 179 45 (6 * e + 6) ya_k [43, 45]) (sx_an (ya_ce 179 45 (6 * e + 6)) (sx_an (ya_cf 179 45 (6 * e + 6)) (ya_c2 false 179 45 (6 * e + 6) ya_l2 [43, 45])))) = true := by decide +kernel
theorem ya_sum (hL : L < 2 ^ 31) {e : Nat} (he : e < 7) (hS : yr_S L xs 180 (6 * e + 5) (yr_C 5 5) ov) : yr_S L xs 179 (6 * e + 6) (yr_C 4 4) ov := by
  obtain ⟨a1, a2⟩ := sx_an_iff.mp (List.all_eq_true.mp ya_p2 e (List.mem_range.mpr he))
  obtain ⟨a2, a3⟩ := sx_an_iff.mp a2
  obtain ⟨a3, a4⟩ := sx_an_iff.mp a3
  exact ya_all (d := 6 * e + 5) (pc2 := 45) (k := 4) (V := ya_V) hL (by decide) (by decide) rfl rfl rfl rfl rfl (Nat.le_of_ble_eq_true rfl) a1 a2 a3 a4 (by decide) (Or.inr rfl) ya_Vk ya_V9 (ya_rk (by decide) (fun z h => by
    have := ya_in z (by omega)
    simp only [List.mem_cons, List.not_mem_nil, or_false]
    omega)) (fun z hz => by
    simp only [List.mem_cons, List.not_mem_nil, or_false] at hz
    exact og_w32 (by omega) (by omega)) hS
theorem ya_p3 : ((List.range 7).all fun e => sx_an (ya_c1 178 46 (6 * e + 7) ya_y [60, 61, 62]) (sx_an (ya_ce 178 46 (6 * e + 7)) (sx_an (ya_cf 178 46 (6 * e + 7)) (ya_c2 true 178 46 (6 * e + 7) ya_l2 [60, 61, 62])))) = true := by decide +kernel
theorem ya_compared (hL : L < 2 ^ 31) {e : Nat} (he : e < 7) (hS : yr_S L xs 179 (6 * e + 6) (yr_C 4 4) ov) : yr_S L xs 178 (6 * e + 7) (yr_C 3 3) ov := by
  obtain ⟨a1, a2⟩ := sx_an_iff.mp (List.all_eq_true.mp ya_p3 e (List.mem_range.mpr he))
  obtain ⟨a2, a3⟩ := sx_an_iff.mp a2
  obtain ⟨a3, a4⟩ := sx_an_iff.mp a3
  exact ya_cmp (d := 6 * e + 6) (pc2 := 46) (V := ya_V) hL rfl rfl rfl rfl rfl (Nat.le_of_ble_eq_true rfl) a1 a2 a3 a4 (by decide) (Or.inr rfl) ya_Vy ya_V9 (ya_rk (by decide) (fun z h => by
    have := ya_in z (by omega)
    simp only [List.mem_cons, List.not_mem_nil, or_false]
    omega)) (fun z hz => by
    simp only [List.mem_cons, List.not_mem_nil, or_false] at hz
    exact og_w32 (by omega) (by omega)) hS
theorem ya_p4 : ((List.range 7).all fun e => sx_an (ya_c1 177 31 (6 * e + 8) ya_o [38]) (sx_an (ya_ce 177 31 (6 * e + 8)) (sx_an (ya_cf 177 31 (6 * e + 8)) (ya_c2 false 177 31 (6 * e + 8) ya_l1 [38])))) = true := by decide +kernel
theorem ya_both (hL : L < 2 ^ 31) {e : Nat} (he : e < 7) (hS : yr_S L xs 178 (6 * e + 7) (yr_C 3 3) ov) : yr_S L xs 177 (6 * e + 8) (yr_C 2 2) ov := by
  obtain ⟨a1, a2⟩ := sx_an_iff.mp (List.all_eq_true.mp ya_p4 e (List.mem_range.mpr he))
  obtain ⟨a2, a3⟩ := sx_an_iff.mp a2
  obtain ⟨a3, a4⟩ := sx_an_iff.mp a3
  exact ya_all (d := 6 * e + 7) (pc2 := 31) (k := 2) (V := ya_W) hL (by decide) (by decide) rfl rfl rfl rfl rfl (Nat.le_of_ble_eq_true rfl) a1 a2 a3 a4 (by decide) (Or.inl rfl) (fun _ _ _ _ => rfl) (fun _ _ _ => rfl) (ya_rk (by decide) (fun z h => by
    have := ya_in z (by omega)
    simp only [List.mem_cons, List.not_mem_nil, or_false]
    omega)) (fun z hz => by
    simp only [List.mem_cons, List.not_mem_nil, or_false] at hz
    exact og_w32 (by omega) (by omega)) hS
theorem ya_p5 : ((List.range 7).all fun e => sx_an (ya_c1 176 31 (6 * e + 9) ya_o [124]) (sx_an (ya_ce 176 31 (6 * e + 9)) (sx_an (ya_cf 176 31 (6 * e + 9)) (ya_c2 false 176 31 (6 * e + 9) ya_l1 [124])))) = true := by decide +kernel
theorem ya_either (hL : L < 2 ^ 31) {e : Nat} (he : e < 7) (hS : yr_S L xs 177 (6 * e + 8) (yr_C 2 2) ov) : yr_S L xs 176 (6 * e + 9) (yr_C 1 1) ov := by
  obtain ⟨a1, a2⟩ := sx_an_iff.mp (List.all_eq_true.mp ya_p5 e (List.mem_range.mpr he))
  obtain ⟨a2, a3⟩ := sx_an_iff.mp a2
  obtain ⟨a3, a4⟩ := sx_an_iff.mp a3
  exact ya_all (d := 6 * e + 8) (pc2 := 31) (k := 1) (V := ya_W) hL (by decide) (by decide) rfl rfl rfl rfl rfl (Nat.le_of_ble_eq_true rfl) a1 a2 a3 a4 (by decide) (Or.inl rfl) (fun _ _ _ _ => rfl) (fun _ _ _ => rfl) (ya_rk (by decide) (fun z h => by
    have := ya_in z (by omega)
    simp only [List.mem_cons, List.not_mem_nil, or_false]
    omega)) (fun z hz => by
    simp only [List.mem_cons, List.not_mem_nil, or_false] at hz
    exact og_w32 (by omega) (by omega)) hS
end
