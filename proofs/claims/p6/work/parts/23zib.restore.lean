/-! The loop itself: 9 the house, 10 what was there; a counter that is gone through number by number; slots that may hold anything. -/
section
variable {WF : (Nat → Nat → Int) → Prop} {L : Nat} {xs : Nat → Int32} {M M' M0 N N' : Nat → Nat → Int} {ρ ρ' Z Z' : Nat → Int} {t t0 : sx_S} {Q : Option Value → (Nat → Nat → Int) → Prop}
/-- what a loop is: method, head, frames; the numbers (9 and on) with their ranges, fields that are read; locals that stay, the counter's slot, slots that may hold anything with their numbers; cell and place that are written; cells, fields that calls may change; counter behind m rounds that are left; the answer's range -/
abbrev rl_P : Type := (Nat × Nat × Nat) × (List ct_Q × List ct_G) × (sx_L × Nat × List (Nat × Nat)) × (Nat × sx_A) × (List Nat × List (Nat × Nat)) × (Int × Int) × (Int × Int)
def rl_c (P : rl_P) (m : Nat) : Int := P.2.2.2.2.2.1.1 + P.2.2.2.2.2.1.2 * (m : Int)
def rl_w (P : rl_P) : sx_L := P.2.2.1.2.2.map fun q => (q.1, 0, q.2, 0)
def rl_lv (P : rl_P) (m : Nat) : sx_L := (P.2.2.1.2.1, 0, 0, rl_c P m) :: (P.2.2.1.1 ++ rl_w P)
noncomputable def rl_t (P : rl_P) : sx_S := og_t P.2.1.1 P.2.1.2
def rl_al (P : rl_P) : List (Nat × sx_A) := P.2.2.2.1 :: P.2.2.2.2.1.2.map fun q => (q.1, (0, (q.2 : Int)))
noncomputable def rl_wk (P : rl_P) (lv : sx_L) : Bool := P.2.2.1.2.2.all fun q => lv.any fun p => sx_an (Nat.beq p.1 q.1) (Nat.beq p.2.1 0)
noncomputable def rl_go (P : rl_P) (m : Nat) (al : List (Nat × sx_A)) (mods : List Nat) (t0 : sx_S) (o : sx_P) : Bool := sx_an (sx_an (Nat.beq o.2.1 P.1.2.1) (Nat.beq o.2.2.2.1.length 0)) (sx_an (sx_an (tk_lk ((P.2.2.1.2.1, 0, 0, rl_c P m) :: P.2.2.1.1) o.2.2.1) (rl_wk P o.2.2.1)) (rl_m mods al t0 o.2.2.2.2))
noncomputable def rl_rec (P : rl_P) (m : Nat) (o : sx_P) : Bool := match o.1 with
  | some (some v) => sx_an (sx_an (Nat.beq v.1 0) (sx_in (sx_iv o.2.2.2.2 v.2) P.2.2.2.2.2.2)) (sx_an (rl_m P.2.2.2.2.1.1 (rl_al P) (rl_t P) o.2.2.2.2) (match sx_kn (fun _ _ => none) o.2.2.2.2 P.2.2.2.1.1 P.2.2.2.1.2 with
    | some v => sx_ae v (10, 0)
    | none => false))
  | some none => false
  | none => match m with
    | 0 => false
    | m + 1 => rl_go P m (rl_al P) P.2.2.2.2.1.1 (rl_t P) o
/-- the numbers' symbols -/
def rl_in (n : Nat) (a : sx_A) : Bool := bif Nat.beq a.1 0 then true else sx_an (Nat.ble 9 a.1) (Nat.blt a.1 (9 + n))
def rl_gd (P : rl_P) : Bool := sx_an (sx_an (P.2.1.1.all fun g => Nat.beq g.1 0) (P.2.1.2.all fun g => Nat.blt g.1 128)) (sx_an (sx_an (P.2.2.1.1.all fun q => rl_in P.2.1.1.length q.2.2) (P.2.2.1.2.2.all fun q => rl_in P.2.1.1.length (q.2, 0))) (sx_an (sx_an (sx_an (rl_in P.2.1.1.length P.2.2.2.1.2) (Nat.ble P.2.2.2.1.2.1 10)) (Nat.blt P.2.2.2.1.1 128)) (sx_an (Nat.blt 1 P.2.1.1.length) (mt_nd (P.2.2.1.2.1 :: (P.2.2.1.1.map (fun q => q.1) ++ P.2.2.1.2.2.map fun q => q.1)))))) 
theorem rl_zs {n m : Nat} : ∀ {gs : List ct_Q}, (∀ k g, gs[k]? = some g → g.1 = 0 ∧ sx_w g.2 (Z (m + k)) ∧ sx_w sx_r32 (Z (m + k))) → og_zs gs ((List.range gs.length).map fun i => Z (m + i)) := by
  intro gs
  induction gs generalizing m with
  | nil => intro _; trivial
  | cons g gs ih =>
    intro h
    obtain ⟨h1, h2, h3⟩ := h 0 g rfl
    rw [List.length_cons, List.range_succ_eq_map, List.map_cons, List.map_map]
    refine ⟨⟨by omega, h2, fun _ => h3, sx_32_64 h3⟩, ?_⟩
    have := ih (m := m + 1) (fun k g9 hk => by
      have := h (k + 1) g9 hk
      rw [show m + (k + 1) = m + 1 + k by omega] at this
      exact this)
    have e : ((fun i => Z (m + i)) ∘ Nat.succ) = fun i => Z (m + 1 + i) := by
      funext i
      show Z (m + (i + 1)) = _
      rw [show m + (i + 1) = m + 1 + i by omega]
    rw [e]
    exact this
/-- the numbers are as the ranges say -/
def rl_Z (P : rl_P) (Z : Nat → Int) : Prop := Z 0 = 0 ∧ ∀ k g, P.2.1.1[k]? = some g → sx_w g.2 (Z (9 + k)) ∧ sx_w sx_r32 (Z (9 + k))
theorem rl_val {n : Nat} {a : sx_A} (h : rl_in n a = true) (h0 : Z 0 = 0) (h0' : ρ 0 = 0) (hZ : ∀ k, k < n → ρ (9 + k) = Z (9 + k)) : sx_val ρ a = sx_val Z a := by
  unfold sx_val
  unfold rl_in at h
  cases e : Nat.beq a.1 0 with
  | true => rw [sx_nbeq.mp e, h0, h0']
  | false =>
    rw [e] at h
    obtain ⟨h1, h2⟩ := sx_an_iff.mp h
    have h1 := Nat.le_of_ble_eq_true h1
    have h2 := sx_blt h2
    have := hZ (a.1 - 9) (by omega)
    rw [show 9 + (a.1 - 9) = a.1 by omega] at this
    rw [this]
theorem rl_sat {P : rl_P} (hg : rl_gd P = true) (hL : L < 2 ^ 31) (hm : sx_mok cl_ly N) (hZ : rl_Z P Z) (hf : ∀ g ∈ P.2.1.2, sx_w g.2.2 (N g.1 g.2.1) ∧ sx_w sx_r64 (N g.1 g.2.1)) : ∃ ρ : Nat → Int, sx_sat cl_ly (0, -100) xs L N ρ N (rl_t P) ∧ (rl_t P).1 = 9 + P.2.1.1.length + P.2.1.2.length ∧ ρ 0 = 0 ∧ ∀ a, rl_in P.2.1.1.length a = true → sx_val ρ a = sx_val Z a := by
  obtain ⟨hg, -⟩ := sx_an_iff.mp hg
  obtain ⟨g1, g2⟩ := sx_an_iff.mp hg
  obtain ⟨ρ, st, e1, e2, -⟩ := og_sat (xs := xs) (gs := P.2.1.1) (zs := (List.range P.2.1.1.length).map fun i => Z (9 + i)) (fs := P.2.1.2) hL hm (rl_zs (n := 0) (fun k g hk => ⟨sx_nbeq.mp (List.all_eq_true.mp g1 g (List.mem_of_getElem? hk)), hZ.2 k g hk⟩)) (fun g hg9 => ⟨sx_blt (List.all_eq_true.mp g2 g hg9), hf g hg9⟩)
  have h0 : ρ 0 = 0 := st.2.1
  refine ⟨ρ, st, e1, h0, fun a ha => rl_val ha hZ.1 h0 (fun k hk => e2 k _ (by simp [hk]))⟩
theorem rl_cl {n : Nat} {lv : sx_L} (h : ∀ q ∈ lv, rl_in n q.2.2 = true) (he : ∀ a, rl_in n a = true → sx_val ρ a = sx_val Z a) : sx_cl1 ρ lv = sx_cl1 Z lv := List.map_congr_left fun q hq => by
  unfold sx_cv1
  rw [he _ (h q hq)]
theorem rl_lvin {P : rl_P} (hg : rl_gd P = true) (m : Nat) : ∀ q ∈ rl_lv P m, rl_in P.2.1.1.length q.2.2 = true := fun q hq => by
  obtain ⟨-, hg⟩ := sx_an_iff.mp hg
  obtain ⟨hg, -⟩ := sx_an_iff.mp hg
  obtain ⟨g1, g2⟩ := sx_an_iff.mp hg
  rcases List.mem_cons.mp hq with rfl | hq
  · rfl
  · rcases List.mem_append.mp hq with hq | hq
    · exact List.all_eq_true.mp g1 q hq
    · obtain ⟨p, hp, rfl⟩ := List.mem_map.mp hq
      exact List.all_eq_true.mp g2 p hp
theorem rl_nd {P : rl_P} (hg : rl_gd P = true) (m : Nat) : lo_nd (sx_cl1 ρ (rl_lv P m)) := by
  obtain ⟨-, hg⟩ := sx_an_iff.mp hg
  obtain ⟨-, hg⟩ := sx_an_iff.mp hg
  obtain ⟨-, hg⟩ := sx_an_iff.mp hg
  obtain ⟨-, hg⟩ := sx_an_iff.mp hg
  refine mt_cl_nd ?_
  have := mt_nd_ok hg
  have e : (rl_lv P m).map (fun q => q.1) = P.2.2.1.2.1 :: (P.2.2.1.1.map (fun q => q.1) ++ P.2.2.1.2.2.map fun q => q.1) := by
    unfold rl_lv rl_w
    rw [List.map_cons, List.map_append, List.map_map]
    rfl
  rw [e]
  exact this
/-- what a stop at the head gives: new numbers for the slots that may hold anything -/
theorem rl_new {P : rl_P} {m n : Nat} {lv : sx_L} (hg : rl_gd P = true) (h0 : ρ' 0 = 0) (hok : sx_okl ρ' n lv) (hZ : rl_Z P Z) (he : ∀ a, rl_in P.2.1.1.length a = true → sx_val ρ' a = sx_val Z a) (h1 : tk_lk ((P.2.2.1.2.1, 0, 0, rl_c P m) :: P.2.2.1.1) lv = true) (h2 : rl_wk P lv = true) (hwr : ∀ q ∈ P.2.2.1.2.2, P.2.1.1[q.2 - 9]? = some (0, sx_r32) ∧ 11 ≤ q.2) (hws : P.2.2.1.1.all (fun q => P.2.2.1.2.2.all fun w => bif Nat.beq q.2.2.1 w.2 then false else true) = true) (hwd : (P.2.2.1.2.2.map fun q => q.2).Nodup) : ∃ Z' : Nat → Int, rl_Z P Z' ∧ (∀ k, (∀ q ∈ P.2.2.1.2.2, q.2 ≠ k) → Z' k = Z k) ∧ lo_le (sx_cl1 Z' (rl_lv P m)) (sx_cl1 ρ' lv) := by
  -- the value of a slot
  have hv : ∀ q ∈ P.2.2.1.2.2, ∃ z : Int, sx_w sx_r32 z ∧ (q.1, Value.int (Int32.ofInt z)) ∈ sx_cl1 ρ' lv := fun q hq => by
    obtain ⟨p, hp, e⟩ := List.any_eq_true.mp (List.all_eq_true.mp h2 q hq)
    obtain ⟨e1, e2⟩ := sx_an_iff.mp e
    have e2 := sx_nbeq.mp e2
    refine ⟨sx_val ρ' p.2.2, (hok p hp).2.1 e2, ?_⟩
    have : (q.1, Value.int (Int32.ofInt (sx_val ρ' p.2.2))) = (p.1, sx_cv1 ρ' p.2) := by
      rw [sx_cvk0 e2, sx_nbeq.mp e1]
    rw [this]
    exact List.mem_map.mpr ⟨p, hp, rfl⟩
  have hW : ∃ W : Nat → Int, ∀ q ∈ P.2.2.1.2.2, sx_w sx_r32 (W q.2) ∧ (q.1, Value.int (Int32.ofInt (W q.2))) ∈ sx_cl1 ρ' lv := by
    generalize P.2.2.1.2.2 = wl at hv hwd
    clear h2 hwr hws
    induction wl with
    | nil => exact ⟨fun _ => 0, fun q hq => by cases hq⟩
    | cons q wl ih =>
      rw [List.map_cons] at hwd
      obtain ⟨n1, n2⟩ := List.nodup_cons.mp hwd
      obtain ⟨W, hW⟩ := ih (fun p hp => hv p (List.mem_cons_of_mem _ hp)) n2
      obtain ⟨z, z1, z2⟩ := hv q List.mem_cons_self
      refine ⟨fun k => if k = q.2 then z else W k, fun p hp => ?_⟩
      rcases List.mem_cons.mp hp with rfl | hp
      · show sx_w sx_r32 (if p.2 = p.2 then z else W p.2) ∧ (p.1, Value.int (Int32.ofInt (if p.2 = p.2 then z else W p.2))) ∈ sx_cl1 ρ' lv
        rw [if_pos rfl]
        exact ⟨z1, z2⟩
      · have ne : ¬ p.2 = q.2 := fun e => n1 (by rw [← e]; exact List.mem_map.mpr ⟨p, hp, rfl⟩)
        show sx_w sx_r32 (if p.2 = q.2 then z else W p.2) ∧ (p.1, Value.int (Int32.ofInt (if p.2 = q.2 then z else W p.2))) ∈ sx_cl1 ρ' lv
        rw [if_neg ne]
        exact hW p hp
  obtain ⟨W, hW⟩ := hW
  refine ⟨fun k => if (P.2.2.1.2.2.map fun q => q.2).contains k then W k else Z k, ⟨?_, fun k g hk => ?_⟩, fun k hk => ?_, ?_⟩
  · show (if (P.2.2.1.2.2.map fun q => q.2).contains 0 then W 0 else Z 0) = 0
    rw [if_neg ?_]
    · exact hZ.1
    · intro h
      obtain ⟨q, hq, e⟩ := List.mem_map.mp (List.contains_iff_mem.mp h)
      have := (hwr q hq).2
      omega
  · show sx_w g.2 (if _ then W (9 + k) else Z (9 + k)) ∧ sx_w sx_r32 (if _ then W (9 + k) else Z (9 + k))
    split
    · rename_i h
      obtain ⟨q, hq, e⟩ := List.mem_map.mp (List.contains_iff_mem.mp h)
      obtain ⟨g1, g2⟩ := hwr q hq
      rw [e, show 9 + k - 9 = k by omega, hk] at g1
      have g1 : g = (0, sx_r32) := by injection g1
      have := (hW q hq).1
      rw [e] at this
      rw [g1]
      exact ⟨this, this⟩
    · exact hZ.2 k g hk
  · show (if (P.2.2.1.2.2.map fun q => q.2).contains k then W k else Z k) = Z k
    rw [if_neg ?_]
    intro h
    obtain ⟨q, hq, e⟩ := List.mem_map.mp (List.contains_iff_mem.mp h)
    exact hk q hq e
  · obtain ⟨t1, t2⟩ := sx_an_iff.mp h1
    have nd := mt_cl_nd (ρ := ρ') (mt_nd_ok t1)
    refine ⟨rl_nd hg m, nd, fun k v hk => ?_⟩
    obtain ⟨q, hq, e⟩ := List.mem_map.mp (sm_ld_mem hk)
    have fixed : ∀ q ∈ ((P.2.2.1.2.1, 0, 0, rl_c P m) :: P.2.2.1.1 : sx_L), (k, v) = (q.1, sx_cv1 ρ' q.2) → sm_ld (sx_cl1 ρ' lv) k = some v := fun q hq e => by
      obtain ⟨p, hp, e3⟩ := List.any_eq_true.mp (List.all_eq_true.mp t2 q hq)
      obtain ⟨e3, e4⟩ := sx_an_iff.mp e3
      refine tk_ld nd (List.mem_map.mpr ⟨p, hp, ?_⟩)
      rw [e, ← sx_nbeq.mp e3, ← tk_ve_ok e4]
    rcases List.mem_cons.mp hq with rfl | hq
    · refine fixed _ List.mem_cons_self (by rw [← e]; show (_, sx_cv1 _ (0, 0, rl_c P m)) = (_, sx_cv1 ρ' (0, 0, rl_c P m)); rw [tk_cv h0, tk_cv (by
        show (if (P.2.2.1.2.2.map fun q => q.2).contains 0 then W 0 else Z 0) = 0
        rw [if_neg ?_]
        · exact hZ.1
        · intro h
          obtain ⟨q, hq, e⟩ := List.mem_map.mp (List.contains_iff_mem.mp h)
          have := (hwr q hq).2
          omega)])
    · rcases List.mem_append.mp hq with hq | hq
      · refine fixed q (List.mem_cons_of_mem _ hq) ?_
        rw [← e]
        have hin := rl_lvin hg m q (List.mem_cons_of_mem _ (List.mem_append_left _ hq))
        have e5 : sx_val (fun k => if (P.2.2.1.2.2.map fun q => q.2).contains k then W k else Z k) q.2.2 = sx_val ρ' q.2.2 := by
          rw [he _ hin]
          unfold sx_val
          show (if (P.2.2.1.2.2.map fun q => q.2).contains q.2.2.1 = true then W q.2.2.1 else Z q.2.2.1) + q.2.2.2 = Z q.2.2.1 + q.2.2.2
          rw [if_neg ?_]
          intro h
          obtain ⟨w, hw, e6⟩ := List.mem_map.mp (List.contains_iff_mem.mp h)
          have := List.all_eq_true.mp (List.all_eq_true.mp hws q hq) w hw
          rw [sx_nbeq.mpr e6.symm] at this
          cases this
        unfold sx_cv1
        rw [e5]
      · obtain ⟨p, hp, rfl⟩ := List.mem_map.mp hq
        refine tk_ld nd ?_
        rw [← e]
        have : sx_cv1 (fun k => if (P.2.2.1.2.2.map fun q => q.2).contains k then W k else Z k) (0, p.2, 0) = .int (Int32.ofInt (W p.2)) := by
          rw [sx_cvk0 (v := (0, p.2, 0)) rfl]
          unfold sx_val
          show Value.int (Int32.ofInt ((if (P.2.2.1.2.2.map fun q => q.2).contains p.2 = true then W p.2 else Z p.2) + 0)) = _
          rw [if_pos (List.contains_iff_mem.mpr (List.mem_map.mpr ⟨p, hp, rfl⟩)), Int.add_zero]
        show (p.1, sx_cv1 _ (0, p.2, 0)) ∈ _
        rw [this]
        exact (hW p hp).2
end
