/-! Runs: the symbolic executor's and the small machine's. -/
section
theorem sm_run_s (MT : Nat → sm_M) (LK : Nat → Nat → Option sm_L) (RO : List (Nat × (Nat → Int32))) (NV : Nat → List Value) (cq : Nat) (f d j pc : Nat) (lv : sm_V) (s : List Value) (h : sm_H) : sm_run MT LK RO NV cq (f + 1) d j pc lv s h = (match (MT j).2.2.2.2.2 pc with
    | none => none
    | some (ins, len) => if len = sm_len ins len then (match sm_ret (MT j).2.2.1 ins s with
      | some r => some (r, h)
      | none => match sm_call (LK (MT j).1) (fun k => (MT k).2.2.2.1) ins s h with
        | some (k, as, rest) => match d with
          | 0 => none
          | d' + 1 => if sm_sum rest ≤ 8 ∧ (lg_sl as).length ≤ (MT k).2.1 then (match sm_run MT LK RO NV cq f d' k 0 (lv_args 0 as) [] h with
            | some (r, h1) => sm_run MT LK RO NV cq f (d' + 1) j (pc + 3) lv (r.toList ++ rest) h1
            | none => none) else none
        | none => match sm_step (LK (MT j).1) RO NV cq (MT j).2.2.2.2.1 (MT j).2.1 d ins pc lv s h with
          | some o => sm_run MT LK RO NV cq f d j o.1 o.2.1 o.2.2.1 o.2.2.2
          | none => none) else none) := rfl
theorem sm_fuel1 {MT : Nat → sm_M} {LK : Nat → Nat → Option sm_L} {RO : List (Nat × (Nat → Int32))} {NV : Nat → List Value} {cq : Nat} : ∀ (f d j pc : Nat) (lv : sm_V) (s : List Value) (h : sm_H) (r : Option Value × sm_H), sm_run MT LK RO NV cq f d j pc lv s h = some r → sm_run MT LK RO NV cq (f + 1) d j pc lv s h = some r := by
  intro f
  induction f with
  | zero => intro d j pc lv s h r e; cases e
  | succ f ih =>
    intro d j pc lv s h r e
    rw [sm_run_s] at e
    rw [sm_run_s]
    split at e
    · cases e
    · split at e
      · rename_i hl
        rw [if_pos hl]
        split at e
        · exact e
        · split at e
          · cases d with
            | zero => cases e
            | succ d =>
              dsimp only at e ⊢
              split at e
              · rename_i hc
                rw [if_pos hc]
                split at e
                · rename_i r1 h1 e1
                  rw [ih _ _ _ _ _ _ _ e1]
                  exact ih _ _ _ _ _ _ _ e
                · cases e
              · cases e
          · split at e
            · exact ih _ _ _ _ _ _ _ e
            · cases e
      · cases e
theorem sm_fuel {MT : Nat → sm_M} {LK : Nat → Nat → Option sm_L} {RO : List (Nat × (Nat → Int32))} {NV : Nat → List Value} {cq : Nat} {f g d j pc : Nat} {lv : sm_V} {s : List Value} {h : sm_H} {r : Option Value × sm_H} (e : sm_run MT LK RO NV cq f d j pc lv s h = some r) (hfg : f ≤ g) : sm_run MT LK RO NV cq g d j pc lv s h = some r := by
  induction g with
  | zero => have : f = 0 := by omega
            subst this; exact e
  | succ g ih =>
    by_cases hf : f ≤ g
    · exact sm_fuel1 _ _ _ _ _ _ _ _ (ih hf)
    · have : f = g + 1 := by omega
      subst this; exact e
variable {MT : Nat → sm_M} {LK : Nat → Nat → Option sm_L} {RO : List (Nat × (Nat → Int32))} {NV : Nat → List Value} {cq : Nat} {ly : Nat → Option sx_H} {ib : sx_A} {xs : Nat → Int32} {L : Nat} {M0 : Nat → Nat → Int} {bs : Nat → Int → Option Int} {lay : List sx_H} {rf : Nat → Nat → Option Nat} {rc : List (List Int)} {sp : Bool}
theorem sm_run_f {F d j pc : Nat} {lv : sm_V} {s : List Value} {h : sm_H} {ins : Instr} {len : Nat} (efetch : (MT j).2.2.2.2.2 pc = some (ins, len)) (elen : len = sm_len ins len) : sm_run MT LK RO NV cq (F + 1) d j pc lv s h = (match sm_ret (MT j).2.2.1 ins s with
        | some r => some (r, h)
        | none => match sm_call (LK (MT j).1) (fun k => (MT k).2.2.2.1) ins s h with
          | some (k, as, rest) => match d with
            | 0 => none
            | d' + 1 => if sm_sum rest ≤ 8 ∧ (lg_sl as).length ≤ (MT k).2.1 then (match sm_run MT LK RO NV cq F d' k 0 (lv_args 0 as) [] h with
              | some (r, h1) => sm_run MT LK RO NV cq F (d' + 1) j (pc + 3) lv (r.toList ++ rest) h1
              | none => none) else none
          | none => match sm_step (LK (MT j).1) RO NV cq (MT j).2.2.2.2.1 (MT j).2.1 d ins pc lv s h with
            | some o => sm_run MT LK RO NV cq F d j o.1 o.2.1 o.2.2.1 o.2.2.2
            | none => none) := by
  rw [sm_run_s, efetch]
  show (if len = sm_len ins len then _ else none) = _
  rw [if_pos elen]
theorem sx_fN_eq {α : Type} (n : Nat) (k : Nat → α) : sx_fN n k = k n := by cases n <;> rfl
theorem sx_cat_ok {α β : Type} {g : α → Option (List β)} : ∀ {l : List α} {os : List β} {a : α}, sx_cat g l = some os → a ∈ l → ∃ u, g a = some u ∧ ∀ o ∈ u, o ∈ os := by
  intro l
  induction l with
  | nil => intro os a _ h; cases h
  | cons b l ih =>
    intro os a h hm
    have h : (match g b with
      | some u => (match sx_cat g l with
        | some w => some (u ++ w)
        | none => none)
      | none => none) = some os := h
    cases e1 : g b with
    | none => rw [e1] at h; cases h
    | some u =>
      rw [e1] at h
      cases e2 : sx_cat g l with
      | none => rw [e2] at h; cases h
      | some w =>
        rw [e2] at h
        have h : some (u ++ w) = some os := h
        cases h
        rcases List.mem_cons.mp hm with rfl | hm
        · exact ⟨u, e1, fun o ho => List.mem_append_left _ ho⟩
        · obtain ⟨u', h1, h2⟩ := ih e2 hm
          exact ⟨u', h1, fun o ho => List.mem_append_right _ (h2 o ho)⟩
def sx_rok (ρ : Nat → Int) (n : Nat) (o : Option sx_V) : Prop := ∀ v, o = some v → sx_ok ρ n v
theorem sx_rt_ok {ρ : Nat → Int} {M : Nat → Nat → Int} {t : sx_S} {s : List sx_V} {kind : Nat} {ins : Instr} {g : Nat → List sx_V → sx_S → Option (Option sx_V)} {r : Option sx_V} (hs : sx_sat ly ib xs L M0 ρ M t) (hk : sx_oks ρ t.1 s) (hg : sx_rt ins = some g) (h : g kind s t = some r) : sm_ret kind ins (sx_cs1 ρ s) = some (r.map (sx_cv1 ρ)) ∧ sx_rok ρ t.1 r := by
  cases ins
  case ireturn =>
    cases hg
    match s, hk, h with
    | [], _, h => cases h
    | v :: w :: s, _, h => cases h
    | [v], hk, h =>
      obtain ⟨e, h⟩ := sx_bif (show (bif sx_an (Nat.beq v.1 0) (bif Nat.beq kind 1 then true else sx_an (Nat.beq kind 3) (sx_in (sx_iv t v.2) (0, 1))) then some (some v) else none) = some r from h)
      cases h
      obtain ⟨e1, e2⟩ := sx_an_iff.mp e
      have hv := hk v List.mem_cons_self
      refine ⟨?_, fun w hw => by cases hw; exact hv⟩
      show sm_ret kind .ireturn [sx_cv1 ρ v] = some (some (sx_cv1 ρ v))
      rw [sx_cvk0 (sx_nbeq.mp e1)]
      show (if kind = 1 ∨ (kind = 3 ∧ (Int32.ofInt (sx_val ρ v.2) = 0 ∨ Int32.ofInt (sx_val ρ v.2) = 1)) then _ else none) = _
      rw [if_pos]
      cases e3 : Nat.beq kind 1
      · rw [e3] at e2
        obtain ⟨e4, e5⟩ := sx_an_iff.mp (show sx_an (Nat.beq kind 3) (sx_in (sx_iv t v.2) (0, 1)) = true from e2)
        have e5 := sx_in_iff.mp e5
        have e6 : (0 : Int) ≤ (sx_iv t v.2).1 := e5.1
        have e7 : (sx_iv t v.2).2 ≤ (1 : Int) := e5.2
        have hi := sx_iv_ok hs v.2
        have a1 := hi.1
        have a2 := hi.2
        refine Or.inr ⟨sx_nbeq.mp e4, ?_⟩
        have : sx_val ρ v.2 = 0 ∨ sx_val ρ v.2 = 1 := by omega
        rcases this with h0 | h0
        · rw [h0]; exact Or.inl rfl
        · rw [h0]; exact Or.inr rfl
      · exact Or.inl (sx_nbeq.mp e3)
  case lreturn =>
    cases hg
    match s, hk, h with
    | [], _, h => cases h
    | v :: w :: s, _, h => cases h
    | [v], hk, h =>
      obtain ⟨e, h⟩ := sx_bif (show (bif sx_an (Nat.beq v.1 1) (Nat.beq kind 2) then some (some v) else none) = some r from h)
      cases h
      obtain ⟨e1, e2⟩ := sx_an_iff.mp e
      have hv := hk v List.mem_cons_self
      refine ⟨?_, fun w hw => by cases hw; exact hv⟩
      show sm_ret kind .lreturn [sx_cv1 ρ v] = some (some (sx_cv1 ρ v))
      rw [sx_cvk1 (sx_nbeq.mp e1)]
      show (if kind = 2 then _ else none) = _
      rw [if_pos (sx_nbeq.mp e2)]
  case return_ =>
    cases hg
    match s, h with
    | v :: s, h => cases h
    | [], h =>
      obtain ⟨e, h⟩ := sx_bif (show (bif Nat.beq kind 0 then some none else none) = some r from h)
      cases h
      refine ⟨?_, fun w hw => by cases hw⟩
      show (if kind = 0 then _ else none) = _
      rw [if_pos (sx_nbeq.mp e)]
      rfl
  all_goals exact nomatch hg
theorem sx_oks_mem {ρ : Nat → Int} {n : Nat} {s s' : List sx_V} (h : sx_oks ρ n s) (hm : ∀ v ∈ s', v ∈ s) : sx_oks ρ n s' := fun v hv => h v (hm v hv)
theorem sx_call_ok {ρ : Nat → Int} {M : Nat → Nat → Int} {n : Nat} {s : List sx_V} {lk : Nat → Option sm_L} {MA : Nat → Nat} {ins : Instr} {k : Nat} {as rest : List sx_V} (hlo : sx_lok ly lay) (hk : sx_oks ρ n s) (h : sx_call ly lk MA ins s = some (k, as, rest)) : sm_call lk MA ins (sx_cs1 ρ s) (sx_HH lay rf M) = some (k, sx_cs1 ρ as, sx_cs1 ρ rest) ∧ sx_oks ρ n as ∧ sx_oks ρ n rest ∧ ∀ kind S, sm_ret kind ins S = none := by
  have hd : ∀ m, (sx_cs1 ρ s).drop m = sx_cs1 ρ (s.drop m) := fun m => (List.map_drop ..).symm
  have ht : ∀ m, ((sx_cs1 ρ s).take m).reverse = sx_cs1 ρ (s.take m).reverse := fun m => by
    unfold sx_cs1
    rw [List.map_reverse, List.map_take]
  have okt : ∀ m, sx_oks ρ n (s.take m).reverse := fun m => sx_oks_mem hk fun v hv => List.mem_of_mem_take (List.mem_reverse.mp hv)
  have okd : ∀ m, sx_oks ρ n (s.drop m) := fun m => sx_oks_mem hk fun v hv => List.mem_of_mem_drop hv
  cases ins
  case invokevirtual ix =>
    dsimp only [sx_call, sx_ca] at h
    split at h
    · rename_i k' ci z elk
      unfold sx_rcv at h
      split at h
      · rename_i v rs ev
        obtain ⟨e, h⟩ := sx_bif h
        cases h
        obtain ⟨e1, e2⟩ := sx_an_iff.mp e
        have e1 := sx_nbeq.mp e1
        have e2 : (match ly v.2.2.toNat with
          | some h => sx_an (Nat.beq h.1 1) (Nat.beq h.2.1 ci)
          | none => false) = true := e2
        have okv := okd (MA k)
        rw [ev] at okv
        refine ⟨?_, sx_oks_cons (okv v List.mem_cons_self) (okt _), fun w hw => okv w (List.mem_cons_of_mem _ hw), fun _ _ => rfl⟩
        dsimp only [sm_call]
        rw [elk]
        show (match (sx_cs1 ρ s).drop (MA k) with
          | Value.ref b :: rest => (match sm_obj (sx_HH lay rf M) b ci with
            | some _ => some (k, Value.ref b :: ((sx_cs1 ρ s).take (MA k)).reverse, rest)
            | none => none)
          | _ => none) = _
        rw [hd, ht, ev]
        show (match sx_cv1 ρ v :: sx_cs1 ρ rest with
          | Value.ref b :: rest => (match sm_obj (sx_HH lay rf M) b ci with
            | some _ => some (k, Value.ref b :: sx_cs1 ρ (s.take (MA k)).reverse, rest)
            | none => none)
          | _ => none) = some (k, sx_cv1 ρ v :: sx_cs1 ρ (s.take (MA k)).reverse, _)
        rw [sx_cvk2 e1]
        cases el : ly v.2.2.toNat with
        | none => rw [el] at e2; cases e2
        | some h9 =>
          rw [el] at e2
          obtain ⟨e3, e4⟩ := sx_an_iff.mp e2
          show (match sm_obj (sx_HH lay rf M) v.2.2.toNat ci with
            | some _ => some (k, Value.ref v.2.2.toNat :: sx_cs1 ρ (s.take (MA k)).reverse, sx_cs1 ρ rest)
            | none => none) = _
          rw [sx_obj_at hlo el (sx_nbeq.mp e3) (sx_nbeq.mp e4)]
      · cases h
    · cases h
  case invokestatic ix =>
    dsimp only [sx_call, sx_ca] at h
    have hlen : (sx_cs1 ρ s).length = s.length := List.length_map ..
    split at h
    · rename_i k' a z elk
      obtain ⟨e, h⟩ := sx_bif h
      cases h
      refine ⟨?_, okt _, okd _, fun _ _ => rfl⟩
      dsimp only [sm_call]
      rw [elk]
      show (if MA k ≤ (sx_cs1 ρ s).length then some (k, ((sx_cs1 ρ s).take (MA k)).reverse, (sx_cs1 ρ s).drop (MA k)) else none) = _
      rw [hlen, if_pos (Nat.le_of_ble_eq_true e), hd, ht]
    · rename_i k' a z elk
      obtain ⟨e, h⟩ := sx_bif h
      cases h
      refine ⟨?_, okt _, okd _, fun _ _ => rfl⟩
      dsimp only [sm_call]
      rw [elk]
      show (if MA k ≤ (sx_cs1 ρ s).length then some (k, ((sx_cs1 ρ s).take (MA k)).reverse, (sx_cs1 ρ s).drop (MA k)) else none) = _
      rw [hlen, if_pos (Nat.le_of_ble_eq_true e), hd, ht]
    · cases h
  all_goals exact nomatch h
theorem sx_step_nc {lk : Nat → Option sm_L} {nL d pc : Nat} {ins : Instr} {lv : sx_L} {s : List sx_V} {t : sx_S} {l : List sx_O} (h : sx_step bs ly rc ib sp lk nL d ins pc lv s t = some l) : (∀ kind S, sm_ret kind ins S = none) ∧ ∀ MA S H, sm_call lk MA ins S H = none := by
  cases ins
  case ireturn => exact nomatch h
  case lreturn => exact nomatch h
  case return_ => exact nomatch h
  case invokevirtual => exact nomatch h
  case invokespecial ix =>
    refine ⟨fun _ _ => rfl, fun MA S H => ?_⟩
    dsimp only [sx_step, sx_hd] at h
    dsimp only [sm_call]
    split at h
    · rename_i a b c e
      rw [e]; rfl
    · cases h
  case invokestatic ix =>
    refine ⟨fun _ _ => rfl, fun MA S H => ?_⟩
    dsimp only [sx_step, sx_hd] at h
    dsimp only [sm_call]
    split at h
    · rename_i a b c e; rw [e]; rfl
    · rename_i a b c e; rw [e]; rfl
    · rename_i a b c e; rw [e]; rfl
    · rename_i a b c e; rw [e]; rfl
    · cases h
  all_goals exact ⟨fun _ _ => rfl, fun _ _ _ => rfl⟩
theorem sx_args_ok (ρ : Nat → Int) : ∀ (as : List sx_V) (i : Nat), lv_args i (sx_cs1 ρ as) = sx_cl1 ρ (sx_args i as) := by
  intro as
  induction as with
  | nil => intro i; rfl
  | cons v as ih =>
    intro i
    show (i, sx_cv1 ρ v) :: lv_args (if (sx_cv1 ρ v).category = 2 then i + 2 else i + 1) (sx_cs1 ρ as) = (i, sx_cv1 ρ v) :: sx_cl1 ρ (sx_args (i + (bif Nat.beq v.1 1 then 2 else 1)) as)
    rw [ih, sx_cat1]
    by_cases h : v.1 = 1
    · rw [if_pos h, if_pos rfl, sx_bt (sx_nbeq.mpr h)]
    · rw [if_neg h, if_neg (by decide), sx_bfalse (sx_nbeq_f.mpr h)]
theorem sx_args_okl {ρ : Nat → Int} {n : Nat} : ∀ {as : List sx_V} {i : Nat}, sx_oks ρ n as → sx_okl ρ n (sx_args i as) := by
  intro as
  induction as with
  | nil => intro i _ q hq; cases hq
  | cons v as ih =>
    intro i h q hq
    rcases List.mem_cons.mp hq with rfl | hq
    · exact h v List.mem_cons_self
    · exact ih (fun w hw => h w (List.mem_cons_of_mem _ hw)) q hq
theorem sx_sl_len (ρ : Nat → Int) : ∀ (as : List sx_V), (lg_sl (sx_cs1 ρ as)).length = sx_sum as := by
  intro as
  induction as with
  | nil => rfl
  | cons v as ih =>
    show (List.flatMap _ (sx_cv1 ρ v :: sx_cs1 ρ as)).length = (bif Nat.beq v.1 1 then 2 else 1) + sx_sum as
    rw [List.flatMap_cons, List.length_append, sx_cat1, ← ih]
    by_cases h : v.1 = 1
    · rw [if_pos h, if_pos rfl, sx_bt (sx_nbeq.mpr h)]; rfl
    · rw [if_neg h, if_neg (by decide), sx_bfalse (sx_nbeq_f.mpr h)]; rfl
-- ways that become one
theorem sx_ebA_ok : ∀ {a b : List (sx_A × sx_A)}, sx_ebA a b = true → a = b := by
  intro a
  induction a with
  | nil =>
    intro b h
    cases b with
    | nil => rfl
    | cons y b => cases h
  | cons x a ih =>
    intro b h
    cases b with
    | nil => cases h
    | cons y b =>
      obtain ⟨h1, h2⟩ := sx_an_iff.mp (show sx_an (sx_ae x.1 y.1) (sx_an (sx_ae x.2 y.2) (sx_ebA a b)) = true from h)
      obtain ⟨h2, h3⟩ := sx_an_iff.mp h2
      rw [ih h3, Prod.ext (sx_ae_iff.mp h1) (sx_ae_iff.mp h2)]
theorem sx_ebT_ok : ∀ (n : Nat) (a b : sx_T n), sx_ebT n a b = true → a = b := by
  intro n
  induction n with
  | zero =>
    intro a b h
    obtain ⟨h1, h2⟩ := sx_an_iff.mp (show sx_an (Nat.beq (a : sx_F).1 (b : sx_F).1) (sx_ebA (a : sx_F).2 (b : sx_F).2) = true from h)
    exact Prod.ext (α := Nat) (β := List (sx_A × sx_A)) (sx_nbeq.mp h1) (sx_ebA_ok h2)
  | succ n ih =>
    intro a b h
    obtain ⟨h1, h2⟩ := sx_an_iff.mp (show sx_an (sx_ebT n (a : sx_T n × sx_T n).1 (b : sx_T n × sx_T n).1) (sx_ebT n (a : sx_T n × sx_T n).2 (b : sx_T n × sx_T n).2) = true from h)
    exact Prod.ext (α := sx_T n) (β := sx_T n) (ih _ _ h1) (ih _ _ h2)
theorem sx_same_ok {a b : sx_R} (h : sx_same a b = true) : a.1 = b.1 ∧ a.2.1 = b.2.1 ∧ a.2.2.2.2 = b.2.2.2.2 := by
  obtain ⟨h1, h2⟩ := sx_an_iff.mp (show sx_an (sx_ebV a.1 b.1) (sx_an (Nat.beq a.2.1 b.2.1) (sx_ebT 7 a.2.2.2.2 b.2.2.2.2)) = true from h)
  obtain ⟨h2, h3⟩ := sx_an_iff.mp h2
  refine ⟨?_, sx_nbeq.mp h2, sx_ebT_ok 7 _ _ h3⟩
  cases e1 : a.1 with
  | none =>
    cases e2 : b.1 with
    | none => rfl
    | some y => rw [e1, e2] at h1; cases h1
  | some x =>
    cases e2 : b.1 with
    | none => rw [e1, e2] at h1; cases h1
    | some y =>
      rw [e1, e2] at h1
      obtain ⟨h4, h5⟩ := sx_an_iff.mp (show sx_an (Nat.beq x.1 y.1) (sx_ae x.2 y.2) = true from h1)
      rw [show x = y from Prod.ext (sx_nbeq.mp h4) (sx_ae_iff.mp h5)]
def sx_go1 (ly : Nat → Option sx_H) (ib : sx_A) (xs : Nat → Int32) (L : Nat) (M0 : Nat → Nat → Int) (n : Nat) (ρ : Nat → Int) (M : Nat → Nat → Int) (v : Option sx_V) (o : sx_R) : Prop := n ≤ o.2.1 ∧ sx_sat ly ib xs L M0 ρ M o.2 ∧ o.1 = v ∧ sx_rok ρ o.2.1 o.1
theorem sx_hull_mem {t u : sx_S} {q : Nat × Int × Int} : ∀ {n : Nat}, q ∈ sx_hull t u n → q.1 < n ∧ q.2.1 = sx_mn (sx_si t q.1).1 (sx_si u q.1).1 ∧ q.2.2 = sx_mx (sx_si t q.1).2 (sx_si u q.1).2 := by
  intro n
  induction n with
  | zero => intro h; cases h
  | succ n ih =>
    intro h
    rcases List.mem_cons.mp (show q ∈ (n, sx_mn (sx_si t n).1 (sx_si u n).1, sx_mx (sx_si t n).2 (sx_si u n).2) :: sx_hull t u n from h) with rfl | h
    · exact ⟨Nat.lt_succ_self _, rfl, rfl⟩
    · obtain ⟨a, b⟩ := ih h
      exact ⟨Nat.lt_succ_of_lt a, b⟩
theorem sx_mrg {n : Nat} {ρ : Nat → Int} {M : Nat → Nat → Int} {v : Option sx_V} {p o : sx_R} (hs : sx_same p o = true) (h : sx_go1 ly ib xs L M0 n ρ M v p ∨ sx_go1 ly ib xs L M0 n ρ M v o) : sx_go1 ly ib xs L M0 n ρ M v (p.1, p.2.1, sx_hull p.2 o.2 n, ([], []), p.2.2.2.2) := by
  obtain ⟨s1, s2, s3⟩ := sx_same_ok hs
  have fact : ∀ (hw : ∀ k, k < n → sx_w (sx_si p.2 k) (ρ k) ∨ sx_w (sx_si o.2 k) (ρ k)) (q : Nat × Int × Int), q ∈ sx_hull p.2 o.2 n → q.1 < n ∧ sx_w q.2 (ρ q.1) := by
    intro hw q hq
    obtain ⟨a, b, c⟩ := sx_hull_mem hq
    refine ⟨a, ?_⟩
    have m1 := sx_mn_le1 (sx_si p.2 q.1).1 (sx_si o.2 q.1).1
    have m2 := sx_mx_ge1 (sx_si p.2 q.1).2 (sx_si o.2 q.1).2
    unfold sx_w
    rw [b, c]
    rcases hw q.1 a with h1 | h1
    · exact ⟨Int.le_trans m1.1 h1.1, Int.le_trans h1.2 m2.1⟩
    · exact ⟨Int.le_trans m1.2 h1.1, Int.le_trans h1.2 m2.2⟩
  rcases h with ⟨h1, h2, h3, h4⟩ | ⟨h1, h2, h3, h4⟩
  · refine ⟨h1, ⟨h2.1, h2.2.1, h2.2.2.1, fun q hq => ?_, ⟨fun q hq => (by cases hq), fun q hq => (by cases hq)⟩, h2.2.2.2.2.2⟩, h3, h4⟩
    obtain ⟨a, b⟩ := fact (fun k _ => Or.inl (sx_si_ok h2 k)) q hq
    exact ⟨Nat.lt_of_lt_of_le a h1, b⟩
  · refine ⟨by rw [← s2] at h1; exact h1, ⟨by show 9 ≤ p.2.1; rw [s2]; exact h2.1, h2.2.1, h2.2.2.1, fun q hq => ?_, ⟨fun q hq => (by cases hq), fun q hq => (by cases hq)⟩, h2.2.2.2.2.2.1, ?_, h2.2.2.2.2.2.2.2⟩, s1.trans h3, ?_⟩
    · obtain ⟨a, b⟩ := fact (fun k _ => Or.inr (sx_si_ok h2 k)) q hq
      exact ⟨Nat.lt_of_lt_of_le a (by show n ≤ p.2.1; rw [s2]; exact h1), b⟩
    · show ∀ k, k < 128 → sx_leaf ρ p.2.1 (M0 k) (M k) (sx_tg 7 p.2.2.2.2 k)
      rw [s2, s3]
      exact h2.2.2.2.2.2.2.1
    · show sx_rok ρ p.2.1 p.1
      rw [s2, s1]
      exact h4
theorem sx_ins_ok {n : Nat} {ρ : Nat → Int} {M : Nat → Nat → Int} {v : Option sx_V} {o : sx_R} : ∀ {l : List sx_R}, (sx_go1 ly ib xs L M0 n ρ M v o ∨ ∃ p ∈ l, sx_go1 ly ib xs L M0 n ρ M v p) → ∃ q ∈ sx_ins n o l, sx_go1 ly ib xs L M0 n ρ M v q := by
  intro l
  induction l with
  | nil =>
    intro h
    rcases h with h | ⟨p, hp, -⟩
    · exact ⟨o, List.mem_singleton.mpr rfl, h⟩
    · cases hp
  | cons p l ih =>
    intro h
    have e : sx_ins n o (p :: l) = (bif sx_an (sx_same p o) (Nat.ble (sx_dif p.2 o.2 n) 1) then (p.1, p.2.1, sx_hull p.2 o.2 n, ([], []), p.2.2.2.2) :: l else p :: sx_ins n o l) := rfl
    rw [e]
    cases e1 : sx_an (sx_same p o) (Nat.ble (sx_dif p.2 o.2 n) 1)
    · rw [sx_bfalse rfl]
      rcases h with h | ⟨q, hq, hg⟩
      · obtain ⟨q, h1, h2⟩ := ih (Or.inl h)
        exact ⟨q, List.mem_cons_of_mem _ h1, h2⟩
      · rcases List.mem_cons.mp hq with rfl | hq
        · exact ⟨q, List.mem_cons_self, hg⟩
        · obtain ⟨w, h1, h2⟩ := ih (Or.inr ⟨q, hq, hg⟩)
          exact ⟨w, List.mem_cons_of_mem _ h1, h2⟩
    · rw [sx_bt rfl]
      have hsm := (sx_an_iff.mp e1).1
      rcases h with h | ⟨q, hq, hg⟩
      · exact ⟨_, List.mem_cons_self, sx_mrg hsm (Or.inr h)⟩
      · rcases List.mem_cons.mp hq with rfl | hq
        · exact ⟨_, List.mem_cons_self, sx_mrg hsm (Or.inl hg)⟩
        · exact ⟨q, List.mem_cons_of_mem _ hq, hg⟩
theorem sx_join_ok {n : Nat} {ρ : Nat → Int} {M : Nat → Nat → Int} {v : Option sx_V} : ∀ {l : List sx_R}, (∃ p ∈ l, sx_go1 ly ib xs L M0 n ρ M v p) → ∃ q ∈ sx_join n l, sx_go1 ly ib xs L M0 n ρ M v q := by
  intro l
  induction l with
  | nil => intro ⟨p, hp, _⟩; cases hp
  | cons p l ih =>
    intro ⟨q, hq, hg⟩
    show ∃ q ∈ sx_ins n p (sx_join n l), _
    rcases List.mem_cons.mp hq with rfl | hq
    · exact sx_ins_ok (Or.inl hg)
    · exact sx_ins_ok (Or.inr (ih ⟨q, hq, hg⟩))
/-- what a run's ways say -/
def sx_done (MT : Nat → sm_M) (LK : Nat → Nat → Option sm_L) (RO : List (Nat × (Nat → Int32))) (NV : Nat → List Value) (cq : Nat) (ly : Nat → Option sx_H) (ib : sx_A) (xs : Nat → Int32) (L : Nat) (M0 : Nat → Nat → Int) (lay : List sx_H) (rf : Nat → Nat → Option Nat) (ρ : Nat → Int) (n : Nat) (os : List sx_R) (d j pc : Nat) (lv : sm_V) (s : List Value) (h : sm_H) : Prop :=
  ∃ o ∈ os, ∃ ρ' M', sx_ext n ρ ρ' ∧ n ≤ o.2.1 ∧ sx_sat ly ib xs L M0 ρ' M' o.2 ∧ sx_rok ρ' o.2.1 o.1 ∧ ∃ F, sm_run MT LK RO NV cq F d j pc lv s h = some (o.1.map (sx_cv1 ρ'), sx_HH lay rf M')
def sx_hok (MT : Nat → sm_M) (LK : Nat → Nat → Option sm_L) (RO : List (Nat × (Nat → Int32))) (NV : Nat → List Value) (cq : Nat) (ly : Nat → Option sx_H) (ib : sx_A) (xs : Nat → Int32) (L : Nat) (M0 : Nat → Nat → Int) (lay : List sx_H) (rf : Nat → Nat → Option Nat) (hk : Nat → Nat → List sx_V → sx_S → Option (List sx_R)) : Prop :=
  ∀ d k as t os ρ M, hk d k as t = some os → sx_sat ly ib xs L M0 ρ M t → sx_oks ρ t.1 as → sx_done MT LK RO NV cq ly ib xs L M0 lay rf ρ t.1 os d k 0 (lv_args 0 (sx_cs1 ρ as)) [] (sx_HH lay rf M)
theorem sx_run_ok {dd : Nat → Bool} {hk : Nat → Nat → List sx_V → sx_S → Option (List sx_R)} (hlo : sx_lok ly lay) (hb : sx_hbs ly bs M0) (hrf : sx_hrf ly rf) (hro : sx_hro rc RO xs L) (hhk : sx_hok MT LK RO NV cq ly ib xs L M0 lay rf hk) : ∀ (f d j pc : Nat) (lv : sx_L) (s : List sx_V) (t : sx_S) (os : List sx_R) (ρ : Nat → Int) (M : Nat → Nat → Int), sx_run bs ly rc ib sp MT LK dd hk f d j pc lv s t = some os → sx_sat ly ib xs L M0 ρ M t → sx_okl ρ t.1 lv → sx_oks ρ t.1 s → sx_done MT LK RO NV cq ly ib xs L M0 lay rf ρ t.1 os d j pc (sx_cl1 ρ lv) (sx_cs1 ρ s) (sx_HH lay rf M) := by
  intro f
  induction f with
  | zero => intro d j pc lv s t os ρ M h; cases h
  | succ f ih =>
    intro d j pc lv s t os ρ M h hs hl hst
    have h : (match (MT j).2.2.2.2.2 pc with
      | none => none
      | some (ins, len) => bif Nat.beq len (sm_len ins len) then (match sx_rt ins with
        | some g => (match g (MT j).2.2.1 s t with
          | some r => some [(r, t)]
          | none => none)
        | none => match sx_call ly (LK (MT j).1) (fun k => (MT k).2.2.2.1) ins s with
          | some (k, as, rest) => bif Nat.beq d 0 then none else bif sx_an (Nat.ble (sx_sum rest) 8) (Nat.ble (sx_sum as) (MT k).2.1) then (match (match hk (d - 1) k as t with
              | some os => some os
              | none => sx_run bs ly rc ib sp MT LK dd hk f (d - 1) k 0 (sx_args 0 as) [] t) with
            | some os => sx_cat (fun o => sx_fN (pc + 3) fun pc => sx_run bs ly rc ib sp MT LK dd hk f d j pc lv (o.1.toList ++ rest) o.2) (bif dd k then sx_join t.1 os else os)
            | none => none) else none
          | none => match sx_step bs ly rc ib sp (LK (MT j).1) (MT j).2.1 d ins pc lv s t with
            | some l => sx_cat (fun o => sx_fN o.1 fun pc => sx_run bs ly rc ib sp MT LK dd hk f d j pc o.2.1 o.2.2.1 o.2.2.2) l
            | none => none) else none) = some os := h
    cases efetch : (MT j).2.2.2.2.2 pc with
    | none => rw [efetch] at h; cases h
    | some il =>
      obtain ⟨ins, len⟩ := il
      rw [efetch] at h
      obtain ⟨elen, h⟩ := sx_bif h
      have elen := sx_nbeq.mp elen
      have hrun := fun F => sm_run_f (LK := LK) (RO := RO) (NV := NV) (cq := cq) (F := F) (d := d) (lv := sx_cl1 ρ lv) (s := sx_cs1 ρ s) (h := sx_HH lay rf M) efetch elen
      cases ert : sx_rt ins with
      | some g =>
        rw [ert] at h
        have h : (match g (MT j).2.2.1 s t with
          | some r => some [(r, t)]
          | none => none) = some os := h
        cases eg : g (MT j).2.2.1 s t with
        | none => rw [eg] at h; cases h
        | some r =>
          rw [eg] at h
          cases h
          obtain ⟨r1, r2⟩ := sx_rt_ok hs hst ert eg
          refine ⟨_, List.mem_singleton.mpr rfl, ρ, M, sx_ext_rfl, Nat.le_refl _, hs, r2, 1, ?_⟩
          rw [hrun 0, r1]
      | none =>
        rw [ert] at h
        cases ecall : sx_call ly (LK (MT j).1) (fun k => (MT k).2.2.2.1) ins s with
        | some kar =>
          obtain ⟨k, as, rest⟩ := kar
          rw [ecall] at h
          obtain ⟨ed, h⟩ := sx_bin' h
          obtain ⟨ec, h⟩ := sx_bif h
          obtain ⟨ec1, ec2⟩ := sx_an_iff.mp ec
          have ed := sx_nbeq_f.mp ed
          obtain ⟨d', rfl⟩ : ∃ d', d = d' + 1 := ⟨d - 1, by omega⟩
          have ed1 : d' + 1 - 1 = d' := rfl
          rw [ed1] at h
          obtain ⟨c1, c2, c3, c4⟩ := sx_call_ok (M := M) (rf := rf) hlo hst ecall
          have hcallee : ∀ os1, (match hk d' k as t with
              | some os => some os
              | none => sx_run bs ly rc ib sp MT LK dd hk f d' k 0 (sx_args 0 as) [] t) = some os1 → sx_done MT LK RO NV cq ly ib xs L M0 lay rf ρ t.1 os1 d' k 0 (lv_args 0 (sx_cs1 ρ as)) [] (sx_HH lay rf M) := by
            intro os1 h1
            cases eh : hk d' k as t with
            | some os2 =>
              rw [eh] at h1
              cases h1
              exact hhk d' k as t _ ρ M eh hs c2
            | none =>
              rw [eh] at h1
              rw [sx_args_ok]
              exact ih d' k 0 _ _ t os1 ρ M h1 hs (sx_args_okl c2) (fun v hv => by cases hv)
          cases e1 : (match hk d' k as t with
              | some os => some os
              | none => sx_run bs ly rc ib sp MT LK dd hk f d' k 0 (sx_args 0 as) [] t) with
          | none => rw [e1] at h; cases h
          | some os1 =>
            rw [e1] at h
            obtain ⟨o1, o1m, ρ1, M1, x1, x2, x3, x4, F1, x5⟩ := hcallee os1 e1
            obtain ⟨o2, o2m, y1, y2, y3, y4⟩ : ∃ q ∈ (bif dd k then sx_join t.1 os1 else os1), sx_go1 ly ib xs L M0 t.1 ρ1 M1 o1.1 q := by
              cases dd k
              · exact ⟨o1, o1m, x2, x3, rfl, x4⟩
              · exact sx_join_ok ⟨o1, o1m, x2, x3, rfl, x4⟩
            obtain ⟨u, u1, u2⟩ := sx_cat_ok h o2m
            rw [sx_fN_eq] at u1
            have okr : sx_oks ρ1 o2.2.1 (o2.1.toList ++ rest) := by
              intro v hv
              rcases List.mem_append.mp hv with hv | hv
              · exact y4 v (Option.mem_toList.mp hv)
              · exact sx_ext_ok x1 y1 (c3 v hv)
            obtain ⟨o3, o3m, ρ2, M2, z1, z2, z3, z4, F2, z5⟩ := ih (d' + 1) j (pc + 3) lv _ o2.2 u ρ1 M1 u1 y2 (sx_ext_okl x1 y1 hl) okr
            refine ⟨o3, u2 o3 o3m, ρ2, M2, sx_ext_tr x1 z1 y1, Nat.le_trans y1 z2, z3, z4, max F1 F2 + 1, ?_⟩
            rw [hrun, c4, c1]
            show (if sm_sum (sx_cs1 ρ rest) ≤ 8 ∧ (lg_sl (sx_cs1 ρ as)).length ≤ (MT k).2.1 then _ else none) = _
            rw [if_pos ⟨by rw [sx_sum_ok]; exact Nat.le_of_ble_eq_true ec1, by rw [sx_sl_len]; exact Nat.le_of_ble_eq_true ec2⟩, sm_fuel x5 (Nat.le_max_left _ _)]
            have es : (Option.map (sx_cv1 ρ1) o1.1).toList ++ sx_cs1 ρ rest = sx_cs1 ρ1 (o2.1.toList ++ rest) := by
              unfold sx_cs1
              rw [List.map_append, y3]
              congr 1
              · cases o1.1 <;> rfl
              · exact (sx_ext_cs x1 c3).symm
            show sm_run MT LK RO NV cq (max F1 F2) (d' + 1) j (pc + 3) (sx_cl1 ρ lv) ((Option.map (sx_cv1 ρ1) o1.1).toList ++ sx_cs1 ρ rest) (sx_HH lay rf M1) = _
            rw [es, ← sx_ext_cl x1 hl]
            exact sm_fuel z5 (Nat.le_max_right _ _)
        | none =>
          rw [ecall] at h
          cases estep : sx_step bs ly rc ib sp (LK (MT j).1) (MT j).2.1 d ins pc lv s t with
          | none => rw [estep] at h; cases h
          | some l =>
            rw [estep] at h
            obtain ⟨n1, n2⟩ := sx_step_nc estep
            obtain ⟨o, om, ρ1, M1, x1, x2, x3, x4, x5, x6⟩ := sx_step_ok (NV := NV) (cq := cq) (ini := (MT j).2.2.2.2.1) hlo hb hrf hro hs hl hst estep
            obtain ⟨u, u1, u2⟩ := sx_cat_ok h om
            rw [sx_fN_eq] at u1
            obtain ⟨o3, o3m, ρ2, M2, z1, z2, z3, z4, F2, z5⟩ := ih d j o.1 o.2.1 o.2.2.1 o.2.2.2 u ρ1 M1 u1 x3 x4 x5
            refine ⟨o3, u2 o3 o3m, ρ2, M2, sx_ext_tr x1 z1 x2, Nat.le_trans x2 z2, z3, z4, F2 + 1, ?_⟩
            rw [hrun, n1, n2, x6]
            exact z5
end
