/-! A method's contract, out of its segments: the check, and what it proves (the theorem is wanting). -/
section
noncomputable def mt_ent (c : ct_C) (t0 : sx_S) (a : Nat) (e : sx_A × sx_A) : Bool := sx_an (Nat.beq e.1.1 0) (bif c.2.2.1.any fun g => sx_an (Nat.beq g.1 a) (sx_eq (Int.ofNat g.2.1) e.1.2) then true else match sx_kn (fun _ _ => none) t0 a e.1 with
  | some v => sx_ae v e.2
  | none => false)
noncomputable def mt_cells (c : ct_C) (t0 t : sx_S) : Bool := (List.range 128).all fun a => bif c.2.2.2.1.any (Nat.beq a) then true else bif Nat.beq (sx_tg 7 t.2.2.2 a).1 0 then true else bif Nat.beq (sx_tg 7 t.2.2.2 a).1 1 then (sx_tg 7 t.2.2.2 a).2.all (mt_ent c t0 a) else false
noncomputable def mt_end (ly : Nat → Option sx_H) (c : ct_C) (t0 t : sx_S) (r : Option sx_V) : Bool := sx_an (mt_cells c t0 t) (sx_an (c.2.2.1.all (ct_fg ly t)) (match c.2.2.2.2.1, r with
  | none, none => true
  | some q, some v => ct_fv t q v
  | _, _ => false))
noncomputable def mt_at (l : List (Nat × ct_Q)) (lv : sx_L) : Option (List sx_V) := l.rec (some []) (fun q _ ih => match sx_lv lv q.1 with
  | some v => (match ih with
    | some r => some (v :: r)
    | none => none)
  | none => none)
def mt_nd (l : List Nat) : Bool := match l with
  | [] => true
  | a :: r => bif r.any (Nat.beq a) then false else mt_nd r
def mt_gd (l : List ct_G) : Bool := l.all fun g => sx_an (Nat.blt g.1 128) (sx_in g.2.2 sx_r64)
noncomputable def mt_stop (ly : Nat → Option sx_H) (c : ct_C) (K : mt_K) (src : Option (List (Int × sx_A) × Int)) (t0 : sx_S) (lv : sx_L) (s : List sx_V) (t : sx_S) : Bool := match mt_at K.2.1 lv, s with
  | some vs, [] => sx_an (ct_fvs t (K.2.1.map fun q => q.2) vs) (sx_an (sx_an (K.2.2.1.all (ct_fg ly t)) (K.2.2.2.1.all (ct_fg ly t))) (sx_an (mt_cells c t0 t) (sx_an (mt_nd (lv.map fun q => q.1)) (match src with
    | none => true
    | some w => sx_le (mt_ub t (mt_lin K.2.2.2.2.1 vs ++ mt_ng w.1) + K.2.2.2.2.2.1 - w.2) (-1)))))
  | _, _ => false
noncomputable def mt_out (ly : Nat → Option sx_H) (c : ct_C) (cuts : List mt_K) (src : Option (List (Int × sx_A) × Int)) (t0 : sx_S) (o : sx_P) : Bool := match o.1 with
  | some r => mt_end ly c t0 o.2.2.2.2 r
  | none => cuts.any fun K => sx_an (Nat.beq K.1 o.2.1) (mt_stop ly c K src t0 o.2.2.1 o.2.2.2.1 o.2.2.2.2)
def mt_stp (cuts : List mt_K) (pc : Nat) : Bool := cuts.any fun K => Nat.beq K.1 pc
noncomputable def mt_sg (ly : Nat → Option sx_H) (rc : List (List Int)) (MT : Nat → sm_M) (LK : Nat → Nat → Option sm_L) (zs : List Nat) (cts : List (Nat × ct_C)) (fc f j : Nat) (c : ct_C) (cuts : List mt_K) (src : Option (List (Int × sx_A) × Int)) (pc : Nat) (lv : sx_L) (t : sx_S) : Bool := match sx_seg (fun _ _ => none) ly rc (0, -100) false MT LK (fun _ => false) (ct_hk ly c.2.2.2.2.2.2 zs cts) (mt_stp cuts) fc f c.2.2.2.2.2.1 j true pc lv [] t with
  | some os => os.all (mt_out ly c cuts src t)
  | none => false
noncomputable def mt_kw (c : ct_C) (K : mt_K) : Bool := c.2.2.1.all fun g => bif c.2.2.2.1.any (Nat.beq g.1) then true else K.2.2.1.any fun w => sx_an (Nat.beq w.1 g.1) (Nat.beq w.2.1 g.2.1)
noncomputable def mt_c1 (ly : Nat → Option sx_H) (rc : List (List Int)) (MT : Nat → sm_M) (LK : Nat → Nat → Option sm_L) (zs : List Nat) (cts : List (Nat × ct_C)) (fc f j : Nat) (c : ct_C) (cuts : List mt_K) (K : mt_K) : Bool := sx_an (mt_nd (K.2.1.map fun q => q.1)) (sx_an (sx_an (mt_kw c K) (sx_an (mt_gd K.2.2.1) (mt_gd K.2.2.2.1))) (sx_an (sx_le (mt_ub (mt_ct c.2.2.2.1 K) (mt_ng (mt_lin K.2.2.2.2.1 (mt_cv c.2.2.2.1 K)))) K.2.2.2.2.2.1) (mt_sg ly rc MT LK zs cts fc f j c cuts (some (mt_lin K.2.2.2.2.1 (mt_cv c.2.2.2.1 K), K.2.2.2.2.2.1)) K.1 (mt_lv K.2.1 (mt_cv c.2.2.2.1 K)) (mt_ct c.2.2.2.1 K))))
def mt_set (v : Int) : List (Nat × ct_Q) → Nat → List (Nat × ct_Q)
  | [], _ => []
  | q :: l, 0 => (q.1, q.2.1, v, v) :: l
  | q :: l, i + 1 => q :: mt_set v l i
noncomputable def mt_cs (ly : Nat → Option sx_H) (rc : List (List Int)) (MT : Nat → sm_M) (LK : Nat → Nat → Option sm_L) (zs : List Nat) (cts : List (Nat × ct_C)) (fc f j : Nat) (c : ct_C) (cuts : List mt_K) (K : mt_K) : Bool := match K.2.2.2.2.2.2 with
  | none => mt_c1 ly rc MT LK zs cts fc f j c cuts K
  | some i => match K.2.1[i]? with
    | some q => sx_an (sx_an (mt_nd (K.2.1.map fun q => q.1)) (Nat.ble q.2.1 1)) ((sx_rn (q.2.2.2 - q.2.2.1 + 1).toNat q.2.2.1).all fun v => mt_c1 ly rc MT LK zs cts fc f j c cuts (K.1, mt_set v K.2.1 i, K.2.2))
    | none => false
noncomputable def mt_chk (ly : Nat → Option sx_H) (rc : List (List Int)) (MT : Nat → sm_M) (LK : Nat → Nat → Option sm_L) (zs : List Nat) (cts : List (Nat × ct_C)) (fc f j : Nat) (c : ct_C) (cuts : List mt_K) : Bool := sx_an (mt_gd c.2.1) (sx_an (c.2.2.2.1.all fun a => Nat.blt a 128) (sx_an (mt_sg ly rc MT LK zs cts fc f j c cuts none 0 (sx_args 0 (mt_as c.1 (mt_tr [])).1) (ct_get c.2.1 (mt_as c.1 (mt_tr [])).2)) (cuts.all (mt_cs ly rc MT LK zs cts fc f j c cuts))))
end
