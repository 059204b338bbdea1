/-! Shelves: shift of the class. -/
section
variable {WF : (Nat → Nat → Int) → Prop} {L : Nat} {xs : Nat → Int32} {M M' M0 M1 M2 N : Nat → Nat → Int} {ρ ρ' : Nat → Int} {t : sx_S} {Q : Option Value → (Nat → Nat → Int) → Prop} {s i o j n : Int} {c e : Nat} {cps : List la_P}
/-- how a shelf stands: 0 empty, 1 a body, 2 a row -/
def sf_rs (k : Nat) : Int × Int := if k = 2 then (0, 4) else (-1, -1)
def sf_rh (k : Nat) : Int × Int := if k = 1 then (0, 49) else (-1, -1)
def sf_g (c e : Nat) : List ct_Q := [(0, ((c : Int), (c : Int))), (0, sx_r32), (0, ((e : Int), (e : Int))), (0, sx_r32), (0, sx_r32)]
def sf_f1 (c k : Nat) : List ct_G := [(41 + 2 * c, 1, (0, 60)), (41 + 2 * c, 2, sf_rs k), (41 + 2 * c, 3, sf_rh k)]
def sf_f (c e kc ke : Nat) : List ct_G := if c = e then sf_f1 c kc else sf_f1 c kc ++ sf_f1 e ke
noncomputable def sf_t (c e kc ke : Nat) : sx_S := og_t (sf_g c e) (sf_f c e kc ke)
def sf_l (a : Int) : sx_L := [(0, 2, 0, a), (1, 0, 9, 0), (2, 0, 10, 0), (3, 0, 11, 0), (4, 0, 12, 0), (5, 0, 13, 0)]
/-- 10 i, 12 j, 13 n, 14 and E the lengths, 15 and E + 1 the sorts -/
def sf_T (c e E m1 m2 : Nat) (eq ne : List og_D) : List og_T :=
  (if c = e then [] else [og_r (-12) ne]) ++ [og_r (-13) (og_b 13 og_mn (-1) :: eq), og_r (-13) (og_b 10 og_mn (-1) :: eq), og_r (-13) (og_l 14 13 0 :: eq), og_r (-13) ((5, (14, 0), (13, 0), 1, (m1 : Int)) :: og_b 13 0 60 :: og_l m1 10 0 :: og_nl 14 13 0 :: eq), og_r (-13) (og_b 12 og_mn (-1) :: eq), og_r (-13) (og_l E 13 0 :: eq), og_r (-13) ((5, (E, 0), (13, 0), 1, (m2 : Int)) :: og_b 13 0 60 :: og_l m2 12 0 :: og_nl E 13 0 :: eq), (some 124, none, [(0, 13, 0), (0, 12, 0), (2, 0, 42 + 2 * (e : Int)), (0, 10, 0), (2, 0, 42 + 2 * (c : Int))], [(5, 0, 13, 0)], [], og_b 13 0 60 :: og_b 10 0 60 :: og_b 12 0 60 :: (5, (14, 0), (13, 0), 1, (m1 : Int)) :: og_nl m1 10 0 :: og_nl 14 13 0 :: (5, (E, 0), (13, 0), 1, (m2 : Int)) :: og_nl m2 12 0 :: og_nl E 13 0 :: eq)]
def sf_Tx (c e kc ke : Nat) : List og_T := if kc = 0 ∨ ke = 0 then [og_r (-11) []] else if kc = 1 ∨ ke = 1 then [og_r (-12) []] else if c = e then sf_T c e 14 17 17 [] [] else sf_T c e 17 20 21 [(3, (15, 0), (18, 0), 0, 0)] [(4, (15, 0), (18, 0), 0, 0)]
def sf_all (p : Nat → Nat → Nat → Nat → Bool) : Bool := (List.range 6).all fun c => (List.range 6).all fun e => (List.range 3).all fun kc => (List.range 3).all fun ke => if c = e ∧ kc ≠ ke then true else p c e kc ke
theorem sf_cx : sf_all (fun c e kc ke => gs_chk (fun pc => Nat.beq pc 124) (fun o => (sf_Tx c e kc ke).any (og_chk (sf_t c e kc ke) o)) 300 300 4 147 0 (sf_l 8) [] (sf_t c e kc ke)) = true := by decide +kernel
theorem sf_all_ok {p : Nat → Nat → Nat → Nat → Bool} (h : sf_all p = true) {c e kc ke : Nat} (hc : c < 6) (he : e < 6) (h1 : kc < 3) (h2 : ke < 3) (h3 : c = e → kc = ke) : p c e kc ke = true := by
  have h := List.all_eq_true.mp (List.all_eq_true.mp (List.all_eq_true.mp (List.all_eq_true.mp h c (List.mem_range.mpr hc)) e (List.mem_range.mpr he)) kc (List.mem_range.mpr h1)) ke (List.mem_range.mpr h2)
  rw [if_neg (fun h9 => h9.2 (h3 h9.1))] at h
  exact h
end
