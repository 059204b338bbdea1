/-! Changes of the class: mend, undo, redo. -/
section
variable {L : Nat} {xs : Nat → Int32} {M M' MM M0 M1 M2 N : Nat → Nat → Int} {ρ ρ' : Nat → Int} {t t0 : sx_S} {Q : Option Value → (Nat → Nat → Int) → Prop} {n w v b : Int}
/-- what a number may be -/
def cm_rg (w v : Int) : Prop := (w = 0 ∧ 0 ≤ v ∧ v ≤ 143) ∨ (w = 1 ∧ 0 ≤ v ∧ v ≤ 12) ∨ ((w = 2 ∨ w = 3 ∨ w = 5) ∧ 0 ≤ v ∧ v ≤ 9) ∨ (w = 4 ∧ 1 ≤ v ∧ v ≤ 9) ∨ (w = 6 ∧ -1 ≤ v ∧ v ≤ 29) ∨ (w = 7 ∧ 0 ≤ v ∧ v ≤ 29)
/-- which number there is -/
def cm_pl (H C w n : Int) : Prop := (0 ≤ w ∧ w ≤ 4 ∧ 0 ≤ n ∧ n < H) ∨ (w = 5 ∧ 0 ≤ n ∧ n ≤ 29) ∨ (w = 6 ∧ 0 ≤ n ∧ n < C) ∨ (w = 7 ∧ n = 0)
/-- what mend() of the class does -/
def cx_M (n w v : Int) (M : Nat → Nat → Int) (r : Option Value) (M' : Nat → Nat → Int) : Prop := sx_mok cl_ly M' ∧ ((¬ (cm_pl (M 9 4) (M 9 5) w n ∧ cm_rg w v) ∧ r = some (.int (Int32.ofInt (-2000000000))) ∧ ∀ a, a < 128 → M' a = M a) ∨ (cm_pl (M 9 4) (M 9 5) w n ∧ cm_rg w v ∧ r = some (.int (Int32.ofInt (M 10 (30 * w + n).toNat))) ∧ ((M 10 (30 * w + n).toNat = v ∧ ∀ a, a < 128 → M' a = M a) ∨ (M 10 (30 * w + n).toNat ≠ v ∧ ∃ M1, cx_A w n (M 10 (30 * w + n).toNat) v M M1 ∧ cx_R (30 * w + n) v M1 M'))))
noncomputable def cm_t : sx_S := og_t [(0, sx_r32), (0, sx_r32), (0, sx_r32)] [(9, 4, (0, 6)), (9, 5, (0, 12))]
def cm_l : sx_L := [(0, 2, 0, 8), (1, 0, 9, 0), (2, 0, 10, 0), (3, 0, 11, 0)]
def cm_l4 : sx_L := [(0, 2, 0, 8), (1, 0, 9, 0), (2, 0, 10, 0), (3, 0, 11, 0), (4, 0, 14, 0)]
def cm_lo : List Int := [0, 0, 0, 0, 1, 0, -1, 0]
def cm_hi : List Int := [143, 12, 9, 9, 9, 9, 29, 29]
def cm_d (k : Nat) (a : Nat) (lo hi : Int) : og_D := (k, (a, 0), (0, 0), lo, hi)
def cm_n (c : Nat) : List og_D := if c < 5 then [cm_d 0 9 0 2147483647, (1, (9, 0), (12, 0), 0, 0)] else if c = 5 then [cm_d 0 9 0 29] else if c = 6 then [cm_d 0 9 0 2147483647, (1, (9, 0), (13, 0), 0, 0)] else [cm_d 0 9 0 0]
def cm_ix (c : Nat) : sx_A := if c = 7 then (0, 210) else (9, 30 * (c : Int))
def cm_ok (c : Nat) : List og_D := (6, cm_ix c, (14, 0), 10, 0) :: cm_d 0 10 (c : Int) (c : Int) :: cm_d 0 11 (cm_lo.getD c 0) (cm_hi.getD c 0) :: cm_n c
def cm_TA (c : Nat) : og_T := (some 49, none, [(0, 11, 0), (0, 14, 0), (0, 9, 0), (0, 10, 0), (2, 0, 32)], cm_l4, [], (4, (14, 0), (11, 0), 0, 0) :: cm_ok c)
def cm_TE (c : Nat) : og_T := (none, some (0, 14, 0), [], [], [], (3, (14, 0), (11, 0), 0, 0) :: cm_ok c)
def cm_TV (l : List og_D) : og_T := (none, some (0, 0, -2000000000), [], [], [], l)
def cm_badc (c : Nat) : List (List og_D) := [[cm_d 0 10 (c : Int) (c : Int), cm_d 0 11 (-2147483648) (cm_lo.getD c 0 - 1)], [cm_d 0 10 (c : Int) (c : Int), cm_d 0 11 (cm_hi.getD c 0 + 1) 2147483647]]
def cm_bad : List (List og_D) := [[cm_d 0 10 (-2147483648) (-1)], [cm_d 0 10 8 2147483647], [cm_d 0 9 (-2147483648) (-1)], [cm_d 0 10 5 5, cm_d 0 9 30 2147483647], [cm_d 0 10 7 7, cm_d 0 9 1 2147483647], [cm_d 0 10 6 6, (2, (9, 0), (13, 0), 0, 0)], [cm_d 0 10 0 4, (2, (9, 0), (12, 0), 0, 0)]] ++ (List.range 8).flatMap cm_badc
def cm_Ts : List og_T := (List.range 8).map cm_TA ++ ((List.range 8).map cm_TE ++ cm_bad.map cm_TV)
theorem cm_c : gs_chk (fun pc => Nat.beq pc 49) (fun o => cm_Ts.any (og_chk cm_t o)) 600 600 2 23 0 cm_l [] cm_t = true := by decide +kernel
-- from 52 to the call of set()
def cm_T2 : og_T := (some 59, none, [(0, 11, 0), (0, 9, 0), (0, 10, 0), (2, 0, 9)], [(4, 0, 12, 0)], [], [])
noncomputable def cm_t2 : sx_S := og_t [(0, sx_r32), (0, sx_r32), (0, sx_r32), (0, sx_r32)] []
def cm_l2 : sx_L := [(0, 2, 0, 8), (1, 0, 9, 0), (2, 0, 10, 0), (3, 0, 11, 0), (4, 0, 12, 0)]
theorem cm_c2 : gs_chk (fun pc => Nat.beq pc 59) (fun o => [cm_T2].any (og_chk cm_t2 o)) 300 300 2 23 52 cm_l2 [] cm_t2 = true := by decide +kernel
def cm_T3 : og_T := (none, some (0, 9, 0), [], [], [], [])
noncomputable def cm_t3 : sx_S := og_t [(0, sx_r32)] []
def cm_l3 : sx_L := [(4, 0, 9, 0)]
theorem cm_c3 : gs_chk (fun _ => false) (fun o => [cm_T3].any (og_chk cm_t3 o)) 300 300 2 23 62 cm_l3 [] cm_t3 = true := by decide +kernel
end
