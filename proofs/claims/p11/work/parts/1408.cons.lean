/-! Contracts, 8. -/
section
variable {II : (Nat → Nat → Int) → Prop} {L : Nat} {xs : Nat → Int32}
def k_trace : ct_C := ([(2, .ofNat 8, .ofNat 8), (0, .negSucc 2147483647, .ofNat 2147483647)], [], [], [], (some (0, .negSucc 2147483647, .ofNat 2147483647)), 2, false)
theorem c_trace (he : cc_env II L xs) : cc II L xs 136 k_trace :=
  cc_ok he (cts := []) (fc := 3000) (f := 3000) (cuts := []) cc_nil (by decide +kernel)
def k_keep : ct_C := ([(2, .ofNat 8, .ofNat 8), (0, .negSucc 2147483647, .ofNat 2147483647), (0, .negSucc 2147483647, .ofNat 2147483647)], [], [(41, 1, .ofNat 0, .ofNat 60), (41, 2, .negSucc 0, .ofNat 4), (41, 3, .negSucc 0, .ofNat 49), (43, 1, .ofNat 0, .ofNat 60), (43, 2, .negSucc 0, .ofNat 4), (43, 3, .negSucc 0, .ofNat 49), (45, 1, .ofNat 0, .ofNat 60), (45, 2, .negSucc 0, .ofNat 4), (45, 3, .negSucc 0, .ofNat 49), (47, 1, .ofNat 0, .ofNat 60), (47, 2, .negSucc 0, .ofNat 4), (47, 3, .negSucc 0, .ofNat 49), (49, 1, .ofNat 0, .ofNat 60), (49, 2, .negSucc 0, .ofNat 4), (49, 3, .negSucc 0, .ofNat 49), (51, 1, .ofNat 0, .ofNat 60), (51, 2, .negSucc 0, .ofNat 4), (51, 3, .negSucc 0, .ofNat 49)], [], (some (0, .negSucc 0, .ofNat 1)), 2, false)
theorem c_keep (he : cc_env II L xs) : cc II L xs 138 k_keep :=
  cc_ok he (cts := []) (fc := 3000) (f := 3000) (cuts := []) cc_nil (by decide +kernel)
def k_holdRow0 : ct_C := ([(2, .ofNat 41, .ofNat 41), (0, .ofNat 0, .ofNat 4), (0, .ofNat 0, .ofNat 60)], [], [(41, 1, .ofNat 0, .ofNat 60), (41, 2, .ofNat 0, .ofNat 4), (41, 3, .negSucc 0, .negSucc 0)], [42], none, 1, false)
theorem c_holdRow0 (he : cc_env II L xs) : cc II L xs 141 k_holdRow0 :=
  cc_ok he (cts := []) (fc := 3000) (f := 3000) (cuts := [(17, [(0, (2, .ofNat 41, .ofNat 41)), (1, (0, .ofNat 0, .ofNat 4)), (2, (0, .ofNat 0, .ofNat 60)), (3, (0, .ofNat 0, .ofNat 60))], [(41, 1, .ofNat 0, .ofNat 60), (41, 2, .ofNat 0, .ofNat 4), (41, 3, .negSucc 0, .negSucc 0)], [], [(.negSucc 0, 3)], .ofNat 60, none)]) cc_nil (by decide +kernel)
def k_holdRow1 : ct_C := ([(2, .ofNat 43, .ofNat 43), (0, .ofNat 0, .ofNat 4), (0, .ofNat 0, .ofNat 60)], [], [(43, 1, .ofNat 0, .ofNat 60), (43, 2, .ofNat 0, .ofNat 4), (43, 3, .negSucc 0, .negSucc 0)], [44], none, 1, false)
theorem c_holdRow1 (he : cc_env II L xs) : cc II L xs 141 k_holdRow1 :=
  cc_ok he (cts := []) (fc := 3000) (f := 3000) (cuts := [(17, [(0, (2, .ofNat 43, .ofNat 43)), (1, (0, .ofNat 0, .ofNat 4)), (2, (0, .ofNat 0, .ofNat 60)), (3, (0, .ofNat 0, .ofNat 60))], [(43, 1, .ofNat 0, .ofNat 60), (43, 2, .ofNat 0, .ofNat 4), (43, 3, .negSucc 0, .negSucc 0)], [], [(.negSucc 0, 3)], .ofNat 60, none)]) cc_nil (by decide +kernel)
def k_holdRow2 : ct_C := ([(2, .ofNat 45, .ofNat 45), (0, .ofNat 0, .ofNat 4), (0, .ofNat 0, .ofNat 60)], [], [(45, 1, .ofNat 0, .ofNat 60), (45, 2, .ofNat 0, .ofNat 4), (45, 3, .negSucc 0, .negSucc 0)], [46], none, 1, false)
theorem c_holdRow2 (he : cc_env II L xs) : cc II L xs 141 k_holdRow2 :=
  cc_ok he (cts := []) (fc := 3000) (f := 3000) (cuts := [(17, [(0, (2, .ofNat 45, .ofNat 45)), (1, (0, .ofNat 0, .ofNat 4)), (2, (0, .ofNat 0, .ofNat 60)), (3, (0, .ofNat 0, .ofNat 60))], [(45, 1, .ofNat 0, .ofNat 60), (45, 2, .ofNat 0, .ofNat 4), (45, 3, .negSucc 0, .negSucc 0)], [], [(.negSucc 0, 3)], .ofNat 60, none)]) cc_nil (by decide +kernel)
def k_holdRow3 : ct_C := ([(2, .ofNat 47, .ofNat 47), (0, .ofNat 0, .ofNat 4), (0, .ofNat 0, .ofNat 60)], [], [(47, 1, .ofNat 0, .ofNat 60), (47, 2, .ofNat 0, .ofNat 4), (47, 3, .negSucc 0, .negSucc 0)], [48], none, 1, false)
theorem c_holdRow3 (he : cc_env II L xs) : cc II L xs 141 k_holdRow3 :=
  cc_ok he (cts := []) (fc := 3000) (f := 3000) (cuts := [(17, [(0, (2, .ofNat 47, .ofNat 47)), (1, (0, .ofNat 0, .ofNat 4)), (2, (0, .ofNat 0, .ofNat 60)), (3, (0, .ofNat 0, .ofNat 60))], [(47, 1, .ofNat 0, .ofNat 60), (47, 2, .ofNat 0, .ofNat 4), (47, 3, .negSucc 0, .negSucc 0)], [], [(.negSucc 0, 3)], .ofNat 60, none)]) cc_nil (by decide +kernel)
def k_holdRow4 : ct_C := ([(2, .ofNat 49, .ofNat 49), (0, .ofNat 0, .ofNat 4), (0, .ofNat 0, .ofNat 60)], [], [(49, 1, .ofNat 0, .ofNat 60), (49, 2, .ofNat 0, .ofNat 4), (49, 3, .negSucc 0, .negSucc 0)], [50], none, 1, false)
theorem c_holdRow4 (he : cc_env II L xs) : cc II L xs 141 k_holdRow4 :=
  cc_ok he (cts := []) (fc := 3000) (f := 3000) (cuts := [(17, [(0, (2, .ofNat 49, .ofNat 49)), (1, (0, .ofNat 0, .ofNat 4)), (2, (0, .ofNat 0, .ofNat 60)), (3, (0, .ofNat 0, .ofNat 60))], [(49, 1, .ofNat 0, .ofNat 60), (49, 2, .ofNat 0, .ofNat 4), (49, 3, .negSucc 0, .negSucc 0)], [], [(.negSucc 0, 3)], .ofNat 60, none)]) cc_nil (by decide +kernel)
def k_holdRow5 : ct_C := ([(2, .ofNat 51, .ofNat 51), (0, .ofNat 0, .ofNat 4), (0, .ofNat 0, .ofNat 60)], [], [(51, 1, .ofNat 0, .ofNat 60), (51, 2, .ofNat 0, .ofNat 4), (51, 3, .negSucc 0, .negSucc 0)], [52], none, 1, false)
theorem c_holdRow5 (he : cc_env II L xs) : cc II L xs 141 k_holdRow5 :=
  cc_ok he (cts := []) (fc := 3000) (f := 3000) (cuts := [(17, [(0, (2, .ofNat 51, .ofNat 51)), (1, (0, .ofNat 0, .ofNat 4)), (2, (0, .ofNat 0, .ofNat 60)), (3, (0, .ofNat 0, .ofNat 60))], [(51, 1, .ofNat 0, .ofNat 60), (51, 2, .ofNat 0, .ofNat 4), (51, 3, .negSucc 0, .negSucc 0)], [], [(.negSucc 0, 3)], .ofNat 60, none)]) cc_nil (by decide +kernel)
def k_row : ct_C := ([(2, .ofNat 8, .ofNat 8), (0, .negSucc 2147483647, .ofNat 2147483647), (0, .negSucc 2147483647, .ofNat 2147483647), (0, .negSucc 2147483647, .ofNat 2147483647)], [], [(41, 1, .ofNat 0, .ofNat 60), (41, 2, .negSucc 0, .ofNat 4), (41, 3, .negSucc 0, .ofNat 49), (43, 1, .ofNat 0, .ofNat 60), (43, 2, .negSucc 0, .ofNat 4), (43, 3, .negSucc 0, .ofNat 49), (45, 1, .ofNat 0, .ofNat 60), (45, 2, .negSucc 0, .ofNat 4), (45, 3, .negSucc 0, .ofNat 49), (47, 1, .ofNat 0, .ofNat 60), (47, 2, .negSucc 0, .ofNat 4), (47, 3, .negSucc 0, .ofNat 49), (49, 1, .ofNat 0, .ofNat 60), (49, 2, .negSucc 0, .ofNat 4), (49, 3, .negSucc 0, .ofNat 49), (51, 1, .ofNat 0, .ofNat 60), (51, 2, .negSucc 0, .ofNat 4), (51, 3, .negSucc 0, .ofNat 49)], [42, 44, 46, 48, 50, 52], (some (0, .negSucc 13, .ofNat 1)), 2, false)
theorem c_row (he : cc_env II L xs) : cc II L xs 140 k_row :=
  cc_ok he (cts := [(141, k_holdRow0), (141, k_holdRow1), (141, k_holdRow2), (141, k_holdRow3), (141, k_holdRow4), (141, k_holdRow5)]) (fc := 3000) (f := 3000) (cuts := []) (cc_cons (c_holdRow0 he) (cc_cons (c_holdRow1 he) (cc_cons (c_holdRow2 he) (cc_cons (c_holdRow3 he) (cc_cons (c_holdRow4 he) (cc_cons (c_holdRow5 he) cc_nil)))))) (by decide +kernel)
def k_put : ct_C := ([(2, .ofNat 8, .ofNat 8), (0, .negSucc 2147483647, .ofNat 2147483647), (0, .negSucc 2147483647, .ofNat 2147483647), (1, .negSucc 9223372036854775807, .ofNat 9223372036854775807)], [], [], [42, 44, 46, 48, 50, 52], (some (0, .negSucc 12, .ofNat 1)), 3, false)
theorem c_put (he : cc_env II L xs) : cc II L xs 142 k_put :=
  cc_ok he (cts := []) (fc := 3000) (f := 3000) (cuts := []) cc_nil (by decide +kernel)
def k_element : ct_C := ([(2, .ofNat 8, .ofNat 8), (0, .negSucc 2147483647, .ofNat 2147483647), (0, .negSucc 2147483647, .ofNat 2147483647)], [], [], [], (some (1, .negSucc 9223372036854775807, .ofNat 9223372036854775807)), 3, false)
theorem c_element (he : cc_env II L xs) : cc II L xs 146 k_element :=
  cc_ok he (cts := []) (fc := 3000) (f := 3000) (cuts := []) cc_nil (by decide +kernel)
def k_shift : ct_C := ([(2, .ofNat 8, .ofNat 8), (0, .negSucc 2147483647, .ofNat 2147483647), (0, .negSucc 2147483647, .ofNat 2147483647), (0, .negSucc 2147483647, .ofNat 2147483647), (0, .negSucc 2147483647, .ofNat 2147483647), (0, .negSucc 2147483647, .ofNat 2147483647)], [], [], [42, 44, 46, 48, 50, 52], (some (0, .negSucc 12, .ofNat 60)), 2, false)
theorem c_shift (he : cc_env II L xs) : cc II L xs 147 k_shift :=
  cc_ok he (cts := []) (fc := 3000) (f := 3000) (cuts := []) cc_nil (by decide +kernel)
end
