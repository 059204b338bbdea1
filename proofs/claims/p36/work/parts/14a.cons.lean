/-! Contracts, 0. -/
section
variable {II : (Nat → Nat → Int) → Prop} {L : Nat} {xs : Nat → Int32}
def k_bitCount : ct_C := ([(0, .negSucc 2147483647, .ofNat 2147483647)], [], [], [], (some (0, .negSucc 2147483647, .ofNat 2147483647)), 1, false)
theorem c_bitCount (he : cc_env II L) : cc II L xs 93 k_bitCount :=
  cc_ok he (cts := []) (fc := 3000) (f := 3000) (cuts := []) cc_nil (by decide +kernel)
def k_worked : ct_C := ([(2, .ofNat 14, .ofNat 14)], [], [], [19], (some (0, .negSucc 2147483647, .ofNat 2147483647)), 5, false)
theorem c_worked (he : cc_env II L) : cc II L xs 61 k_worked := by
  sorry
def k_liking : ct_C := ([(2, .ofNat 14, .ofNat 14), (2, .ofNat 9, .ofNat 9), (0, .ofNat 0, .ofNat 5), (0, .ofNat 0, .ofNat 29), (0, .negSucc 2147483647, .ofNat 2147483647)], [], [], [19, 20], (some (0, .negSucc 98, .ofNat 99)), 6, false)
theorem c_liking (he : cc_env II L) : cc II L xs 59 k_liking :=
  cc_ok he (cts := [(61, k_worked)]) (fc := 3000) (f := 3000) (cuts := []) (cc_cons (c_worked he) cc_nil) (by decide +kernel)
def k_choice : ct_C := ([(2, .ofNat 21, .ofNat 21), (0, .ofNat 0, .ofNat 29)], [], [], [19, 20, 22], (some (0, .negSucc 1, .ofNat 11)), 7, false)
theorem c_choice (he : cc_env II L) : cc II L xs 57 k_choice :=
  cc_ok he (cts := [(59, k_liking)]) (fc := 3000) (f := 3000) (cuts := [(11, [(0, (2, .ofNat 21, .ofNat 21)), (1, (0, .ofNat 0, .ofNat 29)), (2, (0, .negSucc 1, .ofNat 11)), (3, (0, .ofNat 0, .ofNat 2147483647)), (4, (0, .negSucc 2147483647, .ofNat 2147483647)), (5, (0, .ofNat 0, .ofNat 12))], [], [], [(.negSucc 0, 5)], .ofNat 12, none)]) (cc_cons (c_liking he) cc_nil) (by decide +kernel)
def k_spend : ct_C := ([(2, .ofNat 21, .ofNat 21), (0, .ofNat 0, .ofNat 29)], [(21, 6, .negSucc 2147483647, .ofNat 2147483647)], [(21, 6, .negSucc 2147483647, .ofNat 2147483647)], [19, 20, 22, 23], (some (0, .negSucc 1, .ofNat 5)), 8, false)
theorem c_spend (he : cc_env II L) : cc II L xs 56 k_spend :=
  cc_ok he (cts := [(57, k_choice)]) (fc := 3000) (f := 3000) (cuts := []) (cc_cons (c_choice he) cc_nil) (by decide +kernel)
def k_begin : ct_C := ([(2, .ofNat 21, .ofNat 21)], [], [(21, 6, .negSucc 2147483647, .ofNat 2147483647), (21, 8, .negSucc 2147483647, .ofNat 2147483647)], [23], none, 1, false)
theorem c_begin (he : cc_env II L) : cc II L xs 54 k_begin :=
  cc_ok he (cts := []) (fc := 3000) (f := 3000) (cuts := []) cc_nil (by decide +kernel)
def k_spendUntil : ct_C := ([(2, .ofNat 21, .ofNat 21), (0, .negSucc 2147483647, .ofNat 30)], [(10, 210, .ofNat 0, .ofNat 29)], [(21, 6, .negSucc 2147483647, .ofNat 2147483647)], [19, 20, 22, 23], none, 9, false)
theorem c_spendUntil (he : cc_env II L) : cc II L xs 55 k_spendUntil :=
  cc_ok he (cts := [(56, k_spend)]) (fc := 3000) (f := 3000) (cuts := [(8, [(0, (2, .ofNat 21, .ofNat 21)), (1, (0, .negSucc 2147483647, .ofNat 30)), (2, (0, .ofNat 0, .ofNat 30))], [(21, 6, .negSucc 2147483647, .ofNat 2147483647)], [(10, 210, .ofNat 0, .ofNat 29)], [(.negSucc 0, 2)], .ofNat 30, none)]) (cc_cons (c_spend he) cc_nil) (by decide +kernel)
def k_likes : ct_C := ([(2, .ofNat 8, .ofNat 8), (0, .negSucc 2147483647, .ofNat 2147483647), (0, .negSucc 2147483647, .ofNat 2147483647)], [(10, 210, .ofNat 0, .ofNat 29)], [(21, 6, .negSucc 2147483647, .ofNat 2147483647), (21, 8, .negSucc 2147483647, .ofNat 2147483647)], [19, 20, 22, 23], (some (0, .negSucc 1999999999, .ofNat 99)), 10, false)
theorem c_likes (he : cc_env II L) : cc II L xs 51 k_likes :=
  cc_ok he (cts := [(59, k_liking), (54, k_begin), (55, k_spendUntil)]) (fc := 3000) (f := 3000) (cuts := []) (cc_cons (c_liking he) (cc_cons (c_begin he) (cc_cons (c_spendUntil he) cc_nil))) (by decide +kernel)
def k_accepts : ct_C := ([(2, .ofNat 8, .ofNat 8), (0, .negSucc 2147483647, .ofNat 2147483647), (0, .negSucc 2147483647, .ofNat 2147483647)], [(10, 210, .ofNat 0, .ofNat 29)], [(21, 6, .negSucc 2147483647, .ofNat 2147483647), (21, 8, .negSucc 2147483647, .ofNat 2147483647)], [19, 20, 22, 23], (some (0, .negSucc 1, .ofNat 11)), 10, false)
theorem c_accepts (he : cc_env II L) : cc II L xs 65 k_accepts :=
  cc_ok he (cts := [(57, k_choice), (54, k_begin), (55, k_spendUntil)]) (fc := 3000) (f := 3000) (cuts := []) (cc_cons (c_choice he) (cc_cons (c_begin he) (cc_cons (c_spendUntil he) cc_nil))) (by decide +kernel)
def k_visits : ct_C := ([(2, .ofNat 8, .ofNat 8), (0, .negSucc 2147483647, .ofNat 2147483647), (0, .negSucc 2147483647, .ofNat 2147483647)], [(10, 210, .ofNat 0, .ofNat 29)], [(21, 6, .negSucc 2147483647, .ofNat 2147483647), (21, 8, .negSucc 2147483647, .ofNat 2147483647)], [19, 20, 22, 23], (some (0, .negSucc 2147483647, .ofNat 2147483647)), 10, false)
theorem c_visits (he : cc_env II L) : cc II L xs 66 k_visits :=
  cc_ok he (cts := [(54, k_begin), (55, k_spendUntil)]) (fc := 3000) (f := 3000) (cuts := []) (cc_cons (c_begin he) (cc_cons (c_spendUntil he) cc_nil)) (by decide +kernel)
def k_firstDayAlone : ct_C := ([(2, .ofNat 8, .ofNat 8)], [(10, 210, .ofNat 0, .ofNat 29)], [(21, 6, .negSucc 2147483647, .ofNat 2147483647), (21, 8, .negSucc 2147483647, .ofNat 2147483647)], [19, 20, 22, 23], (some (0, .negSucc 1, .ofNat 29)), 9, false)
theorem c_firstDayAlone (he : cc_env II L) : cc II L xs 68 k_firstDayAlone :=
  cc_ok he (cts := [(56, k_spend), (54, k_begin)]) (fc := 3000) (f := 3000) (cuts := [(15, [(0, (2, .ofNat 8, .ofNat 8)), (1, (0, .ofNat 0, .ofNat 30))], [(21, 6, .negSucc 2147483647, .ofNat 2147483647), (21, 8, .negSucc 2147483647, .ofNat 2147483647)], [(10, 210, .ofNat 0, .ofNat 29)], [(.negSucc 0, 1)], .ofNat 30, none)]) (cc_cons (c_spend he) (cc_cons (c_begin he) cc_nil)) (by decide +kernel)
def k_driest : ct_C := ([(2, .ofNat 8, .ofNat 8)], [(10, 210, .ofNat 0, .ofNat 29)], [], [], (some (0, .ofNat 0, .ofNat 29)), 2, false)
theorem c_driest (he : cc_env II L) : cc II L xs 69 k_driest :=
  cc_ok he (cts := []) (fc := 3000) (f := 3000) (cuts := [(12, [(0, (2, .ofNat 8, .ofNat 8)), (1, (0, .ofNat 0, .ofNat 29)), (2, (0, .ofNat 1, .ofNat 30))], [], [(10, 210, .ofNat 0, .ofNat 29)], [(.negSucc 0, 2)], .ofNat 30, none)]) cc_nil (by decide +kernel)
def k_first : ct_C := ([(2, .ofNat 8, .ofNat 8), (0, .negSucc 2147483647, .ofNat 2147483647)], [(10, 210, .ofNat 0, .ofNat 29)], [(21, 6, .negSucc 2147483647, .ofNat 2147483647), (21, 8, .negSucc 2147483647, .ofNat 2147483647)], [19, 20, 22, 23], (some (0, .negSucc 1, .ofNat 29)), 10, false)
theorem c_first (he : cc_env II L) : cc II L xs 67 k_first :=
  cc_ok he (cts := [(68, k_firstDayAlone), (69, k_driest)]) (fc := 3000) (f := 3000) (cuts := []) (cc_cons (c_firstDayAlone he) (cc_cons (c_driest he) cc_nil)) (by decide +kernel)
def k_odds : ct_C := ([(2, .ofNat 8, .ofNat 8), (0, .negSucc 2147483647, .ofNat 2147483647), (0, .negSucc 2147483647, .ofNat 2147483647)], [], [], [], (some (0, .negSucc 2147483647, .ofNat 2147483647)), 3, false)
theorem c_odds (he : cc_env II L) : cc II L xs 70 k_odds :=
  cc_ok he (cts := []) (fc := 3000) (f := 3000) (cuts := []) cc_nil (by decide +kernel)
def k_fraction : ct_C := ([(1, .negSucc 9223372036854775807, .ofNat 9223372036854775807), (1, .negSucc 9223372036854775807, .ofNat 9223372036854775807), (0, .negSucc 2147483647, .ofNat 2147483647)], [], [], [], (some (1, .negSucc 9223372036854775807, .ofNat 9223372036854775807)), 1, false)
theorem c_fraction (he : cc_env II L) : cc II L xs 75 k_fraction :=
  cc_ok he (cts := []) (fc := 3000) (f := 3000) (cuts := [(9, [(0, (1, .negSucc 9223372036854775807, .ofNat 9223372036854775807)), (2, (1, .negSucc 9223372036854775807, .ofNat 9223372036854775807)), (4, (0, .negSucc 2147483647, .ofNat 2147483647)), (5, (1, .negSucc 9223372036854775807, .ofNat 9223372036854775807)), (7, (1, .negSucc 9223372036854775807, .ofNat 9223372036854775807)), (9, (0, .ofNat 0, .ofNat 100))], [], [], [(.negSucc 0, 5)], .ofNat 100, none)]) cc_nil (by decide +kernel)
end
