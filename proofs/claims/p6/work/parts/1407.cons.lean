/-! Contracts, 7. -/
section
variable {II : (Nat → Nat → Int) → Prop} {L : Nat} {xs : Nat → Int32}
def k_drawn : ct_C := ([(2, .ofNat 8, .ofNat 8), (0, .negSucc 2147483647, .ofNat 2147483647), (0, .negSucc 2147483647, .ofNat 2147483647), (0, .negSucc 2147483647, .ofNat 2147483647)], [(10, 210, .ofNat 0, .ofNat 29)], [(21, 6, .negSucc 2147483647, .ofNat 2147483647), (21, 7, .negSucc 2147483647, .ofNat 2147483647), (21, 8, .negSucc 2147483647, .ofNat 2147483647)], [19, 20, 22, 23], (some (0, .negSucc 2147483647, .ofNat 2147483647)), 7, false)
theorem c_drawn (he : cc_env II L xs) : cc II L xs 110 k_drawn :=
  cc_ok he (cts := [(93, k_bitCount), (111, k_season)]) (fc := 3000) (f := 3000) (cuts := [(43, [(0, (2, .ofNat 8, .ofNat 8)), (1, (0, .negSucc 2147483647, .ofNat 2147483647)), (2, (0, .ofNat 1, .ofNat 30)), (3, (0, .negSucc 0, .ofNat 5)), (4, (0, .negSucc 2147483647, .ofNat 2147483647)), (5, (0, .ofNat 0, .ofNat 30))], [(21, 6, .negSucc 2147483647, .ofNat 2147483647), (21, 7, .negSucc 2147483647, .ofNat 2147483647), (21, 8, .negSucc 2147483647, .ofNat 2147483647)], [(10, 210, .ofNat 0, .ofNat 29)], [(.negSucc 0, 5)], .ofNat 30, none)]) (cc_cons (c_bitCount he) (cc_cons (c_season he) cc_nil)) (by decide +kernel)
def k_led : ct_C := ([(2, .ofNat 8, .ofNat 8), (0, .negSucc 2147483647, .ofNat 2147483647)], [], [], [], (some (0, .negSucc 2147483647, .ofNat 2147483647)), 1, false)
theorem c_led (he : cc_env II L xs) : cc II L xs 116 k_led :=
  cc_ok he (cts := []) (fc := 3000) (f := 3000) (cuts := []) cc_nil (by decide +kernel)
def k_isUnderX : ct_C := ([(0, .ofNat 0, .ofNat 7), (0, .ofNat 0, .ofNat 7)], [], [], [], (some (0, .ofNat 0, .ofNat 1)), 1, false)
theorem c_isUnderX (he : cc_env II L xs) : cc II L xs 150 k_isUnderX :=
  cc_ok he (cts := []) (fc := 3000) (f := 3000) (cuts := [(4, [(0, (0, .ofNat 0, .ofNat 7)), (1, (0, .ofNat 0, .ofNat 7)), (2, (0, .negSucc 0, .ofNat 7)), (3, (0, .ofNat 0, .ofNat 8))], [], [], [(.ofNat 1, 2)], .ofNat 1, none)]) cc_nil (by decide +kernel)
def k_act : ct_C := ([(2, .ofNat 8, .ofNat 8), (0, .negSucc 2147483647, .ofNat 2147483647), (0, .negSucc 2147483647, .ofNat 2147483647), (0, .negSucc 2147483647, .ofNat 2147483647)], [(37, 2, .ofNat 0, .ofNat 50), (37, 3, .ofNat 0, .ofNat 1000000)], [(37, 3, .ofNat 0, .ofNat 10)], [39], (some (0, .negSucc 2147483647, .ofNat 2147483647)), 17, false)
theorem c_act (he : cc_env II L xs) : cc II L xs 128 k_act :=
  cc_ok he (cts := []) (fc := 3000) (f := 3000) (cuts := []) cc_nil (by decide +kernel)
end
