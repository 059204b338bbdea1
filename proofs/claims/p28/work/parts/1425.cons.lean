/-! Contracts, 25. -/
section
variable {II : (Nat → Nat → Int) → Prop} {L : Nat} {xs : Nat → Int32}
def k_mtrace : ct_C := ([(2, .ofNat 53, .ofNat 53), (0, .negSucc 2147483647, .ofNat 2147483647)], [], [], [], (some (0, .negSucc 2147483647, .ofNat 2147483647)), 1, false)
theorem c_mtrace (he : cc_env II L xs) : cc II L xs 245 k_mtrace :=
  cc_ok he (cts := []) (fc := 3000) (f := 3000) (cuts := []) cc_nil (by decide +kernel)
def k_mact : ct_C := ([(2, .ofNat 53, .ofNat 53), (0, .negSucc 2147483647, .ofNat 2147483647), (0, .negSucc 2147483647, .ofNat 2147483647), (0, .negSucc 2147483647, .ofNat 2147483647)], [(53, 57, .ofNat 0, .ofNat 50), (53, 59, .ofNat 0, .ofNat 1000000)], [(53, 59, .ofNat 0, .ofNat 10)], [86], (some (0, .negSucc 2147483647, .ofNat 2147483647)), 9, false)
theorem c_mact (he : cc_env II L xs) : cc II L xs 247 k_mact :=
  cc_ok he (cts := []) (fc := 3000) (f := 3000) (cuts := []) cc_nil (by decide +kernel)
def k_mcount : ct_C := ([(2, .ofNat 53, .ofNat 53), (0, .negSucc 2147483647, .ofNat 2147483647)], [], [], [], (some (0, .negSucc 0, .ofNat 1000000)), 1, false)
theorem c_mcount (he : cc_env II L xs) : cc II L xs 262 k_mcount :=
  cc_ok he (cts := []) (fc := 3000) (f := 3000) (cuts := []) cc_nil (by decide +kernel)
def k_melement : ct_C := ([(2, .ofNat 53, .ofNat 53), (0, .negSucc 2147483647, .ofNat 2147483647), (0, .negSucc 2147483647, .ofNat 2147483647)], [], [], [], (some (1, .negSucc 9223372036854775807, .ofNat 9223372036854775807)), 4, false)
theorem c_melement (he : cc_env II L xs) : cc II L xs 267 k_melement :=
  cc_ok he (cts := []) (fc := 3000) (f := 3000) (cuts := []) cc_nil (by decide +kernel)
end
