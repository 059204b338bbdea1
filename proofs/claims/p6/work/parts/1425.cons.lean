/-! Contracts, 25. -/
section
variable {II : (Nat → Nat → Int) → Prop} {L : Nat} {xs : Nat → Int32}
def k_mled_7 : ct_C := ([(2, .ofNat 53, .ofNat 53), (0, .negSucc 2147483640, .negSucc 2147483640)], [], [], [], (some (0, .negSucc 0, .negSucc 0)), 3, false)
theorem c_mled_7 (he : cc_env II L xs) : cc II L xs 242 k_mled_7 :=
  cc_ok he (cts := []) (fc := 3000) (f := 3000) (cuts := []) cc_nil (by decide +kernel)
def k_mled_8 : ct_C := ([(2, .ofNat 53, .ofNat 53), (0, .negSucc 2147483639, .negSucc 2147483639)], [], [], [], (some (0, .negSucc 0, .negSucc 0)), 3, false)
theorem c_mled_8 (he : cc_env II L xs) : cc II L xs 242 k_mled_8 :=
  cc_ok he (cts := []) (fc := 3000) (f := 3000) (cuts := []) cc_nil (by decide +kernel)
def k_mled_9 : ct_C := ([(2, .ofNat 53, .ofNat 53), (0, .negSucc 2147483638, .negSucc 2147483638)], [], [], [], (some (0, .negSucc 0, .negSucc 0)), 3, false)
theorem c_mled_9 (he : cc_env II L xs) : cc II L xs 242 k_mled_9 :=
  cc_ok he (cts := []) (fc := 3000) (f := 3000) (cuts := []) cc_nil (by decide +kernel)
def k_mled_10 : ct_C := ([(2, .ofNat 53, .ofNat 53), (0, .negSucc 2147483637, .ofNat 2147483647)], [], [], [], (some (0, .negSucc 2147483647, .ofNat 2147483647)), 3, false)
theorem c_mled_10 (he : cc_env II L xs) : cc II L xs 242 k_mled_10 :=
  cc_ok he (cts := []) (fc := 3000) (f := 3000) (cuts := []) cc_nil (by decide +kernel)
def k_mled : ct_C := ([(2, .ofNat 53, .ofNat 53), (0, .negSucc 2147483647, .ofNat 2147483647)], [], [], [], (some (0, .negSucc 2147483647, .ofNat 2147483647)), 3, false)
theorem c_mled (he : cc_env II L xs) : cc II L xs 242 k_mled :=
  cv_a_ok (i := 1) (ms := [((.negSucc 2147483647, .negSucc 2147483647), k_mled_0), ((.negSucc 2147483646, .negSucc 2147483646), k_mled_1), ((.negSucc 2147483645, .negSucc 2147483645), k_mled_2), ((.negSucc 2147483644, .negSucc 2147483644), k_mled_3), ((.negSucc 2147483643, .negSucc 2147483643), k_mled_4), ((.negSucc 2147483642, .negSucc 2147483642), k_mled_5), ((.negSucc 2147483641, .negSucc 2147483641), k_mled_6), ((.negSucc 2147483640, .negSucc 2147483640), k_mled_7), ((.negSucc 2147483639, .negSucc 2147483639), k_mled_8), ((.negSucc 2147483638, .negSucc 2147483638), k_mled_9), ((.negSucc 2147483637, .ofNat 2147483647), k_mled_10)]) (cc_mcons (r := (.negSucc 2147483647, .negSucc 2147483647)) (c_mled_0 he) (cc_mcons (r := (.negSucc 2147483646, .negSucc 2147483646)) (c_mled_1 he) (cc_mcons (r := (.negSucc 2147483645, .negSucc 2147483645)) (c_mled_2 he) (cc_mcons (r := (.negSucc 2147483644, .negSucc 2147483644)) (c_mled_3 he) (cc_mcons (r := (.negSucc 2147483643, .negSucc 2147483643)) (c_mled_4 he) (cc_mcons (r := (.negSucc 2147483642, .negSucc 2147483642)) (c_mled_5 he) (cc_mcons (r := (.negSucc 2147483641, .negSucc 2147483641)) (c_mled_6 he) (cc_mcons (r := (.negSucc 2147483640, .negSucc 2147483640)) (c_mled_7 he) (cc_mcons (r := (.negSucc 2147483639, .negSucc 2147483639)) (c_mled_8 he) (cc_mcons (r := (.negSucc 2147483638, .negSucc 2147483638)) (c_mled_9 he) (cc_mcons (r := (.negSucc 2147483637, .ofNat 2147483647)) (c_mled_10 he) cc_mnil))))))))))) (by decide +kernel)
def k_mtrace : ct_C := ([(2, .ofNat 53, .ofNat 53), (0, .negSucc 2147483647, .ofNat 2147483647)], [], [], [], (some (0, .negSucc 2147483647, .ofNat 2147483647)), 1, false)
theorem c_mtrace (he : cc_env II L xs) : cc II L xs 245 k_mtrace :=
  cc_ok he (cts := []) (fc := 3000) (f := 3000) (cuts := []) cc_nil (by decide +kernel)
def k_mact : ct_C := ([(2, .ofNat 53, .ofNat 53), (0, .negSucc 2147483647, .ofNat 2147483647), (0, .negSucc 2147483647, .ofNat 2147483647), (0, .negSucc 2147483647, .ofNat 2147483647)], [(53, 57, .ofNat 0, .ofNat 50), (53, 59, .ofNat 0, .ofNat 1000000)], [(53, 59, .ofNat 0, .ofNat 10)], [86], (some (0, .negSucc 2147483647, .ofNat 2147483647)), 9, false)
theorem c_mact (he : cc_env II L xs) : cc II L xs 247 k_mact :=
  cc_ok he (cts := []) (fc := 3000) (f := 3000) (cuts := []) cc_nil (by decide +kernel)
def k_mcount : ct_C := ([(2, .ofNat 53, .ofNat 53), (0, .negSucc 2147483647, .ofNat 2147483647)], [], [], [], (some (0, .negSucc 0, .ofNat 1000000)), 1, false)
theorem c_mcount (he : cc_env II L xs) : cc II L xs 262 k_mcount :=
  cc_ok he (cts := []) (fc := 3000) (f := 3000) (cuts := []) cc_nil (by decide +kernel)
def k_melement : ct_C := ([(2, .ofNat 53, .ofNat 53), (0, .negSucc 2147483647, .ofNat 2147483647), (0, .negSucc 2147483647, .ofNat 2147483647)], [], [], [], (some (1, .negSucc 9223372036854775807, .ofNat 9223372036854775807)), 4, false)
theorem c_melement (he : cc_env II L xs) : cc II L xs 267 k_melement :=
  cc_ok he (cts := []) (fc := 3000) (f := 3000) (cuts := []) cc_nil (by decide +kernel)
end
