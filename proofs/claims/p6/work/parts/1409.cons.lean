/-! Contracts, 9. -/
section
variable {II : (Nat → Nat → Int) → Prop} {L : Nat} {xs : Nat → Int32}
def k_taken : ct_C := ([(2, .ofNat 8, .ofNat 8), (0, .negSucc 2147483647, .ofNat 2147483647), (0, .negSucc 2147483647, .ofNat 2147483647)], [], [], [], (some (0, .negSucc 11, .ofNat 7)), 2, false)
theorem c_taken (he : cc_env II L xs) : cc II L xs 149 k_taken :=
  cc_ok he (cts := [(150, k_isUnderX)]) (fc := 3000) (f := 3000) (cuts := []) (cc_cons (c_isUnderX he) cc_nil) (by decide +kernel)
def k_count : ct_C := ([(2, .ofNat 8, .ofNat 8), (0, .negSucc 2147483647, .ofNat 2147483647)], [], [], [], (some (0, .negSucc 0, .ofNat 1000000)), 1, false)
theorem c_count (he : cc_env II L xs) : cc II L xs 151 k_count :=
  cc_ok he (cts := []) (fc := 3000) (f := 3000) (cuts := []) cc_nil (by decide +kernel)
def k_mlowest : ct_C := ([(1, .negSucc 9223372036854775807, .ofNat 9223372036854775807), (1, .negSucc 9223372036854775807, .ofNat 9223372036854775807), (0, .negSucc 2147483647, .ofNat 2147483647)], [], [], [], (some (1, .negSucc 9223372036854775807, .ofNat 9223372036854775807)), 1, false)
theorem c_mlowest (he : cc_env II L xs) : cc II L xs 209 k_mlowest :=
  mw_ok (ck := mk_rem 3 4) (μ := mk_abs 4) (cts := []) (fc := 3000) (f := 3000) (cuts := [(16, [(0, (1, .negSucc 9223372036854775807, .ofNat 9223372036854775807)), (2, (1, .negSucc 9223372036854775807, .ofNat 9223372036854775807)), (4, (0, .negSucc 2147483647, .ofNat 2147483647)), (5, (1, .ofNat 1, .ofNat 9223372036854775807)), (7, (1, .negSucc 9223372036854775807, .ofNat 9223372036854775807))], [], [], [], .ofNat 0, none), (16, [(0, (1, .negSucc 9223372036854775807, .ofNat 9223372036854775807)), (2, (1, .negSucc 9223372036854775807, .ofNat 9223372036854775807)), (4, (0, .negSucc 2147483647, .ofNat 2147483647)), (5, (1, .negSucc 9223372036854775807, .negSucc 0)), (7, (1, .negSucc 9223372036854775807, .ofNat 9223372036854775807))], [], [], [], .ofNat 0, none)]) cl_lok cl_hrf (cl_hro L xs) he.1 he.2.1 cc_nil (fun us vs t ρ MM M h1 h2 h3 h4 => mk_rem_ok h1 h2 h3 h4) (by decide +kernel)
def k_mbits6_0 : ct_C := ([(0, .ofNat 0, .ofNat 0)], [], [], [], (some (0, .ofNat 0, .ofNat 0)), 1, false)
theorem c_mbits6_0 (he : cc_env II L xs) : cc II L xs 222 k_mbits6_0 :=
  cc_ok he (cts := []) (fc := 3000) (f := 3000) (cuts := []) cc_nil (by decide +kernel)
def k_mbits6_1 : ct_C := ([(0, .ofNat 1, .ofNat 1)], [], [], [], (some (0, .ofNat 1, .ofNat 1)), 1, false)
theorem c_mbits6_1 (he : cc_env II L xs) : cc II L xs 222 k_mbits6_1 :=
  cc_ok he (cts := []) (fc := 3000) (f := 3000) (cuts := []) cc_nil (by decide +kernel)
def k_mbits6_2 : ct_C := ([(0, .ofNat 2, .ofNat 2)], [], [], [], (some (0, .ofNat 1, .ofNat 1)), 1, false)
theorem c_mbits6_2 (he : cc_env II L xs) : cc II L xs 222 k_mbits6_2 :=
  cc_ok he (cts := []) (fc := 3000) (f := 3000) (cuts := []) cc_nil (by decide +kernel)
def k_mbits6_3 : ct_C := ([(0, .ofNat 3, .ofNat 3)], [], [], [], (some (0, .ofNat 2, .ofNat 2)), 1, false)
theorem c_mbits6_3 (he : cc_env II L xs) : cc II L xs 222 k_mbits6_3 :=
  cc_ok he (cts := []) (fc := 3000) (f := 3000) (cuts := []) cc_nil (by decide +kernel)
def k_mbits6_4 : ct_C := ([(0, .ofNat 4, .ofNat 4)], [], [], [], (some (0, .ofNat 1, .ofNat 1)), 1, false)
theorem c_mbits6_4 (he : cc_env II L xs) : cc II L xs 222 k_mbits6_4 :=
  cc_ok he (cts := []) (fc := 3000) (f := 3000) (cuts := []) cc_nil (by decide +kernel)
def k_mbits6_5 : ct_C := ([(0, .ofNat 5, .ofNat 5)], [], [], [], (some (0, .ofNat 2, .ofNat 2)), 1, false)
theorem c_mbits6_5 (he : cc_env II L xs) : cc II L xs 222 k_mbits6_5 :=
  cc_ok he (cts := []) (fc := 3000) (f := 3000) (cuts := []) cc_nil (by decide +kernel)
def k_mbits6_6 : ct_C := ([(0, .ofNat 6, .ofNat 6)], [], [], [], (some (0, .ofNat 2, .ofNat 2)), 1, false)
theorem c_mbits6_6 (he : cc_env II L xs) : cc II L xs 222 k_mbits6_6 :=
  cc_ok he (cts := []) (fc := 3000) (f := 3000) (cuts := []) cc_nil (by decide +kernel)
def k_mbits6_7 : ct_C := ([(0, .ofNat 7, .ofNat 7)], [], [], [], (some (0, .ofNat 3, .ofNat 3)), 1, false)
theorem c_mbits6_7 (he : cc_env II L xs) : cc II L xs 222 k_mbits6_7 :=
  cc_ok he (cts := []) (fc := 3000) (f := 3000) (cuts := []) cc_nil (by decide +kernel)
def k_mbits6_8 : ct_C := ([(0, .ofNat 8, .ofNat 8)], [], [], [], (some (0, .ofNat 1, .ofNat 1)), 1, false)
theorem c_mbits6_8 (he : cc_env II L xs) : cc II L xs 222 k_mbits6_8 :=
  cc_ok he (cts := []) (fc := 3000) (f := 3000) (cuts := []) cc_nil (by decide +kernel)
def k_mbits6_9 : ct_C := ([(0, .ofNat 9, .ofNat 9)], [], [], [], (some (0, .ofNat 2, .ofNat 2)), 1, false)
theorem c_mbits6_9 (he : cc_env II L xs) : cc II L xs 222 k_mbits6_9 :=
  cc_ok he (cts := []) (fc := 3000) (f := 3000) (cuts := []) cc_nil (by decide +kernel)
def k_mbits6_10 : ct_C := ([(0, .ofNat 10, .ofNat 10)], [], [], [], (some (0, .ofNat 2, .ofNat 2)), 1, false)
theorem c_mbits6_10 (he : cc_env II L xs) : cc II L xs 222 k_mbits6_10 :=
  cc_ok he (cts := []) (fc := 3000) (f := 3000) (cuts := []) cc_nil (by decide +kernel)
def k_mbits6_11 : ct_C := ([(0, .ofNat 11, .ofNat 11)], [], [], [], (some (0, .ofNat 3, .ofNat 3)), 1, false)
theorem c_mbits6_11 (he : cc_env II L xs) : cc II L xs 222 k_mbits6_11 :=
  cc_ok he (cts := []) (fc := 3000) (f := 3000) (cuts := []) cc_nil (by decide +kernel)
def k_mbits6_12 : ct_C := ([(0, .ofNat 12, .ofNat 12)], [], [], [], (some (0, .ofNat 2, .ofNat 2)), 1, false)
theorem c_mbits6_12 (he : cc_env II L xs) : cc II L xs 222 k_mbits6_12 :=
  cc_ok he (cts := []) (fc := 3000) (f := 3000) (cuts := []) cc_nil (by decide +kernel)
def k_mbits6_13 : ct_C := ([(0, .ofNat 13, .ofNat 13)], [], [], [], (some (0, .ofNat 3, .ofNat 3)), 1, false)
theorem c_mbits6_13 (he : cc_env II L xs) : cc II L xs 222 k_mbits6_13 :=
  cc_ok he (cts := []) (fc := 3000) (f := 3000) (cuts := []) cc_nil (by decide +kernel)
def k_mbits6_14 : ct_C := ([(0, .ofNat 14, .ofNat 14)], [], [], [], (some (0, .ofNat 3, .ofNat 3)), 1, false)
theorem c_mbits6_14 (he : cc_env II L xs) : cc II L xs 222 k_mbits6_14 :=
  cc_ok he (cts := []) (fc := 3000) (f := 3000) (cuts := []) cc_nil (by decide +kernel)
def k_mbits6_15 : ct_C := ([(0, .ofNat 15, .ofNat 15)], [], [], [], (some (0, .ofNat 4, .ofNat 4)), 1, false)
theorem c_mbits6_15 (he : cc_env II L xs) : cc II L xs 222 k_mbits6_15 :=
  cc_ok he (cts := []) (fc := 3000) (f := 3000) (cuts := []) cc_nil (by decide +kernel)
def k_mbits6_16 : ct_C := ([(0, .ofNat 16, .ofNat 16)], [], [], [], (some (0, .ofNat 1, .ofNat 1)), 1, false)
theorem c_mbits6_16 (he : cc_env II L xs) : cc II L xs 222 k_mbits6_16 :=
  cc_ok he (cts := []) (fc := 3000) (f := 3000) (cuts := []) cc_nil (by decide +kernel)
def k_mbits6_17 : ct_C := ([(0, .ofNat 17, .ofNat 17)], [], [], [], (some (0, .ofNat 2, .ofNat 2)), 1, false)
theorem c_mbits6_17 (he : cc_env II L xs) : cc II L xs 222 k_mbits6_17 :=
  cc_ok he (cts := []) (fc := 3000) (f := 3000) (cuts := []) cc_nil (by decide +kernel)
def k_mbits6_18 : ct_C := ([(0, .ofNat 18, .ofNat 18)], [], [], [], (some (0, .ofNat 2, .ofNat 2)), 1, false)
theorem c_mbits6_18 (he : cc_env II L xs) : cc II L xs 222 k_mbits6_18 :=
  cc_ok he (cts := []) (fc := 3000) (f := 3000) (cuts := []) cc_nil (by decide +kernel)
def k_mbits6_19 : ct_C := ([(0, .ofNat 19, .ofNat 19)], [], [], [], (some (0, .ofNat 3, .ofNat 3)), 1, false)
theorem c_mbits6_19 (he : cc_env II L xs) : cc II L xs 222 k_mbits6_19 :=
  cc_ok he (cts := []) (fc := 3000) (f := 3000) (cuts := []) cc_nil (by decide +kernel)
def k_mbits6_20 : ct_C := ([(0, .ofNat 20, .ofNat 20)], [], [], [], (some (0, .ofNat 2, .ofNat 2)), 1, false)
theorem c_mbits6_20 (he : cc_env II L xs) : cc II L xs 222 k_mbits6_20 :=
  cc_ok he (cts := []) (fc := 3000) (f := 3000) (cuts := []) cc_nil (by decide +kernel)
def k_mbits6_21 : ct_C := ([(0, .ofNat 21, .ofNat 21)], [], [], [], (some (0, .ofNat 3, .ofNat 3)), 1, false)
theorem c_mbits6_21 (he : cc_env II L xs) : cc II L xs 222 k_mbits6_21 :=
  cc_ok he (cts := []) (fc := 3000) (f := 3000) (cuts := []) cc_nil (by decide +kernel)
def k_mbits6_22 : ct_C := ([(0, .ofNat 22, .ofNat 22)], [], [], [], (some (0, .ofNat 3, .ofNat 3)), 1, false)
theorem c_mbits6_22 (he : cc_env II L xs) : cc II L xs 222 k_mbits6_22 :=
  cc_ok he (cts := []) (fc := 3000) (f := 3000) (cuts := []) cc_nil (by decide +kernel)
def k_mbits6_23 : ct_C := ([(0, .ofNat 23, .ofNat 23)], [], [], [], (some (0, .ofNat 4, .ofNat 4)), 1, false)
theorem c_mbits6_23 (he : cc_env II L xs) : cc II L xs 222 k_mbits6_23 :=
  cc_ok he (cts := []) (fc := 3000) (f := 3000) (cuts := []) cc_nil (by decide +kernel)
def k_mbits6_24 : ct_C := ([(0, .ofNat 24, .ofNat 24)], [], [], [], (some (0, .ofNat 2, .ofNat 2)), 1, false)
theorem c_mbits6_24 (he : cc_env II L xs) : cc II L xs 222 k_mbits6_24 :=
  cc_ok he (cts := []) (fc := 3000) (f := 3000) (cuts := []) cc_nil (by decide +kernel)
def k_mbits6_25 : ct_C := ([(0, .ofNat 25, .ofNat 25)], [], [], [], (some (0, .ofNat 3, .ofNat 3)), 1, false)
theorem c_mbits6_25 (he : cc_env II L xs) : cc II L xs 222 k_mbits6_25 :=
  cc_ok he (cts := []) (fc := 3000) (f := 3000) (cuts := []) cc_nil (by decide +kernel)
def k_mbits6_26 : ct_C := ([(0, .ofNat 26, .ofNat 26)], [], [], [], (some (0, .ofNat 3, .ofNat 3)), 1, false)
theorem c_mbits6_26 (he : cc_env II L xs) : cc II L xs 222 k_mbits6_26 :=
  cc_ok he (cts := []) (fc := 3000) (f := 3000) (cuts := []) cc_nil (by decide +kernel)
end
