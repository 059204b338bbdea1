/-! Contracts, 2. -/
section
variable {II : (Nat → Nat → Int) → Prop} {L : Nat} {xs : Nat → Int32}
def k_bits6_6 : ct_C := ([(0, .ofNat 6, .ofNat 6)], [], [], [], (some (0, .ofNat 2, .ofNat 2)), 1, false)
theorem c_bits6_6 (he : cc_env II L xs) : cc II L xs 93 k_bits6_6 :=
  cc_ok he (cts := []) (fc := 3000) (f := 3000) (cuts := []) cc_nil (by decide +kernel)
def k_bits6_7 : ct_C := ([(0, .ofNat 7, .ofNat 7)], [], [], [], (some (0, .ofNat 3, .ofNat 3)), 1, false)
theorem c_bits6_7 (he : cc_env II L xs) : cc II L xs 93 k_bits6_7 :=
  cc_ok he (cts := []) (fc := 3000) (f := 3000) (cuts := []) cc_nil (by decide +kernel)
def k_bits6_8 : ct_C := ([(0, .ofNat 8, .ofNat 8)], [], [], [], (some (0, .ofNat 1, .ofNat 1)), 1, false)
theorem c_bits6_8 (he : cc_env II L xs) : cc II L xs 93 k_bits6_8 :=
  cc_ok he (cts := []) (fc := 3000) (f := 3000) (cuts := []) cc_nil (by decide +kernel)
def k_bits6_9 : ct_C := ([(0, .ofNat 9, .ofNat 9)], [], [], [], (some (0, .ofNat 2, .ofNat 2)), 1, false)
theorem c_bits6_9 (he : cc_env II L xs) : cc II L xs 93 k_bits6_9 :=
  cc_ok he (cts := []) (fc := 3000) (f := 3000) (cuts := []) cc_nil (by decide +kernel)
def k_bits6_10 : ct_C := ([(0, .ofNat 10, .ofNat 10)], [], [], [], (some (0, .ofNat 2, .ofNat 2)), 1, false)
theorem c_bits6_10 (he : cc_env II L xs) : cc II L xs 93 k_bits6_10 :=
  cc_ok he (cts := []) (fc := 3000) (f := 3000) (cuts := []) cc_nil (by decide +kernel)
def k_bits6_11 : ct_C := ([(0, .ofNat 11, .ofNat 11)], [], [], [], (some (0, .ofNat 3, .ofNat 3)), 1, false)
theorem c_bits6_11 (he : cc_env II L xs) : cc II L xs 93 k_bits6_11 :=
  cc_ok he (cts := []) (fc := 3000) (f := 3000) (cuts := []) cc_nil (by decide +kernel)
def k_bits6_12 : ct_C := ([(0, .ofNat 12, .ofNat 12)], [], [], [], (some (0, .ofNat 2, .ofNat 2)), 1, false)
theorem c_bits6_12 (he : cc_env II L xs) : cc II L xs 93 k_bits6_12 :=
  cc_ok he (cts := []) (fc := 3000) (f := 3000) (cuts := []) cc_nil (by decide +kernel)
def k_bits6_13 : ct_C := ([(0, .ofNat 13, .ofNat 13)], [], [], [], (some (0, .ofNat 3, .ofNat 3)), 1, false)
theorem c_bits6_13 (he : cc_env II L xs) : cc II L xs 93 k_bits6_13 :=
  cc_ok he (cts := []) (fc := 3000) (f := 3000) (cuts := []) cc_nil (by decide +kernel)
def k_bits6_14 : ct_C := ([(0, .ofNat 14, .ofNat 14)], [], [], [], (some (0, .ofNat 3, .ofNat 3)), 1, false)
theorem c_bits6_14 (he : cc_env II L xs) : cc II L xs 93 k_bits6_14 :=
  cc_ok he (cts := []) (fc := 3000) (f := 3000) (cuts := []) cc_nil (by decide +kernel)
def k_bits6_15 : ct_C := ([(0, .ofNat 15, .ofNat 15)], [], [], [], (some (0, .ofNat 4, .ofNat 4)), 1, false)
theorem c_bits6_15 (he : cc_env II L xs) : cc II L xs 93 k_bits6_15 :=
  cc_ok he (cts := []) (fc := 3000) (f := 3000) (cuts := []) cc_nil (by decide +kernel)
def k_bits6_16 : ct_C := ([(0, .ofNat 16, .ofNat 16)], [], [], [], (some (0, .ofNat 1, .ofNat 1)), 1, false)
theorem c_bits6_16 (he : cc_env II L xs) : cc II L xs 93 k_bits6_16 :=
  cc_ok he (cts := []) (fc := 3000) (f := 3000) (cuts := []) cc_nil (by decide +kernel)
def k_bits6_17 : ct_C := ([(0, .ofNat 17, .ofNat 17)], [], [], [], (some (0, .ofNat 2, .ofNat 2)), 1, false)
theorem c_bits6_17 (he : cc_env II L xs) : cc II L xs 93 k_bits6_17 :=
  cc_ok he (cts := []) (fc := 3000) (f := 3000) (cuts := []) cc_nil (by decide +kernel)
def k_bits6_18 : ct_C := ([(0, .ofNat 18, .ofNat 18)], [], [], [], (some (0, .ofNat 2, .ofNat 2)), 1, false)
theorem c_bits6_18 (he : cc_env II L xs) : cc II L xs 93 k_bits6_18 :=
  cc_ok he (cts := []) (fc := 3000) (f := 3000) (cuts := []) cc_nil (by decide +kernel)
def k_bits6_19 : ct_C := ([(0, .ofNat 19, .ofNat 19)], [], [], [], (some (0, .ofNat 3, .ofNat 3)), 1, false)
theorem c_bits6_19 (he : cc_env II L xs) : cc II L xs 93 k_bits6_19 :=
  cc_ok he (cts := []) (fc := 3000) (f := 3000) (cuts := []) cc_nil (by decide +kernel)
def k_bits6_20 : ct_C := ([(0, .ofNat 20, .ofNat 20)], [], [], [], (some (0, .ofNat 2, .ofNat 2)), 1, false)
theorem c_bits6_20 (he : cc_env II L xs) : cc II L xs 93 k_bits6_20 :=
  cc_ok he (cts := []) (fc := 3000) (f := 3000) (cuts := []) cc_nil (by decide +kernel)
def k_bits6_21 : ct_C := ([(0, .ofNat 21, .ofNat 21)], [], [], [], (some (0, .ofNat 3, .ofNat 3)), 1, false)
theorem c_bits6_21 (he : cc_env II L xs) : cc II L xs 93 k_bits6_21 :=
  cc_ok he (cts := []) (fc := 3000) (f := 3000) (cuts := []) cc_nil (by decide +kernel)
def k_bits6_22 : ct_C := ([(0, .ofNat 22, .ofNat 22)], [], [], [], (some (0, .ofNat 3, .ofNat 3)), 1, false)
theorem c_bits6_22 (he : cc_env II L xs) : cc II L xs 93 k_bits6_22 :=
  cc_ok he (cts := []) (fc := 3000) (f := 3000) (cuts := []) cc_nil (by decide +kernel)
def k_bits6_23 : ct_C := ([(0, .ofNat 23, .ofNat 23)], [], [], [], (some (0, .ofNat 4, .ofNat 4)), 1, false)
theorem c_bits6_23 (he : cc_env II L xs) : cc II L xs 93 k_bits6_23 :=
  cc_ok he (cts := []) (fc := 3000) (f := 3000) (cuts := []) cc_nil (by decide +kernel)
def k_bits6_24 : ct_C := ([(0, .ofNat 24, .ofNat 24)], [], [], [], (some (0, .ofNat 2, .ofNat 2)), 1, false)
theorem c_bits6_24 (he : cc_env II L xs) : cc II L xs 93 k_bits6_24 :=
  cc_ok he (cts := []) (fc := 3000) (f := 3000) (cuts := []) cc_nil (by decide +kernel)
def k_bits6_25 : ct_C := ([(0, .ofNat 25, .ofNat 25)], [], [], [], (some (0, .ofNat 3, .ofNat 3)), 1, false)
theorem c_bits6_25 (he : cc_env II L xs) : cc II L xs 93 k_bits6_25 :=
  cc_ok he (cts := []) (fc := 3000) (f := 3000) (cuts := []) cc_nil (by decide +kernel)
def k_bits6_26 : ct_C := ([(0, .ofNat 26, .ofNat 26)], [], [], [], (some (0, .ofNat 3, .ofNat 3)), 1, false)
theorem c_bits6_26 (he : cc_env II L xs) : cc II L xs 93 k_bits6_26 :=
  cc_ok he (cts := []) (fc := 3000) (f := 3000) (cuts := []) cc_nil (by decide +kernel)
def k_bits6_27 : ct_C := ([(0, .ofNat 27, .ofNat 27)], [], [], [], (some (0, .ofNat 4, .ofNat 4)), 1, false)
theorem c_bits6_27 (he : cc_env II L xs) : cc II L xs 93 k_bits6_27 :=
  cc_ok he (cts := []) (fc := 3000) (f := 3000) (cuts := []) cc_nil (by decide +kernel)
def k_bits6_28 : ct_C := ([(0, .ofNat 28, .ofNat 28)], [], [], [], (some (0, .ofNat 3, .ofNat 3)), 1, false)
theorem c_bits6_28 (he : cc_env II L xs) : cc II L xs 93 k_bits6_28 :=
  cc_ok he (cts := []) (fc := 3000) (f := 3000) (cuts := []) cc_nil (by decide +kernel)
def k_bits6_29 : ct_C := ([(0, .ofNat 29, .ofNat 29)], [], [], [], (some (0, .ofNat 4, .ofNat 4)), 1, false)
theorem c_bits6_29 (he : cc_env II L xs) : cc II L xs 93 k_bits6_29 :=
  cc_ok he (cts := []) (fc := 3000) (f := 3000) (cuts := []) cc_nil (by decide +kernel)
def k_bits6_30 : ct_C := ([(0, .ofNat 30, .ofNat 30)], [], [], [], (some (0, .ofNat 4, .ofNat 4)), 1, false)
theorem c_bits6_30 (he : cc_env II L xs) : cc II L xs 93 k_bits6_30 :=
  cc_ok he (cts := []) (fc := 3000) (f := 3000) (cuts := []) cc_nil (by decide +kernel)
def k_bits6_31 : ct_C := ([(0, .ofNat 31, .ofNat 31)], [], [], [], (some (0, .ofNat 5, .ofNat 5)), 1, false)
theorem c_bits6_31 (he : cc_env II L xs) : cc II L xs 93 k_bits6_31 :=
  cc_ok he (cts := []) (fc := 3000) (f := 3000) (cuts := []) cc_nil (by decide +kernel)
def k_bits6_32 : ct_C := ([(0, .ofNat 32, .ofNat 32)], [], [], [], (some (0, .ofNat 1, .ofNat 1)), 1, false)
theorem c_bits6_32 (he : cc_env II L xs) : cc II L xs 93 k_bits6_32 :=
  cc_ok he (cts := []) (fc := 3000) (f := 3000) (cuts := []) cc_nil (by decide +kernel)
def k_bits6_33 : ct_C := ([(0, .ofNat 33, .ofNat 33)], [], [], [], (some (0, .ofNat 2, .ofNat 2)), 1, false)
theorem c_bits6_33 (he : cc_env II L xs) : cc II L xs 93 k_bits6_33 :=
  cc_ok he (cts := []) (fc := 3000) (f := 3000) (cuts := []) cc_nil (by decide +kernel)
def k_bits6_34 : ct_C := ([(0, .ofNat 34, .ofNat 34)], [], [], [], (some (0, .ofNat 2, .ofNat 2)), 1, false)
theorem c_bits6_34 (he : cc_env II L xs) : cc II L xs 93 k_bits6_34 :=
  cc_ok he (cts := []) (fc := 3000) (f := 3000) (cuts := []) cc_nil (by decide +kernel)
def k_bits6_35 : ct_C := ([(0, .ofNat 35, .ofNat 35)], [], [], [], (some (0, .ofNat 3, .ofNat 3)), 1, false)
theorem c_bits6_35 (he : cc_env II L xs) : cc II L xs 93 k_bits6_35 :=
  cc_ok he (cts := []) (fc := 3000) (f := 3000) (cuts := []) cc_nil (by decide +kernel)
end
