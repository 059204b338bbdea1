/-! Contracts, 9. -/
section
variable {II : (Nat → Nat → Int) → Prop} {L : Nat} {xs : Nat → Int32}
def k_mbits6_16 : ct_C := ([(0, .ofNat 16, .ofNat 16)], [], [], [], (some (0, .ofNat 1, .ofNat 1)), 1, false)
theorem c_mbits6_16 (he : cc_env II L) : cc II L xs 222 k_mbits6_16 :=
  cc_ok he (cts := []) (fc := 3000) (f := 3000) (cuts := []) cc_nil (by decide +kernel)
def k_mbits6_17 : ct_C := ([(0, .ofNat 17, .ofNat 17)], [], [], [], (some (0, .ofNat 2, .ofNat 2)), 1, false)
theorem c_mbits6_17 (he : cc_env II L) : cc II L xs 222 k_mbits6_17 :=
  cc_ok he (cts := []) (fc := 3000) (f := 3000) (cuts := []) cc_nil (by decide +kernel)
def k_mbits6_18 : ct_C := ([(0, .ofNat 18, .ofNat 18)], [], [], [], (some (0, .ofNat 2, .ofNat 2)), 1, false)
theorem c_mbits6_18 (he : cc_env II L) : cc II L xs 222 k_mbits6_18 :=
  cc_ok he (cts := []) (fc := 3000) (f := 3000) (cuts := []) cc_nil (by decide +kernel)
def k_mbits6_19 : ct_C := ([(0, .ofNat 19, .ofNat 19)], [], [], [], (some (0, .ofNat 3, .ofNat 3)), 1, false)
theorem c_mbits6_19 (he : cc_env II L) : cc II L xs 222 k_mbits6_19 :=
  cc_ok he (cts := []) (fc := 3000) (f := 3000) (cuts := []) cc_nil (by decide +kernel)
def k_mbits6_20 : ct_C := ([(0, .ofNat 20, .ofNat 20)], [], [], [], (some (0, .ofNat 2, .ofNat 2)), 1, false)
theorem c_mbits6_20 (he : cc_env II L) : cc II L xs 222 k_mbits6_20 :=
  cc_ok he (cts := []) (fc := 3000) (f := 3000) (cuts := []) cc_nil (by decide +kernel)
def k_mbits6_21 : ct_C := ([(0, .ofNat 21, .ofNat 21)], [], [], [], (some (0, .ofNat 3, .ofNat 3)), 1, false)
theorem c_mbits6_21 (he : cc_env II L) : cc II L xs 222 k_mbits6_21 :=
  cc_ok he (cts := []) (fc := 3000) (f := 3000) (cuts := []) cc_nil (by decide +kernel)
def k_mbits6_22 : ct_C := ([(0, .ofNat 22, .ofNat 22)], [], [], [], (some (0, .ofNat 3, .ofNat 3)), 1, false)
theorem c_mbits6_22 (he : cc_env II L) : cc II L xs 222 k_mbits6_22 :=
  cc_ok he (cts := []) (fc := 3000) (f := 3000) (cuts := []) cc_nil (by decide +kernel)
def k_mbits6_23 : ct_C := ([(0, .ofNat 23, .ofNat 23)], [], [], [], (some (0, .ofNat 4, .ofNat 4)), 1, false)
theorem c_mbits6_23 (he : cc_env II L) : cc II L xs 222 k_mbits6_23 :=
  cc_ok he (cts := []) (fc := 3000) (f := 3000) (cuts := []) cc_nil (by decide +kernel)
def k_mbits6_24 : ct_C := ([(0, .ofNat 24, .ofNat 24)], [], [], [], (some (0, .ofNat 2, .ofNat 2)), 1, false)
theorem c_mbits6_24 (he : cc_env II L) : cc II L xs 222 k_mbits6_24 :=
  cc_ok he (cts := []) (fc := 3000) (f := 3000) (cuts := []) cc_nil (by decide +kernel)
def k_mbits6_25 : ct_C := ([(0, .ofNat 25, .ofNat 25)], [], [], [], (some (0, .ofNat 3, .ofNat 3)), 1, false)
theorem c_mbits6_25 (he : cc_env II L) : cc II L xs 222 k_mbits6_25 :=
  cc_ok he (cts := []) (fc := 3000) (f := 3000) (cuts := []) cc_nil (by decide +kernel)
def k_mbits6_26 : ct_C := ([(0, .ofNat 26, .ofNat 26)], [], [], [], (some (0, .ofNat 3, .ofNat 3)), 1, false)
theorem c_mbits6_26 (he : cc_env II L) : cc II L xs 222 k_mbits6_26 :=
  cc_ok he (cts := []) (fc := 3000) (f := 3000) (cuts := []) cc_nil (by decide +kernel)
def k_mbits6_27 : ct_C := ([(0, .ofNat 27, .ofNat 27)], [], [], [], (some (0, .ofNat 4, .ofNat 4)), 1, false)
theorem c_mbits6_27 (he : cc_env II L) : cc II L xs 222 k_mbits6_27 :=
  cc_ok he (cts := []) (fc := 3000) (f := 3000) (cuts := []) cc_nil (by decide +kernel)
def k_mbits6_28 : ct_C := ([(0, .ofNat 28, .ofNat 28)], [], [], [], (some (0, .ofNat 3, .ofNat 3)), 1, false)
theorem c_mbits6_28 (he : cc_env II L) : cc II L xs 222 k_mbits6_28 :=
  cc_ok he (cts := []) (fc := 3000) (f := 3000) (cuts := []) cc_nil (by decide +kernel)
def k_mbits6_29 : ct_C := ([(0, .ofNat 29, .ofNat 29)], [], [], [], (some (0, .ofNat 4, .ofNat 4)), 1, false)
theorem c_mbits6_29 (he : cc_env II L) : cc II L xs 222 k_mbits6_29 :=
  cc_ok he (cts := []) (fc := 3000) (f := 3000) (cuts := []) cc_nil (by decide +kernel)
def k_mbits6_30 : ct_C := ([(0, .ofNat 30, .ofNat 30)], [], [], [], (some (0, .ofNat 4, .ofNat 4)), 1, false)
theorem c_mbits6_30 (he : cc_env II L) : cc II L xs 222 k_mbits6_30 :=
  cc_ok he (cts := []) (fc := 3000) (f := 3000) (cuts := []) cc_nil (by decide +kernel)
def k_mbits6_31 : ct_C := ([(0, .ofNat 31, .ofNat 31)], [], [], [], (some (0, .ofNat 5, .ofNat 5)), 1, false)
theorem c_mbits6_31 (he : cc_env II L) : cc II L xs 222 k_mbits6_31 :=
  cc_ok he (cts := []) (fc := 3000) (f := 3000) (cuts := []) cc_nil (by decide +kernel)
def k_mbits6_32 : ct_C := ([(0, .ofNat 32, .ofNat 32)], [], [], [], (some (0, .ofNat 1, .ofNat 1)), 1, false)
theorem c_mbits6_32 (he : cc_env II L) : cc II L xs 222 k_mbits6_32 :=
  cc_ok he (cts := []) (fc := 3000) (f := 3000) (cuts := []) cc_nil (by decide +kernel)
def k_mbits6_33 : ct_C := ([(0, .ofNat 33, .ofNat 33)], [], [], [], (some (0, .ofNat 2, .ofNat 2)), 1, false)
theorem c_mbits6_33 (he : cc_env II L) : cc II L xs 222 k_mbits6_33 :=
  cc_ok he (cts := []) (fc := 3000) (f := 3000) (cuts := []) cc_nil (by decide +kernel)
def k_mbits6_34 : ct_C := ([(0, .ofNat 34, .ofNat 34)], [], [], [], (some (0, .ofNat 2, .ofNat 2)), 1, false)
theorem c_mbits6_34 (he : cc_env II L) : cc II L xs 222 k_mbits6_34 :=
  cc_ok he (cts := []) (fc := 3000) (f := 3000) (cuts := []) cc_nil (by decide +kernel)
def k_mbits6_35 : ct_C := ([(0, .ofNat 35, .ofNat 35)], [], [], [], (some (0, .ofNat 3, .ofNat 3)), 1, false)
theorem c_mbits6_35 (he : cc_env II L) : cc II L xs 222 k_mbits6_35 :=
  cc_ok he (cts := []) (fc := 3000) (f := 3000) (cuts := []) cc_nil (by decide +kernel)
def k_mbits6_36 : ct_C := ([(0, .ofNat 36, .ofNat 36)], [], [], [], (some (0, .ofNat 2, .ofNat 2)), 1, false)
theorem c_mbits6_36 (he : cc_env II L) : cc II L xs 222 k_mbits6_36 :=
  cc_ok he (cts := []) (fc := 3000) (f := 3000) (cuts := []) cc_nil (by decide +kernel)
def k_mbits6_37 : ct_C := ([(0, .ofNat 37, .ofNat 37)], [], [], [], (some (0, .ofNat 3, .ofNat 3)), 1, false)
theorem c_mbits6_37 (he : cc_env II L) : cc II L xs 222 k_mbits6_37 :=
  cc_ok he (cts := []) (fc := 3000) (f := 3000) (cuts := []) cc_nil (by decide +kernel)
def k_mbits6_38 : ct_C := ([(0, .ofNat 38, .ofNat 38)], [], [], [], (some (0, .ofNat 3, .ofNat 3)), 1, false)
theorem c_mbits6_38 (he : cc_env II L) : cc II L xs 222 k_mbits6_38 :=
  cc_ok he (cts := []) (fc := 3000) (f := 3000) (cuts := []) cc_nil (by decide +kernel)
def k_mbits6_39 : ct_C := ([(0, .ofNat 39, .ofNat 39)], [], [], [], (some (0, .ofNat 4, .ofNat 4)), 1, false)
theorem c_mbits6_39 (he : cc_env II L) : cc II L xs 222 k_mbits6_39 :=
  cc_ok he (cts := []) (fc := 3000) (f := 3000) (cuts := []) cc_nil (by decide +kernel)
def k_mbits6_40 : ct_C := ([(0, .ofNat 40, .ofNat 40)], [], [], [], (some (0, .ofNat 2, .ofNat 2)), 1, false)
theorem c_mbits6_40 (he : cc_env II L) : cc II L xs 222 k_mbits6_40 :=
  cc_ok he (cts := []) (fc := 3000) (f := 3000) (cuts := []) cc_nil (by decide +kernel)
def k_mbits6_41 : ct_C := ([(0, .ofNat 41, .ofNat 41)], [], [], [], (some (0, .ofNat 3, .ofNat 3)), 1, false)
theorem c_mbits6_41 (he : cc_env II L) : cc II L xs 222 k_mbits6_41 :=
  cc_ok he (cts := []) (fc := 3000) (f := 3000) (cuts := []) cc_nil (by decide +kernel)
def k_mbits6_42 : ct_C := ([(0, .ofNat 42, .ofNat 42)], [], [], [], (some (0, .ofNat 3, .ofNat 3)), 1, false)
theorem c_mbits6_42 (he : cc_env II L) : cc II L xs 222 k_mbits6_42 :=
  cc_ok he (cts := []) (fc := 3000) (f := 3000) (cuts := []) cc_nil (by decide +kernel)
def k_mbits6_43 : ct_C := ([(0, .ofNat 43, .ofNat 43)], [], [], [], (some (0, .ofNat 4, .ofNat 4)), 1, false)
theorem c_mbits6_43 (he : cc_env II L) : cc II L xs 222 k_mbits6_43 :=
  cc_ok he (cts := []) (fc := 3000) (f := 3000) (cuts := []) cc_nil (by decide +kernel)
def k_mbits6_44 : ct_C := ([(0, .ofNat 44, .ofNat 44)], [], [], [], (some (0, .ofNat 3, .ofNat 3)), 1, false)
theorem c_mbits6_44 (he : cc_env II L) : cc II L xs 222 k_mbits6_44 :=
  cc_ok he (cts := []) (fc := 3000) (f := 3000) (cuts := []) cc_nil (by decide +kernel)
def k_mbits6_45 : ct_C := ([(0, .ofNat 45, .ofNat 45)], [], [], [], (some (0, .ofNat 4, .ofNat 4)), 1, false)
theorem c_mbits6_45 (he : cc_env II L) : cc II L xs 222 k_mbits6_45 :=
  cc_ok he (cts := []) (fc := 3000) (f := 3000) (cuts := []) cc_nil (by decide +kernel)
end
