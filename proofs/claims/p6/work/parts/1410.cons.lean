/-! Contracts, 10. -/
section
variable {II : (Nat → Nat → Int) → Prop} {L : Nat} {xs : Nat → Int32}
def k_mbits6_27 : ct_C := ([(0, .ofNat 27, .ofNat 27)], [], [], [], (some (0, .ofNat 4, .ofNat 4)), 1, false)
theorem c_mbits6_27 (he : cc_env II L xs) : cc II L xs 222 k_mbits6_27 :=
  cc_ok he (cts := []) (fc := 3000) (f := 3000) (cuts := []) cc_nil (by decide +kernel)
def k_mbits6_28 : ct_C := ([(0, .ofNat 28, .ofNat 28)], [], [], [], (some (0, .ofNat 3, .ofNat 3)), 1, false)
theorem c_mbits6_28 (he : cc_env II L xs) : cc II L xs 222 k_mbits6_28 :=
  cc_ok he (cts := []) (fc := 3000) (f := 3000) (cuts := []) cc_nil (by decide +kernel)
def k_mbits6_29 : ct_C := ([(0, .ofNat 29, .ofNat 29)], [], [], [], (some (0, .ofNat 4, .ofNat 4)), 1, false)
theorem c_mbits6_29 (he : cc_env II L xs) : cc II L xs 222 k_mbits6_29 :=
  cc_ok he (cts := []) (fc := 3000) (f := 3000) (cuts := []) cc_nil (by decide +kernel)
def k_mbits6_30 : ct_C := ([(0, .ofNat 30, .ofNat 30)], [], [], [], (some (0, .ofNat 4, .ofNat 4)), 1, false)
theorem c_mbits6_30 (he : cc_env II L xs) : cc II L xs 222 k_mbits6_30 :=
  cc_ok he (cts := []) (fc := 3000) (f := 3000) (cuts := []) cc_nil (by decide +kernel)
def k_mbits6_31 : ct_C := ([(0, .ofNat 31, .ofNat 31)], [], [], [], (some (0, .ofNat 5, .ofNat 5)), 1, false)
theorem c_mbits6_31 (he : cc_env II L xs) : cc II L xs 222 k_mbits6_31 :=
  cc_ok he (cts := []) (fc := 3000) (f := 3000) (cuts := []) cc_nil (by decide +kernel)
def k_mbits6_32 : ct_C := ([(0, .ofNat 32, .ofNat 32)], [], [], [], (some (0, .ofNat 1, .ofNat 1)), 1, false)
theorem c_mbits6_32 (he : cc_env II L xs) : cc II L xs 222 k_mbits6_32 :=
  cc_ok he (cts := []) (fc := 3000) (f := 3000) (cuts := []) cc_nil (by decide +kernel)
def k_mbits6_33 : ct_C := ([(0, .ofNat 33, .ofNat 33)], [], [], [], (some (0, .ofNat 2, .ofNat 2)), 1, false)
theorem c_mbits6_33 (he : cc_env II L xs) : cc II L xs 222 k_mbits6_33 :=
  cc_ok he (cts := []) (fc := 3000) (f := 3000) (cuts := []) cc_nil (by decide +kernel)
def k_mbits6_34 : ct_C := ([(0, .ofNat 34, .ofNat 34)], [], [], [], (some (0, .ofNat 2, .ofNat 2)), 1, false)
theorem c_mbits6_34 (he : cc_env II L xs) : cc II L xs 222 k_mbits6_34 :=
  cc_ok he (cts := []) (fc := 3000) (f := 3000) (cuts := []) cc_nil (by decide +kernel)
def k_mbits6_35 : ct_C := ([(0, .ofNat 35, .ofNat 35)], [], [], [], (some (0, .ofNat 3, .ofNat 3)), 1, false)
theorem c_mbits6_35 (he : cc_env II L xs) : cc II L xs 222 k_mbits6_35 :=
  cc_ok he (cts := []) (fc := 3000) (f := 3000) (cuts := []) cc_nil (by decide +kernel)
def k_mbits6_36 : ct_C := ([(0, .ofNat 36, .ofNat 36)], [], [], [], (some (0, .ofNat 2, .ofNat 2)), 1, false)
theorem c_mbits6_36 (he : cc_env II L xs) : cc II L xs 222 k_mbits6_36 :=
  cc_ok he (cts := []) (fc := 3000) (f := 3000) (cuts := []) cc_nil (by decide +kernel)
def k_mbits6_37 : ct_C := ([(0, .ofNat 37, .ofNat 37)], [], [], [], (some (0, .ofNat 3, .ofNat 3)), 1, false)
theorem c_mbits6_37 (he : cc_env II L xs) : cc II L xs 222 k_mbits6_37 :=
  cc_ok he (cts := []) (fc := 3000) (f := 3000) (cuts := []) cc_nil (by decide +kernel)
def k_mbits6_38 : ct_C := ([(0, .ofNat 38, .ofNat 38)], [], [], [], (some (0, .ofNat 3, .ofNat 3)), 1, false)
theorem c_mbits6_38 (he : cc_env II L xs) : cc II L xs 222 k_mbits6_38 :=
  cc_ok he (cts := []) (fc := 3000) (f := 3000) (cuts := []) cc_nil (by decide +kernel)
def k_mbits6_39 : ct_C := ([(0, .ofNat 39, .ofNat 39)], [], [], [], (some (0, .ofNat 4, .ofNat 4)), 1, false)
theorem c_mbits6_39 (he : cc_env II L xs) : cc II L xs 222 k_mbits6_39 :=
  cc_ok he (cts := []) (fc := 3000) (f := 3000) (cuts := []) cc_nil (by decide +kernel)
def k_mbits6_40 : ct_C := ([(0, .ofNat 40, .ofNat 40)], [], [], [], (some (0, .ofNat 2, .ofNat 2)), 1, false)
theorem c_mbits6_40 (he : cc_env II L xs) : cc II L xs 222 k_mbits6_40 :=
  cc_ok he (cts := []) (fc := 3000) (f := 3000) (cuts := []) cc_nil (by decide +kernel)
def k_mbits6_41 : ct_C := ([(0, .ofNat 41, .ofNat 41)], [], [], [], (some (0, .ofNat 3, .ofNat 3)), 1, false)
theorem c_mbits6_41 (he : cc_env II L xs) : cc II L xs 222 k_mbits6_41 :=
  cc_ok he (cts := []) (fc := 3000) (f := 3000) (cuts := []) cc_nil (by decide +kernel)
def k_mbits6_42 : ct_C := ([(0, .ofNat 42, .ofNat 42)], [], [], [], (some (0, .ofNat 3, .ofNat 3)), 1, false)
theorem c_mbits6_42 (he : cc_env II L xs) : cc II L xs 222 k_mbits6_42 :=
  cc_ok he (cts := []) (fc := 3000) (f := 3000) (cuts := []) cc_nil (by decide +kernel)
def k_mbits6_43 : ct_C := ([(0, .ofNat 43, .ofNat 43)], [], [], [], (some (0, .ofNat 4, .ofNat 4)), 1, false)
theorem c_mbits6_43 (he : cc_env II L xs) : cc II L xs 222 k_mbits6_43 :=
  cc_ok he (cts := []) (fc := 3000) (f := 3000) (cuts := []) cc_nil (by decide +kernel)
def k_mbits6_44 : ct_C := ([(0, .ofNat 44, .ofNat 44)], [], [], [], (some (0, .ofNat 3, .ofNat 3)), 1, false)
theorem c_mbits6_44 (he : cc_env II L xs) : cc II L xs 222 k_mbits6_44 :=
  cc_ok he (cts := []) (fc := 3000) (f := 3000) (cuts := []) cc_nil (by decide +kernel)
def k_mbits6_45 : ct_C := ([(0, .ofNat 45, .ofNat 45)], [], [], [], (some (0, .ofNat 4, .ofNat 4)), 1, false)
theorem c_mbits6_45 (he : cc_env II L xs) : cc II L xs 222 k_mbits6_45 :=
  cc_ok he (cts := []) (fc := 3000) (f := 3000) (cuts := []) cc_nil (by decide +kernel)
def k_mbits6_46 : ct_C := ([(0, .ofNat 46, .ofNat 46)], [], [], [], (some (0, .ofNat 4, .ofNat 4)), 1, false)
theorem c_mbits6_46 (he : cc_env II L xs) : cc II L xs 222 k_mbits6_46 :=
  cc_ok he (cts := []) (fc := 3000) (f := 3000) (cuts := []) cc_nil (by decide +kernel)
def k_mbits6_47 : ct_C := ([(0, .ofNat 47, .ofNat 47)], [], [], [], (some (0, .ofNat 5, .ofNat 5)), 1, false)
theorem c_mbits6_47 (he : cc_env II L xs) : cc II L xs 222 k_mbits6_47 :=
  cc_ok he (cts := []) (fc := 3000) (f := 3000) (cuts := []) cc_nil (by decide +kernel)
def k_mbits6_48 : ct_C := ([(0, .ofNat 48, .ofNat 48)], [], [], [], (some (0, .ofNat 2, .ofNat 2)), 1, false)
theorem c_mbits6_48 (he : cc_env II L xs) : cc II L xs 222 k_mbits6_48 :=
  cc_ok he (cts := []) (fc := 3000) (f := 3000) (cuts := []) cc_nil (by decide +kernel)
def k_mbits6_49 : ct_C := ([(0, .ofNat 49, .ofNat 49)], [], [], [], (some (0, .ofNat 3, .ofNat 3)), 1, false)
theorem c_mbits6_49 (he : cc_env II L xs) : cc II L xs 222 k_mbits6_49 :=
  cc_ok he (cts := []) (fc := 3000) (f := 3000) (cuts := []) cc_nil (by decide +kernel)
def k_mbits6_50 : ct_C := ([(0, .ofNat 50, .ofNat 50)], [], [], [], (some (0, .ofNat 3, .ofNat 3)), 1, false)
theorem c_mbits6_50 (he : cc_env II L xs) : cc II L xs 222 k_mbits6_50 :=
  cc_ok he (cts := []) (fc := 3000) (f := 3000) (cuts := []) cc_nil (by decide +kernel)
def k_mbits6_51 : ct_C := ([(0, .ofNat 51, .ofNat 51)], [], [], [], (some (0, .ofNat 4, .ofNat 4)), 1, false)
theorem c_mbits6_51 (he : cc_env II L xs) : cc II L xs 222 k_mbits6_51 :=
  cc_ok he (cts := []) (fc := 3000) (f := 3000) (cuts := []) cc_nil (by decide +kernel)
def k_mbits6_52 : ct_C := ([(0, .ofNat 52, .ofNat 52)], [], [], [], (some (0, .ofNat 3, .ofNat 3)), 1, false)
theorem c_mbits6_52 (he : cc_env II L xs) : cc II L xs 222 k_mbits6_52 :=
  cc_ok he (cts := []) (fc := 3000) (f := 3000) (cuts := []) cc_nil (by decide +kernel)
def k_mbits6_53 : ct_C := ([(0, .ofNat 53, .ofNat 53)], [], [], [], (some (0, .ofNat 4, .ofNat 4)), 1, false)
theorem c_mbits6_53 (he : cc_env II L xs) : cc II L xs 222 k_mbits6_53 :=
  cc_ok he (cts := []) (fc := 3000) (f := 3000) (cuts := []) cc_nil (by decide +kernel)
def k_mbits6_54 : ct_C := ([(0, .ofNat 54, .ofNat 54)], [], [], [], (some (0, .ofNat 4, .ofNat 4)), 1, false)
theorem c_mbits6_54 (he : cc_env II L xs) : cc II L xs 222 k_mbits6_54 :=
  cc_ok he (cts := []) (fc := 3000) (f := 3000) (cuts := []) cc_nil (by decide +kernel)
def k_mbits6_55 : ct_C := ([(0, .ofNat 55, .ofNat 55)], [], [], [], (some (0, .ofNat 5, .ofNat 5)), 1, false)
theorem c_mbits6_55 (he : cc_env II L xs) : cc II L xs 222 k_mbits6_55 :=
  cc_ok he (cts := []) (fc := 3000) (f := 3000) (cuts := []) cc_nil (by decide +kernel)
def k_mbits6_56 : ct_C := ([(0, .ofNat 56, .ofNat 56)], [], [], [], (some (0, .ofNat 3, .ofNat 3)), 1, false)
theorem c_mbits6_56 (he : cc_env II L xs) : cc II L xs 222 k_mbits6_56 :=
  cc_ok he (cts := []) (fc := 3000) (f := 3000) (cuts := []) cc_nil (by decide +kernel)
end
