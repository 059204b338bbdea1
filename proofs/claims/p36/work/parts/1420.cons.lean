/-! Contracts, 20. -/
section
variable {II : (Nat → Nat → Int) → Prop} {L : Nat} {xs : Nat → Int32}
def k_shift_24 : ct_C := ([(2, .ofNat 8, .ofNat 8), (0, .negSucc 2147483647, .ofNat 2147483647), (0, .negSucc 2147483647, .ofNat 2147483647), (0, .negSucc 2147483647, .ofNat 2147483647), (0, .negSucc 2147483647, .ofNat 2147483647), (0, .ofNat 23, .ofNat 23)], [], [], [42, 44, 46, 48, 50, 52], (some (0, .negSucc 12, .ofNat 23)), 2, false)
theorem c_shift_24 (he : cc_env II L xs) : cc II L xs 147 k_shift_24 :=
  cc_ok he (cts := []) (fc := 3000) (f := 3000) (cuts := []) cc_nil (by decide +kernel)
def k_shift_25 : ct_C := ([(2, .ofNat 8, .ofNat 8), (0, .negSucc 2147483647, .ofNat 2147483647), (0, .negSucc 2147483647, .ofNat 2147483647), (0, .negSucc 2147483647, .ofNat 2147483647), (0, .negSucc 2147483647, .ofNat 2147483647), (0, .ofNat 24, .ofNat 24)], [], [], [42, 44, 46, 48, 50, 52], (some (0, .negSucc 12, .ofNat 24)), 2, false)
theorem c_shift_25 (he : cc_env II L xs) : cc II L xs 147 k_shift_25 :=
  cc_ok he (cts := []) (fc := 3000) (f := 3000) (cuts := []) cc_nil (by decide +kernel)
end
