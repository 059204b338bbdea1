/-! Contracts, 35. -/
section
variable {II : (Nat → Nat → Int) → Prop} {L : Nat} {xs : Nat → Int32}
def k_shift_54 : ct_C := ([(2, .ofNat 8, .ofNat 8), (0, .negSucc 2147483647, .ofNat 2147483647), (0, .negSucc 2147483647, .ofNat 2147483647), (0, .negSucc 2147483647, .ofNat 2147483647), (0, .negSucc 2147483647, .ofNat 2147483647), (0, .ofNat 53, .ofNat 53)], [], [], [42, 44, 46, 48, 50, 52], (some (0, .negSucc 12, .ofNat 53)), 2, false)
theorem c_shift_54 (he : cc_env II L xs) : cc II L xs 147 k_shift_54 :=
  cc_ok he (cts := []) (fc := 3000) (f := 3000) (cuts := []) cc_nil (by decide +kernel)
def k_shift_55 : ct_C := ([(2, .ofNat 8, .ofNat 8), (0, .negSucc 2147483647, .ofNat 2147483647), (0, .negSucc 2147483647, .ofNat 2147483647), (0, .negSucc 2147483647, .ofNat 2147483647), (0, .negSucc 2147483647, .ofNat 2147483647), (0, .ofNat 54, .ofNat 54)], [], [], [42, 44, 46, 48, 50, 52], (some (0, .negSucc 12, .ofNat 54)), 2, false)
theorem c_shift_55 (he : cc_env II L xs) : cc II L xs 147 k_shift_55 :=
  cc_ok he (cts := []) (fc := 3000) (f := 3000) (cuts := []) cc_nil (by decide +kernel)
end
