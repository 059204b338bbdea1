/-! Contracts, 34. -/
section
variable {II : (Nat → Nat → Int) → Prop} {L : Nat} {xs : Nat → Int32}
def k_shift_52 : ct_C := ([(2, .ofNat 8, .ofNat 8), (0, .negSucc 2147483647, .ofNat 2147483647), (0, .negSucc 2147483647, .ofNat 2147483647), (0, .negSucc 2147483647, .ofNat 2147483647), (0, .negSucc 2147483647, .ofNat 2147483647), (0, .ofNat 51, .ofNat 51)], [], [], [42, 44, 46, 48, 50, 52], (some (0, .negSucc 12, .ofNat 51)), 2, false)
theorem c_shift_52 (he : cc_env II L xs) : cc II L xs 147 k_shift_52 :=
  cc_ok he (cts := []) (fc := 3000) (f := 3000) (cuts := []) cc_nil (by decide +kernel)
def k_shift_53 : ct_C := ([(2, .ofNat 8, .ofNat 8), (0, .negSucc 2147483647, .ofNat 2147483647), (0, .negSucc 2147483647, .ofNat 2147483647), (0, .negSucc 2147483647, .ofNat 2147483647), (0, .negSucc 2147483647, .ofNat 2147483647), (0, .ofNat 52, .ofNat 52)], [], [], [42, 44, 46, 48, 50, 52], (some (0, .negSucc 12, .ofNat 52)), 2, false)
theorem c_shift_53 (he : cc_env II L xs) : cc II L xs 147 k_shift_53 :=
  cc_ok he (cts := []) (fc := 3000) (f := 3000) (cuts := []) cc_nil (by decide +kernel)
end
