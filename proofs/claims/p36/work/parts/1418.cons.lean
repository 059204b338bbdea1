/-! Contracts, 18. -/
section
variable {II : (Nat → Nat → Int) → Prop} {L : Nat} {xs : Nat → Int32}
def k_shift_20 : ct_C := ([(2, .ofNat 8, .ofNat 8), (0, .negSucc 2147483647, .ofNat 2147483647), (0, .negSucc 2147483647, .ofNat 2147483647), (0, .negSucc 2147483647, .ofNat 2147483647), (0, .negSucc 2147483647, .ofNat 2147483647), (0, .ofNat 19, .ofNat 19)], [], [], [42, 44, 46, 48, 50, 52], (some (0, .negSucc 12, .ofNat 19)), 2, false)
theorem c_shift_20 (he : cc_env II L xs) : cc II L xs 147 k_shift_20 :=
  cc_ok he (cts := []) (fc := 3000) (f := 3000) (cuts := []) cc_nil (by decide +kernel)
def k_shift_21 : ct_C := ([(2, .ofNat 8, .ofNat 8), (0, .negSucc 2147483647, .ofNat 2147483647), (0, .negSucc 2147483647, .ofNat 2147483647), (0, .negSucc 2147483647, .ofNat 2147483647), (0, .negSucc 2147483647, .ofNat 2147483647), (0, .ofNat 20, .ofNat 20)], [], [], [42, 44, 46, 48, 50, 52], (some (0, .negSucc 12, .ofNat 20)), 2, false)
theorem c_shift_21 (he : cc_env II L xs) : cc II L xs 147 k_shift_21 :=
  cc_ok he (cts := []) (fc := 3000) (f := 3000) (cuts := []) cc_nil (by decide +kernel)
end
