/-! Contracts, 16. -/
section
variable {II : (Nat → Nat → Int) → Prop} {L : Nat} {xs : Nat → Int32}
def k_shift_16 : ct_C := ([(2, .ofNat 8, .ofNat 8), (0, .negSucc 2147483647, .ofNat 2147483647), (0, .negSucc 2147483647, .ofNat 2147483647), (0, .negSucc 2147483647, .ofNat 2147483647), (0, .negSucc 2147483647, .ofNat 2147483647), (0, .ofNat 15, .ofNat 15)], [], [], [42, 44, 46, 48, 50, 52], (some (0, .negSucc 12, .ofNat 15)), 2, false)
theorem c_shift_16 (he : cc_env II L xs) : cc II L xs 147 k_shift_16 :=
  cc_ok he (cts := []) (fc := 3000) (f := 3000) (cuts := []) cc_nil (by decide +kernel)
def k_shift_17 : ct_C := ([(2, .ofNat 8, .ofNat 8), (0, .negSucc 2147483647, .ofNat 2147483647), (0, .negSucc 2147483647, .ofNat 2147483647), (0, .negSucc 2147483647, .ofNat 2147483647), (0, .negSucc 2147483647, .ofNat 2147483647), (0, .ofNat 16, .ofNat 16)], [], [], [42, 44, 46, 48, 50, 52], (some (0, .negSucc 12, .ofNat 16)), 2, false)
theorem c_shift_17 (he : cc_env II L xs) : cc II L xs 147 k_shift_17 :=
  cc_ok he (cts := []) (fc := 3000) (f := 3000) (cuts := []) cc_nil (by decide +kernel)
end
