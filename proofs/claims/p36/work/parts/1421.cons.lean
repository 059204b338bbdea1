/-! Contracts, 21. -/
section
variable {II : (Nat → Nat → Int) → Prop} {L : Nat} {xs : Nat → Int32}
def k_shift_26 : ct_C := ([(2, .ofNat 8, .ofNat 8), (0, .negSucc 2147483647, .ofNat 2147483647), (0, .negSucc 2147483647, .ofNat 2147483647), (0, .negSucc 2147483647, .ofNat 2147483647), (0, .negSucc 2147483647, .ofNat 2147483647), (0, .ofNat 25, .ofNat 25)], [], [], [42, 44, 46, 48, 50, 52], (some (0, .negSucc 12, .ofNat 25)), 2, false)
theorem c_shift_26 (he : cc_env II L xs) : cc II L xs 147 k_shift_26 :=
  cc_ok he (cts := []) (fc := 3000) (f := 3000) (cuts := []) cc_nil (by decide +kernel)
def k_shift_27 : ct_C := ([(2, .ofNat 8, .ofNat 8), (0, .negSucc 2147483647, .ofNat 2147483647), (0, .negSucc 2147483647, .ofNat 2147483647), (0, .negSucc 2147483647, .ofNat 2147483647), (0, .negSucc 2147483647, .ofNat 2147483647), (0, .ofNat 26, .ofNat 26)], [], [], [42, 44, 46, 48, 50, 52], (some (0, .negSucc 12, .ofNat 26)), 2, false)
theorem c_shift_27 (he : cc_env II L xs) : cc II L xs 147 k_shift_27 :=
  cc_ok he (cts := []) (fc := 3000) (f := 3000) (cuts := []) cc_nil (by decide +kernel)
end
