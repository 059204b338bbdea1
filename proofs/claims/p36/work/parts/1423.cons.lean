/-! Contracts, 23. -/
section
variable {II : (Nat → Nat → Int) → Prop} {L : Nat} {xs : Nat → Int32}
def k_shift_30 : ct_C := ([(2, .ofNat 8, .ofNat 8), (0, .negSucc 2147483647, .ofNat 2147483647), (0, .negSucc 2147483647, .ofNat 2147483647), (0, .negSucc 2147483647, .ofNat 2147483647), (0, .negSucc 2147483647, .ofNat 2147483647), (0, .ofNat 29, .ofNat 29)], [], [], [42, 44, 46, 48, 50, 52], (some (0, .negSucc 12, .ofNat 29)), 2, false)
theorem c_shift_30 (he : cc_env II L xs) : cc II L xs 147 k_shift_30 :=
  cc_ok he (cts := []) (fc := 3000) (f := 3000) (cuts := []) cc_nil (by decide +kernel)
def k_shift_31 : ct_C := ([(2, .ofNat 8, .ofNat 8), (0, .negSucc 2147483647, .ofNat 2147483647), (0, .negSucc 2147483647, .ofNat 2147483647), (0, .negSucc 2147483647, .ofNat 2147483647), (0, .negSucc 2147483647, .ofNat 2147483647), (0, .ofNat 30, .ofNat 30)], [], [], [42, 44, 46, 48, 50, 52], (some (0, .negSucc 12, .ofNat 30)), 2, false)
theorem c_shift_31 (he : cc_env II L xs) : cc II L xs 147 k_shift_31 :=
  cc_ok he (cts := []) (fc := 3000) (f := 3000) (cuts := []) cc_nil (by decide +kernel)
end
