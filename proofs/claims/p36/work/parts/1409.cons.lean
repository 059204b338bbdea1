/-! Contracts, 9. -/
section
variable {II : (Nat → Nat → Int) → Prop} {L : Nat} {xs : Nat → Int32}
def k_shift_2 : ct_C := ([(2, .ofNat 8, .ofNat 8), (0, .negSucc 2147483647, .ofNat 2147483647), (0, .negSucc 2147483647, .ofNat 2147483647), (0, .negSucc 2147483647, .ofNat 2147483647), (0, .negSucc 2147483647, .ofNat 2147483647), (0, .ofNat 1, .ofNat 1)], [], [], [42, 44, 46, 48, 50, 52], (some (0, .negSucc 12, .ofNat 1)), 2, false)
theorem c_shift_2 (he : cc_env II L xs) : cc II L xs 147 k_shift_2 :=
  cc_ok he (cts := []) (fc := 3000) (f := 3000) (cuts := []) cc_nil (by decide +kernel)
def k_shift_3 : ct_C := ([(2, .ofNat 8, .ofNat 8), (0, .negSucc 2147483647, .ofNat 2147483647), (0, .negSucc 2147483647, .ofNat 2147483647), (0, .negSucc 2147483647, .ofNat 2147483647), (0, .negSucc 2147483647, .ofNat 2147483647), (0, .ofNat 2, .ofNat 2)], [], [], [42, 44, 46, 48, 50, 52], (some (0, .negSucc 12, .ofNat 2)), 2, false)
theorem c_shift_3 (he : cc_env II L xs) : cc II L xs 147 k_shift_3 :=
  cc_ok he (cts := []) (fc := 3000) (f := 3000) (cuts := []) cc_nil (by decide +kernel)
end
