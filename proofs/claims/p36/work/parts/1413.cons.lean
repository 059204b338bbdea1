/-! Contracts, 13. -/
section
variable {II : (Nat → Nat → Int) → Prop} {L : Nat} {xs : Nat → Int32}
def k_shift_10 : ct_C := ([(2, .ofNat 8, .ofNat 8), (0, .negSucc 2147483647, .ofNat 2147483647), (0, .negSucc 2147483647, .ofNat 2147483647), (0, .negSucc 2147483647, .ofNat 2147483647), (0, .negSucc 2147483647, .ofNat 2147483647), (0, .ofNat 9, .ofNat 9)], [], [], [42, 44, 46, 48, 50, 52], (some (0, .negSucc 12, .ofNat 9)), 2, false)
theorem c_shift_10 (he : cc_env II L xs) : cc II L xs 147 k_shift_10 :=
  cc_ok he (cts := []) (fc := 3000) (f := 3000) (cuts := []) cc_nil (by decide +kernel)
def k_shift_11 : ct_C := ([(2, .ofNat 8, .ofNat 8), (0, .negSucc 2147483647, .ofNat 2147483647), (0, .negSucc 2147483647, .ofNat 2147483647), (0, .negSucc 2147483647, .ofNat 2147483647), (0, .negSucc 2147483647, .ofNat 2147483647), (0, .ofNat 10, .ofNat 10)], [], [], [42, 44, 46, 48, 50, 52], (some (0, .negSucc 12, .ofNat 10)), 2, false)
theorem c_shift_11 (he : cc_env II L xs) : cc II L xs 147 k_shift_11 :=
  cc_ok he (cts := []) (fc := 3000) (f := 3000) (cuts := []) cc_nil (by decide +kernel)
end
