/-! Contracts, 15. -/
section
variable {II : (Nat → Nat → Int) → Prop} {L : Nat} {xs : Nat → Int32}
def k_shift_14 : ct_C := ([(2, .ofNat 8, .ofNat 8), (0, .negSucc 2147483647, .ofNat 2147483647), (0, .negSucc 2147483647, .ofNat 2147483647), (0, .negSucc 2147483647, .ofNat 2147483647), (0, .negSucc 2147483647, .ofNat 2147483647), (0, .ofNat 13, .ofNat 13)], [], [], [42, 44, 46, 48, 50, 52], (some (0, .negSucc 12, .ofNat 13)), 2, false)
theorem c_shift_14 (he : cc_env II L xs) : cc II L xs 147 k_shift_14 :=
  cc_ok he (cts := []) (fc := 3000) (f := 3000) (cuts := []) cc_nil (by decide +kernel)
def k_shift_15 : ct_C := ([(2, .ofNat 8, .ofNat 8), (0, .negSucc 2147483647, .ofNat 2147483647), (0, .negSucc 2147483647, .ofNat 2147483647), (0, .negSucc 2147483647, .ofNat 2147483647), (0, .negSucc 2147483647, .ofNat 2147483647), (0, .ofNat 14, .ofNat 14)], [], [], [42, 44, 46, 48, 50, 52], (some (0, .negSucc 12, .ofNat 14)), 2, false)
theorem c_shift_15 (he : cc_env II L xs) : cc II L xs 147 k_shift_15 :=
  cc_ok he (cts := []) (fc := 3000) (f := 3000) (cuts := []) cc_nil (by decide +kernel)
end
