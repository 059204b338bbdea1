/-! Contracts, 32. -/
section
variable {II : (Nat → Nat → Int) → Prop} {L : Nat} {xs : Nat → Int32}
def k_shift_48 : ct_C := ([(2, .ofNat 8, .ofNat 8), (0, .negSucc 2147483647, .ofNat 2147483647), (0, .negSucc 2147483647, .ofNat 2147483647), (0, .negSucc 2147483647, .ofNat 2147483647), (0, .negSucc 2147483647, .ofNat 2147483647), (0, .ofNat 47, .ofNat 47)], [], [], [42, 44, 46, 48, 50, 52], (some (0, .negSucc 12, .ofNat 47)), 2, false)
theorem c_shift_48 (he : cc_env II L xs) : cc II L xs 147 k_shift_48 :=
  cc_ok he (cts := []) (fc := 3000) (f := 3000) (cuts := []) cc_nil (by decide +kernel)
def k_shift_49 : ct_C := ([(2, .ofNat 8, .ofNat 8), (0, .negSucc 2147483647, .ofNat 2147483647), (0, .negSucc 2147483647, .ofNat 2147483647), (0, .negSucc 2147483647, .ofNat 2147483647), (0, .negSucc 2147483647, .ofNat 2147483647), (0, .ofNat 48, .ofNat 48)], [], [], [42, 44, 46, 48, 50, 52], (some (0, .negSucc 12, .ofNat 48)), 2, false)
theorem c_shift_49 (he : cc_env II L xs) : cc II L xs 147 k_shift_49 :=
  cc_ok he (cts := []) (fc := 3000) (f := 3000) (cuts := []) cc_nil (by decide +kernel)
end
