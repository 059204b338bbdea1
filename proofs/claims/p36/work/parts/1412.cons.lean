/-! Contracts, 12. -/
section
variable {II : (Nat → Nat → Int) → Prop} {L : Nat} {xs : Nat → Int32}
def k_shift_8 : ct_C := ([(2, .ofNat 8, .ofNat 8), (0, .negSucc 2147483647, .ofNat 2147483647), (0, .negSucc 2147483647, .ofNat 2147483647), (0, .negSucc 2147483647, .ofNat 2147483647), (0, .negSucc 2147483647, .ofNat 2147483647), (0, .ofNat 7, .ofNat 7)], [], [], [42, 44, 46, 48, 50, 52], (some (0, .negSucc 12, .ofNat 7)), 2, false)
theorem c_shift_8 (he : cc_env II L xs) : cc II L xs 147 k_shift_8 :=
  cc_ok he (cts := []) (fc := 3000) (f := 3000) (cuts := []) cc_nil (by decide +kernel)
def k_shift_9 : ct_C := ([(2, .ofNat 8, .ofNat 8), (0, .negSucc 2147483647, .ofNat 2147483647), (0, .negSucc 2147483647, .ofNat 2147483647), (0, .negSucc 2147483647, .ofNat 2147483647), (0, .negSucc 2147483647, .ofNat 2147483647), (0, .ofNat 8, .ofNat 8)], [], [], [42, 44, 46, 48, 50, 52], (some (0, .negSucc 12, .ofNat 8)), 2, false)
theorem c_shift_9 (he : cc_env II L xs) : cc II L xs 147 k_shift_9 :=
  cc_ok he (cts := []) (fc := 3000) (f := 3000) (cuts := []) cc_nil (by decide +kernel)
end
