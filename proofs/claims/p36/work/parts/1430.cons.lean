/-! Contracts, 30. -/
section
variable {II : (Nat → Nat → Int) → Prop} {L : Nat} {xs : Nat → Int32}
def k_shift_44 : ct_C := ([(2, .ofNat 8, .ofNat 8), (0, .negSucc 2147483647, .ofNat 2147483647), (0, .negSucc 2147483647, .ofNat 2147483647), (0, .negSucc 2147483647, .ofNat 2147483647), (0, .negSucc 2147483647, .ofNat 2147483647), (0, .ofNat 43, .ofNat 43)], [], [], [42, 44, 46, 48, 50, 52], (some (0, .negSucc 12, .ofNat 43)), 2, false)
theorem c_shift_44 (he : cc_env II L xs) : cc II L xs 147 k_shift_44 :=
  cc_ok he (cts := []) (fc := 3000) (f := 3000) (cuts := []) cc_nil (by decide +kernel)
def k_shift_45 : ct_C := ([(2, .ofNat 8, .ofNat 8), (0, .negSucc 2147483647, .ofNat 2147483647), (0, .negSucc 2147483647, .ofNat 2147483647), (0, .negSucc 2147483647, .ofNat 2147483647), (0, .negSucc 2147483647, .ofNat 2147483647), (0, .ofNat 44, .ofNat 44)], [], [], [42, 44, 46, 48, 50, 52], (some (0, .negSucc 12, .ofNat 44)), 2, false)
theorem c_shift_45 (he : cc_env II L xs) : cc II L xs 147 k_shift_45 :=
  cc_ok he (cts := []) (fc := 3000) (f := 3000) (cuts := []) cc_nil (by decide +kernel)
end
