/-! Contracts, 31. -/
section
variable {II : (Nat → Nat → Int) → Prop} {L : Nat} {xs : Nat → Int32}
def k_shift_46 : ct_C := ([(2, .ofNat 8, .ofNat 8), (0, .negSucc 2147483647, .ofNat 2147483647), (0, .negSucc 2147483647, .ofNat 2147483647), (0, .negSucc 2147483647, .ofNat 2147483647), (0, .negSucc 2147483647, .ofNat 2147483647), (0, .ofNat 45, .ofNat 45)], [], [], [42, 44, 46, 48, 50, 52], (some (0, .negSucc 12, .ofNat 45)), 2, false)
theorem c_shift_46 (he : cc_env II L xs) : cc II L xs 147 k_shift_46 :=
  cc_ok he (cts := []) (fc := 3000) (f := 3000) (cuts := []) cc_nil (by decide +kernel)
def k_shift_47 : ct_C := ([(2, .ofNat 8, .ofNat 8), (0, .negSucc 2147483647, .ofNat 2147483647), (0, .negSucc 2147483647, .ofNat 2147483647), (0, .negSucc 2147483647, .ofNat 2147483647), (0, .negSucc 2147483647, .ofNat 2147483647), (0, .ofNat 46, .ofNat 46)], [], [], [42, 44, 46, 48, 50, 52], (some (0, .negSucc 12, .ofNat 46)), 2, false)
theorem c_shift_47 (he : cc_env II L xs) : cc II L xs 147 k_shift_47 :=
  cc_ok he (cts := []) (fc := 3000) (f := 3000) (cuts := []) cc_nil (by decide +kernel)
end
