/-! Contracts, 0. -/
section
variable {II : (Nat → Nat → Int) → Prop} {L : Nat} {xs : Nat → Int32}
def k_bitCount : ct_C := ([(0, .negSucc 2147483647, .ofNat 2147483647)], [], [], [], (some (0, .negSucc 2147483647, .ofNat 2147483647)), 1, false)
theorem c_bitCount (he : cc_env II L xs) : cc II L xs 93 k_bitCount :=
  cc_ok he (cts := []) (fc := 3000) (f := 3000) (cuts := []) cc_nil (by decide +kernel)
def k_worked : ct_C := ([(2, .ofNat 14, .ofNat 14)], [], [], [19], (some (0, .negSucc 2147483647, .ofNat 2147483647)), 2, false)
theorem c_worked (he : cc_env II L xs) : cc II L xs 61 k_worked :=
  cc_ok he (cts := []) (fc := 3000) (f := 3000) (cuts := [(4, [(0, (2, .ofNat 14, .ofNat 14)), (1, (0, .ofNat 0, .ofNat 128)), (2, (0, .ofNat 0, .ofNat 9999))], [], [], [(.negSucc 1, 2)], .ofNat 19999, none), (48, [(0, (2, .ofNat 14, .ofNat 14)), (1, (0, .ofNat 0, .ofNat 128)), (2, (0, .ofNat 0, .ofNat 254)), (3, (0, .negSucc 62, .negSucc 62))], [], [], [(.negSucc 1, 2)], .ofNat 19998, (some 2))]) cc_nil (by decide +kernel)
end
