/-! Contracts, 8. -/
section
variable {II : (Nat → Nat → Int) → Prop} {L : Nat} {xs : Nat → Int32}
def k_trace : ct_C := ([(2, .ofNat 8, .ofNat 8), (0, .negSucc 2147483647, .ofNat 2147483647)], [], [], [], (some (0, .negSucc 2147483647, .ofNat 2147483647)), 2, false)
theorem c_trace (he : cc_env II L xs) : cc II L xs 136 k_trace :=
  cc_ok he (cts := []) (fc := 3000) (f := 3000) (cuts := []) cc_nil (by decide +kernel)
def k_element : ct_C := ([(2, .ofNat 8, .ofNat 8), (0, .negSucc 2147483647, .ofNat 2147483647), (0, .negSucc 2147483647, .ofNat 2147483647)], [], [], [], (some (1, .negSucc 9223372036854775807, .ofNat 9223372036854775807)), 3, false)
theorem c_element (he : cc_env II L xs) : cc II L xs 146 k_element :=
  cc_ok he (cts := []) (fc := 3000) (f := 3000) (cuts := []) cc_nil (by decide +kernel)
end
