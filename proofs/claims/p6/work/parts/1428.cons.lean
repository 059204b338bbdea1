/-! Contracts, 28. -/
section
variable {II : (Nat → Nat → Int) → Prop} {L : Nat} {xs : Nat → Int32}
def k_mtaken : ct_C := ([(2, .ofNat 53, .ofNat 53), (0, .negSucc 2147483647, .ofNat 2147483647), (0, .negSucc 2147483647, .ofNat 2147483647)], [], [], [], (some (0, .negSucc 11, .ofNat 7)), 3, false)
theorem c_mtaken (he : cc_env II L xs) : cc II L xs 269 k_mtaken :=
  cc_ok he (cts := []) (fc := 3000) (f := 3000) (cuts := []) cc_nil (by decide +kernel)
end
