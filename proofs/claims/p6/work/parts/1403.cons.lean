/-! Contracts, 3. -/
section
variable {II : (Nat → Nat → Int) → Prop} {L : Nat} {xs : Nat → Int32}
def k_bits6_36 : ct_C := ([(0, .ofNat 36, .ofNat 36)], [], [], [], (some (0, .ofNat 2, .ofNat 2)), 1, false)
theorem c_bits6_36 (he : cc_env II L xs) : cc II L xs 93 k_bits6_36 :=
  cc_ok he (cts := []) (fc := 3000) (f := 3000) (cuts := []) cc_nil (by decide +kernel)
def k_bits6_37 : ct_C := ([(0, .ofNat 37, .ofNat 37)], [], [], [], (some (0, .ofNat 3, .ofNat 3)), 1, false)
theorem c_bits6_37 (he : cc_env II L xs) : cc II L xs 93 k_bits6_37 :=
  cc_ok he (cts := []) (fc := 3000) (f := 3000) (cuts := []) cc_nil (by decide +kernel)
def k_bits6_38 : ct_C := ([(0, .ofNat 38, .ofNat 38)], [], [], [], (some (0, .ofNat 3, .ofNat 3)), 1, false)
theorem c_bits6_38 (he : cc_env II L xs) : cc II L xs 93 k_bits6_38 :=
  cc_ok he (cts := []) (fc := 3000) (f := 3000) (cuts := []) cc_nil (by decide +kernel)
def k_bits6_39 : ct_C := ([(0, .ofNat 39, .ofNat 39)], [], [], [], (some (0, .ofNat 4, .ofNat 4)), 1, false)
theorem c_bits6_39 (he : cc_env II L xs) : cc II L xs 93 k_bits6_39 :=
  cc_ok he (cts := []) (fc := 3000) (f := 3000) (cuts := []) cc_nil (by decide +kernel)
def k_bits6_40 : ct_C := ([(0, .ofNat 40, .ofNat 40)], [], [], [], (some (0, .ofNat 2, .ofNat 2)), 1, false)
theorem c_bits6_40 (he : cc_env II L xs) : cc II L xs 93 k_bits6_40 :=
  cc_ok he (cts := []) (fc := 3000) (f := 3000) (cuts := []) cc_nil (by decide +kernel)
def k_bits6_41 : ct_C := ([(0, .ofNat 41, .ofNat 41)], [], [], [], (some (0, .ofNat 3, .ofNat 3)), 1, false)
theorem c_bits6_41 (he : cc_env II L xs) : cc II L xs 93 k_bits6_41 :=
  cc_ok he (cts := []) (fc := 3000) (f := 3000) (cuts := []) cc_nil (by decide +kernel)
def k_bits6_42 : ct_C := ([(0, .ofNat 42, .ofNat 42)], [], [], [], (some (0, .ofNat 3, .ofNat 3)), 1, false)
theorem c_bits6_42 (he : cc_env II L xs) : cc II L xs 93 k_bits6_42 :=
  cc_ok he (cts := []) (fc := 3000) (f := 3000) (cuts := []) cc_nil (by decide +kernel)
def k_bits6_43 : ct_C := ([(0, .ofNat 43, .ofNat 43)], [], [], [], (some (0, .ofNat 4, .ofNat 4)), 1, false)
theorem c_bits6_43 (he : cc_env II L xs) : cc II L xs 93 k_bits6_43 :=
  cc_ok he (cts := []) (fc := 3000) (f := 3000) (cuts := []) cc_nil (by decide +kernel)
def k_bits6_44 : ct_C := ([(0, .ofNat 44, .ofNat 44)], [], [], [], (some (0, .ofNat 3, .ofNat 3)), 1, false)
theorem c_bits6_44 (he : cc_env II L xs) : cc II L xs 93 k_bits6_44 :=
  cc_ok he (cts := []) (fc := 3000) (f := 3000) (cuts := []) cc_nil (by decide +kernel)
def k_bits6_45 : ct_C := ([(0, .ofNat 45, .ofNat 45)], [], [], [], (some (0, .ofNat 4, .ofNat 4)), 1, false)
theorem c_bits6_45 (he : cc_env II L xs) : cc II L xs 93 k_bits6_45 :=
  cc_ok he (cts := []) (fc := 3000) (f := 3000) (cuts := []) cc_nil (by decide +kernel)
def k_bits6_46 : ct_C := ([(0, .ofNat 46, .ofNat 46)], [], [], [], (some (0, .ofNat 4, .ofNat 4)), 1, false)
theorem c_bits6_46 (he : cc_env II L xs) : cc II L xs 93 k_bits6_46 :=
  cc_ok he (cts := []) (fc := 3000) (f := 3000) (cuts := []) cc_nil (by decide +kernel)
def k_bits6_47 : ct_C := ([(0, .ofNat 47, .ofNat 47)], [], [], [], (some (0, .ofNat 5, .ofNat 5)), 1, false)
theorem c_bits6_47 (he : cc_env II L xs) : cc II L xs 93 k_bits6_47 :=
  cc_ok he (cts := []) (fc := 3000) (f := 3000) (cuts := []) cc_nil (by decide +kernel)
def k_bits6_48 : ct_C := ([(0, .ofNat 48, .ofNat 48)], [], [], [], (some (0, .ofNat 2, .ofNat 2)), 1, false)
theorem c_bits6_48 (he : cc_env II L xs) : cc II L xs 93 k_bits6_48 :=
  cc_ok he (cts := []) (fc := 3000) (f := 3000) (cuts := []) cc_nil (by decide +kernel)
def k_bits6_49 : ct_C := ([(0, .ofNat 49, .ofNat 49)], [], [], [], (some (0, .ofNat 3, .ofNat 3)), 1, false)
theorem c_bits6_49 (he : cc_env II L xs) : cc II L xs 93 k_bits6_49 :=
  cc_ok he (cts := []) (fc := 3000) (f := 3000) (cuts := []) cc_nil (by decide +kernel)
def k_bits6_50 : ct_C := ([(0, .ofNat 50, .ofNat 50)], [], [], [], (some (0, .ofNat 3, .ofNat 3)), 1, false)
theorem c_bits6_50 (he : cc_env II L xs) : cc II L xs 93 k_bits6_50 :=
  cc_ok he (cts := []) (fc := 3000) (f := 3000) (cuts := []) cc_nil (by decide +kernel)
def k_bits6_51 : ct_C := ([(0, .ofNat 51, .ofNat 51)], [], [], [], (some (0, .ofNat 4, .ofNat 4)), 1, false)
theorem c_bits6_51 (he : cc_env II L xs) : cc II L xs 93 k_bits6_51 :=
  cc_ok he (cts := []) (fc := 3000) (f := 3000) (cuts := []) cc_nil (by decide +kernel)
def k_bits6_52 : ct_C := ([(0, .ofNat 52, .ofNat 52)], [], [], [], (some (0, .ofNat 3, .ofNat 3)), 1, false)
theorem c_bits6_52 (he : cc_env II L xs) : cc II L xs 93 k_bits6_52 :=
  cc_ok he (cts := []) (fc := 3000) (f := 3000) (cuts := []) cc_nil (by decide +kernel)
def k_bits6_53 : ct_C := ([(0, .ofNat 53, .ofNat 53)], [], [], [], (some (0, .ofNat 4, .ofNat 4)), 1, false)
theorem c_bits6_53 (he : cc_env II L xs) : cc II L xs 93 k_bits6_53 :=
  cc_ok he (cts := []) (fc := 3000) (f := 3000) (cuts := []) cc_nil (by decide +kernel)
def k_bits6_54 : ct_C := ([(0, .ofNat 54, .ofNat 54)], [], [], [], (some (0, .ofNat 4, .ofNat 4)), 1, false)
theorem c_bits6_54 (he : cc_env II L xs) : cc II L xs 93 k_bits6_54 :=
  cc_ok he (cts := []) (fc := 3000) (f := 3000) (cuts := []) cc_nil (by decide +kernel)
def k_bits6_55 : ct_C := ([(0, .ofNat 55, .ofNat 55)], [], [], [], (some (0, .ofNat 5, .ofNat 5)), 1, false)
theorem c_bits6_55 (he : cc_env II L xs) : cc II L xs 93 k_bits6_55 :=
  cc_ok he (cts := []) (fc := 3000) (f := 3000) (cuts := []) cc_nil (by decide +kernel)
def k_bits6_56 : ct_C := ([(0, .ofNat 56, .ofNat 56)], [], [], [], (some (0, .ofNat 3, .ofNat 3)), 1, false)
theorem c_bits6_56 (he : cc_env II L xs) : cc II L xs 93 k_bits6_56 :=
  cc_ok he (cts := []) (fc := 3000) (f := 3000) (cuts := []) cc_nil (by decide +kernel)
def k_bits6_57 : ct_C := ([(0, .ofNat 57, .ofNat 57)], [], [], [], (some (0, .ofNat 4, .ofNat 4)), 1, false)
theorem c_bits6_57 (he : cc_env II L xs) : cc II L xs 93 k_bits6_57 :=
  cc_ok he (cts := []) (fc := 3000) (f := 3000) (cuts := []) cc_nil (by decide +kernel)
def k_bits6_58 : ct_C := ([(0, .ofNat 58, .ofNat 58)], [], [], [], (some (0, .ofNat 4, .ofNat 4)), 1, false)
theorem c_bits6_58 (he : cc_env II L xs) : cc II L xs 93 k_bits6_58 :=
  cc_ok he (cts := []) (fc := 3000) (f := 3000) (cuts := []) cc_nil (by decide +kernel)
def k_bits6_59 : ct_C := ([(0, .ofNat 59, .ofNat 59)], [], [], [], (some (0, .ofNat 5, .ofNat 5)), 1, false)
theorem c_bits6_59 (he : cc_env II L xs) : cc II L xs 93 k_bits6_59 :=
  cc_ok he (cts := []) (fc := 3000) (f := 3000) (cuts := []) cc_nil (by decide +kernel)
def k_bits6_60 : ct_C := ([(0, .ofNat 60, .ofNat 60)], [], [], [], (some (0, .ofNat 4, .ofNat 4)), 1, false)
theorem c_bits6_60 (he : cc_env II L xs) : cc II L xs 93 k_bits6_60 :=
  cc_ok he (cts := []) (fc := 3000) (f := 3000) (cuts := []) cc_nil (by decide +kernel)
def k_bits6_61 : ct_C := ([(0, .ofNat 61, .ofNat 61)], [], [], [], (some (0, .ofNat 5, .ofNat 5)), 1, false)
theorem c_bits6_61 (he : cc_env II L xs) : cc II L xs 93 k_bits6_61 :=
  cc_ok he (cts := []) (fc := 3000) (f := 3000) (cuts := []) cc_nil (by decide +kernel)
def k_bits6_62 : ct_C := ([(0, .ofNat 62, .ofNat 62)], [], [], [], (some (0, .ofNat 5, .ofNat 5)), 1, false)
theorem c_bits6_62 (he : cc_env II L xs) : cc II L xs 93 k_bits6_62 :=
  cc_ok he (cts := []) (fc := 3000) (f := 3000) (cuts := []) cc_nil (by decide +kernel)
def k_bits6_63 : ct_C := ([(0, .ofNat 63, .ofNat 63)], [], [], [], (some (0, .ofNat 6, .ofNat 6)), 1, false)
theorem c_bits6_63 (he : cc_env II L xs) : cc II L xs 93 k_bits6_63 :=
  cc_ok he (cts := []) (fc := 3000) (f := 3000) (cuts := []) cc_nil (by decide +kernel)
def k_bits6 : ct_C := ([(0, .ofNat 0, .ofNat 63)], [], [], [], (some (0, .ofNat 0, .ofNat 6)), 1, false)
theorem c_bits6 (he : cc_env II L xs) : cc II L xs 93 k_bits6 :=
  cv_a_ok (i := 0) (ms := [((.ofNat 0, .ofNat 0), k_bits6_0), ((.ofNat 1, .ofNat 1), k_bits6_1), ((.ofNat 2, .ofNat 2), k_bits6_2), ((.ofNat 3, .ofNat 3), k_bits6_3), ((.ofNat 4, .ofNat 4), k_bits6_4), ((.ofNat 5, .ofNat 5), k_bits6_5), ((.ofNat 6, .ofNat 6), k_bits6_6), ((.ofNat 7, .ofNat 7), k_bits6_7), ((.ofNat 8, .ofNat 8), k_bits6_8), ((.ofNat 9, .ofNat 9), k_bits6_9), ((.ofNat 10, .ofNat 10), k_bits6_10), ((.ofNat 11, .ofNat 11), k_bits6_11), ((.ofNat 12, .ofNat 12), k_bits6_12), ((.ofNat 13, .ofNat 13), k_bits6_13), ((.ofNat 14, .ofNat 14), k_bits6_14), ((.ofNat 15, .ofNat 15), k_bits6_15), ((.ofNat 16, .ofNat 16), k_bits6_16), ((.ofNat 17, .ofNat 17), k_bits6_17), ((.ofNat 18, .ofNat 18), k_bits6_18), ((.ofNat 19, .ofNat 19), k_bits6_19), ((.ofNat 20, .ofNat 20), k_bits6_20), ((.ofNat 21, .ofNat 21), k_bits6_21), ((.ofNat 22, .ofNat 22), k_bits6_22), ((.ofNat 23, .ofNat 23), k_bits6_23), ((.ofNat 24, .ofNat 24), k_bits6_24), ((.ofNat 25, .ofNat 25), k_bits6_25), ((.ofNat 26, .ofNat 26), k_bits6_26), ((.ofNat 27, .ofNat 27), k_bits6_27), ((.ofNat 28, .ofNat 28), k_bits6_28), ((.ofNat 29, .ofNat 29), k_bits6_29), ((.ofNat 30, .ofNat 30), k_bits6_30), ((.ofNat 31, .ofNat 31), k_bits6_31), ((.ofNat 32, .ofNat 32), k_bits6_32), ((.ofNat 33, .ofNat 33), k_bits6_33), ((.ofNat 34, .ofNat 34), k_bits6_34), ((.ofNat 35, .ofNat 35), k_bits6_35), ((.ofNat 36, .ofNat 36), k_bits6_36), ((.ofNat 37, .ofNat 37), k_bits6_37), ((.ofNat 38, .ofNat 38), k_bits6_38), ((.ofNat 39, .ofNat 39), k_bits6_39), ((.ofNat 40, .ofNat 40), k_bits6_40), ((.ofNat 41, .ofNat 41), k_bits6_41), ((.ofNat 42, .ofNat 42), k_bits6_42), ((.ofNat 43, .ofNat 43), k_bits6_43), ((.ofNat 44, .ofNat 44), k_bits6_44), ((.ofNat 45, .ofNat 45), k_bits6_45), ((.ofNat 46, .ofNat 46), k_bits6_46), ((.ofNat 47, .ofNat 47), k_bits6_47), ((.ofNat 48, .ofNat 48), k_bits6_48), ((.ofNat 49, .ofNat 49), k_bits6_49), ((.ofNat 50, .ofNat 50), k_bits6_50), ((.ofNat 51, .ofNat 51), k_bits6_51), ((.ofNat 52, .ofNat 52), k_bits6_52), ((.ofNat 53, .ofNat 53), k_bits6_53), ((.ofNat 54, .ofNat 54), k_bits6_54), ((.ofNat 55, .ofNat 55), k_bits6_55), ((.ofNat 56, .ofNat 56), k_bits6_56), ((.ofNat 57, .ofNat 57), k_bits6_57), ((.ofNat 58, .ofNat 58), k_bits6_58), ((.ofNat 59, .ofNat 59), k_bits6_59), ((.ofNat 60, .ofNat 60), k_bits6_60), ((.ofNat 61, .ofNat 61), k_bits6_61), ((.ofNat 62, .ofNat 62), k_bits6_62), ((.ofNat 63, .ofNat 63), k_bits6_63)]) (cc_mcons (r := (.ofNat 0, .ofNat 0)) (c_bits6_0 he) (cc_mcons (r := (.ofNat 1, .ofNat 1)) (c_bits6_1 he) (cc_mcons (r := (.ofNat 2, .ofNat 2)) (c_bits6_2 he) (cc_mcons (r := (.ofNat 3, .ofNat 3)) (c_bits6_3 he) (cc_mcons (r := (.ofNat 4, .ofNat 4)) (c_bits6_4 he) (cc_mcons (r := (.ofNat 5, .ofNat 5)) (c_bits6_5 he) (cc_mcons (r := (.ofNat 6, .ofNat 6)) (c_bits6_6 he) (cc_mcons (r := (.ofNat 7, .ofNat 7)) (c_bits6_7 he) (cc_mcons (r := (.ofNat 8, .ofNat 8)) (c_bits6_8 he) (cc_mcons (r := (.ofNat 9, .ofNat 9)) (c_bits6_9 he) (cc_mcons (r := (.ofNat 10, .ofNat 10)) (c_bits6_10 he) (cc_mcons (r := (.ofNat 11, .ofNat 11)) (c_bits6_11 he) (cc_mcons (r := (.ofNat 12, .ofNat 12)) (c_bits6_12 he) (cc_mcons (r := (.ofNat 13, .ofNat 13)) (c_bits6_13 he) (cc_mcons (r := (.ofNat 14, .ofNat 14)) (c_bits6_14 he) (cc_mcons (r := (.ofNat 15, .ofNat 15)) (c_bits6_15 he) (cc_mcons (r := (.ofNat 16, .ofNat 16)) (c_bits6_16 he) (cc_mcons (r := (.ofNat 17, .ofNat 17)) (c_bits6_17 he) (cc_mcons (r := (.ofNat 18, .ofNat 18)) (c_bits6_18 he) (cc_mcons (r := (.ofNat 19, .ofNat 19)) (c_bits6_19 he) (cc_mcons (r := (.ofNat 20, .ofNat 20)) (c_bits6_20 he) (cc_mcons (r := (.ofNat 21, .ofNat 21)) (c_bits6_21 he) (cc_mcons (r := (.ofNat 22, .ofNat 22)) (c_bits6_22 he) (cc_mcons (r := (.ofNat 23, .ofNat 23)) (c_bits6_23 he) (cc_mcons (r := (.ofNat 24, .ofNat 24)) (c_bits6_24 he) (cc_mcons (r := (.ofNat 25, .ofNat 25)) (c_bits6_25 he) (cc_mcons (r := (.ofNat 26, .ofNat 26)) (c_bits6_26 he) (cc_mcons (r := (.ofNat 27, .ofNat 27)) (c_bits6_27 he) (cc_mcons (r := (.ofNat 28, .ofNat 28)) (c_bits6_28 he) (cc_mcons (r := (.ofNat 29, .ofNat 29)) (c_bits6_29 he) (cc_mcons (r := (.ofNat 30, .ofNat 30)) (c_bits6_30 he) (cc_mcons (r := (.ofNat 31, .ofNat 31)) (c_bits6_31 he) (cc_mcons (r := (.ofNat 32, .ofNat 32)) (c_bits6_32 he) (cc_mcons (r := (.ofNat 33, .ofNat 33)) (c_bits6_33 he) (cc_mcons (r := (.ofNat 34, .ofNat 34)) (c_bits6_34 he) (cc_mcons (r := (.ofNat 35, .ofNat 35)) (c_bits6_35 he) (cc_mcons (r := (.ofNat 36, .ofNat 36)) (c_bits6_36 he) (cc_mcons (r := (.ofNat 37, .ofNat 37)) (c_bits6_37 he) (cc_mcons (r := (.ofNat 38, .ofNat 38)) (c_bits6_38 he) (cc_mcons (r := (.ofNat 39, .ofNat 39)) (c_bits6_39 he) (cc_mcons (r := (.ofNat 40, .ofNat 40)) (c_bits6_40 he) (cc_mcons (r := (.ofNat 41, .ofNat 41)) (c_bits6_41 he) (cc_mcons (r := (.ofNat 42, .ofNat 42)) (c_bits6_42 he) (cc_mcons (r := (.ofNat 43, .ofNat 43)) (c_bits6_43 he) (cc_mcons (r := (.ofNat 44, .ofNat 44)) (c_bits6_44 he) (cc_mcons (r := (.ofNat 45, .ofNat 45)) (c_bits6_45 he) (cc_mcons (r := (.ofNat 46, .ofNat 46)) (c_bits6_46 he) (cc_mcons (r := (.ofNat 47, .ofNat 47)) (c_bits6_47 he) (cc_mcons (r := (.ofNat 48, .ofNat 48)) (c_bits6_48 he) (cc_mcons (r := (.ofNat 49, .ofNat 49)) (c_bits6_49 he) (cc_mcons (r := (.ofNat 50, .ofNat 50)) (c_bits6_50 he) (cc_mcons (r := (.ofNat 51, .ofNat 51)) (c_bits6_51 he) (cc_mcons (r := (.ofNat 52, .ofNat 52)) (c_bits6_52 he) (cc_mcons (r := (.ofNat 53, .ofNat 53)) (c_bits6_53 he) (cc_mcons (r := (.ofNat 54, .ofNat 54)) (c_bits6_54 he) (cc_mcons (r := (.ofNat 55, .ofNat 55)) (c_bits6_55 he) (cc_mcons (r := (.ofNat 56, .ofNat 56)) (c_bits6_56 he) (cc_mcons (r := (.ofNat 57, .ofNat 57)) (c_bits6_57 he) (cc_mcons (r := (.ofNat 58, .ofNat 58)) (c_bits6_58 he) (cc_mcons (r := (.ofNat 59, .ofNat 59)) (c_bits6_59 he) (cc_mcons (r := (.ofNat 60, .ofNat 60)) (c_bits6_60 he) (cc_mcons (r := (.ofNat 61, .ofNat 61)) (c_bits6_61 he) (cc_mcons (r := (.ofNat 62, .ofNat 62)) (c_bits6_62 he) (cc_mcons (r := (.ofNat 63, .ofNat 63)) (c_bits6_63 he) cc_mnil)))))))))))))))))))))))))))))))))))))))))))))))))))))))))))))))) (by decide +kernel)
end
