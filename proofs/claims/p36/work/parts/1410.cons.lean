/-! Contracts, 10. -/
section
variable {II : (Nat → Nat → Int) → Prop} {L : Nat} {xs : Nat → Int32}
def k_mbits6_46 : ct_C := ([(0, .ofNat 46, .ofNat 46)], [], [], [], (some (0, .ofNat 4, .ofNat 4)), 1, false)
theorem c_mbits6_46 (he : cc_env II L) : cc II L xs 222 k_mbits6_46 :=
  cc_ok he (cts := []) (fc := 3000) (f := 3000) (cuts := []) cc_nil (by decide +kernel)
def k_mbits6_47 : ct_C := ([(0, .ofNat 47, .ofNat 47)], [], [], [], (some (0, .ofNat 5, .ofNat 5)), 1, false)
theorem c_mbits6_47 (he : cc_env II L) : cc II L xs 222 k_mbits6_47 :=
  cc_ok he (cts := []) (fc := 3000) (f := 3000) (cuts := []) cc_nil (by decide +kernel)
def k_mbits6_48 : ct_C := ([(0, .ofNat 48, .ofNat 48)], [], [], [], (some (0, .ofNat 2, .ofNat 2)), 1, false)
theorem c_mbits6_48 (he : cc_env II L) : cc II L xs 222 k_mbits6_48 :=
  cc_ok he (cts := []) (fc := 3000) (f := 3000) (cuts := []) cc_nil (by decide +kernel)
def k_mbits6_49 : ct_C := ([(0, .ofNat 49, .ofNat 49)], [], [], [], (some (0, .ofNat 3, .ofNat 3)), 1, false)
theorem c_mbits6_49 (he : cc_env II L) : cc II L xs 222 k_mbits6_49 :=
  cc_ok he (cts := []) (fc := 3000) (f := 3000) (cuts := []) cc_nil (by decide +kernel)
def k_mbits6_50 : ct_C := ([(0, .ofNat 50, .ofNat 50)], [], [], [], (some (0, .ofNat 3, .ofNat 3)), 1, false)
theorem c_mbits6_50 (he : cc_env II L) : cc II L xs 222 k_mbits6_50 :=
  cc_ok he (cts := []) (fc := 3000) (f := 3000) (cuts := []) cc_nil (by decide +kernel)
def k_mbits6_51 : ct_C := ([(0, .ofNat 51, .ofNat 51)], [], [], [], (some (0, .ofNat 4, .ofNat 4)), 1, false)
theorem c_mbits6_51 (he : cc_env II L) : cc II L xs 222 k_mbits6_51 :=
  cc_ok he (cts := []) (fc := 3000) (f := 3000) (cuts := []) cc_nil (by decide +kernel)
def k_mbits6_52 : ct_C := ([(0, .ofNat 52, .ofNat 52)], [], [], [], (some (0, .ofNat 3, .ofNat 3)), 1, false)
theorem c_mbits6_52 (he : cc_env II L) : cc II L xs 222 k_mbits6_52 :=
  cc_ok he (cts := []) (fc := 3000) (f := 3000) (cuts := []) cc_nil (by decide +kernel)
def k_mbits6_53 : ct_C := ([(0, .ofNat 53, .ofNat 53)], [], [], [], (some (0, .ofNat 4, .ofNat 4)), 1, false)
theorem c_mbits6_53 (he : cc_env II L) : cc II L xs 222 k_mbits6_53 :=
  cc_ok he (cts := []) (fc := 3000) (f := 3000) (cuts := []) cc_nil (by decide +kernel)
def k_mbits6_54 : ct_C := ([(0, .ofNat 54, .ofNat 54)], [], [], [], (some (0, .ofNat 4, .ofNat 4)), 1, false)
theorem c_mbits6_54 (he : cc_env II L) : cc II L xs 222 k_mbits6_54 :=
  cc_ok he (cts := []) (fc := 3000) (f := 3000) (cuts := []) cc_nil (by decide +kernel)
def k_mbits6_55 : ct_C := ([(0, .ofNat 55, .ofNat 55)], [], [], [], (some (0, .ofNat 5, .ofNat 5)), 1, false)
theorem c_mbits6_55 (he : cc_env II L) : cc II L xs 222 k_mbits6_55 :=
  cc_ok he (cts := []) (fc := 3000) (f := 3000) (cuts := []) cc_nil (by decide +kernel)
def k_mbits6_56 : ct_C := ([(0, .ofNat 56, .ofNat 56)], [], [], [], (some (0, .ofNat 3, .ofNat 3)), 1, false)
theorem c_mbits6_56 (he : cc_env II L) : cc II L xs 222 k_mbits6_56 :=
  cc_ok he (cts := []) (fc := 3000) (f := 3000) (cuts := []) cc_nil (by decide +kernel)
def k_mbits6_57 : ct_C := ([(0, .ofNat 57, .ofNat 57)], [], [], [], (some (0, .ofNat 4, .ofNat 4)), 1, false)
theorem c_mbits6_57 (he : cc_env II L) : cc II L xs 222 k_mbits6_57 :=
  cc_ok he (cts := []) (fc := 3000) (f := 3000) (cuts := []) cc_nil (by decide +kernel)
def k_mbits6_58 : ct_C := ([(0, .ofNat 58, .ofNat 58)], [], [], [], (some (0, .ofNat 4, .ofNat 4)), 1, false)
theorem c_mbits6_58 (he : cc_env II L) : cc II L xs 222 k_mbits6_58 :=
  cc_ok he (cts := []) (fc := 3000) (f := 3000) (cuts := []) cc_nil (by decide +kernel)
def k_mbits6_59 : ct_C := ([(0, .ofNat 59, .ofNat 59)], [], [], [], (some (0, .ofNat 5, .ofNat 5)), 1, false)
theorem c_mbits6_59 (he : cc_env II L) : cc II L xs 222 k_mbits6_59 :=
  cc_ok he (cts := []) (fc := 3000) (f := 3000) (cuts := []) cc_nil (by decide +kernel)
def k_mbits6_60 : ct_C := ([(0, .ofNat 60, .ofNat 60)], [], [], [], (some (0, .ofNat 4, .ofNat 4)), 1, false)
theorem c_mbits6_60 (he : cc_env II L) : cc II L xs 222 k_mbits6_60 :=
  cc_ok he (cts := []) (fc := 3000) (f := 3000) (cuts := []) cc_nil (by decide +kernel)
def k_mbits6_61 : ct_C := ([(0, .ofNat 61, .ofNat 61)], [], [], [], (some (0, .ofNat 5, .ofNat 5)), 1, false)
theorem c_mbits6_61 (he : cc_env II L) : cc II L xs 222 k_mbits6_61 :=
  cc_ok he (cts := []) (fc := 3000) (f := 3000) (cuts := []) cc_nil (by decide +kernel)
def k_mbits6_62 : ct_C := ([(0, .ofNat 62, .ofNat 62)], [], [], [], (some (0, .ofNat 5, .ofNat 5)), 1, false)
theorem c_mbits6_62 (he : cc_env II L) : cc II L xs 222 k_mbits6_62 :=
  cc_ok he (cts := []) (fc := 3000) (f := 3000) (cuts := []) cc_nil (by decide +kernel)
def k_mbits6_63 : ct_C := ([(0, .ofNat 63, .ofNat 63)], [], [], [], (some (0, .ofNat 6, .ofNat 6)), 1, false)
theorem c_mbits6_63 (he : cc_env II L) : cc II L xs 222 k_mbits6_63 :=
  cc_ok he (cts := []) (fc := 3000) (f := 3000) (cuts := []) cc_nil (by decide +kernel)
def k_mbits6 : ct_C := ([(0, .ofNat 0, .ofNat 63)], [], [], [], (some (0, .ofNat 0, .ofNat 6)), 1, false)
theorem c_mbits6 (he : cc_env II L) : cc II L xs 222 k_mbits6 :=
  cv_a_ok (i := 0) (ms := [((.ofNat 0, .ofNat 0), k_mbits6_0), ((.ofNat 1, .ofNat 1), k_mbits6_1), ((.ofNat 2, .ofNat 2), k_mbits6_2), ((.ofNat 3, .ofNat 3), k_mbits6_3), ((.ofNat 4, .ofNat 4), k_mbits6_4), ((.ofNat 5, .ofNat 5), k_mbits6_5), ((.ofNat 6, .ofNat 6), k_mbits6_6), ((.ofNat 7, .ofNat 7), k_mbits6_7), ((.ofNat 8, .ofNat 8), k_mbits6_8), ((.ofNat 9, .ofNat 9), k_mbits6_9), ((.ofNat 10, .ofNat 10), k_mbits6_10), ((.ofNat 11, .ofNat 11), k_mbits6_11), ((.ofNat 12, .ofNat 12), k_mbits6_12), ((.ofNat 13, .ofNat 13), k_mbits6_13), ((.ofNat 14, .ofNat 14), k_mbits6_14), ((.ofNat 15, .ofNat 15), k_mbits6_15), ((.ofNat 16, .ofNat 16), k_mbits6_16), ((.ofNat 17, .ofNat 17), k_mbits6_17), ((.ofNat 18, .ofNat 18), k_mbits6_18), ((.ofNat 19, .ofNat 19), k_mbits6_19), ((.ofNat 20, .ofNat 20), k_mbits6_20), ((.ofNat 21, .ofNat 21), k_mbits6_21), ((.ofNat 22, .ofNat 22), k_mbits6_22), ((.ofNat 23, .ofNat 23), k_mbits6_23), ((.ofNat 24, .ofNat 24), k_mbits6_24), ((.ofNat 25, .ofNat 25), k_mbits6_25), ((.ofNat 26, .ofNat 26), k_mbits6_26), ((.ofNat 27, .ofNat 27), k_mbits6_27), ((.ofNat 28, .ofNat 28), k_mbits6_28), ((.ofNat 29, .ofNat 29), k_mbits6_29), ((.ofNat 30, .ofNat 30), k_mbits6_30), ((.ofNat 31, .ofNat 31), k_mbits6_31), ((.ofNat 32, .ofNat 32), k_mbits6_32), ((.ofNat 33, .ofNat 33), k_mbits6_33), ((.ofNat 34, .ofNat 34), k_mbits6_34), ((.ofNat 35, .ofNat 35), k_mbits6_35), ((.ofNat 36, .ofNat 36), k_mbits6_36), ((.ofNat 37, .ofNat 37), k_mbits6_37), ((.ofNat 38, .ofNat 38), k_mbits6_38), ((.ofNat 39, .ofNat 39), k_mbits6_39), ((.ofNat 40, .ofNat 40), k_mbits6_40), ((.ofNat 41, .ofNat 41), k_mbits6_41), ((.ofNat 42, .ofNat 42), k_mbits6_42), ((.ofNat 43, .ofNat 43), k_mbits6_43), ((.ofNat 44, .ofNat 44), k_mbits6_44), ((.ofNat 45, .ofNat 45), k_mbits6_45), ((.ofNat 46, .ofNat 46), k_mbits6_46), ((.ofNat 47, .ofNat 47), k_mbits6_47), ((.ofNat 48, .ofNat 48), k_mbits6_48), ((.ofNat 49, .ofNat 49), k_mbits6_49), ((.ofNat 50, .ofNat 50), k_mbits6_50), ((.ofNat 51, .ofNat 51), k_mbits6_51), ((.ofNat 52, .ofNat 52), k_mbits6_52), ((.ofNat 53, .ofNat 53), k_mbits6_53), ((.ofNat 54, .ofNat 54), k_mbits6_54), ((.ofNat 55, .ofNat 55), k_mbits6_55), ((.ofNat 56, .ofNat 56), k_mbits6_56), ((.ofNat 57, .ofNat 57), k_mbits6_57), ((.ofNat 58, .ofNat 58), k_mbits6_58), ((.ofNat 59, .ofNat 59), k_mbits6_59), ((.ofNat 60, .ofNat 60), k_mbits6_60), ((.ofNat 61, .ofNat 61), k_mbits6_61), ((.ofNat 62, .ofNat 62), k_mbits6_62), ((.ofNat 63, .ofNat 63), k_mbits6_63)]) (cc_mcons (r := (.ofNat 0, .ofNat 0)) (c_mbits6_0 he) (cc_mcons (r := (.ofNat 1, .ofNat 1)) (c_mbits6_1 he) (cc_mcons (r := (.ofNat 2, .ofNat 2)) (c_mbits6_2 he) (cc_mcons (r := (.ofNat 3, .ofNat 3)) (c_mbits6_3 he) (cc_mcons (r := (.ofNat 4, .ofNat 4)) (c_mbits6_4 he) (cc_mcons (r := (.ofNat 5, .ofNat 5)) (c_mbits6_5 he) (cc_mcons (r := (.ofNat 6, .ofNat 6)) (c_mbits6_6 he) (cc_mcons (r := (.ofNat 7, .ofNat 7)) (c_mbits6_7 he) (cc_mcons (r := (.ofNat 8, .ofNat 8)) (c_mbits6_8 he) (cc_mcons (r := (.ofNat 9, .ofNat 9)) (c_mbits6_9 he) (cc_mcons (r := (.ofNat 10, .ofNat 10)) (c_mbits6_10 he) (cc_mcons (r := (.ofNat 11, .ofNat 11)) (c_mbits6_11 he) (cc_mcons (r := (.ofNat 12, .ofNat 12)) (c_mbits6_12 he) (cc_mcons (r := (.ofNat 13, .ofNat 13)) (c_mbits6_13 he) (cc_mcons (r := (.ofNat 14, .ofNat 14)) (c_mbits6_14 he) (cc_mcons (r := (.ofNat 15, .ofNat 15)) (c_mbits6_15 he) (cc_mcons (r := (.ofNat 16, .ofNat 16)) (c_mbits6_16 he) (cc_mcons (r := (.ofNat 17, .ofNat 17)) (c_mbits6_17 he) (cc_mcons (r := (.ofNat 18, .ofNat 18)) (c_mbits6_18 he) (cc_mcons (r := (.ofNat 19, .ofNat 19)) (c_mbits6_19 he) (cc_mcons (r := (.ofNat 20, .ofNat 20)) (c_mbits6_20 he) (cc_mcons (r := (.ofNat 21, .ofNat 21)) (c_mbits6_21 he) (cc_mcons (r := (.ofNat 22, .ofNat 22)) (c_mbits6_22 he) (cc_mcons (r := (.ofNat 23, .ofNat 23)) (c_mbits6_23 he) (cc_mcons (r := (.ofNat 24, .ofNat 24)) (c_mbits6_24 he) (cc_mcons (r := (.ofNat 25, .ofNat 25)) (c_mbits6_25 he) (cc_mcons (r := (.ofNat 26, .ofNat 26)) (c_mbits6_26 he) (cc_mcons (r := (.ofNat 27, .ofNat 27)) (c_mbits6_27 he) (cc_mcons (r := (.ofNat 28, .ofNat 28)) (c_mbits6_28 he) (cc_mcons (r := (.ofNat 29, .ofNat 29)) (c_mbits6_29 he) (cc_mcons (r := (.ofNat 30, .ofNat 30)) (c_mbits6_30 he) (cc_mcons (r := (.ofNat 31, .ofNat 31)) (c_mbits6_31 he) (cc_mcons (r := (.ofNat 32, .ofNat 32)) (c_mbits6_32 he) (cc_mcons (r := (.ofNat 33, .ofNat 33)) (c_mbits6_33 he) (cc_mcons (r := (.ofNat 34, .ofNat 34)) (c_mbits6_34 he) (cc_mcons (r := (.ofNat 35, .ofNat 35)) (c_mbits6_35 he) (cc_mcons (r := (.ofNat 36, .ofNat 36)) (c_mbits6_36 he) (cc_mcons (r := (.ofNat 37, .ofNat 37)) (c_mbits6_37 he) (cc_mcons (r := (.ofNat 38, .ofNat 38)) (c_mbits6_38 he) (cc_mcons (r := (.ofNat 39, .ofNat 39)) (c_mbits6_39 he) (cc_mcons (r := (.ofNat 40, .ofNat 40)) (c_mbits6_40 he) (cc_mcons (r := (.ofNat 41, .ofNat 41)) (c_mbits6_41 he) (cc_mcons (r := (.ofNat 42, .ofNat 42)) (c_mbits6_42 he) (cc_mcons (r := (.ofNat 43, .ofNat 43)) (c_mbits6_43 he) (cc_mcons (r := (.ofNat 44, .ofNat 44)) (c_mbits6_44 he) (cc_mcons (r := (.ofNat 45, .ofNat 45)) (c_mbits6_45 he) (cc_mcons (r := (.ofNat 46, .ofNat 46)) (c_mbits6_46 he) (cc_mcons (r := (.ofNat 47, .ofNat 47)) (c_mbits6_47 he) (cc_mcons (r := (.ofNat 48, .ofNat 48)) (c_mbits6_48 he) (cc_mcons (r := (.ofNat 49, .ofNat 49)) (c_mbits6_49 he) (cc_mcons (r := (.ofNat 50, .ofNat 50)) (c_mbits6_50 he) (cc_mcons (r := (.ofNat 51, .ofNat 51)) (c_mbits6_51 he) (cc_mcons (r := (.ofNat 52, .ofNat 52)) (c_mbits6_52 he) (cc_mcons (r := (.ofNat 53, .ofNat 53)) (c_mbits6_53 he) (cc_mcons (r := (.ofNat 54, .ofNat 54)) (c_mbits6_54 he) (cc_mcons (r := (.ofNat 55, .ofNat 55)) (c_mbits6_55 he) (cc_mcons (r := (.ofNat 56, .ofNat 56)) (c_mbits6_56 he) (cc_mcons (r := (.ofNat 57, .ofNat 57)) (c_mbits6_57 he) (cc_mcons (r := (.ofNat 58, .ofNat 58)) (c_mbits6_58 he) (cc_mcons (r := (.ofNat 59, .ofNat 59)) (c_mbits6_59 he) (cc_mcons (r := (.ofNat 60, .ofNat 60)) (c_mbits6_60 he) (cc_mcons (r := (.ofNat 61, .ofNat 61)) (c_mbits6_61 he) (cc_mcons (r := (.ofNat 62, .ofNat 62)) (c_mbits6_62 he) (cc_mcons (r := (.ofNat 63, .ofNat 63)) (c_mbits6_63 he) cc_mnil)))))))))))))))))))))))))))))))))))))))))))))))))))))))))))))))) (by decide +kernel)
end
