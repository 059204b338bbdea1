/-! Contracts, 11. -/
section
variable {II : (Nat → Nat → Int) → Prop} {L : Nat} {xs : Nat → Int32}
def k_mbits : ct_C := ([(0, .negSucc 2147483647, .ofNat 2147483647)], [], [], [], (some (0, .negSucc 2147483647, .ofNat 2147483647)), 1, false)
theorem c_mbits (he : cc_env II L) : cc II L xs 222 k_mbits :=
  mw_ok (ck := mk_dec 2) (μ := mk_mu 2) (cts := []) (fc := 3000) (f := 3000) (cuts := [(4, [(0, (0, .negSucc 2147483647, .ofNat 2147483647)), (1, (0, .negSucc 2147483647, .ofNat 2147483647)), (2, (0, .negSucc 2147483647, .ofNat 2147483647))], [], [], [], .ofNat 0, none)]) cl_lok cl_hrf (cl_hro L xs) he.1 he.2 cc_nil (fun us vs t ρ MM M h1 h2 h3 h4 => mk_dec_ok h1 h2 h3 h4) (by decide +kernel)
def k_mhouse : ct_C := ([(2, .ofNat 53, .ofNat 53), (0, .negSucc 2147483647, .ofNat 2147483647)], [(53, 1, .ofNat 0, .ofNat 6), (53, 7, .negSucc 2147483647, .ofNat 2147483647)], [(53, 1, .ofNat 0, .ofNat 6), (53, 7, .negSucc 2147483647, .ofNat 2147483647)], [54, 55, 56, 57, 58], (some (0, .negSucc 2, .ofNat 5)), 2, false)
theorem c_mhouse (he : cc_env II L) : cc II L xs 153 k_mhouse :=
  cc_ok he (cts := []) (fc := 3000) (f := 3000) (cuts := []) cc_nil (by decide +kernel)
def k_mcard : ct_C := ([(2, .ofNat 53, .ofNat 53), (0, .negSucc 2147483647, .ofNat 2147483647), (0, .negSucc 2147483647, .ofNat 2147483647)], [(53, 1, .ofNat 0, .ofNat 6), (53, 8, .ofNat 0, .ofNat 12)], [(53, 8, .ofNat 0, .ofNat 12)], [59, 60], (some (0, .negSucc 2, .ofNat 11)), 3, false)
theorem c_mcard (he : cc_env II L) : cc II L xs 155 k_mcard :=
  cc_ok he (cts := []) (fc := 3000) (f := 3000) (cuts := []) cc_nil (by decide +kernel)
def k_mcards : ct_C := ([(2, .ofNat 53, .ofNat 53), (0, .negSucc 2147483647, .ofNat 2147483647), (0, .negSucc 2147483647, .ofNat 2147483647), (0, .negSucc 2147483647, .ofNat 2147483647)], [(53, 1, .ofNat 0, .ofNat 6), (53, 8, .ofNat 0, .ofNat 12)], [(53, 8, .ofNat 0, .ofNat 12)], [59, 60], (some (0, .negSucc 11, .ofNat 12)), 3, false)
theorem c_mcards (he : cc_env II L) : cc II L xs 158 k_mcards :=
  cc_ok he (cts := []) (fc := 3000) (f := 3000) (cuts := [(58, [(0, (2, .ofNat 53, .ofNat 53)), (1, (0, .ofNat 0, .ofNat 5)), (2, (0, .negSucc 2147483647, .ofNat 2147483647)), (3, (0, .ofNat 1, .ofNat 12)), (4, (0, .ofNat 0, .ofNat 12))], [(53, 8, .ofNat 0, .ofNat 12)], [(53, 1, .ofNat 0, .ofNat 6)], [(.negSucc 0, 4)], .ofNat 12, none)]) cc_nil (by decide +kernel)
def k_mof : ct_C := ([(2, .ofNat 53, .ofNat 53), (0, .negSucc 2147483647, .ofNat 2147483647), (0, .negSucc 2147483647, .ofNat 2147483647)], [], [], [], (some (0, .negSucc 2147483647, .ofNat 2147483647)), 4, false)
theorem c_mof (he : cc_env II L) : cc II L xs 170 k_mof :=
  cc_ok he (cts := []) (fc := 3000) (f := 3000) (cuts := []) cc_nil (by decide +kernel)
def k_mfeed : ct_C := ([(2, .ofNat 53, .ofNat 53), (0, .negSucc 2147483647, .ofNat 2147483647)], [(53, 21, .ofNat 0, .ofNat 120)], [(53, 21, .ofNat 0, .ofNat 120)], [66], (some (0, .negSucc 2, .ofNat 120)), 2, false)
theorem c_mfeed (he : cc_env II L) : cc II L xs 172 k_mfeed :=
  cc_ok he (cts := []) (fc := 3000) (f := 3000) (cuts := []) cc_nil (by decide +kernel)
def k_mreadText : ct_C := ([(2, .ofNat 53, .ofNat 53), (0, .ofNat 0, .ofNat 0)], [], [(53, 21, .ofNat 0, .ofNat 0), (53, 22, .negSucc 2147483647, .ofNat 2147483647), (53, 23, .negSucc 2147483647, .ofNat 2147483647), (53, 24, .negSucc 2147483647, .ofNat 2147483647), (53, 25, .negSucc 2147483647, .ofNat 2147483647)], [67, 68, 69, 70, 71], (some (0, .negSucc 0, .ofNat 120)), 60, false)
theorem c_mreadText (he : cc_env II L) : cc II L xs 174 k_mreadText := by
  sorry
def k_mlaw : ct_C := ([(2, .ofNat 53, .ofNat 53)], [], [(53, 21, .ofNat 0, .ofNat 0), (53, 22, .negSucc 2147483647, .ofNat 2147483647), (53, 23, .negSucc 2147483647, .ofNat 2147483647), (53, 24, .negSucc 2147483647, .ofNat 2147483647), (53, 25, .negSucc 2147483647, .ofNat 2147483647), (53, 33, .ofNat 0, .ofNat 1)], [67, 68, 69, 70, 71], (some (0, .negSucc 219, .ofNat 1)), 61, false)
theorem c_mlaw (he : cc_env II L) : cc II L xs 173 k_mlaw :=
  cc_ok he (cts := [(174, k_mreadText)]) (fc := 3000) (f := 3000) (cuts := []) (cc_cons (c_mreadText he) cc_nil) (by decide +kernel)
def k_mgives : ct_C := ([(2, .ofNat 53, .ofNat 53), (0, .ofNat 0, .ofNat 0)], [], [], [73], (some (0, .negSucc 2147483647, .ofNat 2147483647)), 5, true)
theorem c_mgives (he : cc_env II L) : cc II L xs 196 k_mgives := by
  sorry
def k_mlikesOf : ct_C := ([(2, .ofNat 53, .ofNat 53), (0, .ofNat 0, .ofNat 11), (0, .ofNat 0, .ofNat 29)], [], [], [72, 73], (some (0, .negSucc 98, .ofNat 99)), 6, true)
theorem c_mlikesOf (he : cc_env II L) : cc II L xs 195 k_mlikesOf :=
  cc_ok he (cts := [(196, k_mgives)]) (fc := 3000) (f := 3000) (cuts := []) (cc_cons (c_mgives he) cc_nil) (by decide +kernel)
def k_mcardFor : ct_C := ([(2, .ofNat 53, .ofNat 53), (0, .ofNat 0, .ofNat 29)], [], [], [72, 73], (some (0, .negSucc 0, .ofNat 11)), 7, true)
theorem c_mcardFor (he : cc_env II L) : cc II L xs 193 k_mcardFor :=
  cc_ok he (cts := [(195, k_mlikesOf)]) (fc := 3000) (f := 3000) (cuts := [(7, [(0, (2, .ofNat 53, .ofNat 53)), (1, (0, .ofNat 0, .ofNat 29)), (2, (0, .negSucc 0, .ofNat 11)), (3, (0, .ofNat 0, .ofNat 99)), (4, (0, .ofNat 0, .ofNat 12))], [], [], [(.negSucc 0, 4)], .ofNat 12, none)]) (cc_cons (c_mlikesOf he) cc_nil) (by decide +kernel)
def k_mgoDay : ct_C := ([(2, .ofNat 53, .ofNat 53), (0, .ofNat 0, .ofNat 29)], [(53, 36, .negSucc 2147483647, .ofNat 2147483647)], [(53, 36, .negSucc 2147483647, .ofNat 2147483647)], [72, 73, 75, 76, 77], (some (0, .negSucc 0, .ofNat 5)), 8, true)
theorem c_mgoDay (he : cc_env II L) : cc II L xs 192 k_mgoDay :=
  cc_ok he (cts := [(193, k_mcardFor)]) (fc := 3000) (f := 3000) (cuts := []) (cc_cons (c_mcardFor he) cc_nil) (by decide +kernel)
def k_mlayNow : ct_C := ([(2, .ofNat 53, .ofNat 53)], [(53, 1, .ofNat 0, .ofNat 6), (53, 7, .negSucc 2147483647, .ofNat 2147483647), (53, 11, .negSucc 2147483647, .ofNat 2147483647)], [(53, 35, .negSucc 2147483647, .ofNat 2147483647), (53, 36, .negSucc 2147483647, .ofNat 2147483647)], [75], none, 1, false)
theorem c_mlayNow (he : cc_env II L) : cc II L xs 191 k_mlayNow :=
  cc_ok he (cts := []) (fc := 3000) (f := 3000) (cuts := [(18, [(0, (2, .ofNat 53, .ofNat 53)), (1, (0, .ofNat 0, .ofNat 6))], [(53, 35, .negSucc 2147483647, .ofNat 2147483647), (53, 36, .negSucc 2147483647, .ofNat 2147483647)], [(53, 1, .ofNat 0, .ofNat 6), (53, 7, .negSucc 2147483647, .ofNat 2147483647), (53, 11, .negSucc 2147483647, .ofNat 2147483647)], [(.negSucc 0, 1)], .ofNat 6, none)]) cc_nil (by decide +kernel)
def k_mgoTo : ct_C := ([(2, .ofNat 53, .ofNat 53), (0, .negSucc 0, .ofNat 29)], [(53, 13, .ofNat 0, .ofNat 29)], [(53, 35, .negSucc 2147483647, .ofNat 2147483647), (53, 36, .negSucc 2147483647, .ofNat 2147483647)], [72, 73, 75, 76, 77], none, 9, true)
theorem c_mgoTo (he : cc_env II L) : cc II L xs 190 k_mgoTo :=
  cc_ok he (cts := [(192, k_mgoDay), (191, k_mlayNow)]) (fc := 3000) (f := 3000) (cuts := [(9, [(0, (2, .ofNat 53, .ofNat 53)), (1, (0, .negSucc 0, .ofNat 29)), (2, (0, .ofNat 0, .ofNat 30))], [(53, 35, .negSucc 2147483647, .ofNat 2147483647), (53, 36, .negSucc 2147483647, .ofNat 2147483647)], [(53, 13, .ofNat 0, .ofNat 29)], [(.negSucc 0, 2)], .ofNat 30, none)]) (cc_cons (c_mgoDay he) (cc_cons (c_mlayNow he) cc_nil)) (by decide +kernel)
def k_mlikes : ct_C := ([(2, .ofNat 53, .ofNat 53), (0, .negSucc 2147483647, .ofNat 2147483647), (0, .negSucc 2147483647, .ofNat 2147483647)], [(53, 8, .ofNat 0, .ofNat 12), (53, 13, .ofNat 0, .ofNat 29)], [(53, 35, .negSucc 2147483647, .ofNat 2147483647), (53, 36, .negSucc 2147483647, .ofNat 2147483647)], [72, 73, 75, 76, 77], (some (0, .negSucc 1999999999, .ofNat 99)), 10, true)
theorem c_mlikes (he : cc_env II L) : cc II L xs 188 k_mlikes :=
  cc_ok he (cts := [(195, k_mlikesOf), (190, k_mgoTo)]) (fc := 3000) (f := 3000) (cuts := []) (cc_cons (c_mlikesOf he) (cc_cons (c_mgoTo he) cc_nil)) (by decide +kernel)
def k_maccepts : ct_C := ([(2, .ofNat 53, .ofNat 53), (0, .negSucc 2147483647, .ofNat 2147483647), (0, .negSucc 2147483647, .ofNat 2147483647)], [(53, 13, .ofNat 0, .ofNat 29)], [(53, 35, .negSucc 2147483647, .ofNat 2147483647), (53, 36, .negSucc 2147483647, .ofNat 2147483647)], [72, 73, 75, 76, 77], (some (0, .negSucc 1, .ofNat 2147483647)), 10, true)
theorem c_maccepts (he : cc_env II L) : cc II L xs 199 k_maccepts :=
  cc_ok he (cts := [(190, k_mgoTo)]) (fc := 3000) (f := 3000) (cuts := []) (cc_cons (c_mgoTo he) cc_nil) (by decide +kernel)
def k_mvisits : ct_C := ([(2, .ofNat 53, .ofNat 53), (0, .negSucc 2147483647, .ofNat 2147483647), (0, .negSucc 2147483647, .ofNat 2147483647)], [(53, 1, .ofNat 0, .ofNat 6), (53, 13, .ofNat 0, .ofNat 29)], [(53, 35, .negSucc 2147483647, .ofNat 2147483647), (53, 36, .negSucc 2147483647, .ofNat 2147483647)], [72, 73, 75, 76, 77], (some (0, .negSucc 2147483647, .ofNat 2147483647)), 10, true)
theorem c_mvisits (he : cc_env II L) : cc II L xs 201 k_mvisits :=
  cc_ok he (cts := [(190, k_mgoTo)]) (fc := 3000) (f := 3000) (cuts := []) (cc_cons (c_mgoTo he) cc_nil) (by decide +kernel)
def k_mfirst : ct_C := ([(2, .ofNat 53, .ofNat 53), (0, .negSucc 2147483647, .ofNat 2147483647)], [(53, 13, .ofNat 0, .ofNat 29)], [(53, 35, .negSucc 2147483647, .ofNat 2147483647), (53, 36, .negSucc 2147483647, .ofNat 2147483647)], [72, 73, 75, 76, 77], (some (0, .negSucc 1, .ofNat 29)), 10, true)
theorem c_mfirst (he : cc_env II L) : cc II L xs 202 k_mfirst :=
  cc_ok he (cts := [(190, k_mgoTo)]) (fc := 3000) (f := 3000) (cuts := [(27, [(0, (2, .ofNat 53, .ofNat 53)), (1, (0, .ofNat 0, .ofNat 1)), (2, (0, .ofNat 0, .ofNat 29)), (3, (0, .ofNat 0, .ofNat 30))], [(53, 35, .negSucc 2147483647, .ofNat 2147483647), (53, 36, .negSucc 2147483647, .ofNat 2147483647)], [(53, 13, .ofNat 0, .ofNat 29)], [(.negSucc 0, 3)], .ofNat 30, none)]) (cc_cons (c_mgoTo he) cc_nil) (by decide +kernel)
def k_modds : ct_C := ([(2, .ofNat 53, .ofNat 53), (0, .negSucc 2147483647, .ofNat 2147483647), (0, .negSucc 2147483647, .ofNat 2147483647)], [], [], [], (some (0, .negSucc 2147483647, .ofNat 2147483647)), 3, false)
theorem c_modds (he : cc_env II L) : cc II L xs 203 k_modds :=
  cc_ok he (cts := []) (fc := 3000) (f := 3000) (cuts := []) cc_nil (by decide +kernel)
def k_mtwelves : ct_C := ([(0, .ofNat 0, .ofNat 8)], [], [], [], (some (1, .negSucc 9223372036854775807, .ofNat 9223372036854775807)), 1, false)
theorem c_mtwelves (he : cc_env II L) : cc II L xs 208 k_mtwelves :=
  cc_ok he (cts := []) (fc := 3000) (f := 3000) (cuts := [(4, [(0, (0, .ofNat 0, .ofNat 8)), (1, (1, .negSucc 9223372036854775807, .ofNat 9223372036854775807)), (3, (0, .ofNat 0, .ofNat 8))], [], [], [(.negSucc 0, 2)], .ofNat 8, none)]) cc_nil (by decide +kernel)
def k_mburnt_0 : ct_C := ([(2, .ofNat 53, .ofNat 53), (0, .ofNat 0, .ofNat 5), (0, .ofNat 0, .ofNat 8)], [(53, 13, .ofNat 0, .ofNat 22)], [], [], (some (1, .negSucc 9223372036854775807, .ofNat 9223372036854775807)), 2, false)
theorem c_mburnt_0 (he : cc_env II L) : cc II L xs 207 k_mburnt_0 :=
  cc_ok he (cts := [(208, k_mtwelves)]) (fc := 3000) (f := 3000) (cuts := [(8, [(0, (2, .ofNat 53, .ofNat 53)), (1, (0, .ofNat 0, .ofNat 5)), (2, (0, .ofNat 0, .ofNat 8)), (3, (1, .negSucc 9223372036854775807, .ofNat 9223372036854775807)), (5, (0, .ofNat 0, .ofNat 30))], [], [(53, 13, .ofNat 0, .ofNat 22)], [(.negSucc 0, 4)], .ofNat 30, none)]) (cc_cons (c_mtwelves he) cc_nil) (by decide +kernel)
def k_mburnt_1 : ct_C := ([(2, .ofNat 53, .ofNat 53), (0, .ofNat 0, .ofNat 5), (0, .ofNat 0, .ofNat 7)], [(53, 13, .ofNat 23, .ofNat 23)], [], [], (some (1, .negSucc 9223372036854775807, .ofNat 9223372036854775807)), 2, false)
theorem c_mburnt_1 (he : cc_env II L) : cc II L xs 207 k_mburnt_1 :=
  cc_ok he (cts := [(208, k_mtwelves)]) (fc := 3000) (f := 3000) (cuts := [(8, [(0, (2, .ofNat 53, .ofNat 53)), (1, (0, .ofNat 0, .ofNat 5)), (2, (0, .ofNat 0, .ofNat 7)), (3, (1, .negSucc 9223372036854775807, .ofNat 9223372036854775807)), (5, (0, .ofNat 23, .ofNat 30))], [], [(53, 13, .ofNat 23, .ofNat 23)], [(.negSucc 0, 4)], .ofNat 30, none)]) (cc_cons (c_mtwelves he) cc_nil) (by decide +kernel)
def k_mburnt_2 : ct_C := ([(2, .ofNat 53, .ofNat 53), (0, .ofNat 0, .ofNat 5), (0, .ofNat 0, .ofNat 6)], [(53, 13, .ofNat 24, .ofNat 24)], [], [], (some (1, .negSucc 9223372036854775807, .ofNat 9223372036854775807)), 2, false)
theorem c_mburnt_2 (he : cc_env II L) : cc II L xs 207 k_mburnt_2 :=
  cc_ok he (cts := [(208, k_mtwelves)]) (fc := 3000) (f := 3000) (cuts := [(8, [(0, (2, .ofNat 53, .ofNat 53)), (1, (0, .ofNat 0, .ofNat 5)), (2, (0, .ofNat 0, .ofNat 6)), (3, (1, .negSucc 9223372036854775807, .ofNat 9223372036854775807)), (5, (0, .ofNat 24, .ofNat 30))], [], [(53, 13, .ofNat 24, .ofNat 24)], [(.negSucc 0, 4)], .ofNat 30, none)]) (cc_cons (c_mtwelves he) cc_nil) (by decide +kernel)
def k_mburnt_3 : ct_C := ([(2, .ofNat 53, .ofNat 53), (0, .ofNat 0, .ofNat 5), (0, .ofNat 0, .ofNat 5)], [(53, 13, .ofNat 25, .ofNat 25)], [], [], (some (1, .negSucc 9223372036854775807, .ofNat 9223372036854775807)), 2, false)
theorem c_mburnt_3 (he : cc_env II L) : cc II L xs 207 k_mburnt_3 :=
  cc_ok he (cts := [(208, k_mtwelves)]) (fc := 3000) (f := 3000) (cuts := [(8, [(0, (2, .ofNat 53, .ofNat 53)), (1, (0, .ofNat 0, .ofNat 5)), (2, (0, .ofNat 0, .ofNat 5)), (3, (1, .negSucc 9223372036854775807, .ofNat 9223372036854775807)), (5, (0, .ofNat 25, .ofNat 30))], [], [(53, 13, .ofNat 25, .ofNat 25)], [(.negSucc 0, 4)], .ofNat 30, none)]) (cc_cons (c_mtwelves he) cc_nil) (by decide +kernel)
def k_mburnt_4 : ct_C := ([(2, .ofNat 53, .ofNat 53), (0, .ofNat 0, .ofNat 5), (0, .ofNat 0, .ofNat 4)], [(53, 13, .ofNat 26, .ofNat 26)], [], [], (some (1, .negSucc 9223372036854775807, .ofNat 9223372036854775807)), 2, false)
theorem c_mburnt_4 (he : cc_env II L) : cc II L xs 207 k_mburnt_4 :=
  cc_ok he (cts := [(208, k_mtwelves)]) (fc := 3000) (f := 3000) (cuts := [(8, [(0, (2, .ofNat 53, .ofNat 53)), (1, (0, .ofNat 0, .ofNat 5)), (2, (0, .ofNat 0, .ofNat 4)), (3, (1, .negSucc 9223372036854775807, .ofNat 9223372036854775807)), (5, (0, .ofNat 26, .ofNat 30))], [], [(53, 13, .ofNat 26, .ofNat 26)], [(.negSucc 0, 4)], .ofNat 30, none)]) (cc_cons (c_mtwelves he) cc_nil) (by decide +kernel)
def k_mburnt_5 : ct_C := ([(2, .ofNat 53, .ofNat 53), (0, .ofNat 0, .ofNat 5), (0, .ofNat 0, .ofNat 3)], [(53, 13, .ofNat 27, .ofNat 27)], [], [], (some (1, .negSucc 9223372036854775807, .ofNat 9223372036854775807)), 2, false)
theorem c_mburnt_5 (he : cc_env II L) : cc II L xs 207 k_mburnt_5 :=
  cc_ok he (cts := [(208, k_mtwelves)]) (fc := 3000) (f := 3000) (cuts := [(8, [(0, (2, .ofNat 53, .ofNat 53)), (1, (0, .ofNat 0, .ofNat 5)), (2, (0, .ofNat 0, .ofNat 3)), (3, (1, .negSucc 9223372036854775807, .ofNat 9223372036854775807)), (5, (0, .ofNat 27, .ofNat 30))], [], [(53, 13, .ofNat 27, .ofNat 27)], [(.negSucc 0, 4)], .ofNat 30, none)]) (cc_cons (c_mtwelves he) cc_nil) (by decide +kernel)
def k_mburnt_6 : ct_C := ([(2, .ofNat 53, .ofNat 53), (0, .ofNat 0, .ofNat 5), (0, .ofNat 0, .ofNat 2)], [(53, 13, .ofNat 28, .ofNat 28)], [], [], (some (1, .negSucc 9223372036854775807, .ofNat 9223372036854775807)), 2, false)
theorem c_mburnt_6 (he : cc_env II L) : cc II L xs 207 k_mburnt_6 :=
  cc_ok he (cts := [(208, k_mtwelves)]) (fc := 3000) (f := 3000) (cuts := [(8, [(0, (2, .ofNat 53, .ofNat 53)), (1, (0, .ofNat 0, .ofNat 5)), (2, (0, .ofNat 0, .ofNat 2)), (3, (1, .negSucc 9223372036854775807, .ofNat 9223372036854775807)), (5, (0, .ofNat 28, .ofNat 30))], [], [(53, 13, .ofNat 28, .ofNat 28)], [(.negSucc 0, 4)], .ofNat 30, none)]) (cc_cons (c_mtwelves he) cc_nil) (by decide +kernel)
def k_mburnt_7 : ct_C := ([(2, .ofNat 53, .ofNat 53), (0, .ofNat 0, .ofNat 5), (0, .ofNat 0, .ofNat 1)], [(53, 13, .ofNat 29, .ofNat 29)], [], [], (some (1, .negSucc 9223372036854775807, .ofNat 9223372036854775807)), 2, false)
theorem c_mburnt_7 (he : cc_env II L) : cc II L xs 207 k_mburnt_7 :=
  cc_ok he (cts := [(208, k_mtwelves)]) (fc := 3000) (f := 3000) (cuts := [(8, [(0, (2, .ofNat 53, .ofNat 53)), (1, (0, .ofNat 0, .ofNat 5)), (2, (0, .ofNat 0, .ofNat 1)), (3, (1, .negSucc 9223372036854775807, .ofNat 9223372036854775807)), (5, (0, .ofNat 29, .ofNat 30))], [], [(53, 13, .ofNat 29, .ofNat 29)], [(.negSucc 0, 4)], .ofNat 30, none)]) (cc_cons (c_mtwelves he) cc_nil) (by decide +kernel)
def k_mburns_0 : ct_C := ([(2, .ofNat 53, .ofNat 53), (0, .negSucc 2147483647, .ofNat 2147483647), (0, .negSucc 2147483647, .ofNat 2147483647), (0, .negSucc 2147483647, .ofNat 2147483647)], [(53, 1, .ofNat 0, .ofNat 6), (53, 7, .negSucc 2147483647, .ofNat 2147483647), (53, 13, .ofNat 0, .ofNat 22)], [(53, 35, .negSucc 2147483647, .ofNat 2147483647), (53, 36, .negSucc 2147483647, .ofNat 2147483647)], [72, 73, 75, 76, 77], (some (1, .negSucc 9223372036854775807, .ofNat 9223372036854775807)), 10, true)
theorem c_mburns_0 (he : cc_env II L) : cc II L xs 205 k_mburns_0 :=
  cc_ok he (cts := [(209, k_mlowest), (190, k_mgoTo), (208, k_mtwelves), (207, k_mburnt_0)]) (fc := 3000) (f := 3000) (cuts := []) (cc_cons (c_mlowest he) (cc_cons (c_mgoTo he) (cc_cons (c_mtwelves he) (cc_cons (c_mburnt_0 he) cc_nil)))) (by decide +kernel)
def k_mburns_1 : ct_C := ([(2, .ofNat 53, .ofNat 53), (0, .negSucc 2147483647, .ofNat 2147483647), (0, .negSucc 2147483647, .ofNat 2147483647), (0, .negSucc 2147483647, .ofNat 2147483647)], [(53, 1, .ofNat 0, .ofNat 6), (53, 7, .negSucc 2147483647, .ofNat 2147483647), (53, 13, .ofNat 23, .ofNat 23)], [(53, 35, .negSucc 2147483647, .ofNat 2147483647), (53, 36, .negSucc 2147483647, .ofNat 2147483647)], [72, 73, 75, 76, 77], (some (1, .negSucc 9223372036854775807, .ofNat 9223372036854775807)), 10, true)
theorem c_mburns_1 (he : cc_env II L) : cc II L xs 205 k_mburns_1 :=
  cc_ok he (cts := [(209, k_mlowest), (190, k_mgoTo), (208, k_mtwelves), (207, k_mburnt_1)]) (fc := 3000) (f := 3000) (cuts := []) (cc_cons (c_mlowest he) (cc_cons (c_mgoTo he) (cc_cons (c_mtwelves he) (cc_cons (c_mburnt_1 he) cc_nil)))) (by decide +kernel)
end
