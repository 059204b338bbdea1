/-! Contracts, 7. -/
section
variable {II : (Nat → Nat → Int) → Prop} {L : Nat} {xs : Nat → Int32}
def k_drawn : ct_C := ([(2, .ofNat 8, .ofNat 8), (0, .negSucc 2147483647, .ofNat 2147483647), (0, .negSucc 2147483647, .ofNat 2147483647), (0, .negSucc 2147483647, .ofNat 2147483647)], [(10, 210, .ofNat 0, .ofNat 29)], [(21, 6, .negSucc 2147483647, .ofNat 2147483647), (21, 7, .negSucc 2147483647, .ofNat 2147483647), (21, 8, .negSucc 2147483647, .ofNat 2147483647)], [19, 20, 22, 23], (some (0, .negSucc 2147483647, .ofNat 2147483647)), 7, false)
theorem c_drawn (he : cc_env II L xs) : cc II L xs 110 k_drawn :=
  cc_ok he (cts := [(93, k_bitCount), (111, k_season)]) (fc := 3000) (f := 3000) (cuts := [(43, [(0, (2, .ofNat 8, .ofNat 8)), (1, (0, .negSucc 2147483647, .ofNat 2147483647)), (2, (0, .ofNat 1, .ofNat 30)), (3, (0, .negSucc 0, .ofNat 5)), (4, (0, .negSucc 2147483647, .ofNat 2147483647)), (5, (0, .ofNat 0, .ofNat 30))], [(21, 6, .negSucc 2147483647, .ofNat 2147483647), (21, 7, .negSucc 2147483647, .ofNat 2147483647), (21, 8, .negSucc 2147483647, .ofNat 2147483647)], [(10, 210, .ofNat 0, .ofNat 29)], [(.negSucc 0, 5)], .ofNat 30, none)]) (cc_cons (c_bitCount he) (cc_cons (c_season he) cc_nil)) (by decide +kernel)
def k_pass : ct_C := ([(2, .ofNat 8, .ofNat 8), (0, .negSucc 2147483647, .ofNat 2147483647)], [(9, 4, .ofNat 0, .ofNat 6), (9, 6, .negSucc 2147483647, .ofNat 2147483647), (10, 210, .ofNat 0, .ofNat 29), (21, 6, .negSucc 2147483647, .ofNat 2147483647)], [(9, 6, .negSucc 2147483647, .ofNat 2147483647), (9, 7, .negSucc 2147483647, .ofNat 2147483647), (10, 210, .ofNat 0, .ofNat 29), (21, 6, .negSucc 2147483647, .ofNat 2147483647), (21, 8, .negSucc 2147483647, .ofNat 2147483647)], [10, 12, 13, 19, 20, 22, 23], (some (0, .negSucc 4, .ofNat 5)), 6, false)
theorem c_pass (he : cc_env II L xs) : cc II L xs 113 k_pass :=
  cc_ok he (cts := [(93, k_bitCount), (56, k_spend), (54, k_begin)]) (fc := 3000) (f := 3000) (cuts := []) (cc_cons (c_bitCount he) (cc_cons (c_spend he) (cc_cons (c_begin he) cc_nil))) (by decide +kernel)
def k_build : ct_C := ([(2, .ofNat 8, .ofNat 8), (0, .negSucc 2147483647, .ofNat 2147483647)], [(9, 4, .ofNat 0, .ofNat 6), (9, 6, .negSucc 2147483647, .ofNat 2147483647)], [(9, 6, .negSucc 2147483647, .ofNat 2147483647)], [13], (some (0, .negSucc 4, .ofNat 1)), 2, false)
theorem c_build (he : cc_env II L xs) : cc II L xs 115 k_build :=
  cc_ok he (cts := []) (fc := 3000) (f := 3000) (cuts := []) cc_nil (by decide +kernel)
def k_led : ct_C := ([(2, .ofNat 8, .ofNat 8), (0, .negSucc 2147483647, .ofNat 2147483647)], [], [], [], (some (0, .negSucc 2147483647, .ofNat 2147483647)), 1, false)
theorem c_led (he : cc_env II L xs) : cc II L xs 116 k_led :=
  cc_ok he (cts := []) (fc := 3000) (f := 3000) (cuts := []) cc_nil (by decide +kernel)
def k_image : ct_C := ([(2, .ofNat 8, .ofNat 8)], [(10, 210, .ofNat 0, .ofNat 29)], [(34, 2, .ofNat 1, .ofNat 1), (34, 3, .ofNat 0, .ofNat 29), (34, 4, .ofNat 0, .ofNat 6), (34, 5, .ofNat 0, .ofNat 12), (34, 6, .negSucc 2147483647, .ofNat 2147483647), (34, 7, .negSucc 2147483647, .ofNat 2147483647)], [35, 36], (some (0, .ofNat 0, .ofNat 29)), 3, false)
theorem c_image (he : cc_env II L xs) : cc II L xs 117 k_image :=
  cc_ok he (cts := []) (fc := 3000) (f := 3000) (cuts := []) cc_nil (by decide +kernel)
def k_back : ct_C := ([(2, .ofNat 8, .ofNat 8)], [(9, 6, .negSucc 2147483647, .ofNat 2147483647), (9, 7, .negSucc 2147483647, .ofNat 2147483647), (10, 210, .ofNat 0, .ofNat 29)], [(9, 6, .negSucc 2147483647, .ofNat 2147483647), (9, 7, .negSucc 2147483647, .ofNat 2147483647), (10, 210, .ofNat 0, .ofNat 29)], [10, 12, 13], (some (0, .negSucc 4, .ofNat 29)), 3, false)
theorem c_back (he : cc_env II L xs) : cc II L xs 119 k_back :=
  cc_ok he (cts := []) (fc := 3000) (f := 3000) (cuts := []) cc_nil (by decide +kernel)
def k_house : ct_C := ([(2, .ofNat 8, .ofNat 8), (0, .negSucc 2147483647, .ofNat 2147483647)], [(9, 4, .ofNat 0, .ofNat 6), (9, 6, .negSucc 2147483647, .ofNat 2147483647), (10, 210, .ofNat 0, .ofNat 29)], [(9, 4, .ofNat 0, .ofNat 6), (9, 6, .negSucc 2147483647, .ofNat 2147483647), (10, 210, .ofNat 0, .ofNat 29)], [10], (some (0, .negSucc 2, .ofNat 5)), 3, false)
theorem c_house (he : cc_env II L xs) : cc II L xs 11 k_house :=
  cc_ok he (cts := []) (fc := 3000) (f := 3000) (cuts := []) cc_nil (by decide +kernel)
def k_card : ct_C := ([(2, .ofNat 8, .ofNat 8), (0, .negSucc 2147483647, .ofNat 2147483647), (0, .negSucc 2147483647, .ofNat 2147483647)], [(9, 4, .ofNat 0, .ofNat 6), (9, 5, .ofNat 0, .ofNat 12), (10, 210, .ofNat 0, .ofNat 29)], [(9, 5, .ofNat 0, .ofNat 12), (10, 210, .ofNat 0, .ofNat 29)], [10, 11], (some (0, .negSucc 2, .ofNat 11)), 3, false)
theorem c_card (he : cc_env II L xs) : cc II L xs 15 k_card :=
  cc_ok he (cts := []) (fc := 3000) (f := 3000) (cuts := []) cc_nil (by decide +kernel)
def k_cardsFrom0 : ct_C := ([(2, .ofNat 8, .ofNat 8), (2, .ofNat 41, .ofNat 41), (0, .ofNat 0, .ofNat 2147483647), (0, .ofNat 1, .ofNat 12)], [(9, 4, .ofNat 0, .ofNat 6), (9, 5, .ofNat 0, .ofNat 12), (10, 210, .ofNat 0, .ofNat 29)], [(9, 5, .ofNat 0, .ofNat 12), (10, 210, .ofNat 0, .ofNat 29)], [10, 11], (some (0, .ofNat 0, .ofNat 12)), 3, false)
theorem c_cardsFrom0 (he : cc_env II L xs) : cc II L xs 22 k_cardsFrom0 :=
  cc_ok he (cts := []) (fc := 3000) (f := 3000) (cuts := [(3, [(0, (2, .ofNat 8, .ofNat 8)), (1, (2, .ofNat 41, .ofNat 41)), (2, (0, .ofNat 0, .ofNat 2147483647)), (3, (0, .ofNat 1, .ofNat 12)), (4, (0, .ofNat 0, .ofNat 12))], [(9, 5, .ofNat 0, .ofNat 12), (10, 210, .ofNat 0, .ofNat 29)], [(9, 4, .ofNat 0, .ofNat 6)], [(.negSucc 0, 4)], .ofNat 12, none)]) cc_nil (by decide +kernel)
def k_cardsFrom1 : ct_C := ([(2, .ofNat 8, .ofNat 8), (2, .ofNat 43, .ofNat 43), (0, .ofNat 0, .ofNat 2147483647), (0, .ofNat 1, .ofNat 12)], [(9, 4, .ofNat 0, .ofNat 6), (9, 5, .ofNat 0, .ofNat 12), (10, 210, .ofNat 0, .ofNat 29)], [(9, 5, .ofNat 0, .ofNat 12), (10, 210, .ofNat 0, .ofNat 29)], [10, 11], (some (0, .ofNat 0, .ofNat 12)), 3, false)
theorem c_cardsFrom1 (he : cc_env II L xs) : cc II L xs 22 k_cardsFrom1 :=
  cc_ok he (cts := []) (fc := 3000) (f := 3000) (cuts := [(3, [(0, (2, .ofNat 8, .ofNat 8)), (1, (2, .ofNat 43, .ofNat 43)), (2, (0, .ofNat 0, .ofNat 2147483647)), (3, (0, .ofNat 1, .ofNat 12)), (4, (0, .ofNat 0, .ofNat 12))], [(9, 5, .ofNat 0, .ofNat 12), (10, 210, .ofNat 0, .ofNat 29)], [(9, 4, .ofNat 0, .ofNat 6)], [(.negSucc 0, 4)], .ofNat 12, none)]) cc_nil (by decide +kernel)
def k_cardsFrom2 : ct_C := ([(2, .ofNat 8, .ofNat 8), (2, .ofNat 45, .ofNat 45), (0, .ofNat 0, .ofNat 2147483647), (0, .ofNat 1, .ofNat 12)], [(9, 4, .ofNat 0, .ofNat 6), (9, 5, .ofNat 0, .ofNat 12), (10, 210, .ofNat 0, .ofNat 29)], [(9, 5, .ofNat 0, .ofNat 12), (10, 210, .ofNat 0, .ofNat 29)], [10, 11], (some (0, .ofNat 0, .ofNat 12)), 3, false)
theorem c_cardsFrom2 (he : cc_env II L xs) : cc II L xs 22 k_cardsFrom2 :=
  cc_ok he (cts := []) (fc := 3000) (f := 3000) (cuts := [(3, [(0, (2, .ofNat 8, .ofNat 8)), (1, (2, .ofNat 45, .ofNat 45)), (2, (0, .ofNat 0, .ofNat 2147483647)), (3, (0, .ofNat 1, .ofNat 12)), (4, (0, .ofNat 0, .ofNat 12))], [(9, 5, .ofNat 0, .ofNat 12), (10, 210, .ofNat 0, .ofNat 29)], [(9, 4, .ofNat 0, .ofNat 6)], [(.negSucc 0, 4)], .ofNat 12, none)]) cc_nil (by decide +kernel)
def k_cardsFrom3 : ct_C := ([(2, .ofNat 8, .ofNat 8), (2, .ofNat 47, .ofNat 47), (0, .ofNat 0, .ofNat 2147483647), (0, .ofNat 1, .ofNat 12)], [(9, 4, .ofNat 0, .ofNat 6), (9, 5, .ofNat 0, .ofNat 12), (10, 210, .ofNat 0, .ofNat 29)], [(9, 5, .ofNat 0, .ofNat 12), (10, 210, .ofNat 0, .ofNat 29)], [10, 11], (some (0, .ofNat 0, .ofNat 12)), 3, false)
theorem c_cardsFrom3 (he : cc_env II L xs) : cc II L xs 22 k_cardsFrom3 :=
  cc_ok he (cts := []) (fc := 3000) (f := 3000) (cuts := [(3, [(0, (2, .ofNat 8, .ofNat 8)), (1, (2, .ofNat 47, .ofNat 47)), (2, (0, .ofNat 0, .ofNat 2147483647)), (3, (0, .ofNat 1, .ofNat 12)), (4, (0, .ofNat 0, .ofNat 12))], [(9, 5, .ofNat 0, .ofNat 12), (10, 210, .ofNat 0, .ofNat 29)], [(9, 4, .ofNat 0, .ofNat 6)], [(.negSucc 0, 4)], .ofNat 12, none)]) cc_nil (by decide +kernel)
def k_cardsFrom4 : ct_C := ([(2, .ofNat 8, .ofNat 8), (2, .ofNat 49, .ofNat 49), (0, .ofNat 0, .ofNat 2147483647), (0, .ofNat 1, .ofNat 12)], [(9, 4, .ofNat 0, .ofNat 6), (9, 5, .ofNat 0, .ofNat 12), (10, 210, .ofNat 0, .ofNat 29)], [(9, 5, .ofNat 0, .ofNat 12), (10, 210, .ofNat 0, .ofNat 29)], [10, 11], (some (0, .ofNat 0, .ofNat 12)), 3, false)
theorem c_cardsFrom4 (he : cc_env II L xs) : cc II L xs 22 k_cardsFrom4 :=
  cc_ok he (cts := []) (fc := 3000) (f := 3000) (cuts := [(3, [(0, (2, .ofNat 8, .ofNat 8)), (1, (2, .ofNat 49, .ofNat 49)), (2, (0, .ofNat 0, .ofNat 2147483647)), (3, (0, .ofNat 1, .ofNat 12)), (4, (0, .ofNat 0, .ofNat 12))], [(9, 5, .ofNat 0, .ofNat 12), (10, 210, .ofNat 0, .ofNat 29)], [(9, 4, .ofNat 0, .ofNat 6)], [(.negSucc 0, 4)], .ofNat 12, none)]) cc_nil (by decide +kernel)
def k_cardsFrom5 : ct_C := ([(2, .ofNat 8, .ofNat 8), (2, .ofNat 51, .ofNat 51), (0, .ofNat 0, .ofNat 2147483647), (0, .ofNat 1, .ofNat 12)], [(9, 4, .ofNat 0, .ofNat 6), (9, 5, .ofNat 0, .ofNat 12), (10, 210, .ofNat 0, .ofNat 29)], [(9, 5, .ofNat 0, .ofNat 12), (10, 210, .ofNat 0, .ofNat 29)], [10, 11], (some (0, .ofNat 0, .ofNat 12)), 3, false)
theorem c_cardsFrom5 (he : cc_env II L xs) : cc II L xs 22 k_cardsFrom5 :=
  cc_ok he (cts := []) (fc := 3000) (f := 3000) (cuts := [(3, [(0, (2, .ofNat 8, .ofNat 8)), (1, (2, .ofNat 51, .ofNat 51)), (2, (0, .ofNat 0, .ofNat 2147483647)), (3, (0, .ofNat 1, .ofNat 12)), (4, (0, .ofNat 0, .ofNat 12))], [(9, 5, .ofNat 0, .ofNat 12), (10, 210, .ofNat 0, .ofNat 29)], [(9, 4, .ofNat 0, .ofNat 6)], [(.negSucc 0, 4)], .ofNat 12, none)]) cc_nil (by decide +kernel)
def k_cards : ct_C := ([(2, .ofNat 8, .ofNat 8), (0, .negSucc 2147483647, .ofNat 2147483647), (0, .negSucc 2147483647, .ofNat 2147483647), (0, .negSucc 2147483647, .ofNat 2147483647)], [(10, 210, .ofNat 0, .ofNat 29)], [(9, 5, .ofNat 0, .ofNat 12), (10, 210, .ofNat 0, .ofNat 29)], [10, 11], (some (0, .negSucc 11, .ofNat 12)), 4, false)
theorem c_cards (he : cc_env II L xs) : cc II L xs 18 k_cards :=
  cc_ok he (cts := [(22, k_cardsFrom0), (22, k_cardsFrom1), (22, k_cardsFrom2), (22, k_cardsFrom3), (22, k_cardsFrom4), (22, k_cardsFrom5)]) (fc := 3000) (f := 3000) (cuts := []) (cc_cons (c_cardsFrom0 he) (cc_cons (c_cardsFrom1 he) (cc_cons (c_cardsFrom2 he) (cc_cons (c_cardsFrom3 he) (cc_cons (c_cardsFrom4 he) (cc_cons (c_cardsFrom5 he) cc_nil)))))) (by decide +kernel)
def k_of : ct_C := ([(2, .ofNat 8, .ofNat 8), (0, .negSucc 2147483647, .ofNat 2147483647), (0, .negSucc 2147483647, .ofNat 2147483647)], [(10, 210, .ofNat 0, .ofNat 29)], [], [], (some (0, .negSucc 2147483647, .ofNat 2147483647)), 2, false)
theorem c_of (he : cc_env II L xs) : cc II L xs 27 k_of :=
  cc_ok he (cts := []) (fc := 3000) (f := 3000) (cuts := []) cc_nil (by decide +kernel)
def k_feed : ct_C := ([(2, .ofNat 8, .ofNat 8), (0, .negSucc 2147483647, .ofNat 2147483647)], [(14, 6, .ofNat 0, .ofNat 120)], [(14, 6, .ofNat 0, .ofNat 120)], [15], (some (0, .negSucc 2, .ofNat 120)), 2, false)
theorem c_feed (he : cc_env II L xs) : cc II L xs 30 k_feed :=
  cc_ok he (cts := []) (fc := 3000) (f := 3000) (cuts := []) cc_nil (by decide +kernel)
theorem c_takeTape (he : cc_env II L xs) : cc II L xs 33 k_takeTape := he.2.2.1
def k_law : ct_C := ([(2, .ofNat 8, .ofNat 8)], [], [(14, 6, .ofNat 0, .ofNat 0), (14, 7, .ofNat 0, .ofNat 256), (14, 8, .negSucc 2147483647, .ofNat 2147483647), (14, 9, .negSucc 2147483647, .ofNat 2147483647), (14, 10, .negSucc 2147483647, .ofNat 2147483647), (14, 11, .negSucc 2147483647, .ofNat 2147483647), (14, 12, .negSucc 2147483647, .ofNat 2147483647), (14, 13, .negSucc 2147483647, .ofNat 2147483647), (14, 14, .negSucc 2147483647, .ofNat 2147483647), (14, 15, .ofNat 0, .ofNat 1)], [16, 17, 18], (some (0, .negSucc 219, .ofNat 1)), 13, false)
theorem c_law (he : cc_env II L xs) : cc II L xs 32 k_law :=
  cc_ok he (cts := [(33, k_takeTape)]) (fc := 3000) (f := 3000) (cuts := []) (cc_cons (c_takeTape he) cc_nil) (by decide +kernel)
def k_body : ct_C := ([(2, .ofNat 8, .ofNat 8), (0, .negSucc 2147483647, .ofNat 2147483647)], [(37, 2, .ofNat 0, .ofNat 50)], [(37, 2, .ofNat 0, .ofNat 50)], [38], (some (0, .negSucc 2, .ofNat 49)), 2, false)
theorem c_body (he : cc_env II L xs) : cc II L xs 125 k_body :=
  cc_ok he (cts := []) (fc := 3000) (f := 3000) (cuts := []) cc_nil (by decide +kernel)
def k_isUnderX : ct_C := ([(0, .ofNat 0, .ofNat 7), (0, .ofNat 0, .ofNat 7)], [], [], [], (some (0, .ofNat 0, .ofNat 1)), 1, false)
theorem c_isUnderX (he : cc_env II L xs) : cc II L xs 150 k_isUnderX :=
  cc_ok he (cts := []) (fc := 3000) (f := 3000) (cuts := [(4, [(0, (0, .ofNat 0, .ofNat 7)), (1, (0, .ofNat 0, .ofNat 7)), (2, (0, .negSucc 0, .ofNat 7)), (3, (0, .ofNat 0, .ofNat 8))], [], [], [(.ofNat 1, 2)], .ofNat 1, none)]) cc_nil (by decide +kernel)
def k_act : ct_C := ([(2, .ofNat 8, .ofNat 8), (0, .negSucc 2147483647, .ofNat 2147483647), (0, .negSucc 2147483647, .ofNat 2147483647), (0, .negSucc 2147483647, .ofNat 2147483647)], [(37, 2, .ofNat 0, .ofNat 50), (37, 3, .ofNat 0, .ofNat 1000000)], [(37, 3, .ofNat 0, .ofNat 10)], [39], (some (0, .negSucc 2147483647, .ofNat 2147483647)), 17, false)
theorem c_act (he : cc_env II L xs) : cc II L xs 128 k_act :=
  cc_ok he (cts := []) (fc := 3000) (f := 3000) (cuts := []) cc_nil (by decide +kernel)
end
