/-! The reference's parser: product, sum, compared, both, either. -/
section
variable {L : Nat} {xs : Nat → Int32}
theorem pe_product1 : ((List.range 7).all fun e => gs_chk (fun pc => Nat.beq pc 54) (pc_r1 54 (some [42, 47, 37])) 400 400 (6 * e + 5) 180 4 [(0, 2, 0, 53)] [] (pz_t (0, 0))) = true := by decide +kernel
theorem pe_product2 : ((List.range 7).all fun e => gs_chk (fun pc => Nat.beq pc 4) (pc_r2 false (9, 0) (37, 47)) 400 400 (6 * e + 5) 180 57 [(0, 2, 0, 53), (1, 0, 9, 0)] [] (pz_t (37, 47))) = true := by decide +kernel
theorem pe_product (hL : L < 2 ^ 31) {e : Nat} (he : e < 7) {ov : Int} (hS : ps_S L xs 181 (6 * e + 4) ov) : ps_S L xs 180 (6 * e + 5) ov :=
  ps_chA (d := 6 * e + 4) (pc2 := 54) (ret := false) hL rfl rfl rfl rfl rfl (Nat.le_of_ble_eq_true rfl) (List.all_eq_true.mp pe_product1 e (List.mem_range.mpr he)) (List.all_eq_true.mp pe_product2 e (List.mem_range.mpr he)) (by decide) (by decide) hS
theorem pe_sum1 : ((List.range 7).all fun e => gs_chk (fun pc => Nat.beq pc 45) (pc_r1 45 (some [43, 45])) 400 400 (6 * e + 6) 179 4 [(0, 2, 0, 53)] [] (pz_t (0, 0))) = true := by decide +kernel
theorem pe_sum2 : ((List.range 7).all fun e => gs_chk (fun pc => Nat.beq pc 4) (pc_r2 false (9, 0) (43, 45)) 400 400 (6 * e + 6) 179 48 [(0, 2, 0, 53), (1, 0, 9, 0)] [] (pz_t (43, 45))) = true := by decide +kernel
theorem pe_sum (hL : L < 2 ^ 31) {e : Nat} (he : e < 7) {ov : Int} (hS : ps_S L xs 180 (6 * e + 5) ov) : ps_S L xs 179 (6 * e + 6) ov :=
  ps_chA (d := 6 * e + 5) (pc2 := 45) (ret := false) hL rfl rfl rfl rfl rfl (Nat.le_of_ble_eq_true rfl) (List.all_eq_true.mp pe_sum1 e (List.mem_range.mpr he)) (List.all_eq_true.mp pe_sum2 e (List.mem_range.mpr he)) (by decide) (by decide) hS
theorem pe_compared1 : ((List.range 7).all fun e => gs_chk (fun pc => Nat.beq pc 46) (pc_r1 46 (some [60, 61, 62])) 400 400 (6 * e + 7) 178 4 [(0, 2, 0, 53)] [] (pz_t (0, 0))) = true := by decide +kernel
theorem pe_compared2 : ((List.range 7).all fun e => gs_chk (fun pc => Nat.beq pc 4) (pc_r2 true (9, 0) (60, 62)) 400 400 (6 * e + 7) 178 49 [(0, 2, 0, 53), (1, 0, 9, 0)] [] (pz_t (60, 62))) = true := by decide +kernel
theorem pe_compared (hL : L < 2 ^ 31) {e : Nat} (he : e < 7) {ov : Int} (hS : ps_S L xs 179 (6 * e + 6) ov) : ps_S L xs 178 (6 * e + 7) ov :=
  ps_chA (d := 6 * e + 6) (pc2 := 46) (ret := true) hL rfl rfl rfl rfl rfl (Nat.le_of_ble_eq_true rfl) (List.all_eq_true.mp pe_compared1 e (List.mem_range.mpr he)) (List.all_eq_true.mp pe_compared2 e (List.mem_range.mpr he)) (by decide) (by decide) hS
theorem pe_both1 : ((List.range 7).all fun e => gs_chk (fun pc => Nat.beq pc 31) (pc_r1 31 none) 400 400 (6 * e + 8) 177 4 [(0, 2, 0, 53)] [] (pz_t (0, 0))) = true := by decide +kernel
theorem pe_both2 : ((List.range 7).all fun e => gs_chk (fun pc => Nat.beq pc 4) (pc_r2 false (0, 38) (0, 0)) 400 400 (6 * e + 8) 177 34 [(0, 2, 0, 53)] [] (pz_t (0, 0))) = true := by decide +kernel
theorem pe_both (hL : L < 2 ^ 31) {e : Nat} (he : e < 7) {ov : Int} (hS : ps_S L xs 178 (6 * e + 7) ov) : ps_S L xs 177 (6 * e + 8) ov :=
  ps_chB (d := 6 * e + 7) (pc2 := 31) (ret := false) hL rfl rfl rfl rfl rfl (Nat.le_of_ble_eq_true rfl) (List.all_eq_true.mp pe_both1 e (List.mem_range.mpr he)) (List.all_eq_true.mp pe_both2 e (List.mem_range.mpr he)) (by decide) rfl hS
theorem pe_either1 : ((List.range 7).all fun e => gs_chk (fun pc => Nat.beq pc 31) (pc_r1 31 none) 400 400 (6 * e + 9) 176 4 [(0, 2, 0, 53)] [] (pz_t (0, 0))) = true := by decide +kernel
theorem pe_either2 : ((List.range 7).all fun e => gs_chk (fun pc => Nat.beq pc 4) (pc_r2 false (0, 124) (0, 0)) 400 400 (6 * e + 9) 176 34 [(0, 2, 0, 53)] [] (pz_t (0, 0))) = true := by decide +kernel
theorem pe_either (hL : L < 2 ^ 31) {e : Nat} (he : e < 7) {ov : Int} (hS : ps_S L xs 177 (6 * e + 8) ov) : ps_S L xs 176 (6 * e + 9) ov :=
  ps_chB (d := 6 * e + 8) (pc2 := 31) (ret := false) hL rfl rfl rfl rfl rfl (Nat.le_of_ble_eq_true rfl) (List.all_eq_true.mp pe_either1 e (List.mem_range.mpr he)) (List.all_eq_true.mp pe_either2 e (List.mem_range.mpr he)) (by decide) rfl hS
end
