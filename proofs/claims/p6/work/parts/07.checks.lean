/-! The checks, by the kernel. -/
theorem fK1 : Jvm.Cond.code (sm_MN 1) (sm_MB 1) (sm_MT 1).2.1 (sm_rt (sm_MT 1).2.2.1) ∈ sm_T0 := sm_code_T (k := 1) (i := 19) (y := ⟨"AskedFire", "<init>", "()V"⟩) (b := prog_1_method_1_code) (ml := 2) (r := none) rfl
set_option maxRecDepth 100000 in
theorem fC1 : sm_okM sm_MT sm_MN sm_MB sm_CN sm_T0 1 := sm_chkM_ok fK1 (by decide +kernel) (sm_chkF_ok (N := 145) (fun pc v h => by
  have h : fI1 pc = some v := h
  unfold fI1 at h
  exact Nat.le_of_ble_eq_true (sm_bif h).1) (by decide +kernel))
theorem fK2 : Jvm.Cond.code (sm_MN 2) (sm_MB 2) (sm_MT 2).2.1 (sm_rt (sm_MT 2).2.2.1) ∈ sm_T0 := sm_code_T (k := 1) (i := 27) (y := ⟨"AskedFire$Club", "<init>", "()V"⟩) (b := prog_3_method_1_code) (ml := 2) (r := none) rfl
set_option maxRecDepth 100000 in
theorem fC2 : sm_okM sm_MT sm_MN sm_MB sm_CN sm_T0 2 := sm_chkM_ok fK2 (by decide +kernel) (sm_chkF_ok (N := 62) (fun pc v h => by
  have h : fI2 pc = some v := h
  unfold fI2 at h
  exact Nat.le_of_ble_eq_true (sm_bif h).1) (by decide +kernel))
theorem fK3 : Jvm.Cond.code (sm_MN 3) (sm_MB 3) (sm_MT 3).2.1 (sm_rt (sm_MT 3).2.2.1) ∈ sm_T0 := sm_code_T (k := 1) (i := 83) (y := ⟨"AskedFire$Law", "<init>", "()V"⟩) (b := prog_7_method_1_code) (ml := 1) (r := none) rfl
set_option maxRecDepth 100000 in
theorem fC3 : sm_okM sm_MT sm_MN sm_MB sm_CN sm_T0 3 := sm_chkM_ok fK3 (by decide +kernel) (sm_chkF_ok (N := 57) (fun pc v h => by
  have h : fI3 pc = some v := h
  unfold fI3 at h
  exact Nat.le_of_ble_eq_true (sm_bif h).1) (by decide +kernel))
theorem fK4 : Jvm.Cond.code (sm_MN 4) (sm_MB 4) (sm_MT 4).2.1 (sm_rt (sm_MT 4).2.2.1) ∈ sm_T0 := sm_code_T (k := 1) (i := 139) (y := ⟨"AskedFire$Thought", "<init>", "(LAskedFire$Club;LAskedFire$Law;)V"⟩) (b := prog_10_method_1_code) (ml := 3) (r := none) rfl
set_option maxRecDepth 100000 in
theorem fC4 : sm_okM sm_MT sm_MN sm_MB sm_CN sm_T0 4 := sm_chkM_ok fK4 (by decide +kernel) (sm_chkF_ok (N := 39) (fun pc v h => by
  have h : fI4 pc = some v := h
  unfold fI4 at h
  exact Nat.le_of_ble_eq_true (sm_bif h).1) (by decide +kernel))
theorem fK5 : Jvm.Cond.code (sm_MN 5) (sm_MB 5) (sm_MT 5).2.1 (sm_rt (sm_MT 5).2.2.1) ∈ sm_T0 := sm_code_T (k := 1) (i := 179) (y := ⟨"AskedFire$Planner", "<init>", "(LAskedFire$Club;)V"⟩) (b := prog_8_method_1_code) (ml := 2) (r := none) rfl
set_option maxRecDepth 100000 in
theorem fC5 : sm_okM sm_MT sm_MN sm_MB sm_CN sm_T0 5 := sm_chkM_ok fK5 (by decide +kernel) (sm_chkF_ok (N := 32) (fun pc v h => by
  have h : fI5 pc = some v := h
  unfold fI5 at h
  exact Nat.le_of_ble_eq_true (sm_bif h).1) (by decide +kernel))
theorem fK6 : Jvm.Cond.code (sm_MN 6) (sm_MB 6) (sm_MT 6).2.1 (sm_rt (sm_MT 6).2.2.1) ∈ sm_T0 := sm_code_T (k := 1) (i := 214) (y := ⟨"AskedFire$Engine", "<init>", "(LAskedFire$Club;)V"⟩) (b := prog_4_method_1_code) (ml := 2) (r := none) rfl
set_option maxRecDepth 100000 in
theorem fC6 : sm_okM sm_MT sm_MN sm_MB sm_CN sm_T0 6 := sm_chkM_ok fK6 (by decide +kernel) (sm_chkF_ok (N := 26) (fun pc v h => by
  have h : fI6 pc = some v := h
  unfold fI6 at h
  exact Nat.le_of_ble_eq_true (sm_bif h).1) (by decide +kernel))
theorem fK7 : Jvm.Cond.code (sm_MN 7) (sm_MB 7) (sm_MT 7).2.1 (sm_rt (sm_MT 7).2.2.1) ∈ sm_T0 := sm_code_T (k := 2) (i := 3) (y := ⟨"AskedFire$Changes", "<init>", "()V"⟩) (b := prog_2_method_1_code) (ml := 1) (r := none) rfl
set_option maxRecDepth 100000 in
theorem fC7 : sm_okM sm_MT sm_MN sm_MB sm_CN sm_T0 7 := sm_chkM_ok fK7 (by decide +kernel) (sm_chkF_ok (N := 14) (fun pc v h => by
  have h : fI7 pc = some v := h
  unfold fI7 at h
  exact Nat.le_of_ble_eq_true (sm_bif h).1) (by decide +kernel))
theorem fK8 : Jvm.Cond.code (sm_MN 8) (sm_MB 8) (sm_MT 8).2.1 (sm_rt (sm_MT 8).2.2.1) ∈ sm_T0 := sm_code_T (k := 2) (i := 21) (y := ⟨"AskedFire$Image", "<init>", "()V"⟩) (b := prog_6_method_1_code) (ml := 1) (r := none) rfl
set_option maxRecDepth 100000 in
theorem fC8 : sm_okM sm_MT sm_MN sm_MB sm_CN sm_T0 8 := sm_chkM_ok fK8 (by decide +kernel) (sm_chkF_ok (N := 20) (fun pc v h => by
  have h : fI8 pc = some v := h
  unfold fI8 at h
  exact Nat.le_of_ble_eq_true (sm_bif h).1) (by decide +kernel))
theorem fK9 : Jvm.Cond.code (sm_MN 9) (sm_MB 9) (sm_MT 9).2.1 (sm_rt (sm_MT 9).2.2.1) ∈ sm_T0 := sm_code_T (k := 2) (i := 53) (y := ⟨"AskedFire$Gentlemen", "<init>", "()V"⟩) (b := prog_5_method_1_code) (ml := 1) (r := none) rfl
set_option maxRecDepth 100000 in
theorem fC9 : sm_okM sm_MT sm_MN sm_MB sm_CN sm_T0 9 := sm_chkM_ok fK9 (by decide +kernel) (sm_chkF_ok (N := 21) (fun pc v h => by
  have h : fI9 pc = some v := h
  unfold fI9 at h
  exact Nat.le_of_ble_eq_true (sm_bif h).1) (by decide +kernel))
theorem fK10 : Jvm.Cond.code (sm_MN 10) (sm_MB 10) (sm_MT 10).2.1 (sm_rt (sm_MT 10).2.2.1) ∈ sm_T0 := sm_code_T (k := 2) (i := 77) (y := ⟨"AskedFire$Shelf", "<init>", "()V"⟩) (b := prog_9_method_1_code) (ml := 1) (r := none) rfl
set_option maxRecDepth 100000 in
theorem fC10 : sm_okM sm_MT sm_MN sm_MB sm_CN sm_T0 10 := sm_chkM_ok fK10 (by decide +kernel) (sm_chkF_ok (N := 23) (fun pc v h => by
  have h : fI10 pc = some v := h
  unfold fI10 at h
  exact Nat.le_of_ble_eq_true (sm_bif h).1) (by decide +kernel))
theorem fK11 : Jvm.Cond.code (sm_MN 11) (sm_MB 11) (sm_MT 11).2.1 (sm_rt (sm_MT 11).2.2.1) ∈ sm_T0 := sm_code_T (k := 2) (i := 129) (y := ⟨"AskedFire", "house", "(I)I"⟩) (b := prog_1_method_2_code) (ml := 2) (r := (some .int)) rfl
set_option maxRecDepth 100000 in
theorem fC11 : sm_okM sm_MT sm_MN sm_MB sm_CN sm_T0 11 := sm_chkM_ok fK11 (by decide +kernel) (sm_chkF_ok (N := 19) (fun pc v h => by
  have h : fI11 pc = some v := h
  unfold fI11 at h
  exact Nat.le_of_ble_eq_true (sm_bif h).1) (by decide +kernel))
theorem fK12 : Jvm.Cond.code (sm_MN 12) (sm_MB 12) (sm_MT 12).2.1 (sm_rt (sm_MT 12).2.2.1) ∈ sm_T0 := sm_code_T (k := 2) (i := 132) (y := ⟨"AskedFire", "isValue", "(II)Z"⟩) (b := prog_1_method_55_code) (ml := 2) (r := (some .boolean)) rfl
set_option maxRecDepth 100000 in
theorem fC12 : sm_okM sm_MT sm_MN sm_MB sm_CN sm_T0 12 := sm_chkM_ok fK12 (by decide +kernel) (sm_chkF_ok (N := 34) (fun pc v h => by
  have h : fI12 pc = some v := h
  unfold fI12 at h
  exact Nat.le_of_ble_eq_true (sm_bif h).1) (by decide +kernel))
theorem fK13 : Jvm.Cond.code (sm_MN 13) (sm_MB 13) (sm_MT 13).2.1 (sm_rt (sm_MT 13).2.2.1) ∈ sm_T0 := sm_code_T (k := 2) (i := 140) (y := ⟨"AskedFire$Club", "addHouse", "(I)I"⟩) (b := prog_3_method_10_code) (ml := 2) (r := (some .int)) rfl
set_option maxRecDepth 100000 in
theorem fC13 : sm_okM sm_MT sm_MN sm_MB sm_CN sm_T0 13 := sm_chkM_ok fK13 (by decide +kernel) (sm_chkF_ok (N := 89) (fun pc v h => by
  have h : fI13 pc = some v := h
  unfold fI13 at h
  exact Nat.le_of_ble_eq_true (sm_bif h).1) (by decide +kernel))
theorem fK14 : Jvm.Cond.code (sm_MN 14) (sm_MB 14) (sm_MT 14).2.1 (sm_rt (sm_MT 14).2.2.1) ∈ sm_T0 := sm_code_T (k := 2) (i := 144) (y := ⟨"AskedFire$Club", "set", "(III)V"⟩) (b := prog_3_method_3_code) (ml := 4) (r := none) rfl
set_option maxRecDepth 100000 in
theorem fC14 : sm_okM sm_MT sm_MN sm_MB sm_CN sm_T0 14 := sm_chkM_ok fK14 (by decide +kernel) (sm_chkF_ok (N := 13) (fun pc v h => by
  have h : fI14 pc = some v := h
  unfold fI14 at h
  exact Nat.le_of_ble_eq_true (sm_bif h).1) (by decide +kernel))
theorem fK15 : Jvm.Cond.code (sm_MN 15) (sm_MB 15) (sm_MT 15).2.1 (sm_rt (sm_MT 15).2.2.1) ∈ sm_T0 := sm_code_T (k := 2) (i := 148) (y := ⟨"AskedFire", "card", "(II)I"⟩) (b := prog_1_method_3_code) (ml := 3) (r := (some .int)) rfl
set_option maxRecDepth 100000 in
theorem fC15 : sm_okM sm_MT sm_MN sm_MB sm_CN sm_T0 15 := sm_chkM_ok fK15 (by decide +kernel) (sm_chkF_ok (N := 32) (fun pc v h => by
  have h : fI15 pc = some v := h
  unfold fI15 at h
  exact Nat.le_of_ble_eq_true (sm_bif h).1) (by decide +kernel))
theorem fK16 : Jvm.Cond.code (sm_MN 16) (sm_MB 16) (sm_MT 16).2.1 (sm_rt (sm_MT 16).2.2.1) ∈ sm_T0 := sm_code_T (k := 2) (i := 152) (y := ⟨"AskedFire$Club", "isHouse", "(I)Z"⟩) (b := prog_3_method_5_code) (ml := 2) (r := (some .boolean)) rfl
set_option maxRecDepth 100000 in
theorem fC16 : sm_okM sm_MT sm_MN sm_MB sm_CN sm_T0 16 := sm_chkM_ok fK16 (by decide +kernel) (sm_chkF_ok (N := 18) (fun pc v h => by
  have h : fI16 pc = some v := h
  unfold fI16 at h
  exact Nat.le_of_ble_eq_true (sm_bif h).1) (by decide +kernel))
theorem fK17 : Jvm.Cond.code (sm_MN 17) (sm_MB 17) (sm_MT 17).2.1 (sm_rt (sm_MT 17).2.2.1) ∈ sm_T0 := sm_code_T (k := 2) (i := 156) (y := ⟨"AskedFire$Club", "addCard", "(II)I"⟩) (b := prog_3_method_11_code) (ml := 3) (r := (some .int)) rfl
set_option maxRecDepth 100000 in
theorem fC17 : sm_okM sm_MT sm_MN sm_MB sm_CN sm_T0 17 := sm_chkM_ok fK17 (by decide +kernel) (sm_chkF_ok (N := 45) (fun pc v h => by
  have h : fI17 pc = some v := h
  unfold fI17 at h
  exact Nat.le_of_ble_eq_true (sm_bif h).1) (by decide +kernel))
theorem fK18 : Jvm.Cond.code (sm_MN 18) (sm_MB 18) (sm_MT 18).2.1 (sm_rt (sm_MT 18).2.2.1) ∈ sm_T0 := sm_code_T (k := 2) (i := 160) (y := ⟨"AskedFire", "cards", "(III)I"⟩) (b := prog_1_method_4_code) (ml := 5) (r := (some .int)) rfl
set_option maxRecDepth 100000 in
theorem fC18 : sm_okM sm_MT sm_MN sm_MB sm_CN sm_T0 18 := sm_chkM_ok fK18 (by decide +kernel) (sm_chkF_ok (N := 66) (fun pc v h => by
  have h : fI18 pc = some v := h
  unfold fI18 at h
  exact Nat.le_of_ble_eq_true (sm_bif h).1) (by decide +kernel))
theorem fK19 : Jvm.Cond.code (sm_MN 19) (sm_MB 19) (sm_MT 19).2.1 (sm_rt (sm_MT 19).2.2.1) ∈ sm_T0 := sm_code_T (k := 2) (i := 163) (y := ⟨"AskedFire", "isShelf", "(I)Z"⟩) (b := prog_1_method_53_code) (ml := 1) (r := (some .boolean)) rfl
set_option maxRecDepth 100000 in
theorem fC19 : sm_okM sm_MT sm_MN sm_MB sm_CN sm_T0 19 := sm_chkM_ok fK19 (by decide +kernel) (sm_chkF_ok (N := 16) (fun pc v h => by
  have h : fI19 pc = some v := h
  unfold fI19 at h
  exact Nat.le_of_ble_eq_true (sm_bif h).1) (by decide +kernel))
theorem fK20 : Jvm.Cond.code (sm_MN 20) (sm_MB 20) (sm_MT 20).2.1 (sm_rt (sm_MT 20).2.2.1) ∈ sm_T0 := sm_code_T (k := 2) (i := 167) (y := ⟨"AskedFire$Shelf", "isEmpty", "()Z"⟩) (b := prog_9_method_2_code) (ml := 1) (r := (some .boolean)) rfl
set_option maxRecDepth 100000 in
theorem fC20 : sm_okM sm_MT sm_MN sm_MB sm_CN sm_T0 20 := sm_chkM_ok fK20 (by decide +kernel) (sm_chkF_ok (N := 22) (fun pc v h => by
  have h : fI20 pc = some v := h
  unfold fI20 at h
  exact Nat.le_of_ble_eq_true (sm_bif h).1) (by decide +kernel))
theorem fK21 : Jvm.Cond.code (sm_MN 21) (sm_MB 21) (sm_MT 21).2.1 (sm_rt (sm_MT 21).2.2.1) ∈ sm_T0 := sm_code_T (k := 2) (i := 171) (y := ⟨"AskedFire$Shelf", "holdsBytes", "()Z"⟩) (b := prog_9_method_4_code) (ml := 1) (r := (some .boolean)) rfl
set_option maxRecDepth 100000 in
theorem fC21 : sm_okM sm_MT sm_MN sm_MB sm_CN sm_T0 21 := sm_chkM_ok fK21 (by decide +kernel) (sm_chkF_ok (N := 13) (fun pc v h => by
  have h : fI21 pc = some v := h
  unfold fI21 at h
  exact Nat.le_of_ble_eq_true (sm_bif h).1) (by decide +kernel))
theorem fK22 : Jvm.Cond.code (sm_MN 22) (sm_MB 22) (sm_MT 22).2.1 (sm_rt (sm_MT 22).2.2.1) ∈ sm_T0 := sm_code_T (k := 2) (i := 175) (y := ⟨"AskedFire", "cardsFrom", "(LAskedFire$Shelf;II)I"⟩) (b := prog_1_method_5_code) (ml := 7) (r := (some .int)) rfl
set_option maxRecDepth 100000 in
theorem fC22 : sm_okM sm_MT sm_MN sm_MB sm_CN sm_T0 22 := sm_chkM_ok fK22 (by decide +kernel) (sm_chkF_ok (N := 90) (fun pc v h => by
  have h : fI22 pc = some v := h
  unfold fI22 at h
  exact Nat.le_of_ble_eq_true (sm_bif h).1) (by decide +kernel))
theorem fK23 : Jvm.Cond.code (sm_MN 23) (sm_MB 23) (sm_MT 23).2.1 (sm_rt (sm_MT 23).2.2.1) ∈ sm_T0 := sm_code_T (k := 2) (i := 179) (y := ⟨"AskedFire", "mend", "(III)I"⟩) (b := prog_1_method_6_code) (ml := 5) (r := (some .int)) rfl
set_option maxRecDepth 100000 in
theorem fC23 : sm_okM sm_MT sm_MN sm_MB sm_CN sm_T0 23 := sm_chkM_ok fK23 (by decide +kernel) (sm_chkF_ok (N := 65) (fun pc v h => by
  have h : fI23 pc = some v := h
  unfold fI23 at h
  exact Nat.le_of_ble_eq_true (sm_bif h).1) (by decide +kernel))
theorem fK24 : Jvm.Cond.code (sm_MN 24) (sm_MB 24) (sm_MT 24).2.1 (sm_rt (sm_MT 24).2.2.1) ∈ sm_T0 := sm_code_T (k := 2) (i := 183) (y := ⟨"AskedFire$Club", "isNumber", "(II)Z"⟩) (b := prog_3_method_9_code) (ml := 3) (r := (some .boolean)) rfl
set_option maxRecDepth 100000 in
theorem fC24 : sm_okM sm_MT sm_MN sm_MB sm_CN sm_T0 24 := sm_chkM_ok fK24 (by decide +kernel) (sm_chkF_ok (N := 76) (fun pc v h => by
  have h : fI24 pc = some v := h
  unfold fI24 at h
  exact Nat.le_of_ble_eq_true (sm_bif h).1) (by decide +kernel))
theorem fK25 : Jvm.Cond.code (sm_MN 25) (sm_MB 25) (sm_MT 25).2.1 (sm_rt (sm_MT 25).2.2.1) ∈ sm_T0 := sm_code_T (k := 2) (i := 188) (y := ⟨"AskedFire$Club", "get", "(II)I"⟩) (b := prog_3_method_2_code) (ml := 3) (r := (some .int)) rfl
set_option maxRecDepth 100000 in
theorem fC25 : sm_okM sm_MT sm_MN sm_MB sm_CN sm_T0 25 := sm_chkM_ok fK25 (by decide +kernel) (sm_chkF_ok (N := 12) (fun pc v h => by
  have h : fI25 pc = some v := h
  unfold fI25 at h
  exact Nat.le_of_ble_eq_true (sm_bif h).1) (by decide +kernel))
theorem fK26 : Jvm.Cond.code (sm_MN 26) (sm_MB 26) (sm_MT 26).2.1 (sm_rt (sm_MT 26).2.2.1) ∈ sm_T0 := sm_code_T (k := 2) (i := 192) (y := ⟨"AskedFire$Changes", "add", "(IIII)V"⟩) (b := prog_2_method_2_code) (ml := 6) (r := none) rfl
set_option maxRecDepth 100000 in
theorem fC26 : sm_okM sm_MT sm_MN sm_MB sm_CN sm_T0 26 := sm_chkM_ok fK26 (by decide +kernel) (sm_chkF_ok (N := 97) (fun pc v h => by
  have h : fI26 pc = some v := h
  unfold fI26 at h
  exact Nat.le_of_ble_eq_true (sm_bif h).1) (by decide +kernel))
theorem fK27 : Jvm.Cond.code (sm_MN 27) (sm_MB 27) (sm_MT 27).2.1 (sm_rt (sm_MT 27).2.2.1) ∈ sm_T0 := sm_code_T (k := 2) (i := 200) (y := ⟨"AskedFire", "of", "(II)I"⟩) (b := prog_1_method_7_code) (ml := 3) (r := (some .int)) rfl
set_option maxRecDepth 100000 in
theorem fC27 : sm_okM sm_MT sm_MN sm_MB sm_CN sm_T0 27 := sm_chkM_ok fK27 (by decide +kernel) (sm_chkF_ok (N := 127) (fun pc v h => by
  have h : fI27 pc = some v := h
  unfold fI27 at h
  exact Nat.le_of_ble_eq_true (sm_bif h).1) (by decide +kernel))
theorem fK28 : Jvm.Cond.code (sm_MN 28) (sm_MB 28) (sm_MT 28).2.1 (sm_rt (sm_MT 28).2.2.1) ∈ sm_T0 := sm_code_T (k := 2) (i := 203) (y := ⟨"AskedFire", "bit", "(II)I"⟩) (b := prog_1_method_56_code) (ml := 2) (r := (some .int)) rfl
set_option maxRecDepth 100000 in
theorem fC28 : sm_okM sm_MT sm_MN sm_MB sm_CN sm_T0 28 := sm_chkM_ok fK28 (by decide +kernel) (sm_chkF_ok (N := 6) (fun pc v h => by
  have h : fI28 pc = some v := h
  unfold fI28 at h
  exact Nat.le_of_ble_eq_true (sm_bif h).1) (by decide +kernel))
theorem fK29 : Jvm.Cond.code (sm_MN 29) (sm_MB 29) (sm_MT 29).2.1 (sm_rt (sm_MT 29).2.2.1) ∈ sm_T0 := sm_code_T (k := 2) (i := 207) (y := ⟨"AskedFire$Club", "isCard", "(I)Z"⟩) (b := prog_3_method_6_code) (ml := 2) (r := (some .boolean)) rfl
set_option maxRecDepth 100000 in
theorem fC29 : sm_okM sm_MT sm_MN sm_MB sm_CN sm_T0 29 := sm_chkM_ok fK29 (by decide +kernel) (sm_chkF_ok (N := 18) (fun pc v h => by
  have h : fI29 pc = some v := h
  unfold fI29 at h
  exact Nat.le_of_ble_eq_true (sm_bif h).1) (by decide +kernel))
theorem fK30 : Jvm.Cond.code (sm_MN 30) (sm_MB 30) (sm_MT 30).2.1 (sm_rt (sm_MT 30).2.2.1) ∈ sm_T0 := sm_code_T (k := 2) (i := 211) (y := ⟨"AskedFire", "feed", "(I)I"⟩) (b := prog_1_method_8_code) (ml := 2) (r := (some .int)) rfl
set_option maxRecDepth 100000 in
theorem fC30 : sm_okM sm_MT sm_MN sm_MB sm_CN sm_T0 30 := sm_chkM_ok fK30 (by decide +kernel) (sm_chkF_ok (N := 37) (fun pc v h => by
  have h : fI30 pc = some v := h
  unfold fI30 at h
  exact Nat.le_of_ble_eq_true (sm_bif h).1) (by decide +kernel))
theorem fK31 : Jvm.Cond.code (sm_MN 31) (sm_MB 31) (sm_MT 31).2.1 (sm_rt (sm_MT 31).2.2.1) ∈ sm_T0 := sm_code_T (k := 2) (i := 215) (y := ⟨"AskedFire$Law", "takeByte", "(I)Z"⟩) (b := prog_7_method_2_code) (ml := 2) (r := (some .boolean)) rfl
set_option maxRecDepth 100000 in
theorem fC31 : sm_okM sm_MT sm_MN sm_MB sm_CN sm_T0 31 := sm_chkM_ok fK31 (by decide +kernel) (sm_chkF_ok (N := 33) (fun pc v h => by
  have h : fI31 pc = some v := h
  unfold fI31 at h
  exact Nat.le_of_ble_eq_true (sm_bif h).1) (by decide +kernel))
theorem fK32 : Jvm.Cond.code (sm_MN 32) (sm_MB 32) (sm_MT 32).2.1 (sm_rt (sm_MT 32).2.2.1) ∈ sm_T0 := sm_code_T (k := 2) (i := 219) (y := ⟨"AskedFire", "law", "()I"⟩) (b := prog_1_method_9_code) (ml := 2) (r := (some .int)) rfl
set_option maxRecDepth 100000 in
theorem fC32 : sm_okM sm_MT sm_MN sm_MB sm_CN sm_T0 32 := sm_chkM_ok fK32 (by decide +kernel) (sm_chkF_ok (N := 21) (fun pc v h => by
  have h : fI32 pc = some v := h
  unfold fI32 at h
  exact Nat.le_of_ble_eq_true (sm_bif h).1) (by decide +kernel))
theorem fK33 : Jvm.Cond.code (sm_MN 33) (sm_MB 33) (sm_MT 33).2.1 (sm_rt (sm_MT 33).2.2.1) ∈ sm_T0 := sm_code_T (k := 2) (i := 223) (y := ⟨"AskedFire$Law", "takeTape", "()I"⟩) (b := prog_7_method_3_code) (ml := 3) (r := (some .int)) rfl
set_option maxRecDepth 100000 in
theorem fC33 : sm_okM sm_MT sm_MN sm_MB sm_CN sm_T0 33 := sm_chkM_ok fK33 (by decide +kernel) (sm_chkF_ok (N := 88) (fun pc v h => by
  have h : fI33 pc = some v := h
  unfold fI33 at h
  exact Nat.le_of_ble_eq_true (sm_bif h).1) (by decide +kernel))
theorem fK34 : Jvm.Cond.code (sm_MN 34) (sm_MB 34) (sm_MT 34).2.1 (sm_rt (sm_MT 34).2.2.1) ∈ sm_T0 := sm_code_T (k := 2) (i := 227) (y := ⟨"AskedFire$Law", "startDraft", "()V"⟩) (b := prog_7_method_4_code) (ml := 1) (r := none) rfl
set_option maxRecDepth 100000 in
theorem fC34 : sm_okM sm_MT sm_MN sm_MB sm_CN sm_T0 34 := sm_chkM_ok fK34 (by decide +kernel) (sm_chkF_ok (N := 36) (fun pc v h => by
  have h : fI34 pc = some v := h
  unfold fI34 at h
  exact Nat.le_of_ble_eq_true (sm_bif h).1) (by decide +kernel))
theorem fK35 : Jvm.Cond.code (sm_MN 35) (sm_MB 35) (sm_MT 35).2.1 (sm_rt (sm_MT 35).2.2.1) ∈ sm_T0 := sm_code_T (k := 2) (i := 231) (y := ⟨"AskedFire$Law", "goesOn", "(I)Z"⟩) (b := prog_7_method_5_code) (ml := 2) (r := (some .boolean)) rfl
set_option maxRecDepth 100000 in
theorem fC35 : sm_okM sm_MT sm_MN sm_MB sm_CN sm_T0 35 := sm_chkM_ok fK35 (by decide +kernel) (sm_chkF_ok (N := 89) (fun pc v h => by
  have h : fI35 pc = some v := h
  unfold fI35 at h
  exact Nat.le_of_ble_eq_true (sm_bif h).1) (by decide +kernel))
theorem fK36 : Jvm.Cond.code (sm_MN 36) (sm_MB 36) (sm_MT 36).2.1 (sm_rt (sm_MT 36).2.2.1) ∈ sm_T0 := sm_code_T (k := 2) (i := 235) (y := ⟨"AskedFire$Law", "operandGoesOn", "(I)Z"⟩) (b := prog_7_method_6_code) (ml := 2) (r := (some .boolean)) rfl
set_option maxRecDepth 100000 in
theorem fC36 : sm_okM sm_MT sm_MN sm_MB sm_CN sm_T0 36 := sm_chkM_ok fK36 (by decide +kernel) (sm_chkF_ok (N := 97) (fun pc v h => by
  have h : fI36 pc = some v := h
  unfold fI36 at h
  exact Nat.le_of_ble_eq_true (sm_bif h).1) (by decide +kernel))
theorem fK37 : Jvm.Cond.code (sm_MN 37) (sm_MB 37) (sm_MT 37).2.1 (sm_rt (sm_MT 37).2.2.1) ∈ sm_T0 := sm_code_T (k := 2) (i := 239) (y := ⟨"AskedFire$Law", "opens", "(I)Z"⟩) (b := prog_7_method_7_code) (ml := 2) (r := (some .boolean)) rfl
set_option maxRecDepth 100000 in
theorem fC37 : sm_okM sm_MT sm_MN sm_MB sm_CN sm_T0 37 := sm_chkM_ok fK37 (by decide +kernel) (sm_chkF_ok (N := 44) (fun pc v h => by
  have h : fI37 pc = some v := h
  unfold fI37 at h
  exact Nat.le_of_ble_eq_true (sm_bif h).1) (by decide +kernel))
theorem fK38 : Jvm.Cond.code (sm_MN 38) (sm_MB 38) (sm_MT 38).2.1 (sm_rt (sm_MT 38).2.2.1) ∈ sm_T0 := sm_code_T (k := 3) (i := 3) (y := ⟨"AskedFire$Law", "push", "(I)V"⟩) (b := prog_7_method_16_code) (ml := 2) (r := none) rfl
set_option maxRecDepth 100000 in
theorem fC38 : sm_okM sm_MT sm_MN sm_MB sm_CN sm_T0 38 := sm_chkM_ok fK38 (by decide +kernel) (sm_chkF_ok (N := 31) (fun pc v h => by
  have h : fI38 pc = some v := h
  unfold fI38 at h
  exact Nat.le_of_ble_eq_true (sm_bif h).1) (by decide +kernel))
theorem fK39 : Jvm.Cond.code (sm_MN 39) (sm_MB 39) (sm_MT 39).2.1 (sm_rt (sm_MT 39).2.2.1) ∈ sm_T0 := sm_code_T (k := 3) (i := 6) (y := ⟨"AskedFire$Law", "isDigit", "(I)Z"⟩) (b := prog_7_method_18_code) (ml := 1) (r := (some .boolean)) rfl
set_option maxRecDepth 100000 in
theorem fC39 : sm_okM sm_MT sm_MN sm_MB sm_CN sm_T0 39 := sm_chkM_ok fK39 (by decide +kernel) (sm_chkF_ok (N := 18) (fun pc v h => by
  have h : fI39 pc = some v := h
  unfold fI39 at h
  exact Nat.le_of_ble_eq_true (sm_bif h).1) (by decide +kernel))
theorem fK40 : Jvm.Cond.code (sm_MN 40) (sm_MB 40) (sm_MT 40).2.1 (sm_rt (sm_MT 40).2.2.1) ∈ sm_T0 := sm_code_T (k := 3) (i := 10) (y := ⟨"AskedFire$Law", "emit", "(I)V"⟩) (b := prog_7_method_17_code) (ml := 2) (r := none) rfl
set_option maxRecDepth 100000 in
theorem fC40 : sm_okM sm_MT sm_MN sm_MB sm_CN sm_T0 40 := sm_chkM_ok fK40 (by decide +kernel) (sm_chkF_ok (N := 31) (fun pc v h => by
  have h : fI40 pc = some v := h
  unfold fI40 at h
  exact Nat.le_of_ble_eq_true (sm_bif h).1) (by decide +kernel))
theorem fK41 : Jvm.Cond.code (sm_MN 41) (sm_MB 41) (sm_MT 41).2.1 (sm_rt (sm_MT 41).2.2.1) ∈ sm_T0 := sm_code_T (k := 3) (i := 13) (y := ⟨"AskedFire$Law", "nameOf", "(I)I"⟩) (b := prog_7_method_19_code) (ml := 1) (r := (some .int)) rfl
set_option maxRecDepth 100000 in
theorem fC41 : sm_okM sm_MT sm_MN sm_MB sm_CN sm_T0 41 := sm_chkM_ok fK41 (by decide +kernel) (sm_chkF_ok (N := 94) (fun pc v h => by
  have h : fI41 pc = some v := h
  unfold fI41 at h
  exact Nat.le_of_ble_eq_true (sm_bif h).1) (by decide +kernel))
theorem fK42 : Jvm.Cond.code (sm_MN 42) (sm_MB 42) (sm_MT 42).2.1 (sm_rt (sm_MT 42).2.2.1) ∈ sm_T0 := sm_code_T (k := 3) (i := 17) (y := ⟨"AskedFire$Law", "endOperand", "()V"⟩) (b := prog_7_method_14_code) (ml := 1) (r := none) rfl
set_option maxRecDepth 100000 in
theorem fC42 : sm_okM sm_MT sm_MN sm_MB sm_CN sm_T0 42 := sm_chkM_ok fK42 (by decide +kernel) (sm_chkF_ok (N := 82) (fun pc v h => by
  have h : fI42 pc = some v := h
  unfold fI42 at h
  exact Nat.le_of_ble_eq_true (sm_bif h).1) (by decide +kernel))
theorem fK43 : Jvm.Cond.code (sm_MN 43) (sm_MB 43) (sm_MT 43).2.1 (sm_rt (sm_MT 43).2.2.1) ∈ sm_T0 := sm_code_T (k := 3) (i := 21) (y := ⟨"AskedFire$Law", "digitGoesOn", "(I)Z"⟩) (b := prog_7_method_8_code) (ml := 2) (r := (some .boolean)) rfl
set_option maxRecDepth 100000 in
theorem fC43 : sm_okM sm_MT sm_MN sm_MB sm_CN sm_T0 43 := sm_chkM_ok fK43 (by decide +kernel) (sm_chkF_ok (N := 55) (fun pc v h => by
  have h : fI43 pc = some v := h
  unfold fI43 at h
  exact Nat.le_of_ble_eq_true (sm_bif h).1) (by decide +kernel))
theorem fK44 : Jvm.Cond.code (sm_MN 44) (sm_MB 44) (sm_MT 44).2.1 (sm_rt (sm_MT 44).2.2.1) ∈ sm_T0 := sm_code_T (k := 3) (i := 25) (y := ⟨"AskedFire$Law", "closeBracket", "()Z"⟩) (b := prog_7_method_9_code) (ml := 1) (r := (some .boolean)) rfl
set_option maxRecDepth 100000 in
theorem fC44 : sm_okM sm_MT sm_MN sm_MB sm_CN sm_T0 44 := sm_chkM_ok fK44 (by decide +kernel) (sm_chkF_ok (N := 50) (fun pc v h => by
  have h : fI44 pc = some v := h
  unfold fI44 at h
  exact Nat.le_of_ble_eq_true (sm_bif h).1) (by decide +kernel))
theorem fK45 : Jvm.Cond.code (sm_MN 45) (sm_MB 45) (sm_MT 45).2.1 (sm_rt (sm_MT 45).2.2.1) ∈ sm_T0 := sm_code_T (k := 3) (i := 29) (y := ⟨"AskedFire$Law", "settle", "(I)V"⟩) (b := prog_7_method_15_code) (ml := 2) (r := none) rfl
set_option maxRecDepth 100000 in
theorem fC45 : sm_okM sm_MT sm_MN sm_MB sm_CN sm_T0 45 := sm_chkM_ok fK45 (by decide +kernel) (sm_chkF_ok (N := 53) (fun pc v h => by
  have h : fI45 pc = some v := h
  unfold fI45 at h
  exact Nat.le_of_ble_eq_true (sm_bif h).1) (by decide +kernel))
theorem fK46 : Jvm.Cond.code (sm_MN 46) (sm_MB 46) (sm_MT 46).2.1 (sm_rt (sm_MT 46).2.2.1) ∈ sm_T0 := sm_code_T (k := 3) (i := 32) (y := ⟨"AskedFire$Law", "rank", "(I)I"⟩) (b := prog_7_method_20_code) (ml := 1) (r := (some .int)) rfl
set_option maxRecDepth 100000 in
theorem fC46 : sm_okM sm_MT sm_MN sm_MB sm_CN sm_T0 46 := sm_chkM_ok fK46 (by decide +kernel) (sm_chkF_ok (N := 104) (fun pc v h => by
  have h : fI46 pc = some v := h
  unfold fI46 at h
  exact Nat.le_of_ble_eq_true (sm_bif h).1) (by decide +kernel))
theorem fK47 : Jvm.Cond.code (sm_MN 47) (sm_MB 47) (sm_MT 47).2.1 (sm_rt (sm_MT 47).2.2.1) ∈ sm_T0 := sm_code_T (k := 3) (i := 36) (y := ⟨"AskedFire$Law", "condition", "()Z"⟩) (b := prog_7_method_10_code) (ml := 1) (r := (some .boolean)) rfl
set_option maxRecDepth 100000 in
theorem fC47 : sm_okM sm_MT sm_MN sm_MB sm_CN sm_T0 47 := sm_chkM_ok fK47 (by decide +kernel) (sm_chkF_ok (N := 48) (fun pc v h => by
  have h : fI47 pc = some v := h
  unfold fI47 at h
  exact Nat.le_of_ble_eq_true (sm_bif h).1) (by decide +kernel))
theorem fK48 : Jvm.Cond.code (sm_MN 48) (sm_MB 48) (sm_MT 48).2.1 (sm_rt (sm_MT 48).2.2.1) ∈ sm_T0 := sm_code_T (k := 3) (i := 40) (y := ⟨"AskedFire$Law", "nextLine", "()Z"⟩) (b := prog_7_method_11_code) (ml := 1) (r := (some .boolean)) rfl
set_option maxRecDepth 100000 in
theorem fC48 : sm_okM sm_MT sm_MN sm_MB sm_CN sm_T0 48 := sm_chkM_ok fK48 (by decide +kernel) (sm_chkF_ok (N := 20) (fun pc v h => by
  have h : fI48 pc = some v := h
  unfold fI48 at h
  exact Nat.le_of_ble_eq_true (sm_bif h).1) (by decide +kernel))
theorem fK49 : Jvm.Cond.code (sm_MN 49) (sm_MB 49) (sm_MT 49).2.1 (sm_rt (sm_MT 49).2.2.1) ∈ sm_T0 := sm_code_T (k := 3) (i := 44) (y := ⟨"AskedFire$Law", "endLine", "()V"⟩) (b := prog_7_method_12_code) (ml := 1) (r := none) rfl
set_option maxRecDepth 100000 in
theorem fC49 : sm_okM sm_MT sm_MN sm_MB sm_CN sm_T0 49 := sm_chkM_ok fK49 (by decide +kernel) (sm_chkF_ok (N := 38) (fun pc v h => by
  have h : fI49 pc = some v := h
  unfold fI49 at h
  exact Nat.le_of_ble_eq_true (sm_bif h).1) (by decide +kernel))
theorem fK50 : Jvm.Cond.code (sm_MN 50) (sm_MB 50) (sm_MT 50).2.1 (sm_rt (sm_MT 50).2.2.1) ∈ sm_T0 := sm_code_T (k := 3) (i := 48) (y := ⟨"AskedFire$Law", "operatorGoesOn", "(I)Z"⟩) (b := prog_7_method_13_code) (ml := 3) (r := (some .boolean)) rfl
set_option maxRecDepth 100000 in
theorem fC50 : sm_okM sm_MT sm_MN sm_MB sm_CN sm_T0 50 := sm_chkM_ok fK50 (by decide +kernel) (sm_chkF_ok (N := 69) (fun pc v h => by
  have h : fI50 pc = some v := h
  unfold fI50 at h
  exact Nat.le_of_ble_eq_true (sm_bif h).1) (by decide +kernel))
theorem fK51 : Jvm.Cond.code (sm_MN 51) (sm_MB 51) (sm_MT 51).2.1 (sm_rt (sm_MT 51).2.2.1) ∈ sm_T0 := sm_code_T (k := 3) (i := 53) (y := ⟨"AskedFire", "likes", "(II)I"⟩) (b := prog_1_method_10_code) (ml := 3) (r := (some .int)) rfl
set_option maxRecDepth 100000 in
theorem fC51 : sm_okM sm_MT sm_MN sm_MB sm_CN sm_T0 51 := sm_chkM_ok fK51 (by decide +kernel) (sm_chkF_ok (N := 58) (fun pc v h => by
  have h : fI51 pc = some v := h
  unfold fI51 at h
  exact Nat.le_of_ble_eq_true (sm_bif h).1) (by decide +kernel))
theorem fK52 : Jvm.Cond.code (sm_MN 52) (sm_MB 52) (sm_MT 52).2.1 (sm_rt (sm_MT 52).2.2.1) ∈ sm_T0 := sm_code_T (k := 3) (i := 57) (y := ⟨"AskedFire$Club", "isToCome", "(I)Z"⟩) (b := prog_3_method_7_code) (ml := 2) (r := (some .boolean)) rfl
set_option maxRecDepth 100000 in
theorem fC52 : sm_okM sm_MT sm_MN sm_MB sm_CN sm_T0 52 := sm_chkM_ok fK52 (by decide +kernel) (sm_chkF_ok (N := 20) (fun pc v h => by
  have h : fI52 pc = some v := h
  unfold fI52 at h
  exact Nat.le_of_ble_eq_true (sm_bif h).1) (by decide +kernel))
theorem fK53 : Jvm.Cond.code (sm_MN 53) (sm_MB 53) (sm_MT 53).2.1 (sm_rt (sm_MT 53).2.2.1) ∈ sm_T0 := sm_code_T (k := 3) (i := 61) (y := ⟨"AskedFire$Club", "now", "()I"⟩) (b := prog_3_method_4_code) (ml := 1) (r := (some .int)) rfl
set_option maxRecDepth 100000 in
theorem fC53 : sm_okM sm_MT sm_MN sm_MB sm_CN sm_T0 53 := sm_chkM_ok fK53 (by decide +kernel) (sm_chkF_ok (N := 9) (fun pc v h => by
  have h : fI53 pc = some v := h
  unfold fI53 at h
  exact Nat.le_of_ble_eq_true (sm_bif h).1) (by decide +kernel))
theorem fK54 : Jvm.Cond.code (sm_MN 54) (sm_MB 54) (sm_MT 54).2.1 (sm_rt (sm_MT 54).2.2.1) ∈ sm_T0 := sm_code_T (k := 3) (i := 65) (y := ⟨"AskedFire$Thought", "begin", "()V"⟩) (b := prog_10_method_2_code) (ml := 1) (r := none) rfl
set_option maxRecDepth 100000 in
theorem fC54 : sm_okM sm_MT sm_MN sm_MB sm_CN sm_T0 54 := sm_chkM_ok fK54 (by decide +kernel) (sm_chkF_ok (N := 41) (fun pc v h => by
  have h : fI54 pc = some v := h
  unfold fI54 at h
  exact Nat.le_of_ble_eq_true (sm_bif h).1) (by decide +kernel))
theorem fK55 : Jvm.Cond.code (sm_MN 55) (sm_MB 55) (sm_MT 55).2.1 (sm_rt (sm_MT 55).2.2.1) ∈ sm_T0 := sm_code_T (k := 3) (i := 70) (y := ⟨"AskedFire$Thought", "spendUntil", "(I)V"⟩) (b := prog_10_method_6_code) (ml := 3) (r := none) rfl
set_option maxRecDepth 100000 in
theorem fC55 : sm_okM sm_MT sm_MN sm_MB sm_CN sm_T0 55 := sm_chkM_ok fK55 (by decide +kernel) (sm_chkF_ok (N := 26) (fun pc v h => by
  have h : fI55 pc = some v := h
  unfold fI55 at h
  exact Nat.le_of_ble_eq_true (sm_bif h).1) (by decide +kernel))
theorem fK56 : Jvm.Cond.code (sm_MN 56) (sm_MB 56) (sm_MT 56).2.1 (sm_rt (sm_MT 56).2.2.1) ∈ sm_T0 := sm_code_T (k := 3) (i := 75) (y := ⟨"AskedFire$Thought", "spend", "(I)I"⟩) (b := prog_10_method_5_code) (ml := 3) (r := (some .int)) rfl
set_option maxRecDepth 100000 in
theorem fC56 : sm_okM sm_MT sm_MN sm_MB sm_CN sm_T0 56 := sm_chkM_ok fK56 (by decide +kernel) (sm_chkF_ok (N := 67) (fun pc v h => by
  have h : fI56 pc = some v := h
  unfold fI56 at h
  exact Nat.le_of_ble_eq_true (sm_bif h).1) (by decide +kernel))
theorem fK57 : Jvm.Cond.code (sm_MN 57) (sm_MB 57) (sm_MT 57).2.1 (sm_rt (sm_MT 57).2.2.1) ∈ sm_T0 := sm_code_T (k := 3) (i := 79) (y := ⟨"AskedFire$Thought", "choice", "(I)I"⟩) (b := prog_10_method_4_code) (ml := 7) (r := (some .int)) rfl
set_option maxRecDepth 100000 in
theorem fC57 : sm_okM sm_MT sm_MN sm_MB sm_CN sm_T0 57 := sm_chkM_ok fK57 (by decide +kernel) (sm_chkF_ok (N := 136) (fun pc v h => by
  have h : fI57 pc = some v := h
  unfold fI57 at h
  exact Nat.le_of_ble_eq_true (sm_bif h).1) (by decide +kernel))
theorem fK58 : Jvm.Cond.code (sm_MN 58) (sm_MB 58) (sm_MT 58).2.1 (sm_rt (sm_MT 58).2.2.1) ∈ sm_T0 := sm_code_T (k := 3) (i := 83) (y := ⟨"AskedFire$Club", "lies", "(IIII)Z"⟩) (b := prog_3_method_13_code) (ml := 7) (r := (some .boolean)) rfl
set_option maxRecDepth 100000 in
theorem fC58 : sm_okM sm_MT sm_MN sm_MB sm_CN sm_T0 58 := sm_chkM_ok fK58 (by decide +kernel) (sm_chkF_ok (N := 62) (fun pc v h => by
  have h : fI58 pc = some v := h
  unfold fI58 at h
  exact Nat.le_of_ble_eq_true (sm_bif h).1) (by decide +kernel))
theorem fK59 : Jvm.Cond.code (sm_MN 59) (sm_MB 59) (sm_MT 59).2.1 (sm_rt (sm_MT 59).2.2.1) ∈ sm_T0 := sm_code_T (k := 3) (i := 90) (y := ⟨"AskedFire$Law", "liking", "(LAskedFire$Club;III)I"⟩) (b := prog_7_method_21_code) (ml := 7) (r := (some .int)) rfl
set_option maxRecDepth 100000 in
theorem fC59 : sm_okM sm_MT sm_MN sm_MB sm_CN sm_T0 59 := sm_chkM_ok fK59 (by decide +kernel) (sm_chkF_ok (N := 98) (fun pc v h => by
  have h : fI59 pc = some v := h
  unfold fI59 at h
  exact Nat.le_of_ble_eq_true (sm_bif h).1) (by decide +kernel))
theorem fK60 : Jvm.Cond.code (sm_MN 60) (sm_MB 60) (sm_MT 60).2.1 (sm_rt (sm_MT 60).2.2.1) ∈ sm_T0 := sm_code_T (k := 3) (i := 94) (y := ⟨"AskedFire$Law", "held", "(I)I"⟩) (b := prog_7_method_22_code) (ml := 1) (r := (some .int)) rfl
set_option maxRecDepth 100000 in
theorem fC60 : sm_okM sm_MT sm_MN sm_MB sm_CN sm_T0 60 := sm_chkM_ok fK60 (by decide +kernel) (sm_chkF_ok (N := 12) (fun pc v h => by
  have h : fI60 pc = some v := h
  unfold fI60 at h
  exact Nat.le_of_ble_eq_true (sm_bif h).1) (by decide +kernel))
theorem fK61 : Jvm.Cond.code (sm_MN 61) (sm_MB 61) (sm_MT 61).2.1 (sm_rt (sm_MT 61).2.2.1) ∈ sm_T0 := sm_code_T (k := 3) (i := 104) (y := ⟨"AskedFire$Law", "worked", "()I"⟩) (b := prog_7_method_23_code) (ml := 4) (r := (some .int)) rfl
set_option maxRecDepth 100000 in
theorem fC61 : sm_okM sm_MT sm_MN sm_MB sm_CN sm_T0 61 := sm_chkM_ok fK61 (by decide +kernel) (sm_chkF_ok (N := 237) (fun pc v h => by
  have h : fI61 pc = some v := h
  unfold fI61 at h
  exact Nat.le_of_ble_eq_true (sm_bif h).1) (by decide +kernel))
theorem fK62 : Jvm.Cond.code (sm_MN 62) (sm_MB 62) (sm_MT 62).2.1 (sm_rt (sm_MT 62).2.2.1) ∈ sm_T0 := sm_code_T (k := 3) (i := 107) (y := ⟨"AskedFire$Law", "isPlain", "(I)Z"⟩) (b := prog_7_method_24_code) (ml := 1) (r := (some .boolean)) rfl
set_option maxRecDepth 100000 in
theorem fC62 : sm_okM sm_MT sm_MN sm_MB sm_CN sm_T0 62 := sm_chkM_ok fK62 (by decide +kernel) (sm_chkF_ok (N := 24) (fun pc v h => by
  have h : fI62 pc = some v := h
  unfold fI62 at h
  exact Nat.le_of_ble_eq_true (sm_bif h).1) (by decide +kernel))
theorem fK63 : Jvm.Cond.code (sm_MN 63) (sm_MB 63) (sm_MT 63).2.1 (sm_rt (sm_MT 63).2.2.1) ∈ sm_T0 := sm_code_T (k := 3) (i := 110) (y := ⟨"AskedFire$Law", "joined", "(III)I"⟩) (b := prog_7_method_25_code) (ml := 3) (r := (some .int)) rfl
set_option maxRecDepth 100000 in
theorem fC63 : sm_okM sm_MT sm_MN sm_MB sm_CN sm_T0 63 := sm_chkM_ok fK63 (by decide +kernel) (sm_chkF_ok (N := 181) (fun pc v h => by
  have h : fI63 pc = some v := h
  unfold fI63 at h
  exact Nat.le_of_ble_eq_true (sm_bif h).1) (by decide +kernel))
theorem fK64 : Jvm.Cond.code (sm_MN 64) (sm_MB 64) (sm_MT 64).2.1 (sm_rt (sm_MT 64).2.2.1) ∈ sm_T0 := sm_code_T (k := 3) (i := 115) (y := ⟨"AskedFire$Thought", "liking", "(II)I"⟩) (b := prog_10_method_3_code) (ml := 3) (r := (some .int)) rfl
set_option maxRecDepth 100000 in
theorem fC64 : sm_okM sm_MT sm_MN sm_MB sm_CN sm_T0 64 := sm_chkM_ok fK64 (by decide +kernel) (sm_chkF_ok (N := 20) (fun pc v h => by
  have h : fI64 pc = some v := h
  unfold fI64 at h
  exact Nat.le_of_ble_eq_true (sm_bif h).1) (by decide +kernel))
theorem fK65 : Jvm.Cond.code (sm_MN 65) (sm_MB 65) (sm_MT 65).2.1 (sm_rt (sm_MT 65).2.2.1) ∈ sm_T0 := sm_code_T (k := 3) (i := 119) (y := ⟨"AskedFire", "accepts", "(II)I"⟩) (b := prog_1_method_11_code) (ml := 4) (r := (some .int)) rfl
set_option maxRecDepth 100000 in
theorem fC65 : sm_okM sm_MT sm_MN sm_MB sm_CN sm_T0 65 := sm_chkM_ok fK65 (by decide +kernel) (sm_chkF_ok (N := 68) (fun pc v h => by
  have h : fI65 pc = some v := h
  unfold fI65 at h
  exact Nat.le_of_ble_eq_true (sm_bif h).1) (by decide +kernel))
theorem fK66 : Jvm.Cond.code (sm_MN 66) (sm_MB 66) (sm_MT 66).2.1 (sm_rt (sm_MT 66).2.2.1) ∈ sm_T0 := sm_code_T (k := 3) (i := 124) (y := ⟨"AskedFire", "visits", "(II)I"⟩) (b := prog_1_method_12_code) (ml := 3) (r := (some .int)) rfl
set_option maxRecDepth 100000 in
theorem fC66 : sm_okM sm_MT sm_MN sm_MB sm_CN sm_T0 66 := sm_chkM_ok fK66 (by decide +kernel) (sm_chkF_ok (N := 61) (fun pc v h => by
  have h : fI66 pc = some v := h
  unfold fI66 at h
  exact Nat.le_of_ble_eq_true (sm_bif h).1) (by decide +kernel))
theorem fK67 : Jvm.Cond.code (sm_MN 67) (sm_MB 67) (sm_MT 67).2.1 (sm_rt (sm_MT 67).2.2.1) ∈ sm_T0 := sm_code_T (k := 3) (i := 128) (y := ⟨"AskedFire", "first", "(I)I"⟩) (b := prog_1_method_13_code) (ml := 2) (r := (some .int)) rfl
set_option maxRecDepth 100000 in
theorem fC67 : sm_okM sm_MT sm_MN sm_MB sm_CN sm_T0 67 := sm_chkM_ok fK67 (by decide +kernel) (sm_chkF_ok (N := 23) (fun pc v h => by
  have h : fI67 pc = some v := h
  unfold fI67 at h
  exact Nat.le_of_ble_eq_true (sm_bif h).1) (by decide +kernel))
theorem fK68 : Jvm.Cond.code (sm_MN 68) (sm_MB 68) (sm_MT 68).2.1 (sm_rt (sm_MT 68).2.2.1) ∈ sm_T0 := sm_code_T (k := 3) (i := 132) (y := ⟨"AskedFire", "firstDayAlone", "()I"⟩) (b := prog_1_method_14_code) (ml := 2) (r := (some .int)) rfl
set_option maxRecDepth 100000 in
theorem fC68 : sm_okM sm_MT sm_MN sm_MB sm_CN sm_T0 68 := sm_chkM_ok fK68 (by decide +kernel) (sm_chkF_ok (N := 43) (fun pc v h => by
  have h : fI68 pc = some v := h
  unfold fI68 at h
  exact Nat.le_of_ble_eq_true (sm_bif h).1) (by decide +kernel))
theorem fK69 : Jvm.Cond.code (sm_MN 69) (sm_MB 69) (sm_MT 69).2.1 (sm_rt (sm_MT 69).2.2.1) ∈ sm_T0 := sm_code_T (k := 3) (i := 138) (y := ⟨"AskedFire", "driest", "()I"⟩) (b := prog_1_method_15_code) (ml := 3) (r := (some .int)) rfl
set_option maxRecDepth 100000 in
theorem fC69 : sm_okM sm_MT sm_MN sm_MB sm_CN sm_T0 69 := sm_chkM_ok fK69 (by decide +kernel) (sm_chkF_ok (N := 49) (fun pc v h => by
  have h : fI69 pc = some v := h
  unfold fI69 at h
  exact Nat.le_of_ble_eq_true (sm_bif h).1) (by decide +kernel))
theorem fK70 : Jvm.Cond.code (sm_MN 70) (sm_MB 70) (sm_MT 70).2.1 (sm_rt (sm_MT 70).2.2.1) ∈ sm_T0 := sm_code_T (k := 3) (i := 142) (y := ⟨"AskedFire", "odds", "(II)I"⟩) (b := prog_1_method_16_code) (ml := 3) (r := (some .int)) rfl
set_option maxRecDepth 100000 in
theorem fC70 : sm_okM sm_MT sm_MN sm_MB sm_CN sm_T0 70 := sm_chkM_ok fK70 (by decide +kernel) (sm_chkF_ok (N := 35) (fun pc v h => by
  have h : fI70 pc = some v := h
  unfold fI70 at h
  exact Nat.le_of_ble_eq_true (sm_bif h).1) (by decide +kernel))
theorem fK71 : Jvm.Cond.code (sm_MN 71) (sm_MB 71) (sm_MT 71).2.1 (sm_rt (sm_MT 71).2.2.1) ∈ sm_T0 := sm_code_T (k := 3) (i := 146) (y := ⟨"AskedFire$Club", "fire", "(II)I"⟩) (b := prog_3_method_12_code) (ml := 3) (r := (some .int)) rfl
set_option maxRecDepth 100000 in
theorem fC71 : sm_okM sm_MT sm_MN sm_MB sm_CN sm_T0 71 := sm_chkM_ok fK71 (by decide +kernel) (sm_chkF_ok (N := 17) (fun pc v h => by
  have h : fI71 pc = some v := h
  unfold fI71 at h
  exact Nat.le_of_ble_eq_true (sm_bif h).1) (by decide +kernel))
theorem fK72 : Jvm.Cond.code (sm_MN 72) (sm_MB 72) (sm_MT 72).2.1 (sm_rt (sm_MT 72).2.2.1) ∈ sm_T0 := sm_code_T (k := 3) (i := 150) (y := ⟨"AskedFire", "burns", "(III)J"⟩) (b := prog_1_method_17_code) (ml := 4) (r := (some .long)) rfl
set_option maxRecDepth 100000 in
theorem fC72 : sm_okM sm_MT sm_MN sm_MB sm_CN sm_T0 72 := sm_chkM_ok fK72 (by decide +kernel) (sm_chkF_ok (N := 85) (fun pc v h => by
  have h : fI72 pc = some v := h
  unfold fI72 at h
  exact Nat.le_of_ble_eq_true (sm_bif h).1) (by decide +kernel))
theorem fK73 : Jvm.Cond.code (sm_MN 73) (sm_MB 73) (sm_MT 73).2.1 (sm_rt (sm_MT 73).2.2.1) ∈ sm_T0 := sm_code_T (k := 3) (i := 153) (y := ⟨"AskedFire", "isPart", "(I)Z"⟩) (b := prog_1_method_54_code) (ml := 1) (r := (some .boolean)) rfl
set_option maxRecDepth 100000 in
theorem fC73 : sm_okM sm_MT sm_MN sm_MB sm_CN sm_T0 73 := sm_chkM_ok fK73 (by decide +kernel) (sm_chkF_ok (N := 15) (fun pc v h => by
  have h : fI73 pc = some v := h
  unfold fI73 at h
  exact Nat.le_of_ble_eq_true (sm_bif h).1) (by decide +kernel))
theorem fK74 : Jvm.Cond.code (sm_MN 74) (sm_MB 74) (sm_MT 74).2.1 (sm_rt (sm_MT 74).2.2.1) ∈ sm_T0 := sm_code_T (k := 3) (i := 158) (y := ⟨"AskedFire$Thought", "weighDays", "(I)V"⟩) (b := prog_10_method_9_code) (ml := 7) (r := none) rfl
set_option maxRecDepth 100000 in
theorem fC74 : sm_okM sm_MT sm_MN sm_MB sm_CN sm_T0 74 := sm_chkM_ok fK74 (by decide +kernel) (sm_chkF_ok (N := 149) (fun pc v h => by
  have h : fI74 pc = some v := h
  unfold fI74 at h
  exact Nat.le_of_ble_eq_true (sm_bif h).1) (by decide +kernel))
theorem fK75 : Jvm.Cond.code (sm_MN 75) (sm_MB 75) (sm_MT 75).2.1 (sm_rt (sm_MT 75).2.2.1) ∈ sm_T0 := sm_code_T (k := 3) (i := 165) (y := ⟨"AskedFire", "fraction", "(JJI)J"⟩) (b := prog_1_method_58_code) (ml := 12) (r := (some .long)) rfl
set_option maxRecDepth 100000 in
theorem fC75 : sm_okM sm_MT sm_MN sm_MB sm_CN sm_T0 75 := sm_chkM_ok fK75 (by decide +kernel) (sm_chkF_ok (N := 72) (fun pc v h => by
  have h : fI75 pc = some v := h
  unfold fI75 at h
  exact Nat.le_of_ble_eq_true (sm_bif h).1) (by decide +kernel))
theorem fK76 : Jvm.Cond.code (sm_MN 76) (sm_MB 76) (sm_MT 76).2.1 (sm_rt (sm_MT 76).2.2.1) ∈ sm_T0 := sm_code_T (k := 3) (i := 169) (y := ⟨"AskedFire", "mean", "(II)J"⟩) (b := prog_1_method_18_code) (ml := 6) (r := (some .long)) rfl
set_option maxRecDepth 100000 in
theorem fC76 : sm_okM sm_MT sm_MN sm_MB sm_CN sm_T0 76 := sm_chkM_ok fK76 (by decide +kernel) (sm_chkF_ok (N := 101) (fun pc v h => by
  have h : fI76 pc = some v := h
  unfold fI76 at h
  exact Nat.le_of_ble_eq_true (sm_bif h).1) (by decide +kernel))
theorem fK77 : Jvm.Cond.code (sm_MN 77) (sm_MB 77) (sm_MT 77).2.1 (sm_rt (sm_MT 77).2.2.1) ∈ sm_T0 := sm_code_T (k := 3) (i := 173) (y := ⟨"AskedFire", "plan", "(II)J"⟩) (b := prog_1_method_19_code) (ml := 3) (r := (some .long)) rfl
set_option maxRecDepth 100000 in
theorem fC77 : sm_okM sm_MT sm_MN sm_MB sm_CN sm_T0 77 := sm_chkM_ok fK77 (by decide +kernel) (sm_chkF_ok (N := 47) (fun pc v h => by
  have h : fI77 pc = some v := h
  unfold fI77 at h
  exact Nat.le_of_ble_eq_true (sm_bif h).1) (by decide +kernel))
theorem fK78 : Jvm.Cond.code (sm_MN 78) (sm_MB 78) (sm_MT 78).2.1 (sm_rt (sm_MT 78).2.2.1) ∈ sm_T0 := sm_code_T (k := 3) (i := 177) (y := ⟨"AskedFire$Planner", "work", "(I)V"⟩) (b := prog_8_method_2_code) (ml := 3) (r := none) rfl
set_option maxRecDepth 100000 in
theorem fC78 : sm_okM sm_MT sm_MN sm_MB sm_CN sm_T0 78 := sm_chkM_ok fK78 (by decide +kernel) (sm_chkF_ok (N := 103) (fun pc v h => by
  have h : fI78 pc = some v := h
  unfold fI78 at h
  exact Nat.le_of_ble_eq_true (sm_bif h).1) (by decide +kernel))
theorem fK79 : Jvm.Cond.code (sm_MN 79) (sm_MB 79) (sm_MT 79).2.1 (sm_rt (sm_MT 79).2.2.1) ∈ sm_T0 := sm_code_T (k := 3) (i := 185) (y := ⟨"AskedFire$Planner", "search", "(I)V"⟩) (b := prog_8_method_3_code) (ml := 3) (r := none) rfl
set_option maxRecDepth 100000 in
theorem fC79 : sm_okM sm_MT sm_MN sm_MB sm_CN sm_T0 79 := sm_chkM_ok fK79 (by decide +kernel) (sm_chkF_ok (N := 80) (fun pc v h => by
  have h : fI79 pc = some v := h
  unfold fI79 at h
  exact Nat.le_of_ble_eq_true (sm_bif h).1) (by decide +kernel))
theorem fK80 : Jvm.Cond.code (sm_MN 80) (sm_MB 80) (sm_MT 80).2.1 (sm_rt (sm_MT 80).2.2.1) ∈ sm_T0 := sm_code_T (k := 3) (i := 189) (y := ⟨"AskedFire$Planner", "weigh", "()V"⟩) (b := prog_8_method_5_code) (ml := 4) (r := none) rfl
set_option maxRecDepth 100000 in
theorem fC80 : sm_okM sm_MT sm_MN sm_MB sm_CN sm_T0 80 := sm_chkM_ok fK80 (by decide +kernel) (sm_chkF_ok (N := 90) (fun pc v h => by
  have h : fI80 pc = some v := h
  unfold fI80 at h
  exact Nat.le_of_ble_eq_true (sm_bif h).1) (by decide +kernel))
theorem fK81 : Jvm.Cond.code (sm_MN 81) (sm_MB 81) (sm_MT 81).2.1 (sm_rt (sm_MT 81).2.2.1) ∈ sm_T0 := sm_code_T (k := 3) (i := 195) (y := ⟨"AskedFire$Planner", "choose", "(II)V"⟩) (b := prog_8_method_4_code) (ml := 8) (r := none) rfl
set_option maxRecDepth 100000 in
theorem fC81 : sm_okM sm_MT sm_MN sm_MB sm_CN sm_T0 81 := sm_chkM_ok fK81 (by decide +kernel) (sm_chkF_ok (N := 165) (fun pc v h => by
  have h : fI81 pc = some v := h
  unfold fI81 at h
  exact Nat.le_of_ble_eq_true (sm_bif h).1) (by decide +kernel))
theorem fK82 : Jvm.Cond.code (sm_MN 82) (sm_MB 82) (sm_MT 82).2.1 (sm_rt (sm_MT 82).2.2.1) ∈ sm_T0 := sm_code_T (k := 3) (i := 201) (y := ⟨"AskedFire$Planner", "isOpen", "(II)Z"⟩) (b := prog_8_method_6_code) (ml := 3) (r := (some .boolean)) rfl
set_option maxRecDepth 100000 in
theorem fC82 : sm_okM sm_MT sm_MN sm_MB sm_CN sm_T0 82 := sm_chkM_ok fK82 (by decide +kernel) (sm_chkF_ok (N := 40) (fun pc v h => by
  have h : fI82 pc = some v := h
  unfold fI82 at h
  exact Nat.le_of_ble_eq_true (sm_bif h).1) (by decide +kernel))
theorem fK83 : Jvm.Cond.code (sm_MN 83) (sm_MB 83) (sm_MT 83).2.1 (sm_rt (sm_MT 83).2.2.1) ∈ sm_T0 := sm_code_T (k := 3) (i := 206) (y := ⟨"AskedFire$Planner", "hasTwin", "(II)Z"⟩) (b := prog_8_method_7_code) (ml := 4) (r := (some .boolean)) rfl
set_option maxRecDepth 100000 in
theorem fC83 : sm_okM sm_MT sm_MN sm_MB sm_CN sm_T0 83 := sm_chkM_ok fK83 (by decide +kernel) (sm_chkF_ok (N := 70) (fun pc v h => by
  have h : fI83 pc = some v := h
  unfold fI83 at h
  exact Nat.le_of_ble_eq_true (sm_bif h).1) (by decide +kernel))
theorem fK84 : Jvm.Cond.code (sm_MN 84) (sm_MB 84) (sm_MT 84).2.1 (sm_rt (sm_MT 84).2.2.1) ∈ sm_T0 := sm_code_T (k := 3) (i := 210) (y := ⟨"AskedFire", "planned", "(II)I"⟩) (b := prog_1_method_20_code) (ml := 3) (r := (some .int)) rfl
set_option maxRecDepth 100000 in
theorem fC84 : sm_okM sm_MT sm_MN sm_MB sm_CN sm_T0 84 := sm_chkM_ok fK84 (by decide +kernel) (sm_chkF_ok (N := 54) (fun pc v h => by
  have h : fI84 pc = some v := h
  unfold fI84 at h
  exact Nat.le_of_ble_eq_true (sm_bif h).1) (by decide +kernel))
theorem fK85 : Jvm.Cond.code (sm_MN 85) (sm_MB 85) (sm_MT 85).2.1 (sm_rt (sm_MT 85).2.2.1) ∈ sm_T0 := sm_code_T (k := 3) (i := 214) (y := ⟨"AskedFire", "ask", "(I)I"⟩) (b := prog_1_method_21_code) (ml := 6) (r := (some .int)) rfl
set_option maxRecDepth 100000 in
theorem fC85 : sm_okM sm_MT sm_MN sm_MB sm_CN sm_T0 85 := sm_chkM_ok fK85 (by decide +kernel) (sm_chkF_ok (N := 125) (fun pc v h => by
  have h : fI85 pc = some v := h
  unfold fI85 at h
  exact Nat.le_of_ble_eq_true (sm_bif h).1) (by decide +kernel))
theorem fK86 : Jvm.Cond.code (sm_MN 86) (sm_MB 86) (sm_MT 86).2.1 (sm_rt (sm_MT 86).2.2.1) ∈ sm_T0 := sm_code_T (k := 3) (i := 218) (y := ⟨"AskedFire$Thought", "wins", "(II)Z"⟩) (b := prog_10_method_8_code) (ml := 5) (r := (some .boolean)) rfl
set_option maxRecDepth 100000 in
theorem fC86 : sm_okM sm_MT sm_MN sm_MB sm_CN sm_T0 86 := sm_chkM_ok fK86 (by decide +kernel) (sm_chkF_ok (N := 65) (fun pc v h => by
  have h : fI86 pc = some v := h
  unfold fI86 at h
  exact Nat.le_of_ble_eq_true (sm_bif h).1) (by decide +kernel))
theorem fK87 : Jvm.Cond.code (sm_MN 87) (sm_MB 87) (sm_MT 87).2.1 (sm_rt (sm_MT 87).2.2.1) ∈ sm_T0 := sm_code_T (k := 3) (i := 223) (y := ⟨"AskedFire", "sweeten", "(III)I"⟩) (b := prog_1_method_22_code) (ml := 4) (r := (some .int)) rfl
set_option maxRecDepth 100000 in
theorem fC87 : sm_okM sm_MT sm_MN sm_MB sm_CN sm_T0 87 := sm_chkM_ok fK87 (by decide +kernel) (sm_chkF_ok (N := 60) (fun pc v h => by
  have h : fI87 pc = some v := h
  unfold fI87 at h
  exact Nat.le_of_ble_eq_true (sm_bif h).1) (by decide +kernel))
theorem fK88 : Jvm.Cond.code (sm_MN 88) (sm_MB 88) (sm_MT 88).2.1 (sm_rt (sm_MT 88).2.2.1) ∈ sm_T0 := sm_code_T (k := 3) (i := 227) (y := ⟨"AskedFire", "firstThatBrings", "(IIIII)I"⟩) (b := prog_1_method_23_code) (ml := 10) (r := (some .int)) rfl
set_option maxRecDepth 100000 in
theorem fC88 : sm_okM sm_MT sm_MN sm_MB sm_CN sm_T0 88 := sm_chkM_ok fK88 (by decide +kernel) (sm_chkF_ok (N := 87) (fun pc v h => by
  have h : fI88 pc = some v := h
  unfold fI88 at h
  exact Nat.le_of_ble_eq_true (sm_bif h).1) (by decide +kernel))
theorem fK89 : Jvm.Cond.code (sm_MN 89) (sm_MB 89) (sm_MT 89).2.1 (sm_rt (sm_MT 89).2.2.1) ∈ sm_T0 := sm_code_T (k := 3) (i := 231) (y := ⟨"AskedFire$Thought", "visitedOn", "(I)I"⟩) (b := prog_10_method_7_code) (ml := 4) (r := (some .int)) rfl
set_option maxRecDepth 100000 in
theorem fC89 : sm_okM sm_MT sm_MN sm_MB sm_CN sm_T0 89 := sm_chkM_ok fK89 (by decide +kernel) (sm_chkF_ok (N := 34) (fun pc v h => by
  have h : fI89 pc = some v := h
  unfold fI89 at h
  exact Nat.le_of_ble_eq_true (sm_bif h).1) (by decide +kernel))
theorem fK90 : Jvm.Cond.code (sm_MN 90) (sm_MB 90) (sm_MT 90).2.1 (sm_rt (sm_MT 90).2.2.1) ∈ sm_T0 := sm_code_T (k := 3) (i := 235) (y := ⟨"AskedFire", "evening", "(II)I"⟩) (b := prog_1_method_24_code) (ml := 3) (r := (some .int)) rfl
set_option maxRecDepth 100000 in
theorem fC90 : sm_okM sm_MT sm_MN sm_MB sm_CN sm_T0 90 := sm_chkM_ok fK90 (by decide +kernel) (sm_chkF_ok (N := 80) (fun pc v h => by
  have h : fI90 pc = some v := h
  unfold fI90 at h
  exact Nat.le_of_ble_eq_true (sm_bif h).1) (by decide +kernel))
theorem fK91 : Jvm.Cond.code (sm_MN 91) (sm_MB 91) (sm_MT 91).2.1 (sm_rt (sm_MT 91).2.2.1) ∈ sm_T0 := sm_code_T (k := 3) (i := 239) (y := ⟨"AskedFire$Club", "areHouses", "(I)Z"⟩) (b := prog_3_method_8_code) (ml := 2) (r := (some .boolean)) rfl
set_option maxRecDepth 100000 in
theorem fC91 : sm_okM sm_MT sm_MN sm_MB sm_CN sm_T0 91 := sm_chkM_ok fK91 (by decide +kernel) (sm_chkF_ok (N := 20) (fun pc v h => by
  have h : fI91 pc = some v := h
  unfold fI91 at h
  exact Nat.le_of_ble_eq_true (sm_bif h).1) (by decide +kernel))
theorem fK92 : Jvm.Cond.code (sm_MN 92) (sm_MB 92) (sm_MT 92).2.1 (sm_rt (sm_MT 92).2.2.1) ∈ sm_T0 := sm_code_T (k := 4) (i := 3) (y := ⟨"AskedFire$Engine", "work", "(I)V"⟩) (b := prog_4_method_2_code) (ml := 2) (r := none) rfl
set_option maxRecDepth 100000 in
theorem fC92 : sm_okM sm_MT sm_MN sm_MB sm_CN sm_T0 92 := sm_chkM_ok fK92 (by decide +kernel) (sm_chkF_ok (N := 30) (fun pc v h => by
  have h : fI92 pc = some v := h
  unfold fI92 at h
  exact Nat.le_of_ble_eq_true (sm_bif h).1) (by decide +kernel))
theorem fK93 : Jvm.Cond.code (sm_MN 93) (sm_MB 93) (sm_MT 93).2.1 (sm_rt (sm_MT 93).2.2.1) ∈ sm_T0 := sm_code_T (k := 4) (i := 6) (y := ⟨"java/lang/Integer", "bitCount", "(I)I"⟩) (b := prog_13_method_49_code) (ml := 1) (r := (some .int)) rfl
set_option maxRecDepth 100000 in
theorem fC93 : sm_okM sm_MT sm_MN sm_MB sm_CN sm_T0 93 := sm_chkM_ok fK93 (by decide +kernel) (sm_chkF_ok (N := 53) (fun pc v h => by
  have h : fI93 pc = some v := h
  unfold fI93 at h
  exact Nat.le_of_ble_eq_true (sm_bif h).1) (by decide +kernel))
theorem fK94 : Jvm.Cond.code (sm_MN 94) (sm_MB 94) (sm_MT 94).2.1 (sm_rt (sm_MT 94).2.2.1) ∈ sm_T0 := sm_code_T (k := 4) (i := 13) (y := ⟨"AskedFire$Engine", "goOn", "(IIIIII)V"⟩) (b := prog_4_method_3_code) (ml := 11) (r := none) rfl
set_option maxRecDepth 100000 in
theorem fC94 : sm_okM sm_MT sm_MN sm_MB sm_CN sm_T0 94 := sm_chkM_ok fK94 (by decide +kernel) (sm_chkF_ok (N := 159) (fun pc v h => by
  have h : fI94 pc = some v := h
  unfold fI94 at h
  exact Nat.le_of_ble_eq_true (sm_bif h).1) (by decide +kernel))
theorem fK95 : Jvm.Cond.code (sm_MN 95) (sm_MB 95) (sm_MT 95).2.1 (sm_rt (sm_MT 95).2.2.1) ∈ sm_T0 := sm_code_T (k := 4) (i := 19) (y := ⟨"AskedFire$Engine", "drive", "(II)I"⟩) (b := prog_4_method_4_code) (ml := 3) (r := (some .int)) rfl
set_option maxRecDepth 100000 in
theorem fC95 : sm_okM sm_MT sm_MN sm_MB sm_CN sm_T0 95 := sm_chkM_ok fK95 (by decide +kernel) (sm_chkF_ok (N := 32) (fun pc v h => by
  have h : fI95 pc = some v := h
  unfold fI95 at h
  exact Nat.le_of_ble_eq_true (sm_bif h).1) (by decide +kernel))
theorem fK96 : Jvm.Cond.code (sm_MN 96) (sm_MB 96) (sm_MT 96).2.1 (sm_rt (sm_MT 96).2.2.1) ∈ sm_T0 := sm_code_T (k := 4) (i := 26) (y := ⟨"AskedFire", "belief", "(IIII)J"⟩) (b := prog_1_method_25_code) (ml := 15) (r := (some .long)) rfl
set_option maxRecDepth 100000 in
theorem fC96 : sm_okM sm_MT sm_MN sm_MB sm_CN sm_T0 96 := sm_chkM_ok fK96 (by decide +kernel) (sm_chkF_ok (N := 246) (fun pc v h => by
  have h : fI96 pc = some v := h
  unfold fI96 at h
  exact Nat.le_of_ble_eq_true (sm_bif h).1) (by decide +kernel))
theorem fK97 : Jvm.Cond.code (sm_MN 97) (sm_MB 97) (sm_MT 97).2.1 (sm_rt (sm_MT 97).2.2.1) ∈ sm_T0 := sm_code_T (k := 4) (i := 33) (y := ⟨"AskedFire", "weight", "(IZ)I"⟩) (b := prog_1_method_26_code) (ml := 2) (r := (some .int)) rfl
set_option maxRecDepth 100000 in
theorem fC97 : sm_okM sm_MT sm_MN sm_MB sm_CN sm_T0 97 := sm_chkM_ok fK97 (by decide +kernel) (sm_chkF_ok (N := 13) (fun pc v h => by
  have h : fI97 pc = some v := h
  unfold fI97 at h
  exact Nat.le_of_ble_eq_true (sm_bif h).1) (by decide +kernel))
theorem fK98 : Jvm.Cond.code (sm_MN 98) (sm_MB 98) (sm_MT 98).2.1 (sm_rt (sm_MT 98).2.2.1) ∈ sm_T0 := sm_code_T (k := 4) (i := 38) (y := ⟨"AskedFire", "lists", "(I)I"⟩) (b := prog_1_method_27_code) (ml := 2) (r := (some .int)) rfl
set_option maxRecDepth 100000 in
theorem fC98 : sm_okM sm_MT sm_MN sm_MB sm_CN sm_T0 98 := sm_chkM_ok fK98 (by decide +kernel) (sm_chkF_ok (N := 33) (fun pc v h => by
  have h : fI98 pc = some v := h
  unfold fI98 at h
  exact Nat.le_of_ble_eq_true (sm_bif h).1) (by decide +kernel))
theorem fK99 : Jvm.Cond.code (sm_MN 99) (sm_MB 99) (sm_MT 99).2.1 (sm_rt (sm_MT 99).2.2.1) ∈ sm_T0 := sm_code_T (k := 4) (i := 42) (y := ⟨"AskedFire", "clash", "()I"⟩) (b := prog_1_method_28_code) (ml := 5) (r := (some .int)) rfl
set_option maxRecDepth 100000 in
theorem fC99 : sm_okM sm_MT sm_MN sm_MB sm_CN sm_T0 99 := sm_chkM_ok fK99 (by decide +kernel) (sm_chkF_ok (N := 93) (fun pc v h => by
  have h : fI99 pc = some v := h
  unfold fI99 at h
  exact Nat.le_of_ble_eq_true (sm_bif h).1) (by decide +kernel))
theorem fK100 : Jvm.Cond.code (sm_MN 100) (sm_MB 100) (sm_MT 100).2.1 (sm_rt (sm_MT 100).2.2.1) ∈ sm_T0 := sm_code_T (k := 4) (i := 47) (y := ⟨"AskedFire", "without", "()I"⟩) (b := prog_1_method_29_code) (ml := 3) (r := (some .int)) rfl
set_option maxRecDepth 100000 in
theorem fC100 : sm_okM sm_MT sm_MN sm_MB sm_CN sm_T0 100 := sm_chkM_ok fK100 (by decide +kernel) (sm_chkF_ok (N := 45) (fun pc v h => by
  have h : fI100 pc = some v := h
  unfold fI100 at h
  exact Nat.le_of_ble_eq_true (sm_bif h).1) (by decide +kernel))
theorem fK101 : Jvm.Cond.code (sm_MN 101) (sm_MB 101) (sm_MT 101).2.1 (sm_rt (sm_MT 101).2.2.1) ∈ sm_T0 := sm_code_T (k := 4) (i := 51) (y := ⟨"AskedFire$Club", "askedFor", "(I)I"⟩) (b := prog_3_method_14_code) (ml := 4) (r := (some .int)) rfl
set_option maxRecDepth 100000 in
theorem fC101 : sm_okM sm_MT sm_MN sm_MB sm_CN sm_T0 101 := sm_chkM_ok fK101 (by decide +kernel) (sm_chkF_ok (N := 48) (fun pc v h => by
  have h : fI101 pc = some v := h
  unfold fI101 at h
  exact Nat.le_of_ble_eq_true (sm_bif h).1) (by decide +kernel))
theorem fK102 : Jvm.Cond.code (sm_MN 102) (sm_MB 102) (sm_MT 102).2.1 (sm_rt (sm_MT 102).2.2.1) ∈ sm_T0 := sm_code_T (k := 4) (i := 56) (y := ⟨"AskedFire", "match", "()I"⟩) (b := prog_1_method_30_code) (ml := 8) (r := (some .int)) rfl
set_option maxRecDepth 100000 in
theorem fC102 : sm_okM sm_MT sm_MN sm_MB sm_CN sm_T0 102 := sm_chkM_ok fK102 (by decide +kernel) (sm_chkF_ok (N := 114) (fun pc v h => by
  have h : fI102 pc = some v := h
  unfold fI102 at h
  exact Nat.le_of_ble_eq_true (sm_bif h).1) (by decide +kernel))
theorem fK103 : Jvm.Cond.code (sm_MN 103) (sm_MB 103) (sm_MT 103).2.1 (sm_rt (sm_MT 103).2.2.1) ∈ sm_T0 := sm_code_T (k := 4) (i := 59) (y := ⟨"AskedFire", "withOneMore", "(II)J"⟩) (b := prog_1_method_31_code) (ml := 5) (r := (some .long)) rfl
set_option maxRecDepth 100000 in
theorem fC103 : sm_okM sm_MT sm_MN sm_MB sm_CN sm_T0 103 := sm_chkM_ok fK103 (by decide +kernel) (sm_chkF_ok (N := 41) (fun pc v h => by
  have h : fI103 pc = some v := h
  unfold fI103 at h
  exact Nat.le_of_ble_eq_true (sm_bif h).1) (by decide +kernel))
theorem fK104 : Jvm.Cond.code (sm_MN 104) (sm_MB 104) (sm_MT 104).2.1 (sm_rt (sm_MT 104).2.2.1) ∈ sm_T0 := sm_code_T (k := 4) (i := 64) (y := ⟨"AskedFire", "judge", "(I)I"⟩) (b := prog_1_method_32_code) (ml := 3) (r := (some .int)) rfl
set_option maxRecDepth 100000 in
theorem fC104 : sm_okM sm_MT sm_MN sm_MB sm_CN sm_T0 104 := sm_chkM_ok fK104 (by decide +kernel) (sm_chkF_ok (N := 41) (fun pc v h => by
  have h : fI104 pc = some v := h
  unfold fI104 at h
  exact Nat.le_of_ble_eq_true (sm_bif h).1) (by decide +kernel))
theorem fK105 : Jvm.Cond.code (sm_MN 105) (sm_MB 105) (sm_MT 105).2.1 (sm_rt (sm_MT 105).2.2.1) ∈ sm_T0 := sm_code_T (k := 4) (i := 68) (y := ⟨"AskedFire$Shelf", "refusalOfBytes", "()I"⟩) (b := prog_9_method_7_code) (ml := 1) (r := (some .int)) rfl
set_option maxRecDepth 100000 in
theorem fC105 : sm_okM sm_MT sm_MN sm_MB sm_CN sm_T0 105 := sm_chkM_ok fK105 (by decide +kernel) (sm_chkF_ok (N := 24) (fun pc v h => by
  have h : fI105 pc = some v := h
  unfold fI105 at h
  exact Nat.le_of_ble_eq_true (sm_bif h).1) (by decide +kernel))
theorem fK106 : Jvm.Cond.code (sm_MN 106) (sm_MB 106) (sm_MT 106).2.1 (sm_rt (sm_MT 106).2.2.1) ∈ sm_T0 := sm_code_T (k := 4) (i := 74) (y := ⟨"AskedFire$Thought", "firstUnlike", "(LAskedFire$Shelf;)I"⟩) (b := prog_10_method_10_code) (ml := 5) (r := (some .int)) rfl
set_option maxRecDepth 100000 in
theorem fC106 : sm_okM sm_MT sm_MN sm_MB sm_CN sm_T0 106 := sm_chkM_ok fK106 (by decide +kernel) (sm_chkF_ok (N := 73) (fun pc v h => by
  have h : fI106 pc = some v := h
  unfold fI106 at h
  exact Nat.le_of_ble_eq_true (sm_bif h).1) (by decide +kernel))
theorem fK107 : Jvm.Cond.code (sm_MN 107) (sm_MB 107) (sm_MT 107).2.1 (sm_rt (sm_MT 107).2.2.1) ∈ sm_T0 := sm_code_T (k := 4) (i := 78) (y := ⟨"AskedFire", "read", "(III)I"⟩) (b := prog_1_method_33_code) (ml := 6) (r := (some .int)) rfl
set_option maxRecDepth 100000 in
theorem fC107 : sm_okM sm_MT sm_MN sm_MB sm_CN sm_T0 107 := sm_chkM_ok fK107 (by decide +kernel) (sm_chkF_ok (N := 110) (fun pc v h => by
  have h : fI107 pc = some v := h
  unfold fI107 at h
  exact Nat.le_of_ble_eq_true (sm_bif h).1) (by decide +kernel))
theorem fK108 : Jvm.Cond.code (sm_MN 108) (sm_MB 108) (sm_MT 108).2.1 (sm_rt (sm_MT 108).2.2.1) ∈ sm_T0 := sm_code_T (k := 4) (i := 82) (y := ⟨"AskedFire", "valuesThatFit", "(LAskedFire$Shelf;II)I"⟩) (b := prog_1_method_34_code) (ml := 7) (r := (some .int)) rfl
set_option maxRecDepth 100000 in
theorem fC108 : sm_okM sm_MT sm_MN sm_MB sm_CN sm_T0 108 := sm_chkM_ok fK108 (by decide +kernel) (sm_chkF_ok (N := 75) (fun pc v h => by
  have h : fI108 pc = some v := h
  unfold fI108 at h
  exact Nat.le_of_ble_eq_true (sm_bif h).1) (by decide +kernel))
theorem fK109 : Jvm.Cond.code (sm_MN 109) (sm_MB 109) (sm_MT 109).2.1 (sm_rt (sm_MT 109).2.2.1) ∈ sm_T0 := sm_code_T (k := 4) (i := 85) (y := ⟨"AskedFire", "firstBit", "(III)I"⟩) (b := prog_1_method_57_code) (ml := 4) (r := (some .int)) rfl
set_option maxRecDepth 100000 in
theorem fC109 : sm_okM sm_MT sm_MN sm_MB sm_CN sm_T0 109 := sm_chkM_ok fK109 (by decide +kernel) (sm_chkF_ok (N := 36) (fun pc v h => by
  have h : fI109 pc = some v := h
  unfold fI109 at h
  exact Nat.le_of_ble_eq_true (sm_bif h).1) (by decide +kernel))
theorem fK110 : Jvm.Cond.code (sm_MN 110) (sm_MB 110) (sm_MT 110).2.1 (sm_rt (sm_MT 110).2.2.1) ∈ sm_T0 := sm_code_T (k := 4) (i := 89) (y := ⟨"AskedFire", "drawn", "(III)I"⟩) (b := prog_1_method_35_code) (ml := 7) (r := (some .int)) rfl
set_option maxRecDepth 100000 in
theorem fC110 : sm_okM sm_MT sm_MN sm_MB sm_CN sm_T0 110 := sm_chkM_ok fK110 (by decide +kernel) (sm_chkF_ok (N := 90) (fun pc v h => by
  have h : fI110 pc = some v := h
  unfold fI110 at h
  exact Nat.le_of_ble_eq_true (sm_bif h).1) (by decide +kernel))
theorem fK111 : Jvm.Cond.code (sm_MN 111) (sm_MB 111) (sm_MT 111).2.1 (sm_rt (sm_MT 111).2.2.1) ∈ sm_T0 := sm_code_T (k := 4) (i := 93) (y := ⟨"AskedFire$Thought", "season", "()I"⟩) (b := prog_10_method_11_code) (ml := 4) (r := (some .int)) rfl
set_option maxRecDepth 100000 in
theorem fC111 : sm_okM sm_MT sm_MN sm_MB sm_CN sm_T0 111 := sm_chkM_ok fK111 (by decide +kernel) (sm_chkF_ok (N := 77) (fun pc v h => by
  have h : fI111 pc = some v := h
  unfold fI111 at h
  exact Nat.le_of_ble_eq_true (sm_bif h).1) (by decide +kernel))
theorem fK112 : Jvm.Cond.code (sm_MN 112) (sm_MB 112) (sm_MT 112).2.1 (sm_rt (sm_MT 112).2.2.1) ∈ sm_T0 := sm_code_T (k := 4) (i := 97) (y := ⟨"AskedFire$Thought", "drawFires", "(I)I"⟩) (b := prog_10_method_12_code) (ml := 4) (r := (some .int)) rfl
set_option maxRecDepth 100000 in
theorem fC112 : sm_okM sm_MT sm_MN sm_MB sm_CN sm_T0 112 := sm_chkM_ok fK112 (by decide +kernel) (sm_chkF_ok (N := 78) (fun pc v h => by
  have h : fI112 pc = some v := h
  unfold fI112 at h
  exact Nat.le_of_ble_eq_true (sm_bif h).1) (by decide +kernel))
theorem fK113 : Jvm.Cond.code (sm_MN 113) (sm_MB 113) (sm_MT 113).2.1 (sm_rt (sm_MT 113).2.2.1) ∈ sm_T0 := sm_code_T (k := 4) (i := 102) (y := ⟨"AskedFire", "pass", "(I)I"⟩) (b := prog_1_method_36_code) (ml := 3) (r := (some .int)) rfl
set_option maxRecDepth 100000 in
theorem fC113 : sm_okM sm_MT sm_MN sm_MB sm_CN sm_T0 113 := sm_chkM_ok fK113 (by decide +kernel) (sm_chkF_ok (N := 83) (fun pc v h => by
  have h : fI113 pc = some v := h
  unfold fI113 at h
  exact Nat.le_of_ble_eq_true (sm_bif h).1) (by decide +kernel))
theorem fK114 : Jvm.Cond.code (sm_MN 114) (sm_MB 114) (sm_MT 114).2.1 (sm_rt (sm_MT 114).2.2.1) ∈ sm_T0 := sm_code_T (k := 4) (i := 106) (y := ⟨"AskedFire$Club", "dayPassed", "(II)V"⟩) (b := prog_3_method_15_code) (ml := 5) (r := none) rfl
set_option maxRecDepth 100000 in
theorem fC114 : sm_okM sm_MT sm_MN sm_MB sm_CN sm_T0 114 := sm_chkM_ok fK114 (by decide +kernel) (sm_chkF_ok (N := 108) (fun pc v h => by
  have h : fI114 pc = some v := h
  unfold fI114 at h
  exact Nat.le_of_ble_eq_true (sm_bif h).1) (by decide +kernel))
theorem fK115 : Jvm.Cond.code (sm_MN 115) (sm_MB 115) (sm_MT 115).2.1 (sm_rt (sm_MT 115).2.2.1) ∈ sm_T0 := sm_code_T (k := 4) (i := 111) (y := ⟨"AskedFire", "build", "(I)I"⟩) (b := prog_1_method_37_code) (ml := 2) (r := (some .int)) rfl
set_option maxRecDepth 100000 in
theorem fC115 : sm_okM sm_MT sm_MN sm_MB sm_CN sm_T0 115 := sm_chkM_ok fK115 (by decide +kernel) (sm_chkF_ok (N := 61) (fun pc v h => by
  have h : fI115 pc = some v := h
  unfold fI115 at h
  exact Nat.le_of_ble_eq_true (sm_bif h).1) (by decide +kernel))
theorem fK116 : Jvm.Cond.code (sm_MN 116) (sm_MB 116) (sm_MT 116).2.1 (sm_rt (sm_MT 116).2.2.1) ∈ sm_T0 := sm_code_T (k := 4) (i := 115) (y := ⟨"AskedFire", "led", "(I)I"⟩) (b := prog_1_method_38_code) (ml := 2) (r := (some .int)) rfl
set_option maxRecDepth 100000 in
theorem fC116 : sm_okM sm_MT sm_MN sm_MB sm_CN sm_T0 116 := sm_chkM_ok fK116 (by decide +kernel) (sm_chkF_ok (N := 54) (fun pc v h => by
  have h : fI116 pc = some v := h
  unfold fI116 at h
  exact Nat.le_of_ble_eq_true (sm_bif h).1) (by decide +kernel))
theorem fK117 : Jvm.Cond.code (sm_MN 117) (sm_MB 117) (sm_MT 117).2.1 (sm_rt (sm_MT 117).2.2.1) ∈ sm_T0 := sm_code_T (k := 4) (i := 119) (y := ⟨"AskedFire", "image", "()I"⟩) (b := prog_1_method_39_code) (ml := 1) (r := (some .int)) rfl
set_option maxRecDepth 100000 in
theorem fC117 : sm_okM sm_MT sm_MN sm_MB sm_CN sm_T0 117 := sm_chkM_ok fK117 (by decide +kernel) (sm_chkF_ok (N := 19) (fun pc v h => by
  have h : fI117 pc = some v := h
  unfold fI117 at h
  exact Nat.le_of_ble_eq_true (sm_bif h).1) (by decide +kernel))
theorem fK118 : Jvm.Cond.code (sm_MN 118) (sm_MB 118) (sm_MT 118).2.1 (sm_rt (sm_MT 118).2.2.1) ∈ sm_T0 := sm_code_T (k := 4) (i := 123) (y := ⟨"AskedFire$Image", "takeFrom", "(LAskedFire$Club;)V"⟩) (b := prog_6_method_2_code) (ml := 2) (r := none) rfl
set_option maxRecDepth 100000 in
theorem fC118 : sm_okM sm_MT sm_MN sm_MB sm_CN sm_T0 118 := sm_chkM_ok fK118 (by decide +kernel) (sm_chkF_ok (N := 75) (fun pc v h => by
  have h : fI118 pc = some v := h
  unfold fI118 at h
  exact Nat.le_of_ble_eq_true (sm_bif h).1) (by decide +kernel))
theorem fK119 : Jvm.Cond.code (sm_MN 119) (sm_MB 119) (sm_MT 119).2.1 (sm_rt (sm_MT 119).2.2.1) ∈ sm_T0 := sm_code_T (k := 4) (i := 129) (y := ⟨"AskedFire", "back", "()I"⟩) (b := prog_1_method_40_code) (ml := 1) (r := (some .int)) rfl
set_option maxRecDepth 100000 in
theorem fC119 : sm_okM sm_MT sm_MN sm_MB sm_CN sm_T0 119 := sm_chkM_ok fK119 (by decide +kernel) (sm_chkF_ok (N := 32) (fun pc v h => by
  have h : fI119 pc = some v := h
  unfold fI119 at h
  exact Nat.le_of_ble_eq_true (sm_bif h).1) (by decide +kernel))
theorem fK120 : Jvm.Cond.code (sm_MN 120) (sm_MB 120) (sm_MT 120).2.1 (sm_rt (sm_MT 120).2.2.1) ∈ sm_T0 := sm_code_T (k := 4) (i := 133) (y := ⟨"AskedFire$Image", "layOn", "(LAskedFire$Club;)V"⟩) (b := prog_6_method_3_code) (ml := 4) (r := none) rfl
set_option maxRecDepth 100000 in
theorem fC120 : sm_okM sm_MT sm_MN sm_MB sm_CN sm_T0 120 := sm_chkM_ok fK120 (by decide +kernel) (sm_chkF_ok (N := 97) (fun pc v h => by
  have h : fI120 pc = some v := h
  unfold fI120 at h
  exact Nat.le_of_ble_eq_true (sm_bif h).1) (by decide +kernel))
theorem fK121 : Jvm.Cond.code (sm_MN 121) (sm_MB 121) (sm_MT 121).2.1 (sm_rt (sm_MT 121).2.2.1) ∈ sm_T0 := sm_code_T (k := 4) (i := 138) (y := ⟨"AskedFire", "undo", "()I"⟩) (b := prog_1_method_41_code) (ml := 1) (r := (some .int)) rfl
set_option maxRecDepth 100000 in
theorem fC121 : sm_okM sm_MT sm_MN sm_MB sm_CN sm_T0 121 := sm_chkM_ok fK121 (by decide +kernel) (sm_chkF_ok (N := 32) (fun pc v h => by
  have h : fI121 pc = some v := h
  unfold fI121 at h
  exact Nat.le_of_ble_eq_true (sm_bif h).1) (by decide +kernel))
theorem fK122 : Jvm.Cond.code (sm_MN 122) (sm_MB 122) (sm_MT 122).2.1 (sm_rt (sm_MT 122).2.2.1) ∈ sm_T0 := sm_code_T (k := 4) (i := 142) (y := ⟨"AskedFire$Changes", "stepBack", "(LAskedFire$Club;)V"⟩) (b := prog_2_method_3_code) (ml := 3) (r := none) rfl
set_option maxRecDepth 100000 in
theorem fC122 : sm_okM sm_MT sm_MN sm_MB sm_CN sm_T0 122 := sm_chkM_ok fK122 (by decide +kernel) (sm_chkF_ok (N := 44) (fun pc v h => by
  have h : fI122 pc = some v := h
  unfold fI122 at h
  exact Nat.le_of_ble_eq_true (sm_bif h).1) (by decide +kernel))
theorem fK123 : Jvm.Cond.code (sm_MN 123) (sm_MB 123) (sm_MT 123).2.1 (sm_rt (sm_MT 123).2.2.1) ∈ sm_T0 := sm_code_T (k := 4) (i := 147) (y := ⟨"AskedFire", "redo", "()I"⟩) (b := prog_1_method_42_code) (ml := 1) (r := (some .int)) rfl
set_option maxRecDepth 100000 in
theorem fC123 : sm_okM sm_MT sm_MN sm_MB sm_CN sm_T0 123 := sm_chkM_ok fK123 (by decide +kernel) (sm_chkF_ok (N := 47) (fun pc v h => by
  have h : fI123 pc = some v := h
  unfold fI123 at h
  exact Nat.le_of_ble_eq_true (sm_bif h).1) (by decide +kernel))
theorem fK124 : Jvm.Cond.code (sm_MN 124) (sm_MB 124) (sm_MT 124).2.1 (sm_rt (sm_MT 124).2.2.1) ∈ sm_T0 := sm_code_T (k := 4) (i := 151) (y := ⟨"AskedFire$Changes", "stepOn", "(LAskedFire$Club;)V"⟩) (b := prog_2_method_4_code) (ml := 3) (r := none) rfl
set_option maxRecDepth 100000 in
theorem fC124 : sm_okM sm_MT sm_MN sm_MB sm_CN sm_T0 124 := sm_chkM_ok fK124 (by decide +kernel) (sm_chkF_ok (N := 44) (fun pc v h => by
  have h : fI124 pc = some v := h
  unfold fI124 at h
  exact Nat.le_of_ble_eq_true (sm_bif h).1) (by decide +kernel))
theorem fK125 : Jvm.Cond.code (sm_MN 125) (sm_MB 125) (sm_MT 125).2.1 (sm_rt (sm_MT 125).2.2.1) ∈ sm_T0 := sm_code_T (k := 4) (i := 155) (y := ⟨"AskedFire", "body", "(I)I"⟩) (b := prog_1_method_43_code) (ml := 2) (r := (some .int)) rfl
set_option maxRecDepth 100000 in
theorem fC125 : sm_okM sm_MT sm_MN sm_MB sm_CN sm_T0 125 := sm_chkM_ok fK125 (by decide +kernel) (sm_chkF_ok (N := 18) (fun pc v h => by
  have h : fI125 pc = some v := h
  unfold fI125 at h
  exact Nat.le_of_ble_eq_true (sm_bif h).1) (by decide +kernel))
theorem fK126 : Jvm.Cond.code (sm_MN 126) (sm_MB 126) (sm_MT 126).2.1 (sm_rt (sm_MT 126).2.2.1) ∈ sm_T0 := sm_code_T (k := 4) (i := 158) (y := ⟨"AskedFire$Gentlemen", "isKind", "(I)Z"⟩) (b := prog_5_method_2_code) (ml := 1) (r := (some .boolean)) rfl
set_option maxRecDepth 100000 in
theorem fC126 : sm_okM sm_MT sm_MN sm_MB sm_CN sm_T0 126 := sm_chkM_ok fK126 (by decide +kernel) (sm_chkF_ok (N := 16) (fun pc v h => by
  have h : fI126 pc = some v := h
  unfold fI126 at h
  exact Nat.le_of_ble_eq_true (sm_bif h).1) (by decide +kernel))
theorem fK127 : Jvm.Cond.code (sm_MN 127) (sm_MB 127) (sm_MT 127).2.1 (sm_rt (sm_MT 127).2.2.1) ∈ sm_T0 := sm_code_T (k := 4) (i := 162) (y := ⟨"AskedFire$Gentlemen", "join", "(I)I"⟩) (b := prog_5_method_5_code) (ml := 2) (r := (some .int)) rfl
set_option maxRecDepth 100000 in
theorem fC127 : sm_okM sm_MT sm_MN sm_MB sm_CN sm_T0 127 := sm_chkM_ok fK127 (by decide +kernel) (sm_chkF_ok (N := 34) (fun pc v h => by
  have h : fI127 pc = some v := h
  unfold fI127 at h
  exact Nat.le_of_ble_eq_true (sm_bif h).1) (by decide +kernel))
theorem fK128 : Jvm.Cond.code (sm_MN 128) (sm_MB 128) (sm_MT 128).2.1 (sm_rt (sm_MT 128).2.2.1) ∈ sm_T0 := sm_code_T (k := 4) (i := 166) (y := ⟨"AskedFire", "act", "(III)I"⟩) (b := prog_1_method_44_code) (ml := 4) (r := (some .int)) rfl
set_option maxRecDepth 100000 in
theorem fC128 : sm_okM sm_MT sm_MN sm_MB sm_CN sm_T0 128 := sm_chkM_ok fK128 (by decide +kernel) (sm_chkF_ok (N := 40) (fun pc v h => by
  have h : fI128 pc = some v := h
  unfold fI128 at h
  exact Nat.le_of_ble_eq_true (sm_bif h).1) (by decide +kernel))
theorem fK129 : Jvm.Cond.code (sm_MN 129) (sm_MB 129) (sm_MT 129).2.1 (sm_rt (sm_MT 129).2.2.1) ∈ sm_T0 := sm_code_T (k := 4) (i := 170) (y := ⟨"AskedFire$Gentlemen", "forgetTrace", "()V"⟩) (b := prog_5_method_6_code) (ml := 1) (r := none) rfl
set_option maxRecDepth 100000 in
theorem fC129 : sm_okM sm_MT sm_MN sm_MB sm_CN sm_T0 129 := sm_chkM_ok fK129 (by decide +kernel) (sm_chkF_ok (N := 6) (fun pc v h => by
  have h : fI129 pc = some v := h
  unfold fI129 at h
  exact Nat.le_of_ble_eq_true (sm_bif h).1) (by decide +kernel))
theorem fK130 : Jvm.Cond.code (sm_MN 130) (sm_MB 130) (sm_MT 130).2.1 (sm_rt (sm_MT 130).2.2.1) ∈ sm_T0 := sm_code_T (k := 4) (i := 174) (y := ⟨"AskedFire$Gentlemen", "isBody", "(I)Z"⟩) (b := prog_5_method_4_code) (ml := 2) (r := (some .boolean)) rfl
set_option maxRecDepth 100000 in
theorem fC130 : sm_okM sm_MT sm_MN sm_MB sm_CN sm_T0 130 := sm_chkM_ok fK130 (by decide +kernel) (sm_chkF_ok (N := 18) (fun pc v h => by
  have h : fI130 pc = some v := h
  unfold fI130 at h
  exact Nat.le_of_ble_eq_true (sm_bif h).1) (by decide +kernel))
theorem fK131 : Jvm.Cond.code (sm_MN 131) (sm_MB 131) (sm_MT 131).2.1 (sm_rt (sm_MT 131).2.2.1) ∈ sm_T0 := sm_code_T (k := 4) (i := 178) (y := ⟨"AskedFire$Gentlemen", "answer", "(III)I"⟩) (b := prog_5_method_8_code) (ml := 4) (r := (some .int)) rfl
set_option maxRecDepth 100000 in
theorem fC131 : sm_okM sm_MT sm_MN sm_MB sm_CN sm_T0 131 := sm_chkM_ok fK131 (by decide +kernel) (sm_chkF_ok (N := 9) (fun pc v h => by
  have h : fI131 pc = some v := h
  unfold fI131 at h
  exact Nat.le_of_ble_eq_true (sm_bif h).1) (by decide +kernel))
theorem fK132 : Jvm.Cond.code (sm_MN 132) (sm_MB 132) (sm_MT 132).2.1 (sm_rt (sm_MT 132).2.2.1) ∈ sm_T0 := sm_code_T (k := 4) (i := 182) (y := ⟨"AskedFire$Gentlemen", "does", "(IIII)I"⟩) (b := prog_5_method_9_code) (ml := 5) (r := (some .int)) rfl
set_option maxRecDepth 100000 in
theorem fC132 : sm_okM sm_MT sm_MN sm_MB sm_CN sm_T0 132 := sm_chkM_ok fK132 (by decide +kernel) (sm_chkF_ok (N := 18) (fun pc v h => by
  have h : fI132 pc = some v := h
  unfold fI132 at h
  exact Nat.le_of_ble_eq_true (sm_bif h).1) (by decide +kernel))
theorem fK133 : Jvm.Cond.code (sm_MN 133) (sm_MB 133) (sm_MT 133).2.1 (sm_rt (sm_MT 133).2.2.1) ∈ sm_T0 := sm_code_T (k := 4) (i := 186) (y := ⟨"AskedFire$Gentlemen", "runs", "(IIIII)I"⟩) (b := prog_5_method_10_code) (ml := 8) (r := (some .int)) rfl
set_option maxRecDepth 100000 in
theorem fC133 : sm_okM sm_MT sm_MN sm_MB sm_CN sm_T0 133 := sm_chkM_ok fK133 (by decide +kernel) (sm_chkF_ok (N := 137) (fun pc v h => by
  have h : fI133 pc = some v := h
  unfold fI133 at h
  exact Nat.le_of_ble_eq_true (sm_bif h).1) (by decide +kernel))
theorem fK134 : Jvm.Cond.code (sm_MN 134) (sm_MB 134) (sm_MT 134).2.1 (sm_rt (sm_MT 134).2.2.1) ∈ sm_T0 := sm_code_T (k := 4) (i := 194) (y := ⟨"AskedFire$Gentlemen", "asMember", "(IIII)I"⟩) (b := prog_5_method_11_code) (ml := 6) (r := (some .int)) rfl
set_option maxRecDepth 100000 in
theorem fC134 : sm_okM sm_MT sm_MN sm_MB sm_CN sm_T0 134 := sm_chkM_ok fK134 (by decide +kernel) (sm_chkF_ok (N := 72) (fun pc v h => by
  have h : fI134 pc = some v := h
  unfold fI134 at h
  exact Nat.le_of_ble_eq_true (sm_bif h).1) (by decide +kernel))
theorem fK135 : Jvm.Cond.code (sm_MN 135) (sm_MB 135) (sm_MT 135).2.1 (sm_rt (sm_MT 135).2.2.1) ∈ sm_T0 := sm_code_T (k := 4) (i := 198) (y := ⟨"AskedFire$Gentlemen", "asOther", "(IIIII)I"⟩) (b := prog_5_method_12_code) (ml := 9) (r := (some .int)) rfl
set_option maxRecDepth 100000 in
theorem fC135 : sm_okM sm_MT sm_MN sm_MB sm_CN sm_T0 135 := sm_chkM_ok fK135 (by decide +kernel) (sm_chkF_ok (N := 251) (fun pc v h => by
  have h : fI135 pc = some v := h
  unfold fI135 at h
  exact Nat.le_of_ble_eq_true (sm_bif h).1) (by decide +kernel))
theorem fK136 : Jvm.Cond.code (sm_MN 136) (sm_MB 136) (sm_MT 136).2.1 (sm_rt (sm_MT 136).2.2.1) ∈ sm_T0 := sm_code_T (k := 4) (i := 202) (y := ⟨"AskedFire", "trace", "(I)I"⟩) (b := prog_1_method_45_code) (ml := 2) (r := (some .int)) rfl
set_option maxRecDepth 100000 in
theorem fC136 : sm_okM sm_MT sm_MN sm_MB sm_CN sm_T0 136 := sm_chkM_ok fK136 (by decide +kernel) (sm_chkF_ok (N := 29) (fun pc v h => by
  have h : fI136 pc = some v := h
  unfold fI136 at h
  exact Nat.le_of_ble_eq_true (sm_bif h).1) (by decide +kernel))
theorem fK137 : Jvm.Cond.code (sm_MN 137) (sm_MB 137) (sm_MT 137).2.1 (sm_rt (sm_MT 137).2.2.1) ∈ sm_T0 := sm_code_T (k := 4) (i := 206) (y := ⟨"AskedFire$Gentlemen", "traced", "()I"⟩) (b := prog_5_method_7_code) (ml := 1) (r := (some .int)) rfl
set_option maxRecDepth 100000 in
theorem fC137 : sm_okM sm_MT sm_MN sm_MB sm_CN sm_T0 137 := sm_chkM_ok fK137 (by decide +kernel) (sm_chkF_ok (N := 10) (fun pc v h => by
  have h : fI137 pc = some v := h
  unfold fI137 at h
  exact Nat.le_of_ble_eq_true (sm_bif h).1) (by decide +kernel))
theorem fK138 : Jvm.Cond.code (sm_MN 138) (sm_MB 138) (sm_MT 138).2.1 (sm_rt (sm_MT 138).2.2.1) ∈ sm_T0 := sm_code_T (k := 4) (i := 211) (y := ⟨"AskedFire", "keep", "(II)I"⟩) (b := prog_1_method_46_code) (ml := 3) (r := (some .int)) rfl
set_option maxRecDepth 100000 in
theorem fC138 : sm_okM sm_MT sm_MN sm_MB sm_CN sm_T0 138 := sm_chkM_ok fK138 (by decide +kernel) (sm_chkF_ok (N := 37) (fun pc v h => by
  have h : fI138 pc = some v := h
  unfold fI138 at h
  exact Nat.le_of_ble_eq_true (sm_bif h).1) (by decide +kernel))
theorem fK139 : Jvm.Cond.code (sm_MN 139) (sm_MB 139) (sm_MT 139).2.1 (sm_rt (sm_MT 139).2.2.1) ∈ sm_T0 := sm_code_T (k := 4) (i := 215) (y := ⟨"AskedFire$Shelf", "holdBody", "(I)V"⟩) (b := prog_9_method_5_code) (ml := 2) (r := none) rfl
set_option maxRecDepth 100000 in
theorem fC139 : sm_okM sm_MT sm_MN sm_MB sm_CN sm_T0 139 := sm_chkM_ok fK139 (by decide +kernel) (sm_chkF_ok (N := 16) (fun pc v h => by
  have h : fI139 pc = some v := h
  unfold fI139 at h
  exact Nat.le_of_ble_eq_true (sm_bif h).1) (by decide +kernel))
theorem fK140 : Jvm.Cond.code (sm_MN 140) (sm_MB 140) (sm_MT 140).2.1 (sm_rt (sm_MT 140).2.2.1) ∈ sm_T0 := sm_code_T (k := 4) (i := 219) (y := ⟨"AskedFire", "row", "(III)I"⟩) (b := prog_1_method_47_code) (ml := 4) (r := (some .int)) rfl
set_option maxRecDepth 100000 in
theorem fC140 : sm_okM sm_MT sm_MN sm_MB sm_CN sm_T0 140 := sm_chkM_ok fK140 (by decide +kernel) (sm_chkF_ok (N := 44) (fun pc v h => by
  have h : fI140 pc = some v := h
  unfold fI140 at h
  exact Nat.le_of_ble_eq_true (sm_bif h).1) (by decide +kernel))
theorem fK141 : Jvm.Cond.code (sm_MN 141) (sm_MB 141) (sm_MT 141).2.1 (sm_rt (sm_MT 141).2.2.1) ∈ sm_T0 := sm_code_T (k := 4) (i := 223) (y := ⟨"AskedFire$Shelf", "holdRow", "(II)V"⟩) (b := prog_9_method_6_code) (ml := 4) (r := none) rfl
set_option maxRecDepth 100000 in
theorem fC141 : sm_okM sm_MT sm_MN sm_MB sm_CN sm_T0 141 := sm_chkM_ok fK141 (by decide +kernel) (sm_chkF_ok (N := 36) (fun pc v h => by
  have h : fI141 pc = some v := h
  unfold fI141 at h
  exact Nat.le_of_ble_eq_true (sm_bif h).1) (by decide +kernel))
theorem fK142 : Jvm.Cond.code (sm_MN 142) (sm_MB 142) (sm_MT 142).2.1 (sm_rt (sm_MT 142).2.2.1) ∈ sm_T0 := sm_code_T (k := 4) (i := 227) (y := ⟨"AskedFire", "put", "(IIJ)I"⟩) (b := prog_1_method_48_code) (ml := 7) (r := (some .int)) rfl
set_option maxRecDepth 100000 in
theorem fC142 : sm_okM sm_MT sm_MN sm_MB sm_CN sm_T0 142 := sm_chkM_ok fK142 (by decide +kernel) (sm_chkF_ok (N := 51) (fun pc v h => by
  have h : fI142 pc = some v := h
  unfold fI142 at h
  exact Nat.le_of_ble_eq_true (sm_bif h).1) (by decide +kernel))
theorem fK143 : Jvm.Cond.code (sm_MN 143) (sm_MB 143) (sm_MT 143).2.1 (sm_rt (sm_MT 143).2.2.1) ∈ sm_T0 := sm_code_T (k := 4) (i := 231) (y := ⟨"AskedFire$Shelf", "refusalOfPlace", "(I)I"⟩) (b := prog_9_method_8_code) (ml := 2) (r := (some .int)) rfl
set_option maxRecDepth 100000 in
theorem fC143 : sm_okM sm_MT sm_MN sm_MB sm_CN sm_T0 143 := sm_chkM_ok fK143 (by decide +kernel) (sm_chkF_ok (N := 39) (fun pc v h => by
  have h : fI143 pc = some v := h
  unfold fI143 at h
  exact Nat.le_of_ble_eq_true (sm_bif h).1) (by decide +kernel))
theorem fK144 : Jvm.Cond.code (sm_MN 144) (sm_MB 144) (sm_MT 144).2.1 (sm_rt (sm_MT 144).2.2.1) ∈ sm_T0 := sm_code_T (k := 4) (i := 235) (y := ⟨"AskedFire$Shelf", "holdsRow", "()Z"⟩) (b := prog_9_method_3_code) (ml := 1) (r := (some .boolean)) rfl
set_option maxRecDepth 100000 in
theorem fC144 : sm_okM sm_MT sm_MN sm_MB sm_CN sm_T0 144 := sm_chkM_ok fK144 (by decide +kernel) (sm_chkF_ok (N := 14) (fun pc v h => by
  have h : fI144 pc = some v := h
  unfold fI144 at h
  exact Nat.le_of_ble_eq_true (sm_bif h).1) (by decide +kernel))
theorem fK145 : Jvm.Cond.code (sm_MN 145) (sm_MB 145) (sm_MT 145).2.1 (sm_rt (sm_MT 145).2.2.1) ∈ sm_T0 := sm_code_T (k := 4) (i := 238) (y := ⟨"AskedFire$Shelf", "lowest", "(IJ)J"⟩) (b := prog_9_method_10_code) (ml := 3) (r := (some .long)) rfl
set_option maxRecDepth 100000 in
theorem fC145 : sm_okM sm_MT sm_MN sm_MB sm_CN sm_T0 145 := sm_chkM_ok fK145 (by decide +kernel) (sm_chkF_ok (N := 60) (fun pc v h => by
  have h : fI145 pc = some v := h
  unfold fI145 at h
  exact Nat.le_of_ble_eq_true (sm_bif h).1) (by decide +kernel))
theorem fK146 : Jvm.Cond.code (sm_MN 146) (sm_MB 146) (sm_MT 146).2.1 (sm_rt (sm_MT 146).2.2.1) ∈ sm_T0 := sm_code_T (k := 5) (i := 2) (y := ⟨"AskedFire", "element", "(II)J"⟩) (b := prog_1_method_49_code) (ml := 3) (r := (some .long)) rfl
set_option maxRecDepth 100000 in
theorem fC146 : sm_okM sm_MT sm_MN sm_MB sm_CN sm_T0 146 := sm_chkM_ok fK146 (by decide +kernel) (sm_chkF_ok (N := 36) (fun pc v h => by
  have h : fI146 pc = some v := h
  unfold fI146 at h
  exact Nat.le_of_ble_eq_true (sm_bif h).1) (by decide +kernel))
theorem fK147 : Jvm.Cond.code (sm_MN 147) (sm_MB 147) (sm_MT 147).2.1 (sm_rt (sm_MT 147).2.2.1) ∈ sm_T0 := sm_code_T (k := 5) (i := 6) (y := ⟨"AskedFire", "shift", "(IIIII)I"⟩) (b := prog_1_method_50_code) (ml := 8) (r := (some .int)) rfl
set_option maxRecDepth 100000 in
theorem fC147 : sm_okM sm_MT sm_MN sm_MB sm_CN sm_T0 147 := sm_chkM_ok fK147 (by decide +kernel) (sm_chkF_ok (N := 130) (fun pc v h => by
  have h : fI147 pc = some v := h
  unfold fI147 at h
  exact Nat.le_of_ble_eq_true (sm_bif h).1) (by decide +kernel))
theorem fK148 : Jvm.Cond.code (sm_MN 148) (sm_MB 148) (sm_MT 148).2.1 (sm_rt (sm_MT 148).2.2.1) ∈ sm_T0 := sm_code_T (k := 5) (i := 11) (y := ⟨"AskedFire$Shelf", "hasPlaces", "(II)Z"⟩) (b := prog_9_method_9_code) (ml := 3) (r := (some .boolean)) rfl
set_option maxRecDepth 100000 in
theorem fC148 : sm_okM sm_MT sm_MN sm_MB sm_CN sm_T0 148 := sm_chkM_ok fK148 (by decide +kernel) (sm_chkF_ok (N := 32) (fun pc v h => by
  have h : fI148 pc = some v := h
  unfold fI148 at h
  exact Nat.le_of_ble_eq_true (sm_bif h).1) (by decide +kernel))
theorem fK149 : Jvm.Cond.code (sm_MN 149) (sm_MB 149) (sm_MT 149).2.1 (sm_rt (sm_MT 149).2.2.1) ∈ sm_T0 := sm_code_T (k := 5) (i := 16) (y := ⟨"AskedFire", "taken", "(II)I"⟩) (b := prog_1_method_51_code) (ml := 5) (r := (some .int)) rfl
set_option maxRecDepth 100000 in
theorem fC149 : sm_okM sm_MT sm_MN sm_MB sm_CN sm_T0 149 := sm_chkM_ok fK149 (by decide +kernel) (sm_chkF_ok (N := 88) (fun pc v h => by
  have h : fI149 pc = some v := h
  unfold fI149 at h
  exact Nat.le_of_ble_eq_true (sm_bif h).1) (by decide +kernel))
theorem fK150 : Jvm.Cond.code (sm_MN 150) (sm_MB 150) (sm_MT 150).2.1 (sm_rt (sm_MT 150).2.2.1) ∈ sm_T0 := sm_code_T (k := 5) (i := 19) (y := ⟨"AskedFire$Gentlemen", "isUnder", "(II)Z"⟩) (b := prog_5_method_3_code) (ml := 4) (r := (some .boolean)) rfl
set_option maxRecDepth 100000 in
theorem fC150 : sm_okM sm_MT sm_MN sm_MB sm_CN sm_T0 150 := sm_chkM_ok fK150 (by decide +kernel) (sm_chkF_ok (N := 35) (fun pc v h => by
  have h : fI150 pc = some v := h
  unfold fI150 at h
  exact Nat.le_of_ble_eq_true (sm_bif h).1) (by decide +kernel))
theorem fK151 : Jvm.Cond.code (sm_MN 151) (sm_MB 151) (sm_MT 151).2.1 (sm_rt (sm_MT 151).2.2.1) ∈ sm_T0 := sm_code_T (k := 5) (i := 23) (y := ⟨"AskedFire", "count", "(I)I"⟩) (b := prog_1_method_52_code) (ml := 2) (r := (some .int)) rfl
set_option maxRecDepth 100000 in
theorem fC151 : sm_okM sm_MT sm_MN sm_MB sm_CN sm_T0 151 := sm_chkM_ok fK151 (by decide +kernel) (sm_chkF_ok (N := 90) (fun pc v h => by
  have h : fI151 pc = some v := h
  unfold fI151 at h
  exact Nat.le_of_ble_eq_true (sm_bif h).1) (by decide +kernel))
theorem fK152 : Jvm.Cond.code (sm_MN 152) (sm_MB 152) (sm_MT 152).2.1 (sm_rt (sm_MT 152).2.2.1) ∈ sm_T0 := sm_code_T (k := 5) (i := 28) (y := ⟨"AskedFireModel", "<init>", "()V"⟩) (b := prog_12_method_1_code) (ml := 1) (r := none) rfl
set_option maxRecDepth 100000 in
theorem fC152 : sm_okM sm_MT sm_MN sm_MB sm_CN sm_T0 152 := sm_chkM_ok fK152 (by decide +kernel) (sm_chkF_ok (N := 468) (fun pc v h => by
  have h : fI152 pc = some v := h
  unfold fI152 at h
  exact Nat.le_of_ble_eq_true (sm_bif h).1) (by decide +kernel))
theorem fK153 : Jvm.Cond.code (sm_MN 153) (sm_MB 153) (sm_MT 153).2.1 (sm_rt (sm_MT 153).2.2.1) ∈ sm_T0 := sm_code_T (k := 5) (i := 230) (y := ⟨"AskedFireModel", "house", "(I)I"⟩) (b := prog_12_method_8_code) (ml := 2) (r := (some .int)) rfl
set_option maxRecDepth 100000 in
theorem fC153 : sm_okM sm_MT sm_MN sm_MB sm_CN sm_T0 153 := sm_chkM_ok fK153 (by decide +kernel) (sm_chkF_ok (N := 107) (fun pc v h => by
  have h : fI153 pc = some v := h
  unfold fI153 at h
  exact Nat.le_of_ble_eq_true (sm_bif h).1) (by decide +kernel))
theorem fK154 : Jvm.Cond.code (sm_MN 154) (sm_MB 154) (sm_MT 154).2.1 (sm_rt (sm_MT 154).2.2.1) ∈ sm_T0 := sm_code_T (k := 5) (i := 233) (y := ⟨"AskedFireModel", "in", "(III)Z"⟩) (b := prog_12_method_3_code) (ml := 3) (r := (some .boolean)) rfl
set_option maxRecDepth 100000 in
theorem fC154 : sm_okM sm_MT sm_MN sm_MB sm_CN sm_T0 154 := sm_chkM_ok fK154 (by decide +kernel) (sm_chkF_ok (N := 16) (fun pc v h => by
  have h : fI154 pc = some v := h
  unfold fI154 at h
  exact Nat.le_of_ble_eq_true (sm_bif h).1) (by decide +kernel))
theorem fK155 : Jvm.Cond.code (sm_MN 155) (sm_MB 155) (sm_MT 155).2.1 (sm_rt (sm_MT 155).2.2.1) ∈ sm_T0 := sm_code_T (k := 5) (i := 237) (y := ⟨"AskedFireModel", "card", "(II)I"⟩) (b := prog_12_method_10_code) (ml := 3) (r := (some .int)) rfl
set_option maxRecDepth 100000 in
theorem fC155 : sm_okM sm_MT sm_MN sm_MB sm_CN sm_T0 155 := sm_chkM_ok fK155 (by decide +kernel) (sm_chkF_ok (N := 41) (fun pc v h => by
  have h : fI155 pc = some v := h
  unfold fI155 at h
  exact Nat.le_of_ble_eq_true (sm_bif h).1) (by decide +kernel))
theorem fK156 : Jvm.Cond.code (sm_MN 156) (sm_MB 156) (sm_MT 156).2.1 (sm_rt (sm_MT 156).2.2.1) ∈ sm_T0 := sm_code_T (k := 6) (i := 1) (y := ⟨"AskedFireModel", "isHouse", "(I)Z"⟩) (b := prog_12_method_5_code) (ml := 2) (r := (some .boolean)) rfl
set_option maxRecDepth 100000 in
theorem fC156 : sm_okM sm_MT sm_MN sm_MB sm_CN sm_T0 156 := sm_chkM_ok fK156 (by decide +kernel) (sm_chkF_ok (N := 12) (fun pc v h => by
  have h : fI156 pc = some v := h
  unfold fI156 at h
  exact Nat.le_of_ble_eq_true (sm_bif h).1) (by decide +kernel))
theorem fK157 : Jvm.Cond.code (sm_MN 157) (sm_MB 157) (sm_MT 157).2.1 (sm_rt (sm_MT 157).2.2.1) ∈ sm_T0 := sm_code_T (k := 6) (i := 5) (y := ⟨"AskedFireModel", "addCard", "(II)I"⟩) (b := prog_12_method_9_code) (ml := 3) (r := (some .int)) rfl
set_option maxRecDepth 100000 in
theorem fC157 : sm_okM sm_MT sm_MN sm_MB sm_CN sm_T0 157 := sm_chkM_ok fK157 (by decide +kernel) (sm_chkF_ok (N := 37) (fun pc v h => by
  have h : fI157 pc = some v := h
  unfold fI157 at h
  exact Nat.le_of_ble_eq_true (sm_bif h).1) (by decide +kernel))
theorem fK158 : Jvm.Cond.code (sm_MN 158) (sm_MB 158) (sm_MT 158).2.1 (sm_rt (sm_MT 158).2.2.1) ∈ sm_T0 := sm_code_T (k := 6) (i := 9) (y := ⟨"AskedFireModel", "cards", "(III)I"⟩) (b := prog_12_method_11_code) (ml := 8) (r := (some .int)) rfl
set_option maxRecDepth 100000 in
theorem fC158 : sm_okM sm_MT sm_MN sm_MB sm_CN sm_T0 158 := sm_chkM_ok fK158 (by decide +kernel) (sm_chkF_ok (N := 186) (fun pc v h => by
  have h : fI158 pc = some v := h
  unfold fI158 at h
  exact Nat.le_of_ble_eq_true (sm_bif h).1) (by decide +kernel))
theorem fK159 : Jvm.Cond.code (sm_MN 159) (sm_MB 159) (sm_MT 159).2.1 (sm_rt (sm_MT 159).2.2.1) ∈ sm_T0 := sm_code_T (k := 6) (i := 12) (y := ⟨"AskedFireModel", "isShelf", "(I)Z"⟩) (b := prog_12_method_112_code) (ml := 1) (r := (some .boolean)) rfl
set_option maxRecDepth 100000 in
theorem fC159 : sm_okM sm_MT sm_MN sm_MB sm_CN sm_T0 159 := sm_chkM_ok fK159 (by decide +kernel) (sm_chkF_ok (N := 7) (fun pc v h => by
  have h : fI159 pc = some v := h
  unfold fI159 at h
  exact Nat.le_of_ble_eq_true (sm_bif h).1) (by decide +kernel))
theorem fK160 : Jvm.Cond.code (sm_MN 160) (sm_MB 160) (sm_MT 160).2.1 (sm_rt (sm_MT 160).2.2.1) ∈ sm_T0 := sm_code_T (k := 6) (i := 16) (y := ⟨"AskedFireModel", "undo", "()I"⟩) (b := prog_12_method_15_code) (ml := 1) (r := (some .int)) rfl
set_option maxRecDepth 100000 in
theorem fC160 : sm_okM sm_MT sm_MN sm_MB sm_CN sm_T0 160 := sm_chkM_ok fK160 (by decide +kernel) (sm_chkF_ok (N := 66) (fun pc v h => by
  have h : fI160 pc = some v := h
  unfold fI160 at h
  exact Nat.le_of_ble_eq_true (sm_bif h).1) (by decide +kernel))
theorem fK161 : Jvm.Cond.code (sm_MN 161) (sm_MB 161) (sm_MT 161).2.1 (sm_rt (sm_MT 161).2.2.1) ∈ sm_T0 := sm_code_T (k := 6) (i := 20) (y := ⟨"AskedFireModel", "lays", "(III)V"⟩) (b := prog_12_method_13_code) (ml := 4) (r := none) rfl
set_option maxRecDepth 100000 in
theorem fC161 : sm_okM sm_MT sm_MN sm_MB sm_CN sm_T0 161 := sm_chkM_ok fK161 (by decide +kernel) (sm_chkF_ok (N := 120) (fun pc v h => by
  have h : fI161 pc = some v := h
  unfold fI161 at h
  exact Nat.le_of_ble_eq_true (sm_bif h).1) (by decide +kernel))
theorem fK162 : Jvm.Cond.code (sm_MN 162) (sm_MB 162) (sm_MT 162).2.1 (sm_rt (sm_MT 162).2.2.1) ∈ sm_T0 := sm_code_T (k := 6) (i := 24) (y := ⟨"AskedFireModel", "redo", "()I"⟩) (b := prog_12_method_16_code) (ml := 1) (r := (some .int)) rfl
set_option maxRecDepth 100000 in
theorem fC162 : sm_okM sm_MT sm_MN sm_MB sm_CN sm_T0 162 := sm_chkM_ok fK162 (by decide +kernel) (sm_chkF_ok (N := 66) (fun pc v h => by
  have h : fI162 pc = some v := h
  unfold fI162 at h
  exact Nat.le_of_ble_eq_true (sm_bif h).1) (by decide +kernel))
theorem fK163 : Jvm.Cond.code (sm_MN 163) (sm_MB 163) (sm_MT 163).2.1 (sm_rt (sm_MT 163).2.2.1) ∈ sm_T0 := sm_code_T (k := 6) (i := 28) (y := ⟨"AskedFireModel", "mend", "(III)I"⟩) (b := prog_12_method_19_code) (ml := 4) (r := (some .int)) rfl
set_option maxRecDepth 100000 in
theorem fC163 : sm_okM sm_MT sm_MN sm_MB sm_CN sm_T0 163 := sm_chkM_ok fK163 (by decide +kernel) (sm_chkF_ok (N := 30) (fun pc v h => by
  have h : fI163 pc = some v := h
  unfold fI163 at h
  exact Nat.le_of_ble_eq_true (sm_bif h).1) (by decide +kernel))
theorem fK164 : Jvm.Cond.code (sm_MN 164) (sm_MB 164) (sm_MT 164).2.1 (sm_rt (sm_MT 164).2.2.1) ∈ sm_T0 := sm_code_T (k := 6) (i := 32) (y := ⟨"AskedFireModel", "isPlace", "(II)Z"⟩) (b := prog_12_method_17_code) (ml := 3) (r := (some .boolean)) rfl
set_option maxRecDepth 100000 in
theorem fC164 : sm_okM sm_MT sm_MN sm_MB sm_CN sm_T0 164 := sm_chkM_ok fK164 (by decide +kernel) (sm_chkF_ok (N := 59) (fun pc v h => by
  have h : fI164 pc = some v := h
  unfold fI164 at h
  exact Nat.le_of_ble_eq_true (sm_bif h).1) (by decide +kernel))
theorem fK165 : Jvm.Cond.code (sm_MN 165) (sm_MB 165) (sm_MT 165).2.1 (sm_rt (sm_MT 165).2.2.1) ∈ sm_T0 := sm_code_T (k := 6) (i := 35) (y := ⟨"AskedFireModel", "isDay", "(I)Z"⟩) (b := prog_12_method_7_code) (ml := 1) (r := (some .boolean)) rfl
set_option maxRecDepth 100000 in
theorem fC165 : sm_okM sm_MT sm_MN sm_MB sm_CN sm_T0 165 := sm_chkM_ok fK165 (by decide +kernel) (sm_chkF_ok (N := 8) (fun pc v h => by
  have h : fI165 pc = some v := h
  unfold fI165 at h
  exact Nat.le_of_ble_eq_true (sm_bif h).1) (by decide +kernel))
theorem fK166 : Jvm.Cond.code (sm_MN 166) (sm_MB 166) (sm_MT 166).2.1 (sm_rt (sm_MT 166).2.2.1) ∈ sm_T0 := sm_code_T (k := 6) (i := 39) (y := ⟨"AskedFireModel", "isCard", "(I)Z"⟩) (b := prog_12_method_6_code) (ml := 2) (r := (some .boolean)) rfl
set_option maxRecDepth 100000 in
theorem fC166 : sm_okM sm_MT sm_MN sm_MB sm_CN sm_T0 166 := sm_chkM_ok fK166 (by decide +kernel) (sm_chkF_ok (N := 12) (fun pc v h => by
  have h : fI166 pc = some v := h
  unfold fI166 at h
  exact Nat.le_of_ble_eq_true (sm_bif h).1) (by decide +kernel))
theorem fK167 : Jvm.Cond.code (sm_MN 167) (sm_MB 167) (sm_MT 167).2.1 (sm_rt (sm_MT 167).2.2.1) ∈ sm_T0 := sm_code_T (k := 6) (i := 42) (y := ⟨"AskedFireModel", "mayHave", "(II)Z"⟩) (b := prog_12_method_18_code) (ml := 2) (r := (some .boolean)) rfl
set_option maxRecDepth 100000 in
theorem fC167 : sm_okM sm_MT sm_MN sm_MB sm_CN sm_T0 167 := sm_chkM_ok fK167 (by decide +kernel) (sm_chkF_ok (N := 94) (fun pc v h => by
  have h : fI167 pc = some v := h
  unfold fI167 at h
  exact Nat.le_of_ble_eq_true (sm_bif h).1) (by decide +kernel))
theorem fK168 : Jvm.Cond.code (sm_MN 168) (sm_MB 168) (sm_MT 168).2.1 (sm_rt (sm_MT 168).2.2.1) ∈ sm_T0 := sm_code_T (k := 6) (i := 46) (y := ⟨"AskedFireModel", "changes", "(III)I"⟩) (b := prog_12_method_14_code) (ml := 6) (r := (some .int)) rfl
set_option maxRecDepth 100000 in
theorem fC168 : sm_okM sm_MT sm_MN sm_MB sm_CN sm_T0 168 := sm_chkM_ok fK168 (by decide +kernel) (sm_chkF_ok (N := 182) (fun pc v h => by
  have h : fI168 pc = some v := h
  unfold fI168 at h
  exact Nat.le_of_ble_eq_true (sm_bif h).1) (by decide +kernel))
theorem fK169 : Jvm.Cond.code (sm_MN 169) (sm_MB 169) (sm_MT 169).2.1 (sm_rt (sm_MT 169).2.2.1) ∈ sm_T0 := sm_code_T (k := 6) (i := 50) (y := ⟨"AskedFireModel", "valueAt", "(II)I"⟩) (b := prog_12_method_12_code) (ml := 3) (r := (some .int)) rfl
set_option maxRecDepth 100000 in
theorem fC169 : sm_okM sm_MT sm_MN sm_MB sm_CN sm_T0 169 := sm_chkM_ok fK169 (by decide +kernel) (sm_chkF_ok (N := 98) (fun pc v h => by
  have h : fI169 pc = some v := h
  unfold fI169 at h
  exact Nat.le_of_ble_eq_true (sm_bif h).1) (by decide +kernel))
theorem fK170 : Jvm.Cond.code (sm_MN 170) (sm_MB 170) (sm_MT 170).2.1 (sm_rt (sm_MT 170).2.2.1) ∈ sm_T0 := sm_code_T (k := 6) (i := 55) (y := ⟨"AskedFireModel", "of", "(II)I"⟩) (b := prog_12_method_20_code) (ml := 3) (r := (some .int)) rfl
set_option maxRecDepth 100000 in
theorem fC170 : sm_okM sm_MT sm_MN sm_MB sm_CN sm_T0 170 := sm_chkM_ok fK170 (by decide +kernel) (sm_chkF_ok (N := 119) (fun pc v h => by
  have h : fI170 pc = some v := h
  unfold fI170 at h
  exact Nat.le_of_ble_eq_true (sm_bif h).1) (by decide +kernel))
theorem fK171 : Jvm.Cond.code (sm_MN 171) (sm_MB 171) (sm_MT 171).2.1 (sm_rt (sm_MT 171).2.2.1) ∈ sm_T0 := sm_code_T (k := 6) (i := 58) (y := ⟨"AskedFireModel", "has", "(II)Z"⟩) (b := prog_12_method_4_code) (ml := 2) (r := (some .boolean)) rfl
set_option maxRecDepth 100000 in
theorem fC171 : sm_okM sm_MT sm_MN sm_MB sm_CN sm_T0 171 := sm_chkM_ok fK171 (by decide +kernel) (sm_chkF_ok (N := 15) (fun pc v h => by
  have h : fI171 pc = some v := h
  unfold fI171 at h
  exact Nat.le_of_ble_eq_true (sm_bif h).1) (by decide +kernel))
theorem fK172 : Jvm.Cond.code (sm_MN 172) (sm_MB 172) (sm_MT 172).2.1 (sm_rt (sm_MT 172).2.2.1) ∈ sm_T0 := sm_code_T (k := 6) (i := 62) (y := ⟨"AskedFireModel", "feed", "(I)I"⟩) (b := prog_12_method_21_code) (ml := 2) (r := (some .int)) rfl
set_option maxRecDepth 100000 in
theorem fC172 : sm_okM sm_MT sm_MN sm_MB sm_CN sm_T0 172 := sm_chkM_ok fK172 (by decide +kernel) (sm_chkF_ok (N := 51) (fun pc v h => by
  have h : fI172 pc = some v := h
  unfold fI172 at h
  exact Nat.le_of_ble_eq_true (sm_bif h).1) (by decide +kernel))
theorem fK173 : Jvm.Cond.code (sm_MN 173) (sm_MB 173) (sm_MT 173).2.1 (sm_rt (sm_MT 173).2.2.1) ∈ sm_T0 := sm_code_T (k := 6) (i := 66) (y := ⟨"AskedFireModel", "law", "()I"⟩) (b := prog_12_method_39_code) (ml := 2) (r := (some .int)) rfl
set_option maxRecDepth 100000 in
theorem fC173 : sm_okM sm_MT sm_MN sm_MB sm_CN sm_T0 173 := sm_chkM_ok fK173 (by decide +kernel) (sm_chkF_ok (N := 22) (fun pc v h => by
  have h : fI173 pc = some v := h
  unfold fI173 at h
  exact Nat.le_of_ble_eq_true (sm_bif h).1) (by decide +kernel))
theorem fK174 : Jvm.Cond.code (sm_MN 174) (sm_MB 174) (sm_MT 174).2.1 (sm_rt (sm_MT 174).2.2.1) ∈ sm_T0 := sm_code_T (k := 6) (i := 70) (y := ⟨"AskedFireModel", "readText", "(I)I"⟩) (b := prog_12_method_35_code) (ml := 3) (r := (some .int)) rfl
set_option maxRecDepth 100000 in
theorem fC174 : sm_okM sm_MT sm_MN sm_MB sm_CN sm_T0 174 := sm_chkM_ok fK174 (by decide +kernel) (sm_chkF_ok (N := 235) (fun pc v h => by
  have h : fI174 pc = some v := h
  unfold fI174 at h
  exact Nat.le_of_ble_eq_true (sm_bif h).1) (by decide +kernel))
theorem fK175 : Jvm.Cond.code (sm_MN 175) (sm_MB 175) (sm_MT 175).2.1 (sm_rt (sm_MT 175).2.2.1) ∈ sm_T0 := sm_code_T (k := 6) (i := 74) (y := ⟨"AskedFireModel", "line", "()V"⟩) (b := prog_12_method_34_code) (ml := 2) (r := none) rfl
set_option maxRecDepth 100000 in
theorem fC175 : sm_okM sm_MT sm_MN sm_MB sm_CN sm_T0 175 := sm_chkM_ok fK175 (by decide +kernel) (sm_chkF_ok (N := 88) (fun pc v h => by
  have h : fI175 pc = some v := h
  unfold fI175 at h
  exact Nat.le_of_ble_eq_true (sm_bif h).1) (by decide +kernel))
theorem fK176 : Jvm.Cond.code (sm_MN 176) (sm_MB 176) (sm_MT 176).2.1 (sm_rt (sm_MT 176).2.2.1) ∈ sm_T0 := sm_code_T (k := 6) (i := 78) (y := ⟨"AskedFireModel", "either", "()V"⟩) (b := prog_12_method_33_code) (ml := 1) (r := none) rfl
set_option maxRecDepth 100000 in
theorem fC176 : sm_okM sm_MT sm_MN sm_MB sm_CN sm_T0 176 := sm_chkM_ok fK176 (by decide +kernel) (sm_chkF_ok (N := 45) (fun pc v h => by
  have h : fI176 pc = some v := h
  unfold fI176 at h
  exact Nat.le_of_ble_eq_true (sm_bif h).1) (by decide +kernel))
theorem fK177 : Jvm.Cond.code (sm_MN 177) (sm_MB 177) (sm_MT 177).2.1 (sm_rt (sm_MT 177).2.2.1) ∈ sm_T0 := sm_code_T (k := 6) (i := 82) (y := ⟨"AskedFireModel", "both", "()V"⟩) (b := prog_12_method_32_code) (ml := 1) (r := none) rfl
set_option maxRecDepth 100000 in
theorem fC177 : sm_okM sm_MT sm_MN sm_MB sm_CN sm_T0 177 := sm_chkM_ok fK177 (by decide +kernel) (sm_chkF_ok (N := 45) (fun pc v h => by
  have h : fI177 pc = some v := h
  unfold fI177 at h
  exact Nat.le_of_ble_eq_true (sm_bif h).1) (by decide +kernel))
theorem fK178 : Jvm.Cond.code (sm_MN 178) (sm_MB 178) (sm_MT 178).2.1 (sm_rt (sm_MT 178).2.2.1) ∈ sm_T0 := sm_code_T (k := 6) (i := 86) (y := ⟨"AskedFireModel", "compared", "()V"⟩) (b := prog_12_method_31_code) (ml := 2) (r := none) rfl
set_option maxRecDepth 100000 in
theorem fC178 : sm_okM sm_MT sm_MN sm_MB sm_CN sm_T0 178 := sm_chkM_ok fK178 (by decide +kernel) (sm_chkF_ok (N := 56) (fun pc v h => by
  have h : fI178 pc = some v := h
  unfold fI178 at h
  exact Nat.le_of_ble_eq_true (sm_bif h).1) (by decide +kernel))
theorem fK179 : Jvm.Cond.code (sm_MN 179) (sm_MB 179) (sm_MT 179).2.1 (sm_rt (sm_MT 179).2.2.1) ∈ sm_T0 := sm_code_T (k := 6) (i := 90) (y := ⟨"AskedFireModel", "sum", "()V"⟩) (b := prog_12_method_30_code) (ml := 2) (r := none) rfl
set_option maxRecDepth 100000 in
theorem fC179 : sm_okM sm_MT sm_MN sm_MB sm_CN sm_T0 179 := sm_chkM_ok fK179 (by decide +kernel) (sm_chkF_ok (N := 58) (fun pc v h => by
  have h : fI179 pc = some v := h
  unfold fI179 at h
  exact Nat.le_of_ble_eq_true (sm_bif h).1) (by decide +kernel))
theorem fK180 : Jvm.Cond.code (sm_MN 180) (sm_MB 180) (sm_MT 180).2.1 (sm_rt (sm_MT 180).2.2.1) ∈ sm_T0 := sm_code_T (k := 6) (i := 94) (y := ⟨"AskedFireModel", "product", "()V"⟩) (b := prog_12_method_29_code) (ml := 2) (r := none) rfl
set_option maxRecDepth 100000 in
theorem fC180 : sm_okM sm_MT sm_MN sm_MB sm_CN sm_T0 180 := sm_chkM_ok fK180 (by decide +kernel) (sm_chkF_ok (N := 67) (fun pc v h => by
  have h : fI180 pc = some v := h
  unfold fI180 at h
  exact Nat.le_of_ble_eq_true (sm_bif h).1) (by decide +kernel))
theorem fK181 : Jvm.Cond.code (sm_MN 181) (sm_MB 181) (sm_MT 181).2.1 (sm_rt (sm_MT 181).2.2.1) ∈ sm_T0 := sm_code_T (k := 6) (i := 98) (y := ⟨"AskedFireModel", "operand", "()V"⟩) (b := prog_12_method_28_code) (ml := 2) (r := none) rfl
set_option maxRecDepth 100000 in
theorem fC181 : sm_okM sm_MT sm_MN sm_MB sm_CN sm_T0 181 := sm_chkM_ok fK181 (by decide +kernel) (sm_chkF_ok (N := 155) (fun pc v h => by
  have h : fI181 pc = some v := h
  unfold fI181 at h
  exact Nat.le_of_ble_eq_true (sm_bif h).1) (by decide +kernel))
theorem fK182 : Jvm.Cond.code (sm_MN 182) (sm_MB 182) (sm_MT 182).2.1 (sm_rt (sm_MT 182).2.2.1) ∈ sm_T0 := sm_code_T (k := 6) (i := 102) (y := ⟨"AskedFireModel", "look", "()I"⟩) (b := prog_12_method_22_code) (ml := 1) (r := (some .int)) rfl
set_option maxRecDepth 100000 in
theorem fC182 : sm_okM sm_MT sm_MN sm_MB sm_CN sm_T0 182 := sm_chkM_ok fK182 (by decide +kernel) (sm_chkF_ok (N := 25) (fun pc v h => by
  have h : fI182 pc = some v := h
  unfold fI182 at h
  exact Nat.le_of_ble_eq_true (sm_bif h).1) (by decide +kernel))
theorem fK183 : Jvm.Cond.code (sm_MN 183) (sm_MB 183) (sm_MT 183).2.1 (sm_rt (sm_MT 183).2.2.1) ∈ sm_T0 := sm_code_T (k := 6) (i := 105) (y := ⟨"AskedFireModel", "nameOf", "(I)I"⟩) (b := prog_12_method_25_code) (ml := 1) (r := (some .int)) rfl
set_option maxRecDepth 100000 in
theorem fC183 : sm_okM sm_MT sm_MN sm_MB sm_CN sm_T0 183 := sm_chkM_ok fK183 (by decide +kernel) (sm_chkF_ok (N := 94) (fun pc v h => by
  have h : fI183 pc = some v := h
  unfold fI183 at h
  exact Nat.le_of_ble_eq_true (sm_bif h).1) (by decide +kernel))
theorem fK184 : Jvm.Cond.code (sm_MN 184) (sm_MB 184) (sm_MT 184).2.1 (sm_rt (sm_MT 184).2.2.1) ∈ sm_T0 := sm_code_T (k := 6) (i := 109) (y := ⟨"AskedFireModel", "addStep", "(II)V"⟩) (b := prog_12_method_24_code) (ml := 3) (r := none) rfl
set_option maxRecDepth 100000 in
theorem fC184 : sm_okM sm_MT sm_MN sm_MB sm_CN sm_T0 184 := sm_chkM_ok fK184 (by decide +kernel) (sm_chkF_ok (N := 40) (fun pc v h => by
  have h : fI184 pc = some v := h
  unfold fI184 at h
  exact Nat.le_of_ble_eq_true (sm_bif h).1) (by decide +kernel))
theorem fK185 : Jvm.Cond.code (sm_MN 185) (sm_MB 185) (sm_MT 185).2.1 (sm_rt (sm_MT 185).2.2.1) ∈ sm_T0 := sm_code_T (k := 6) (i := 113) (y := ⟨"AskedFireModel", "opens", "()Z"⟩) (b := prog_12_method_26_code) (ml := 1) (r := (some .boolean)) rfl
set_option maxRecDepth 100000 in
theorem fC185 : sm_okM sm_MT sm_MN sm_MB sm_CN sm_T0 185 := sm_chkM_ok fK185 (by decide +kernel) (sm_chkF_ok (N := 37) (fun pc v h => by
  have h : fI185 pc = some v := h
  unfold fI185 at h
  exact Nat.le_of_ble_eq_true (sm_bif h).1) (by decide +kernel))
theorem fK186 : Jvm.Cond.code (sm_MN 186) (sm_MB 186) (sm_MT 186).2.1 (sm_rt (sm_MT 186).2.2.1) ∈ sm_T0 := sm_code_T (k := 6) (i := 117) (y := ⟨"AskedFireModel", "wrong", "()V"⟩) (b := prog_12_method_23_code) (ml := 1) (r := none) rfl
set_option maxRecDepth 100000 in
theorem fC186 : sm_okM sm_MT sm_MN sm_MB sm_CN sm_T0 186 := sm_chkM_ok fK186 (by decide +kernel) (sm_chkF_ok (N := 16) (fun pc v h => by
  have h : fI186 pc = some v := h
  unfold fI186 at h
  exact Nat.le_of_ble_eq_true (sm_bif h).1) (by decide +kernel))
theorem fK187 : Jvm.Cond.code (sm_MN 187) (sm_MB 187) (sm_MT 187).2.1 (sm_rt (sm_MT 187).2.2.1) ∈ sm_T0 := sm_code_T (k := 6) (i := 121) (y := ⟨"AskedFireModel", "figure", "()V"⟩) (b := prog_12_method_27_code) (ml := 3) (r := none) rfl
set_option maxRecDepth 100000 in
theorem fC187 : sm_okM sm_MT sm_MN sm_MB sm_CN sm_T0 187 := sm_chkM_ok fK187 (by decide +kernel) (sm_chkF_ok (N := 81) (fun pc v h => by
  have h : fI187 pc = some v := h
  unfold fI187 at h
  exact Nat.le_of_ble_eq_true (sm_bif h).1) (by decide +kernel))
theorem fK188 : Jvm.Cond.code (sm_MN 188) (sm_MB 188) (sm_MT 188).2.1 (sm_rt (sm_MT 188).2.2.1) ∈ sm_T0 := sm_code_T (k := 6) (i := 125) (y := ⟨"AskedFireModel", "likes", "(II)I"⟩) (b := prog_12_method_47_code) (ml := 3) (r := (some .int)) rfl
set_option maxRecDepth 100000 in
theorem fC188 : sm_okM sm_MT sm_MN sm_MB sm_CN sm_T0 188 := sm_chkM_ok fK188 (by decide +kernel) (sm_chkF_ok (N := 33) (fun pc v h => by
  have h : fI188 pc = some v := h
  unfold fI188 at h
  exact Nat.le_of_ble_eq_true (sm_bif h).1) (by decide +kernel))
theorem fK189 : Jvm.Cond.code (sm_MN 189) (sm_MB 189) (sm_MT 189).2.1 (sm_rt (sm_MT 189).2.2.1) ∈ sm_T0 := sm_code_T (k := 6) (i := 129) (y := ⟨"AskedFireModel", "isAhead", "(I)Z"⟩) (b := prog_12_method_46_code) (ml := 2) (r := (some .boolean)) rfl
set_option maxRecDepth 100000 in
theorem fC189 : sm_okM sm_MT sm_MN sm_MB sm_CN sm_T0 189 := sm_chkM_ok fK189 (by decide +kernel) (sm_chkF_ok (N := 11) (fun pc v h => by
  have h : fI189 pc = some v := h
  unfold fI189 at h
  exact Nat.le_of_ble_eq_true (sm_bif h).1) (by decide +kernel))
theorem fK190 : Jvm.Cond.code (sm_MN 190) (sm_MB 190) (sm_MT 190).2.1 (sm_rt (sm_MT 190).2.2.1) ∈ sm_T0 := sm_code_T (k := 6) (i := 133) (y := ⟨"AskedFireModel", "goTo", "(I)V"⟩) (b := prog_12_method_45_code) (ml := 3) (r := none) rfl
set_option maxRecDepth 100000 in
theorem fC190 : sm_okM sm_MT sm_MN sm_MB sm_CN sm_T0 190 := sm_chkM_ok fK190 (by decide +kernel) (sm_chkF_ok (N := 27) (fun pc v h => by
  have h : fI190 pc = some v := h
  unfold fI190 at h
  exact Nat.le_of_ble_eq_true (sm_bif h).1) (by decide +kernel))
theorem fK191 : Jvm.Cond.code (sm_MN 191) (sm_MB 191) (sm_MT 191).2.1 (sm_rt (sm_MT 191).2.2.1) ∈ sm_T0 := sm_code_T (k := 6) (i := 137) (y := ⟨"AskedFireModel", "layNow", "()V"⟩) (b := prog_12_method_40_code) (ml := 2) (r := none) rfl
set_option maxRecDepth 100000 in
theorem fC191 : sm_okM sm_MT sm_MN sm_MB sm_CN sm_T0 191 := sm_chkM_ok fK191 (by decide +kernel) (sm_chkF_ok (N := 45) (fun pc v h => by
  have h : fI191 pc = some v := h
  unfold fI191 at h
  exact Nat.le_of_ble_eq_true (sm_bif h).1) (by decide +kernel))
theorem fK192 : Jvm.Cond.code (sm_MN 192) (sm_MB 192) (sm_MT 192).2.1 (sm_rt (sm_MT 192).2.2.1) ∈ sm_T0 := sm_code_T (k := 6) (i := 141) (y := ⟨"AskedFireModel", "goDay", "(I)I"⟩) (b := prog_12_method_44_code) (ml := 3) (r := (some .int)) rfl
set_option maxRecDepth 100000 in
theorem fC192 : sm_okM sm_MT sm_MN sm_MB sm_CN sm_T0 192 := sm_chkM_ok fK192 (by decide +kernel) (sm_chkF_ok (N := 82) (fun pc v h => by
  have h : fI192 pc = some v := h
  unfold fI192 at h
  exact Nat.le_of_ble_eq_true (sm_bif h).1) (by decide +kernel))
theorem fK193 : Jvm.Cond.code (sm_MN 193) (sm_MB 193) (sm_MT 193).2.1 (sm_rt (sm_MT 193).2.2.1) ∈ sm_T0 := sm_code_T (k := 6) (i := 145) (y := ⟨"AskedFireModel", "cardFor", "(I)I"⟩) (b := prog_12_method_43_code) (ml := 6) (r := (some .int)) rfl
set_option maxRecDepth 100000 in
theorem fC193 : sm_okM sm_MT sm_MN sm_MB sm_CN sm_T0 193 := sm_chkM_ok fK193 (by decide +kernel) (sm_chkF_ok (N := 61) (fun pc v h => by
  have h : fI193 pc = some v := h
  unfold fI193 at h
  exact Nat.le_of_ble_eq_true (sm_bif h).1) (by decide +kernel))
theorem fK194 : Jvm.Cond.code (sm_MN 194) (sm_MB 194) (sm_MT 194).2.1 (sm_rt (sm_MT 194).2.2.1) ∈ sm_T0 := sm_code_T (k := 6) (i := 149) (y := ⟨"AskedFireModel", "mayOn", "(II)Z"⟩) (b := prog_12_method_42_code) (ml := 3) (r := (some .boolean)) rfl
set_option maxRecDepth 100000 in
theorem fC194 : sm_okM sm_MT sm_MN sm_MB sm_CN sm_T0 194 := sm_chkM_ok fK194 (by decide +kernel) (sm_chkF_ok (N := 52) (fun pc v h => by
  have h : fI194 pc = some v := h
  unfold fI194 at h
  exact Nat.le_of_ble_eq_true (sm_bif h).1) (by decide +kernel))
theorem fK195 : Jvm.Cond.code (sm_MN 195) (sm_MB 195) (sm_MT 195).2.1 (sm_rt (sm_MT 195).2.2.1) ∈ sm_T0 := sm_code_T (k := 6) (i := 153) (y := ⟨"AskedFireModel", "likesOf", "(II)I"⟩) (b := prog_12_method_41_code) (ml := 5) (r := (some .int)) rfl
set_option maxRecDepth 100000 in
theorem fC195 : sm_okM sm_MT sm_MN sm_MB sm_CN sm_T0 195 := sm_chkM_ok fK195 (by decide +kernel) (sm_chkF_ok (N := 137) (fun pc v h => by
  have h : fI195 pc = some v := h
  unfold fI195 at h
  exact Nat.le_of_ble_eq_true (sm_bif h).1) (by decide +kernel))
theorem fK196 : Jvm.Cond.code (sm_MN 196) (sm_MB 196) (sm_MT 196).2.1 (sm_rt (sm_MT 196).2.2.1) ∈ sm_T0 := sm_code_T (k := 6) (i := 157) (y := ⟨"AskedFireModel", "gives", "(I)I"⟩) (b := prog_12_method_38_code) (ml := 4) (r := (some .int)) rfl
set_option maxRecDepth 100000 in
theorem fC196 : sm_okM sm_MT sm_MN sm_MB sm_CN sm_T0 196 := sm_chkM_ok fK196 (by decide +kernel) (sm_chkF_ok (N := 80) (fun pc v h => by
  have h : fI196 pc = some v := h
  unfold fI196 at h
  exact Nat.le_of_ble_eq_true (sm_bif h).1) (by decide +kernel))
theorem fK197 : Jvm.Cond.code (sm_MN 197) (sm_MB 197) (sm_MT 197).2.1 (sm_rt (sm_MT 197).2.2.1) ∈ sm_T0 := sm_code_T (k := 6) (i := 161) (y := ⟨"AskedFireModel", "worked", "(III)I"⟩) (b := prog_12_method_37_code) (ml := 7) (r := (some .int)) rfl
set_option maxRecDepth 100000 in
theorem fC197 : sm_okM sm_MT sm_MN sm_MB sm_CN sm_T0 197 := sm_chkM_ok fK197 (by decide +kernel) (sm_chkF_ok (N := 195) (fun pc v h => by
  have h : fI197 pc = some v := h
  unfold fI197 at h
  exact Nat.le_of_ble_eq_true (sm_bif h).1) (by decide +kernel))
theorem fK198 : Jvm.Cond.code (sm_MN 198) (sm_MB 198) (sm_MT 198).2.1 (sm_rt (sm_MT 198).2.2.1) ∈ sm_T0 := sm_code_T (k := 6) (i := 164) (y := ⟨"AskedFireModel", "twoOf", "(III)I"⟩) (b := prog_12_method_36_code) (ml := 3) (r := (some .int)) rfl
set_option maxRecDepth 100000 in
theorem fC198 : sm_okM sm_MT sm_MN sm_MB sm_CN sm_T0 198 := sm_chkM_ok fK198 (by decide +kernel) (sm_chkF_ok (N := 232) (fun pc v h => by
  have h : fI198 pc = some v := h
  unfold fI198 at h
  exact Nat.le_of_ble_eq_true (sm_bif h).1) (by decide +kernel))
theorem fK199 : Jvm.Cond.code (sm_MN 199) (sm_MB 199) (sm_MT 199).2.1 (sm_rt (sm_MT 199).2.2.1) ∈ sm_T0 := sm_code_T (k := 6) (i := 168) (y := ⟨"AskedFireModel", "accepts", "(II)I"⟩) (b := prog_12_method_49_code) (ml := 3) (r := (some .int)) rfl
set_option maxRecDepth 100000 in
theorem fC199 : sm_okM sm_MT sm_MN sm_MB sm_CN sm_T0 199 := sm_chkM_ok fK199 (by decide +kernel) (sm_chkF_ok (N := 47) (fun pc v h => by
  have h : fI199 pc = some v := h
  unfold fI199 at h
  exact Nat.le_of_ble_eq_true (sm_bif h).1) (by decide +kernel))
theorem fK200 : Jvm.Cond.code (sm_MN 200) (sm_MB 200) (sm_MT 200).2.1 (sm_rt (sm_MT 200).2.2.1) ∈ sm_T0 := sm_code_T (k := 6) (i := 171) (y := ⟨"AskedFireModel", "orNot", "(I)I"⟩) (b := prog_12_method_48_code) (ml := 1) (r := (some .int)) rfl
set_option maxRecDepth 100000 in
theorem fC200 : sm_okM sm_MT sm_MN sm_MB sm_CN sm_T0 200 := sm_chkM_ok fK200 (by decide +kernel) (sm_chkF_ok (N := 11) (fun pc v h => by
  have h : fI200 pc = some v := h
  unfold fI200 at h
  exact Nat.le_of_ble_eq_true (sm_bif h).1) (by decide +kernel))
theorem fK201 : Jvm.Cond.code (sm_MN 201) (sm_MB 201) (sm_MT 201).2.1 (sm_rt (sm_MT 201).2.2.1) ∈ sm_T0 := sm_code_T (k := 6) (i := 175) (y := ⟨"AskedFireModel", "visits", "(II)I"⟩) (b := prog_12_method_50_code) (ml := 3) (r := (some .int)) rfl
set_option maxRecDepth 100000 in
theorem fC201 : sm_okM sm_MT sm_MN sm_MB sm_CN sm_T0 201 := sm_chkM_ok fK201 (by decide +kernel) (sm_chkF_ok (N := 37) (fun pc v h => by
  have h : fI201 pc = some v := h
  unfold fI201 at h
  exact Nat.le_of_ble_eq_true (sm_bif h).1) (by decide +kernel))
theorem fK202 : Jvm.Cond.code (sm_MN 202) (sm_MB 202) (sm_MT 202).2.1 (sm_rt (sm_MT 202).2.2.1) ∈ sm_T0 := sm_code_T (k := 6) (i := 179) (y := ⟨"AskedFireModel", "first", "(I)I"⟩) (b := prog_12_method_51_code) (ml := 4) (r := (some .int)) rfl
set_option maxRecDepth 100000 in
theorem fC202 : sm_okM sm_MT sm_MN sm_MB sm_CN sm_T0 202 := sm_chkM_ok fK202 (by decide +kernel) (sm_chkF_ok (N := 82) (fun pc v h => by
  have h : fI202 pc = some v := h
  unfold fI202 at h
  exact Nat.le_of_ble_eq_true (sm_bif h).1) (by decide +kernel))
theorem fK203 : Jvm.Cond.code (sm_MN 203) (sm_MB 203) (sm_MT 203).2.1 (sm_rt (sm_MT 203).2.2.1) ∈ sm_T0 := sm_code_T (k := 6) (i := 183) (y := ⟨"AskedFireModel", "odds", "(II)I"⟩) (b := prog_12_method_53_code) (ml := 3) (r := (some .int)) rfl
set_option maxRecDepth 100000 in
theorem fC203 : sm_okM sm_MT sm_MN sm_MB sm_CN sm_T0 203 := sm_chkM_ok fK203 (by decide +kernel) (sm_chkF_ok (N := 26) (fun pc v h => by
  have h : fI203 pc = some v := h
  unfold fI203 at h
  exact Nat.le_of_ble_eq_true (sm_bif h).1) (by decide +kernel))
theorem fK204 : Jvm.Cond.code (sm_MN 204) (sm_MB 204) (sm_MT 204).2.1 (sm_rt (sm_MT 204).2.2.1) ∈ sm_T0 := sm_code_T (k := 6) (i := 187) (y := ⟨"AskedFireModel", "oddsOf", "(II)I"⟩) (b := prog_12_method_52_code) (ml := 3) (r := (some .int)) rfl
set_option maxRecDepth 100000 in
theorem fC204 : sm_okM sm_MT sm_MN sm_MB sm_CN sm_T0 204 := sm_chkM_ok fK204 (by decide +kernel) (sm_chkF_ok (N := 17) (fun pc v h => by
  have h : fI204 pc = some v := h
  unfold fI204 at h
  exact Nat.le_of_ble_eq_true (sm_bif h).1) (by decide +kernel))
theorem fK205 : Jvm.Cond.code (sm_MN 205) (sm_MB 205) (sm_MT 205).2.1 (sm_rt (sm_MT 205).2.2.1) ∈ sm_T0 := sm_code_T (k := 6) (i := 191) (y := ⟨"AskedFireModel", "burns", "(III)J"⟩) (b := prog_12_method_58_code) (ml := 4) (r := (some .long)) rfl
set_option maxRecDepth 100000 in
theorem fC205 : sm_okM sm_MT sm_MN sm_MB sm_CN sm_T0 205 := sm_chkM_ok fK205 (by decide +kernel) (sm_chkF_ok (N := 73) (fun pc v h => by
  have h : fI205 pc = some v := h
  unfold fI205 at h
  exact Nat.le_of_ble_eq_true (sm_bif h).1) (by decide +kernel))
theorem fK206 : Jvm.Cond.code (sm_MN 206) (sm_MB 206) (sm_MT 206).2.1 (sm_rt (sm_MT 206).2.2.1) ∈ sm_T0 := sm_code_T (k := 6) (i := 196) (y := ⟨"AskedFireModel", "daysOf", "(I)I"⟩) (b := prog_12_method_55_code) (ml := 2) (r := (some .int)) rfl
set_option maxRecDepth 100000 in
theorem fC206 : sm_okM sm_MT sm_MN sm_MB sm_CN sm_T0 206 := sm_chkM_ok fK206 (by decide +kernel) (sm_chkF_ok (N := 23) (fun pc v h => by
  have h : fI206 pc = some v := h
  unfold fI206 at h
  exact Nat.le_of_ble_eq_true (sm_bif h).1) (by decide +kernel))
theorem fK207 : Jvm.Cond.code (sm_MN 207) (sm_MB 207) (sm_MT 207).2.1 (sm_rt (sm_MT 207).2.2.1) ∈ sm_T0 := sm_code_T (k := 6) (i := 200) (y := ⟨"AskedFireModel", "burnt", "(II)J"⟩) (b := prog_12_method_57_code) (ml := 6) (r := (some .long)) rfl
set_option maxRecDepth 100000 in
theorem fC207 : sm_okM sm_MT sm_MN sm_MB sm_CN sm_T0 207 := sm_chkM_ok fK207 (by decide +kernel) (sm_chkF_ok (N := 63) (fun pc v h => by
  have h : fI207 pc = some v := h
  unfold fI207 at h
  exact Nat.le_of_ble_eq_true (sm_bif h).1) (by decide +kernel))
theorem fK208 : Jvm.Cond.code (sm_MN 208) (sm_MB 208) (sm_MT 208).2.1 (sm_rt (sm_MT 208).2.2.1) ∈ sm_T0 := sm_code_T (k := 6) (i := 204) (y := ⟨"AskedFireModel", "twelves", "(I)J"⟩) (b := prog_12_method_56_code) (ml := 4) (r := (some .long)) rfl
set_option maxRecDepth 100000 in
theorem fC208 : sm_okM sm_MT sm_MN sm_MB sm_CN sm_T0 208 := sm_chkM_ok fK208 (by decide +kernel) (sm_chkF_ok (N := 23) (fun pc v h => by
  have h : fI208 pc = some v := h
  unfold fI208 at h
  exact Nat.le_of_ble_eq_true (sm_bif h).1) (by decide +kernel))
theorem fK209 : Jvm.Cond.code (sm_MN 209) (sm_MB 209) (sm_MT 209).2.1 (sm_rt (sm_MT 209).2.2.1) ∈ sm_T0 := sm_code_T (k := 6) (i := 207) (y := ⟨"AskedFireModel", "lowest", "(JJI)J"⟩) (b := prog_12_method_54_code) (ml := 11) (r := (some .long)) rfl
set_option maxRecDepth 100000 in
theorem fC209 : sm_okM sm_MT sm_MN sm_MB sm_CN sm_T0 209 := sm_chkM_ok fK209 (by decide +kernel) (sm_chkF_ok (N := 58) (fun pc v h => by
  have h : fI209 pc = some v := h
  unfold fI209 at h
  exact Nat.le_of_ble_eq_true (sm_bif h).1) (by decide +kernel))
theorem fK210 : Jvm.Cond.code (sm_MN 210) (sm_MB 210) (sm_MT 210).2.1 (sm_rt (sm_MT 210).2.2.1) ∈ sm_T0 := sm_code_T (k := 6) (i := 211) (y := ⟨"AskedFireModel", "mean", "(II)J"⟩) (b := prog_12_method_60_code) (ml := 3) (r := (some .long)) rfl
set_option maxRecDepth 100000 in
theorem fC210 : sm_okM sm_MT sm_MN sm_MB sm_CN sm_T0 210 := sm_chkM_ok fK210 (by decide +kernel) (sm_chkF_ok (N := 50) (fun pc v h => by
  have h : fI210 pc = some v := h
  unfold fI210 at h
  exact Nat.le_of_ble_eq_true (sm_bif h).1) (by decide +kernel))
theorem fK211 : Jvm.Cond.code (sm_MN 211) (sm_MB 211) (sm_MT 211).2.1 (sm_rt (sm_MT 211).2.2.1) ∈ sm_T0 := sm_code_T (k := 6) (i := 215) (y := ⟨"AskedFireModel", "allBurnt", "(I)J"⟩) (b := prog_12_method_59_code) (ml := 5) (r := (some .long)) rfl
set_option maxRecDepth 100000 in
theorem fC211 : sm_okM sm_MT sm_MN sm_MB sm_CN sm_T0 211 := sm_chkM_ok fK211 (by decide +kernel) (sm_chkF_ok (N := 44) (fun pc v h => by
  have h : fI211 pc = some v := h
  unfold fI211 at h
  exact Nat.le_of_ble_eq_true (sm_bif h).1) (by decide +kernel))
theorem fK212 : Jvm.Cond.code (sm_MN 212) (sm_MB 212) (sm_MT 212).2.1 (sm_rt (sm_MT 212).2.2.1) ∈ sm_T0 := sm_code_T (k := 6) (i := 219) (y := ⟨"AskedFireModel", "plan", "(II)J"⟩) (b := prog_12_method_63_code) (ml := 3) (r := (some .long)) rfl
set_option maxRecDepth 100000 in
theorem fC212 : sm_okM sm_MT sm_MN sm_MB sm_CN sm_T0 212 := sm_chkM_ok fK212 (by decide +kernel) (sm_chkF_ok (N := 48) (fun pc v h => by
  have h : fI212 pc = some v := h
  unfold fI212 at h
  exact Nat.le_of_ble_eq_true (sm_bif h).1) (by decide +kernel))
theorem fK213 : Jvm.Cond.code (sm_MN 213) (sm_MB 213) (sm_MT 213).2.1 (sm_rt (sm_MT 213).2.2.1) ∈ sm_T0 := sm_code_T (k := 6) (i := 223) (y := ⟨"AskedFireModel", "findPlan", "(I)V"⟩) (b := prog_12_method_62_code) (ml := 2) (r := none) rfl
set_option maxRecDepth 100000 in
theorem fC213 : sm_okM sm_MT sm_MN sm_MB sm_CN sm_T0 213 := sm_chkM_ok fK213 (by decide +kernel) (sm_chkF_ok (N := 18) (fun pc v h => by
  have h : fI213 pc = some v := h
  unfold fI213 at h
  exact Nat.le_of_ble_eq_true (sm_bif h).1) (by decide +kernel))
theorem fK214 : Jvm.Cond.code (sm_MN 214) (sm_MB 214) (sm_MT 214).2.1 (sm_rt (sm_MT 214).2.2.1) ∈ sm_T0 := sm_code_T (k := 6) (i := 228) (y := ⟨"AskedFireModel", "goPlan", "(II)V"⟩) (b := prog_12_method_61_code) (ml := 6) (r := none) rfl
set_option maxRecDepth 100000 in
theorem fC214 : sm_okM sm_MT sm_MN sm_MB sm_CN sm_T0 214 := sm_chkM_ok fK214 (by decide +kernel) (sm_chkF_ok (N := 197) (fun pc v h => by
  have h : fI214 pc = some v := h
  unfold fI214 at h
  exact Nat.le_of_ble_eq_true (sm_bif h).1) (by decide +kernel))
theorem fK215 : Jvm.Cond.code (sm_MN 215) (sm_MB 215) (sm_MT 215).2.1 (sm_rt (sm_MT 215).2.2.1) ∈ sm_T0 := sm_code_T (k := 6) (i := 232) (y := ⟨"AskedFireModel", "planned", "(II)I"⟩) (b := prog_12_method_64_code) (ml := 3) (r := (some .int)) rfl
set_option maxRecDepth 100000 in
theorem fC215 : sm_okM sm_MT sm_MN sm_MB sm_CN sm_T0 215 := sm_chkM_ok fK215 (by decide +kernel) (sm_chkF_ok (N := 53) (fun pc v h => by
  have h : fI215 pc = some v := h
  unfold fI215 at h
  exact Nat.le_of_ble_eq_true (sm_bif h).1) (by decide +kernel))
theorem fK216 : Jvm.Cond.code (sm_MN 216) (sm_MB 216) (sm_MT 216).2.1 (sm_rt (sm_MT 216).2.2.1) ∈ sm_T0 := sm_code_T (k := 6) (i := 236) (y := ⟨"AskedFireModel", "ask", "(I)I"⟩) (b := prog_12_method_66_code) (ml := 4) (r := (some .int)) rfl
set_option maxRecDepth 100000 in
theorem fC216 : sm_okM sm_MT sm_MN sm_MB sm_CN sm_T0 216 := sm_chkM_ok fK216 (by decide +kernel) (sm_chkF_ok (N := 127) (fun pc v h => by
  have h : fI216 pc = some v := h
  unfold fI216 at h
  exact Nat.le_of_ble_eq_true (sm_bif h).1) (by decide +kernel))
theorem fK217 : Jvm.Cond.code (sm_MN 217) (sm_MB 217) (sm_MT 217).2.1 (sm_rt (sm_MT 217).2.2.1) ∈ sm_T0 := sm_code_T (k := 7) (i := 0) (y := ⟨"AskedFireModel", "isVisited", "(II)Z"⟩) (b := prog_12_method_65_code) (ml := 3) (r := (some .boolean)) rfl
set_option maxRecDepth 100000 in
theorem fC217 : sm_okM sm_MT sm_MN sm_MB sm_CN sm_T0 217 := sm_chkM_ok fK217 (by decide +kernel) (sm_chkF_ok (N := 21) (fun pc v h => by
  have h : fI217 pc = some v := h
  unfold fI217 at h
  exact Nat.le_of_ble_eq_true (sm_bif h).1) (by decide +kernel))
theorem fK218 : Jvm.Cond.code (sm_MN 218) (sm_MB 218) (sm_MT 218).2.1 (sm_rt (sm_MT 218).2.2.1) ∈ sm_T0 := sm_code_T (k := 7) (i := 4) (y := ⟨"AskedFireModel", "sweeten", "(III)I"⟩) (b := prog_12_method_69_code) (ml := 4) (r := (some .int)) rfl
set_option maxRecDepth 100000 in
theorem fC218 : sm_okM sm_MT sm_MN sm_MB sm_CN sm_T0 218 := sm_chkM_ok fK218 (by decide +kernel) (sm_chkF_ok (N := 47) (fun pc v h => by
  have h : fI218 pc = some v := h
  unfold fI218 at h
  exact Nat.le_of_ble_eq_true (sm_bif h).1) (by decide +kernel))
theorem fK219 : Jvm.Cond.code (sm_MN 219) (sm_MB 219) (sm_MT 219).2.1 (sm_rt (sm_MT 219).2.2.1) ∈ sm_T0 := sm_code_T (k := 7) (i := 8) (y := ⟨"AskedFireModel", "leastCake", "(II)I"⟩) (b := prog_12_method_67_code) (ml := 6) (r := (some .int)) rfl
set_option maxRecDepth 100000 in
theorem fC219 : sm_okM sm_MT sm_MN sm_MB sm_CN sm_T0 219 := sm_chkM_ok fK219 (by decide +kernel) (sm_chkF_ok (N := 63) (fun pc v h => by
  have h : fI219 pc = some v := h
  unfold fI219 at h
  exact Nat.le_of_ble_eq_true (sm_bif h).1) (by decide +kernel))
theorem fK220 : Jvm.Cond.code (sm_MN 220) (sm_MB 220) (sm_MT 220).2.1 (sm_rt (sm_MT 220).2.2.1) ∈ sm_T0 := sm_code_T (k := 7) (i := 12) (y := ⟨"AskedFireModel", "mostFeud", "(II)I"⟩) (b := prog_12_method_68_code) (ml := 6) (r := (some .int)) rfl
set_option maxRecDepth 100000 in
theorem fC220 : sm_okM sm_MT sm_MN sm_MB sm_CN sm_T0 220 := sm_chkM_ok fK220 (by decide +kernel) (sm_chkF_ok (N := 62) (fun pc v h => by
  have h : fI220 pc = some v := h
  unfold fI220 at h
  exact Nat.le_of_ble_eq_true (sm_bif h).1) (by decide +kernel))
theorem fK221 : Jvm.Cond.code (sm_MN 221) (sm_MB 221) (sm_MT 221).2.1 (sm_rt (sm_MT 221).2.2.1) ∈ sm_T0 := sm_code_T (k := 7) (i := 16) (y := ⟨"AskedFireModel", "evening", "(II)I"⟩) (b := prog_12_method_74_code) (ml := 3) (r := (some .int)) rfl
set_option maxRecDepth 100000 in
theorem fC221 : sm_okM sm_MT sm_MN sm_MB sm_CN sm_T0 221 := sm_chkM_ok fK221 (by decide +kernel) (sm_chkF_ok (N := 88) (fun pc v h => by
  have h : fI221 pc = some v := h
  unfold fI221 at h
  exact Nat.le_of_ble_eq_true (sm_bif h).1) (by decide +kernel))
theorem fK222 : Jvm.Cond.code (sm_MN 222) (sm_MB 222) (sm_MT 222).2.1 (sm_rt (sm_MT 222).2.2.1) ∈ sm_T0 := sm_code_T (k := 7) (i := 19) (y := ⟨"AskedFireModel", "bitsOf", "(I)I"⟩) (b := prog_12_method_73_code) (ml := 3) (r := (some .int)) rfl
set_option maxRecDepth 100000 in
theorem fC222 : sm_okM sm_MT sm_MN sm_MB sm_CN sm_T0 222 := sm_chkM_ok fK222 (by decide +kernel) (sm_chkF_ok (N := 22) (fun pc v h => by
  have h : fI222 pc = some v := h
  unfold fI222 at h
  exact Nat.le_of_ble_eq_true (sm_bif h).1) (by decide +kernel))
theorem fK223 : Jvm.Cond.code (sm_MN 223) (sm_MB 223) (sm_MT 223).2.1 (sm_rt (sm_MT 223).2.2.1) ∈ sm_T0 := sm_code_T (k := 7) (i := 23) (y := ⟨"AskedFireModel", "goEvening", "(IIIIII)V"⟩) (b := prog_12_method_72_code) (ml := 9) (r := none) rfl
set_option maxRecDepth 100000 in
theorem fC223 : sm_okM sm_MT sm_MN sm_MB sm_CN sm_T0 223 := sm_chkM_ok fK223 (by decide +kernel) (sm_chkF_ok (N := 170) (fun pc v h => by
  have h : fI223 pc = some v := h
  unfold fI223 at h
  exact Nat.le_of_ble_eq_true (sm_bif h).1) (by decide +kernel))
theorem fK224 : Jvm.Cond.code (sm_MN 224) (sm_MB 224) (sm_MT 224).2.1 (sm_rt (sm_MT 224).2.2.1) ∈ sm_T0 := sm_code_T (k := 7) (i := 26) (y := ⟨"AskedFireModel", "rideOf", "(II)I"⟩) (b := prog_12_method_71_code) (ml := 2) (r := (some .int)) rfl
set_option maxRecDepth 100000 in
theorem fC224 : sm_okM sm_MT sm_MN sm_MB sm_CN sm_T0 224 := sm_chkM_ok fK224 (by decide +kernel) (sm_chkF_ok (N := 28) (fun pc v h => by
  have h : fI224 pc = some v := h
  unfold fI224 at h
  exact Nat.le_of_ble_eq_true (sm_bif h).1) (by decide +kernel))
theorem fK225 : Jvm.Cond.code (sm_MN 225) (sm_MB 225) (sm_MT 225).2.1 (sm_rt (sm_MT 225).2.2.1) ∈ sm_T0 := sm_code_T (k := 7) (i := 29) (y := ⟨"AskedFireModel", "apart", "(II)I"⟩) (b := prog_12_method_70_code) (ml := 2) (r := (some .int)) rfl
set_option maxRecDepth 100000 in
theorem fC225 : sm_okM sm_MT sm_MN sm_MB sm_CN sm_T0 225 := sm_chkM_ok fK225 (by decide +kernel) (sm_chkF_ok (N := 15) (fun pc v h => by
  have h : fI225 pc = some v := h
  unfold fI225 at h
  exact Nat.le_of_ble_eq_true (sm_bif h).1) (by decide +kernel))
theorem fK226 : Jvm.Cond.code (sm_MN 226) (sm_MB 226) (sm_MT 226).2.1 (sm_rt (sm_MT 226).2.2.1) ∈ sm_T0 := sm_code_T (k := 7) (i := 33) (y := ⟨"AskedFireModel", "belief", "(IIII)J"⟩) (b := prog_12_method_77_code) (ml := 13) (r := (some .long)) rfl
set_option maxRecDepth 100000 in
theorem fC226 : sm_okM sm_MT sm_MN sm_MB sm_CN sm_T0 226 := sm_chkM_ok fK226 (by decide +kernel) (sm_chkF_ok (N := 241) (fun pc v h => by
  have h : fI226 pc = some v := h
  unfold fI226 at h
  exact Nat.le_of_ble_eq_true (sm_bif h).1) (by decide +kernel))
theorem fK227 : Jvm.Cond.code (sm_MN 227) (sm_MB 227) (sm_MT 227).2.1 (sm_rt (sm_MT 227).2.2.1) ∈ sm_T0 := sm_code_T (k := 7) (i := 37) (y := ⟨"AskedFireModel", "rowFault", "(I)I"⟩) (b := prog_12_method_75_code) (ml := 2) (r := (some .int)) rfl
set_option maxRecDepth 100000 in
theorem fC227 : sm_okM sm_MT sm_MN sm_MB sm_CN sm_T0 227 := sm_chkM_ok fK227 (by decide +kernel) (sm_chkF_ok (N := 33) (fun pc v h => by
  have h : fI227 pc = some v := h
  unfold fI227 at h
  exact Nat.le_of_ble_eq_true (sm_bif h).1) (by decide +kernel))
theorem fK228 : Jvm.Cond.code (sm_MN 228) (sm_MB 228) (sm_MT 228).2.1 (sm_rt (sm_MT 228).2.2.1) ∈ sm_T0 := sm_code_T (k := 7) (i := 41) (y := ⟨"AskedFireModel", "at", "(II)I"⟩) (b := prog_12_method_76_code) (ml := 3) (r := (some .int)) rfl
set_option maxRecDepth 100000 in
theorem fC228 : sm_okM sm_MT sm_MN sm_MB sm_CN sm_T0 228 := sm_chkM_ok fK228 (by decide +kernel) (sm_chkF_ok (N := 13) (fun pc v h => by
  have h : fI228 pc = some v := h
  unfold fI228 at h
  exact Nat.le_of_ble_eq_true (sm_bif h).1) (by decide +kernel))
theorem fK229 : Jvm.Cond.code (sm_MN 229) (sm_MB 229) (sm_MT 229).2.1 (sm_rt (sm_MT 229).2.2.1) ∈ sm_T0 := sm_code_T (k := 7) (i := 46) (y := ⟨"AskedFireModel", "lists", "(I)I"⟩) (b := prog_12_method_82_code) (ml := 2) (r := (some .int)) rfl
set_option maxRecDepth 100000 in
theorem fC229 : sm_okM sm_MT sm_MN sm_MB sm_CN sm_T0 229 := sm_chkM_ok fK229 (by decide +kernel) (sm_chkF_ok (N := 41) (fun pc v h => by
  have h : fI229 pc = some v := h
  unfold fI229 at h
  exact Nat.le_of_ble_eq_true (sm_bif h).1) (by decide +kernel))
theorem fK230 : Jvm.Cond.code (sm_MN 230) (sm_MB 230) (sm_MT 230).2.1 (sm_rt (sm_MT 230).2.2.1) ∈ sm_T0 := sm_code_T (k := 7) (i := 50) (y := ⟨"AskedFireModel", "clashes", "()I"⟩) (b := prog_12_method_78_code) (ml := 5) (r := (some .int)) rfl
set_option maxRecDepth 100000 in
theorem fC230 : sm_okM sm_MT sm_MN sm_MB sm_CN sm_T0 230 := sm_chkM_ok fK230 (by decide +kernel) (sm_chkF_ok (N := 92) (fun pc v h => by
  have h : fI230 pc = some v := h
  unfold fI230 at h
  exact Nat.le_of_ble_eq_true (sm_bif h).1) (by decide +kernel))
theorem fK231 : Jvm.Cond.code (sm_MN 231) (sm_MB 231) (sm_MT 231).2.1 (sm_rt (sm_MT 231).2.2.1) ∈ sm_T0 := sm_code_T (k := 7) (i := 54) (y := ⟨"AskedFireModel", "without", "()I"⟩) (b := prog_12_method_80_code) (ml := 3) (r := (some .int)) rfl
set_option maxRecDepth 100000 in
theorem fC231 : sm_okM sm_MT sm_MN sm_MB sm_CN sm_T0 231 := sm_chkM_ok fK231 (by decide +kernel) (sm_chkF_ok (N := 45) (fun pc v h => by
  have h : fI231 pc = some v := h
  unfold fI231 at h
  exact Nat.le_of_ble_eq_true (sm_bif h).1) (by decide +kernel))
theorem fK232 : Jvm.Cond.code (sm_MN 232) (sm_MB 232) (sm_MT 232).2.1 (sm_rt (sm_MT 232).2.2.1) ∈ sm_T0 := sm_code_T (k := 7) (i := 58) (y := ⟨"AskedFireModel", "daysFor", "(I)I"⟩) (b := prog_12_method_79_code) (ml := 4) (r := (some .int)) rfl
set_option maxRecDepth 100000 in
theorem fC232 : sm_okM sm_MT sm_MN sm_MB sm_CN sm_T0 232 := sm_chkM_ok fK232 (by decide +kernel) (sm_chkF_ok (N := 101) (fun pc v h => by
  have h : fI232 pc = some v := h
  unfold fI232 at h
  exact Nat.le_of_ble_eq_true (sm_bif h).1) (by decide +kernel))
theorem fK233 : Jvm.Cond.code (sm_MN 233) (sm_MB 233) (sm_MT 233).2.1 (sm_rt (sm_MT 233).2.2.1) ∈ sm_T0 := sm_code_T (k := 7) (i := 63) (y := ⟨"AskedFireModel", "matchFrom", "(II)I"⟩) (b := prog_12_method_81_code) (ml := 7) (r := (some .int)) rfl
set_option maxRecDepth 100000 in
theorem fC233 : sm_okM sm_MT sm_MN sm_MB sm_CN sm_T0 233 := sm_chkM_ok fK233 (by decide +kernel) (sm_chkF_ok (N := 103) (fun pc v h => by
  have h : fI233 pc = some v := h
  unfold fI233 at h
  exact Nat.le_of_ble_eq_true (sm_bif h).1) (by decide +kernel))
theorem fK234 : Jvm.Cond.code (sm_MN 234) (sm_MB 234) (sm_MT 234).2.1 (sm_rt (sm_MT 234).2.2.1) ∈ sm_T0 := sm_code_T (k := 7) (i := 67) (y := ⟨"AskedFireModel", "judge", "(I)I"⟩) (b := prog_12_method_84_code) (ml := 2) (r := (some .int)) rfl
set_option maxRecDepth 100000 in
theorem fC234 : sm_okM sm_MT sm_MN sm_MB sm_CN sm_T0 234 := sm_chkM_ok fK234 (by decide +kernel) (sm_chkF_ok (N := 31) (fun pc v h => by
  have h : fI234 pc = some v := h
  unfold fI234 at h
  exact Nat.le_of_ble_eq_true (sm_bif h).1) (by decide +kernel))
theorem fK235 : Jvm.Cond.code (sm_MN 235) (sm_MB 235) (sm_MT 235).2.1 (sm_rt (sm_MT 235).2.2.1) ∈ sm_T0 := sm_code_T (k := 7) (i := 71) (y := ⟨"AskedFireModel", "wrongDay", "(I)I"⟩) (b := prog_12_method_83_code) (ml := 4) (r := (some .int)) rfl
set_option maxRecDepth 100000 in
theorem fC235 : sm_okM sm_MT sm_MN sm_MB sm_CN sm_T0 235 := sm_chkM_ok fK235 (by decide +kernel) (sm_chkF_ok (N := 83) (fun pc v h => by
  have h : fI235 pc = some v := h
  unfold fI235 at h
  exact Nat.le_of_ble_eq_true (sm_bif h).1) (by decide +kernel))
theorem fK236 : Jvm.Cond.code (sm_MN 236) (sm_MB 236) (sm_MT 236).2.1 (sm_rt (sm_MT 236).2.2.1) ∈ sm_T0 := sm_code_T (k := 7) (i := 75) (y := ⟨"AskedFireModel", "read", "(III)I"⟩) (b := prog_12_method_87_code) (ml := 4) (r := (some .int)) rfl
set_option maxRecDepth 100000 in
theorem fC236 : sm_okM sm_MT sm_MN sm_MB sm_CN sm_T0 236 := sm_chkM_ok fK236 (by decide +kernel) (sm_chkF_ok (N := 81) (fun pc v h => by
  have h : fI236 pc = some v := h
  unfold fI236 at h
  exact Nat.le_of_ble_eq_true (sm_bif h).1) (by decide +kernel))
theorem fK237 : Jvm.Cond.code (sm_MN 237) (sm_MB 237) (sm_MT 237).2.1 (sm_rt (sm_MT 237).2.2.1) ∈ sm_T0 := sm_code_T (k := 7) (i := 79) (y := ⟨"AskedFireModel", "readCakes", "(IIZ)I"⟩) (b := prog_12_method_85_code) (ml := 8) (r := (some .int)) rfl
set_option maxRecDepth 100000 in
theorem fC237 : sm_okM sm_MT sm_MN sm_MB sm_CN sm_T0 237 := sm_chkM_ok fK237 (by decide +kernel) (sm_chkF_ok (N := 82) (fun pc v h => by
  have h : fI237 pc = some v := h
  unfold fI237 at h
  exact Nat.le_of_ble_eq_true (sm_bif h).1) (by decide +kernel))
theorem fK238 : Jvm.Cond.code (sm_MN 238) (sm_MB 238) (sm_MT 238).2.1 (sm_rt (sm_MT 238).2.2.1) ∈ sm_T0 := sm_code_T (k := 7) (i := 83) (y := ⟨"AskedFireModel", "readFeuds", "(IIZ)I"⟩) (b := prog_12_method_86_code) (ml := 8) (r := (some .int)) rfl
set_option maxRecDepth 100000 in
theorem fC238 : sm_okM sm_MT sm_MN sm_MB sm_CN sm_T0 238 := sm_chkM_ok fK238 (by decide +kernel) (sm_chkF_ok (N := 77) (fun pc v h => by
  have h : fI238 pc = some v := h
  unfold fI238 at h
  exact Nat.le_of_ble_eq_true (sm_bif h).1) (by decide +kernel))
theorem fK239 : Jvm.Cond.code (sm_MN 239) (sm_MB 239) (sm_MT 239).2.1 (sm_rt (sm_MT 239).2.2.1) ∈ sm_T0 := sm_code_T (k := 7) (i := 87) (y := ⟨"AskedFireModel", "drawn", "(III)I"⟩) (b := prog_12_method_88_code) (ml := 12) (r := (some .int)) rfl
set_option maxRecDepth 100000 in
theorem fC239 : sm_okM sm_MT sm_MN sm_MB sm_CN sm_T0 239 := sm_chkM_ok fK239 (by decide +kernel) (sm_chkF_ok (N := 198) (fun pc v h => by
  have h : fI239 pc = some v := h
  unfold fI239 at h
  exact Nat.le_of_ble_eq_true (sm_bif h).1) (by decide +kernel))
theorem fK240 : Jvm.Cond.code (sm_MN 240) (sm_MB 240) (sm_MT 240).2.1 (sm_rt (sm_MT 240).2.2.1) ∈ sm_T0 := sm_code_T (k := 7) (i := 92) (y := ⟨"AskedFireModel", "pass", "(I)I"⟩) (b := prog_12_method_89_code) (ml := 4) (r := (some .int)) rfl
set_option maxRecDepth 100000 in
theorem fC240 : sm_okM sm_MT sm_MN sm_MB sm_CN sm_T0 240 := sm_chkM_ok fK240 (by decide +kernel) (sm_chkF_ok (N := 158) (fun pc v h => by
  have h : fI240 pc = some v := h
  unfold fI240 at h
  exact Nat.le_of_ble_eq_true (sm_bif h).1) (by decide +kernel))
theorem fK241 : Jvm.Cond.code (sm_MN 241) (sm_MB 241) (sm_MT 241).2.1 (sm_rt (sm_MT 241).2.2.1) ∈ sm_T0 := sm_code_T (k := 7) (i := 96) (y := ⟨"AskedFireModel", "build", "(I)I"⟩) (b := prog_12_method_90_code) (ml := 2) (r := (some .int)) rfl
set_option maxRecDepth 100000 in
theorem fC241 : sm_okM sm_MT sm_MN sm_MB sm_CN sm_T0 241 := sm_chkM_ok fK241 (by decide +kernel) (sm_chkF_ok (N := 48) (fun pc v h => by
  have h : fI241 pc = some v := h
  unfold fI241 at h
  exact Nat.le_of_ble_eq_true (sm_bif h).1) (by decide +kernel))
theorem fK242 : Jvm.Cond.code (sm_MN 242) (sm_MB 242) (sm_MT 242).2.1 (sm_rt (sm_MT 242).2.2.1) ∈ sm_T0 := sm_code_T (k := 7) (i := 100) (y := ⟨"AskedFireModel", "led", "(I)I"⟩) (b := prog_12_method_91_code) (ml := 2) (r := (some .int)) rfl
set_option maxRecDepth 100000 in
theorem fC242 : sm_okM sm_MT sm_MN sm_MB sm_CN sm_T0 242 := sm_chkM_ok fK242 (by decide +kernel) (sm_chkF_ok (N := 43) (fun pc v h => by
  have h : fI242 pc = some v := h
  unfold fI242 at h
  exact Nat.le_of_ble_eq_true (sm_bif h).1) (by decide +kernel))
theorem fK243 : Jvm.Cond.code (sm_MN 243) (sm_MB 243) (sm_MT 243).2.1 (sm_rt (sm_MT 243).2.2.1) ∈ sm_T0 := sm_code_T (k := 7) (i := 104) (y := ⟨"AskedFireModel", "image", "()I"⟩) (b := prog_12_method_92_code) (ml := 2) (r := (some .int)) rfl
set_option maxRecDepth 100000 in
theorem fC243 : sm_okM sm_MT sm_MN sm_MB sm_CN sm_T0 243 := sm_chkM_ok fK243 (by decide +kernel) (sm_chkF_ok (N := 101) (fun pc v h => by
  have h : fI243 pc = some v := h
  unfold fI243 at h
  exact Nat.le_of_ble_eq_true (sm_bif h).1) (by decide +kernel))
theorem fK244 : Jvm.Cond.code (sm_MN 244) (sm_MB 244) (sm_MT 244).2.1 (sm_rt (sm_MT 244).2.2.1) ∈ sm_T0 := sm_code_T (k := 7) (i := 108) (y := ⟨"AskedFireModel", "back", "()I"⟩) (b := prog_12_method_93_code) (ml := 2) (r := (some .int)) rfl
set_option maxRecDepth 100000 in
theorem fC244 : sm_okM sm_MT sm_MN sm_MB sm_CN sm_T0 244 := sm_chkM_ok fK244 (by decide +kernel) (sm_chkF_ok (N := 122) (fun pc v h => by
  have h : fI244 pc = some v := h
  unfold fI244 at h
  exact Nat.le_of_ble_eq_true (sm_bif h).1) (by decide +kernel))
theorem fK245 : Jvm.Cond.code (sm_MN 245) (sm_MB 245) (sm_MT 245).2.1 (sm_rt (sm_MT 245).2.2.1) ∈ sm_T0 := sm_code_T (k := 7) (i := 112) (y := ⟨"AskedFireModel", "trace", "(I)I"⟩) (b := prog_12_method_96_code) (ml := 2) (r := (some .int)) rfl
set_option maxRecDepth 100000 in
theorem fC245 : sm_okM sm_MT sm_MN sm_MB sm_CN sm_T0 245 := sm_chkM_ok fK245 (by decide +kernel) (sm_chkF_ok (N := 29) (fun pc v h => by
  have h : fI245 pc = some v := h
  unfold fI245 at h
  exact Nat.le_of_ble_eq_true (sm_bif h).1) (by decide +kernel))
theorem fK246 : Jvm.Cond.code (sm_MN 246) (sm_MB 246) (sm_MT 246).2.1 (sm_rt (sm_MT 246).2.2.1) ∈ sm_T0 := sm_code_T (k := 7) (i := 116) (y := ⟨"AskedFireModel", "body", "(I)I"⟩) (b := prog_12_method_97_code) (ml := 2) (r := (some .int)) rfl
set_option maxRecDepth 100000 in
theorem fC246 : sm_okM sm_MT sm_MN sm_MB sm_CN sm_T0 246 := sm_chkM_ok fK246 (by decide +kernel) (sm_chkF_ok (N := 51) (fun pc v h => by
  have h : fI246 pc = some v := h
  unfold fI246 at h
  exact Nat.le_of_ble_eq_true (sm_bif h).1) (by decide +kernel))
theorem fK247 : Jvm.Cond.code (sm_MN 247) (sm_MB 247) (sm_MT 247).2.1 (sm_rt (sm_MT 247).2.2.1) ∈ sm_T0 := sm_code_T (k := 7) (i := 120) (y := ⟨"AskedFireModel", "act", "(III)I"⟩) (b := prog_12_method_110_code) (ml := 4) (r := (some .int)) rfl
set_option maxRecDepth 100000 in
theorem fC247 : sm_okM sm_MT sm_MN sm_MB sm_CN sm_T0 247 := sm_chkM_ok fK247 (by decide +kernel) (sm_chkF_ok (N := 72) (fun pc v h => by
  have h : fI247 pc = some v := h
  unfold fI247 at h
  exact Nat.le_of_ble_eq_true (sm_bif h).1) (by decide +kernel))
theorem fK248 : Jvm.Cond.code (sm_MN 248) (sm_MB 248) (sm_MT 248).2.1 (sm_rt (sm_MT 248).2.2.1) ∈ sm_T0 := sm_code_T (k := 7) (i := 124) (y := ⟨"AskedFireModel", "isBody", "(I)Z"⟩) (b := prog_12_method_94_code) (ml := 2) (r := (some .boolean)) rfl
set_option maxRecDepth 100000 in
theorem fC248 : sm_okM sm_MT sm_MN sm_MB sm_CN sm_T0 248 := sm_chkM_ok fK248 (by decide +kernel) (sm_chkF_ok (N := 12) (fun pc v h => by
  have h : fI248 pc = some v := h
  unfold fI248 at h
  exact Nat.le_of_ble_eq_true (sm_bif h).1) (by decide +kernel))
theorem fK249 : Jvm.Cond.code (sm_MN 249) (sm_MB 249) (sm_MT 249).2.1 (sm_rt (sm_MT 249).2.2.1) ∈ sm_T0 := sm_code_T (k := 7) (i := 128) (y := ⟨"AskedFireModel", "coming", "(II)I"⟩) (b := prog_12_method_101_code) (ml := 3) (r := (some .int)) rfl
set_option maxRecDepth 100000 in
theorem fC249 : sm_okM sm_MT sm_MN sm_MB sm_CN sm_T0 249 := sm_chkM_ok fK249 (by decide +kernel) (sm_chkF_ok (N := 81) (fun pc v h => by
  have h : fI249 pc = some v := h
  unfold fI249 at h
  exact Nat.le_of_ble_eq_true (sm_bif h).1) (by decide +kernel))
theorem fK250 : Jvm.Cond.code (sm_MN 250) (sm_MB 250) (sm_MT 250).2.1 (sm_rt (sm_MT 250).2.2.1) ∈ sm_T0 := sm_code_T (k := 7) (i := 131) (y := ⟨"AskedFireModel", "isUnder", "(II)Z"⟩) (b := prog_12_method_98_code) (ml := 2) (r := (some .boolean)) rfl
set_option maxRecDepth 100000 in
theorem fC250 : sm_okM sm_MT sm_MN sm_MB sm_CN sm_T0 250 := sm_chkM_ok fK250 (by decide +kernel) (sm_chkF_ok (N := 62) (fun pc v h => by
  have h : fI250 pc = some v := h
  unfold fI250 at h
  exact Nat.le_of_ble_eq_true (sm_bif h).1) (by decide +kernel))
theorem fK251 : Jvm.Cond.code (sm_MN 251) (sm_MB 251) (sm_MT 251).2.1 (sm_rt (sm_MT 251).2.2.1) ∈ sm_T0 := sm_code_T (k := 7) (i := 135) (y := ⟨"AskedFireModel", "ran", "(I)V"⟩) (b := prog_12_method_95_code) (ml := 2) (r := none) rfl
set_option maxRecDepth 100000 in
theorem fC251 : sm_okM sm_MT sm_MN sm_MB sm_CN sm_T0 251 := sm_chkM_ok fK251 (by decide +kernel) (sm_chkF_ok (N := 30) (fun pc v h => by
  have h : fI251 pc = some v := h
  unfold fI251 at h
  exact Nat.le_of_ble_eq_true (sm_bif h).1) (by decide +kernel))
theorem fK252 : Jvm.Cond.code (sm_MN 252) (sm_MB 252) (sm_MT 252).2.1 (sm_rt (sm_MT 252).2.2.1) ∈ sm_T0 := sm_code_T (k := 7) (i := 139) (y := ⟨"AskedFireModel", "plainComes", "(II)I"⟩) (b := prog_12_method_99_code) (ml := 3) (r := (some .int)) rfl
set_option maxRecDepth 100000 in
theorem fC252 : sm_okM sm_MT sm_MN sm_MB sm_CN sm_T0 252 := sm_chkM_ok fK252 (by decide +kernel) (sm_chkF_ok (N := 9) (fun pc v h => by
  have h : fI252 pc = some v := h
  unfold fI252 at h
  exact Nat.le_of_ble_eq_true (sm_bif h).1) (by decide +kernel))
theorem fK253 : Jvm.Cond.code (sm_MN 253) (sm_MB 253) (sm_MT 253).2.1 (sm_rt (sm_MT 253).2.2.1) ∈ sm_T0 := sm_code_T (k := 7) (i := 143) (y := ⟨"AskedFireModel", "childComes", "(II)I"⟩) (b := prog_12_method_100_code) (ml := 3) (r := (some .int)) rfl
set_option maxRecDepth 100000 in
theorem fC253 : sm_okM sm_MT sm_MN sm_MB sm_CN sm_T0 253 := sm_chkM_ok fK253 (by decide +kernel) (sm_chkF_ok (N := 15) (fun pc v h => by
  have h : fI253 pc = some v := h
  unfold fI253 at h
  exact Nat.le_of_ble_eq_true (sm_bif h).1) (by decide +kernel))
theorem fK254 : Jvm.Cond.code (sm_MN 254) (sm_MB 254) (sm_MT 254).2.1 (sm_rt (sm_MT 254).2.2.1) ∈ sm_T0 := sm_code_T (k := 7) (i := 147) (y := ⟨"AskedFireModel", "dancing", "(II)I"⟩) (b := prog_12_method_104_code) (ml := 4) (r := (some .int)) rfl
set_option maxRecDepth 100000 in
theorem fC254 : sm_okM sm_MT sm_MN sm_MB sm_CN sm_T0 254 := sm_chkM_ok fK254 (by decide +kernel) (sm_chkF_ok (N := 87) (fun pc v h => by
  have h : fI254 pc = some v := h
  unfold fI254 at h
  exact Nat.le_of_ble_eq_true (sm_bif h).1) (by decide +kernel))
theorem fK255 : Jvm.Cond.code (sm_MN 255) (sm_MB 255) (sm_MT 255).2.1 (sm_rt (sm_MT 255).2.2.1) ∈ sm_T0 := sm_code_T (k := 7) (i := 151) (y := ⟨"AskedFireModel", "cookDances", "(II)I"⟩) (b := prog_12_method_103_code) (ml := 3) (r := (some .int)) rfl
set_option maxRecDepth 100000 in
theorem fC255 : sm_okM sm_MT sm_MN sm_MB sm_CN sm_T0 255 := sm_chkM_ok fK255 (by decide +kernel) (sm_chkF_ok (N := 14) (fun pc v h => by
  have h : fI255 pc = some v := h
  unfold fI255 at h
  exact Nat.le_of_ble_eq_true (sm_bif h).1) (by decide +kernel))
theorem fK256 : Jvm.Cond.code (sm_MN 256) (sm_MB 256) (sm_MT 256).2.1 (sm_rt (sm_MT 256).2.2.1) ∈ sm_T0 := sm_code_T (k := 7) (i := 155) (y := ⟨"AskedFireModel", "plainDances", "(II)I"⟩) (b := prog_12_method_102_code) (ml := 3) (r := (some .int)) rfl
set_option maxRecDepth 100000 in
theorem fC256 : sm_okM sm_MT sm_MN sm_MB sm_CN sm_T0 256 := sm_chkM_ok fK256 (by decide +kernel) (sm_chkF_ok (N := 15) (fun pc v h => by
  have h : fI256 pc = some v := h
  unfold fI256 at h
  exact Nat.le_of_ble_eq_true (sm_bif h).1) (by decide +kernel))
theorem fK257 : Jvm.Cond.code (sm_MN 257) (sm_MB 257) (sm_MT 257).2.1 (sm_rt (sm_MT 257).2.2.1) ∈ sm_T0 := sm_code_T (k := 7) (i := 159) (y := ⟨"AskedFireModel", "regretting", "(II)I"⟩) (b := prog_12_method_107_code) (ml := 4) (r := (some .int)) rfl
set_option maxRecDepth 100000 in
theorem fC257 : sm_okM sm_MT sm_MN sm_MB sm_CN sm_T0 257 := sm_chkM_ok fK257 (by decide +kernel) (sm_chkF_ok (N := 58) (fun pc v h => by
  have h : fI257 pc = some v := h
  unfold fI257 at h
  exact Nat.le_of_ble_eq_true (sm_bif h).1) (by decide +kernel))
theorem fK258 : Jvm.Cond.code (sm_MN 258) (sm_MB 258) (sm_MT 258).2.1 (sm_rt (sm_MT 258).2.2.1) ∈ sm_T0 := sm_code_T (k := 7) (i := 163) (y := ⟨"AskedFireModel", "pumpRegrets", "(II)I"⟩) (b := prog_12_method_106_code) (ml := 3) (r := (some .int)) rfl
set_option maxRecDepth 100000 in
theorem fC258 : sm_okM sm_MT sm_MN sm_MB sm_CN sm_T0 258 := sm_chkM_ok fK258 (by decide +kernel) (sm_chkF_ok (N := 15) (fun pc v h => by
  have h : fI258 pc = some v := h
  unfold fI258 at h
  exact Nat.le_of_ble_eq_true (sm_bif h).1) (by decide +kernel))
theorem fK259 : Jvm.Cond.code (sm_MN 259) (sm_MB 259) (sm_MT 259).2.1 (sm_rt (sm_MT 259).2.2.1) ∈ sm_T0 := sm_code_T (k := 7) (i := 167) (y := ⟨"AskedFireModel", "plainRegrets", "(II)I"⟩) (b := prog_12_method_105_code) (ml := 3) (r := (some .int)) rfl
set_option maxRecDepth 100000 in
theorem fC259 : sm_okM sm_MT sm_MN sm_MB sm_CN sm_T0 259 := sm_chkM_ok fK259 (by decide +kernel) (sm_chkF_ok (N := 10) (fun pc v h => by
  have h : fI259 pc = some v := h
  unfold fI259 at h
  exact Nat.le_of_ble_eq_true (sm_bif h).1) (by decide +kernel))
theorem fK260 : Jvm.Cond.code (sm_MN 260) (sm_MB 260) (sm_MT 260).2.1 (sm_rt (sm_MT 260).2.2.1) ∈ sm_T0 := sm_code_T (k := 7) (i := 171) (y := ⟨"AskedFireModel", "telling", "(II)I"⟩) (b := prog_12_method_109_code) (ml := 3) (r := (some .int)) rfl
set_option maxRecDepth 100000 in
theorem fC260 : sm_okM sm_MT sm_MN sm_MB sm_CN sm_T0 260 := sm_chkM_ok fK260 (by decide +kernel) (sm_chkF_ok (N := 57) (fun pc v h => by
  have h : fI260 pc = some v := h
  unfold fI260 at h
  exact Nat.le_of_ble_eq_true (sm_bif h).1) (by decide +kernel))
theorem fK261 : Jvm.Cond.code (sm_MN 261) (sm_MB 261) (sm_MT 261).2.1 (sm_rt (sm_MT 261).2.2.1) ∈ sm_T0 := sm_code_T (k := 7) (i := 175) (y := ⟨"AskedFireModel", "plainTells", "(II)I"⟩) (b := prog_12_method_108_code) (ml := 4) (r := (some .int)) rfl
set_option maxRecDepth 100000 in
theorem fC261 : sm_okM sm_MT sm_MN sm_MB sm_CN sm_T0 261 := sm_chkM_ok fK261 (by decide +kernel) (sm_chkF_ok (N := 21) (fun pc v h => by
  have h : fI261 pc = some v := h
  unfold fI261 at h
  exact Nat.le_of_ble_eq_true (sm_bif h).1) (by decide +kernel))
theorem fK262 : Jvm.Cond.code (sm_MN 262) (sm_MB 262) (sm_MT 262).2.1 (sm_rt (sm_MT 262).2.2.1) ∈ sm_T0 := sm_code_T (k := 7) (i := 179) (y := ⟨"AskedFireModel", "count", "(I)I"⟩) (b := prog_12_method_111_code) (ml := 2) (r := (some .int)) rfl
set_option maxRecDepth 100000 in
theorem fC262 : sm_okM sm_MT sm_MN sm_MB sm_CN sm_T0 262 := sm_chkM_ok fK262 (by decide +kernel) (sm_chkF_ok (N := 72) (fun pc v h => by
  have h : fI262 pc = some v := h
  unfold fI262 at h
  exact Nat.le_of_ble_eq_true (sm_bif h).1) (by decide +kernel))
theorem fK263 : Jvm.Cond.code (sm_MN 263) (sm_MB 263) (sm_MT 263).2.1 (sm_rt (sm_MT 263).2.2.1) ∈ sm_T0 := sm_code_T (k := 7) (i := 183) (y := ⟨"AskedFireModel", "keep", "(II)I"⟩) (b := prog_12_method_113_code) (ml := 3) (r := (some .int)) rfl
set_option maxRecDepth 100000 in
theorem fC263 : sm_okM sm_MT sm_MN sm_MB sm_CN sm_T0 263 := sm_chkM_ok fK263 (by decide +kernel) (sm_chkF_ok (N := 31) (fun pc v h => by
  have h : fI263 pc = some v := h
  unfold fI263 at h
  exact Nat.le_of_ble_eq_true (sm_bif h).1) (by decide +kernel))
theorem fK264 : Jvm.Cond.code (sm_MN 264) (sm_MB 264) (sm_MT 264).2.1 (sm_rt (sm_MT 264).2.2.1) ∈ sm_T0 := sm_code_T (k := 7) (i := 187) (y := ⟨"AskedFireModel", "row", "(III)I"⟩) (b := prog_12_method_114_code) (ml := 5) (r := (some .int)) rfl
set_option maxRecDepth 100000 in
theorem fC264 : sm_okM sm_MT sm_MN sm_MB sm_CN sm_T0 264 := sm_chkM_ok fK264 (by decide +kernel) (sm_chkF_ok (N := 82) (fun pc v h => by
  have h : fI264 pc = some v := h
  unfold fI264 at h
  exact Nat.le_of_ble_eq_true (sm_bif h).1) (by decide +kernel))
theorem fK265 : Jvm.Cond.code (sm_MN 265) (sm_MB 265) (sm_MT 265).2.1 (sm_rt (sm_MT 265).2.2.1) ∈ sm_T0 := sm_code_T (k := 7) (i := 191) (y := ⟨"AskedFireModel", "put", "(IIJ)I"⟩) (b := prog_12_method_116_code) (ml := 7) (r := (some .int)) rfl
set_option maxRecDepth 100000 in
theorem fC265 : sm_okM sm_MT sm_MN sm_MB sm_CN sm_T0 265 := sm_chkM_ok fK265 (by decide +kernel) (sm_chkF_ok (N := 98) (fun pc v h => by
  have h : fI265 pc = some v := h
  unfold fI265 at h
  exact Nat.le_of_ble_eq_true (sm_bif h).1) (by decide +kernel))
theorem fK266 : Jvm.Cond.code (sm_MN 266) (sm_MB 266) (sm_MT 266).2.1 (sm_rt (sm_MT 266).2.2.1) ∈ sm_T0 := sm_code_T (k := 7) (i := 195) (y := ⟨"AskedFireModel", "whyNoPlace", "(II)I"⟩) (b := prog_12_method_115_code) (ml := 3) (r := (some .int)) rfl
set_option maxRecDepth 100000 in
theorem fC266 : sm_okM sm_MT sm_MN sm_MB sm_CN sm_T0 266 := sm_chkM_ok fK266 (by decide +kernel) (sm_chkF_ok (N := 57) (fun pc v h => by
  have h : fI266 pc = some v := h
  unfold fI266 at h
  exact Nat.le_of_ble_eq_true (sm_bif h).1) (by decide +kernel))
theorem fK267 : Jvm.Cond.code (sm_MN 267) (sm_MB 267) (sm_MT 267).2.1 (sm_rt (sm_MT 267).2.2.1) ∈ sm_T0 := sm_code_T (k := 7) (i := 199) (y := ⟨"AskedFireModel", "element", "(II)J"⟩) (b := prog_12_method_117_code) (ml := 3) (r := (some .long)) rfl
set_option maxRecDepth 100000 in
theorem fC267 : sm_okM sm_MT sm_MN sm_MB sm_CN sm_T0 267 := sm_chkM_ok fK267 (by decide +kernel) (sm_chkF_ok (N := 27) (fun pc v h => by
  have h : fI267 pc = some v := h
  unfold fI267 at h
  exact Nat.le_of_ble_eq_true (sm_bif h).1) (by decide +kernel))
theorem fK268 : Jvm.Cond.code (sm_MN 268) (sm_MB 268) (sm_MT 268).2.1 (sm_rt (sm_MT 268).2.2.1) ∈ sm_T0 := sm_code_T (k := 7) (i := 203) (y := ⟨"AskedFireModel", "shift", "(IIIII)I"⟩) (b := prog_12_method_118_code) (ml := 7) (r := (some .int)) rfl
set_option maxRecDepth 100000 in
theorem fC268 : sm_okM sm_MT sm_MN sm_MB sm_CN sm_T0 268 := sm_chkM_ok fK268 (by decide +kernel) (sm_chkF_ok (N := 188) (fun pc v h => by
  have h : fI268 pc = some v := h
  unfold fI268 at h
  exact Nat.le_of_ble_eq_true (sm_bif h).1) (by decide +kernel))
theorem fK269 : Jvm.Cond.code (sm_MN 269) (sm_MB 269) (sm_MT 269).2.1 (sm_rt (sm_MT 269).2.2.1) ∈ sm_T0 := sm_code_T (k := 7) (i := 207) (y := ⟨"AskedFireModel", "taken", "(II)I"⟩) (b := prog_12_method_119_code) (ml := 3) (r := (some .int)) rfl
set_option maxRecDepth 100000 in
theorem fC269 : sm_okM sm_MT sm_MN sm_MB sm_CN sm_T0 269 := sm_chkM_ok fK269 (by decide +kernel) (sm_chkF_ok (N := 76) (fun pc v h => by
  have h : fI269 pc = some v := h
  unfold fI269 at h
  exact Nat.le_of_ble_eq_true (sm_bif h).1) (by decide +kernel))
theorem sm_le_step {P : Nat → Prop} {n : Nat} (h : ∀ k, 0 < k → k < n → P k) (h1 : P n) : ∀ k, 0 < k → k < n + 1 → P k := fun k h0 hk => (Nat.lt_succ_iff_lt_or_eq.mp hk).elim (h k h0) (fun e => e ▸ h1)
theorem fM1 : ∀ k, 0 < k → k < 1 → sm_okM sm_MT sm_MN sm_MB sm_CN sm_T0 k := fun k h0 hk => absurd hk (by omega)
theorem fM2 : ∀ k, 0 < k → k < 2 → sm_okM sm_MT sm_MN sm_MB sm_CN sm_T0 k := sm_le_step fM1 fC1
theorem fM3 : ∀ k, 0 < k → k < 3 → sm_okM sm_MT sm_MN sm_MB sm_CN sm_T0 k := sm_le_step fM2 fC2
theorem fM4 : ∀ k, 0 < k → k < 4 → sm_okM sm_MT sm_MN sm_MB sm_CN sm_T0 k := sm_le_step fM3 fC3
theorem fM5 : ∀ k, 0 < k → k < 5 → sm_okM sm_MT sm_MN sm_MB sm_CN sm_T0 k := sm_le_step fM4 fC4
theorem fM6 : ∀ k, 0 < k → k < 6 → sm_okM sm_MT sm_MN sm_MB sm_CN sm_T0 k := sm_le_step fM5 fC5
theorem fM7 : ∀ k, 0 < k → k < 7 → sm_okM sm_MT sm_MN sm_MB sm_CN sm_T0 k := sm_le_step fM6 fC6
theorem fM8 : ∀ k, 0 < k → k < 8 → sm_okM sm_MT sm_MN sm_MB sm_CN sm_T0 k := sm_le_step fM7 fC7
theorem fM9 : ∀ k, 0 < k → k < 9 → sm_okM sm_MT sm_MN sm_MB sm_CN sm_T0 k := sm_le_step fM8 fC8
theorem fM10 : ∀ k, 0 < k → k < 10 → sm_okM sm_MT sm_MN sm_MB sm_CN sm_T0 k := sm_le_step fM9 fC9
theorem fM11 : ∀ k, 0 < k → k < 11 → sm_okM sm_MT sm_MN sm_MB sm_CN sm_T0 k := sm_le_step fM10 fC10
theorem fM12 : ∀ k, 0 < k → k < 12 → sm_okM sm_MT sm_MN sm_MB sm_CN sm_T0 k := sm_le_step fM11 fC11
theorem fM13 : ∀ k, 0 < k → k < 13 → sm_okM sm_MT sm_MN sm_MB sm_CN sm_T0 k := sm_le_step fM12 fC12
theorem fM14 : ∀ k, 0 < k → k < 14 → sm_okM sm_MT sm_MN sm_MB sm_CN sm_T0 k := sm_le_step fM13 fC13
theorem fM15 : ∀ k, 0 < k → k < 15 → sm_okM sm_MT sm_MN sm_MB sm_CN sm_T0 k := sm_le_step fM14 fC14
theorem fM16 : ∀ k, 0 < k → k < 16 → sm_okM sm_MT sm_MN sm_MB sm_CN sm_T0 k := sm_le_step fM15 fC15
theorem fM17 : ∀ k, 0 < k → k < 17 → sm_okM sm_MT sm_MN sm_MB sm_CN sm_T0 k := sm_le_step fM16 fC16
theorem fM18 : ∀ k, 0 < k → k < 18 → sm_okM sm_MT sm_MN sm_MB sm_CN sm_T0 k := sm_le_step fM17 fC17
theorem fM19 : ∀ k, 0 < k → k < 19 → sm_okM sm_MT sm_MN sm_MB sm_CN sm_T0 k := sm_le_step fM18 fC18
theorem fM20 : ∀ k, 0 < k → k < 20 → sm_okM sm_MT sm_MN sm_MB sm_CN sm_T0 k := sm_le_step fM19 fC19
theorem fM21 : ∀ k, 0 < k → k < 21 → sm_okM sm_MT sm_MN sm_MB sm_CN sm_T0 k := sm_le_step fM20 fC20
theorem fM22 : ∀ k, 0 < k → k < 22 → sm_okM sm_MT sm_MN sm_MB sm_CN sm_T0 k := sm_le_step fM21 fC21
theorem fM23 : ∀ k, 0 < k → k < 23 → sm_okM sm_MT sm_MN sm_MB sm_CN sm_T0 k := sm_le_step fM22 fC22
theorem fM24 : ∀ k, 0 < k → k < 24 → sm_okM sm_MT sm_MN sm_MB sm_CN sm_T0 k := sm_le_step fM23 fC23
theorem fM25 : ∀ k, 0 < k → k < 25 → sm_okM sm_MT sm_MN sm_MB sm_CN sm_T0 k := sm_le_step fM24 fC24
theorem fM26 : ∀ k, 0 < k → k < 26 → sm_okM sm_MT sm_MN sm_MB sm_CN sm_T0 k := sm_le_step fM25 fC25
theorem fM27 : ∀ k, 0 < k → k < 27 → sm_okM sm_MT sm_MN sm_MB sm_CN sm_T0 k := sm_le_step fM26 fC26
theorem fM28 : ∀ k, 0 < k → k < 28 → sm_okM sm_MT sm_MN sm_MB sm_CN sm_T0 k := sm_le_step fM27 fC27
theorem fM29 : ∀ k, 0 < k → k < 29 → sm_okM sm_MT sm_MN sm_MB sm_CN sm_T0 k := sm_le_step fM28 fC28
theorem fM30 : ∀ k, 0 < k → k < 30 → sm_okM sm_MT sm_MN sm_MB sm_CN sm_T0 k := sm_le_step fM29 fC29
theorem fM31 : ∀ k, 0 < k → k < 31 → sm_okM sm_MT sm_MN sm_MB sm_CN sm_T0 k := sm_le_step fM30 fC30
theorem fM32 : ∀ k, 0 < k → k < 32 → sm_okM sm_MT sm_MN sm_MB sm_CN sm_T0 k := sm_le_step fM31 fC31
theorem fM33 : ∀ k, 0 < k → k < 33 → sm_okM sm_MT sm_MN sm_MB sm_CN sm_T0 k := sm_le_step fM32 fC32
theorem fM34 : ∀ k, 0 < k → k < 34 → sm_okM sm_MT sm_MN sm_MB sm_CN sm_T0 k := sm_le_step fM33 fC33
theorem fM35 : ∀ k, 0 < k → k < 35 → sm_okM sm_MT sm_MN sm_MB sm_CN sm_T0 k := sm_le_step fM34 fC34
theorem fM36 : ∀ k, 0 < k → k < 36 → sm_okM sm_MT sm_MN sm_MB sm_CN sm_T0 k := sm_le_step fM35 fC35
theorem fM37 : ∀ k, 0 < k → k < 37 → sm_okM sm_MT sm_MN sm_MB sm_CN sm_T0 k := sm_le_step fM36 fC36
theorem fM38 : ∀ k, 0 < k → k < 38 → sm_okM sm_MT sm_MN sm_MB sm_CN sm_T0 k := sm_le_step fM37 fC37
theorem fM39 : ∀ k, 0 < k → k < 39 → sm_okM sm_MT sm_MN sm_MB sm_CN sm_T0 k := sm_le_step fM38 fC38
theorem fM40 : ∀ k, 0 < k → k < 40 → sm_okM sm_MT sm_MN sm_MB sm_CN sm_T0 k := sm_le_step fM39 fC39
theorem fM41 : ∀ k, 0 < k → k < 41 → sm_okM sm_MT sm_MN sm_MB sm_CN sm_T0 k := sm_le_step fM40 fC40
theorem fM42 : ∀ k, 0 < k → k < 42 → sm_okM sm_MT sm_MN sm_MB sm_CN sm_T0 k := sm_le_step fM41 fC41
theorem fM43 : ∀ k, 0 < k → k < 43 → sm_okM sm_MT sm_MN sm_MB sm_CN sm_T0 k := sm_le_step fM42 fC42
theorem fM44 : ∀ k, 0 < k → k < 44 → sm_okM sm_MT sm_MN sm_MB sm_CN sm_T0 k := sm_le_step fM43 fC43
theorem fM45 : ∀ k, 0 < k → k < 45 → sm_okM sm_MT sm_MN sm_MB sm_CN sm_T0 k := sm_le_step fM44 fC44
theorem fM46 : ∀ k, 0 < k → k < 46 → sm_okM sm_MT sm_MN sm_MB sm_CN sm_T0 k := sm_le_step fM45 fC45
theorem fM47 : ∀ k, 0 < k → k < 47 → sm_okM sm_MT sm_MN sm_MB sm_CN sm_T0 k := sm_le_step fM46 fC46
theorem fM48 : ∀ k, 0 < k → k < 48 → sm_okM sm_MT sm_MN sm_MB sm_CN sm_T0 k := sm_le_step fM47 fC47
theorem fM49 : ∀ k, 0 < k → k < 49 → sm_okM sm_MT sm_MN sm_MB sm_CN sm_T0 k := sm_le_step fM48 fC48
theorem fM50 : ∀ k, 0 < k → k < 50 → sm_okM sm_MT sm_MN sm_MB sm_CN sm_T0 k := sm_le_step fM49 fC49
theorem fM51 : ∀ k, 0 < k → k < 51 → sm_okM sm_MT sm_MN sm_MB sm_CN sm_T0 k := sm_le_step fM50 fC50
theorem fM52 : ∀ k, 0 < k → k < 52 → sm_okM sm_MT sm_MN sm_MB sm_CN sm_T0 k := sm_le_step fM51 fC51
theorem fM53 : ∀ k, 0 < k → k < 53 → sm_okM sm_MT sm_MN sm_MB sm_CN sm_T0 k := sm_le_step fM52 fC52
theorem fM54 : ∀ k, 0 < k → k < 54 → sm_okM sm_MT sm_MN sm_MB sm_CN sm_T0 k := sm_le_step fM53 fC53
theorem fM55 : ∀ k, 0 < k → k < 55 → sm_okM sm_MT sm_MN sm_MB sm_CN sm_T0 k := sm_le_step fM54 fC54
theorem fM56 : ∀ k, 0 < k → k < 56 → sm_okM sm_MT sm_MN sm_MB sm_CN sm_T0 k := sm_le_step fM55 fC55
theorem fM57 : ∀ k, 0 < k → k < 57 → sm_okM sm_MT sm_MN sm_MB sm_CN sm_T0 k := sm_le_step fM56 fC56
theorem fM58 : ∀ k, 0 < k → k < 58 → sm_okM sm_MT sm_MN sm_MB sm_CN sm_T0 k := sm_le_step fM57 fC57
theorem fM59 : ∀ k, 0 < k → k < 59 → sm_okM sm_MT sm_MN sm_MB sm_CN sm_T0 k := sm_le_step fM58 fC58
theorem fM60 : ∀ k, 0 < k → k < 60 → sm_okM sm_MT sm_MN sm_MB sm_CN sm_T0 k := sm_le_step fM59 fC59
theorem fM61 : ∀ k, 0 < k → k < 61 → sm_okM sm_MT sm_MN sm_MB sm_CN sm_T0 k := sm_le_step fM60 fC60
theorem fM62 : ∀ k, 0 < k → k < 62 → sm_okM sm_MT sm_MN sm_MB sm_CN sm_T0 k := sm_le_step fM61 fC61
theorem fM63 : ∀ k, 0 < k → k < 63 → sm_okM sm_MT sm_MN sm_MB sm_CN sm_T0 k := sm_le_step fM62 fC62
theorem fM64 : ∀ k, 0 < k → k < 64 → sm_okM sm_MT sm_MN sm_MB sm_CN sm_T0 k := sm_le_step fM63 fC63
theorem fM65 : ∀ k, 0 < k → k < 65 → sm_okM sm_MT sm_MN sm_MB sm_CN sm_T0 k := sm_le_step fM64 fC64
theorem fM66 : ∀ k, 0 < k → k < 66 → sm_okM sm_MT sm_MN sm_MB sm_CN sm_T0 k := sm_le_step fM65 fC65
theorem fM67 : ∀ k, 0 < k → k < 67 → sm_okM sm_MT sm_MN sm_MB sm_CN sm_T0 k := sm_le_step fM66 fC66
theorem fM68 : ∀ k, 0 < k → k < 68 → sm_okM sm_MT sm_MN sm_MB sm_CN sm_T0 k := sm_le_step fM67 fC67
theorem fM69 : ∀ k, 0 < k → k < 69 → sm_okM sm_MT sm_MN sm_MB sm_CN sm_T0 k := sm_le_step fM68 fC68
theorem fM70 : ∀ k, 0 < k → k < 70 → sm_okM sm_MT sm_MN sm_MB sm_CN sm_T0 k := sm_le_step fM69 fC69
theorem fM71 : ∀ k, 0 < k → k < 71 → sm_okM sm_MT sm_MN sm_MB sm_CN sm_T0 k := sm_le_step fM70 fC70
theorem fM72 : ∀ k, 0 < k → k < 72 → sm_okM sm_MT sm_MN sm_MB sm_CN sm_T0 k := sm_le_step fM71 fC71
theorem fM73 : ∀ k, 0 < k → k < 73 → sm_okM sm_MT sm_MN sm_MB sm_CN sm_T0 k := sm_le_step fM72 fC72
theorem fM74 : ∀ k, 0 < k → k < 74 → sm_okM sm_MT sm_MN sm_MB sm_CN sm_T0 k := sm_le_step fM73 fC73
theorem fM75 : ∀ k, 0 < k → k < 75 → sm_okM sm_MT sm_MN sm_MB sm_CN sm_T0 k := sm_le_step fM74 fC74
theorem fM76 : ∀ k, 0 < k → k < 76 → sm_okM sm_MT sm_MN sm_MB sm_CN sm_T0 k := sm_le_step fM75 fC75
theorem fM77 : ∀ k, 0 < k → k < 77 → sm_okM sm_MT sm_MN sm_MB sm_CN sm_T0 k := sm_le_step fM76 fC76
theorem fM78 : ∀ k, 0 < k → k < 78 → sm_okM sm_MT sm_MN sm_MB sm_CN sm_T0 k := sm_le_step fM77 fC77
theorem fM79 : ∀ k, 0 < k → k < 79 → sm_okM sm_MT sm_MN sm_MB sm_CN sm_T0 k := sm_le_step fM78 fC78
theorem fM80 : ∀ k, 0 < k → k < 80 → sm_okM sm_MT sm_MN sm_MB sm_CN sm_T0 k := sm_le_step fM79 fC79
theorem fM81 : ∀ k, 0 < k → k < 81 → sm_okM sm_MT sm_MN sm_MB sm_CN sm_T0 k := sm_le_step fM80 fC80
theorem fM82 : ∀ k, 0 < k → k < 82 → sm_okM sm_MT sm_MN sm_MB sm_CN sm_T0 k := sm_le_step fM81 fC81
theorem fM83 : ∀ k, 0 < k → k < 83 → sm_okM sm_MT sm_MN sm_MB sm_CN sm_T0 k := sm_le_step fM82 fC82
theorem fM84 : ∀ k, 0 < k → k < 84 → sm_okM sm_MT sm_MN sm_MB sm_CN sm_T0 k := sm_le_step fM83 fC83
theorem fM85 : ∀ k, 0 < k → k < 85 → sm_okM sm_MT sm_MN sm_MB sm_CN sm_T0 k := sm_le_step fM84 fC84
theorem fM86 : ∀ k, 0 < k → k < 86 → sm_okM sm_MT sm_MN sm_MB sm_CN sm_T0 k := sm_le_step fM85 fC85
theorem fM87 : ∀ k, 0 < k → k < 87 → sm_okM sm_MT sm_MN sm_MB sm_CN sm_T0 k := sm_le_step fM86 fC86
theorem fM88 : ∀ k, 0 < k → k < 88 → sm_okM sm_MT sm_MN sm_MB sm_CN sm_T0 k := sm_le_step fM87 fC87
theorem fM89 : ∀ k, 0 < k → k < 89 → sm_okM sm_MT sm_MN sm_MB sm_CN sm_T0 k := sm_le_step fM88 fC88
theorem fM90 : ∀ k, 0 < k → k < 90 → sm_okM sm_MT sm_MN sm_MB sm_CN sm_T0 k := sm_le_step fM89 fC89
theorem fM91 : ∀ k, 0 < k → k < 91 → sm_okM sm_MT sm_MN sm_MB sm_CN sm_T0 k := sm_le_step fM90 fC90
theorem fM92 : ∀ k, 0 < k → k < 92 → sm_okM sm_MT sm_MN sm_MB sm_CN sm_T0 k := sm_le_step fM91 fC91
theorem fM93 : ∀ k, 0 < k → k < 93 → sm_okM sm_MT sm_MN sm_MB sm_CN sm_T0 k := sm_le_step fM92 fC92
theorem fM94 : ∀ k, 0 < k → k < 94 → sm_okM sm_MT sm_MN sm_MB sm_CN sm_T0 k := sm_le_step fM93 fC93
theorem fM95 : ∀ k, 0 < k → k < 95 → sm_okM sm_MT sm_MN sm_MB sm_CN sm_T0 k := sm_le_step fM94 fC94
theorem fM96 : ∀ k, 0 < k → k < 96 → sm_okM sm_MT sm_MN sm_MB sm_CN sm_T0 k := sm_le_step fM95 fC95
theorem fM97 : ∀ k, 0 < k → k < 97 → sm_okM sm_MT sm_MN sm_MB sm_CN sm_T0 k := sm_le_step fM96 fC96
theorem fM98 : ∀ k, 0 < k → k < 98 → sm_okM sm_MT sm_MN sm_MB sm_CN sm_T0 k := sm_le_step fM97 fC97
theorem fM99 : ∀ k, 0 < k → k < 99 → sm_okM sm_MT sm_MN sm_MB sm_CN sm_T0 k := sm_le_step fM98 fC98
theorem fM100 : ∀ k, 0 < k → k < 100 → sm_okM sm_MT sm_MN sm_MB sm_CN sm_T0 k := sm_le_step fM99 fC99
theorem fM101 : ∀ k, 0 < k → k < 101 → sm_okM sm_MT sm_MN sm_MB sm_CN sm_T0 k := sm_le_step fM100 fC100
theorem fM102 : ∀ k, 0 < k → k < 102 → sm_okM sm_MT sm_MN sm_MB sm_CN sm_T0 k := sm_le_step fM101 fC101
theorem fM103 : ∀ k, 0 < k → k < 103 → sm_okM sm_MT sm_MN sm_MB sm_CN sm_T0 k := sm_le_step fM102 fC102
theorem fM104 : ∀ k, 0 < k → k < 104 → sm_okM sm_MT sm_MN sm_MB sm_CN sm_T0 k := sm_le_step fM103 fC103
theorem fM105 : ∀ k, 0 < k → k < 105 → sm_okM sm_MT sm_MN sm_MB sm_CN sm_T0 k := sm_le_step fM104 fC104
theorem fM106 : ∀ k, 0 < k → k < 106 → sm_okM sm_MT sm_MN sm_MB sm_CN sm_T0 k := sm_le_step fM105 fC105
theorem fM107 : ∀ k, 0 < k → k < 107 → sm_okM sm_MT sm_MN sm_MB sm_CN sm_T0 k := sm_le_step fM106 fC106
theorem fM108 : ∀ k, 0 < k → k < 108 → sm_okM sm_MT sm_MN sm_MB sm_CN sm_T0 k := sm_le_step fM107 fC107
theorem fM109 : ∀ k, 0 < k → k < 109 → sm_okM sm_MT sm_MN sm_MB sm_CN sm_T0 k := sm_le_step fM108 fC108
theorem fM110 : ∀ k, 0 < k → k < 110 → sm_okM sm_MT sm_MN sm_MB sm_CN sm_T0 k := sm_le_step fM109 fC109
theorem fM111 : ∀ k, 0 < k → k < 111 → sm_okM sm_MT sm_MN sm_MB sm_CN sm_T0 k := sm_le_step fM110 fC110
theorem fM112 : ∀ k, 0 < k → k < 112 → sm_okM sm_MT sm_MN sm_MB sm_CN sm_T0 k := sm_le_step fM111 fC111
theorem fM113 : ∀ k, 0 < k → k < 113 → sm_okM sm_MT sm_MN sm_MB sm_CN sm_T0 k := sm_le_step fM112 fC112
theorem fM114 : ∀ k, 0 < k → k < 114 → sm_okM sm_MT sm_MN sm_MB sm_CN sm_T0 k := sm_le_step fM113 fC113
theorem fM115 : ∀ k, 0 < k → k < 115 → sm_okM sm_MT sm_MN sm_MB sm_CN sm_T0 k := sm_le_step fM114 fC114
theorem fM116 : ∀ k, 0 < k → k < 116 → sm_okM sm_MT sm_MN sm_MB sm_CN sm_T0 k := sm_le_step fM115 fC115
theorem fM117 : ∀ k, 0 < k → k < 117 → sm_okM sm_MT sm_MN sm_MB sm_CN sm_T0 k := sm_le_step fM116 fC116
theorem fM118 : ∀ k, 0 < k → k < 118 → sm_okM sm_MT sm_MN sm_MB sm_CN sm_T0 k := sm_le_step fM117 fC117
theorem fM119 : ∀ k, 0 < k → k < 119 → sm_okM sm_MT sm_MN sm_MB sm_CN sm_T0 k := sm_le_step fM118 fC118
theorem fM120 : ∀ k, 0 < k → k < 120 → sm_okM sm_MT sm_MN sm_MB sm_CN sm_T0 k := sm_le_step fM119 fC119
theorem fM121 : ∀ k, 0 < k → k < 121 → sm_okM sm_MT sm_MN sm_MB sm_CN sm_T0 k := sm_le_step fM120 fC120
theorem fM122 : ∀ k, 0 < k → k < 122 → sm_okM sm_MT sm_MN sm_MB sm_CN sm_T0 k := sm_le_step fM121 fC121
theorem fM123 : ∀ k, 0 < k → k < 123 → sm_okM sm_MT sm_MN sm_MB sm_CN sm_T0 k := sm_le_step fM122 fC122
theorem fM124 : ∀ k, 0 < k → k < 124 → sm_okM sm_MT sm_MN sm_MB sm_CN sm_T0 k := sm_le_step fM123 fC123
theorem fM125 : ∀ k, 0 < k → k < 125 → sm_okM sm_MT sm_MN sm_MB sm_CN sm_T0 k := sm_le_step fM124 fC124
theorem fM126 : ∀ k, 0 < k → k < 126 → sm_okM sm_MT sm_MN sm_MB sm_CN sm_T0 k := sm_le_step fM125 fC125
theorem fM127 : ∀ k, 0 < k → k < 127 → sm_okM sm_MT sm_MN sm_MB sm_CN sm_T0 k := sm_le_step fM126 fC126
theorem fM128 : ∀ k, 0 < k → k < 128 → sm_okM sm_MT sm_MN sm_MB sm_CN sm_T0 k := sm_le_step fM127 fC127
theorem fM129 : ∀ k, 0 < k → k < 129 → sm_okM sm_MT sm_MN sm_MB sm_CN sm_T0 k := sm_le_step fM128 fC128
theorem fM130 : ∀ k, 0 < k → k < 130 → sm_okM sm_MT sm_MN sm_MB sm_CN sm_T0 k := sm_le_step fM129 fC129
theorem fM131 : ∀ k, 0 < k → k < 131 → sm_okM sm_MT sm_MN sm_MB sm_CN sm_T0 k := sm_le_step fM130 fC130
theorem fM132 : ∀ k, 0 < k → k < 132 → sm_okM sm_MT sm_MN sm_MB sm_CN sm_T0 k := sm_le_step fM131 fC131
theorem fM133 : ∀ k, 0 < k → k < 133 → sm_okM sm_MT sm_MN sm_MB sm_CN sm_T0 k := sm_le_step fM132 fC132
theorem fM134 : ∀ k, 0 < k → k < 134 → sm_okM sm_MT sm_MN sm_MB sm_CN sm_T0 k := sm_le_step fM133 fC133
theorem fM135 : ∀ k, 0 < k → k < 135 → sm_okM sm_MT sm_MN sm_MB sm_CN sm_T0 k := sm_le_step fM134 fC134
theorem fM136 : ∀ k, 0 < k → k < 136 → sm_okM sm_MT sm_MN sm_MB sm_CN sm_T0 k := sm_le_step fM135 fC135
theorem fM137 : ∀ k, 0 < k → k < 137 → sm_okM sm_MT sm_MN sm_MB sm_CN sm_T0 k := sm_le_step fM136 fC136
theorem fM138 : ∀ k, 0 < k → k < 138 → sm_okM sm_MT sm_MN sm_MB sm_CN sm_T0 k := sm_le_step fM137 fC137
theorem fM139 : ∀ k, 0 < k → k < 139 → sm_okM sm_MT sm_MN sm_MB sm_CN sm_T0 k := sm_le_step fM138 fC138
theorem fM140 : ∀ k, 0 < k → k < 140 → sm_okM sm_MT sm_MN sm_MB sm_CN sm_T0 k := sm_le_step fM139 fC139
theorem fM141 : ∀ k, 0 < k → k < 141 → sm_okM sm_MT sm_MN sm_MB sm_CN sm_T0 k := sm_le_step fM140 fC140
theorem fM142 : ∀ k, 0 < k → k < 142 → sm_okM sm_MT sm_MN sm_MB sm_CN sm_T0 k := sm_le_step fM141 fC141
theorem fM143 : ∀ k, 0 < k → k < 143 → sm_okM sm_MT sm_MN sm_MB sm_CN sm_T0 k := sm_le_step fM142 fC142
theorem fM144 : ∀ k, 0 < k → k < 144 → sm_okM sm_MT sm_MN sm_MB sm_CN sm_T0 k := sm_le_step fM143 fC143
theorem fM145 : ∀ k, 0 < k → k < 145 → sm_okM sm_MT sm_MN sm_MB sm_CN sm_T0 k := sm_le_step fM144 fC144
theorem fM146 : ∀ k, 0 < k → k < 146 → sm_okM sm_MT sm_MN sm_MB sm_CN sm_T0 k := sm_le_step fM145 fC145
theorem fM147 : ∀ k, 0 < k → k < 147 → sm_okM sm_MT sm_MN sm_MB sm_CN sm_T0 k := sm_le_step fM146 fC146
theorem fM148 : ∀ k, 0 < k → k < 148 → sm_okM sm_MT sm_MN sm_MB sm_CN sm_T0 k := sm_le_step fM147 fC147
theorem fM149 : ∀ k, 0 < k → k < 149 → sm_okM sm_MT sm_MN sm_MB sm_CN sm_T0 k := sm_le_step fM148 fC148
theorem fM150 : ∀ k, 0 < k → k < 150 → sm_okM sm_MT sm_MN sm_MB sm_CN sm_T0 k := sm_le_step fM149 fC149
theorem fM151 : ∀ k, 0 < k → k < 151 → sm_okM sm_MT sm_MN sm_MB sm_CN sm_T0 k := sm_le_step fM150 fC150
theorem fM152 : ∀ k, 0 < k → k < 152 → sm_okM sm_MT sm_MN sm_MB sm_CN sm_T0 k := sm_le_step fM151 fC151
theorem fM153 : ∀ k, 0 < k → k < 153 → sm_okM sm_MT sm_MN sm_MB sm_CN sm_T0 k := sm_le_step fM152 fC152
theorem fM154 : ∀ k, 0 < k → k < 154 → sm_okM sm_MT sm_MN sm_MB sm_CN sm_T0 k := sm_le_step fM153 fC153
theorem fM155 : ∀ k, 0 < k → k < 155 → sm_okM sm_MT sm_MN sm_MB sm_CN sm_T0 k := sm_le_step fM154 fC154
theorem fM156 : ∀ k, 0 < k → k < 156 → sm_okM sm_MT sm_MN sm_MB sm_CN sm_T0 k := sm_le_step fM155 fC155
theorem fM157 : ∀ k, 0 < k → k < 157 → sm_okM sm_MT sm_MN sm_MB sm_CN sm_T0 k := sm_le_step fM156 fC156
theorem fM158 : ∀ k, 0 < k → k < 158 → sm_okM sm_MT sm_MN sm_MB sm_CN sm_T0 k := sm_le_step fM157 fC157
theorem fM159 : ∀ k, 0 < k → k < 159 → sm_okM sm_MT sm_MN sm_MB sm_CN sm_T0 k := sm_le_step fM158 fC158
theorem fM160 : ∀ k, 0 < k → k < 160 → sm_okM sm_MT sm_MN sm_MB sm_CN sm_T0 k := sm_le_step fM159 fC159
theorem fM161 : ∀ k, 0 < k → k < 161 → sm_okM sm_MT sm_MN sm_MB sm_CN sm_T0 k := sm_le_step fM160 fC160
theorem fM162 : ∀ k, 0 < k → k < 162 → sm_okM sm_MT sm_MN sm_MB sm_CN sm_T0 k := sm_le_step fM161 fC161
theorem fM163 : ∀ k, 0 < k → k < 163 → sm_okM sm_MT sm_MN sm_MB sm_CN sm_T0 k := sm_le_step fM162 fC162
theorem fM164 : ∀ k, 0 < k → k < 164 → sm_okM sm_MT sm_MN sm_MB sm_CN sm_T0 k := sm_le_step fM163 fC163
theorem fM165 : ∀ k, 0 < k → k < 165 → sm_okM sm_MT sm_MN sm_MB sm_CN sm_T0 k := sm_le_step fM164 fC164
theorem fM166 : ∀ k, 0 < k → k < 166 → sm_okM sm_MT sm_MN sm_MB sm_CN sm_T0 k := sm_le_step fM165 fC165
theorem fM167 : ∀ k, 0 < k → k < 167 → sm_okM sm_MT sm_MN sm_MB sm_CN sm_T0 k := sm_le_step fM166 fC166
theorem fM168 : ∀ k, 0 < k → k < 168 → sm_okM sm_MT sm_MN sm_MB sm_CN sm_T0 k := sm_le_step fM167 fC167
theorem fM169 : ∀ k, 0 < k → k < 169 → sm_okM sm_MT sm_MN sm_MB sm_CN sm_T0 k := sm_le_step fM168 fC168
theorem fM170 : ∀ k, 0 < k → k < 170 → sm_okM sm_MT sm_MN sm_MB sm_CN sm_T0 k := sm_le_step fM169 fC169
theorem fM171 : ∀ k, 0 < k → k < 171 → sm_okM sm_MT sm_MN sm_MB sm_CN sm_T0 k := sm_le_step fM170 fC170
theorem fM172 : ∀ k, 0 < k → k < 172 → sm_okM sm_MT sm_MN sm_MB sm_CN sm_T0 k := sm_le_step fM171 fC171
theorem fM173 : ∀ k, 0 < k → k < 173 → sm_okM sm_MT sm_MN sm_MB sm_CN sm_T0 k := sm_le_step fM172 fC172
theorem fM174 : ∀ k, 0 < k → k < 174 → sm_okM sm_MT sm_MN sm_MB sm_CN sm_T0 k := sm_le_step fM173 fC173
theorem fM175 : ∀ k, 0 < k → k < 175 → sm_okM sm_MT sm_MN sm_MB sm_CN sm_T0 k := sm_le_step fM174 fC174
theorem fM176 : ∀ k, 0 < k → k < 176 → sm_okM sm_MT sm_MN sm_MB sm_CN sm_T0 k := sm_le_step fM175 fC175
theorem fM177 : ∀ k, 0 < k → k < 177 → sm_okM sm_MT sm_MN sm_MB sm_CN sm_T0 k := sm_le_step fM176 fC176
theorem fM178 : ∀ k, 0 < k → k < 178 → sm_okM sm_MT sm_MN sm_MB sm_CN sm_T0 k := sm_le_step fM177 fC177
theorem fM179 : ∀ k, 0 < k → k < 179 → sm_okM sm_MT sm_MN sm_MB sm_CN sm_T0 k := sm_le_step fM178 fC178
theorem fM180 : ∀ k, 0 < k → k < 180 → sm_okM sm_MT sm_MN sm_MB sm_CN sm_T0 k := sm_le_step fM179 fC179
theorem fM181 : ∀ k, 0 < k → k < 181 → sm_okM sm_MT sm_MN sm_MB sm_CN sm_T0 k := sm_le_step fM180 fC180
theorem fM182 : ∀ k, 0 < k → k < 182 → sm_okM sm_MT sm_MN sm_MB sm_CN sm_T0 k := sm_le_step fM181 fC181
theorem fM183 : ∀ k, 0 < k → k < 183 → sm_okM sm_MT sm_MN sm_MB sm_CN sm_T0 k := sm_le_step fM182 fC182
theorem fM184 : ∀ k, 0 < k → k < 184 → sm_okM sm_MT sm_MN sm_MB sm_CN sm_T0 k := sm_le_step fM183 fC183
theorem fM185 : ∀ k, 0 < k → k < 185 → sm_okM sm_MT sm_MN sm_MB sm_CN sm_T0 k := sm_le_step fM184 fC184
theorem fM186 : ∀ k, 0 < k → k < 186 → sm_okM sm_MT sm_MN sm_MB sm_CN sm_T0 k := sm_le_step fM185 fC185
theorem fM187 : ∀ k, 0 < k → k < 187 → sm_okM sm_MT sm_MN sm_MB sm_CN sm_T0 k := sm_le_step fM186 fC186
theorem fM188 : ∀ k, 0 < k → k < 188 → sm_okM sm_MT sm_MN sm_MB sm_CN sm_T0 k := sm_le_step fM187 fC187
theorem fM189 : ∀ k, 0 < k → k < 189 → sm_okM sm_MT sm_MN sm_MB sm_CN sm_T0 k := sm_le_step fM188 fC188
theorem fM190 : ∀ k, 0 < k → k < 190 → sm_okM sm_MT sm_MN sm_MB sm_CN sm_T0 k := sm_le_step fM189 fC189
theorem fM191 : ∀ k, 0 < k → k < 191 → sm_okM sm_MT sm_MN sm_MB sm_CN sm_T0 k := sm_le_step fM190 fC190
theorem fM192 : ∀ k, 0 < k → k < 192 → sm_okM sm_MT sm_MN sm_MB sm_CN sm_T0 k := sm_le_step fM191 fC191
theorem fM193 : ∀ k, 0 < k → k < 193 → sm_okM sm_MT sm_MN sm_MB sm_CN sm_T0 k := sm_le_step fM192 fC192
theorem fM194 : ∀ k, 0 < k → k < 194 → sm_okM sm_MT sm_MN sm_MB sm_CN sm_T0 k := sm_le_step fM193 fC193
theorem fM195 : ∀ k, 0 < k → k < 195 → sm_okM sm_MT sm_MN sm_MB sm_CN sm_T0 k := sm_le_step fM194 fC194
theorem fM196 : ∀ k, 0 < k → k < 196 → sm_okM sm_MT sm_MN sm_MB sm_CN sm_T0 k := sm_le_step fM195 fC195
theorem fM197 : ∀ k, 0 < k → k < 197 → sm_okM sm_MT sm_MN sm_MB sm_CN sm_T0 k := sm_le_step fM196 fC196
theorem fM198 : ∀ k, 0 < k → k < 198 → sm_okM sm_MT sm_MN sm_MB sm_CN sm_T0 k := sm_le_step fM197 fC197
theorem fM199 : ∀ k, 0 < k → k < 199 → sm_okM sm_MT sm_MN sm_MB sm_CN sm_T0 k := sm_le_step fM198 fC198
theorem fM200 : ∀ k, 0 < k → k < 200 → sm_okM sm_MT sm_MN sm_MB sm_CN sm_T0 k := sm_le_step fM199 fC199
theorem fM201 : ∀ k, 0 < k → k < 201 → sm_okM sm_MT sm_MN sm_MB sm_CN sm_T0 k := sm_le_step fM200 fC200
theorem fM202 : ∀ k, 0 < k → k < 202 → sm_okM sm_MT sm_MN sm_MB sm_CN sm_T0 k := sm_le_step fM201 fC201
theorem fM203 : ∀ k, 0 < k → k < 203 → sm_okM sm_MT sm_MN sm_MB sm_CN sm_T0 k := sm_le_step fM202 fC202
theorem fM204 : ∀ k, 0 < k → k < 204 → sm_okM sm_MT sm_MN sm_MB sm_CN sm_T0 k := sm_le_step fM203 fC203
theorem fM205 : ∀ k, 0 < k → k < 205 → sm_okM sm_MT sm_MN sm_MB sm_CN sm_T0 k := sm_le_step fM204 fC204
theorem fM206 : ∀ k, 0 < k → k < 206 → sm_okM sm_MT sm_MN sm_MB sm_CN sm_T0 k := sm_le_step fM205 fC205
theorem fM207 : ∀ k, 0 < k → k < 207 → sm_okM sm_MT sm_MN sm_MB sm_CN sm_T0 k := sm_le_step fM206 fC206
theorem fM208 : ∀ k, 0 < k → k < 208 → sm_okM sm_MT sm_MN sm_MB sm_CN sm_T0 k := sm_le_step fM207 fC207
theorem fM209 : ∀ k, 0 < k → k < 209 → sm_okM sm_MT sm_MN sm_MB sm_CN sm_T0 k := sm_le_step fM208 fC208
theorem fM210 : ∀ k, 0 < k → k < 210 → sm_okM sm_MT sm_MN sm_MB sm_CN sm_T0 k := sm_le_step fM209 fC209
theorem fM211 : ∀ k, 0 < k → k < 211 → sm_okM sm_MT sm_MN sm_MB sm_CN sm_T0 k := sm_le_step fM210 fC210
theorem fM212 : ∀ k, 0 < k → k < 212 → sm_okM sm_MT sm_MN sm_MB sm_CN sm_T0 k := sm_le_step fM211 fC211
theorem fM213 : ∀ k, 0 < k → k < 213 → sm_okM sm_MT sm_MN sm_MB sm_CN sm_T0 k := sm_le_step fM212 fC212
theorem fM214 : ∀ k, 0 < k → k < 214 → sm_okM sm_MT sm_MN sm_MB sm_CN sm_T0 k := sm_le_step fM213 fC213
theorem fM215 : ∀ k, 0 < k → k < 215 → sm_okM sm_MT sm_MN sm_MB sm_CN sm_T0 k := sm_le_step fM214 fC214
theorem fM216 : ∀ k, 0 < k → k < 216 → sm_okM sm_MT sm_MN sm_MB sm_CN sm_T0 k := sm_le_step fM215 fC215
theorem fM217 : ∀ k, 0 < k → k < 217 → sm_okM sm_MT sm_MN sm_MB sm_CN sm_T0 k := sm_le_step fM216 fC216
theorem fM218 : ∀ k, 0 < k → k < 218 → sm_okM sm_MT sm_MN sm_MB sm_CN sm_T0 k := sm_le_step fM217 fC217
theorem fM219 : ∀ k, 0 < k → k < 219 → sm_okM sm_MT sm_MN sm_MB sm_CN sm_T0 k := sm_le_step fM218 fC218
theorem fM220 : ∀ k, 0 < k → k < 220 → sm_okM sm_MT sm_MN sm_MB sm_CN sm_T0 k := sm_le_step fM219 fC219
theorem fM221 : ∀ k, 0 < k → k < 221 → sm_okM sm_MT sm_MN sm_MB sm_CN sm_T0 k := sm_le_step fM220 fC220
theorem fM222 : ∀ k, 0 < k → k < 222 → sm_okM sm_MT sm_MN sm_MB sm_CN sm_T0 k := sm_le_step fM221 fC221
theorem fM223 : ∀ k, 0 < k → k < 223 → sm_okM sm_MT sm_MN sm_MB sm_CN sm_T0 k := sm_le_step fM222 fC222
theorem fM224 : ∀ k, 0 < k → k < 224 → sm_okM sm_MT sm_MN sm_MB sm_CN sm_T0 k := sm_le_step fM223 fC223
theorem fM225 : ∀ k, 0 < k → k < 225 → sm_okM sm_MT sm_MN sm_MB sm_CN sm_T0 k := sm_le_step fM224 fC224
theorem fM226 : ∀ k, 0 < k → k < 226 → sm_okM sm_MT sm_MN sm_MB sm_CN sm_T0 k := sm_le_step fM225 fC225
theorem fM227 : ∀ k, 0 < k → k < 227 → sm_okM sm_MT sm_MN sm_MB sm_CN sm_T0 k := sm_le_step fM226 fC226
theorem fM228 : ∀ k, 0 < k → k < 228 → sm_okM sm_MT sm_MN sm_MB sm_CN sm_T0 k := sm_le_step fM227 fC227
theorem fM229 : ∀ k, 0 < k → k < 229 → sm_okM sm_MT sm_MN sm_MB sm_CN sm_T0 k := sm_le_step fM228 fC228
theorem fM230 : ∀ k, 0 < k → k < 230 → sm_okM sm_MT sm_MN sm_MB sm_CN sm_T0 k := sm_le_step fM229 fC229
theorem fM231 : ∀ k, 0 < k → k < 231 → sm_okM sm_MT sm_MN sm_MB sm_CN sm_T0 k := sm_le_step fM230 fC230
theorem fM232 : ∀ k, 0 < k → k < 232 → sm_okM sm_MT sm_MN sm_MB sm_CN sm_T0 k := sm_le_step fM231 fC231
theorem fM233 : ∀ k, 0 < k → k < 233 → sm_okM sm_MT sm_MN sm_MB sm_CN sm_T0 k := sm_le_step fM232 fC232
theorem fM234 : ∀ k, 0 < k → k < 234 → sm_okM sm_MT sm_MN sm_MB sm_CN sm_T0 k := sm_le_step fM233 fC233
theorem fM235 : ∀ k, 0 < k → k < 235 → sm_okM sm_MT sm_MN sm_MB sm_CN sm_T0 k := sm_le_step fM234 fC234
theorem fM236 : ∀ k, 0 < k → k < 236 → sm_okM sm_MT sm_MN sm_MB sm_CN sm_T0 k := sm_le_step fM235 fC235
theorem fM237 : ∀ k, 0 < k → k < 237 → sm_okM sm_MT sm_MN sm_MB sm_CN sm_T0 k := sm_le_step fM236 fC236
theorem fM238 : ∀ k, 0 < k → k < 238 → sm_okM sm_MT sm_MN sm_MB sm_CN sm_T0 k := sm_le_step fM237 fC237
theorem fM239 : ∀ k, 0 < k → k < 239 → sm_okM sm_MT sm_MN sm_MB sm_CN sm_T0 k := sm_le_step fM238 fC238
theorem fM240 : ∀ k, 0 < k → k < 240 → sm_okM sm_MT sm_MN sm_MB sm_CN sm_T0 k := sm_le_step fM239 fC239
theorem fM241 : ∀ k, 0 < k → k < 241 → sm_okM sm_MT sm_MN sm_MB sm_CN sm_T0 k := sm_le_step fM240 fC240
theorem fM242 : ∀ k, 0 < k → k < 242 → sm_okM sm_MT sm_MN sm_MB sm_CN sm_T0 k := sm_le_step fM241 fC241
theorem fM243 : ∀ k, 0 < k → k < 243 → sm_okM sm_MT sm_MN sm_MB sm_CN sm_T0 k := sm_le_step fM242 fC242
theorem fM244 : ∀ k, 0 < k → k < 244 → sm_okM sm_MT sm_MN sm_MB sm_CN sm_T0 k := sm_le_step fM243 fC243
theorem fM245 : ∀ k, 0 < k → k < 245 → sm_okM sm_MT sm_MN sm_MB sm_CN sm_T0 k := sm_le_step fM244 fC244
theorem fM246 : ∀ k, 0 < k → k < 246 → sm_okM sm_MT sm_MN sm_MB sm_CN sm_T0 k := sm_le_step fM245 fC245
theorem fM247 : ∀ k, 0 < k → k < 247 → sm_okM sm_MT sm_MN sm_MB sm_CN sm_T0 k := sm_le_step fM246 fC246
theorem fM248 : ∀ k, 0 < k → k < 248 → sm_okM sm_MT sm_MN sm_MB sm_CN sm_T0 k := sm_le_step fM247 fC247
theorem fM249 : ∀ k, 0 < k → k < 249 → sm_okM sm_MT sm_MN sm_MB sm_CN sm_T0 k := sm_le_step fM248 fC248
theorem fM250 : ∀ k, 0 < k → k < 250 → sm_okM sm_MT sm_MN sm_MB sm_CN sm_T0 k := sm_le_step fM249 fC249
theorem fM251 : ∀ k, 0 < k → k < 251 → sm_okM sm_MT sm_MN sm_MB sm_CN sm_T0 k := sm_le_step fM250 fC250
theorem fM252 : ∀ k, 0 < k → k < 252 → sm_okM sm_MT sm_MN sm_MB sm_CN sm_T0 k := sm_le_step fM251 fC251
theorem fM253 : ∀ k, 0 < k → k < 253 → sm_okM sm_MT sm_MN sm_MB sm_CN sm_T0 k := sm_le_step fM252 fC252
theorem fM254 : ∀ k, 0 < k → k < 254 → sm_okM sm_MT sm_MN sm_MB sm_CN sm_T0 k := sm_le_step fM253 fC253
theorem fM255 : ∀ k, 0 < k → k < 255 → sm_okM sm_MT sm_MN sm_MB sm_CN sm_T0 k := sm_le_step fM254 fC254
theorem fM256 : ∀ k, 0 < k → k < 256 → sm_okM sm_MT sm_MN sm_MB sm_CN sm_T0 k := sm_le_step fM255 fC255
theorem fM257 : ∀ k, 0 < k → k < 257 → sm_okM sm_MT sm_MN sm_MB sm_CN sm_T0 k := sm_le_step fM256 fC256
theorem fM258 : ∀ k, 0 < k → k < 258 → sm_okM sm_MT sm_MN sm_MB sm_CN sm_T0 k := sm_le_step fM257 fC257
theorem fM259 : ∀ k, 0 < k → k < 259 → sm_okM sm_MT sm_MN sm_MB sm_CN sm_T0 k := sm_le_step fM258 fC258
theorem fM260 : ∀ k, 0 < k → k < 260 → sm_okM sm_MT sm_MN sm_MB sm_CN sm_T0 k := sm_le_step fM259 fC259
theorem fM261 : ∀ k, 0 < k → k < 261 → sm_okM sm_MT sm_MN sm_MB sm_CN sm_T0 k := sm_le_step fM260 fC260
theorem fM262 : ∀ k, 0 < k → k < 262 → sm_okM sm_MT sm_MN sm_MB sm_CN sm_T0 k := sm_le_step fM261 fC261
theorem fM263 : ∀ k, 0 < k → k < 263 → sm_okM sm_MT sm_MN sm_MB sm_CN sm_T0 k := sm_le_step fM262 fC262
theorem fM264 : ∀ k, 0 < k → k < 264 → sm_okM sm_MT sm_MN sm_MB sm_CN sm_T0 k := sm_le_step fM263 fC263
theorem fM265 : ∀ k, 0 < k → k < 265 → sm_okM sm_MT sm_MN sm_MB sm_CN sm_T0 k := sm_le_step fM264 fC264
theorem fM266 : ∀ k, 0 < k → k < 266 → sm_okM sm_MT sm_MN sm_MB sm_CN sm_T0 k := sm_le_step fM265 fC265
theorem fM267 : ∀ k, 0 < k → k < 267 → sm_okM sm_MT sm_MN sm_MB sm_CN sm_T0 k := sm_le_step fM266 fC266
theorem fM268 : ∀ k, 0 < k → k < 268 → sm_okM sm_MT sm_MN sm_MB sm_CN sm_T0 k := sm_le_step fM267 fC267
theorem fM269 : ∀ k, 0 < k → k < 269 → sm_okM sm_MT sm_MN sm_MB sm_CN sm_T0 k := sm_le_step fM268 fC268
theorem fM270 : ∀ k, 0 < k → k < 270 → sm_okM sm_MT sm_MN sm_MB sm_CN sm_T0 k := sm_le_step fM269 fC269
theorem fM_all : ∀ k, 0 < k ∧ k < sm_nM → sm_okM sm_MT sm_MN sm_MB sm_CN sm_T0 k := fun k h => fM270 k h.1 h.2
set_option maxRecDepth 100000 in
theorem fG0 : fE0.all (fun e => sm_chkL 0 e.1 e.2.1 e.2.2) = true := by decide +kernel
set_option maxRecDepth 100000 in
theorem fH0 : (List.range 27).all (fun ix => match fL0 ix with
    | none => true
    | some q => fE0.any (fun e => Nat.beq e.1 ix && decide (e.2.1 = q))) = true := by decide +kernel
theorem fJ0 : ∀ ix q, fL0 ix = some q → sm_okL sm_cl sm_tyc sm_SF sm_Cq sm_T0 (sm_CN 0) ix q ∧ sm_okK sm_MT sm_MN sm_MB sm_CN sm_cl sm_NL sm_T0 (sm_CN 0) ix q := by
  intro ix q h
  obtain ⟨pl, hp⟩ := sm_inE (Nat.le_of_ble_eq_true (sm_bif (show (bif Nat.blt ix 27 then _ else none) = some q from h)).1) fH0 h
  have h1 := List.all_eq_true.mp fG0 _ hp
  exact ⟨sm_chkL_L h1, sm_chkL_K fM_all h1⟩
set_option maxRecDepth 100000 in
theorem fG1 : fE1.all (fun e => sm_chkL 1 e.1 e.2.1 e.2.2) = true := by decide +kernel
set_option maxRecDepth 100000 in
theorem fH1 : (List.range 57).all (fun ix => match fL1 ix with
    | none => true
    | some q => fE1.any (fun e => Nat.beq e.1 ix && decide (e.2.1 = q))) = true := by decide +kernel
theorem fJ1 : ∀ ix q, fL1 ix = some q → sm_okL sm_cl sm_tyc sm_SF sm_Cq sm_T0 (sm_CN 1) ix q ∧ sm_okK sm_MT sm_MN sm_MB sm_CN sm_cl sm_NL sm_T0 (sm_CN 1) ix q := by
  intro ix q h
  obtain ⟨pl, hp⟩ := sm_inE (Nat.le_of_ble_eq_true (sm_bif (show (bif Nat.blt ix 57 then _ else none) = some q from h)).1) fH1 h
  have h1 := List.all_eq_true.mp fG1 _ hp
  exact ⟨sm_chkL_L h1, sm_chkL_K fM_all h1⟩
set_option maxRecDepth 100000 in
theorem fG2 : fE2.all (fun e => sm_chkL 2 e.1 e.2.1 e.2.2) = true := by decide +kernel
set_option maxRecDepth 100000 in
theorem fH2 : (List.range 61).all (fun ix => match fL2 ix with
    | none => true
    | some q => fE2.any (fun e => Nat.beq e.1 ix && decide (e.2.1 = q))) = true := by decide +kernel
theorem fJ2 : ∀ ix q, fL2 ix = some q → sm_okL sm_cl sm_tyc sm_SF sm_Cq sm_T0 (sm_CN 2) ix q ∧ sm_okK sm_MT sm_MN sm_MB sm_CN sm_cl sm_NL sm_T0 (sm_CN 2) ix q := by
  intro ix q h
  obtain ⟨pl, hp⟩ := sm_inE (Nat.le_of_ble_eq_true (sm_bif (show (bif Nat.blt ix 61 then _ else none) = some q from h)).1) fH2 h
  have h1 := List.all_eq_true.mp fG2 _ hp
  exact ⟨sm_chkL_L h1, sm_chkL_K fM_all h1⟩
set_option maxRecDepth 100000 in
theorem fG3 : fE3.all (fun e => sm_chkL 3 e.1 e.2.1 e.2.2) = true := by decide +kernel
set_option maxRecDepth 100000 in
theorem fH3 : (List.range 49).all (fun ix => match fL3 ix with
    | none => true
    | some q => fE3.any (fun e => Nat.beq e.1 ix && decide (e.2.1 = q))) = true := by decide +kernel
theorem fJ3 : ∀ ix q, fL3 ix = some q → sm_okL sm_cl sm_tyc sm_SF sm_Cq sm_T0 (sm_CN 3) ix q ∧ sm_okK sm_MT sm_MN sm_MB sm_CN sm_cl sm_NL sm_T0 (sm_CN 3) ix q := by
  intro ix q h
  obtain ⟨pl, hp⟩ := sm_inE (Nat.le_of_ble_eq_true (sm_bif (show (bif Nat.blt ix 49 then _ else none) = some q from h)).1) fH3 h
  have h1 := List.all_eq_true.mp fG3 _ hp
  exact ⟨sm_chkL_L h1, sm_chkL_K fM_all h1⟩
set_option maxRecDepth 100000 in
theorem fG4 : fE4.all (fun e => sm_chkL 4 e.1 e.2.1 e.2.2) = true := by decide +kernel
set_option maxRecDepth 100000 in
theorem fH4 : (List.range 56).all (fun ix => match fL4 ix with
    | none => true
    | some q => fE4.any (fun e => Nat.beq e.1 ix && decide (e.2.1 = q))) = true := by decide +kernel
theorem fJ4 : ∀ ix q, fL4 ix = some q → sm_okL sm_cl sm_tyc sm_SF sm_Cq sm_T0 (sm_CN 4) ix q ∧ sm_okK sm_MT sm_MN sm_MB sm_CN sm_cl sm_NL sm_T0 (sm_CN 4) ix q := by
  intro ix q h
  obtain ⟨pl, hp⟩ := sm_inE (Nat.le_of_ble_eq_true (sm_bif (show (bif Nat.blt ix 56 then _ else none) = some q from h)).1) fH4 h
  have h1 := List.all_eq_true.mp fG4 _ hp
  exact ⟨sm_chkL_L h1, sm_chkL_K fM_all h1⟩
set_option maxRecDepth 100000 in
theorem fG5 : fE5.all (fun e => sm_chkL 5 e.1 e.2.1 e.2.2) = true := by decide +kernel
set_option maxRecDepth 100000 in
theorem fH5 : (List.range 148).all (fun ix => match fL5 ix with
    | none => true
    | some q => fE5.any (fun e => Nat.beq e.1 ix && decide (e.2.1 = q))) = true := by decide +kernel
theorem fJ5 : ∀ ix q, fL5 ix = some q → sm_okL sm_cl sm_tyc sm_SF sm_Cq sm_T0 (sm_CN 5) ix q ∧ sm_okK sm_MT sm_MN sm_MB sm_CN sm_cl sm_NL sm_T0 (sm_CN 5) ix q := by
  intro ix q h
  obtain ⟨pl, hp⟩ := sm_inE (Nat.le_of_ble_eq_true (sm_bif (show (bif Nat.blt ix 148 then _ else none) = some q from h)).1) fH5 h
  have h1 := List.all_eq_true.mp fG5 _ hp
  exact ⟨sm_chkL_L h1, sm_chkL_K fM_all h1⟩
set_option maxRecDepth 100000 in
theorem fG6 : fE6.all (fun e => sm_chkL 6 e.1 e.2.1 e.2.2) = true := by decide +kernel
set_option maxRecDepth 100000 in
theorem fH6 : (List.range 103).all (fun ix => match fL6 ix with
    | none => true
    | some q => fE6.any (fun e => Nat.beq e.1 ix && decide (e.2.1 = q))) = true := by decide +kernel
theorem fJ6 : ∀ ix q, fL6 ix = some q → sm_okL sm_cl sm_tyc sm_SF sm_Cq sm_T0 (sm_CN 6) ix q ∧ sm_okK sm_MT sm_MN sm_MB sm_CN sm_cl sm_NL sm_T0 (sm_CN 6) ix q := by
  intro ix q h
  obtain ⟨pl, hp⟩ := sm_inE (Nat.le_of_ble_eq_true (sm_bif (show (bif Nat.blt ix 103 then _ else none) = some q from h)).1) fH6 h
  have h1 := List.all_eq_true.mp fG6 _ hp
  exact ⟨sm_chkL_L h1, sm_chkL_K fM_all h1⟩
set_option maxRecDepth 100000 in
theorem fG7 : fE7.all (fun e => sm_chkL 7 e.1 e.2.1 e.2.2) = true := by decide +kernel
set_option maxRecDepth 100000 in
theorem fH7 : (List.range 33).all (fun ix => match fL7 ix with
    | none => true
    | some q => fE7.any (fun e => Nat.beq e.1 ix && decide (e.2.1 = q))) = true := by decide +kernel
theorem fJ7 : ∀ ix q, fL7 ix = some q → sm_okL sm_cl sm_tyc sm_SF sm_Cq sm_T0 (sm_CN 7) ix q ∧ sm_okK sm_MT sm_MN sm_MB sm_CN sm_cl sm_NL sm_T0 (sm_CN 7) ix q := by
  intro ix q h
  obtain ⟨pl, hp⟩ := sm_inE (Nat.le_of_ble_eq_true (sm_bif (show (bif Nat.blt ix 33 then _ else none) = some q from h)).1) fH7 h
  have h1 := List.all_eq_true.mp fG7 _ hp
  exact ⟨sm_chkL_L h1, sm_chkL_K fM_all h1⟩
set_option maxRecDepth 100000 in
theorem fG8 : fE8.all (fun e => sm_chkL 8 e.1 e.2.1 e.2.2) = true := by decide +kernel
set_option maxRecDepth 100000 in
theorem fH8 : (List.range 119).all (fun ix => match fL8 ix with
    | none => true
    | some q => fE8.any (fun e => Nat.beq e.1 ix && decide (e.2.1 = q))) = true := by decide +kernel
theorem fJ8 : ∀ ix q, fL8 ix = some q → sm_okL sm_cl sm_tyc sm_SF sm_Cq sm_T0 (sm_CN 8) ix q ∧ sm_okK sm_MT sm_MN sm_MB sm_CN sm_cl sm_NL sm_T0 (sm_CN 8) ix q := by
  intro ix q h
  obtain ⟨pl, hp⟩ := sm_inE (Nat.le_of_ble_eq_true (sm_bif (show (bif Nat.blt ix 119 then _ else none) = some q from h)).1) fH8 h
  have h1 := List.all_eq_true.mp fG8 _ hp
  exact ⟨sm_chkL_L h1, sm_chkL_K fM_all h1⟩
set_option maxRecDepth 100000 in
theorem fG9 : fE9.all (fun e => sm_chkL 9 e.1 e.2.1 e.2.2) = true := by decide +kernel
set_option maxRecDepth 100000 in
theorem fH9 : (List.range 409).all (fun ix => match fL9 ix with
    | none => true
    | some q => fE9.any (fun e => Nat.beq e.1 ix && decide (e.2.1 = q))) = true := by decide +kernel
theorem fJ9 : ∀ ix q, fL9 ix = some q → sm_okL sm_cl sm_tyc sm_SF sm_Cq sm_T0 (sm_CN 9) ix q ∧ sm_okK sm_MT sm_MN sm_MB sm_CN sm_cl sm_NL sm_T0 (sm_CN 9) ix q := by
  intro ix q h
  obtain ⟨pl, hp⟩ := sm_inE (Nat.le_of_ble_eq_true (sm_bif (show (bif Nat.blt ix 409 then _ else none) = some q from h)).1) fH9 h
  have h1 := List.all_eq_true.mp fG9 _ hp
  exact ⟨sm_chkL_L h1, sm_chkL_K fM_all h1⟩
set_option maxRecDepth 100000 in
theorem fG10 : fE10.all (fun e => sm_chkL 10 e.1 e.2.1 e.2.2) = true := by decide +kernel
set_option maxRecDepth 100000 in
theorem fH10 : (List.range 466).all (fun ix => match fL10 ix with
    | none => true
    | some q => fE10.any (fun e => Nat.beq e.1 ix && decide (e.2.1 = q))) = true := by decide +kernel
theorem fJ10 : ∀ ix q, fL10 ix = some q → sm_okL sm_cl sm_tyc sm_SF sm_Cq sm_T0 (sm_CN 10) ix q ∧ sm_okK sm_MT sm_MN sm_MB sm_CN sm_cl sm_NL sm_T0 (sm_CN 10) ix q := by
  intro ix q h
  obtain ⟨pl, hp⟩ := sm_inE (Nat.le_of_ble_eq_true (sm_bif (show (bif Nat.blt ix 466 then _ else none) = some q from h)).1) fH10 h
  have h1 := List.all_eq_true.mp fG10 _ hp
  exact ⟨sm_chkL_L h1, sm_chkL_K fM_all h1⟩
set_option maxRecDepth 100000 in
theorem fG11 : fE11.all (fun e => sm_chkL 11 e.1 e.2.1 e.2.2) = true := by decide +kernel
set_option maxRecDepth 100000 in
theorem fH11 : (List.range 188).all (fun ix => match fL11 ix with
    | none => true
    | some q => fE11.any (fun e => Nat.beq e.1 ix && decide (e.2.1 = q))) = true := by decide +kernel
theorem fJ11 : ∀ ix q, fL11 ix = some q → sm_okL sm_cl sm_tyc sm_SF sm_Cq sm_T0 (sm_CN 11) ix q ∧ sm_okK sm_MT sm_MN sm_MB sm_CN sm_cl sm_NL sm_T0 (sm_CN 11) ix q := by
  intro ix q h
  obtain ⟨pl, hp⟩ := sm_inE (Nat.le_of_ble_eq_true (sm_bif (show (bif Nat.blt ix 188 then _ else none) = some q from h)).1) fH11 h
  have h1 := List.all_eq_true.mp fG11 _ hp
  exact ⟨sm_chkL_L h1, sm_chkL_K fM_all h1⟩
set_option maxRecDepth 100000 in
theorem fG12 : fE12.all (fun e => sm_chkL 12 e.1 e.2.1 e.2.2) = true := by decide +kernel
set_option maxRecDepth 100000 in
theorem fH12 : (List.range 268).all (fun ix => match fL12 ix with
    | none => true
    | some q => fE12.any (fun e => Nat.beq e.1 ix && decide (e.2.1 = q))) = true := by decide +kernel
theorem fJ12 : ∀ ix q, fL12 ix = some q → sm_okL sm_cl sm_tyc sm_SF sm_Cq sm_T0 (sm_CN 12) ix q ∧ sm_okK sm_MT sm_MN sm_MB sm_CN sm_cl sm_NL sm_T0 (sm_CN 12) ix q := by
  intro ix q h
  obtain ⟨pl, hp⟩ := sm_inE (Nat.le_of_ble_eq_true (sm_bif (show (bif Nat.blt ix 268 then _ else none) = some q from h)).1) fH12 h
  have h1 := List.all_eq_true.mp fG12 _ hp
  exact ⟨sm_chkL_L h1, sm_chkL_K fM_all h1⟩
theorem fJ_all : ∀ o ix q, sm_LK o ix = some q → sm_okL sm_cl sm_tyc sm_SF sm_Cq sm_T0 (sm_CN o) ix q ∧ sm_okK sm_MT sm_MN sm_MB sm_CN sm_cl sm_NL sm_T0 (sm_CN o) ix q := by
  intro o ix q h
  have h1 : o < 13 := Nat.le_of_ble_eq_true (sm_bif h).1
  match o, h1, h with
  | 0, _, h => exact fJ0 ix q h
  | 1, _, h => exact fJ1 ix q h
  | 2, _, h => exact fJ2 ix q h
  | 3, _, h => exact fJ3 ix q h
  | 4, _, h => exact fJ4 ix q h
  | 5, _, h => exact fJ5 ix q h
  | 6, _, h => exact fJ6 ix q h
  | 7, _, h => exact fJ7 ix q h
  | 8, _, h => exact fJ8 ix q h
  | 9, _, h => exact fJ9 ix q h
  | 10, _, h => exact fJ10 ix q h
  | 11, _, h => exact fJ11 ix q h
  | 12, _, h => exact fJ12 ix q h
  | k + 13, h1, _ => exact absurd h1 (by omega)
theorem sm_har : ∀ q t, sm_aty q = some t → Jvm.Cond.arrayClass (newarray.typeOf q) ∈ sm_T0 := by
  intro q t h
  cases q <;> simp [sm_aty] at h
  · exact sm_hs_T (p := sm_AP.getD 2 (99, 0)) (by decide +kernel)
  · exact sm_hs_T (p := sm_AP.getD 3 (99, 0)) (by decide +kernel)
  · exact sm_hs_T (p := sm_AP.getD 0 (99, 0)) (by decide +kernel)
  · exact sm_hs_T (p := sm_AP.getD 1 (99, 0)) (by decide +kernel)
theorem sm_hao : Jvm.Cond.arrayOver (.object sm_Cq) ∈ lw_tbl := sm_tw_mem (k := sm_AO.1) (i := sm_AO.2) (by decide +kernel)
theorem sm_hcq : ∃ r : vw_C, sm_cl[sm_cq]? = some r ∧ r.1 = sm_Cq := ⟨_, rfl, rfl⟩
