/-! of: the pair. -/
section
variable {L : Nat} {xs : Nat → Int32} {M M' N N' M0 M1 M2 X Y : Nat → Nat → Int} {k n w : Int}
def ofx0n_i : List qs_I := [(0, 0, (0, 0), (-2147483648, -1))]
def ofx0n_T : List og_T := [(none, some (0, 0, -2000000000), [], [], [], [])]
theorem ofx0n_c : qs_chk (fun _ => false) ofx0n_i 0 ofx0n_T 400 400 5 27 0 [(0, 2, 0, 8), (1, 0, 9, 0), (2, 0, 0, 0)] [] = true := by decide +kernel
def ofx0h_i : List qs_I := [(0, 0, (0, 0), (6, 2147483647)), (1, 9, (0, 4), (0, 6))]
def ofx0h_T : List og_T := [(none, some (0, 0, -2000000000), [], [], [], [])]
theorem ofx0h_c : qs_chk (fun _ => false) ofx0h_i 0 ofx0h_T 400 400 5 27 0 [(0, 2, 0, 8), (1, 0, 9, 0), (2, 0, 0, 0)] [] = true := by decide +kernel
def ofx0i_i : List qs_I := [(0, 0, (0, 0), (0, 5)), (1, 9, (0, 4), (0, 6)), (1, 10, (9, 0), (-1, 143))]
def ofx0i_T : List og_T := [(none, some (0, 11, 0), [], [], [], [(0, (10, 0), (0, 0), 1, 6), (1, (9, 0), (10, 0), 0, 0)]), (none, some (0, 0, -2000000000), [], [], [], [(0, (10, 0), (0, 0), 0, 5), (2, (9, 0), (10, 0), 0, 0)])]
theorem ofx0i_c : qs_chk (fun _ => false) ofx0i_i 0 ofx0i_T 400 400 5 27 0 [(0, 2, 0, 8), (1, 0, 9, 0), (2, 0, 0, 0)] [] = true := by decide +kernel
def ofx1n_i : List qs_I := [(0, 0, (0, 0), (-2147483648, -1))]
def ofx1n_T : List og_T := [(none, some (0, 0, -2000000000), [], [], [], [])]
theorem ofx1n_c : qs_chk (fun _ => false) ofx1n_i 0 ofx1n_T 400 400 5 27 0 [(0, 2, 0, 8), (1, 0, 9, 0), (2, 0, 0, 1)] [] = true := by decide +kernel
def ofx1h_i : List qs_I := [(0, 0, (0, 0), (6, 2147483647)), (1, 9, (0, 4), (0, 6))]
def ofx1h_T : List og_T := [(none, some (0, 0, -2000000000), [], [], [], [])]
theorem ofx1h_c : qs_chk (fun _ => false) ofx1h_i 0 ofx1h_T 400 400 5 27 0 [(0, 2, 0, 8), (1, 0, 9, 0), (2, 0, 0, 1)] [] = true := by decide +kernel
def ofx1i_i : List qs_I := [(0, 0, (0, 0), (0, 5)), (1, 9, (0, 4), (0, 6)), (1, 10, (9, 30), (-1, 143))]
def ofx1i_T : List og_T := [(none, some (0, 11, 0), [], [], [], [(0, (10, 0), (0, 0), 1, 6), (1, (9, 0), (10, 0), 0, 0)]), (none, some (0, 0, -2000000000), [], [], [], [(0, (10, 0), (0, 0), 0, 5), (2, (9, 0), (10, 0), 0, 0)])]
theorem ofx1i_c : qs_chk (fun _ => false) ofx1i_i 0 ofx1i_T 400 400 5 27 0 [(0, 2, 0, 8), (1, 0, 9, 0), (2, 0, 0, 1)] [] = true := by decide +kernel
def ofx2n_i : List qs_I := [(0, 0, (0, 0), (-2147483648, -1))]
def ofx2n_T : List og_T := [(none, some (0, 0, -2000000000), [], [], [], [])]
theorem ofx2n_c : qs_chk (fun _ => false) ofx2n_i 0 ofx2n_T 400 400 5 27 0 [(0, 2, 0, 8), (1, 0, 9, 0), (2, 0, 0, 2)] [] = true := by decide +kernel
def ofx2h_i : List qs_I := [(0, 0, (0, 0), (6, 2147483647)), (1, 9, (0, 4), (0, 6))]
def ofx2h_T : List og_T := [(none, some (0, 0, -2000000000), [], [], [], [])]
theorem ofx2h_c : qs_chk (fun _ => false) ofx2h_i 0 ofx2h_T 400 400 5 27 0 [(0, 2, 0, 8), (1, 0, 9, 0), (2, 0, 0, 2)] [] = true := by decide +kernel
def ofx2i_i : List qs_I := [(0, 0, (0, 0), (0, 5)), (1, 9, (0, 4), (0, 6)), (1, 10, (9, 60), (-1, 143))]
def ofx2i_T : List og_T := [(none, some (0, 11, 0), [], [], [], [(0, (10, 0), (0, 0), 1, 6), (1, (9, 0), (10, 0), 0, 0)]), (none, some (0, 0, -2000000000), [], [], [], [(0, (10, 0), (0, 0), 0, 5), (2, (9, 0), (10, 0), 0, 0)])]
theorem ofx2i_c : qs_chk (fun _ => false) ofx2i_i 0 ofx2i_T 400 400 5 27 0 [(0, 2, 0, 8), (1, 0, 9, 0), (2, 0, 0, 2)] [] = true := by decide +kernel
def ofx3n_i : List qs_I := [(0, 0, (0, 0), (-2147483648, -1))]
def ofx3n_T : List og_T := [(none, some (0, 0, -2000000000), [], [], [], [])]
theorem ofx3n_c : qs_chk (fun _ => false) ofx3n_i 0 ofx3n_T 400 400 5 27 0 [(0, 2, 0, 8), (1, 0, 9, 0), (2, 0, 0, 3)] [] = true := by decide +kernel
def ofx3h_i : List qs_I := [(0, 0, (0, 0), (6, 2147483647)), (1, 9, (0, 4), (0, 6))]
def ofx3h_T : List og_T := [(none, some (0, 0, -2000000000), [], [], [], [])]
theorem ofx3h_c : qs_chk (fun _ => false) ofx3h_i 0 ofx3h_T 400 400 5 27 0 [(0, 2, 0, 8), (1, 0, 9, 0), (2, 0, 0, 3)] [] = true := by decide +kernel
def ofx3i_i : List qs_I := [(0, 0, (0, 0), (0, 5)), (1, 9, (0, 4), (0, 6)), (1, 10, (9, 90), (-1, 143))]
def ofx3i_T : List og_T := [(none, some (0, 11, 0), [], [], [], [(0, (10, 0), (0, 0), 1, 6), (1, (9, 0), (10, 0), 0, 0)]), (none, some (0, 0, -2000000000), [], [], [], [(0, (10, 0), (0, 0), 0, 5), (2, (9, 0), (10, 0), 0, 0)])]
theorem ofx3i_c : qs_chk (fun _ => false) ofx3i_i 0 ofx3i_T 400 400 5 27 0 [(0, 2, 0, 8), (1, 0, 9, 0), (2, 0, 0, 3)] [] = true := by decide +kernel
def ofx4n_i : List qs_I := [(0, 0, (0, 0), (-2147483648, -1))]
def ofx4n_T : List og_T := [(none, some (0, 0, -2000000000), [], [], [], [])]
theorem ofx4n_c : qs_chk (fun _ => false) ofx4n_i 0 ofx4n_T 400 400 5 27 0 [(0, 2, 0, 8), (1, 0, 9, 0), (2, 0, 0, 4)] [] = true := by decide +kernel
def ofx4h_i : List qs_I := [(0, 0, (0, 0), (6, 2147483647)), (1, 9, (0, 4), (0, 6))]
def ofx4h_T : List og_T := [(none, some (0, 0, -2000000000), [], [], [], [])]
theorem ofx4h_c : qs_chk (fun _ => false) ofx4h_i 0 ofx4h_T 400 400 5 27 0 [(0, 2, 0, 8), (1, 0, 9, 0), (2, 0, 0, 4)] [] = true := by decide +kernel
def ofx4i_i : List qs_I := [(0, 0, (0, 0), (0, 5)), (1, 9, (0, 4), (0, 6)), (1, 10, (9, 120), (-1, 143))]
def ofx4i_T : List og_T := [(none, some (0, 11, 0), [], [], [], [(0, (10, 0), (0, 0), 1, 6), (1, (9, 0), (10, 0), 0, 0)]), (none, some (0, 0, -2000000000), [], [], [], [(0, (10, 0), (0, 0), 0, 5), (2, (9, 0), (10, 0), 0, 0)])]
theorem ofx4i_c : qs_chk (fun _ => false) ofx4i_i 0 ofx4i_T 400 400 5 27 0 [(0, 2, 0, 8), (1, 0, 9, 0), (2, 0, 0, 4)] [] = true := by decide +kernel
def ofx5n_i : List qs_I := [(0, 0, (0, 0), (-2147483648, -1))]
def ofx5n_T : List og_T := [(none, some (0, 0, -2000000000), [], [], [], [])]
theorem ofx5n_c : qs_chk (fun _ => false) ofx5n_i 0 ofx5n_T 400 400 5 27 0 [(0, 2, 0, 8), (1, 0, 9, 0), (2, 0, 0, 5)] [] = true := by decide +kernel
def ofx5h_i : List qs_I := [(0, 0, (0, 0), (30, 2147483647))]
def ofx5h_T : List og_T := [(none, some (0, 0, -2000000000), [], [], [], [])]
theorem ofx5h_c : qs_chk (fun _ => false) ofx5h_i 0 ofx5h_T 400 400 5 27 0 [(0, 2, 0, 8), (1, 0, 9, 0), (2, 0, 0, 5)] [] = true := by decide +kernel
def ofx5i_i : List qs_I := [(0, 0, (0, 0), (0, 29)), (1, 10, (9, 150), (-1, 143))]
def ofx5i_T : List og_T := [(none, some (0, 10, 0), [], [], [], [])]
theorem ofx5i_c : qs_chk (fun _ => false) ofx5i_i 0 ofx5i_T 400 400 5 27 0 [(0, 2, 0, 8), (1, 0, 9, 0), (2, 0, 0, 5)] [] = true := by decide +kernel
def ofx6n_i : List qs_I := [(0, 0, (0, 0), (-2147483648, -1))]
def ofx6n_T : List og_T := [(none, some (0, 0, -2000000000), [], [], [], [])]
theorem ofx6n_c : qs_chk (fun _ => false) ofx6n_i 0 ofx6n_T 400 400 5 27 0 [(0, 2, 0, 8), (1, 0, 9, 0), (2, 0, 0, 6)] [] = true := by decide +kernel
def ofx6h_i : List qs_I := [(0, 0, (0, 0), (12, 2147483647)), (1, 9, (0, 5), (0, 12))]
def ofx6h_T : List og_T := [(none, some (0, 0, -2000000000), [], [], [], [])]
theorem ofx6h_c : qs_chk (fun _ => false) ofx6h_i 0 ofx6h_T 400 400 5 27 0 [(0, 2, 0, 8), (1, 0, 9, 0), (2, 0, 0, 6)] [] = true := by decide +kernel
def ofx6i_i : List qs_I := [(0, 0, (0, 0), (0, 11)), (1, 9, (0, 5), (0, 12)), (1, 10, (9, 180), (-1, 143))]
def ofx6i_T : List og_T := [(none, some (0, 11, 0), [], [], [], [(0, (10, 0), (0, 0), 1, 12), (1, (9, 0), (10, 0), 0, 0)]), (none, some (0, 0, -2000000000), [], [], [], [(0, (10, 0), (0, 0), 0, 11), (2, (9, 0), (10, 0), 0, 0)])]
theorem ofx6i_c : qs_chk (fun _ => false) ofx6i_i 0 ofx6i_T 400 400 5 27 0 [(0, 2, 0, 8), (1, 0, 9, 0), (2, 0, 0, 6)] [] = true := by decide +kernel
def ofx7n_i : List qs_I := [(0, 0, (0, 0), (-2147483648, -1))]
def ofx7n_T : List og_T := [(none, some (0, 0, -2000000000), [], [], [], [])]
theorem ofx7n_c : qs_chk (fun _ => false) ofx7n_i 0 ofx7n_T 400 400 5 27 0 [(0, 2, 0, 8), (1, 0, 9, 0), (2, 0, 0, 7)] [] = true := by decide +kernel
def ofx7h_i : List qs_I := [(0, 0, (0, 0), (1, 2147483647))]
def ofx7h_T : List og_T := [(none, some (0, 0, -2000000000), [], [], [], [])]
theorem ofx7h_c : qs_chk (fun _ => false) ofx7h_i 0 ofx7h_T 400 400 5 27 0 [(0, 2, 0, 8), (1, 0, 9, 0), (2, 0, 0, 7)] [] = true := by decide +kernel
def ofx7i_i : List qs_I := [(0, 0, (0, 0), (0, 0)), (1, 10, (0, 210), (-1, 143))]
def ofx7i_T : List og_T := [(none, some (0, 10, 0), [], [], [], [])]
theorem ofx7i_c : qs_chk (fun _ => false) ofx7i_i 0 ofx7i_T 400 400 5 27 0 [(0, 2, 0, 8), (1, 0, 9, 0), (2, 0, 0, 7)] [] = true := by decide +kernel
def ofx8n_i : List qs_I := [(0, 0, (0, 0), (-2147483648, -1))]
def ofx8n_T : List og_T := [(none, some (0, 0, -2000000000), [], [], [], [])]
theorem ofx8n_c : qs_chk (fun _ => false) ofx8n_i 0 ofx8n_T 400 400 5 27 0 [(0, 2, 0, 8), (1, 0, 9, 0), (2, 0, 0, 8)] [] = true := by decide +kernel
def ofx8h_i : List qs_I := [(0, 0, (0, 0), (6, 2147483647)), (1, 9, (0, 4), (0, 6))]
def ofx8h_T : List og_T := [(none, some (0, 0, -2000000000), [], [], [], [])]
theorem ofx8h_c : qs_chk (fun _ => false) ofx8h_i 0 ofx8h_T 400 400 5 27 0 [(0, 2, 0, 8), (1, 0, 9, 0), (2, 0, 0, 8)] [] = true := by decide +kernel
def ofx8i_i : List qs_I := [(0, 0, (0, 0), (0, 5)), (1, 9, (0, 4), (0, 6)), (1, 9, (0, 6), sx_r32)]
def ofx8i_T : List og_T := [(none, some (0, 13, 0), [], [], [], [(0, (10, 0), (0, 0), 1, 6), (1, (9, 0), (10, 0), 0, 0), (5, (11, 0), (9, 0), 10, 12), (5, (12, 0), (0, 1), 3, 13)]), (none, some (0, 0, -2000000000), [], [], [], [(0, (10, 0), (0, 0), 0, 5), (2, (9, 0), (10, 0), 0, 0)])]
theorem ofx8i_c : qs_chk (fun _ => false) ofx8i_i 2 ofx8i_T 400 400 5 27 0 [(0, 2, 0, 8), (1, 0, 9, 0), (2, 0, 0, 8)] [] = true := by decide +kernel
def ofx9n_i : List qs_I := [(0, 0, (0, 0), (-2147483648, -1))]
def ofx9n_T : List og_T := [(none, some (0, 0, -2000000000), [], [], [], [])]
theorem ofx9n_c : qs_chk (fun _ => false) ofx9n_i 0 ofx9n_T 400 400 5 27 0 [(0, 2, 0, 8), (1, 0, 9, 0), (2, 0, 0, 9)] [] = true := by decide +kernel
def ofx9h_i : List qs_I := [(0, 0, (0, 0), (12, 2147483647)), (1, 9, (0, 5), (0, 12))]
def ofx9h_T : List og_T := [(none, some (0, 0, -2000000000), [], [], [], [])]
theorem ofx9h_c : qs_chk (fun _ => false) ofx9h_i 0 ofx9h_T 400 400 5 27 0 [(0, 2, 0, 8), (1, 0, 9, 0), (2, 0, 0, 9)] [] = true := by decide +kernel
def ofx9i_i : List qs_I := [(0, 0, (0, 0), (0, 11)), (1, 9, (0, 5), (0, 12)), (1, 11, (9, 0), (0, 5))]
def ofx9i_T : List og_T := [(none, some (0, 11, 0), [], [], [], [(0, (10, 0), (0, 0), 1, 12), (1, (9, 0), (10, 0), 0, 0)]), (none, some (0, 0, -2000000000), [], [], [], [(0, (10, 0), (0, 0), 0, 11), (2, (9, 0), (10, 0), 0, 0)])]
theorem ofx9i_c : qs_chk (fun _ => false) ofx9i_i 0 ofx9i_T 400 400 5 27 0 [(0, 2, 0, 8), (1, 0, 9, 0), (2, 0, 0, 9)] [] = true := by decide +kernel
def ofx10n_i : List qs_I := [(0, 0, (0, 0), (-2147483648, -1))]
def ofx10n_T : List og_T := [(none, some (0, 0, -2000000000), [], [], [], [])]
theorem ofx10n_c : qs_chk (fun _ => false) ofx10n_i 0 ofx10n_T 400 400 5 27 0 [(0, 2, 0, 8), (1, 0, 9, 0), (2, 0, 0, 10)] [] = true := by decide +kernel
def ofx10h_i : List qs_I := [(0, 0, (0, 0), (12, 2147483647)), (1, 9, (0, 5), (0, 12))]
def ofx10h_T : List og_T := [(none, some (0, 0, -2000000000), [], [], [], [])]
theorem ofx10h_c : qs_chk (fun _ => false) ofx10h_i 0 ofx10h_T 400 400 5 27 0 [(0, 2, 0, 8), (1, 0, 9, 0), (2, 0, 0, 10)] [] = true := by decide +kernel
def ofx10i_i : List qs_I := [(0, 0, (0, 0), (0, 11)), (1, 9, (0, 5), (0, 12)), (1, 9, (0, 7), sx_r32)]
def ofx10i_T : List og_T := [(none, some (0, 13, 0), [], [], [], [(0, (10, 0), (0, 0), 1, 12), (1, (9, 0), (10, 0), 0, 0), (5, (11, 0), (9, 0), 10, 12), (5, (12, 0), (0, 1), 3, 13)]), (none, some (0, 0, -2000000000), [], [], [], [(0, (10, 0), (0, 0), 0, 11), (2, (9, 0), (10, 0), 0, 0)])]
theorem ofx10i_c : qs_chk (fun _ => false) ofx10i_i 2 ofx10i_T 400 400 5 27 0 [(0, 2, 0, 8), (1, 0, 9, 0), (2, 0, 0, 10)] [] = true := by decide +kernel
def ofx_h_i : List qs_I := [(0, 0, (0, 0), sx_r32), (0, 0, (0, 0), (11, 2147483647))]
def ofx_h_T : List og_T := [(none, some (0, 0, -2000000000), [], [], [], [])]
theorem ofx_h_c : qs_chk (fun _ => false) ofx_h_i 0 ofx_h_T 400 400 5 27 0 [(0, 2, 0, 8), (1, 0, 9, 0), (2, 0, 10, 0)] [] = true := by decide +kernel
def ofx_n_i : List qs_I := [(0, 0, (0, 0), sx_r32), (0, 0, (0, 0), (-2147483648, -1))]
def ofx_n_T : List og_T := [(none, some (0, 0, -2000000000), [], [], [], [])]
theorem ofx_n_c : qs_chk (fun _ => false) ofx_n_i 0 ofx_n_T 400 400 5 27 0 [(0, 2, 0, 8), (1, 0, 9, 0), (2, 0, 10, 0)] [] = true := by decide +kernel
def ofm0n_i : List qs_I := [(0, 0, (0, 0), (-2147483648, -1)), (1, 53, (0, 1), (0, 6))]
def ofm0n_T : List og_T := [(none, some (0, 0, -2000000000), [], [], [], [])]
theorem ofm0n_c : qs_chk (fun _ => false) ofm0n_i 0 ofm0n_T 400 400 5 170 0 [(0, 2, 0, 53), (1, 0, 9, 0), (2, 0, 0, 0)] [] = true := by decide +kernel
def ofm0h_i : List qs_I := [(0, 0, (0, 0), (6, 2147483647)), (1, 53, (0, 1), (0, 6))]
def ofm0h_T : List og_T := [(none, some (0, 0, -2000000000), [], [], [], [])]
theorem ofm0h_c : qs_chk (fun _ => false) ofm0h_i 0 ofm0h_T 400 400 5 170 0 [(0, 2, 0, 53), (1, 0, 9, 0), (2, 0, 0, 0)] [] = true := by decide +kernel
def ofm0i_i : List qs_I := [(0, 0, (0, 0), (0, 5)), (1, 53, (0, 1), (0, 6)), (1, 54, (9, 0), (-1, 143))]
def ofm0i_T : List og_T := [(none, some (0, 0, -2000000000), [], [], [], [(0, (10, 0), (0, 0), 0, 5), (1, (10, 0), (9, 0), 1, 0)]), (none, some (0, 11, 0), [], [], [], [(0, (10, 0), (0, 0), 1, 6), (2, (10, 0), (9, 0), 1, 0)])]
theorem ofm0i_c : qs_chk (fun _ => false) ofm0i_i 0 ofm0i_T 400 400 5 170 0 [(0, 2, 0, 53), (1, 0, 9, 0), (2, 0, 0, 0)] [] = true := by decide +kernel
def ofm1n_i : List qs_I := [(0, 0, (0, 0), (-2147483648, -1)), (1, 53, (0, 1), (0, 6))]
def ofm1n_T : List og_T := [(none, some (0, 0, -2000000000), [], [], [], [])]
theorem ofm1n_c : qs_chk (fun _ => false) ofm1n_i 0 ofm1n_T 400 400 5 170 0 [(0, 2, 0, 53), (1, 0, 9, 0), (2, 0, 0, 1)] [] = true := by decide +kernel
def ofm1h_i : List qs_I := [(0, 0, (0, 0), (6, 2147483647)), (1, 53, (0, 1), (0, 6))]
def ofm1h_T : List og_T := [(none, some (0, 0, -2000000000), [], [], [], [])]
theorem ofm1h_c : qs_chk (fun _ => false) ofm1h_i 0 ofm1h_T 400 400 5 170 0 [(0, 2, 0, 53), (1, 0, 9, 0), (2, 0, 0, 1)] [] = true := by decide +kernel
def ofm1i_i : List qs_I := [(0, 0, (0, 0), (0, 5)), (1, 53, (0, 1), (0, 6)), (1, 55, (9, 0), (-1, 143))]
def ofm1i_T : List og_T := [(none, some (0, 0, -2000000000), [], [], [], [(0, (10, 0), (0, 0), 0, 5), (1, (10, 0), (9, 0), 1, 0)]), (none, some (0, 11, 0), [], [], [], [(0, (10, 0), (0, 0), 1, 6), (2, (10, 0), (9, 0), 1, 0)])]
theorem ofm1i_c : qs_chk (fun _ => false) ofm1i_i 0 ofm1i_T 400 400 5 170 0 [(0, 2, 0, 53), (1, 0, 9, 0), (2, 0, 0, 1)] [] = true := by decide +kernel
def ofm2n_i : List qs_I := [(0, 0, (0, 0), (-2147483648, -1)), (1, 53, (0, 1), (0, 6))]
def ofm2n_T : List og_T := [(none, some (0, 0, -2000000000), [], [], [], [])]
theorem ofm2n_c : qs_chk (fun _ => false) ofm2n_i 0 ofm2n_T 400 400 5 170 0 [(0, 2, 0, 53), (1, 0, 9, 0), (2, 0, 0, 2)] [] = true := by decide +kernel
def ofm2h_i : List qs_I := [(0, 0, (0, 0), (6, 2147483647)), (1, 53, (0, 1), (0, 6))]
def ofm2h_T : List og_T := [(none, some (0, 0, -2000000000), [], [], [], [])]
theorem ofm2h_c : qs_chk (fun _ => false) ofm2h_i 0 ofm2h_T 400 400 5 170 0 [(0, 2, 0, 53), (1, 0, 9, 0), (2, 0, 0, 2)] [] = true := by decide +kernel
def ofm2i_i : List qs_I := [(0, 0, (0, 0), (0, 5)), (1, 53, (0, 1), (0, 6)), (1, 56, (9, 0), (-1, 143))]
def ofm2i_T : List og_T := [(none, some (0, 0, -2000000000), [], [], [], [(0, (10, 0), (0, 0), 0, 5), (1, (10, 0), (9, 0), 1, 0)]), (none, some (0, 11, 0), [], [], [], [(0, (10, 0), (0, 0), 1, 6), (2, (10, 0), (9, 0), 1, 0)])]
theorem ofm2i_c : qs_chk (fun _ => false) ofm2i_i 0 ofm2i_T 400 400 5 170 0 [(0, 2, 0, 53), (1, 0, 9, 0), (2, 0, 0, 2)] [] = true := by decide +kernel
def ofm3n_i : List qs_I := [(0, 0, (0, 0), (-2147483648, -1)), (1, 53, (0, 1), (0, 6))]
def ofm3n_T : List og_T := [(none, some (0, 0, -2000000000), [], [], [], [])]
theorem ofm3n_c : qs_chk (fun _ => false) ofm3n_i 0 ofm3n_T 400 400 5 170 0 [(0, 2, 0, 53), (1, 0, 9, 0), (2, 0, 0, 3)] [] = true := by decide +kernel
def ofm3h_i : List qs_I := [(0, 0, (0, 0), (6, 2147483647)), (1, 53, (0, 1), (0, 6))]
def ofm3h_T : List og_T := [(none, some (0, 0, -2000000000), [], [], [], [])]
theorem ofm3h_c : qs_chk (fun _ => false) ofm3h_i 0 ofm3h_T 400 400 5 170 0 [(0, 2, 0, 53), (1, 0, 9, 0), (2, 0, 0, 3)] [] = true := by decide +kernel
def ofm3i_i : List qs_I := [(0, 0, (0, 0), (0, 5)), (1, 53, (0, 1), (0, 6)), (1, 57, (9, 0), (-1, 143))]
def ofm3i_T : List og_T := [(none, some (0, 0, -2000000000), [], [], [], [(0, (10, 0), (0, 0), 0, 5), (1, (10, 0), (9, 0), 1, 0)]), (none, some (0, 11, 0), [], [], [], [(0, (10, 0), (0, 0), 1, 6), (2, (10, 0), (9, 0), 1, 0)])]
theorem ofm3i_c : qs_chk (fun _ => false) ofm3i_i 0 ofm3i_T 400 400 5 170 0 [(0, 2, 0, 53), (1, 0, 9, 0), (2, 0, 0, 3)] [] = true := by decide +kernel
def ofm4n_i : List qs_I := [(0, 0, (0, 0), (-2147483648, -1)), (1, 53, (0, 1), (0, 6))]
def ofm4n_T : List og_T := [(none, some (0, 0, -2000000000), [], [], [], [])]
theorem ofm4n_c : qs_chk (fun _ => false) ofm4n_i 0 ofm4n_T 400 400 5 170 0 [(0, 2, 0, 53), (1, 0, 9, 0), (2, 0, 0, 4)] [] = true := by decide +kernel
def ofm4h_i : List qs_I := [(0, 0, (0, 0), (6, 2147483647)), (1, 53, (0, 1), (0, 6))]
def ofm4h_T : List og_T := [(none, some (0, 0, -2000000000), [], [], [], [])]
theorem ofm4h_c : qs_chk (fun _ => false) ofm4h_i 0 ofm4h_T 400 400 5 170 0 [(0, 2, 0, 53), (1, 0, 9, 0), (2, 0, 0, 4)] [] = true := by decide +kernel
def ofm4i_i : List qs_I := [(0, 0, (0, 0), (0, 5)), (1, 53, (0, 1), (0, 6)), (1, 58, (9, 0), (-1, 143))]
def ofm4i_T : List og_T := [(none, some (0, 0, -2000000000), [], [], [], [(0, (10, 0), (0, 0), 0, 5), (1, (10, 0), (9, 0), 1, 0)]), (none, some (0, 11, 0), [], [], [], [(0, (10, 0), (0, 0), 1, 6), (2, (10, 0), (9, 0), 1, 0)])]
theorem ofm4i_c : qs_chk (fun _ => false) ofm4i_i 0 ofm4i_T 400 400 5 170 0 [(0, 2, 0, 53), (1, 0, 9, 0), (2, 0, 0, 4)] [] = true := by decide +kernel
def ofm5n_i : List qs_I := [(0, 0, (0, 0), (-2147483648, -1))]
def ofm5n_T : List og_T := [(none, some (0, 0, -2000000000), [], [], [], [])]
theorem ofm5n_c : qs_chk (fun _ => false) ofm5n_i 0 ofm5n_T 400 400 5 170 0 [(0, 2, 0, 53), (1, 0, 9, 0), (2, 0, 0, 5)] [] = true := by decide +kernel
def ofm5h_i : List qs_I := [(0, 0, (0, 0), (30, 2147483647))]
def ofm5h_T : List og_T := [(none, some (0, 0, -2000000000), [], [], [], [])]
theorem ofm5h_c : qs_chk (fun _ => false) ofm5h_i 0 ofm5h_T 400 400 5 170 0 [(0, 2, 0, 53), (1, 0, 9, 0), (2, 0, 0, 5)] [] = true := by decide +kernel
def ofm5i_i : List qs_I := [(0, 0, (0, 0), (0, 29)), (1, 61, (9, 0), (-1, 143))]
def ofm5i_T : List og_T := [(none, some (0, 10, 0), [], [], [], [])]
theorem ofm5i_c : qs_chk (fun _ => false) ofm5i_i 0 ofm5i_T 400 400 5 170 0 [(0, 2, 0, 53), (1, 0, 9, 0), (2, 0, 0, 5)] [] = true := by decide +kernel
def ofm6n_i : List qs_I := [(0, 0, (0, 0), (-2147483648, -1)), (1, 53, (0, 8), (0, 12))]
def ofm6n_T : List og_T := [(none, some (0, 0, -2000000000), [], [], [], [])]
theorem ofm6n_c : qs_chk (fun _ => false) ofm6n_i 0 ofm6n_T 400 400 5 170 0 [(0, 2, 0, 53), (1, 0, 9, 0), (2, 0, 0, 6)] [] = true := by decide +kernel
def ofm6h_i : List qs_I := [(0, 0, (0, 0), (12, 2147483647)), (1, 53, (0, 8), (0, 12))]
def ofm6h_T : List og_T := [(none, some (0, 0, -2000000000), [], [], [], [])]
theorem ofm6h_c : qs_chk (fun _ => false) ofm6h_i 0 ofm6h_T 400 400 5 170 0 [(0, 2, 0, 53), (1, 0, 9, 0), (2, 0, 0, 6)] [] = true := by decide +kernel
def ofm6i_i : List qs_I := [(0, 0, (0, 0), (0, 11)), (1, 53, (0, 8), (0, 12)), (1, 60, (9, 0), (-1, 143))]
def ofm6i_T : List og_T := [(none, some (0, 0, -2000000000), [], [], [], [(0, (10, 0), (0, 0), 0, 11), (1, (10, 0), (9, 0), 1, 0)]), (none, some (0, 11, 0), [], [], [], [(0, (10, 0), (0, 0), 1, 12), (2, (10, 0), (9, 0), 1, 0)])]
theorem ofm6i_c : qs_chk (fun _ => false) ofm6i_i 0 ofm6i_T 400 400 5 170 0 [(0, 2, 0, 53), (1, 0, 9, 0), (2, 0, 0, 6)] [] = true := by decide +kernel
def ofm7n_i : List qs_I := [(0, 0, (0, 0), (-2147483648, -1))]
def ofm7n_T : List og_T := [(none, some (0, 0, -2000000000), [], [], [], [])]
theorem ofm7n_c : qs_chk (fun _ => false) ofm7n_i 0 ofm7n_T 400 400 5 170 0 [(0, 2, 0, 53), (1, 0, 9, 0), (2, 0, 0, 7)] [] = true := by decide +kernel
def ofm7h_i : List qs_I := [(0, 0, (0, 0), (1, 2147483647))]
def ofm7h_T : List og_T := [(none, some (0, 0, -2000000000), [], [], [], [])]
theorem ofm7h_c : qs_chk (fun _ => false) ofm7h_i 0 ofm7h_T 400 400 5 170 0 [(0, 2, 0, 53), (1, 0, 9, 0), (2, 0, 0, 7)] [] = true := by decide +kernel
def ofm7i_i : List qs_I := [(0, 0, (0, 0), (0, 0)), (1, 53, (0, 13), (0, 29))]
def ofm7i_T : List og_T := [(none, some (0, 10, 0), [], [], [], [])]
theorem ofm7i_c : qs_chk (fun _ => false) ofm7i_i 0 ofm7i_T 400 400 5 170 0 [(0, 2, 0, 53), (1, 0, 9, 0), (2, 0, 0, 7)] [] = true := by decide +kernel
def ofm8n_i : List qs_I := [(0, 0, (0, 0), (-2147483648, -1)), (1, 53, (0, 1), (0, 6))]
def ofm8n_T : List og_T := [(none, some (0, 0, -2000000000), [], [], [], [])]
theorem ofm8n_c : qs_chk (fun _ => false) ofm8n_i 0 ofm8n_T 400 400 5 170 0 [(0, 2, 0, 53), (1, 0, 9, 0), (2, 0, 0, 8)] [] = true := by decide +kernel
def ofm8h_i : List qs_I := [(0, 0, (0, 0), (6, 2147483647)), (1, 53, (0, 1), (0, 6))]
def ofm8h_T : List og_T := [(none, some (0, 0, -2000000000), [], [], [], [])]
theorem ofm8h_c : qs_chk (fun _ => false) ofm8h_i 0 ofm8h_T 400 400 5 170 0 [(0, 2, 0, 53), (1, 0, 9, 0), (2, 0, 0, 8)] [] = true := by decide +kernel
def ofm8i_i : List qs_I := [(0, 0, (0, 0), (0, 5)), (1, 53, (0, 1), (0, 6)), (1, 53, (0, 7), sx_r32)]
def ofm8i_T : List og_T := [(none, some (0, 0, -2000000000), [], [], [], [(0, (10, 0), (0, 0), 0, 5), (1, (10, 0), (9, 0), 1, 0)]), (none, some (0, 0, 1), [], [], [], [(0, (10, 0), (0, 0), 1, 6), (0, (13, 0), (0, 0), 1, 1), (2, (10, 0), (9, 0), 1, 0), (5, (11, 0), (9, 0), 9, 12), (5, (12, 0), (0, 1), 3, 13)]), (none, some (0, 0, 0), [], [], [], [(0, (10, 0), (0, 0), 1, 6), (7, (13, 0), (0, 0), 1, 0), (2, (10, 0), (9, 0), 1, 0), (5, (11, 0), (9, 0), 9, 12), (5, (12, 0), (0, 1), 3, 13)])]
theorem ofm8i_c : qs_chk (fun _ => false) ofm8i_i 2 ofm8i_T 400 400 5 170 0 [(0, 2, 0, 53), (1, 0, 9, 0), (2, 0, 0, 8)] [] = true := by decide +kernel
def ofm9n_i : List qs_I := [(0, 0, (0, 0), (-2147483648, -1)), (1, 53, (0, 8), (0, 12))]
def ofm9n_T : List og_T := [(none, some (0, 0, -2000000000), [], [], [], [])]
theorem ofm9n_c : qs_chk (fun _ => false) ofm9n_i 0 ofm9n_T 400 400 5 170 0 [(0, 2, 0, 53), (1, 0, 9, 0), (2, 0, 0, 9)] [] = true := by decide +kernel
def ofm9h_i : List qs_I := [(0, 0, (0, 0), (12, 2147483647)), (1, 53, (0, 8), (0, 12))]
def ofm9h_T : List og_T := [(none, some (0, 0, -2000000000), [], [], [], [])]
theorem ofm9h_c : qs_chk (fun _ => false) ofm9h_i 0 ofm9h_T 400 400 5 170 0 [(0, 2, 0, 53), (1, 0, 9, 0), (2, 0, 0, 9)] [] = true := by decide +kernel
def ofm9i_i : List qs_I := [(0, 0, (0, 0), (0, 11)), (1, 53, (0, 8), (0, 12)), (1, 59, (9, 0), (0, 5))]
def ofm9i_T : List og_T := [(none, some (0, 0, -2000000000), [], [], [], [(0, (10, 0), (0, 0), 0, 11), (1, (10, 0), (9, 0), 1, 0)]), (none, some (0, 11, 0), [], [], [], [(0, (10, 0), (0, 0), 1, 12), (2, (10, 0), (9, 0), 1, 0)])]
theorem ofm9i_c : qs_chk (fun _ => false) ofm9i_i 0 ofm9i_T 400 400 5 170 0 [(0, 2, 0, 53), (1, 0, 9, 0), (2, 0, 0, 9)] [] = true := by decide +kernel
def ofm10n_i : List qs_I := [(0, 0, (0, 0), (-2147483648, -1)), (1, 53, (0, 8), (0, 12))]
def ofm10n_T : List og_T := [(none, some (0, 0, -2000000000), [], [], [], [])]
theorem ofm10n_c : qs_chk (fun _ => false) ofm10n_i 0 ofm10n_T 400 400 5 170 0 [(0, 2, 0, 53), (1, 0, 9, 0), (2, 0, 0, 10)] [] = true := by decide +kernel
def ofm10h_i : List qs_I := [(0, 0, (0, 0), (12, 2147483647)), (1, 53, (0, 8), (0, 12))]
def ofm10h_T : List og_T := [(none, some (0, 0, -2000000000), [], [], [], [])]
theorem ofm10h_c : qs_chk (fun _ => false) ofm10h_i 0 ofm10h_T 400 400 5 170 0 [(0, 2, 0, 53), (1, 0, 9, 0), (2, 0, 0, 10)] [] = true := by decide +kernel
def ofm10i_i : List qs_I := [(0, 0, (0, 0), (0, 11)), (1, 53, (0, 8), (0, 12)), (1, 53, (0, 11), sx_r32)]
def ofm10i_T : List og_T := [(none, some (0, 0, -2000000000), [], [], [], [(0, (10, 0), (0, 0), 0, 11), (1, (10, 0), (9, 0), 1, 0)]), (none, some (0, 0, 1), [], [], [], [(0, (10, 0), (0, 0), 1, 12), (0, (13, 0), (0, 0), 1, 1), (2, (10, 0), (9, 0), 1, 0), (5, (11, 0), (9, 0), 9, 12), (5, (12, 0), (0, 1), 3, 13)]), (none, some (0, 0, 0), [], [], [], [(0, (10, 0), (0, 0), 1, 12), (7, (13, 0), (0, 0), 1, 0), (2, (10, 0), (9, 0), 1, 0), (5, (11, 0), (9, 0), 9, 12), (5, (12, 0), (0, 1), 3, 13)])]
theorem ofm10i_c : qs_chk (fun _ => false) ofm10i_i 2 ofm10i_T 400 400 5 170 0 [(0, 2, 0, 53), (1, 0, 9, 0), (2, 0, 0, 10)] [] = true := by decide +kernel
def ofm_h_i : List qs_I := [(0, 0, (0, 0), sx_r32), (0, 0, (0, 0), (11, 2147483647))]
def ofm_h_T : List og_T := [(none, some (0, 0, -2000000000), [], [], [], [])]
theorem ofm_h_c : qs_chk (fun _ => false) ofm_h_i 0 ofm_h_T 400 400 5 170 0 [(0, 2, 0, 53), (1, 0, 9, 0), (2, 0, 10, 0)] [] = true := by decide +kernel
def ofm_n_i : List qs_I := [(0, 0, (0, 0), sx_r32), (0, 0, (0, 0), (-2147483648, -1))]
def ofm_n_T : List og_T := [(none, some (0, 0, -2000000000), [], [], [], [])]
theorem ofm_n_c : qs_chk (fun _ => false) ofm_n_i 0 ofm_n_T 400 400 5 170 0 [(0, 2, 0, 53), (1, 0, 9, 0), (2, 0, 10, 0)] [] = true := by decide +kernel
theorem ofx_0 (hL : L < 2 ^ 31) (hm : sx_mok cl_ly M) (wk : -2147483648 ≤ k ∧ k ≤ 2147483647) : rz_fin (ed_Q M (if 0 ≤ k ∧ k < M 9 4 then (fun n : Nat => M 10 (0 + n)) k.toNat else -2000000000)) L xs 27 5 0 [(0, .ref 8), (1, .int (Int32.ofInt k)), (2, .int (Int32.ofInt 0))] [] M := by
  have hB := cx_fld (c := 9) (k := 4) (lo := 0) (hi := 6) hm (by decide +kernel)
  by_cases q1 : k < 0
  · rw [if_neg (by omega)]
    exact qs_use (zs := [k]) ofx0n_c hL hm (qs_in (show -2147483648 ≤ k ∧ k ≤ -1 by omega) (qs_fin rfl)) (Nat.le_refl _) rfl rfl (qs_c (fun N hN hc hM => ⟨rfl, hN, hM⟩) qs_z)
  by_cases q2 : 6 ≤ k
  · rw [if_neg (by omega)]
    exact qs_use (zs := [k, M 9 4]) ofx0h_c hL hm (qs_in (show 6 ≤ k ∧ k ≤ 2147483647 by omega) (qs_rd (show (0 : Int) ≤ 4 by decide) rfl (cx_fld (c := 9) (k := 4) (lo := 0) (hi := 6) hm (by decide +kernel)) (qs_fin rfl))) (Nat.le_refl _) rfl rfl (qs_c (fun N hN hc hM => ⟨rfl, hN, hM⟩) qs_z)
  obtain ⟨n, rfl⟩ := Int.eq_ofNat_of_zero_le (show 0 ≤ k by omega)
  rw [Int.toNat_natCast]
  refine qs_use (zs := [(n : Int), M 9 4, M 10 (0 + n)]) ofx0i_c hL hm (qs_in (show 0 ≤ (n : Int) ∧ (n : Int) ≤ 5 by omega) (qs_rd (show (0 : Int) ≤ 4 by decide) rfl (cx_fld (c := 9) (k := 4) (lo := 0) (hi := 6) hm (by decide +kernel)) (qs_rd (show 0 ≤ (n : Int) by omega) (by show M 10 n = M 10 (0 + n); rw [Nat.zero_add]) (cx_m10 hm (k := 0 + n) (by omega)) (qs_fin rfl)))) (Nat.le_refl _) rfl rfl (qs_c (fun N hN hc hM => ?_) (qs_c (fun N hN hc hM => ?_) qs_z))
  · obtain ⟨c0, c1, -⟩ := hc
    have e : (n : Int) < M 9 4 := c1
    rw [if_pos (by omega)]
    exact ⟨rfl, hN, hM⟩
  · obtain ⟨c0, c1, -⟩ := hc
    have e : ¬ (n : Int) < M 9 4 := c1
    rw [if_neg (by omega)]
    exact ⟨rfl, hN, hM⟩
theorem ofx_1 (hL : L < 2 ^ 31) (hm : sx_mok cl_ly M) (wk : -2147483648 ≤ k ∧ k ≤ 2147483647) : rz_fin (ed_Q M (if 0 ≤ k ∧ k < M 9 4 then (fun n : Nat => M 10 (30 + n)) k.toNat else -2000000000)) L xs 27 5 0 [(0, .ref 8), (1, .int (Int32.ofInt k)), (2, .int (Int32.ofInt 1))] [] M := by
  have hB := cx_fld (c := 9) (k := 4) (lo := 0) (hi := 6) hm (by decide +kernel)
  by_cases q1 : k < 0
  · rw [if_neg (by omega)]
    exact qs_use (zs := [k]) ofx1n_c hL hm (qs_in (show -2147483648 ≤ k ∧ k ≤ -1 by omega) (qs_fin rfl)) (Nat.le_refl _) rfl rfl (qs_c (fun N hN hc hM => ⟨rfl, hN, hM⟩) qs_z)
  by_cases q2 : 6 ≤ k
  · rw [if_neg (by omega)]
    exact qs_use (zs := [k, M 9 4]) ofx1h_c hL hm (qs_in (show 6 ≤ k ∧ k ≤ 2147483647 by omega) (qs_rd (show (0 : Int) ≤ 4 by decide) rfl (cx_fld (c := 9) (k := 4) (lo := 0) (hi := 6) hm (by decide +kernel)) (qs_fin rfl))) (Nat.le_refl _) rfl rfl (qs_c (fun N hN hc hM => ⟨rfl, hN, hM⟩) qs_z)
  obtain ⟨n, rfl⟩ := Int.eq_ofNat_of_zero_le (show 0 ≤ k by omega)
  rw [Int.toNat_natCast]
  refine qs_use (zs := [(n : Int), M 9 4, M 10 (30 + n)]) ofx1i_c hL hm (qs_in (show 0 ≤ (n : Int) ∧ (n : Int) ≤ 5 by omega) (qs_rd (show (0 : Int) ≤ 4 by decide) rfl (cx_fld (c := 9) (k := 4) (lo := 0) (hi := 6) hm (by decide +kernel)) (qs_rd (show 0 ≤ (n : Int) + 30 by omega) (by show M 10 ((n : Int) + 30).toNat = M 10 (30 + n); rw [show ((n : Int) + 30).toNat = 30 + n by omega]) (cx_m10 hm (k := 30 + n) (by omega)) (qs_fin rfl)))) (Nat.le_refl _) rfl rfl (qs_c (fun N hN hc hM => ?_) (qs_c (fun N hN hc hM => ?_) qs_z))
  · obtain ⟨c0, c1, -⟩ := hc
    have e : (n : Int) < M 9 4 := c1
    rw [if_pos (by omega)]
    exact ⟨rfl, hN, hM⟩
  · obtain ⟨c0, c1, -⟩ := hc
    have e : ¬ (n : Int) < M 9 4 := c1
    rw [if_neg (by omega)]
    exact ⟨rfl, hN, hM⟩
theorem ofx_2 (hL : L < 2 ^ 31) (hm : sx_mok cl_ly M) (wk : -2147483648 ≤ k ∧ k ≤ 2147483647) : rz_fin (ed_Q M (if 0 ≤ k ∧ k < M 9 4 then (fun n : Nat => M 10 (60 + n)) k.toNat else -2000000000)) L xs 27 5 0 [(0, .ref 8), (1, .int (Int32.ofInt k)), (2, .int (Int32.ofInt 2))] [] M := by
  have hB := cx_fld (c := 9) (k := 4) (lo := 0) (hi := 6) hm (by decide +kernel)
  by_cases q1 : k < 0
  · rw [if_neg (by omega)]
    exact qs_use (zs := [k]) ofx2n_c hL hm (qs_in (show -2147483648 ≤ k ∧ k ≤ -1 by omega) (qs_fin rfl)) (Nat.le_refl _) rfl rfl (qs_c (fun N hN hc hM => ⟨rfl, hN, hM⟩) qs_z)
  by_cases q2 : 6 ≤ k
  · rw [if_neg (by omega)]
    exact qs_use (zs := [k, M 9 4]) ofx2h_c hL hm (qs_in (show 6 ≤ k ∧ k ≤ 2147483647 by omega) (qs_rd (show (0 : Int) ≤ 4 by decide) rfl (cx_fld (c := 9) (k := 4) (lo := 0) (hi := 6) hm (by decide +kernel)) (qs_fin rfl))) (Nat.le_refl _) rfl rfl (qs_c (fun N hN hc hM => ⟨rfl, hN, hM⟩) qs_z)
  obtain ⟨n, rfl⟩ := Int.eq_ofNat_of_zero_le (show 0 ≤ k by omega)
  rw [Int.toNat_natCast]
  refine qs_use (zs := [(n : Int), M 9 4, M 10 (60 + n)]) ofx2i_c hL hm (qs_in (show 0 ≤ (n : Int) ∧ (n : Int) ≤ 5 by omega) (qs_rd (show (0 : Int) ≤ 4 by decide) rfl (cx_fld (c := 9) (k := 4) (lo := 0) (hi := 6) hm (by decide +kernel)) (qs_rd (show 0 ≤ (n : Int) + 60 by omega) (by show M 10 ((n : Int) + 60).toNat = M 10 (60 + n); rw [show ((n : Int) + 60).toNat = 60 + n by omega]) (cx_m10 hm (k := 60 + n) (by omega)) (qs_fin rfl)))) (Nat.le_refl _) rfl rfl (qs_c (fun N hN hc hM => ?_) (qs_c (fun N hN hc hM => ?_) qs_z))
  · obtain ⟨c0, c1, -⟩ := hc
    have e : (n : Int) < M 9 4 := c1
    rw [if_pos (by omega)]
    exact ⟨rfl, hN, hM⟩
  · obtain ⟨c0, c1, -⟩ := hc
    have e : ¬ (n : Int) < M 9 4 := c1
    rw [if_neg (by omega)]
    exact ⟨rfl, hN, hM⟩
theorem ofx_3 (hL : L < 2 ^ 31) (hm : sx_mok cl_ly M) (wk : -2147483648 ≤ k ∧ k ≤ 2147483647) : rz_fin (ed_Q M (if 0 ≤ k ∧ k < M 9 4 then (fun n : Nat => M 10 (90 + n)) k.toNat else -2000000000)) L xs 27 5 0 [(0, .ref 8), (1, .int (Int32.ofInt k)), (2, .int (Int32.ofInt 3))] [] M := by
  have hB := cx_fld (c := 9) (k := 4) (lo := 0) (hi := 6) hm (by decide +kernel)
  by_cases q1 : k < 0
  · rw [if_neg (by omega)]
    exact qs_use (zs := [k]) ofx3n_c hL hm (qs_in (show -2147483648 ≤ k ∧ k ≤ -1 by omega) (qs_fin rfl)) (Nat.le_refl _) rfl rfl (qs_c (fun N hN hc hM => ⟨rfl, hN, hM⟩) qs_z)
  by_cases q2 : 6 ≤ k
  · rw [if_neg (by omega)]
    exact qs_use (zs := [k, M 9 4]) ofx3h_c hL hm (qs_in (show 6 ≤ k ∧ k ≤ 2147483647 by omega) (qs_rd (show (0 : Int) ≤ 4 by decide) rfl (cx_fld (c := 9) (k := 4) (lo := 0) (hi := 6) hm (by decide +kernel)) (qs_fin rfl))) (Nat.le_refl _) rfl rfl (qs_c (fun N hN hc hM => ⟨rfl, hN, hM⟩) qs_z)
  obtain ⟨n, rfl⟩ := Int.eq_ofNat_of_zero_le (show 0 ≤ k by omega)
  rw [Int.toNat_natCast]
  refine qs_use (zs := [(n : Int), M 9 4, M 10 (90 + n)]) ofx3i_c hL hm (qs_in (show 0 ≤ (n : Int) ∧ (n : Int) ≤ 5 by omega) (qs_rd (show (0 : Int) ≤ 4 by decide) rfl (cx_fld (c := 9) (k := 4) (lo := 0) (hi := 6) hm (by decide +kernel)) (qs_rd (show 0 ≤ (n : Int) + 90 by omega) (by show M 10 ((n : Int) + 90).toNat = M 10 (90 + n); rw [show ((n : Int) + 90).toNat = 90 + n by omega]) (cx_m10 hm (k := 90 + n) (by omega)) (qs_fin rfl)))) (Nat.le_refl _) rfl rfl (qs_c (fun N hN hc hM => ?_) (qs_c (fun N hN hc hM => ?_) qs_z))
  · obtain ⟨c0, c1, -⟩ := hc
    have e : (n : Int) < M 9 4 := c1
    rw [if_pos (by omega)]
    exact ⟨rfl, hN, hM⟩
  · obtain ⟨c0, c1, -⟩ := hc
    have e : ¬ (n : Int) < M 9 4 := c1
    rw [if_neg (by omega)]
    exact ⟨rfl, hN, hM⟩
theorem ofx_4 (hL : L < 2 ^ 31) (hm : sx_mok cl_ly M) (wk : -2147483648 ≤ k ∧ k ≤ 2147483647) : rz_fin (ed_Q M (if 0 ≤ k ∧ k < M 9 4 then (fun n : Nat => M 10 (120 + n)) k.toNat else -2000000000)) L xs 27 5 0 [(0, .ref 8), (1, .int (Int32.ofInt k)), (2, .int (Int32.ofInt 4))] [] M := by
  have hB := cx_fld (c := 9) (k := 4) (lo := 0) (hi := 6) hm (by decide +kernel)
  by_cases q1 : k < 0
  · rw [if_neg (by omega)]
    exact qs_use (zs := [k]) ofx4n_c hL hm (qs_in (show -2147483648 ≤ k ∧ k ≤ -1 by omega) (qs_fin rfl)) (Nat.le_refl _) rfl rfl (qs_c (fun N hN hc hM => ⟨rfl, hN, hM⟩) qs_z)
  by_cases q2 : 6 ≤ k
  · rw [if_neg (by omega)]
    exact qs_use (zs := [k, M 9 4]) ofx4h_c hL hm (qs_in (show 6 ≤ k ∧ k ≤ 2147483647 by omega) (qs_rd (show (0 : Int) ≤ 4 by decide) rfl (cx_fld (c := 9) (k := 4) (lo := 0) (hi := 6) hm (by decide +kernel)) (qs_fin rfl))) (Nat.le_refl _) rfl rfl (qs_c (fun N hN hc hM => ⟨rfl, hN, hM⟩) qs_z)
  obtain ⟨n, rfl⟩ := Int.eq_ofNat_of_zero_le (show 0 ≤ k by omega)
  rw [Int.toNat_natCast]
  refine qs_use (zs := [(n : Int), M 9 4, M 10 (120 + n)]) ofx4i_c hL hm (qs_in (show 0 ≤ (n : Int) ∧ (n : Int) ≤ 5 by omega) (qs_rd (show (0 : Int) ≤ 4 by decide) rfl (cx_fld (c := 9) (k := 4) (lo := 0) (hi := 6) hm (by decide +kernel)) (qs_rd (show 0 ≤ (n : Int) + 120 by omega) (by show M 10 ((n : Int) + 120).toNat = M 10 (120 + n); rw [show ((n : Int) + 120).toNat = 120 + n by omega]) (cx_m10 hm (k := 120 + n) (by omega)) (qs_fin rfl)))) (Nat.le_refl _) rfl rfl (qs_c (fun N hN hc hM => ?_) (qs_c (fun N hN hc hM => ?_) qs_z))
  · obtain ⟨c0, c1, -⟩ := hc
    have e : (n : Int) < M 9 4 := c1
    rw [if_pos (by omega)]
    exact ⟨rfl, hN, hM⟩
  · obtain ⟨c0, c1, -⟩ := hc
    have e : ¬ (n : Int) < M 9 4 := c1
    rw [if_neg (by omega)]
    exact ⟨rfl, hN, hM⟩
theorem ofx_5 (hL : L < 2 ^ 31) (hm : sx_mok cl_ly M) (wk : -2147483648 ≤ k ∧ k ≤ 2147483647) : rz_fin (ed_Q M (if 0 ≤ k ∧ k < 30 then (fun n : Nat => M 10 (150 + n)) k.toNat else -2000000000)) L xs 27 5 0 [(0, .ref 8), (1, .int (Int32.ofInt k)), (2, .int (Int32.ofInt 5))] [] M := by
  by_cases q1 : k < 0
  · rw [if_neg (by omega)]
    exact qs_use (zs := [k]) ofx5n_c hL hm (qs_in (show -2147483648 ≤ k ∧ k ≤ -1 by omega) (qs_fin rfl)) (Nat.le_refl _) rfl rfl (qs_c (fun N hN hc hM => ⟨rfl, hN, hM⟩) qs_z)
  by_cases q2 : 30 ≤ k
  · rw [if_neg (by omega)]
    exact qs_use (zs := [k]) ofx5h_c hL hm (qs_in (show 30 ≤ k ∧ k ≤ 2147483647 by omega) (qs_fin rfl)) (Nat.le_refl _) rfl rfl (qs_c (fun N hN hc hM => ⟨rfl, hN, hM⟩) qs_z)
  obtain ⟨n, rfl⟩ := Int.eq_ofNat_of_zero_le (show 0 ≤ k by omega)
  rw [Int.toNat_natCast]
  refine qs_use (zs := [(n : Int), M 10 (150 + n)]) ofx5i_c hL hm (qs_in (show 0 ≤ (n : Int) ∧ (n : Int) ≤ 29 by omega) (qs_rd (show 0 ≤ (n : Int) + 150 by omega) (by show M 10 ((n : Int) + 150).toNat = M 10 (150 + n); rw [show ((n : Int) + 150).toNat = 150 + n by omega]) (cx_m10 hm (k := 150 + n) (by omega)) (qs_fin rfl))) (Nat.le_refl _) rfl rfl (qs_c (fun N hN hc hM => ?_) qs_z)
  · rw [if_pos (by omega)]
    exact ⟨rfl, hN, hM⟩
theorem ofx_6 (hL : L < 2 ^ 31) (hm : sx_mok cl_ly M) (wk : -2147483648 ≤ k ∧ k ≤ 2147483647) : rz_fin (ed_Q M (if 0 ≤ k ∧ k < M 9 5 then (fun n : Nat => M 10 (180 + n)) k.toNat else -2000000000)) L xs 27 5 0 [(0, .ref 8), (1, .int (Int32.ofInt k)), (2, .int (Int32.ofInt 6))] [] M := by
  have hB := cx_fld (c := 9) (k := 5) (lo := 0) (hi := 12) hm (by decide +kernel)
  by_cases q1 : k < 0
  · rw [if_neg (by omega)]
    exact qs_use (zs := [k]) ofx6n_c hL hm (qs_in (show -2147483648 ≤ k ∧ k ≤ -1 by omega) (qs_fin rfl)) (Nat.le_refl _) rfl rfl (qs_c (fun N hN hc hM => ⟨rfl, hN, hM⟩) qs_z)
  by_cases q2 : 12 ≤ k
  · rw [if_neg (by omega)]
    exact qs_use (zs := [k, M 9 5]) ofx6h_c hL hm (qs_in (show 12 ≤ k ∧ k ≤ 2147483647 by omega) (qs_rd (show (0 : Int) ≤ 5 by decide) rfl (cx_fld (c := 9) (k := 5) (lo := 0) (hi := 12) hm (by decide +kernel)) (qs_fin rfl))) (Nat.le_refl _) rfl rfl (qs_c (fun N hN hc hM => ⟨rfl, hN, hM⟩) qs_z)
  obtain ⟨n, rfl⟩ := Int.eq_ofNat_of_zero_le (show 0 ≤ k by omega)
  rw [Int.toNat_natCast]
  refine qs_use (zs := [(n : Int), M 9 5, M 10 (180 + n)]) ofx6i_c hL hm (qs_in (show 0 ≤ (n : Int) ∧ (n : Int) ≤ 11 by omega) (qs_rd (show (0 : Int) ≤ 5 by decide) rfl (cx_fld (c := 9) (k := 5) (lo := 0) (hi := 12) hm (by decide +kernel)) (qs_rd (show 0 ≤ (n : Int) + 180 by omega) (by show M 10 ((n : Int) + 180).toNat = M 10 (180 + n); rw [show ((n : Int) + 180).toNat = 180 + n by omega]) (cx_m10 hm (k := 180 + n) (by omega)) (qs_fin rfl)))) (Nat.le_refl _) rfl rfl (qs_c (fun N hN hc hM => ?_) (qs_c (fun N hN hc hM => ?_) qs_z))
  · obtain ⟨c0, c1, -⟩ := hc
    have e : (n : Int) < M 9 5 := c1
    rw [if_pos (by omega)]
    exact ⟨rfl, hN, hM⟩
  · obtain ⟨c0, c1, -⟩ := hc
    have e : ¬ (n : Int) < M 9 5 := c1
    rw [if_neg (by omega)]
    exact ⟨rfl, hN, hM⟩
theorem ofx_7 (hL : L < 2 ^ 31) (hm : sx_mok cl_ly M) (h29 : 0 ≤ M 10 210 ∧ M 10 210 ≤ 29) (wk : -2147483648 ≤ k ∧ k ≤ 2147483647) : rz_fin (ed_Q M (if 0 ≤ k ∧ k < 1 then (fun n : Nat => M 10 210) k.toNat else -2000000000)) L xs 27 5 0 [(0, .ref 8), (1, .int (Int32.ofInt k)), (2, .int (Int32.ofInt 7))] [] M := by
  by_cases q1 : k < 0
  · rw [if_neg (by omega)]
    exact qs_use (zs := [k]) ofx7n_c hL hm (qs_in (show -2147483648 ≤ k ∧ k ≤ -1 by omega) (qs_fin rfl)) (Nat.le_refl _) rfl rfl (qs_c (fun N hN hc hM => ⟨rfl, hN, hM⟩) qs_z)
  by_cases q2 : 1 ≤ k
  · rw [if_neg (by omega)]
    exact qs_use (zs := [k]) ofx7h_c hL hm (qs_in (show 1 ≤ k ∧ k ≤ 2147483647 by omega) (qs_fin rfl)) (Nat.le_refl _) rfl rfl (qs_c (fun N hN hc hM => ⟨rfl, hN, hM⟩) qs_z)
  obtain ⟨n, rfl⟩ := Int.eq_ofNat_of_zero_le (show 0 ≤ k by omega)
  rw [Int.toNat_natCast]
  refine qs_use (zs := [(n : Int), M 10 210]) ofx7i_c hL hm (qs_in (show 0 ≤ (n : Int) ∧ (n : Int) ≤ 0 by omega) (qs_rd (show (0 : Int) ≤ 210 by decide) rfl (show sx_w (-1, 143) (M 10 210) from ⟨by show (-1 : Int) ≤ _; omega, by show _ ≤ (143 : Int); omega⟩) (qs_fin rfl))) (Nat.le_refl _) rfl rfl (qs_c (fun N hN hc hM => ?_) qs_z)
  · rw [if_pos (by omega)]
    exact ⟨rfl, hN, hM⟩
theorem ofx_8 (hL : L < 2 ^ 31) (hm : sx_mok cl_ly M) (wk : -2147483648 ≤ k ∧ k ≤ 2147483647) : rz_fin (ed_Q M (if 0 ≤ k ∧ k < M 9 4 then (fun n : Nat => vq_bt (M 9 6) (n : Int)) k.toNat else -2000000000)) L xs 27 5 0 [(0, .ref 8), (1, .int (Int32.ofInt k)), (2, .int (Int32.ofInt 8))] [] M := by
  have hB := cx_fld (c := 9) (k := 4) (lo := 0) (hi := 6) hm (by decide +kernel)
  by_cases q1 : k < 0
  · rw [if_neg (by omega)]
    exact qs_use (zs := [k]) ofx8n_c hL hm (qs_in (show -2147483648 ≤ k ∧ k ≤ -1 by omega) (qs_fin rfl)) (Nat.le_refl _) rfl rfl (qs_c (fun N hN hc hM => ⟨rfl, hN, hM⟩) qs_z)
  by_cases q2 : 6 ≤ k
  · rw [if_neg (by omega)]
    exact qs_use (zs := [k, M 9 4]) ofx8h_c hL hm (qs_in (show 6 ≤ k ∧ k ≤ 2147483647 by omega) (qs_rd (show (0 : Int) ≤ 4 by decide) rfl (cx_fld (c := 9) (k := 4) (lo := 0) (hi := 6) hm (by decide +kernel)) (qs_fin rfl))) (Nat.le_refl _) rfl rfl (qs_c (fun N hN hc hM => ⟨rfl, hN, hM⟩) qs_z)
  obtain ⟨n, rfl⟩ := Int.eq_ofNat_of_zero_le (show 0 ≤ k by omega)
  rw [Int.toNat_natCast]
  refine qs_use (zs := [(n : Int), M 9 4, M 9 6]) ofx8i_c hL hm (qs_in (show 0 ≤ (n : Int) ∧ (n : Int) ≤ 5 by omega) (qs_rd (show (0 : Int) ≤ 4 by decide) rfl (cx_fld (c := 9) (k := 4) (lo := 0) (hi := 6) hm (by decide +kernel)) (qs_rd (show (0 : Int) ≤ 6 by decide) rfl (cv_ly_ok (g := (9, 6, sx_r32)) hm (by decide +kernel)) (qs_fin rfl)))) (Nat.le_refl _) rfl rfl (qs_c (fun u1 u2 N hN hc hM => ?_) (qs_c (fun u1 u2 N hN hc hM => ?_) qs_z))
  · obtain ⟨c0, c1, c2, c3, -⟩ := hc
    have e : (n : Int) < M 9 4 := c1
    rw [if_pos (by omega)]
    have e1 : u1 = sx_mf 10 (M 9 6) (n : Int) := c2
    have e2 : u2 = sx_mf 3 u1 1 := c3
    have e3 : u2 = vq_bt (M 9 6) (n : Int) := by rw [e2, e1]; rfl
    show ed_Q M (vq_bt (M 9 6) (n : Int)) _ N
    rw [← e3]
    exact ⟨rfl, hN, hM⟩
  · obtain ⟨c0, c1, -⟩ := hc
    have e : ¬ (n : Int) < M 9 4 := c1
    rw [if_neg (by omega)]
    exact ⟨rfl, hN, hM⟩
theorem ofx_9 (hL : L < 2 ^ 31) (hm : sx_mok cl_ly M) (wk : -2147483648 ≤ k ∧ k ≤ 2147483647) : rz_fin (ed_Q M (if 0 ≤ k ∧ k < M 9 5 then (fun n : Nat => M 11 n) k.toNat else -2000000000)) L xs 27 5 0 [(0, .ref 8), (1, .int (Int32.ofInt k)), (2, .int (Int32.ofInt 9))] [] M := by
  have hB := cx_fld (c := 9) (k := 5) (lo := 0) (hi := 12) hm (by decide +kernel)
  by_cases q1 : k < 0
  · rw [if_neg (by omega)]
    exact qs_use (zs := [k]) ofx9n_c hL hm (qs_in (show -2147483648 ≤ k ∧ k ≤ -1 by omega) (qs_fin rfl)) (Nat.le_refl _) rfl rfl (qs_c (fun N hN hc hM => ⟨rfl, hN, hM⟩) qs_z)
  by_cases q2 : 12 ≤ k
  · rw [if_neg (by omega)]
    exact qs_use (zs := [k, M 9 5]) ofx9h_c hL hm (qs_in (show 12 ≤ k ∧ k ≤ 2147483647 by omega) (qs_rd (show (0 : Int) ≤ 5 by decide) rfl (cx_fld (c := 9) (k := 5) (lo := 0) (hi := 12) hm (by decide +kernel)) (qs_fin rfl))) (Nat.le_refl _) rfl rfl (qs_c (fun N hN hc hM => ⟨rfl, hN, hM⟩) qs_z)
  obtain ⟨n, rfl⟩ := Int.eq_ofNat_of_zero_le (show 0 ≤ k by omega)
  rw [Int.toNat_natCast]
  refine qs_use (zs := [(n : Int), M 9 5, M 11 n]) ofx9i_c hL hm (qs_in (show 0 ≤ (n : Int) ∧ (n : Int) ≤ 11 by omega) (qs_rd (show (0 : Int) ≤ 5 by decide) rfl (cx_fld (c := 9) (k := 5) (lo := 0) (hi := 12) hm (by decide +kernel)) (qs_rd (show 0 ≤ (n : Int) by omega) rfl (hm 11 _ n _ rfl (by show n < 12; omega) rfl) (qs_fin rfl)))) (Nat.le_refl _) rfl rfl (qs_c (fun N hN hc hM => ?_) (qs_c (fun N hN hc hM => ?_) qs_z))
  · obtain ⟨c0, c1, -⟩ := hc
    have e : (n : Int) < M 9 5 := c1
    rw [if_pos (by omega)]
    exact ⟨rfl, hN, hM⟩
  · obtain ⟨c0, c1, -⟩ := hc
    have e : ¬ (n : Int) < M 9 5 := c1
    rw [if_neg (by omega)]
    exact ⟨rfl, hN, hM⟩
theorem ofx_10 (hL : L < 2 ^ 31) (hm : sx_mok cl_ly M) (wk : -2147483648 ≤ k ∧ k ≤ 2147483647) : rz_fin (ed_Q M (if 0 ≤ k ∧ k < M 9 5 then (fun n : Nat => vq_bt (M 9 7) (n : Int)) k.toNat else -2000000000)) L xs 27 5 0 [(0, .ref 8), (1, .int (Int32.ofInt k)), (2, .int (Int32.ofInt 10))] [] M := by
  have hB := cx_fld (c := 9) (k := 5) (lo := 0) (hi := 12) hm (by decide +kernel)
  by_cases q1 : k < 0
  · rw [if_neg (by omega)]
    exact qs_use (zs := [k]) ofx10n_c hL hm (qs_in (show -2147483648 ≤ k ∧ k ≤ -1 by omega) (qs_fin rfl)) (Nat.le_refl _) rfl rfl (qs_c (fun N hN hc hM => ⟨rfl, hN, hM⟩) qs_z)
  by_cases q2 : 12 ≤ k
  · rw [if_neg (by omega)]
    exact qs_use (zs := [k, M 9 5]) ofx10h_c hL hm (qs_in (show 12 ≤ k ∧ k ≤ 2147483647 by omega) (qs_rd (show (0 : Int) ≤ 5 by decide) rfl (cx_fld (c := 9) (k := 5) (lo := 0) (hi := 12) hm (by decide +kernel)) (qs_fin rfl))) (Nat.le_refl _) rfl rfl (qs_c (fun N hN hc hM => ⟨rfl, hN, hM⟩) qs_z)
  obtain ⟨n, rfl⟩ := Int.eq_ofNat_of_zero_le (show 0 ≤ k by omega)
  rw [Int.toNat_natCast]
  refine qs_use (zs := [(n : Int), M 9 5, M 9 7]) ofx10i_c hL hm (qs_in (show 0 ≤ (n : Int) ∧ (n : Int) ≤ 11 by omega) (qs_rd (show (0 : Int) ≤ 5 by decide) rfl (cx_fld (c := 9) (k := 5) (lo := 0) (hi := 12) hm (by decide +kernel)) (qs_rd (show (0 : Int) ≤ 7 by decide) rfl (cv_ly_ok (g := (9, 7, sx_r32)) hm (by decide +kernel)) (qs_fin rfl)))) (Nat.le_refl _) rfl rfl (qs_c (fun u1 u2 N hN hc hM => ?_) (qs_c (fun u1 u2 N hN hc hM => ?_) qs_z))
  · obtain ⟨c0, c1, c2, c3, -⟩ := hc
    have e : (n : Int) < M 9 5 := c1
    rw [if_pos (by omega)]
    have e1 : u1 = sx_mf 10 (M 9 7) (n : Int) := c2
    have e2 : u2 = sx_mf 3 u1 1 := c3
    have e3 : u2 = vq_bt (M 9 7) (n : Int) := by rw [e2, e1]; rfl
    show ed_Q M (vq_bt (M 9 7) (n : Int)) _ N
    rw [← e3]
    exact ⟨rfl, hN, hM⟩
  · obtain ⟨c0, c1, -⟩ := hc
    have e : ¬ (n : Int) < M 9 5 := c1
    rw [if_neg (by omega)]
    exact ⟨rfl, hN, hM⟩
theorem ofx_hx (hL : L < 2 ^ 31) (hm : sx_mok cl_ly M) (wk : -2147483648 ≤ k ∧ k ≤ 2147483647) (h1 : 11 ≤ w) (h2 : w ≤ 2147483647) : rz_fin (ed_Q M (-2000000000)) L xs 27 5 0 [(0, .ref 8), (1, .int (Int32.ofInt k)), (2, .int (Int32.ofInt w))] [] M := qs_use (zs := [k, w]) ofx_h_c hL hm (qs_in wk (qs_in ⟨h1, h2⟩ (qs_fin rfl))) (Nat.le_refl _) rfl rfl (qs_c (fun N hN hc hM => ⟨rfl, hN, hM⟩) qs_z)
theorem ofx_nx (hL : L < 2 ^ 31) (hm : sx_mok cl_ly M) (wk : -2147483648 ≤ k ∧ k ≤ 2147483647) (h1 : -2147483648 ≤ w) (h2 : w ≤ -1) : rz_fin (ed_Q M (-2000000000)) L xs 27 5 0 [(0, .ref 8), (1, .int (Int32.ofInt k)), (2, .int (Int32.ofInt w))] [] M := qs_use (zs := [k, w]) ofx_n_c hL hm (qs_in wk (qs_in ⟨h1, h2⟩ (qs_fin rfl))) (Nat.le_refl _) rfl rfl (qs_c (fun N hN hc hM => ⟨rfl, hN, hM⟩) qs_z)
theorem ofm_0 (hL : L < 2 ^ 31) (hm : sx_mok cl_ly M) (wk : -2147483648 ≤ k ∧ k ≤ 2147483647) : rz_fin (ed_Q M (if 0 ≤ k ∧ k < M 53 1 then (fun n : Nat => M 54 n) k.toNat else -2000000000)) L xs 170 5 0 [(0, .ref 53), (1, .int (Int32.ofInt k)), (2, .int (Int32.ofInt 0))] [] M := by
  have hB := cx_fld (c := 53) (k := 1) (lo := 0) (hi := 6) hm (by decide +kernel)
  by_cases q1 : k < 0
  · rw [if_neg (by omega)]
    exact qs_use (zs := [k, M 53 1]) ofm0n_c hL hm (qs_in (show -2147483648 ≤ k ∧ k ≤ -1 by omega) (qs_rd (show (0 : Int) ≤ 1 by decide) rfl (cx_fld (c := 53) (k := 1) (lo := 0) (hi := 6) hm (by decide +kernel)) (qs_fin rfl))) (Nat.le_refl _) rfl rfl (qs_c (fun N hN hc hM => ⟨rfl, hN, hM⟩) qs_z)
  by_cases q2 : 6 ≤ k
  · rw [if_neg (by omega)]
    exact qs_use (zs := [k, M 53 1]) ofm0h_c hL hm (qs_in (show 6 ≤ k ∧ k ≤ 2147483647 by omega) (qs_rd (show (0 : Int) ≤ 1 by decide) rfl (cx_fld (c := 53) (k := 1) (lo := 0) (hi := 6) hm (by decide +kernel)) (qs_fin rfl))) (Nat.le_refl _) rfl rfl (qs_c (fun N hN hc hM => ⟨rfl, hN, hM⟩) qs_z)
  obtain ⟨n, rfl⟩ := Int.eq_ofNat_of_zero_le (show 0 ≤ k by omega)
  rw [Int.toNat_natCast]
  refine qs_use (zs := [(n : Int), M 53 1, M 54 n]) ofm0i_c hL hm (qs_in (show 0 ≤ (n : Int) ∧ (n : Int) ≤ 5 by omega) (qs_rd (show (0 : Int) ≤ 1 by decide) rfl (cx_fld (c := 53) (k := 1) (lo := 0) (hi := 6) hm (by decide +kernel)) (qs_rd (show 0 ≤ (n : Int) by omega) rfl (hm 54 _ n _ rfl (by show n < 6; omega) rfl) (qs_fin rfl)))) (Nat.le_refl _) rfl rfl (qs_c (fun N hN hc hM => ?_) (qs_c (fun N hN hc hM => ?_) qs_z))
  · obtain ⟨c0, c1, -⟩ := hc
    have e : M 53 1 < (n : Int) + 1 := c1
    rw [if_neg (by omega)]
    exact ⟨rfl, hN, hM⟩
  · obtain ⟨c0, c1, -⟩ := hc
    have e : ¬ M 53 1 < (n : Int) + 1 := c1
    rw [if_pos (by omega)]
    exact ⟨rfl, hN, hM⟩
theorem ofm_1 (hL : L < 2 ^ 31) (hm : sx_mok cl_ly M) (wk : -2147483648 ≤ k ∧ k ≤ 2147483647) : rz_fin (ed_Q M (if 0 ≤ k ∧ k < M 53 1 then (fun n : Nat => M 55 n) k.toNat else -2000000000)) L xs 170 5 0 [(0, .ref 53), (1, .int (Int32.ofInt k)), (2, .int (Int32.ofInt 1))] [] M := by
  have hB := cx_fld (c := 53) (k := 1) (lo := 0) (hi := 6) hm (by decide +kernel)
  by_cases q1 : k < 0
  · rw [if_neg (by omega)]
    exact qs_use (zs := [k, M 53 1]) ofm1n_c hL hm (qs_in (show -2147483648 ≤ k ∧ k ≤ -1 by omega) (qs_rd (show (0 : Int) ≤ 1 by decide) rfl (cx_fld (c := 53) (k := 1) (lo := 0) (hi := 6) hm (by decide +kernel)) (qs_fin rfl))) (Nat.le_refl _) rfl rfl (qs_c (fun N hN hc hM => ⟨rfl, hN, hM⟩) qs_z)
  by_cases q2 : 6 ≤ k
  · rw [if_neg (by omega)]
    exact qs_use (zs := [k, M 53 1]) ofm1h_c hL hm (qs_in (show 6 ≤ k ∧ k ≤ 2147483647 by omega) (qs_rd (show (0 : Int) ≤ 1 by decide) rfl (cx_fld (c := 53) (k := 1) (lo := 0) (hi := 6) hm (by decide +kernel)) (qs_fin rfl))) (Nat.le_refl _) rfl rfl (qs_c (fun N hN hc hM => ⟨rfl, hN, hM⟩) qs_z)
  obtain ⟨n, rfl⟩ := Int.eq_ofNat_of_zero_le (show 0 ≤ k by omega)
  rw [Int.toNat_natCast]
  refine qs_use (zs := [(n : Int), M 53 1, M 55 n]) ofm1i_c hL hm (qs_in (show 0 ≤ (n : Int) ∧ (n : Int) ≤ 5 by omega) (qs_rd (show (0 : Int) ≤ 1 by decide) rfl (cx_fld (c := 53) (k := 1) (lo := 0) (hi := 6) hm (by decide +kernel)) (qs_rd (show 0 ≤ (n : Int) by omega) rfl (hm 55 _ n _ rfl (by show n < 6; omega) rfl) (qs_fin rfl)))) (Nat.le_refl _) rfl rfl (qs_c (fun N hN hc hM => ?_) (qs_c (fun N hN hc hM => ?_) qs_z))
  · obtain ⟨c0, c1, -⟩ := hc
    have e : M 53 1 < (n : Int) + 1 := c1
    rw [if_neg (by omega)]
    exact ⟨rfl, hN, hM⟩
  · obtain ⟨c0, c1, -⟩ := hc
    have e : ¬ M 53 1 < (n : Int) + 1 := c1
    rw [if_pos (by omega)]
    exact ⟨rfl, hN, hM⟩
theorem ofm_2 (hL : L < 2 ^ 31) (hm : sx_mok cl_ly M) (wk : -2147483648 ≤ k ∧ k ≤ 2147483647) : rz_fin (ed_Q M (if 0 ≤ k ∧ k < M 53 1 then (fun n : Nat => M 56 n) k.toNat else -2000000000)) L xs 170 5 0 [(0, .ref 53), (1, .int (Int32.ofInt k)), (2, .int (Int32.ofInt 2))] [] M := by
  have hB := cx_fld (c := 53) (k := 1) (lo := 0) (hi := 6) hm (by decide +kernel)
  by_cases q1 : k < 0
  · rw [if_neg (by omega)]
    exact qs_use (zs := [k, M 53 1]) ofm2n_c hL hm (qs_in (show -2147483648 ≤ k ∧ k ≤ -1 by omega) (qs_rd (show (0 : Int) ≤ 1 by decide) rfl (cx_fld (c := 53) (k := 1) (lo := 0) (hi := 6) hm (by decide +kernel)) (qs_fin rfl))) (Nat.le_refl _) rfl rfl (qs_c (fun N hN hc hM => ⟨rfl, hN, hM⟩) qs_z)
  by_cases q2 : 6 ≤ k
  · rw [if_neg (by omega)]
    exact qs_use (zs := [k, M 53 1]) ofm2h_c hL hm (qs_in (show 6 ≤ k ∧ k ≤ 2147483647 by omega) (qs_rd (show (0 : Int) ≤ 1 by decide) rfl (cx_fld (c := 53) (k := 1) (lo := 0) (hi := 6) hm (by decide +kernel)) (qs_fin rfl))) (Nat.le_refl _) rfl rfl (qs_c (fun N hN hc hM => ⟨rfl, hN, hM⟩) qs_z)
  obtain ⟨n, rfl⟩ := Int.eq_ofNat_of_zero_le (show 0 ≤ k by omega)
  rw [Int.toNat_natCast]
  refine qs_use (zs := [(n : Int), M 53 1, M 56 n]) ofm2i_c hL hm (qs_in (show 0 ≤ (n : Int) ∧ (n : Int) ≤ 5 by omega) (qs_rd (show (0 : Int) ≤ 1 by decide) rfl (cx_fld (c := 53) (k := 1) (lo := 0) (hi := 6) hm (by decide +kernel)) (qs_rd (show 0 ≤ (n : Int) by omega) rfl (hm 56 _ n _ rfl (by show n < 6; omega) rfl) (qs_fin rfl)))) (Nat.le_refl _) rfl rfl (qs_c (fun N hN hc hM => ?_) (qs_c (fun N hN hc hM => ?_) qs_z))
  · obtain ⟨c0, c1, -⟩ := hc
    have e : M 53 1 < (n : Int) + 1 := c1
    rw [if_neg (by omega)]
    exact ⟨rfl, hN, hM⟩
  · obtain ⟨c0, c1, -⟩ := hc
    have e : ¬ M 53 1 < (n : Int) + 1 := c1
    rw [if_pos (by omega)]
    exact ⟨rfl, hN, hM⟩
theorem ofm_3 (hL : L < 2 ^ 31) (hm : sx_mok cl_ly M) (wk : -2147483648 ≤ k ∧ k ≤ 2147483647) : rz_fin (ed_Q M (if 0 ≤ k ∧ k < M 53 1 then (fun n : Nat => M 57 n) k.toNat else -2000000000)) L xs 170 5 0 [(0, .ref 53), (1, .int (Int32.ofInt k)), (2, .int (Int32.ofInt 3))] [] M := by
  have hB := cx_fld (c := 53) (k := 1) (lo := 0) (hi := 6) hm (by decide +kernel)
  by_cases q1 : k < 0
  · rw [if_neg (by omega)]
    exact qs_use (zs := [k, M 53 1]) ofm3n_c hL hm (qs_in (show -2147483648 ≤ k ∧ k ≤ -1 by omega) (qs_rd (show (0 : Int) ≤ 1 by decide) rfl (cx_fld (c := 53) (k := 1) (lo := 0) (hi := 6) hm (by decide +kernel)) (qs_fin rfl))) (Nat.le_refl _) rfl rfl (qs_c (fun N hN hc hM => ⟨rfl, hN, hM⟩) qs_z)
  by_cases q2 : 6 ≤ k
  · rw [if_neg (by omega)]
    exact qs_use (zs := [k, M 53 1]) ofm3h_c hL hm (qs_in (show 6 ≤ k ∧ k ≤ 2147483647 by omega) (qs_rd (show (0 : Int) ≤ 1 by decide) rfl (cx_fld (c := 53) (k := 1) (lo := 0) (hi := 6) hm (by decide +kernel)) (qs_fin rfl))) (Nat.le_refl _) rfl rfl (qs_c (fun N hN hc hM => ⟨rfl, hN, hM⟩) qs_z)
  obtain ⟨n, rfl⟩ := Int.eq_ofNat_of_zero_le (show 0 ≤ k by omega)
  rw [Int.toNat_natCast]
  refine qs_use (zs := [(n : Int), M 53 1, M 57 n]) ofm3i_c hL hm (qs_in (show 0 ≤ (n : Int) ∧ (n : Int) ≤ 5 by omega) (qs_rd (show (0 : Int) ≤ 1 by decide) rfl (cx_fld (c := 53) (k := 1) (lo := 0) (hi := 6) hm (by decide +kernel)) (qs_rd (show 0 ≤ (n : Int) by omega) rfl (hm 57 _ n _ rfl (by show n < 6; omega) rfl) (qs_fin rfl)))) (Nat.le_refl _) rfl rfl (qs_c (fun N hN hc hM => ?_) (qs_c (fun N hN hc hM => ?_) qs_z))
  · obtain ⟨c0, c1, -⟩ := hc
    have e : M 53 1 < (n : Int) + 1 := c1
    rw [if_neg (by omega)]
    exact ⟨rfl, hN, hM⟩
  · obtain ⟨c0, c1, -⟩ := hc
    have e : ¬ M 53 1 < (n : Int) + 1 := c1
    rw [if_pos (by omega)]
    exact ⟨rfl, hN, hM⟩
theorem ofm_4 (hL : L < 2 ^ 31) (hm : sx_mok cl_ly M) (wk : -2147483648 ≤ k ∧ k ≤ 2147483647) : rz_fin (ed_Q M (if 0 ≤ k ∧ k < M 53 1 then (fun n : Nat => M 58 n) k.toNat else -2000000000)) L xs 170 5 0 [(0, .ref 53), (1, .int (Int32.ofInt k)), (2, .int (Int32.ofInt 4))] [] M := by
  have hB := cx_fld (c := 53) (k := 1) (lo := 0) (hi := 6) hm (by decide +kernel)
  by_cases q1 : k < 0
  · rw [if_neg (by omega)]
    exact qs_use (zs := [k, M 53 1]) ofm4n_c hL hm (qs_in (show -2147483648 ≤ k ∧ k ≤ -1 by omega) (qs_rd (show (0 : Int) ≤ 1 by decide) rfl (cx_fld (c := 53) (k := 1) (lo := 0) (hi := 6) hm (by decide +kernel)) (qs_fin rfl))) (Nat.le_refl _) rfl rfl (qs_c (fun N hN hc hM => ⟨rfl, hN, hM⟩) qs_z)
  by_cases q2 : 6 ≤ k
  · rw [if_neg (by omega)]
    exact qs_use (zs := [k, M 53 1]) ofm4h_c hL hm (qs_in (show 6 ≤ k ∧ k ≤ 2147483647 by omega) (qs_rd (show (0 : Int) ≤ 1 by decide) rfl (cx_fld (c := 53) (k := 1) (lo := 0) (hi := 6) hm (by decide +kernel)) (qs_fin rfl))) (Nat.le_refl _) rfl rfl (qs_c (fun N hN hc hM => ⟨rfl, hN, hM⟩) qs_z)
  obtain ⟨n, rfl⟩ := Int.eq_ofNat_of_zero_le (show 0 ≤ k by omega)
  rw [Int.toNat_natCast]
  refine qs_use (zs := [(n : Int), M 53 1, M 58 n]) ofm4i_c hL hm (qs_in (show 0 ≤ (n : Int) ∧ (n : Int) ≤ 5 by omega) (qs_rd (show (0 : Int) ≤ 1 by decide) rfl (cx_fld (c := 53) (k := 1) (lo := 0) (hi := 6) hm (by decide +kernel)) (qs_rd (show 0 ≤ (n : Int) by omega) rfl (hm 58 _ n _ rfl (by show n < 6; omega) rfl) (qs_fin rfl)))) (Nat.le_refl _) rfl rfl (qs_c (fun N hN hc hM => ?_) (qs_c (fun N hN hc hM => ?_) qs_z))
  · obtain ⟨c0, c1, -⟩ := hc
    have e : M 53 1 < (n : Int) + 1 := c1
    rw [if_neg (by omega)]
    exact ⟨rfl, hN, hM⟩
  · obtain ⟨c0, c1, -⟩ := hc
    have e : ¬ M 53 1 < (n : Int) + 1 := c1
    rw [if_pos (by omega)]
    exact ⟨rfl, hN, hM⟩
theorem ofm_5 (hL : L < 2 ^ 31) (hm : sx_mok cl_ly M) (wk : -2147483648 ≤ k ∧ k ≤ 2147483647) : rz_fin (ed_Q M (if 0 ≤ k ∧ k < 30 then (fun n : Nat => M 61 n) k.toNat else -2000000000)) L xs 170 5 0 [(0, .ref 53), (1, .int (Int32.ofInt k)), (2, .int (Int32.ofInt 5))] [] M := by
  by_cases q1 : k < 0
  · rw [if_neg (by omega)]
    exact qs_use (zs := [k]) ofm5n_c hL hm (qs_in (show -2147483648 ≤ k ∧ k ≤ -1 by omega) (qs_fin rfl)) (Nat.le_refl _) rfl rfl (qs_c (fun N hN hc hM => ⟨rfl, hN, hM⟩) qs_z)
  by_cases q2 : 30 ≤ k
  · rw [if_neg (by omega)]
    exact qs_use (zs := [k]) ofm5h_c hL hm (qs_in (show 30 ≤ k ∧ k ≤ 2147483647 by omega) (qs_fin rfl)) (Nat.le_refl _) rfl rfl (qs_c (fun N hN hc hM => ⟨rfl, hN, hM⟩) qs_z)
  obtain ⟨n, rfl⟩ := Int.eq_ofNat_of_zero_le (show 0 ≤ k by omega)
  rw [Int.toNat_natCast]
  refine qs_use (zs := [(n : Int), M 61 n]) ofm5i_c hL hm (qs_in (show 0 ≤ (n : Int) ∧ (n : Int) ≤ 29 by omega) (qs_rd (show 0 ≤ (n : Int) by omega) rfl (hm 61 _ n _ rfl (by show n < 30; omega) rfl) (qs_fin rfl))) (Nat.le_refl _) rfl rfl (qs_c (fun N hN hc hM => ?_) qs_z)
  · rw [if_pos (by omega)]
    exact ⟨rfl, hN, hM⟩
theorem ofm_6 (hL : L < 2 ^ 31) (hm : sx_mok cl_ly M) (wk : -2147483648 ≤ k ∧ k ≤ 2147483647) : rz_fin (ed_Q M (if 0 ≤ k ∧ k < M 53 8 then (fun n : Nat => M 60 n) k.toNat else -2000000000)) L xs 170 5 0 [(0, .ref 53), (1, .int (Int32.ofInt k)), (2, .int (Int32.ofInt 6))] [] M := by
  have hB := cx_fld (c := 53) (k := 8) (lo := 0) (hi := 12) hm (by decide +kernel)
  by_cases q1 : k < 0
  · rw [if_neg (by omega)]
    exact qs_use (zs := [k, M 53 8]) ofm6n_c hL hm (qs_in (show -2147483648 ≤ k ∧ k ≤ -1 by omega) (qs_rd (show (0 : Int) ≤ 8 by decide) rfl (cx_fld (c := 53) (k := 8) (lo := 0) (hi := 12) hm (by decide +kernel)) (qs_fin rfl))) (Nat.le_refl _) rfl rfl (qs_c (fun N hN hc hM => ⟨rfl, hN, hM⟩) qs_z)
  by_cases q2 : 12 ≤ k
  · rw [if_neg (by omega)]
    exact qs_use (zs := [k, M 53 8]) ofm6h_c hL hm (qs_in (show 12 ≤ k ∧ k ≤ 2147483647 by omega) (qs_rd (show (0 : Int) ≤ 8 by decide) rfl (cx_fld (c := 53) (k := 8) (lo := 0) (hi := 12) hm (by decide +kernel)) (qs_fin rfl))) (Nat.le_refl _) rfl rfl (qs_c (fun N hN hc hM => ⟨rfl, hN, hM⟩) qs_z)
  obtain ⟨n, rfl⟩ := Int.eq_ofNat_of_zero_le (show 0 ≤ k by omega)
  rw [Int.toNat_natCast]
  refine qs_use (zs := [(n : Int), M 53 8, M 60 n]) ofm6i_c hL hm (qs_in (show 0 ≤ (n : Int) ∧ (n : Int) ≤ 11 by omega) (qs_rd (show (0 : Int) ≤ 8 by decide) rfl (cx_fld (c := 53) (k := 8) (lo := 0) (hi := 12) hm (by decide +kernel)) (qs_rd (show 0 ≤ (n : Int) by omega) rfl (hm 60 _ n _ rfl (by show n < 12; omega) rfl) (qs_fin rfl)))) (Nat.le_refl _) rfl rfl (qs_c (fun N hN hc hM => ?_) (qs_c (fun N hN hc hM => ?_) qs_z))
  · obtain ⟨c0, c1, -⟩ := hc
    have e : M 53 8 < (n : Int) + 1 := c1
    rw [if_neg (by omega)]
    exact ⟨rfl, hN, hM⟩
  · obtain ⟨c0, c1, -⟩ := hc
    have e : ¬ M 53 8 < (n : Int) + 1 := c1
    rw [if_pos (by omega)]
    exact ⟨rfl, hN, hM⟩
theorem ofm_7 (hL : L < 2 ^ 31) (hm : sx_mok cl_ly M) (wk : -2147483648 ≤ k ∧ k ≤ 2147483647) : rz_fin (ed_Q M (if 0 ≤ k ∧ k < 1 then (fun n : Nat => M 53 13) k.toNat else -2000000000)) L xs 170 5 0 [(0, .ref 53), (1, .int (Int32.ofInt k)), (2, .int (Int32.ofInt 7))] [] M := by
  by_cases q1 : k < 0
  · rw [if_neg (by omega)]
    exact qs_use (zs := [k]) ofm7n_c hL hm (qs_in (show -2147483648 ≤ k ∧ k ≤ -1 by omega) (qs_fin rfl)) (Nat.le_refl _) rfl rfl (qs_c (fun N hN hc hM => ⟨rfl, hN, hM⟩) qs_z)
  by_cases q2 : 1 ≤ k
  · rw [if_neg (by omega)]
    exact qs_use (zs := [k]) ofm7h_c hL hm (qs_in (show 1 ≤ k ∧ k ≤ 2147483647 by omega) (qs_fin rfl)) (Nat.le_refl _) rfl rfl (qs_c (fun N hN hc hM => ⟨rfl, hN, hM⟩) qs_z)
  obtain ⟨n, rfl⟩ := Int.eq_ofNat_of_zero_le (show 0 ≤ k by omega)
  rw [Int.toNat_natCast]
  refine qs_use (zs := [(n : Int), M 53 13]) ofm7i_c hL hm (qs_in (show 0 ≤ (n : Int) ∧ (n : Int) ≤ 0 by omega) (qs_rd (show (0 : Int) ≤ 13 by decide) rfl (cx_fld (c := 53) (k := 13) (lo := 0) (hi := 29) hm (by decide +kernel)) (qs_fin rfl))) (Nat.le_refl _) rfl rfl (qs_c (fun N hN hc hM => ?_) qs_z)
  · rw [if_pos (by omega)]
    exact ⟨rfl, hN, hM⟩
theorem ofm_8 (hL : L < 2 ^ 31) (hm : sx_mok cl_ly M) (wk : -2147483648 ≤ k ∧ k ≤ 2147483647) : rz_fin (ed_Q M (if 0 ≤ k ∧ k < M 53 1 then (fun n : Nat => vq_bt (M 53 7) (n : Int)) k.toNat else -2000000000)) L xs 170 5 0 [(0, .ref 53), (1, .int (Int32.ofInt k)), (2, .int (Int32.ofInt 8))] [] M := by
  have hB := cx_fld (c := 53) (k := 1) (lo := 0) (hi := 6) hm (by decide +kernel)
  by_cases q1 : k < 0
  · rw [if_neg (by omega)]
    exact qs_use (zs := [k, M 53 1]) ofm8n_c hL hm (qs_in (show -2147483648 ≤ k ∧ k ≤ -1 by omega) (qs_rd (show (0 : Int) ≤ 1 by decide) rfl (cx_fld (c := 53) (k := 1) (lo := 0) (hi := 6) hm (by decide +kernel)) (qs_fin rfl))) (Nat.le_refl _) rfl rfl (qs_c (fun N hN hc hM => ⟨rfl, hN, hM⟩) qs_z)
  by_cases q2 : 6 ≤ k
  · rw [if_neg (by omega)]
    exact qs_use (zs := [k, M 53 1]) ofm8h_c hL hm (qs_in (show 6 ≤ k ∧ k ≤ 2147483647 by omega) (qs_rd (show (0 : Int) ≤ 1 by decide) rfl (cx_fld (c := 53) (k := 1) (lo := 0) (hi := 6) hm (by decide +kernel)) (qs_fin rfl))) (Nat.le_refl _) rfl rfl (qs_c (fun N hN hc hM => ⟨rfl, hN, hM⟩) qs_z)
  obtain ⟨n, rfl⟩ := Int.eq_ofNat_of_zero_le (show 0 ≤ k by omega)
  rw [Int.toNat_natCast]
  refine qs_use (zs := [(n : Int), M 53 1, M 53 7]) ofm8i_c hL hm (qs_in (show 0 ≤ (n : Int) ∧ (n : Int) ≤ 5 by omega) (qs_rd (show (0 : Int) ≤ 1 by decide) rfl (cx_fld (c := 53) (k := 1) (lo := 0) (hi := 6) hm (by decide +kernel)) (qs_rd (show (0 : Int) ≤ 7 by decide) rfl (cv_ly_ok (g := (53, 7, sx_r32)) hm (by decide +kernel)) (qs_fin rfl)))) (Nat.le_refl _) rfl rfl (qs_c (fun u1 u2 N hN hc hM => ?_) (qs_c (fun u1 u2 N hN hc hM => ?_) (qs_c (fun u1 u2 N hN hc hM => ?_) qs_z)))
  · obtain ⟨c0, c1, -⟩ := hc
    have e : M 53 1 < (n : Int) + 1 := c1
    rw [if_neg (by omega)]
    exact ⟨rfl, hN, hM⟩
  · obtain ⟨c0, c1, c2, c3, c4, -⟩ := hc
    have e : ¬ M 53 1 < (n : Int) + 1 := c2
    rw [if_pos (by omega)]
    have e1 : u1 = sx_mf 9 (M 53 7) (n : Int) := c3
    have e2 : u2 = sx_mf 3 u1 1 := c4
    have e3 : u2 = vq_bt (M 53 7) (n : Int) := by rw [e2, e1]; exact vq_b9 _ (by omega)
    have e4 : 1 ≤ u2 ∧ u2 ≤ 1 := c1
    show ed_Q M (vq_bt (M 53 7) (n : Int)) _ N
    rw [← e3, show u2 = 1 by omega]
    exact ⟨rfl, hN, hM⟩
  · obtain ⟨c0, c1, c2, c3, c4, -⟩ := hc
    have e : ¬ M 53 1 < (n : Int) + 1 := c2
    rw [if_pos (by omega)]
    have e1 : u1 = sx_mf 9 (M 53 7) (n : Int) := c3
    have e2 : u2 = sx_mf 3 u1 1 := c4
    have e3 : u2 = vq_bt (M 53 7) (n : Int) := by rw [e2, e1]; exact vq_b9 _ (by omega)
    have e4 : u2 ≠ 1 := c1
    have e5 : u2 = 0 := by
      rcases vq_bt_r (M 53 7) (n : Int) with q | q
      · exact e3.trans q
      · exact absurd (e3.trans q) e4
    show ed_Q M (vq_bt (M 53 7) (n : Int)) _ N
    rw [← e3, e5]
    exact ⟨rfl, hN, hM⟩
theorem ofm_9 (hL : L < 2 ^ 31) (hm : sx_mok cl_ly M) (wk : -2147483648 ≤ k ∧ k ≤ 2147483647) : rz_fin (ed_Q M (if 0 ≤ k ∧ k < M 53 8 then (fun n : Nat => M 59 n) k.toNat else -2000000000)) L xs 170 5 0 [(0, .ref 53), (1, .int (Int32.ofInt k)), (2, .int (Int32.ofInt 9))] [] M := by
  have hB := cx_fld (c := 53) (k := 8) (lo := 0) (hi := 12) hm (by decide +kernel)
  by_cases q1 : k < 0
  · rw [if_neg (by omega)]
    exact qs_use (zs := [k, M 53 8]) ofm9n_c hL hm (qs_in (show -2147483648 ≤ k ∧ k ≤ -1 by omega) (qs_rd (show (0 : Int) ≤ 8 by decide) rfl (cx_fld (c := 53) (k := 8) (lo := 0) (hi := 12) hm (by decide +kernel)) (qs_fin rfl))) (Nat.le_refl _) rfl rfl (qs_c (fun N hN hc hM => ⟨rfl, hN, hM⟩) qs_z)
  by_cases q2 : 12 ≤ k
  · rw [if_neg (by omega)]
    exact qs_use (zs := [k, M 53 8]) ofm9h_c hL hm (qs_in (show 12 ≤ k ∧ k ≤ 2147483647 by omega) (qs_rd (show (0 : Int) ≤ 8 by decide) rfl (cx_fld (c := 53) (k := 8) (lo := 0) (hi := 12) hm (by decide +kernel)) (qs_fin rfl))) (Nat.le_refl _) rfl rfl (qs_c (fun N hN hc hM => ⟨rfl, hN, hM⟩) qs_z)
  obtain ⟨n, rfl⟩ := Int.eq_ofNat_of_zero_le (show 0 ≤ k by omega)
  rw [Int.toNat_natCast]
  refine qs_use (zs := [(n : Int), M 53 8, M 59 n]) ofm9i_c hL hm (qs_in (show 0 ≤ (n : Int) ∧ (n : Int) ≤ 11 by omega) (qs_rd (show (0 : Int) ≤ 8 by decide) rfl (cx_fld (c := 53) (k := 8) (lo := 0) (hi := 12) hm (by decide +kernel)) (qs_rd (show 0 ≤ (n : Int) by omega) rfl (hm 59 _ n _ rfl (by show n < 12; omega) rfl) (qs_fin rfl)))) (Nat.le_refl _) rfl rfl (qs_c (fun N hN hc hM => ?_) (qs_c (fun N hN hc hM => ?_) qs_z))
  · obtain ⟨c0, c1, -⟩ := hc
    have e : M 53 8 < (n : Int) + 1 := c1
    rw [if_neg (by omega)]
    exact ⟨rfl, hN, hM⟩
  · obtain ⟨c0, c1, -⟩ := hc
    have e : ¬ M 53 8 < (n : Int) + 1 := c1
    rw [if_pos (by omega)]
    exact ⟨rfl, hN, hM⟩
theorem ofm_10 (hL : L < 2 ^ 31) (hm : sx_mok cl_ly M) (wk : -2147483648 ≤ k ∧ k ≤ 2147483647) : rz_fin (ed_Q M (if 0 ≤ k ∧ k < M 53 8 then (fun n : Nat => vq_bt (M 53 11) (n : Int)) k.toNat else -2000000000)) L xs 170 5 0 [(0, .ref 53), (1, .int (Int32.ofInt k)), (2, .int (Int32.ofInt 10))] [] M := by
  have hB := cx_fld (c := 53) (k := 8) (lo := 0) (hi := 12) hm (by decide +kernel)
  by_cases q1 : k < 0
  · rw [if_neg (by omega)]
    exact qs_use (zs := [k, M 53 8]) ofm10n_c hL hm (qs_in (show -2147483648 ≤ k ∧ k ≤ -1 by omega) (qs_rd (show (0 : Int) ≤ 8 by decide) rfl (cx_fld (c := 53) (k := 8) (lo := 0) (hi := 12) hm (by decide +kernel)) (qs_fin rfl))) (Nat.le_refl _) rfl rfl (qs_c (fun N hN hc hM => ⟨rfl, hN, hM⟩) qs_z)
  by_cases q2 : 12 ≤ k
  · rw [if_neg (by omega)]
    exact qs_use (zs := [k, M 53 8]) ofm10h_c hL hm (qs_in (show 12 ≤ k ∧ k ≤ 2147483647 by omega) (qs_rd (show (0 : Int) ≤ 8 by decide) rfl (cx_fld (c := 53) (k := 8) (lo := 0) (hi := 12) hm (by decide +kernel)) (qs_fin rfl))) (Nat.le_refl _) rfl rfl (qs_c (fun N hN hc hM => ⟨rfl, hN, hM⟩) qs_z)
  obtain ⟨n, rfl⟩ := Int.eq_ofNat_of_zero_le (show 0 ≤ k by omega)
  rw [Int.toNat_natCast]
  refine qs_use (zs := [(n : Int), M 53 8, M 53 11]) ofm10i_c hL hm (qs_in (show 0 ≤ (n : Int) ∧ (n : Int) ≤ 11 by omega) (qs_rd (show (0 : Int) ≤ 8 by decide) rfl (cx_fld (c := 53) (k := 8) (lo := 0) (hi := 12) hm (by decide +kernel)) (qs_rd (show (0 : Int) ≤ 11 by decide) rfl (cv_ly_ok (g := (53, 11, sx_r32)) hm (by decide +kernel)) (qs_fin rfl)))) (Nat.le_refl _) rfl rfl (qs_c (fun u1 u2 N hN hc hM => ?_) (qs_c (fun u1 u2 N hN hc hM => ?_) (qs_c (fun u1 u2 N hN hc hM => ?_) qs_z)))
  · obtain ⟨c0, c1, -⟩ := hc
    have e : M 53 8 < (n : Int) + 1 := c1
    rw [if_neg (by omega)]
    exact ⟨rfl, hN, hM⟩
  · obtain ⟨c0, c1, c2, c3, c4, -⟩ := hc
    have e : ¬ M 53 8 < (n : Int) + 1 := c2
    rw [if_pos (by omega)]
    have e1 : u1 = sx_mf 9 (M 53 11) (n : Int) := c3
    have e2 : u2 = sx_mf 3 u1 1 := c4
    have e3 : u2 = vq_bt (M 53 11) (n : Int) := by rw [e2, e1]; exact vq_b9 _ (by omega)
    have e4 : 1 ≤ u2 ∧ u2 ≤ 1 := c1
    show ed_Q M (vq_bt (M 53 11) (n : Int)) _ N
    rw [← e3, show u2 = 1 by omega]
    exact ⟨rfl, hN, hM⟩
  · obtain ⟨c0, c1, c2, c3, c4, -⟩ := hc
    have e : ¬ M 53 8 < (n : Int) + 1 := c2
    rw [if_pos (by omega)]
    have e1 : u1 = sx_mf 9 (M 53 11) (n : Int) := c3
    have e2 : u2 = sx_mf 3 u1 1 := c4
    have e3 : u2 = vq_bt (M 53 11) (n : Int) := by rw [e2, e1]; exact vq_b9 _ (by omega)
    have e4 : u2 ≠ 1 := c1
    have e5 : u2 = 0 := by
      rcases vq_bt_r (M 53 11) (n : Int) with q | q
      · exact e3.trans q
      · exact absurd (e3.trans q) e4
    show ed_Q M (vq_bt (M 53 11) (n : Int)) _ N
    rw [← e3, e5]
    exact ⟨rfl, hN, hM⟩
theorem ofm_hx (hL : L < 2 ^ 31) (hm : sx_mok cl_ly M) (wk : -2147483648 ≤ k ∧ k ≤ 2147483647) (h1 : 11 ≤ w) (h2 : w ≤ 2147483647) : rz_fin (ed_Q M (-2000000000)) L xs 170 5 0 [(0, .ref 53), (1, .int (Int32.ofInt k)), (2, .int (Int32.ofInt w))] [] M := qs_use (zs := [k, w]) ofm_h_c hL hm (qs_in wk (qs_in ⟨h1, h2⟩ (qs_fin rfl))) (Nat.le_refl _) rfl rfl (qs_c (fun N hN hc hM => ⟨rfl, hN, hM⟩) qs_z)
theorem ofm_nx (hL : L < 2 ^ 31) (hm : sx_mok cl_ly M) (wk : -2147483648 ≤ k ∧ k ≤ 2147483647) (h1 : -2147483648 ≤ w) (h2 : w ≤ -1) : rz_fin (ed_Q M (-2000000000)) L xs 170 5 0 [(0, .ref 53), (1, .int (Int32.ofInt k)), (2, .int (Int32.ofInt w))] [] M := qs_use (zs := [k, w]) ofm_n_c hL hm (qs_in wk (qs_in ⟨h1, h2⟩ (qs_fin rfl))) (Nat.le_refl _) rfl rfl (qs_c (fun N hN hc hM => ⟨rfl, hN, hM⟩) qs_z)
/-- one kind, both sides -/
theorem of_one {z z' : Int} (hI : la_I WF bs_cps M) (hS : fs_SS M) (hz : -2000000000 ≤ z ∧ z ≤ 143) (he : z' = z) (hx : rz_fin (ed_Q M z) L xs 27 5 0 [(0, .ref 8), (1, .int (Int32.ofInt k)), (2, .int (Int32.ofInt w))] [] M) (hy : ∀ N, sx_mok cl_ly N → (∀ a, a < 128 → N a = M a) → rz_fin (ed_Q N z') L xs 170 5 0 [(0, .ref 53), (1, .int (Int32.ofInt k)), (2, .int (Int32.ofInt w))] [] N) : fs_P WF L xs 0 27 170 [.ref 8, .int (Int32.ofInt k), .int (Int32.ofInt w)] [.ref 53, .int (Int32.ofInt k), .int (Int32.ofInt w)] (-2000000000, 143) M := by
  subst he
  refine fs_mk (dx := 5) (dm := 5) (z := z') WF_zs hI hS (by decide) (by decide) hz (Or.inl ⟨rfl, og_w32 (by omega) (by omega)⟩) (qs_w hx (fun v N g => ?_))
  obtain ⟨rfl, mN, fN⟩ := g
  refine ⟨rfl, mN, fun a ha _ => fN a ha, qs_w (hy N mN fN) (fun v N' g => ?_)⟩
  obtain ⟨rfl, mN', fN'⟩ := g
  exact ⟨rfl, mN', fun a ha _ _ _ _ => fN' a ha, fun j _ => by rw [fN' 53 (by decide)]⟩
theorem of_if {B B' : Int} {f f' : Nat → Int} (e : B' = B) (h : ∀ n : Nat, (n : Int) < B → f' n = f n) : (if 0 ≤ k ∧ k < B' then f' k.toNat else (-2000000000 : Int)) = (if 0 ≤ k ∧ k < B then f k.toNat else -2000000000) := by
  subst e
  by_cases q : 0 ≤ k ∧ k < B'
  · rw [if_pos q, if_pos q]
    exact h k.toNat (by omega)
  · rw [if_neg q, if_neg q]
theorem of_rg {B : Int} {f : Nat → Int} (h : ∀ n : Nat, (n : Int) < B → -1 ≤ f n ∧ f n ≤ 143) : -2000000000 ≤ (if 0 ≤ k ∧ k < B then f k.toNat else (-2000000000 : Int)) ∧ (if 0 ≤ k ∧ k < B then f k.toNat else (-2000000000 : Int)) ≤ 143 := by
  split
  · have := h k.toNat (by omega)
    exact ⟨by omega, this.2⟩
  · exact ⟨by decide, by decide⟩
theorem fs_of (hL : L < 2 ^ 31) (hI : la_I WF bs_cps M) (hS : fs_SS M) (wk : sx_w sx_r32 k) (ww : sx_w sx_r32 w) : fs_P WF L xs 0 27 170 [.ref 8, .int (Int32.ofInt k), .int (Int32.ofInt w)] [.ref 53, .int (Int32.ofInt k), .int (Int32.ofInt w)] (-2000000000, 143) M := by
  obtain ⟨e1, e2, -, e4, -, -, -⟩ := bs_eq hI
  have hm := hI.1
  have h29 : 0 ≤ M 10 210 ∧ M 10 210 ≤ 29 := hI.2.2.2.1
  have h4 := cx_fld (c := 9) (k := 4) (lo := 0) (hi := 6) hm (by decide +kernel)
  have h5 := cx_fld (c := 9) (k := 5) (lo := 0) (hi := 12) hm (by decide +kernel)
  have wk := sx_r32_iff.mp wk
  have ww := sx_r32_iff.mp ww
  obtain ⟨⟨-, ⟨n1, n2, n3⟩, -⟩, ⟨s1, s2, -, -⟩, o, -⟩ := id hS
  by_cases q0 : w < 0
  · exact of_one (z := -2000000000) (z' := -2000000000) hI hS ⟨by decide, by decide⟩ rfl (ofx_nx (xs := xs) hL hm wk ww.1 (by omega)) (fun N mN fN => ofm_nx (xs := xs) hL mN wk ww.1 (by omega))
  by_cases q1 : 11 ≤ w
  · exact of_one (z := -2000000000) (z' := -2000000000) hI hS ⟨by decide, by decide⟩ rfl (ofx_hx (xs := xs) hL hm wk q1 ww.2) (fun N mN fN => ofm_hx (xs := xs) hL mN wk q1 ww.2)
  have bt : ∀ a b : Int, -1 ≤ vq_bt a b ∧ vq_bt a b ≤ 143 := fun a b => by rcases vq_bt_r a b with q | q <;> (rw [q]; exact ⟨by decide, by decide⟩)
  have hw : w = 0 ∨ w = 1 ∨ w = 2 ∨ w = 3 ∨ w = 4 ∨ w = 5 ∨ w = 6 ∨ w = 7 ∨ w = 8 ∨ w = 9 ∨ w = 10 := by omega
  rcases hw with rfl | rfl | rfl | rfl | rfl | rfl | rfl | rfl | rfl | rfl | rfl
  · refine of_one (z := if 0 ≤ k ∧ k < M 9 4 then (fun n : Nat => M 10 (0 + n)) k.toNat else -2000000000) (z' := if 0 ≤ k ∧ k < M 53 1 then (fun n : Nat => M 54 n) k.toNat else -2000000000) hI hS (of_rg (f := fun n : Nat => M 10 (0 + n)) (fun n h => cx_m10 hm (k := 0 + n) (by omega))) (of_if (f := fun n : Nat => M 10 (0 + n)) (f' := fun n : Nat => M 54 n) (e1.symm) (fun n h => (n1 0 n (by decide) (by omega)).symm)) (ofx_0 (xs := xs) hL hm wk) (fun N mN fN => ?_)
    have g := ofm_0 (xs := xs) (k := k) hL mN wk
    rw [fN 53 (by decide), fN 54 (by decide)] at g
    exact g
  · refine of_one (z := if 0 ≤ k ∧ k < M 9 4 then (fun n : Nat => M 10 (30 + n)) k.toNat else -2000000000) (z' := if 0 ≤ k ∧ k < M 53 1 then (fun n : Nat => M 55 n) k.toNat else -2000000000) hI hS (of_rg (f := fun n : Nat => M 10 (30 + n)) (fun n h => cx_m10 hm (k := 30 + n) (by omega))) (of_if (f := fun n : Nat => M 10 (30 + n)) (f' := fun n : Nat => M 55 n) (e1.symm) (fun n h => (n1 1 n (by decide) (by omega)).symm)) (ofx_1 (xs := xs) hL hm wk) (fun N mN fN => ?_)
    have g := ofm_1 (xs := xs) (k := k) hL mN wk
    rw [fN 53 (by decide), fN 55 (by decide)] at g
    exact g
  · refine of_one (z := if 0 ≤ k ∧ k < M 9 4 then (fun n : Nat => M 10 (60 + n)) k.toNat else -2000000000) (z' := if 0 ≤ k ∧ k < M 53 1 then (fun n : Nat => M 56 n) k.toNat else -2000000000) hI hS (of_rg (f := fun n : Nat => M 10 (60 + n)) (fun n h => cx_m10 hm (k := 60 + n) (by omega))) (of_if (f := fun n : Nat => M 10 (60 + n)) (f' := fun n : Nat => M 56 n) (e1.symm) (fun n h => (n1 2 n (by decide) (by omega)).symm)) (ofx_2 (xs := xs) hL hm wk) (fun N mN fN => ?_)
    have g := ofm_2 (xs := xs) (k := k) hL mN wk
    rw [fN 53 (by decide), fN 56 (by decide)] at g
    exact g
  · refine of_one (z := if 0 ≤ k ∧ k < M 9 4 then (fun n : Nat => M 10 (90 + n)) k.toNat else -2000000000) (z' := if 0 ≤ k ∧ k < M 53 1 then (fun n : Nat => M 57 n) k.toNat else -2000000000) hI hS (of_rg (f := fun n : Nat => M 10 (90 + n)) (fun n h => cx_m10 hm (k := 90 + n) (by omega))) (of_if (f := fun n : Nat => M 10 (90 + n)) (f' := fun n : Nat => M 57 n) (e1.symm) (fun n h => (n1 3 n (by decide) (by omega)).symm)) (ofx_3 (xs := xs) hL hm wk) (fun N mN fN => ?_)
    have g := ofm_3 (xs := xs) (k := k) hL mN wk
    rw [fN 53 (by decide), fN 57 (by decide)] at g
    exact g
  · refine of_one (z := if 0 ≤ k ∧ k < M 9 4 then (fun n : Nat => M 10 (120 + n)) k.toNat else -2000000000) (z' := if 0 ≤ k ∧ k < M 53 1 then (fun n : Nat => M 58 n) k.toNat else -2000000000) hI hS (of_rg (f := fun n : Nat => M 10 (120 + n)) (fun n h => cx_m10 hm (k := 120 + n) (by omega))) (of_if (f := fun n : Nat => M 10 (120 + n)) (f' := fun n : Nat => M 58 n) (e1.symm) (fun n h => (n1 4 n (by decide) (by omega)).symm)) (ofx_4 (xs := xs) hL hm wk) (fun N mN fN => ?_)
    have g := ofm_4 (xs := xs) (k := k) hL mN wk
    rw [fN 53 (by decide), fN 58 (by decide)] at g
    exact g
  · refine of_one (z := if 0 ≤ k ∧ k < 30 then (fun n : Nat => M 10 (150 + n)) k.toNat else -2000000000) (z' := if 0 ≤ k ∧ k < 30 then (fun n : Nat => M 61 n) k.toNat else -2000000000) hI hS (of_rg (f := fun n : Nat => M 10 (150 + n)) (fun n h => cx_m10 hm (k := 150 + n) (by omega))) (of_if (f := fun n : Nat => M 10 (150 + n)) (f' := fun n : Nat => M 61 n) rfl (fun n h => (n2 n (by omega)).symm)) (ofx_5 (xs := xs) hL hm wk) (fun N mN fN => ?_)
    have g := ofm_5 (xs := xs) (k := k) hL mN wk
    rw [fN 61 (by decide)] at g
    exact g
  · refine of_one (z := if 0 ≤ k ∧ k < M 9 5 then (fun n : Nat => M 10 (180 + n)) k.toNat else -2000000000) (z' := if 0 ≤ k ∧ k < M 53 8 then (fun n : Nat => M 60 n) k.toNat else -2000000000) hI hS (of_rg (f := fun n : Nat => M 10 (180 + n)) (fun n h => cx_m10 hm (k := 180 + n) (by omega))) (of_if (f := fun n : Nat => M 10 (180 + n)) (f' := fun n : Nat => M 60 n) (e2.symm) (fun n h => (n3 n (by omega) (by omega)).symm)) (ofx_6 (xs := xs) hL hm wk) (fun N mN fN => ?_)
    have g := ofm_6 (xs := xs) (k := k) hL mN wk
    rw [fN 53 (by decide), fN 60 (by decide)] at g
    exact g
  · refine of_one (z := if 0 ≤ k ∧ k < 1 then (fun n : Nat => M 10 210) k.toNat else -2000000000) (z' := if 0 ≤ k ∧ k < 1 then (fun n : Nat => M 53 13) k.toNat else -2000000000) hI hS (of_rg (f := fun n : Nat => M 10 210) (fun n h => ⟨by omega, by omega⟩)) (of_if (f := fun n : Nat => M 10 210) (f' := fun n : Nat => M 53 13) rfl (fun n h => e4.symm)) (ofx_7 (xs := xs) hL hm h29 wk) (fun N mN fN => ?_)
    have g := ofm_7 (xs := xs) (k := k) hL mN wk
    rw [fN 53 (by decide)] at g
    exact g
  · refine of_one (z := if 0 ≤ k ∧ k < M 9 4 then (fun n : Nat => vq_bt (M 9 6) (n : Int)) k.toNat else -2000000000) (z' := if 0 ≤ k ∧ k < M 53 1 then (fun n : Nat => vq_bt (M 53 7) (n : Int)) k.toNat else -2000000000) hI hS (of_rg (f := fun n : Nat => vq_bt (M 9 6) (n : Int)) (fun n h => bt _ _)) (of_if (f := fun n : Nat => vq_bt (M 9 6) (n : Int)) (f' := fun n : Nat => vq_bt (M 53 7) (n : Int)) (e1.symm) (fun n h => by show vq_bt (M 53 7) (n : Int) = vq_bt (M 9 6) (n : Int); rw [s1])) (ofx_8 (xs := xs) hL hm wk) (fun N mN fN => ?_)
    have g := ofm_8 (xs := xs) (k := k) hL mN wk
    rw [fN 53 (by decide)] at g
    exact g
  · refine of_one (z := if 0 ≤ k ∧ k < M 9 5 then (fun n : Nat => M 11 n) k.toNat else -2000000000) (z' := if 0 ≤ k ∧ k < M 53 8 then (fun n : Nat => M 59 n) k.toNat else -2000000000) hI hS (of_rg (f := fun n : Nat => M 11 n) (fun n h => by have := o n h; exact ⟨by show -1 ≤ M 11 n; omega, by show M 11 n ≤ 143; omega⟩)) (of_if (f := fun n : Nat => M 11 n) (f' := fun n : Nat => M 59 n) (e2.symm) (fun n h => (o n h).1)) (ofx_9 (xs := xs) hL hm wk) (fun N mN fN => ?_)
    have g := ofm_9 (xs := xs) (k := k) hL mN wk
    rw [fN 53 (by decide), fN 59 (by decide)] at g
    exact g
  · refine of_one (z := if 0 ≤ k ∧ k < M 9 5 then (fun n : Nat => vq_bt (M 9 7) (n : Int)) k.toNat else -2000000000) (z' := if 0 ≤ k ∧ k < M 53 8 then (fun n : Nat => vq_bt (M 53 11) (n : Int)) k.toNat else -2000000000) hI hS (of_rg (f := fun n : Nat => vq_bt (M 9 7) (n : Int)) (fun n h => bt _ _)) (of_if (f := fun n : Nat => vq_bt (M 9 7) (n : Int)) (f' := fun n : Nat => vq_bt (M 53 11) (n : Int)) (e2.symm) (fun n h => by show vq_bt (M 53 11) (n : Int) = vq_bt (M 9 7) (n : Int); rw [s2])) (ofx_10 (xs := xs) hL hm wk) (fun N mN fN => ?_)
    have g := ofm_10 (xs := xs) (k := k) hL mN wk
    rw [fN 53 (by decide)] at g
    exact g
end
