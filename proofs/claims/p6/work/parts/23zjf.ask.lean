/-! ask: the pair; joint walks beside all that is held alike. -/
section
variable {WF : (Nat → Nat → Int) → Prop} {L : Nat} {xs : Nat → Int32} {i : Nat} {M M' M0 M1 M2 : Nat → Nat → Int} {s : Int}
def ak_12 : ct_C := ([(2, .ofNat 53, .ofNat 53), (0, .negSucc 2147483647, .ofNat 2147483647)], [(53, 8, .ofNat 12, .ofNat 12)], [], [], (some (0, .negSucc 1, .ofNat 29)), 3, false)
theorem ak_12c : mt_chk cl_ly cl_rc sm_MT sm_LK cz_zs [] 3000 3000 216 ak_12 [] = true := by decide +kernel
end
