/-! led: the pair. -/
section
variable {L : Nat} {xs : Nat → Int32} {M M' N N' M0 M1 M2 X Y : Nat → Nat → Int} {k H : Int}
def ed_Q (M : Nat → Nat → Int) (z : Int) (r : Option Value) (N : Nat → Nat → Int) : Prop := r = some (.int (Int32.ofInt z)) ∧ sx_mok cl_ly N ∧ ∀ a, a < 128 → N a = M a
end
