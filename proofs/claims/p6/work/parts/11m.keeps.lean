/-! Contracts of those that change what an invariant speaks of. -/
section
variable {JJ : (Nat → Nat → Int) → Prop} {MT : Nat → sm_M} {LK : Nat → Nat → Option sm_L} {RO : List (Nat × (Nat → Int32))} {NV : Nat → List Value} {cq : Nat} {ly : Nat → Option sx_H} {xs : Nat → Int32} {L : Nat} {MM : Nat → Nat → Int} {lay : List sx_H} {rf : Nat → Nat → Option Nat} {rc : List (List Int)}
def ct_oki (MT : Nat → sm_M) (LK : Nat → Nat → Option sm_L) (RO : List (Nat × (Nat → Int32))) (NV : Nat → List Value) (cq : Nat) (ly : Nat → Option sx_H) (lay : List sx_H) (rf : Nat → Nat → Option Nat) (JJ : (Nat → Nat → Int) → Prop) (k : Nat) (c : ct_C) : Prop :=
  ∀ d as M, c.2.2.2.2.2.1 ≤ d → ct_vs c.1 as → ct_g c.2.1 M → sx_mok ly M → JJ M → ∃ F r M', sm_run MT LK RO NV cq F d k 0 (lv_args 0 as) [] (sx_HH lay rf M) = some (r, sx_HH lay rf M') ∧ sx_mok ly M' ∧ ct_fr c M M' ∧ ct_g c.2.2.1 M' ∧ ct_r c.2.2.2.2.1 r ∧ JJ M'
noncomputable def mi_nohk : Nat → Nat → List sx_V → sx_S → Option (List sx_R) := fun _ _ _ _ => none
end
