/-! ===== the store after both constructors ===== -/
def c00 : Nat → Nat → Value := fun _ _ => .int 0
def tau0 : tw_T := fun k j => tw_vi (cF c00 k j)
set_option maxRecDepth 100000 in
theorem tau0_obj : ∀ k, k < 202 → ∀ j, j < (tw_sh k).2 → cF c00 k j = tw_lift tau0 k j := by decide +kernel
