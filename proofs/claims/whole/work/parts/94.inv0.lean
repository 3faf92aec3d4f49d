/-! ===== the invariant holds at the start ===== -/
def tau0N (j : Nat) : Nat := (tau0 191 j).toNatClampNeg
theorem t0_a0 : tau0N 0 ≤ 60 * 0 ∧ tau0N 1 ≤ 8 := by decide +kernel
theorem t0_a : ∀ j, j < 73 → 3 ≤ j → (j < 7 ∨ 17 ≤ j) → tau0N j < bd j := by decide +kernel
theorem t0_b : ∀ j, j < 7 → j ≠ 2 → tau0 191 j = nI (tau0N j) := by decide +kernel
theorem t0_c : ∀ j, j < 73 → 17 ≤ j → tau0 191 j = nI (tau0N j) := by decide +kernel
theorem t0_d : ∀ i, i < 10 → tau0 191 (7 + i) = -1 := by decide +kernel
theorem t0_e : (tau0 2 0 = tau0 191 3 ∧ tau0 2 1 = tau0 191 4 ∧ tau0 2 2 = tau0 191 5 ∧ tau0 2 3 = tau0 191 6 ∧ tau0 2 4 = tau0 191 0) ∧ tau0 3 1 = tau0 191 1 ∧ tau0 1 3 = tau0 191 2 := by decide +kernel
theorem t0_f : ∀ i, i < 10 → tau0 13 i = tau0 191 (7 + i) := by decide +kernel
theorem t0_g : tau0 191 1 = 0 := by decide +kernel
theorem t0_h : tau0 0 2 = 0 ∧ tau0 190 3 = 0 := by decide +kernel
theorem t0_i : tau0 190 6 = 0 ∧ tau0 27 1 = 0 := by decide +kernel
theorem t0_j : ∀ s, s < 4 → tau0 (182 + 2 * s) 1 = tau0 198 s ∧ tau0 (182 + 2 * s) 2 = tau0 199 s ∧ tau0 198 s = 0 ∧ tau0 199 s = 0 := by decide +kernel
theorem t0_k : ∀ s, s < 4 → ∀ j, j < 40 → tau0 (182 + 2 * s + 1) j = tau0 200 (40 * s + j) := by decide +kernel
theorem t0_l : ∀ j, j < 7 → tau0 30 j = tau0 194 (j + 1) := by decide +kernel
theorem t0_m : tau0 194 0 = sum7 (tau0 30) := by decide +kernel
theorem t0_n : tau0 48 2 = 0 := by decide +kernel
theorem Inv_0 : Inv 0 tau0 := by
  refine ⟨by decide, ⟨⟨tau0N, ⟨t0_a0.1, t0_a0.2, fun j h1 h2 => t0_a j h2 h1⟩, t0_b, fun j h1 h2 => t0_c j h2 h1, fun i hi => Or.inl (t0_d i hi)⟩, t0_e.1, t0_e.2.1, t0_e.2.2, t0_f, fun i hi hn => ?_⟩, ⟨t0_h.1.trans t0_h.2.symm, Or.inl t0_h.2, fun h => ?_⟩, ⟨0, by decide, t0_i.1, t0_i.2, fun j hj => absurd hj (Nat.not_lt_zero j)⟩, fun s hs => ?_, ⟨t0_l, t0_m⟩, Or.inl t0_n⟩
  · rw [t0_g] at hn
    exact absurd hn (nI_pos (by omega))
  · rw [t0_h.2] at h
    exact absurd h (by decide)
  · obtain ⟨a, b, c, d⟩ := t0_j s hs
    exact ⟨a, b, Or.inl c, ⟨0, by decide, d⟩, t0_k s hs⟩
