/-! ===== the law makes both ===== -/
def cF (c : Nat → Nat → Value) : Nat → Nat → Value := mC (nset (xC (nset c 0 (fun j => defaultValue (tyX8 j)))) 190 (fun j => defaultValue (tyX9 j)))
theorem law_new {K : tw_K} (hE : nw_AE K.2.2.2) (F : tw_FN K mL_law 40) (h1 : K.2.2.1.1 = 600000) (h2 : K.2.2.1.2.1 = 7302250) {c : Nat → Nat → Value}
    (kk : tw_N K 18 [.ref 260, .ref 0, .ref 190, .int 0] [] (202, cF c, 202, 2670)) : tw_N K 0 [.ref 260, .null, .null, .null] [] (0, c, 0, 0) := by
  refine nx_new (ci := 8) F tyX8 dc_L_law_0 rfl tyX8_ok (by decide +kernel) (by decide) cl_L_7 is_8 in_8 (by rw [h1]; decide) (by rw [h2]; decide) ?_
  refine nw_dup F dc_L_law_3 rfl ?_
  refine nx_call (M' := mX8_init) F dc_L_law_4 ic_8 in_8 ii_8 ⟨by decide +kernel, by decide +kernel, by decide +kernel⟩ rfl rfl (by decide) mi_L_9 (by decide) (Nat.le_of_ble_eq_true rfl) (by rw [h1]; decide) (by rw [h2]; decide) (n_Lights8 hE) ?_
  refine nw_astore_n F dc_L_law_7 (by decide) rfl ?_
  refine nx_new (ci := 9) F tyX9 dc_L_law_8 rfl tyX9_ok (by decide +kernel) (by decide) cl_L_10 is_9 in_9 (by rw [h1]; decide) (by rw [h2]; decide) ?_
  refine nw_dup F dc_L_law_11 rfl ?_
  refine nx_call (M' := mX9_init) F dc_L_law_12 ic_9 in_9 ii_9 ⟨by decide +kernel, by decide +kernel, by decide +kernel⟩ rfl rfl (by decide) mi_L_12 (by decide) (Nat.le_of_ble_eq_true rfl) (by rw [h1]; decide) (by rw [h2]; decide) (n_Model hE) ?_
  refine nw_astore_n F dc_L_law_15 (by decide) rfl ?_
  refine nw_iconst (v := 0) F dc_L_law_16 rfl ?_
  refine nw_istore_n F dc_L_law_17 (by decide) rfl ?_
  exact kk
