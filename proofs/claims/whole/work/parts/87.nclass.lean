/-! ===== the constructor of the class ===== -/
theorem liC_ne {c : Nat → Nat → Value} {k q j : Nat} (h : q ≠ k) : liC c k q j = c q j := by
  unfold liC
  rw [nput_ne (Or.inl h), nput_ne (Or.inl h), nput_ne (Or.inl h), nput_ne (Or.inl h), nput_ne (Or.inl h)]
theorem seC_lt {b q j : Nat} {c : Nat → Nat → Value} (h : q < b) : ∀ i, seC b c i q j = c q j
  | 0 => by
    show nput (nput (nset (nput (flC (b + 2) (nset (nput (liC (nset c (b + 1) _) (b + 1)) b 0 _) (b + 2) _) 8) b 1 _) (b + 12) _) b 2 _) b 3 _ q j = _
    rw [nput_ne (Or.inl (by omega)), nput_ne (Or.inl (by omega)), nset_ne (by omega), nput_ne (Or.inl (by omega)), flC_lt (by omega), nset_ne (by omega), nput_ne (Or.inl (by omega)), liC_ne (by omega), nset_ne (by omega)]
  | i + 1 => by
    show nput _ (b + 12) i _ q j = _
    rw [nput_ne (Or.inl (by omega))]
    exact seC_lt h i
theorem psC_lt {b q j : Nat} {c : Nat → Nat → Value} (h : q < b) : ∀ i, psC b c i q j = c q j
  | 0 => by
    show nput (nset (nput (liC (nset c (b + 1) _) (b + 1)) b 0 _) (b + 2) _) b 1 _ q j = _
    rw [nput_ne (Or.inl (by omega)), nset_ne (by omega), nput_ne (Or.inl (by omega)), liC_ne (by omega), nset_ne (by omega)]
  | i + 1 => by
    show nput (flC (b + 3 + 10 * i) (nset (psC b c i) _ _) 8) (b + 2) i _ q j = _
    rw [nput_ne (Or.inl (by omega)), flC_lt (by omega), nset_ne (by omega)]
    exact psC_lt h i
def shC (b : Nat) (c : Nat → Nat → Value) : Nat → Nat → Value := nput (nput (nput (nset c (b + 1) (fun _ => .int 0)) b 0 (.ref (b + 1))) b 1 (.int 0)) b 2 (.int 0)
def taC (b : Nat) (c : Nat → Nat → Value) : Nat → Nat → Value := nput (nput (nset c (b + 1) (fun _ => .int 0)) b 0 (.ref (b + 1))) b 1 (.int 0)
theorem taC_lt {b q j : Nat} {c : Nat → Nat → Value} (h : q < b) : taC b c q j = c q j := by
  unfold taC
  rw [nput_ne (Or.inl (by omega)), nput_ne (Or.inl (by omega)), nset_ne (by omega)]
theorem shC_lt {b q j : Nat} {c : Nat → Nat → Value} (h : q < b) : shC b c q j = c q j := by
  unfold shC
  rw [nput_ne (Or.inl (by omega)), nput_ne (Or.inl (by omega)), nput_ne (Or.inl (by omega)), nset_ne (by omega)]
theorem se_1 : isSe 1 := by unfold isSe isFl; decide +kernel
theorem se_14 : isSe 14 := by unfold isSe isFl; decide +kernel
theorem se_31 : isSe 31 := by unfold isSe isFl; decide +kernel
theorem ps_49 : isPs 49 := by unfold isPs isFl; decide +kernel
def xC (c : Nat → Nat → Value) : Nat → Nat → Value := (nput (shC 188 (nset (nput (shC 186 (nset (nput (shC 184 (nset (nput (shC 182 (nset (nput (psC 49 (nset (nput (nset (nput (nset (nput (nset (nput (nset (nput (liC (nset (nput (seC 31 (nset (nput (nset (nput (nset (nput (taC 27 (nset (nput (nput (seC 14 (nset (nput (seC 1 (nset c 1 (fun j => defaultValue (tyX4 j))) 10) 0 0 (.ref 1)) 14 (fun j => defaultValue (tyX4 j))) 10) 0 1 (.ref 14)) 0 2 (.int 0)) 27 (fun j => defaultValue (tyX7 j)))) 0 3 (.ref 27)) 29 (fun _ => .null)) 0 4 (.ref 29)) 30 (fun _ => .int 0)) 0 5 (.ref 30)) 31 (fun j => defaultValue (tyX4 j))) 10) 0 6 (.ref 31)) 44 (fun j => defaultValue (tyX2 j))) 44) 0 7 (.ref 44)) 45 (fun j => defaultValue (tyX6 j))) 0 8 (.ref 45)) 46 (fun j => defaultValue (tyX6 j))) 0 9 (.ref 46)) 47 (fun _ => .int 0)) 0 10 (.ref 47)) 48 (fun j => defaultValue (tyX0 j))) 0 11 (.ref 48)) 49 (fun j => defaultValue (tyX3 j))) 13) 0 12 (.ref 49)) 182 (fun j => defaultValue (tyX5 j)))) 29 0 (.ref 182)) 184 (fun j => defaultValue (tyX5 j)))) 29 1 (.ref 184)) 186 (fun j => defaultValue (tyX5 j)))) 29 2 (.ref 186)) 188 (fun j => defaultValue (tyX5 j)))) 29 3 (.ref 188))
set_option maxRecDepth 10000 in
set_option maxHeartbeats 1000000 in
theorem n_Lights8 {E : tw_E} (hE : nw_AE E) {c : Nat → Nat → Value} : tw_Cn E 4 189 1475 mX8_init 0 1 190 c (xC c) := by
  refine nw_of hE (by decide) rfl rfl (by decide) (fun K hK hi h1 h2 F ret => ?_)
  subst hK
  refine nw_aload_n F dc_X8_init_0 rfl ?_
  refine nw_objInit F dc_X8_init_1 mo_RX8_3 o_i o_c (by decide) (by decide) ?_
  refine nw_aload_n F dc_X8_init_4 rfl ?_
  refine nx_new (ci := 4) F tyX4 dc_X8_init_5 rfl tyX4_ok (by decide +kernel) (by decide) cl_RX8_9 is_4 in_4 (by rw [h1]; decide) (by rw [h2]; decide) ?_
  refine nw_dup F dc_X8_init_8 rfl ?_
  refine nx_call (M' := mX4_init) F dc_X8_init_9 ic_4 in_4 ii_4 ⟨by decide +kernel, by decide +kernel, by decide +kernel⟩ rfl rfl (by decide) mi_RX8_11 (by decide) (Nat.le_of_ble_eq_true rfl) (by rw [h1]; decide) (by rw [h2]; decide) (n_Sea (b := 1) hE se_1) ?_
  refine nx_putF (ci := 8) (j := 0) (ty := .object "TwinLights$Sea") F hi dc_X8_init_12 rfl (by decide) (by decide) (by decide) (by decide +kernel) fk_RX8_12 rfl rfl (by decide +kernel) (fun _ => rfl) (fun _ => rfl) ?_
  refine nw_aload_n F dc_X8_init_15 rfl ?_
  refine nx_new (ci := 4) F tyX4 dc_X8_init_16 rfl tyX4_ok (by decide +kernel) (by decide) cl_RX8_9 is_4 in_4 (by rw [h1]; decide) (by rw [h2]; decide) ?_
  refine nw_dup F dc_X8_init_19 rfl ?_
  refine nx_call (M' := mX4_init) F dc_X8_init_20 ic_4 in_4 ii_4 ⟨by decide +kernel, by decide +kernel, by decide +kernel⟩ rfl rfl (by decide) mi_RX8_11 (by decide) (Nat.le_of_ble_eq_true rfl) (by rw [h1]; decide) (by rw [h2]; decide) (n_Sea (b := 14) hE se_14) ?_
  refine nx_putF (ci := 8) (j := 1) (ty := .object "TwinLights$Sea") F hi dc_X8_init_23 rfl (by decide) (by decide) (by decide) (by decide +kernel) fk_RX8_16 rfl rfl (by decide +kernel) (fun _ => rfl) (fun _ => rfl) ?_
  refine nw_aload_n F dc_X8_init_26 rfl ?_
  refine nw_iconst (v := 0) F dc_X8_init_27 rfl ?_
  refine nx_put (ci := 8) (j := 2) (ty := .boolean) F dc_X8_init_28 rfl (by decide) (by decide) (by decide) (by decide +kernel) fk_RX8_19 rfl (by decide +kernel) rfl rfl ?_
  refine nw_aload_n F dc_X8_init_31 rfl ?_
  refine nx_new (ci := 7) F tyX7 dc_X8_init_32 rfl tyX7_ok (by decide +kernel) (by decide) cl_RX8_23 is_7 in_7 (by rw [h1]; decide) (by rw [h2]; decide) ?_
  refine nw_dup F dc_X8_init_35 rfl ?_
  refine nx_callN (M' := mX7_init) F dc_X8_init_36 ic_7 in_7 ii_7 ⟨by decide +kernel, by decide +kernel, by decide +kernel⟩ rfl rfl (by decide) ni_RX8_25 (by decide) (Nat.le_of_ble_eq_true rfl) (by rw [h1]; decide) (by rw [h2]; decide) (n_Tape (b := 27) hE (by decide) (by decide +kernel) (by decide +kernel)) ?_
  refine nx_putF (ci := 8) (j := 3) (ty := .object "TwinLights$Tape") F hi dc_X8_init_39 rfl (by decide) (by decide) (by decide) (by decide +kernel) fk_RX8_26 rfl rfl (by decide +kernel) (fun _ => rfl) (fun _ => rfl) ?_
  refine nw_aload_n F dc_X8_init_42 rfl ?_
  refine nw_iconst (v := 4) F dc_X8_init_43 rfl ?_
  refine nx_newq (t := 13) (N := 4) F dc_X8_init_44 cl_RX8_30 (by decide) (by decide) (fun _ => rfl) rfl (by decide) (by decide +kernel) (by decide) (by rw [h1]; decide) (by rw [h2]; decide) ?_
  refine nx_putF (ci := 8) (j := 4) (ty := .array (.object "TwinLights$Sheet")) F hi dc_X8_init_47 rfl (by decide) (by decide) (by decide) (by decide +kernel) fk_RX8_32 rfl rfl (by decide +kernel) (fun _ => rfl) (fun _ => rfl) ?_
  refine nw_aload_n F dc_X8_init_50 rfl ?_
  refine nw_bipush (v := 7) F dc_X8_init_51 rfl ?_
  refine nx_newa (N := 7) F dc_X8_init_53 rfl (by decide) (by decide +kernel) (by decide) (by rw [h1]; decide) (by rw [h2]; decide) ?_
  refine nx_putF (ci := 8) (j := 5) (ty := .array .int) F hi dc_X8_init_55 rfl (by decide) (by decide) (by decide) (by decide +kernel) fk_RX8_36 rfl rfl (by decide +kernel) (fun _ => rfl) (fun _ => rfl) ?_
  refine nw_aload_n F dc_X8_init_58 rfl ?_
  refine nx_new (ci := 4) F tyX4 dc_X8_init_59 rfl tyX4_ok (by decide +kernel) (by decide) cl_RX8_9 is_4 in_4 (by rw [h1]; decide) (by rw [h2]; decide) ?_
  refine nw_dup F dc_X8_init_62 rfl ?_
  refine nx_call (M' := mX4_init) F dc_X8_init_63 ic_4 in_4 ii_4 ⟨by decide +kernel, by decide +kernel, by decide +kernel⟩ rfl rfl (by decide) mi_RX8_11 (by decide) (Nat.le_of_ble_eq_true rfl) (by rw [h1]; decide) (by rw [h2]; decide) (n_Sea (b := 31) hE se_31) ?_
  refine nx_putF (ci := 8) (j := 6) (ty := .object "TwinLights$Sea") F hi dc_X8_init_66 rfl (by decide) (by decide) (by decide) (by decide +kernel) fk_RX8_40 rfl rfl (by decide +kernel) (fun _ => rfl) (fun _ => rfl) ?_
  refine nw_aload_n F dc_X8_init_69 rfl ?_
  refine nx_new (ci := 2) F tyX2 dc_X8_init_70 rfl tyX2_ok (by decide +kernel) (by decide) cl_RX8_43 is_2 in_2 (by rw [h1]; decide) (by rw [h2]; decide) ?_
  refine nw_dup F dc_X8_init_73 rfl ?_
  refine nx_callN (M' := mX2_init) F dc_X8_init_74 ic_2 in_2 ii_2 ⟨by decide +kernel, by decide +kernel, by decide +kernel⟩ rfl rfl (by decide) ni_RX8_45 (by decide) (Nat.le_of_ble_eq_true rfl) (by rw [h1]; decide) (by rw [h2]; decide) (n_Lights hE (by decide) (by decide) (by decide +kernel)) ?_
  refine nx_putF (ci := 8) (j := 7) (ty := .object "TwinLights$Lights") F hi dc_X8_init_77 rfl (by decide) (by decide) (by decide) (by decide +kernel) fk_RX8_46 rfl rfl (by decide +kernel) (fun _ => rfl) (fun _ => rfl) ?_
  refine nw_aload_n F dc_X8_init_80 rfl ?_
  refine nx_new (ci := 6) F tyX6 dc_X8_init_81 rfl tyX6_ok (by decide +kernel) (by decide) cl_RX8_50 is_6 in_6 (by rw [h1]; decide) (by rw [h2]; decide) ?_
  refine nw_dup F dc_X8_init_84 rfl ?_
  refine nx_callN (M' := mX6_init) F dc_X8_init_85 ic_6 in_6 ii_6 ⟨by decide +kernel, by decide +kernel, by decide +kernel⟩ rfl rfl (by decide) ni_RX8_52 (by decide) (Nat.le_of_ble_eq_true rfl) (by rw [h1]; decide) (by rw [h2]; decide) (n_Ship hE) ?_
  refine nx_putF (ci := 8) (j := 8) (ty := .object "TwinLights$Ship") F hi dc_X8_init_88 rfl (by decide) (by decide) (by decide) (by decide +kernel) fk_RX8_53 rfl rfl (by decide +kernel) (fun _ => rfl) (fun _ => rfl) ?_
  refine nw_aload_n F dc_X8_init_91 rfl ?_
  refine nx_new (ci := 6) F tyX6 dc_X8_init_92 rfl tyX6_ok (by decide +kernel) (by decide) cl_RX8_50 is_6 in_6 (by rw [h1]; decide) (by rw [h2]; decide) ?_
  refine nw_dup F dc_X8_init_95 rfl ?_
  refine nx_callN (M' := mX6_init) F dc_X8_init_96 ic_6 in_6 ii_6 ⟨by decide +kernel, by decide +kernel, by decide +kernel⟩ rfl rfl (by decide) ni_RX8_52 (by decide) (Nat.le_of_ble_eq_true rfl) (by rw [h1]; decide) (by rw [h2]; decide) (n_Ship hE) ?_
  refine nx_putF (ci := 8) (j := 9) (ty := .object "TwinLights$Ship") F hi dc_X8_init_99 rfl (by decide) (by decide) (by decide) (by decide +kernel) fk_RX8_57 rfl rfl (by decide +kernel) (fun _ => rfl) (fun _ => rfl) ?_
  refine nw_aload_n F dc_X8_init_102 rfl ?_
  refine nw_bipush (v := 8) F dc_X8_init_103 rfl ?_
  refine nx_newa (N := 8) F dc_X8_init_105 rfl (by decide) (by decide +kernel) (by decide) (by rw [h1]; decide) (by rw [h2]; decide) ?_
  refine nx_putF (ci := 8) (j := 10) (ty := .array .int) F hi dc_X8_init_107 rfl (by decide) (by decide) (by decide) (by decide +kernel) fk_RX8_60 rfl rfl (by decide +kernel) (fun _ => rfl) (fun _ => rfl) ?_
  refine nw_aload_n F dc_X8_init_110 rfl ?_
  refine nx_new (ci := 0) F tyX0 dc_X8_init_111 rfl tyX0_ok (by decide +kernel) (by decide) cl_RX8_63 is_0 in_0 (by rw [h1]; decide) (by rw [h2]; decide) ?_
  refine nw_dup F dc_X8_init_114 rfl ?_
  refine nx_callN (M' := mX0_init) F dc_X8_init_115 ic_0 in_0 ii_0 ⟨by decide +kernel, by decide +kernel, by decide +kernel⟩ rfl rfl (by decide) ni_RX8_65 (by decide) (Nat.le_of_ble_eq_true rfl) (by rw [h1]; decide) (by rw [h2]; decide) (n_Demand hE) ?_
  refine nx_putF (ci := 8) (j := 11) (ty := .object "TwinLights$Demand") F hi dc_X8_init_118 rfl (by decide) (by decide) (by decide) (by decide +kernel) fk_RX8_66 rfl rfl (by decide +kernel) (fun _ => rfl) (fun _ => rfl) ?_
  refine nw_aload_n F dc_X8_init_121 rfl ?_
  refine nx_new (ci := 3) F tyX3 dc_X8_init_122 rfl tyX3_ok (by decide +kernel) (by decide) cl_RX8_70 is_3 in_3 (by rw [h1]; decide) (by rw [h2]; decide) ?_
  refine nw_dup F dc_X8_init_125 rfl ?_
  refine nx_call (M' := mX3_init) F dc_X8_init_126 ic_3 in_3 ii_3 ⟨by decide +kernel, by decide +kernel, by decide +kernel⟩ rfl rfl (by decide) mi_RX8_72 (by decide) (Nat.le_of_ble_eq_true rfl) (by rw [h1]; decide) (by rw [h2]; decide) (n_Search (b := 49) hE ps_49) ?_
  refine nx_putF (ci := 8) (j := 12) (ty := .object "TwinLights$PatternSearch") F hi dc_X8_init_129 rfl (by decide) (by decide) (by decide) (by decide +kernel) fk_RX8_73 rfl rfl (by decide +kernel) (fun _ => rfl) (fun _ => rfl) ?_
  refine nw_iconst (v := 0) F dc_X8_init_132 rfl ?_
  refine nw_istore_n F dc_X8_init_133 (by decide) rfl ?_
  refine nw_iload_n F dc_X8_init_134 rfl ?_
  refine nw_iconst (v := 3) F dc_X8_init_135 rfl ?_
  refine nw_icmp_gt (tgt := 158) F dc_X8_init_136 rfl (fun h => absurd h (by decide)) (fun _ => ?_)
  refine nw_aload_n F dc_X8_init_139 rfl ?_
  refine nx_getR (ci := 8) (j := 4) (r := 29) F dc_X8_init_140 rfl (by decide) (by decide) (by decide) (by decide +kernel) fk_RX8_32 (by rw [nput_ne (Or.inr (by decide)), psC_lt (by decide), nset_ne (by decide), nput_ne (Or.inr (by decide)), nset_ne (by decide), nput_ne (Or.inr (by decide)), nset_ne (by decide), nput_ne (Or.inr (by decide)), nset_ne (by decide), nput_ne (Or.inr (by decide)), nset_ne (by decide), nput_ne (Or.inr (by decide)), nput_ne (Or.inl (by decide)), nput_ne (Or.inl (by decide)), nput_ne (Or.inl (by decide)), nput_ne (Or.inl (by decide)), nput_ne (Or.inl (by decide)), nset_ne (by decide), nput_ne (Or.inr (by decide)), seC_lt (by decide), nset_ne (by decide), nput_ne (Or.inr (by decide)), nset_ne (by decide), nput_self]) ?_
  refine nw_iload_n F dc_X8_init_143 rfl ?_
  refine nx_new (ci := 5) F tyX5 dc_X8_init_144 rfl tyX5_ok (by decide +kernel) (by decide) cl_RX8_30 is_5 in_5 (by rw [h1]; decide) (by rw [h2]; decide) ?_
  refine nw_dup F dc_X8_init_147 rfl ?_
  refine nx_callN (M' := mX5_init) F dc_X8_init_148 ic_5 in_5 ii_5 ⟨by decide +kernel, by decide +kernel, by decide +kernel⟩ rfl rfl (by decide) ni_RX8_77 (by decide) (Nat.le_of_ble_eq_true rfl) (by rw [h1]; decide) (by rw [h2]; decide) (n_Sheet (b := 182) hE (by decide) (by decide +kernel) (by decide +kernel)) ?_
  refine nx_aast (t := 13) (ci := 5) (j := 0) (N := 4) F dc_X8_init_151 (by decide) (by decide) (by decide) (by decide) (by decide +kernel) rfl (by decide +kernel) (fun _ => rfl) rfl (by decide) (by decide) ?_
  refine nw_iinc (v := 1) F dc_X8_init_152 rfl (by decide) (by decide) rfl ?_
  refine nw_goto (tgt := 134) F dc_X8_init_155 rfl ?_
  refine nw_iload_n F dc_X8_init_134 rfl ?_
  refine nw_iconst (v := 3) F dc_X8_init_135 rfl ?_
  refine nw_icmp_gt (tgt := 158) F dc_X8_init_136 rfl (fun h => absurd h (by decide)) (fun _ => ?_)
  refine nw_aload_n F dc_X8_init_139 rfl ?_
  refine nx_getR (ci := 8) (j := 4) (r := 29) F dc_X8_init_140 rfl (by decide) (by decide) (by decide) (by decide +kernel) fk_RX8_32 (by rw [nput_ne (Or.inl (by decide)), nput_ne (Or.inl (by decide)), nput_ne (Or.inl (by decide)), nput_ne (Or.inl (by decide)), nset_ne (by decide), nset_ne (by decide), nput_ne (Or.inr (by decide)), psC_lt (by decide), nset_ne (by decide), nput_ne (Or.inr (by decide)), nset_ne (by decide), nput_ne (Or.inr (by decide)), nset_ne (by decide), nput_ne (Or.inr (by decide)), nset_ne (by decide), nput_ne (Or.inr (by decide)), nset_ne (by decide), nput_ne (Or.inr (by decide)), nput_ne (Or.inl (by decide)), nput_ne (Or.inl (by decide)), nput_ne (Or.inl (by decide)), nput_ne (Or.inl (by decide)), nput_ne (Or.inl (by decide)), nset_ne (by decide), nput_ne (Or.inr (by decide)), seC_lt (by decide), nset_ne (by decide), nput_ne (Or.inr (by decide)), nset_ne (by decide), nput_self]) ?_
  refine nw_iload_n F dc_X8_init_143 rfl ?_
  refine nx_new (ci := 5) F tyX5 dc_X8_init_144 rfl tyX5_ok (by decide +kernel) (by decide) cl_RX8_30 is_5 in_5 (by rw [h1]; decide) (by rw [h2]; decide) ?_
  refine nw_dup F dc_X8_init_147 rfl ?_
  refine nx_callN (M' := mX5_init) F dc_X8_init_148 ic_5 in_5 ii_5 ⟨by decide +kernel, by decide +kernel, by decide +kernel⟩ rfl rfl (by decide) ni_RX8_77 (by decide) (Nat.le_of_ble_eq_true rfl) (by rw [h1]; decide) (by rw [h2]; decide) (n_Sheet (b := 184) hE (by decide) (by decide +kernel) (by decide +kernel)) ?_
  refine nx_aast (t := 13) (ci := 5) (j := 1) (N := 4) F dc_X8_init_151 (by decide) (by decide) (by decide) (by decide) (by decide +kernel) rfl (by decide +kernel) (fun _ => rfl) rfl (by decide) (by decide) ?_
  refine nw_iinc (v := 2) F dc_X8_init_152 rfl (by decide) (by decide) rfl ?_
  refine nw_goto (tgt := 134) F dc_X8_init_155 rfl ?_
  refine nw_iload_n F dc_X8_init_134 rfl ?_
  refine nw_iconst (v := 3) F dc_X8_init_135 rfl ?_
  refine nw_icmp_gt (tgt := 158) F dc_X8_init_136 rfl (fun h => absurd h (by decide)) (fun _ => ?_)
  refine nw_aload_n F dc_X8_init_139 rfl ?_
  refine nx_getR (ci := 8) (j := 4) (r := 29) F dc_X8_init_140 rfl (by decide) (by decide) (by decide) (by decide +kernel) fk_RX8_32 (by rw [nput_ne (Or.inl (by decide)), nput_ne (Or.inl (by decide)), nput_ne (Or.inl (by decide)), nput_ne (Or.inl (by decide)), nset_ne (by decide), nset_ne (by decide), nput_ne (Or.inl (by decide)), nput_ne (Or.inl (by decide)), nput_ne (Or.inl (by decide)), nput_ne (Or.inl (by decide)), nset_ne (by decide), nset_ne (by decide), nput_ne (Or.inr (by decide)), psC_lt (by decide), nset_ne (by decide), nput_ne (Or.inr (by decide)), nset_ne (by decide), nput_ne (Or.inr (by decide)), nset_ne (by decide), nput_ne (Or.inr (by decide)), nset_ne (by decide), nput_ne (Or.inr (by decide)), nset_ne (by decide), nput_ne (Or.inr (by decide)), nput_ne (Or.inl (by decide)), nput_ne (Or.inl (by decide)), nput_ne (Or.inl (by decide)), nput_ne (Or.inl (by decide)), nput_ne (Or.inl (by decide)), nset_ne (by decide), nput_ne (Or.inr (by decide)), seC_lt (by decide), nset_ne (by decide), nput_ne (Or.inr (by decide)), nset_ne (by decide), nput_self]) ?_
  refine nw_iload_n F dc_X8_init_143 rfl ?_
  refine nx_new (ci := 5) F tyX5 dc_X8_init_144 rfl tyX5_ok (by decide +kernel) (by decide) cl_RX8_30 is_5 in_5 (by rw [h1]; decide) (by rw [h2]; decide) ?_
  refine nw_dup F dc_X8_init_147 rfl ?_
  refine nx_callN (M' := mX5_init) F dc_X8_init_148 ic_5 in_5 ii_5 ⟨by decide +kernel, by decide +kernel, by decide +kernel⟩ rfl rfl (by decide) ni_RX8_77 (by decide) (Nat.le_of_ble_eq_true rfl) (by rw [h1]; decide) (by rw [h2]; decide) (n_Sheet (b := 186) hE (by decide) (by decide +kernel) (by decide +kernel)) ?_
  refine nx_aast (t := 13) (ci := 5) (j := 2) (N := 4) F dc_X8_init_151 (by decide) (by decide) (by decide) (by decide) (by decide +kernel) rfl (by decide +kernel) (fun _ => rfl) rfl (by decide) (by decide) ?_
  refine nw_iinc (v := 3) F dc_X8_init_152 rfl (by decide) (by decide) rfl ?_
  refine nw_goto (tgt := 134) F dc_X8_init_155 rfl ?_
  refine nw_iload_n F dc_X8_init_134 rfl ?_
  refine nw_iconst (v := 3) F dc_X8_init_135 rfl ?_
  refine nw_icmp_gt (tgt := 158) F dc_X8_init_136 rfl (fun h => absurd h (by decide)) (fun _ => ?_)
  refine nw_aload_n F dc_X8_init_139 rfl ?_
  refine nx_getR (ci := 8) (j := 4) (r := 29) F dc_X8_init_140 rfl (by decide) (by decide) (by decide) (by decide +kernel) fk_RX8_32 (by rw [nput_ne (Or.inl (by decide)), nput_ne (Or.inl (by decide)), nput_ne (Or.inl (by decide)), nput_ne (Or.inl (by decide)), nset_ne (by decide), nset_ne (by decide), nput_ne (Or.inl (by decide)), nput_ne (Or.inl (by decide)), nput_ne (Or.inl (by decide)), nput_ne (Or.inl (by decide)), nset_ne (by decide), nset_ne (by decide), nput_ne (Or.inl (by decide)), nput_ne (Or.inl (by decide)), nput_ne (Or.inl (by decide)), nput_ne (Or.inl (by decide)), nset_ne (by decide), nset_ne (by decide), nput_ne (Or.inr (by decide)), psC_lt (by decide), nset_ne (by decide), nput_ne (Or.inr (by decide)), nset_ne (by decide), nput_ne (Or.inr (by decide)), nset_ne (by decide), nput_ne (Or.inr (by decide)), nset_ne (by decide), nput_ne (Or.inr (by decide)), nset_ne (by decide), nput_ne (Or.inr (by decide)), nput_ne (Or.inl (by decide)), nput_ne (Or.inl (by decide)), nput_ne (Or.inl (by decide)), nput_ne (Or.inl (by decide)), nput_ne (Or.inl (by decide)), nset_ne (by decide), nput_ne (Or.inr (by decide)), seC_lt (by decide), nset_ne (by decide), nput_ne (Or.inr (by decide)), nset_ne (by decide), nput_self]) ?_
  refine nw_iload_n F dc_X8_init_143 rfl ?_
  refine nx_new (ci := 5) F tyX5 dc_X8_init_144 rfl tyX5_ok (by decide +kernel) (by decide) cl_RX8_30 is_5 in_5 (by rw [h1]; decide) (by rw [h2]; decide) ?_
  refine nw_dup F dc_X8_init_147 rfl ?_
  refine nx_callN (M' := mX5_init) F dc_X8_init_148 ic_5 in_5 ii_5 ⟨by decide +kernel, by decide +kernel, by decide +kernel⟩ rfl rfl (by decide) ni_RX8_77 (by decide) (Nat.le_of_ble_eq_true rfl) (by rw [h1]; decide) (by rw [h2]; decide) (n_Sheet (b := 188) hE (by decide) (by decide +kernel) (by decide +kernel)) ?_
  refine nx_aast (t := 13) (ci := 5) (j := 3) (N := 4) F dc_X8_init_151 (by decide) (by decide) (by decide) (by decide) (by decide +kernel) rfl (by decide +kernel) (fun _ => rfl) rfl (by decide) (by decide) ?_
  refine nw_iinc (v := 4) F dc_X8_init_152 rfl (by decide) (by decide) rfl ?_
  refine nw_goto (tgt := 134) F dc_X8_init_155 rfl ?_
  refine nw_iload_n F dc_X8_init_134 rfl ?_
  refine nw_iconst (v := 3) F dc_X8_init_135 rfl ?_
  refine nw_icmp_gt (tgt := 158) F dc_X8_init_136 rfl (fun _ => ?_) (fun h => absurd (by decide) h)
  exact ret _ _ dc_X8_init_158
