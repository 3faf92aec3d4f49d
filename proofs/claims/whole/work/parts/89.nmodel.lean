/-! ===== the constructor of the reference ===== -/
def mC (c : Nat → Nat → Value) : Nat → Nat → Value := (nput (nput (nput (nput (nput (nput (nput (nput (nput (nput (nput (nput (nput (nput (nput (nset (nput (nset (nput (nset (nput (nset (nput (nset (nput (nput (nput (nput (nput (nput (nput (nput (nset (nput (nset (nput (nset (nput (nset (nput (nset (nput (nset c 191 (fun _ => .int 0)) 190 0 (.ref 191)) 192 (fun _ => .int 0)) 190 1 (.ref 192)) 193 (fun _ => .int 0)) 190 2 (.ref 193)) 194 (fun _ => .int 0)) 190 4 (.ref 194)) 195 (fun _ => .int 0)) 190 5 (.ref 195)) 196 (fun _ => .null)) 196 0 (.ref 216)) 196 1 (.ref 217)) 196 2 (.ref 218)) 196 3 (.ref 219)) 196 4 (.ref 220)) 196 5 (.ref 221)) 196 6 (.ref 222)) 190 12 (.ref 196)) 197 (fun _ => .int 0)) 190 13 (.ref 197)) 198 (fun _ => .int 0)) 190 16 (.ref 198)) 199 (fun _ => .int 0)) 190 17 (.ref 199)) 200 (fun _ => .int 0)) 190 18 (.ref 200)) 201 (fun _ => .int 0)) 190 19 (.ref 201)) 191 2 (.int 1)) 191 3 (.int 5)) 191 4 (.int 4)) 191 5 (.int 1)) 191 7 (.int (-1))) 191 8 (.int (-1))) 191 9 (.int (-1))) 191 10 (.int (-1))) 191 11 (.int (-1))) 191 12 (.int (-1))) 191 13 (.int (-1))) 191 14 (.int (-1))) 191 15 (.int (-1))) 191 16 (.int (-1)))
set_option maxRecDepth 10000 in
set_option maxHeartbeats 1000000 in
theorem n_Model {E : tw_E} (hE : nw_AE E) {c : Nat → Nat → Value} : tw_Cn E 1 11 1162 mX9_init 190 191 202 c (mC c) := by
  refine nw_of hE (by decide) rfl rfl (by decide) (fun K hK hi h1 h2 F ret => ?_)
  subst hK
  refine nw_aload_n F dc_X9_init_0 rfl ?_
  refine nw_objInit F dc_X9_init_1 mo_RX9_1 o_i o_c (by decide) (by decide) ?_
  refine nw_aload_n F dc_X9_init_4 rfl ?_
  refine nw_bipush (v := 73) F dc_X9_init_5 rfl ?_
  refine nx_newa (N := 73) F dc_X9_init_7 rfl (by decide) (by decide +kernel) (by decide) (by rw [h1]; decide) (by rw [h2]; decide) ?_
  refine nx_putF (ci := 9) (j := 0) (ty := .array .int) F hi dc_X9_init_9 rfl (by decide) (by decide) (by decide) (by decide +kernel) fk_RX9_9 rfl rfl (by decide +kernel) (fun _ => rfl) (fun _ => rfl) ?_
  refine nw_aload_n F dc_X9_init_12 rfl ?_
  refine nw_bipush (v := 73) F dc_X9_init_13 rfl ?_
  refine nx_newa (N := 73) F dc_X9_init_15 rfl (by decide) (by decide +kernel) (by decide) (by rw [h1]; decide) (by rw [h2]; decide) ?_
  refine nx_putF (ci := 9) (j := 1) (ty := .array .int) F hi dc_X9_init_17 rfl (by decide) (by decide) (by decide) (by decide +kernel) fk_RX9_13 rfl rfl (by decide +kernel) (fun _ => rfl) (fun _ => rfl) ?_
  refine nw_aload_n F dc_X9_init_20 rfl ?_
  refine nw_bipush (v := 73) F dc_X9_init_21 rfl ?_
  refine nx_newa (N := 73) F dc_X9_init_23 rfl (by decide) (by decide +kernel) (by decide) (by rw [h1]; decide) (by rw [h2]; decide) ?_
  refine nx_putF (ci := 9) (j := 2) (ty := .array .int) F hi dc_X9_init_25 rfl (by decide) (by decide) (by decide) (by decide +kernel) fk_RX9_16 rfl rfl (by decide +kernel) (fun _ => rfl) (fun _ => rfl) ?_
  refine nw_aload_n F dc_X9_init_28 rfl ?_
  refine nw_bipush (v := 8) F dc_X9_init_29 rfl ?_
  refine nx_newa (N := 8) F dc_X9_init_31 rfl (by decide) (by decide +kernel) (by decide) (by rw [h1]; decide) (by rw [h2]; decide) ?_
  refine nx_putF (ci := 9) (j := 4) (ty := .array .int) F hi dc_X9_init_33 rfl (by decide) (by decide) (by decide) (by decide +kernel) fk_RX9_19 rfl rfl (by decide +kernel) (fun _ => rfl) (fun _ => rfl) ?_
  refine nw_aload_n F dc_X9_init_36 rfl ?_
  refine nw_bipush (v := 120) F dc_X9_init_37 rfl ?_
  refine nx_newa (N := 120) F dc_X9_init_39 rfl (by decide) (by decide +kernel) (by decide) (by rw [h1]; decide) (by rw [h2]; decide) ?_
  refine nx_putF (ci := 9) (j := 5) (ty := .array .int) F hi dc_X9_init_41 rfl (by decide) (by decide) (by decide) (by decide +kernel) fk_RX9_22 rfl rfl (by decide +kernel) (fun _ => rfl) (fun _ => rfl) ?_
  refine nw_aload_n F dc_X9_init_44 rfl ?_
  refine nw_bipush (v := 7) F dc_X9_init_45 rfl ?_
  refine nx_newq (t := 14) (N := 7) F dc_X9_init_47 cl_RX9_25 (by decide) (by decide) (fun _ => rfl) rfl (by decide) (by decide +kernel) (by decide) (by rw [h1]; decide) (by rw [h2]; decide) ?_
  refine nw_dup F dc_X9_init_50 rfl ?_
  refine nw_iconst (v := 0) F dc_X9_init_51 rfl ?_
  refine nw_ldcS F 14 dc_X9_init_52 rfl ?_
  refine nx_aasts (r := 14) (j := 0) (N := 7) F dc_X9_init_54 (by decide) (by decide) (by decide) (by decide +kernel) rfl (by decide) (by decide) ?_
  refine nw_dup F dc_X9_init_55 rfl ?_
  refine nw_iconst (v := 1) F dc_X9_init_56 rfl ?_
  refine nw_ldcS F 15 dc_X9_init_57 rfl ?_
  refine nx_aasts (r := 15) (j := 1) (N := 7) F dc_X9_init_59 (by decide) (by decide) (by decide) (by decide +kernel) rfl (by decide) (by decide) ?_
  refine nw_dup F dc_X9_init_60 rfl ?_
  refine nw_iconst (v := 2) F dc_X9_init_61 rfl ?_
  refine nw_ldcS F 16 dc_X9_init_62 rfl ?_
  refine nx_aasts (r := 16) (j := 2) (N := 7) F dc_X9_init_64 (by decide) (by decide) (by decide) (by decide +kernel) rfl (by decide) (by decide) ?_
  refine nw_dup F dc_X9_init_65 rfl ?_
  refine nw_iconst (v := 3) F dc_X9_init_66 rfl ?_
  refine nw_ldcS F 17 dc_X9_init_67 rfl ?_
  refine nx_aasts (r := 17) (j := 3) (N := 7) F dc_X9_init_69 (by decide) (by decide) (by decide) (by decide +kernel) rfl (by decide) (by decide) ?_
  refine nw_dup F dc_X9_init_70 rfl ?_
  refine nw_iconst (v := 4) F dc_X9_init_71 rfl ?_
  refine nw_ldcS F 18 dc_X9_init_72 rfl ?_
  refine nx_aasts (r := 18) (j := 4) (N := 7) F dc_X9_init_74 (by decide) (by decide) (by decide) (by decide +kernel) rfl (by decide) (by decide) ?_
  refine nw_dup F dc_X9_init_75 rfl ?_
  refine nw_iconst (v := 5) F dc_X9_init_76 rfl ?_
  refine nw_ldcS F 19 dc_X9_init_77 rfl ?_
  refine nx_aasts (r := 19) (j := 5) (N := 7) F dc_X9_init_79 (by decide) (by decide) (by decide) (by decide +kernel) rfl (by decide) (by decide) ?_
  refine nw_dup F dc_X9_init_80 rfl ?_
  refine nw_bipush (v := 6) F dc_X9_init_81 rfl ?_
  refine nw_ldcS F 20 dc_X9_init_83 rfl ?_
  refine nx_aasts (r := 20) (j := 6) (N := 7) F dc_X9_init_85 (by decide) (by decide) (by decide) (by decide +kernel) rfl (by decide) (by decide) ?_
  refine nx_putF (ci := 9) (j := 12) (ty := .array (.object "java/lang/String")) F hi dc_X9_init_86 rfl (by decide) (by decide) (by decide) (by decide +kernel) fk_RX9_41 rfl rfl (by decide +kernel) (fun _ => rfl) (fun _ => rfl) ?_
  refine nw_aload_n F dc_X9_init_89 rfl ?_
  refine nw_sipush (v := 600) F dc_X9_init_90 rfl ?_
  refine nx_newa (N := 600) F dc_X9_init_93 rfl (by decide) (by decide +kernel) (by decide) (by rw [h1]; decide) (by rw [h2]; decide) ?_
  refine nx_putF (ci := 9) (j := 13) (ty := .array .int) F hi dc_X9_init_95 rfl (by decide) (by decide) (by decide) (by decide +kernel) fk_RX9_45 rfl rfl (by decide +kernel) (fun _ => rfl) (fun _ => rfl) ?_
  refine nw_aload_n F dc_X9_init_98 rfl ?_
  refine nw_iconst (v := 4) F dc_X9_init_99 rfl ?_
  refine nx_newa (N := 4) F dc_X9_init_100 rfl (by decide) (by decide +kernel) (by decide) (by rw [h1]; decide) (by rw [h2]; decide) ?_
  refine nx_putF (ci := 9) (j := 16) (ty := .array .int) F hi dc_X9_init_102 rfl (by decide) (by decide) (by decide) (by decide +kernel) fk_RX9_48 rfl rfl (by decide +kernel) (fun _ => rfl) (fun _ => rfl) ?_
  refine nw_aload_n F dc_X9_init_105 rfl ?_
  refine nw_iconst (v := 4) F dc_X9_init_106 rfl ?_
  refine nx_newa (N := 4) F dc_X9_init_107 rfl (by decide) (by decide +kernel) (by decide) (by rw [h1]; decide) (by rw [h2]; decide) ?_
  refine nx_putF (ci := 9) (j := 17) (ty := .array .int) F hi dc_X9_init_109 rfl (by decide) (by decide) (by decide) (by decide +kernel) fk_RX9_51 rfl rfl (by decide +kernel) (fun _ => rfl) (fun _ => rfl) ?_
  refine nw_aload_n F dc_X9_init_112 rfl ?_
  refine nw_sipush (v := 160) F dc_X9_init_113 rfl ?_
  refine nx_newa (N := 160) F dc_X9_init_116 rfl (by decide) (by decide +kernel) (by decide) (by rw [h1]; decide) (by rw [h2]; decide) ?_
  refine nx_putF (ci := 9) (j := 18) (ty := .array .int) F hi dc_X9_init_118 rfl (by decide) (by decide) (by decide) (by decide +kernel) fk_RX9_54 rfl rfl (by decide +kernel) (fun _ => rfl) (fun _ => rfl) ?_
  refine nw_aload_n F dc_X9_init_121 rfl ?_
  refine nw_bipush (v := 40) F dc_X9_init_122 rfl ?_
  refine nx_newa (N := 40) F dc_X9_init_124 rfl (by decide) (by decide +kernel) (by decide) (by rw [h1]; decide) (by rw [h2]; decide) ?_
  refine nx_putF (ci := 9) (j := 19) (ty := .array .int) F hi dc_X9_init_126 rfl (by decide) (by decide) (by decide) (by decide +kernel) fk_RX9_57 rfl rfl (by decide +kernel) (fun _ => rfl) (fun _ => rfl) ?_
  refine nw_aload_n F dc_X9_init_129 rfl ?_
  refine nx_getR (ci := 9) (j := 0) (r := 191) F dc_X9_init_130 rfl (by decide) (by decide) (by decide) (by decide +kernel) fk_RX9_9 (by rw [nput_ne (Or.inr (by decide)), nset_ne (by decide), nput_ne (Or.inr (by decide)), nset_ne (by decide), nput_ne (Or.inr (by decide)), nset_ne (by decide), nput_ne (Or.inr (by decide)), nset_ne (by decide), nput_ne (Or.inr (by decide)), nset_ne (by decide), nput_ne (Or.inr (by decide)), nput_ne (Or.inl (by decide)), nput_ne (Or.inl (by decide)), nput_ne (Or.inl (by decide)), nput_ne (Or.inl (by decide)), nput_ne (Or.inl (by decide)), nput_ne (Or.inl (by decide)), nput_ne (Or.inl (by decide)), nset_ne (by decide), nput_ne (Or.inr (by decide)), nset_ne (by decide), nput_ne (Or.inr (by decide)), nset_ne (by decide), nput_ne (Or.inr (by decide)), nset_ne (by decide), nput_ne (Or.inr (by decide)), nset_ne (by decide), nput_self]) ?_
  refine nw_iconst (v := 2) F dc_X9_init_133 rfl ?_
  refine nw_iconst (v := 1) F dc_X9_init_134 rfl ?_
  refine nx_iast (j := 2) (N := 73) F dc_X9_init_135 (by decide) (by decide) (by decide +kernel) rfl (by decide) (by decide) ?_
  refine nw_aload_n F dc_X9_init_136 rfl ?_
  refine nx_getR (ci := 9) (j := 0) (r := 191) F dc_X9_init_137 rfl (by decide) (by decide) (by decide) (by decide +kernel) fk_RX9_9 (by rw [nput_ne (Or.inl (by decide)), nput_ne (Or.inr (by decide)), nset_ne (by decide), nput_ne (Or.inr (by decide)), nset_ne (by decide), nput_ne (Or.inr (by decide)), nset_ne (by decide), nput_ne (Or.inr (by decide)), nset_ne (by decide), nput_ne (Or.inr (by decide)), nset_ne (by decide), nput_ne (Or.inr (by decide)), nput_ne (Or.inl (by decide)), nput_ne (Or.inl (by decide)), nput_ne (Or.inl (by decide)), nput_ne (Or.inl (by decide)), nput_ne (Or.inl (by decide)), nput_ne (Or.inl (by decide)), nput_ne (Or.inl (by decide)), nset_ne (by decide), nput_ne (Or.inr (by decide)), nset_ne (by decide), nput_ne (Or.inr (by decide)), nset_ne (by decide), nput_ne (Or.inr (by decide)), nset_ne (by decide), nput_ne (Or.inr (by decide)), nset_ne (by decide), nput_self]) ?_
  refine nw_iconst (v := 3) F dc_X9_init_140 rfl ?_
  refine nw_iconst (v := 5) F dc_X9_init_141 rfl ?_
  refine nx_iast (j := 3) (N := 73) F dc_X9_init_142 (by decide) (by decide) (by decide +kernel) rfl (by decide) (by decide) ?_
  refine nw_aload_n F dc_X9_init_143 rfl ?_
  refine nx_getR (ci := 9) (j := 0) (r := 191) F dc_X9_init_144 rfl (by decide) (by decide) (by decide) (by decide +kernel) fk_RX9_9 (by rw [nput_ne (Or.inl (by decide)), nput_ne (Or.inl (by decide)), nput_ne (Or.inr (by decide)), nset_ne (by decide), nput_ne (Or.inr (by decide)), nset_ne (by decide), nput_ne (Or.inr (by decide)), nset_ne (by decide), nput_ne (Or.inr (by decide)), nset_ne (by decide), nput_ne (Or.inr (by decide)), nset_ne (by decide), nput_ne (Or.inr (by decide)), nput_ne (Or.inl (by decide)), nput_ne (Or.inl (by decide)), nput_ne (Or.inl (by decide)), nput_ne (Or.inl (by decide)), nput_ne (Or.inl (by decide)), nput_ne (Or.inl (by decide)), nput_ne (Or.inl (by decide)), nset_ne (by decide), nput_ne (Or.inr (by decide)), nset_ne (by decide), nput_ne (Or.inr (by decide)), nset_ne (by decide), nput_ne (Or.inr (by decide)), nset_ne (by decide), nput_ne (Or.inr (by decide)), nset_ne (by decide), nput_self]) ?_
  refine nw_iconst (v := 4) F dc_X9_init_147 rfl ?_
  refine nw_iconst (v := 4) F dc_X9_init_148 rfl ?_
  refine nx_iast (j := 4) (N := 73) F dc_X9_init_149 (by decide) (by decide) (by decide +kernel) rfl (by decide) (by decide) ?_
  refine nw_aload_n F dc_X9_init_150 rfl ?_
  refine nx_getR (ci := 9) (j := 0) (r := 191) F dc_X9_init_151 rfl (by decide) (by decide) (by decide) (by decide +kernel) fk_RX9_9 (by rw [nput_ne (Or.inl (by decide)), nput_ne (Or.inl (by decide)), nput_ne (Or.inl (by decide)), nput_ne (Or.inr (by decide)), nset_ne (by decide), nput_ne (Or.inr (by decide)), nset_ne (by decide), nput_ne (Or.inr (by decide)), nset_ne (by decide), nput_ne (Or.inr (by decide)), nset_ne (by decide), nput_ne (Or.inr (by decide)), nset_ne (by decide), nput_ne (Or.inr (by decide)), nput_ne (Or.inl (by decide)), nput_ne (Or.inl (by decide)), nput_ne (Or.inl (by decide)), nput_ne (Or.inl (by decide)), nput_ne (Or.inl (by decide)), nput_ne (Or.inl (by decide)), nput_ne (Or.inl (by decide)), nset_ne (by decide), nput_ne (Or.inr (by decide)), nset_ne (by decide), nput_ne (Or.inr (by decide)), nset_ne (by decide), nput_ne (Or.inr (by decide)), nset_ne (by decide), nput_ne (Or.inr (by decide)), nset_ne (by decide), nput_self]) ?_
  refine nw_iconst (v := 5) F dc_X9_init_154 rfl ?_
  refine nw_iconst (v := 1) F dc_X9_init_155 rfl ?_
  refine nx_iast (j := 5) (N := 73) F dc_X9_init_156 (by decide) (by decide) (by decide +kernel) rfl (by decide) (by decide) ?_
  refine nw_iconst (v := 0) F dc_X9_init_157 rfl ?_
  refine nw_istore_n F dc_X9_init_158 (by decide) rfl ?_
  refine nw_iload_n F dc_X9_init_159 rfl ?_
  refine nw_bipush (v := 10) F dc_X9_init_160 rfl ?_
  refine nw_icmp_ge (tgt := 181) F dc_X9_init_162 rfl (fun h => absurd h (by decide)) (fun _ => ?_)
  refine nw_aload_n F dc_X9_init_165 rfl ?_
  refine nx_getR (ci := 9) (j := 0) (r := 191) F dc_X9_init_166 rfl (by decide) (by decide) (by decide) (by decide +kernel) fk_RX9_9 (by rw [nput_ne (Or.inl (by decide)), nput_ne (Or.inl (by decide)), nput_ne (Or.inl (by decide)), nput_ne (Or.inl (by decide)), nput_ne (Or.inr (by decide)), nset_ne (by decide), nput_ne (Or.inr (by decide)), nset_ne (by decide), nput_ne (Or.inr (by decide)), nset_ne (by decide), nput_ne (Or.inr (by decide)), nset_ne (by decide), nput_ne (Or.inr (by decide)), nset_ne (by decide), nput_ne (Or.inr (by decide)), nput_ne (Or.inl (by decide)), nput_ne (Or.inl (by decide)), nput_ne (Or.inl (by decide)), nput_ne (Or.inl (by decide)), nput_ne (Or.inl (by decide)), nput_ne (Or.inl (by decide)), nput_ne (Or.inl (by decide)), nset_ne (by decide), nput_ne (Or.inr (by decide)), nset_ne (by decide), nput_ne (Or.inr (by decide)), nset_ne (by decide), nput_ne (Or.inr (by decide)), nset_ne (by decide), nput_ne (Or.inr (by decide)), nset_ne (by decide), nput_self]) ?_
  refine nw_bipush (v := 7) F dc_X9_init_169 rfl ?_
  refine nw_iload_n F dc_X9_init_171 rfl ?_
  refine nw_iadd F dc_X9_init_172 ?_
  refine nw_iconst (v := -1) F dc_X9_init_173 rfl ?_
  refine nx_iast (j := 7) (N := 73) F dc_X9_init_174 (by decide) (by decide) (by decide +kernel) (by decide) (by decide) (by decide) ?_
  refine nw_iinc (v := 1) F dc_X9_init_175 rfl (by decide) (by decide) rfl ?_
  refine nw_goto (tgt := 159) F dc_X9_init_178 rfl ?_
  refine nw_iload_n F dc_X9_init_159 rfl ?_
  refine nw_bipush (v := 10) F dc_X9_init_160 rfl ?_
  refine nw_icmp_ge (tgt := 181) F dc_X9_init_162 rfl (fun h => absurd h (by decide)) (fun _ => ?_)
  refine nw_aload_n F dc_X9_init_165 rfl ?_
  refine nx_getR (ci := 9) (j := 0) (r := 191) F dc_X9_init_166 rfl (by decide) (by decide) (by decide) (by decide +kernel) fk_RX9_9 (by rw [nput_ne (Or.inl (by decide)), nput_ne (Or.inl (by decide)), nput_ne (Or.inl (by decide)), nput_ne (Or.inl (by decide)), nput_ne (Or.inl (by decide)), nput_ne (Or.inr (by decide)), nset_ne (by decide), nput_ne (Or.inr (by decide)), nset_ne (by decide), nput_ne (Or.inr (by decide)), nset_ne (by decide), nput_ne (Or.inr (by decide)), nset_ne (by decide), nput_ne (Or.inr (by decide)), nset_ne (by decide), nput_ne (Or.inr (by decide)), nput_ne (Or.inl (by decide)), nput_ne (Or.inl (by decide)), nput_ne (Or.inl (by decide)), nput_ne (Or.inl (by decide)), nput_ne (Or.inl (by decide)), nput_ne (Or.inl (by decide)), nput_ne (Or.inl (by decide)), nset_ne (by decide), nput_ne (Or.inr (by decide)), nset_ne (by decide), nput_ne (Or.inr (by decide)), nset_ne (by decide), nput_ne (Or.inr (by decide)), nset_ne (by decide), nput_ne (Or.inr (by decide)), nset_ne (by decide), nput_self]) ?_
  refine nw_bipush (v := 7) F dc_X9_init_169 rfl ?_
  refine nw_iload_n F dc_X9_init_171 rfl ?_
  refine nw_iadd F dc_X9_init_172 ?_
  refine nw_iconst (v := -1) F dc_X9_init_173 rfl ?_
  refine nx_iast (j := 8) (N := 73) F dc_X9_init_174 (by decide) (by decide) (by decide +kernel) (by decide) (by decide) (by decide) ?_
  refine nw_iinc (v := 2) F dc_X9_init_175 rfl (by decide) (by decide) rfl ?_
  refine nw_goto (tgt := 159) F dc_X9_init_178 rfl ?_
  refine nw_iload_n F dc_X9_init_159 rfl ?_
  refine nw_bipush (v := 10) F dc_X9_init_160 rfl ?_
  refine nw_icmp_ge (tgt := 181) F dc_X9_init_162 rfl (fun h => absurd h (by decide)) (fun _ => ?_)
  refine nw_aload_n F dc_X9_init_165 rfl ?_
  refine nx_getR (ci := 9) (j := 0) (r := 191) F dc_X9_init_166 rfl (by decide) (by decide) (by decide) (by decide +kernel) fk_RX9_9 (by rw [nput_ne (Or.inl (by decide)), nput_ne (Or.inl (by decide)), nput_ne (Or.inl (by decide)), nput_ne (Or.inl (by decide)), nput_ne (Or.inl (by decide)), nput_ne (Or.inl (by decide)), nput_ne (Or.inr (by decide)), nset_ne (by decide), nput_ne (Or.inr (by decide)), nset_ne (by decide), nput_ne (Or.inr (by decide)), nset_ne (by decide), nput_ne (Or.inr (by decide)), nset_ne (by decide), nput_ne (Or.inr (by decide)), nset_ne (by decide), nput_ne (Or.inr (by decide)), nput_ne (Or.inl (by decide)), nput_ne (Or.inl (by decide)), nput_ne (Or.inl (by decide)), nput_ne (Or.inl (by decide)), nput_ne (Or.inl (by decide)), nput_ne (Or.inl (by decide)), nput_ne (Or.inl (by decide)), nset_ne (by decide), nput_ne (Or.inr (by decide)), nset_ne (by decide), nput_ne (Or.inr (by decide)), nset_ne (by decide), nput_ne (Or.inr (by decide)), nset_ne (by decide), nput_ne (Or.inr (by decide)), nset_ne (by decide), nput_self]) ?_
  refine nw_bipush (v := 7) F dc_X9_init_169 rfl ?_
  refine nw_iload_n F dc_X9_init_171 rfl ?_
  refine nw_iadd F dc_X9_init_172 ?_
  refine nw_iconst (v := -1) F dc_X9_init_173 rfl ?_
  refine nx_iast (j := 9) (N := 73) F dc_X9_init_174 (by decide) (by decide) (by decide +kernel) (by decide) (by decide) (by decide) ?_
  refine nw_iinc (v := 3) F dc_X9_init_175 rfl (by decide) (by decide) rfl ?_
  refine nw_goto (tgt := 159) F dc_X9_init_178 rfl ?_
  refine nw_iload_n F dc_X9_init_159 rfl ?_
  refine nw_bipush (v := 10) F dc_X9_init_160 rfl ?_
  refine nw_icmp_ge (tgt := 181) F dc_X9_init_162 rfl (fun h => absurd h (by decide)) (fun _ => ?_)
  refine nw_aload_n F dc_X9_init_165 rfl ?_
  refine nx_getR (ci := 9) (j := 0) (r := 191) F dc_X9_init_166 rfl (by decide) (by decide) (by decide) (by decide +kernel) fk_RX9_9 (by rw [nput_ne (Or.inl (by decide)), nput_ne (Or.inl (by decide)), nput_ne (Or.inl (by decide)), nput_ne (Or.inl (by decide)), nput_ne (Or.inl (by decide)), nput_ne (Or.inl (by decide)), nput_ne (Or.inl (by decide)), nput_ne (Or.inr (by decide)), nset_ne (by decide), nput_ne (Or.inr (by decide)), nset_ne (by decide), nput_ne (Or.inr (by decide)), nset_ne (by decide), nput_ne (Or.inr (by decide)), nset_ne (by decide), nput_ne (Or.inr (by decide)), nset_ne (by decide), nput_ne (Or.inr (by decide)), nput_ne (Or.inl (by decide)), nput_ne (Or.inl (by decide)), nput_ne (Or.inl (by decide)), nput_ne (Or.inl (by decide)), nput_ne (Or.inl (by decide)), nput_ne (Or.inl (by decide)), nput_ne (Or.inl (by decide)), nset_ne (by decide), nput_ne (Or.inr (by decide)), nset_ne (by decide), nput_ne (Or.inr (by decide)), nset_ne (by decide), nput_ne (Or.inr (by decide)), nset_ne (by decide), nput_ne (Or.inr (by decide)), nset_ne (by decide), nput_self]) ?_
  refine nw_bipush (v := 7) F dc_X9_init_169 rfl ?_
  refine nw_iload_n F dc_X9_init_171 rfl ?_
  refine nw_iadd F dc_X9_init_172 ?_
  refine nw_iconst (v := -1) F dc_X9_init_173 rfl ?_
  refine nx_iast (j := 10) (N := 73) F dc_X9_init_174 (by decide) (by decide) (by decide +kernel) (by decide) (by decide) (by decide) ?_
  refine nw_iinc (v := 4) F dc_X9_init_175 rfl (by decide) (by decide) rfl ?_
  refine nw_goto (tgt := 159) F dc_X9_init_178 rfl ?_
  refine nw_iload_n F dc_X9_init_159 rfl ?_
  refine nw_bipush (v := 10) F dc_X9_init_160 rfl ?_
  refine nw_icmp_ge (tgt := 181) F dc_X9_init_162 rfl (fun h => absurd h (by decide)) (fun _ => ?_)
  refine nw_aload_n F dc_X9_init_165 rfl ?_
  refine nx_getR (ci := 9) (j := 0) (r := 191) F dc_X9_init_166 rfl (by decide) (by decide) (by decide) (by decide +kernel) fk_RX9_9 (by rw [nput_ne (Or.inl (by decide)), nput_ne (Or.inl (by decide)), nput_ne (Or.inl (by decide)), nput_ne (Or.inl (by decide)), nput_ne (Or.inl (by decide)), nput_ne (Or.inl (by decide)), nput_ne (Or.inl (by decide)), nput_ne (Or.inl (by decide)), nput_ne (Or.inr (by decide)), nset_ne (by decide), nput_ne (Or.inr (by decide)), nset_ne (by decide), nput_ne (Or.inr (by decide)), nset_ne (by decide), nput_ne (Or.inr (by decide)), nset_ne (by decide), nput_ne (Or.inr (by decide)), nset_ne (by decide), nput_ne (Or.inr (by decide)), nput_ne (Or.inl (by decide)), nput_ne (Or.inl (by decide)), nput_ne (Or.inl (by decide)), nput_ne (Or.inl (by decide)), nput_ne (Or.inl (by decide)), nput_ne (Or.inl (by decide)), nput_ne (Or.inl (by decide)), nset_ne (by decide), nput_ne (Or.inr (by decide)), nset_ne (by decide), nput_ne (Or.inr (by decide)), nset_ne (by decide), nput_ne (Or.inr (by decide)), nset_ne (by decide), nput_ne (Or.inr (by decide)), nset_ne (by decide), nput_self]) ?_
  refine nw_bipush (v := 7) F dc_X9_init_169 rfl ?_
  refine nw_iload_n F dc_X9_init_171 rfl ?_
  refine nw_iadd F dc_X9_init_172 ?_
  refine nw_iconst (v := -1) F dc_X9_init_173 rfl ?_
  refine nx_iast (j := 11) (N := 73) F dc_X9_init_174 (by decide) (by decide) (by decide +kernel) (by decide) (by decide) (by decide) ?_
  refine nw_iinc (v := 5) F dc_X9_init_175 rfl (by decide) (by decide) rfl ?_
  refine nw_goto (tgt := 159) F dc_X9_init_178 rfl ?_
  refine nw_iload_n F dc_X9_init_159 rfl ?_
  refine nw_bipush (v := 10) F dc_X9_init_160 rfl ?_
  refine nw_icmp_ge (tgt := 181) F dc_X9_init_162 rfl (fun h => absurd h (by decide)) (fun _ => ?_)
  refine nw_aload_n F dc_X9_init_165 rfl ?_
  refine nx_getR (ci := 9) (j := 0) (r := 191) F dc_X9_init_166 rfl (by decide) (by decide) (by decide) (by decide +kernel) fk_RX9_9 (by rw [nput_ne (Or.inl (by decide)), nput_ne (Or.inl (by decide)), nput_ne (Or.inl (by decide)), nput_ne (Or.inl (by decide)), nput_ne (Or.inl (by decide)), nput_ne (Or.inl (by decide)), nput_ne (Or.inl (by decide)), nput_ne (Or.inl (by decide)), nput_ne (Or.inl (by decide)), nput_ne (Or.inr (by decide)), nset_ne (by decide), nput_ne (Or.inr (by decide)), nset_ne (by decide), nput_ne (Or.inr (by decide)), nset_ne (by decide), nput_ne (Or.inr (by decide)), nset_ne (by decide), nput_ne (Or.inr (by decide)), nset_ne (by decide), nput_ne (Or.inr (by decide)), nput_ne (Or.inl (by decide)), nput_ne (Or.inl (by decide)), nput_ne (Or.inl (by decide)), nput_ne (Or.inl (by decide)), nput_ne (Or.inl (by decide)), nput_ne (Or.inl (by decide)), nput_ne (Or.inl (by decide)), nset_ne (by decide), nput_ne (Or.inr (by decide)), nset_ne (by decide), nput_ne (Or.inr (by decide)), nset_ne (by decide), nput_ne (Or.inr (by decide)), nset_ne (by decide), nput_ne (Or.inr (by decide)), nset_ne (by decide), nput_self]) ?_
  refine nw_bipush (v := 7) F dc_X9_init_169 rfl ?_
  refine nw_iload_n F dc_X9_init_171 rfl ?_
  refine nw_iadd F dc_X9_init_172 ?_
  refine nw_iconst (v := -1) F dc_X9_init_173 rfl ?_
  refine nx_iast (j := 12) (N := 73) F dc_X9_init_174 (by decide) (by decide) (by decide +kernel) (by decide) (by decide) (by decide) ?_
  refine nw_iinc (v := 6) F dc_X9_init_175 rfl (by decide) (by decide) rfl ?_
  refine nw_goto (tgt := 159) F dc_X9_init_178 rfl ?_
  refine nw_iload_n F dc_X9_init_159 rfl ?_
  refine nw_bipush (v := 10) F dc_X9_init_160 rfl ?_
  refine nw_icmp_ge (tgt := 181) F dc_X9_init_162 rfl (fun h => absurd h (by decide)) (fun _ => ?_)
  refine nw_aload_n F dc_X9_init_165 rfl ?_
  refine nx_getR (ci := 9) (j := 0) (r := 191) F dc_X9_init_166 rfl (by decide) (by decide) (by decide) (by decide +kernel) fk_RX9_9 (by rw [nput_ne (Or.inl (by decide)), nput_ne (Or.inl (by decide)), nput_ne (Or.inl (by decide)), nput_ne (Or.inl (by decide)), nput_ne (Or.inl (by decide)), nput_ne (Or.inl (by decide)), nput_ne (Or.inl (by decide)), nput_ne (Or.inl (by decide)), nput_ne (Or.inl (by decide)), nput_ne (Or.inl (by decide)), nput_ne (Or.inr (by decide)), nset_ne (by decide), nput_ne (Or.inr (by decide)), nset_ne (by decide), nput_ne (Or.inr (by decide)), nset_ne (by decide), nput_ne (Or.inr (by decide)), nset_ne (by decide), nput_ne (Or.inr (by decide)), nset_ne (by decide), nput_ne (Or.inr (by decide)), nput_ne (Or.inl (by decide)), nput_ne (Or.inl (by decide)), nput_ne (Or.inl (by decide)), nput_ne (Or.inl (by decide)), nput_ne (Or.inl (by decide)), nput_ne (Or.inl (by decide)), nput_ne (Or.inl (by decide)), nset_ne (by decide), nput_ne (Or.inr (by decide)), nset_ne (by decide), nput_ne (Or.inr (by decide)), nset_ne (by decide), nput_ne (Or.inr (by decide)), nset_ne (by decide), nput_ne (Or.inr (by decide)), nset_ne (by decide), nput_self]) ?_
  refine nw_bipush (v := 7) F dc_X9_init_169 rfl ?_
  refine nw_iload_n F dc_X9_init_171 rfl ?_
  refine nw_iadd F dc_X9_init_172 ?_
  refine nw_iconst (v := -1) F dc_X9_init_173 rfl ?_
  refine nx_iast (j := 13) (N := 73) F dc_X9_init_174 (by decide) (by decide) (by decide +kernel) (by decide) (by decide) (by decide) ?_
  refine nw_iinc (v := 7) F dc_X9_init_175 rfl (by decide) (by decide) rfl ?_
  refine nw_goto (tgt := 159) F dc_X9_init_178 rfl ?_
  refine nw_iload_n F dc_X9_init_159 rfl ?_
  refine nw_bipush (v := 10) F dc_X9_init_160 rfl ?_
  refine nw_icmp_ge (tgt := 181) F dc_X9_init_162 rfl (fun h => absurd h (by decide)) (fun _ => ?_)
  refine nw_aload_n F dc_X9_init_165 rfl ?_
  refine nx_getR (ci := 9) (j := 0) (r := 191) F dc_X9_init_166 rfl (by decide) (by decide) (by decide) (by decide +kernel) fk_RX9_9 (by rw [nput_ne (Or.inl (by decide)), nput_ne (Or.inl (by decide)), nput_ne (Or.inl (by decide)), nput_ne (Or.inl (by decide)), nput_ne (Or.inl (by decide)), nput_ne (Or.inl (by decide)), nput_ne (Or.inl (by decide)), nput_ne (Or.inl (by decide)), nput_ne (Or.inl (by decide)), nput_ne (Or.inl (by decide)), nput_ne (Or.inl (by decide)), nput_ne (Or.inr (by decide)), nset_ne (by decide), nput_ne (Or.inr (by decide)), nset_ne (by decide), nput_ne (Or.inr (by decide)), nset_ne (by decide), nput_ne (Or.inr (by decide)), nset_ne (by decide), nput_ne (Or.inr (by decide)), nset_ne (by decide), nput_ne (Or.inr (by decide)), nput_ne (Or.inl (by decide)), nput_ne (Or.inl (by decide)), nput_ne (Or.inl (by decide)), nput_ne (Or.inl (by decide)), nput_ne (Or.inl (by decide)), nput_ne (Or.inl (by decide)), nput_ne (Or.inl (by decide)), nset_ne (by decide), nput_ne (Or.inr (by decide)), nset_ne (by decide), nput_ne (Or.inr (by decide)), nset_ne (by decide), nput_ne (Or.inr (by decide)), nset_ne (by decide), nput_ne (Or.inr (by decide)), nset_ne (by decide), nput_self]) ?_
  refine nw_bipush (v := 7) F dc_X9_init_169 rfl ?_
  refine nw_iload_n F dc_X9_init_171 rfl ?_
  refine nw_iadd F dc_X9_init_172 ?_
  refine nw_iconst (v := -1) F dc_X9_init_173 rfl ?_
  refine nx_iast (j := 14) (N := 73) F dc_X9_init_174 (by decide) (by decide) (by decide +kernel) (by decide) (by decide) (by decide) ?_
  refine nw_iinc (v := 8) F dc_X9_init_175 rfl (by decide) (by decide) rfl ?_
  refine nw_goto (tgt := 159) F dc_X9_init_178 rfl ?_
  refine nw_iload_n F dc_X9_init_159 rfl ?_
  refine nw_bipush (v := 10) F dc_X9_init_160 rfl ?_
  refine nw_icmp_ge (tgt := 181) F dc_X9_init_162 rfl (fun h => absurd h (by decide)) (fun _ => ?_)
  refine nw_aload_n F dc_X9_init_165 rfl ?_
  refine nx_getR (ci := 9) (j := 0) (r := 191) F dc_X9_init_166 rfl (by decide) (by decide) (by decide) (by decide +kernel) fk_RX9_9 (by rw [nput_ne (Or.inl (by decide)), nput_ne (Or.inl (by decide)), nput_ne (Or.inl (by decide)), nput_ne (Or.inl (by decide)), nput_ne (Or.inl (by decide)), nput_ne (Or.inl (by decide)), nput_ne (Or.inl (by decide)), nput_ne (Or.inl (by decide)), nput_ne (Or.inl (by decide)), nput_ne (Or.inl (by decide)), nput_ne (Or.inl (by decide)), nput_ne (Or.inl (by decide)), nput_ne (Or.inr (by decide)), nset_ne (by decide), nput_ne (Or.inr (by decide)), nset_ne (by decide), nput_ne (Or.inr (by decide)), nset_ne (by decide), nput_ne (Or.inr (by decide)), nset_ne (by decide), nput_ne (Or.inr (by decide)), nset_ne (by decide), nput_ne (Or.inr (by decide)), nput_ne (Or.inl (by decide)), nput_ne (Or.inl (by decide)), nput_ne (Or.inl (by decide)), nput_ne (Or.inl (by decide)), nput_ne (Or.inl (by decide)), nput_ne (Or.inl (by decide)), nput_ne (Or.inl (by decide)), nset_ne (by decide), nput_ne (Or.inr (by decide)), nset_ne (by decide), nput_ne (Or.inr (by decide)), nset_ne (by decide), nput_ne (Or.inr (by decide)), nset_ne (by decide), nput_ne (Or.inr (by decide)), nset_ne (by decide), nput_self]) ?_
  refine nw_bipush (v := 7) F dc_X9_init_169 rfl ?_
  refine nw_iload_n F dc_X9_init_171 rfl ?_
  refine nw_iadd F dc_X9_init_172 ?_
  refine nw_iconst (v := -1) F dc_X9_init_173 rfl ?_
  refine nx_iast (j := 15) (N := 73) F dc_X9_init_174 (by decide) (by decide) (by decide +kernel) (by decide) (by decide) (by decide) ?_
  refine nw_iinc (v := 9) F dc_X9_init_175 rfl (by decide) (by decide) rfl ?_
  refine nw_goto (tgt := 159) F dc_X9_init_178 rfl ?_
  refine nw_iload_n F dc_X9_init_159 rfl ?_
  refine nw_bipush (v := 10) F dc_X9_init_160 rfl ?_
  refine nw_icmp_ge (tgt := 181) F dc_X9_init_162 rfl (fun h => absurd h (by decide)) (fun _ => ?_)
  refine nw_aload_n F dc_X9_init_165 rfl ?_
  refine nx_getR (ci := 9) (j := 0) (r := 191) F dc_X9_init_166 rfl (by decide) (by decide) (by decide) (by decide +kernel) fk_RX9_9 (by rw [nput_ne (Or.inl (by decide)), nput_ne (Or.inl (by decide)), nput_ne (Or.inl (by decide)), nput_ne (Or.inl (by decide)), nput_ne (Or.inl (by decide)), nput_ne (Or.inl (by decide)), nput_ne (Or.inl (by decide)), nput_ne (Or.inl (by decide)), nput_ne (Or.inl (by decide)), nput_ne (Or.inl (by decide)), nput_ne (Or.inl (by decide)), nput_ne (Or.inl (by decide)), nput_ne (Or.inl (by decide)), nput_ne (Or.inr (by decide)), nset_ne (by decide), nput_ne (Or.inr (by decide)), nset_ne (by decide), nput_ne (Or.inr (by decide)), nset_ne (by decide), nput_ne (Or.inr (by decide)), nset_ne (by decide), nput_ne (Or.inr (by decide)), nset_ne (by decide), nput_ne (Or.inr (by decide)), nput_ne (Or.inl (by decide)), nput_ne (Or.inl (by decide)), nput_ne (Or.inl (by decide)), nput_ne (Or.inl (by decide)), nput_ne (Or.inl (by decide)), nput_ne (Or.inl (by decide)), nput_ne (Or.inl (by decide)), nset_ne (by decide), nput_ne (Or.inr (by decide)), nset_ne (by decide), nput_ne (Or.inr (by decide)), nset_ne (by decide), nput_ne (Or.inr (by decide)), nset_ne (by decide), nput_ne (Or.inr (by decide)), nset_ne (by decide), nput_self]) ?_
  refine nw_bipush (v := 7) F dc_X9_init_169 rfl ?_
  refine nw_iload_n F dc_X9_init_171 rfl ?_
  refine nw_iadd F dc_X9_init_172 ?_
  refine nw_iconst (v := -1) F dc_X9_init_173 rfl ?_
  refine nx_iast (j := 16) (N := 73) F dc_X9_init_174 (by decide) (by decide) (by decide +kernel) (by decide) (by decide) (by decide) ?_
  refine nw_iinc (v := 10) F dc_X9_init_175 rfl (by decide) (by decide) rfl ?_
  refine nw_goto (tgt := 159) F dc_X9_init_178 rfl ?_
  refine nw_iload_n F dc_X9_init_159 rfl ?_
  refine nw_bipush (v := 10) F dc_X9_init_160 rfl ?_
  refine nw_icmp_ge (tgt := 181) F dc_X9_init_162 rfl (fun _ => ?_) (fun h => absurd (by decide) h)
  exact ret _ _ dc_X9_init_181
