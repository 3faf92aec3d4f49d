theorem dc_X9_init_0 : decode mX9_init.2.1 0 = .ok (.aload_n 0, 1) := by decide +kernel
theorem dc_X9_init_1 : decode mX9_init.2.1 1 = .ok (.invokespecial 1, 3) := by decide +kernel
theorem dc_X9_init_4 : decode mX9_init.2.1 4 = .ok (.aload_n 0, 1) := by decide +kernel
theorem dc_X9_init_5 : decode mX9_init.2.1 5 = .ok (.bipush 73, 2) := by decide +kernel
theorem dc_X9_init_7 : decode mX9_init.2.1 7 = .ok (.newarray .int, 2) := by decide +kernel
theorem dc_X9_init_9 : decode mX9_init.2.1 9 = .ok (.putfield 9, 3) := by decide +kernel
theorem dc_X9_init_12 : decode mX9_init.2.1 12 = .ok (.aload_n 0, 1) := by decide +kernel
theorem dc_X9_init_13 : decode mX9_init.2.1 13 = .ok (.bipush 73, 2) := by decide +kernel
theorem dc_X9_init_15 : decode mX9_init.2.1 15 = .ok (.newarray .int, 2) := by decide +kernel
theorem dc_X9_init_17 : decode mX9_init.2.1 17 = .ok (.putfield 13, 3) := by decide +kernel
theorem dc_X9_init_20 : decode mX9_init.2.1 20 = .ok (.aload_n 0, 1) := by decide +kernel
theorem dc_X9_init_21 : decode mX9_init.2.1 21 = .ok (.bipush 73, 2) := by decide +kernel
theorem dc_X9_init_23 : decode mX9_init.2.1 23 = .ok (.newarray .int, 2) := by decide +kernel
theorem dc_X9_init_25 : decode mX9_init.2.1 25 = .ok (.putfield 16, 3) := by decide +kernel
theorem dc_X9_init_28 : decode mX9_init.2.1 28 = .ok (.aload_n 0, 1) := by decide +kernel
theorem dc_X9_init_29 : decode mX9_init.2.1 29 = .ok (.bipush 8, 2) := by decide +kernel
theorem dc_X9_init_31 : decode mX9_init.2.1 31 = .ok (.newarray .int, 2) := by decide +kernel
theorem dc_X9_init_33 : decode mX9_init.2.1 33 = .ok (.putfield 19, 3) := by decide +kernel
theorem dc_X9_init_36 : decode mX9_init.2.1 36 = .ok (.aload_n 0, 1) := by decide +kernel
theorem dc_X9_init_37 : decode mX9_init.2.1 37 = .ok (.bipush 120, 2) := by decide +kernel
theorem dc_X9_init_39 : decode mX9_init.2.1 39 = .ok (.newarray .int, 2) := by decide +kernel
theorem dc_X9_init_41 : decode mX9_init.2.1 41 = .ok (.putfield 22, 3) := by decide +kernel
theorem dc_X9_init_44 : decode mX9_init.2.1 44 = .ok (.aload_n 0, 1) := by decide +kernel
theorem dc_X9_init_45 : decode mX9_init.2.1 45 = .ok (.bipush 7, 2) := by decide +kernel
theorem dc_X9_init_47 : decode mX9_init.2.1 47 = .ok (.anewarray 25, 3) := by decide +kernel
theorem dc_X9_init_50 : decode mX9_init.2.1 50 = .ok (.dup, 1) := by decide +kernel
theorem dc_X9_init_51 : decode mX9_init.2.1 51 = .ok (.iconst 0, 1) := by decide +kernel
theorem dc_X9_init_52 : decode mX9_init.2.1 52 = .ok (.ldc 27, 2) := by decide +kernel
theorem dc_X9_init_54 : decode mX9_init.2.1 54 = .ok (.aastore, 1) := by decide +kernel
theorem dc_X9_init_55 : decode mX9_init.2.1 55 = .ok (.dup, 1) := by decide +kernel
theorem dc_X9_init_56 : decode mX9_init.2.1 56 = .ok (.iconst 1, 1) := by decide +kernel
theorem dc_X9_init_57 : decode mX9_init.2.1 57 = .ok (.ldc 29, 2) := by decide +kernel
theorem dc_X9_init_59 : decode mX9_init.2.1 59 = .ok (.aastore, 1) := by decide +kernel
theorem dc_X9_init_60 : decode mX9_init.2.1 60 = .ok (.dup, 1) := by decide +kernel
theorem dc_X9_init_61 : decode mX9_init.2.1 61 = .ok (.iconst 2, 1) := by decide +kernel
theorem dc_X9_init_62 : decode mX9_init.2.1 62 = .ok (.ldc 31, 2) := by decide +kernel
theorem dc_X9_init_64 : decode mX9_init.2.1 64 = .ok (.aastore, 1) := by decide +kernel
theorem dc_X9_init_65 : decode mX9_init.2.1 65 = .ok (.dup, 1) := by decide +kernel
theorem dc_X9_init_66 : decode mX9_init.2.1 66 = .ok (.iconst 3, 1) := by decide +kernel
theorem dc_X9_init_67 : decode mX9_init.2.1 67 = .ok (.ldc 33, 2) := by decide +kernel
theorem dc_X9_init_69 : decode mX9_init.2.1 69 = .ok (.aastore, 1) := by decide +kernel
theorem dc_X9_init_70 : decode mX9_init.2.1 70 = .ok (.dup, 1) := by decide +kernel
theorem dc_X9_init_71 : decode mX9_init.2.1 71 = .ok (.iconst 4, 1) := by decide +kernel
theorem dc_X9_init_72 : decode mX9_init.2.1 72 = .ok (.ldc 35, 2) := by decide +kernel
theorem dc_X9_init_74 : decode mX9_init.2.1 74 = .ok (.aastore, 1) := by decide +kernel
theorem dc_X9_init_75 : decode mX9_init.2.1 75 = .ok (.dup, 1) := by decide +kernel
theorem dc_X9_init_76 : decode mX9_init.2.1 76 = .ok (.iconst 5, 1) := by decide +kernel
theorem dc_X9_init_77 : decode mX9_init.2.1 77 = .ok (.ldc 37, 2) := by decide +kernel
theorem dc_X9_init_79 : decode mX9_init.2.1 79 = .ok (.aastore, 1) := by decide +kernel
theorem dc_X9_init_80 : decode mX9_init.2.1 80 = .ok (.dup, 1) := by decide +kernel
theorem dc_X9_init_81 : decode mX9_init.2.1 81 = .ok (.bipush 6, 2) := by decide +kernel
theorem dc_X9_init_83 : decode mX9_init.2.1 83 = .ok (.ldc 39, 2) := by decide +kernel
theorem dc_X9_init_85 : decode mX9_init.2.1 85 = .ok (.aastore, 1) := by decide +kernel
theorem dc_X9_init_86 : decode mX9_init.2.1 86 = .ok (.putfield 41, 3) := by decide +kernel
theorem dc_X9_init_89 : decode mX9_init.2.1 89 = .ok (.aload_n 0, 1) := by decide +kernel
theorem dc_X9_init_90 : decode mX9_init.2.1 90 = .ok (.sipush 600, 3) := by decide +kernel
theorem dc_X9_init_93 : decode mX9_init.2.1 93 = .ok (.newarray .int, 2) := by decide +kernel
theorem dc_X9_init_95 : decode mX9_init.2.1 95 = .ok (.putfield 45, 3) := by decide +kernel
theorem dc_X9_init_98 : decode mX9_init.2.1 98 = .ok (.aload_n 0, 1) := by decide +kernel
theorem dc_X9_init_99 : decode mX9_init.2.1 99 = .ok (.iconst 4, 1) := by decide +kernel
theorem dc_X9_init_100 : decode mX9_init.2.1 100 = .ok (.newarray .int, 2) := by decide +kernel
theorem dc_X9_init_102 : decode mX9_init.2.1 102 = .ok (.putfield 48, 3) := by decide +kernel
theorem dc_X9_init_105 : decode mX9_init.2.1 105 = .ok (.aload_n 0, 1) := by decide +kernel
theorem dc_X9_init_106 : decode mX9_init.2.1 106 = .ok (.iconst 4, 1) := by decide +kernel
theorem dc_X9_init_107 : decode mX9_init.2.1 107 = .ok (.newarray .int, 2) := by decide +kernel
theorem dc_X9_init_109 : decode mX9_init.2.1 109 = .ok (.putfield 51, 3) := by decide +kernel
theorem dc_X9_init_112 : decode mX9_init.2.1 112 = .ok (.aload_n 0, 1) := by decide +kernel
theorem dc_X9_init_113 : decode mX9_init.2.1 113 = .ok (.sipush 160, 3) := by decide +kernel
theorem dc_X9_init_116 : decode mX9_init.2.1 116 = .ok (.newarray .int, 2) := by decide +kernel
theorem dc_X9_init_118 : decode mX9_init.2.1 118 = .ok (.putfield 54, 3) := by decide +kernel
theorem dc_X9_init_121 : decode mX9_init.2.1 121 = .ok (.aload_n 0, 1) := by decide +kernel
theorem dc_X9_init_122 : decode mX9_init.2.1 122 = .ok (.bipush 40, 2) := by decide +kernel
theorem dc_X9_init_124 : decode mX9_init.2.1 124 = .ok (.newarray .int, 2) := by decide +kernel
theorem dc_X9_init_126 : decode mX9_init.2.1 126 = .ok (.putfield 57, 3) := by decide +kernel
theorem dc_X9_init_129 : decode mX9_init.2.1 129 = .ok (.aload_n 0, 1) := by decide +kernel
theorem dc_X9_init_130 : decode mX9_init.2.1 130 = .ok (.getfield 9, 3) := by decide +kernel
theorem dc_X9_init_133 : decode mX9_init.2.1 133 = .ok (.iconst 2, 1) := by decide +kernel
theorem dc_X9_init_134 : decode mX9_init.2.1 134 = .ok (.iconst 1, 1) := by decide +kernel
theorem dc_X9_init_135 : decode mX9_init.2.1 135 = .ok (.iastore, 1) := by decide +kernel
theorem dc_X9_init_136 : decode mX9_init.2.1 136 = .ok (.aload_n 0, 1) := by decide +kernel
theorem dc_X9_init_137 : decode mX9_init.2.1 137 = .ok (.getfield 9, 3) := by decide +kernel
theorem dc_X9_init_140 : decode mX9_init.2.1 140 = .ok (.iconst 3, 1) := by decide +kernel
theorem dc_X9_init_141 : decode mX9_init.2.1 141 = .ok (.iconst 5, 1) := by decide +kernel
theorem dc_X9_init_142 : decode mX9_init.2.1 142 = .ok (.iastore, 1) := by decide +kernel
theorem dc_X9_init_143 : decode mX9_init.2.1 143 = .ok (.aload_n 0, 1) := by decide +kernel
theorem dc_X9_init_144 : decode mX9_init.2.1 144 = .ok (.getfield 9, 3) := by decide +kernel
theorem dc_X9_init_147 : decode mX9_init.2.1 147 = .ok (.iconst 4, 1) := by decide +kernel
theorem dc_X9_init_148 : decode mX9_init.2.1 148 = .ok (.iconst 4, 1) := by decide +kernel
theorem dc_X9_init_149 : decode mX9_init.2.1 149 = .ok (.iastore, 1) := by decide +kernel
theorem dc_X9_init_150 : decode mX9_init.2.1 150 = .ok (.aload_n 0, 1) := by decide +kernel
theorem dc_X9_init_151 : decode mX9_init.2.1 151 = .ok (.getfield 9, 3) := by decide +kernel
theorem dc_X9_init_154 : decode mX9_init.2.1 154 = .ok (.iconst 5, 1) := by decide +kernel
theorem dc_X9_init_155 : decode mX9_init.2.1 155 = .ok (.iconst 1, 1) := by decide +kernel
theorem dc_X9_init_156 : decode mX9_init.2.1 156 = .ok (.iastore, 1) := by decide +kernel
theorem dc_X9_init_157 : decode mX9_init.2.1 157 = .ok (.iconst 0, 1) := by decide +kernel
theorem dc_X9_init_158 : decode mX9_init.2.1 158 = .ok (.istore_n 1, 1) := by decide +kernel
theorem dc_X9_init_159 : decode mX9_init.2.1 159 = .ok (.iload_n 1, 1) := by decide +kernel
theorem dc_X9_init_160 : decode mX9_init.2.1 160 = .ok (.bipush 10, 2) := by decide +kernel
theorem dc_X9_init_162 : decode mX9_init.2.1 162 = .ok (.if_icmp .ge 19, 3) := by decide +kernel
theorem dc_X9_init_165 : decode mX9_init.2.1 165 = .ok (.aload_n 0, 1) := by decide +kernel
theorem dc_X9_init_166 : decode mX9_init.2.1 166 = .ok (.getfield 9, 3) := by decide +kernel
theorem dc_X9_init_169 : decode mX9_init.2.1 169 = .ok (.bipush 7, 2) := by decide +kernel
theorem dc_X9_init_171 : decode mX9_init.2.1 171 = .ok (.iload_n 1, 1) := by decide +kernel
theorem dc_X9_init_172 : decode mX9_init.2.1 172 = .ok (.iadd, 1) := by decide +kernel
theorem dc_X9_init_173 : decode mX9_init.2.1 173 = .ok (.iconst (-1), 1) := by decide +kernel
theorem dc_X9_init_174 : decode mX9_init.2.1 174 = .ok (.iastore, 1) := by decide +kernel
theorem dc_X9_init_175 : decode mX9_init.2.1 175 = .ok (.iinc 1 1, 3) := by decide +kernel
theorem dc_X9_init_178 : decode mX9_init.2.1 178 = .ok (.goto (-19), 3) := by decide +kernel
theorem dc_X9_init_181 : decode mX9_init.2.1 181 = .ok (.return_, 1) := by decide +kernel
theorem dc_X9_finding_0 : decode mX9_finding.2.1 0 = .ok (.aload_n 0, 1) := by decide +kernel
theorem dc_X9_finding_1 : decode mX9_finding.2.1 1 = .ok (.getfield 19, 3) := by decide +kernel
theorem dc_X9_finding_4 : decode mX9_finding.2.1 4 = .ok (.ldc 60, 2) := by decide +kernel
theorem dc_X9_finding_6 : decode mX9_finding.2.1 6 = .ok (.iload_n 1, 1) := by decide +kernel
theorem dc_X9_finding_7 : decode mX9_finding.2.1 7 = .ok (.isub, 1) := by decide +kernel
theorem dc_X9_finding_8 : decode mX9_finding.2.1 8 = .ok (.iconst 1, 1) := by decide +kernel
theorem dc_X9_finding_9 : decode mX9_finding.2.1 9 = .ok (.iadd, 1) := by decide +kernel
theorem dc_X9_finding_10 : decode mX9_finding.2.1 10 = .ok (.dup2, 1) := by decide +kernel
theorem dc_X9_finding_11 : decode mX9_finding.2.1 11 = .ok (.iaload, 1) := by decide +kernel
theorem dc_X9_finding_12 : decode mX9_finding.2.1 12 = .ok (.iconst 1, 1) := by decide +kernel
theorem dc_X9_finding_13 : decode mX9_finding.2.1 13 = .ok (.iadd, 1) := by decide +kernel
theorem dc_X9_finding_14 : decode mX9_finding.2.1 14 = .ok (.iastore, 1) := by decide +kernel
theorem dc_X9_finding_15 : decode mX9_finding.2.1 15 = .ok (.aload_n 0, 1) := by decide +kernel
theorem dc_X9_finding_16 : decode mX9_finding.2.1 16 = .ok (.getfield 19, 3) := by decide +kernel
theorem dc_X9_finding_19 : decode mX9_finding.2.1 19 = .ok (.iconst 0, 1) := by decide +kernel
theorem dc_X9_finding_20 : decode mX9_finding.2.1 20 = .ok (.dup2, 1) := by decide +kernel
theorem dc_X9_finding_21 : decode mX9_finding.2.1 21 = .ok (.iaload, 1) := by decide +kernel
theorem dc_X9_finding_22 : decode mX9_finding.2.1 22 = .ok (.iconst 1, 1) := by decide +kernel
theorem dc_X9_finding_23 : decode mX9_finding.2.1 23 = .ok (.iadd, 1) := by decide +kernel
theorem dc_X9_finding_24 : decode mX9_finding.2.1 24 = .ok (.iastore, 1) := by decide +kernel
theorem dc_X9_finding_25 : decode mX9_finding.2.1 25 = .ok (.iload_n 1, 1) := by decide +kernel
theorem dc_X9_finding_26 : decode mX9_finding.2.1 26 = .ok (.ireturn, 1) := by decide +kernel
theorem dc_X9_within_0 : decode mX9_within.2.1 0 = .ok (.iload_n 0, 1) := by decide +kernel
theorem dc_X9_within_1 : decode mX9_within.2.1 1 = .ok (.iload_n 1, 1) := by decide +kernel
theorem dc_X9_within_2 : decode mX9_within.2.1 2 = .ok (.if_icmp .lt 12, 3) := by decide +kernel
theorem dc_X9_within_5 : decode mX9_within.2.1 5 = .ok (.iload_n 0, 1) := by decide +kernel
theorem dc_X9_within_6 : decode mX9_within.2.1 6 = .ok (.iload_n 2, 1) := by decide +kernel
theorem dc_X9_within_7 : decode mX9_within.2.1 7 = .ok (.if_icmp .gt 7, 3) := by decide +kernel
theorem dc_X9_within_10 : decode mX9_within.2.1 10 = .ok (.iconst 1, 1) := by decide +kernel
theorem dc_X9_within_11 : decode mX9_within.2.1 11 = .ok (.goto 4, 3) := by decide +kernel
theorem dc_X9_within_14 : decode mX9_within.2.1 14 = .ok (.iconst 0, 1) := by decide +kernel
theorem dc_X9_within_15 : decode mX9_within.2.1 15 = .ok (.ireturn, 1) := by decide +kernel
theorem dc_X9_become_0 : decode mX9_become.2.1 0 = .ok (.aload_n 0, 1) := by decide +kernel
theorem dc_X9_become_1 : decode mX9_become.2.1 1 = .ok (.getfield 9, 3) := by decide +kernel
theorem dc_X9_become_4 : decode mX9_become.2.1 4 = .ok (.iload_n 1, 1) := by decide +kernel
theorem dc_X9_become_5 : decode mX9_become.2.1 5 = .ok (.iaload, 1) := by decide +kernel
theorem dc_X9_become_6 : decode mX9_become.2.1 6 = .ok (.istore_n 3, 1) := by decide +kernel
theorem dc_X9_become_7 : decode mX9_become.2.1 7 = .ok (.aload_n 0, 1) := by decide +kernel
theorem dc_X9_become_8 : decode mX9_become.2.1 8 = .ok (.getfield 9, 3) := by decide +kernel
theorem dc_X9_become_11 : decode mX9_become.2.1 11 = .ok (.iload_n 1, 1) := by decide +kernel
theorem dc_X9_become_12 : decode mX9_become.2.1 12 = .ok (.iload_n 2, 1) := by decide +kernel
theorem dc_X9_become_13 : decode mX9_become.2.1 13 = .ok (.iastore, 1) := by decide +kernel
theorem dc_X9_become_14 : decode mX9_become.2.1 14 = .ok (.iload_n 3, 1) := by decide +kernel
theorem dc_X9_become_15 : decode mX9_become.2.1 15 = .ok (.ireturn, 1) := by decide +kernel
theorem dc_X9_copyRow_0 : decode mX9_copyRow.2.1 0 = .ok (.iconst 0, 1) := by decide +kernel
theorem dc_X9_copyRow_1 : decode mX9_copyRow.2.1 1 = .ok (.istore_n 2, 1) := by decide +kernel
theorem dc_X9_copyRow_2 : decode mX9_copyRow.2.1 2 = .ok (.iload_n 2, 1) := by decide +kernel
theorem dc_X9_copyRow_3 : decode mX9_copyRow.2.1 3 = .ok (.bipush 73, 2) := by decide +kernel
theorem dc_X9_copyRow_5 : decode mX9_copyRow.2.1 5 = .ok (.if_icmp .ge 15, 3) := by decide +kernel
theorem dc_X9_copyRow_8 : decode mX9_copyRow.2.1 8 = .ok (.aload_n 1, 1) := by decide +kernel
theorem dc_X9_copyRow_9 : decode mX9_copyRow.2.1 9 = .ok (.iload_n 2, 1) := by decide +kernel
theorem dc_X9_copyRow_10 : decode mX9_copyRow.2.1 10 = .ok (.aload_n 0, 1) := by decide +kernel
theorem dc_X9_copyRow_11 : decode mX9_copyRow.2.1 11 = .ok (.iload_n 2, 1) := by decide +kernel
theorem dc_X9_copyRow_12 : decode mX9_copyRow.2.1 12 = .ok (.iaload, 1) := by decide +kernel
theorem dc_X9_copyRow_13 : decode mX9_copyRow.2.1 13 = .ok (.iastore, 1) := by decide +kernel
theorem dc_X9_copyRow_14 : decode mX9_copyRow.2.1 14 = .ok (.iinc 2 1, 3) := by decide +kernel
theorem dc_X9_copyRow_17 : decode mX9_copyRow.2.1 17 = .ok (.goto (-15), 3) := by decide +kernel
theorem dc_X9_copyRow_20 : decode mX9_copyRow.2.1 20 = .ok (.return_, 1) := by decide +kernel
theorem dc_X9_putBack_0 : decode mX9_putBack.2.1 0 = .ok (.aload_n 0, 1) := by decide +kernel
theorem dc_X9_putBack_1 : decode mX9_putBack.2.1 1 = .ok (.getfield 16, 3) := by decide +kernel
theorem dc_X9_putBack_4 : decode mX9_putBack.2.1 4 = .ok (.aload_n 0, 1) := by decide +kernel
theorem dc_X9_putBack_5 : decode mX9_putBack.2.1 5 = .ok (.getfield 9, 3) := by decide +kernel
theorem dc_X9_putBack_8 : decode mX9_putBack.2.1 8 = .ok (.invokestatic 61, 3) := by decide +kernel
theorem dc_X9_putBack_11 : decode mX9_putBack.2.1 11 = .ok (.iload_n 1, 1) := by decide +kernel
theorem dc_X9_putBack_12 : decode mX9_putBack.2.1 12 = .ok (.ireturn, 1) := by decide +kernel
theorem dc_X9_orNone_0 : decode mX9_orNone.2.1 0 = .ok (.iload_n 1, 1) := by decide +kernel
theorem dc_X9_orNone_1 : decode mX9_orNone.2.1 1 = .ok (.ifCond .ge 12, 3) := by decide +kernel
theorem dc_X9_orNone_4 : decode mX9_orNone.2.1 4 = .ok (.aload_n 0, 1) := by decide +kernel
theorem dc_X9_orNone_5 : decode mX9_orNone.2.1 5 = .ok (.ldc 65, 2) := by decide +kernel
theorem dc_X9_orNone_7 : decode mX9_orNone.2.1 7 = .ok (.invokevirtual 66, 3) := by decide +kernel
theorem dc_X9_orNone_10 : decode mX9_orNone.2.1 10 = .ok (.goto 4, 3) := by decide +kernel
theorem dc_X9_orNone_13 : decode mX9_orNone.2.1 13 = .ok (.iload_n 1, 1) := by decide +kernel
theorem dc_X9_orNone_14 : decode mX9_orNone.2.1 14 = .ok (.ireturn, 1) := by decide +kernel
theorem dc_X9_bits_0 : decode mX9_bits.2.1 0 = .ok (.iconst 0, 1) := by decide +kernel
theorem dc_X9_bits_1 : decode mX9_bits.2.1 1 = .ok (.istore_n 1, 1) := by decide +kernel
theorem dc_X9_bits_2 : decode mX9_bits.2.1 2 = .ok (.iload_n 0, 1) := by decide +kernel
theorem dc_X9_bits_3 : decode mX9_bits.2.1 3 = .ok (.istore_n 2, 1) := by decide +kernel
theorem dc_X9_bits_4 : decode mX9_bits.2.1 4 = .ok (.iload_n 2, 1) := by decide +kernel
theorem dc_X9_bits_5 : decode mX9_bits.2.1 5 = .ok (.ifCond .eq 15, 3) := by decide +kernel
theorem dc_X9_bits_8 : decode mX9_bits.2.1 8 = .ok (.iinc 1 1, 3) := by decide +kernel
theorem dc_X9_bits_11 : decode mX9_bits.2.1 11 = .ok (.iload_n 2, 1) := by decide +kernel
theorem dc_X9_bits_12 : decode mX9_bits.2.1 12 = .ok (.iload_n 2, 1) := by decide +kernel
theorem dc_X9_bits_13 : decode mX9_bits.2.1 13 = .ok (.iconst 1, 1) := by decide +kernel
theorem dc_X9_bits_14 : decode mX9_bits.2.1 14 = .ok (.isub, 1) := by decide +kernel
theorem dc_X9_bits_15 : decode mX9_bits.2.1 15 = .ok (.iand, 1) := by decide +kernel
theorem dc_X9_bits_16 : decode mX9_bits.2.1 16 = .ok (.istore_n 2, 1) := by decide +kernel
theorem dc_X9_bits_17 : decode mX9_bits.2.1 17 = .ok (.goto (-13), 3) := by decide +kernel
theorem dc_X9_bits_20 : decode mX9_bits.2.1 20 = .ok (.iload_n 1, 1) := by decide +kernel
theorem dc_X9_bits_21 : decode mX9_bits.2.1 21 = .ok (.ireturn, 1) := by decide +kernel
theorem dc_X9_hasBit_0 : decode mX9_hasBit.2.1 0 = .ok (.iload_n 0, 1) := by decide +kernel
theorem dc_X9_hasBit_1 : decode mX9_hasBit.2.1 1 = .ok (.iload_n 1, 1) := by decide +kernel
theorem dc_X9_hasBit_2 : decode mX9_hasBit.2.1 2 = .ok (.ishr, 1) := by decide +kernel
theorem dc_X9_hasBit_3 : decode mX9_hasBit.2.1 3 = .ok (.iconst 1, 1) := by decide +kernel
theorem dc_X9_hasBit_4 : decode mX9_hasBit.2.1 4 = .ok (.iand, 1) := by decide +kernel
theorem dc_X9_hasBit_5 : decode mX9_hasBit.2.1 5 = .ok (.iconst 1, 1) := by decide +kernel
theorem dc_X9_hasBit_6 : decode mX9_hasBit.2.1 6 = .ok (.if_icmp .ne 7, 3) := by decide +kernel
theorem dc_X9_hasBit_9 : decode mX9_hasBit.2.1 9 = .ok (.iconst 1, 1) := by decide +kernel
theorem dc_X9_hasBit_10 : decode mX9_hasBit.2.1 10 = .ok (.goto 4, 3) := by decide +kernel
theorem dc_X9_hasBit_13 : decode mX9_hasBit.2.1 13 = .ok (.iconst 0, 1) := by decide +kernel
theorem dc_X9_hasBit_14 : decode mX9_hasBit.2.1 14 = .ok (.ireturn, 1) := by decide +kernel
theorem dc_X9_mostOf_0 : decode mX9_mostOf.2.1 0 = .ok (.iload_n 0, 1) := by decide +kernel
theorem dc_X9_mostOf_1 : decode mX9_mostOf.2.1 1 = .ok (.ifCond .ne 9, 3) := by decide +kernel
theorem dc_X9_mostOf_4 : decode mX9_mostOf.2.1 4 = .ok (.sipush 4095, 3) := by decide +kernel
theorem dc_X9_mostOf_7 : decode mX9_mostOf.2.1 7 = .ok (.goto 24, 3) := by decide +kernel
theorem dc_X9_mostOf_10 : decode mX9_mostOf.2.1 10 = .ok (.iload_n 0, 1) := by decide +kernel
theorem dc_X9_mostOf_11 : decode mX9_mostOf.2.1 11 = .ok (.iconst 1, 1) := by decide +kernel
theorem dc_X9_mostOf_12 : decode mX9_mostOf.2.1 12 = .ok (.if_icmp .ne 8, 3) := by decide +kernel
theorem dc_X9_mostOf_15 : decode mX9_mostOf.2.1 15 = .ok (.bipush 23, 2) := by decide +kernel
theorem dc_X9_mostOf_17 : decode mX9_mostOf.2.1 17 = .ok (.goto 14, 3) := by decide +kernel
theorem dc_X9_mostOf_20 : decode mX9_mostOf.2.1 20 = .ok (.iload_n 0, 1) := by decide +kernel
theorem dc_X9_mostOf_21 : decode mX9_mostOf.2.1 21 = .ok (.iconst 2, 1) := by decide +kernel
theorem dc_X9_mostOf_22 : decode mX9_mostOf.2.1 22 = .ok (.if_icmp .ne 7, 3) := by decide +kernel
theorem dc_X9_mostOf_25 : decode mX9_mostOf.2.1 25 = .ok (.iconst 1, 1) := by decide +kernel
theorem dc_X9_mostOf_26 : decode mX9_mostOf.2.1 26 = .ok (.goto 5, 3) := by decide +kernel
theorem dc_X9_mostOf_29 : decode mX9_mostOf.2.1 29 = .ok (.ldc 70, 2) := by decide +kernel
theorem dc_X9_mostOf_31 : decode mX9_mostOf.2.1 31 = .ok (.ireturn, 1) := by decide +kernel
theorem dc_X9_set_0 : decode mX9_set.2.1 0 = .ok (.iload_n 1, 1) := by decide +kernel
theorem dc_X9_set_1 : decode mX9_set.2.1 1 = .ok (.iconst 0, 1) := by decide +kernel
theorem dc_X9_set_2 : decode mX9_set.2.1 2 = .ok (.iconst 3, 1) := by decide +kernel
theorem dc_X9_set_3 : decode mX9_set.2.1 3 = .ok (.invokestatic 71, 3) := by decide +kernel
theorem dc_X9_set_6 : decode mX9_set.2.1 6 = .ok (.ifCond .eq 26, 3) := by decide +kernel
theorem dc_X9_set_9 : decode mX9_set.2.1 9 = .ok (.iload_n 2, 1) := by decide +kernel
theorem dc_X9_set_10 : decode mX9_set.2.1 10 = .ok (.iconst 0, 1) := by decide +kernel
theorem dc_X9_set_11 : decode mX9_set.2.1 11 = .ok (.iload_n 1, 1) := by decide +kernel
theorem dc_X9_set_12 : decode mX9_set.2.1 12 = .ok (.invokestatic 75, 3) := by decide +kernel
theorem dc_X9_set_15 : decode mX9_set.2.1 15 = .ok (.invokestatic 71, 3) := by decide +kernel
theorem dc_X9_set_18 : decode mX9_set.2.1 18 = .ok (.ifCond .eq 14, 3) := by decide +kernel
theorem dc_X9_set_21 : decode mX9_set.2.1 21 = .ok (.aload_n 0, 1) := by decide +kernel
theorem dc_X9_set_22 : decode mX9_set.2.1 22 = .ok (.iconst 3, 1) := by decide +kernel
theorem dc_X9_set_23 : decode mX9_set.2.1 23 = .ok (.iload_n 1, 1) := by decide +kernel
theorem dc_X9_set_24 : decode mX9_set.2.1 24 = .ok (.iadd, 1) := by decide +kernel
theorem dc_X9_set_25 : decode mX9_set.2.1 25 = .ok (.iload_n 2, 1) := by decide +kernel
theorem dc_X9_set_26 : decode mX9_set.2.1 26 = .ok (.invokevirtual 78, 3) := by decide +kernel
theorem dc_X9_set_29 : decode mX9_set.2.1 29 = .ok (.goto 9, 3) := by decide +kernel
theorem dc_X9_set_32 : decode mX9_set.2.1 32 = .ok (.aload_n 0, 1) := by decide +kernel
theorem dc_X9_set_33 : decode mX9_set.2.1 33 = .ok (.ldc 60, 2) := by decide +kernel
theorem dc_X9_set_35 : decode mX9_set.2.1 35 = .ok (.invokevirtual 66, 3) := by decide +kernel
theorem dc_X9_set_38 : decode mX9_set.2.1 38 = .ok (.ireturn, 1) := by decide +kernel
theorem dc_X9_firstShows_0 : decode mX9_firstShows.2.1 0 = .ok (.aload_n 0, 1) := by decide +kernel
theorem dc_X9_firstShows_1 : decode mX9_firstShows.2.1 1 = .ok (.getfield 9, 3) := by decide +kernel
theorem dc_X9_firstShows_4 : decode mX9_firstShows.2.1 4 = .ok (.iconst 3, 1) := by decide +kernel
theorem dc_X9_firstShows_5 : decode mX9_firstShows.2.1 5 = .ok (.iaload, 1) := by decide +kernel
theorem dc_X9_firstShows_6 : decode mX9_firstShows.2.1 6 = .ok (.aload_n 0, 1) := by decide +kernel
theorem dc_X9_firstShows_7 : decode mX9_firstShows.2.1 7 = .ok (.getfield 9, 3) := by decide +kernel
theorem dc_X9_firstShows_10 : decode mX9_firstShows.2.1 10 = .ok (.iconst 0, 1) := by decide +kernel
theorem dc_X9_firstShows_11 : decode mX9_firstShows.2.1 11 = .ok (.iaload, 1) := by decide +kernel
theorem dc_X9_firstShows_12 : decode mX9_firstShows.2.1 12 = .ok (.bipush 12, 2) := by decide +kernel
theorem dc_X9_firstShows_14 : decode mX9_firstShows.2.1 14 = .ok (.irem, 1) := by decide +kernel
theorem dc_X9_firstShows_15 : decode mX9_firstShows.2.1 15 = .ok (.ishr, 1) := by decide +kernel
theorem dc_X9_firstShows_16 : decode mX9_firstShows.2.1 16 = .ok (.iconst 1, 1) := by decide +kernel
theorem dc_X9_firstShows_17 : decode mX9_firstShows.2.1 17 = .ok (.iand, 1) := by decide +kernel
theorem dc_X9_firstShows_18 : decode mX9_firstShows.2.1 18 = .ok (.ireturn, 1) := by decide +kernel
theorem dc_X9_pastThen_0 : decode mX9_pastThen.2.1 0 = .ok (.aload_n 0, 1) := by decide +kernel
theorem dc_X9_pastThen_1 : decode mX9_pastThen.2.1 1 = .ok (.getfield 9, 3) := by decide +kernel
theorem dc_X9_pastThen_4 : decode mX9_pastThen.2.1 4 = .ok (.bipush 6, 2) := by decide +kernel
theorem dc_X9_pastThen_6 : decode mX9_pastThen.2.1 6 = .ok (.iaload, 1) := by decide +kernel
theorem dc_X9_pastThen_7 : decode mX9_pastThen.2.1 7 = .ok (.iconst 2, 1) := by decide +kernel
theorem dc_X9_pastThen_8 : decode mX9_pastThen.2.1 8 = .ok (.imul, 1) := by decide +kernel
theorem dc_X9_pastThen_9 : decode mX9_pastThen.2.1 9 = .ok (.aload_n 0, 1) := by decide +kernel
theorem dc_X9_pastThen_10 : decode mX9_pastThen.2.1 10 = .ok (.invokevirtual 82, 3) := by decide +kernel
theorem dc_X9_pastThen_13 : decode mX9_pastThen.2.1 13 = .ok (.iadd, 1) := by decide +kernel
theorem dc_X9_pastThen_14 : decode mX9_pastThen.2.1 14 = .ok (.ldc 86, 2) := by decide +kernel
theorem dc_X9_pastThen_16 : decode mX9_pastThen.2.1 16 = .ok (.irem, 1) := by decide +kernel
theorem dc_X9_pastThen_17 : decode mX9_pastThen.2.1 17 = .ok (.ireturn, 1) := by decide +kernel
theorem dc_X9_secondShows_0 : decode mX9_secondShows.2.1 0 = .ok (.aload_n 0, 1) := by decide +kernel
theorem dc_X9_secondShows_1 : decode mX9_secondShows.2.1 1 = .ok (.getfield 9, 3) := by decide +kernel
theorem dc_X9_secondShows_4 : decode mX9_secondShows.2.1 4 = .ok (.iconst 5, 1) := by decide +kernel
theorem dc_X9_secondShows_5 : decode mX9_secondShows.2.1 5 = .ok (.iaload, 1) := by decide +kernel
theorem dc_X9_secondShows_6 : decode mX9_secondShows.2.1 6 = .ok (.iconst 1, 1) := by decide +kernel
theorem dc_X9_secondShows_7 : decode mX9_secondShows.2.1 7 = .ok (.if_icmp .ne 19, 3) := by decide +kernel
theorem dc_X9_secondShows_10 : decode mX9_secondShows.2.1 10 = .ok (.aload_n 0, 1) := by decide +kernel
theorem dc_X9_secondShows_11 : decode mX9_secondShows.2.1 11 = .ok (.invokevirtual 87, 3) := by decide +kernel
theorem dc_X9_secondShows_14 : decode mX9_secondShows.2.1 14 = .ok (.aload_n 0, 1) := by decide +kernel
theorem dc_X9_secondShows_15 : decode mX9_secondShows.2.1 15 = .ok (.getfield 9, 3) := by decide +kernel
theorem dc_X9_secondShows_18 : decode mX9_secondShows.2.1 18 = .ok (.iconst 4, 1) := by decide +kernel
theorem dc_X9_secondShows_19 : decode mX9_secondShows.2.1 19 = .ok (.iaload, 1) := by decide +kernel
theorem dc_X9_secondShows_20 : decode mX9_secondShows.2.1 20 = .ok (.ishr, 1) := by decide +kernel
theorem dc_X9_secondShows_21 : decode mX9_secondShows.2.1 21 = .ok (.iconst 1, 1) := by decide +kernel
theorem dc_X9_secondShows_22 : decode mX9_secondShows.2.1 22 = .ok (.iand, 1) := by decide +kernel
theorem dc_X9_secondShows_23 : decode mX9_secondShows.2.1 23 = .ok (.goto 7, 3) := by decide +kernel
theorem dc_X9_secondShows_26 : decode mX9_secondShows.2.1 26 = .ok (.aload_n 0, 1) := by decide +kernel
theorem dc_X9_secondShows_27 : decode mX9_secondShows.2.1 27 = .ok (.invokevirtual 82, 3) := by decide +kernel
theorem dc_X9_secondShows_30 : decode mX9_secondShows.2.1 30 = .ok (.ireturn, 1) := by decide +kernel
theorem dc_X9_light_0 : decode mX9_light.2.1 0 = .ok (.iload_n 1, 1) := by decide +kernel
theorem dc_X9_light_1 : decode mX9_light.2.1 1 = .ok (.iconst 0, 1) := by decide +kernel
theorem dc_X9_light_2 : decode mX9_light.2.1 2 = .ok (.iconst 5, 1) := by decide +kernel
theorem dc_X9_light_3 : decode mX9_light.2.1 3 = .ok (.invokestatic 71, 3) := by decide +kernel
theorem dc_X9_light_6 : decode mX9_light.2.1 6 = .ok (.ifCond .ne 10, 3) := by decide +kernel
theorem dc_X9_light_9 : decode mX9_light.2.1 9 = .ok (.aload_n 0, 1) := by decide +kernel
theorem dc_X9_light_10 : decode mX9_light.2.1 10 = .ok (.ldc 60, 2) := by decide +kernel
theorem dc_X9_light_12 : decode mX9_light.2.1 12 = .ok (.invokevirtual 66, 3) := by decide +kernel
theorem dc_X9_light_15 : decode mX9_light.2.1 15 = .ok (.ireturn, 1) := by decide +kernel
theorem dc_X9_light_16 : decode mX9_light.2.1 16 = .ok (.iload_n 1, 1) := by decide +kernel
theorem dc_X9_light_17 : decode mX9_light.2.1 17 = .ok (.iconst 4, 1) := by decide +kernel
theorem dc_X9_light_18 : decode mX9_light.2.1 18 = .ok (.if_icmp .ge 14, 3) := by decide +kernel
theorem dc_X9_light_21 : decode mX9_light.2.1 21 = .ok (.aload_n 0, 1) := by decide +kernel
theorem dc_X9_light_22 : decode mX9_light.2.1 22 = .ok (.getfield 9, 3) := by decide +kernel
theorem dc_X9_light_25 : decode mX9_light.2.1 25 = .ok (.iconst 3, 1) := by decide +kernel
theorem dc_X9_light_26 : decode mX9_light.2.1 26 = .ok (.iload_n 1, 1) := by decide +kernel
theorem dc_X9_light_27 : decode mX9_light.2.1 27 = .ok (.iadd, 1) := by decide +kernel
theorem dc_X9_light_28 : decode mX9_light.2.1 28 = .ok (.iaload, 1) := by decide +kernel
theorem dc_X9_light_29 : decode mX9_light.2.1 29 = .ok (.goto 19, 3) := by decide +kernel
theorem dc_X9_light_32 : decode mX9_light.2.1 32 = .ok (.iload_n 1, 1) := by decide +kernel
theorem dc_X9_light_33 : decode mX9_light.2.1 33 = .ok (.iconst 4, 1) := by decide +kernel
theorem dc_X9_light_34 : decode mX9_light.2.1 34 = .ok (.if_icmp .ne 10, 3) := by decide +kernel
theorem dc_X9_light_37 : decode mX9_light.2.1 37 = .ok (.aload_n 0, 1) := by decide +kernel
theorem dc_X9_light_38 : decode mX9_light.2.1 38 = .ok (.invokevirtual 82, 3) := by decide +kernel
theorem dc_X9_light_41 : decode mX9_light.2.1 41 = .ok (.goto 7, 3) := by decide +kernel
theorem dc_X9_light_44 : decode mX9_light.2.1 44 = .ok (.aload_n 0, 1) := by decide +kernel
theorem dc_X9_light_45 : decode mX9_light.2.1 45 = .ok (.invokevirtual 90, 3) := by decide +kernel
theorem dc_X9_light_48 : decode mX9_light.2.1 48 = .ok (.ireturn, 1) := by decide +kernel
theorem dc_X9_isKind_0 : decode mX9_isKind.2.1 0 = .ok (.iload_n 0, 1) := by decide +kernel
theorem dc_X9_isKind_1 : decode mX9_isKind.2.1 1 = .ok (.iconst 0, 1) := by decide +kernel
theorem dc_X9_isKind_2 : decode mX9_isKind.2.1 2 = .ok (.bipush 6, 2) := by decide +kernel
theorem dc_X9_isKind_4 : decode mX9_isKind.2.1 4 = .ok (.invokestatic 71, 3) := by decide +kernel
theorem dc_X9_isKind_7 : decode mX9_isKind.2.1 7 = .ok (.ireturn, 1) := by decide +kernel
theorem dc_X9_isCell_0 : decode mX9_isCell.2.1 0 = .ok (.iload_n 0, 1) := by decide +kernel
theorem dc_X9_isCell_1 : decode mX9_isCell.2.1 1 = .ok (.iconst 0, 1) := by decide +kernel
theorem dc_X9_isCell_2 : decode mX9_isCell.2.1 2 = .ok (.bipush 23, 2) := by decide +kernel
theorem dc_X9_isCell_4 : decode mX9_isCell.2.1 4 = .ok (.invokestatic 71, 3) := by decide +kernel
theorem dc_X9_isCell_7 : decode mX9_isCell.2.1 7 = .ok (.ireturn, 1) := by decide +kernel
theorem dc_X9_isShip_0 : decode mX9_isShip.2.1 0 = .ok (.iload_n 1, 1) := by decide +kernel
theorem dc_X9_isShip_1 : decode mX9_isShip.2.1 1 = .ok (.iconst 0, 1) := by decide +kernel
theorem dc_X9_isShip_2 : decode mX9_isShip.2.1 2 = .ok (.aload_n 0, 1) := by decide +kernel
theorem dc_X9_isShip_3 : decode mX9_isShip.2.1 3 = .ok (.getfield 9, 3) := by decide +kernel
theorem dc_X9_isShip_6 : decode mX9_isShip.2.1 6 = .ok (.iconst 1, 1) := by decide +kernel
theorem dc_X9_isShip_7 : decode mX9_isShip.2.1 7 = .ok (.iaload, 1) := by decide +kernel
theorem dc_X9_isShip_8 : decode mX9_isShip.2.1 8 = .ok (.iconst 1, 1) := by decide +kernel
theorem dc_X9_isShip_9 : decode mX9_isShip.2.1 9 = .ok (.isub, 1) := by decide +kernel
theorem dc_X9_isShip_10 : decode mX9_isShip.2.1 10 = .ok (.invokestatic 71, 3) := by decide +kernel
theorem dc_X9_isShip_13 : decode mX9_isShip.2.1 13 = .ok (.ireturn, 1) := by decide +kernel
theorem dc_X9_shipAt_0 : decode mX9_shipAt.2.1 0 = .ok (.bipush 17, 2) := by decide +kernel
theorem dc_X9_shipAt_2 : decode mX9_shipAt.2.1 2 = .ok (.bipush 7, 2) := by decide +kernel
theorem dc_X9_shipAt_4 : decode mX9_shipAt.2.1 4 = .ok (.iload_n 0, 1) := by decide +kernel
theorem dc_X9_shipAt_5 : decode mX9_shipAt.2.1 5 = .ok (.imul, 1) := by decide +kernel
theorem dc_X9_shipAt_6 : decode mX9_shipAt.2.1 6 = .ok (.iadd, 1) := by decide +kernel
theorem dc_X9_shipAt_7 : decode mX9_shipAt.2.1 7 = .ok (.iload_n 1, 1) := by decide +kernel
theorem dc_X9_shipAt_8 : decode mX9_shipAt.2.1 8 = .ok (.iadd, 1) := by decide +kernel
theorem dc_X9_shipAt_9 : decode mX9_shipAt.2.1 9 = .ok (.ireturn, 1) := by decide +kernel
theorem dc_X9_shipIs_0 : decode mX9_shipIs.2.1 0 = .ok (.aload_n 0, 1) := by decide +kernel
theorem dc_X9_shipIs_1 : decode mX9_shipIs.2.1 1 = .ok (.getfield 9, 3) := by decide +kernel
theorem dc_X9_shipIs_4 : decode mX9_shipIs.2.1 4 = .ok (.iload_n 1, 1) := by decide +kernel
theorem dc_X9_shipIs_5 : decode mX9_shipIs.2.1 5 = .ok (.iload_n 2, 1) := by decide +kernel
theorem dc_X9_shipIs_6 : decode mX9_shipIs.2.1 6 = .ok (.invokestatic 93, 3) := by decide +kernel
theorem dc_X9_shipIs_9 : decode mX9_shipIs.2.1 9 = .ok (.iaload, 1) := by decide +kernel
theorem dc_X9_shipIs_10 : decode mX9_shipIs.2.1 10 = .ok (.ireturn, 1) := by decide +kernel
theorem dc_X9_comes_0 : decode mX9_comes.2.1 0 = .ok (.aload_n 0, 1) := by decide +kernel
theorem dc_X9_comes_1 : decode mX9_comes.2.1 1 = .ok (.getfield 9, 3) := by decide +kernel
theorem dc_X9_comes_4 : decode mX9_comes.2.1 4 = .ok (.iconst 1, 1) := by decide +kernel
theorem dc_X9_comes_5 : decode mX9_comes.2.1 5 = .ok (.iaload, 1) := by decide +kernel
theorem dc_X9_comes_6 : decode mX9_comes.2.1 6 = .ok (.istore_n 3, 1) := by decide +kernel
theorem dc_X9_comes_7 : decode mX9_comes.2.1 7 = .ok (.iconst 0, 1) := by decide +kernel
theorem dc_X9_comes_8 : decode mX9_comes.2.1 8 = .ok (.istore 4, 2) := by decide +kernel
theorem dc_X9_comes_10 : decode mX9_comes.2.1 10 = .ok (.iload 4, 2) := by decide +kernel
theorem dc_X9_comes_12 : decode mX9_comes.2.1 12 = .ok (.bipush 7, 2) := by decide +kernel
theorem dc_X9_comes_14 : decode mX9_comes.2.1 14 = .ok (.if_icmp .ge 21, 3) := by decide +kernel
theorem dc_X9_comes_17 : decode mX9_comes.2.1 17 = .ok (.aload_n 0, 1) := by decide +kernel
theorem dc_X9_comes_18 : decode mX9_comes.2.1 18 = .ok (.getfield 9, 3) := by decide +kernel
theorem dc_X9_comes_21 : decode mX9_comes.2.1 21 = .ok (.iload_n 3, 1) := by decide +kernel
theorem dc_X9_comes_22 : decode mX9_comes.2.1 22 = .ok (.iload 4, 2) := by decide +kernel
theorem dc_X9_comes_24 : decode mX9_comes.2.1 24 = .ok (.invokestatic 93, 3) := by decide +kernel
theorem dc_X9_comes_27 : decode mX9_comes.2.1 27 = .ok (.iconst 0, 1) := by decide +kernel
theorem dc_X9_comes_28 : decode mX9_comes.2.1 28 = .ok (.iastore, 1) := by decide +kernel
theorem dc_X9_comes_29 : decode mX9_comes.2.1 29 = .ok (.iinc 4 1, 3) := by decide +kernel
theorem dc_X9_comes_32 : decode mX9_comes.2.1 32 = .ok (.goto (-22), 3) := by decide +kernel
theorem dc_X9_comes_35 : decode mX9_comes.2.1 35 = .ok (.aload_n 0, 1) := by decide +kernel
theorem dc_X9_comes_36 : decode mX9_comes.2.1 36 = .ok (.getfield 9, 3) := by decide +kernel
theorem dc_X9_comes_39 : decode mX9_comes.2.1 39 = .ok (.iload_n 3, 1) := by decide +kernel
theorem dc_X9_comes_40 : decode mX9_comes.2.1 40 = .ok (.iconst 0, 1) := by decide +kernel
theorem dc_X9_comes_41 : decode mX9_comes.2.1 41 = .ok (.invokestatic 93, 3) := by decide +kernel
theorem dc_X9_comes_44 : decode mX9_comes.2.1 44 = .ok (.iload_n 1, 1) := by decide +kernel
theorem dc_X9_comes_45 : decode mX9_comes.2.1 45 = .ok (.iastore, 1) := by decide +kernel
theorem dc_X9_comes_46 : decode mX9_comes.2.1 46 = .ok (.aload_n 0, 1) := by decide +kernel
theorem dc_X9_comes_47 : decode mX9_comes.2.1 47 = .ok (.getfield 9, 3) := by decide +kernel
theorem dc_X9_comes_50 : decode mX9_comes.2.1 50 = .ok (.iload_n 3, 1) := by decide +kernel
theorem dc_X9_comes_51 : decode mX9_comes.2.1 51 = .ok (.iconst 1, 1) := by decide +kernel
theorem dc_X9_comes_52 : decode mX9_comes.2.1 52 = .ok (.invokestatic 93, 3) := by decide +kernel
theorem dc_X9_comes_55 : decode mX9_comes.2.1 55 = .ok (.iload_n 2, 1) := by decide +kernel
theorem dc_X9_comes_56 : decode mX9_comes.2.1 56 = .ok (.iastore, 1) := by decide +kernel
theorem dc_X9_comes_57 : decode mX9_comes.2.1 57 = .ok (.aload_n 0, 1) := by decide +kernel
theorem dc_X9_comes_58 : decode mX9_comes.2.1 58 = .ok (.getfield 9, 3) := by decide +kernel
theorem dc_X9_comes_61 : decode mX9_comes.2.1 61 = .ok (.iload_n 3, 1) := by decide +kernel
theorem dc_X9_comes_62 : decode mX9_comes.2.1 62 = .ok (.iconst 2, 1) := by decide +kernel
theorem dc_X9_comes_63 : decode mX9_comes.2.1 63 = .ok (.invokestatic 93, 3) := by decide +kernel
theorem dc_X9_comes_66 : decode mX9_comes.2.1 66 = .ok (.iconst 1, 1) := by decide +kernel
theorem dc_X9_comes_67 : decode mX9_comes.2.1 67 = .ok (.iastore, 1) := by decide +kernel
theorem dc_X9_comes_68 : decode mX9_comes.2.1 68 = .ok (.aload_n 0, 1) := by decide +kernel
theorem dc_X9_comes_69 : decode mX9_comes.2.1 69 = .ok (.getfield 9, 3) := by decide +kernel
theorem dc_X9_comes_72 : decode mX9_comes.2.1 72 = .ok (.iload_n 3, 1) := by decide +kernel
theorem dc_X9_comes_73 : decode mX9_comes.2.1 73 = .ok (.iconst 3, 1) := by decide +kernel
theorem dc_X9_comes_74 : decode mX9_comes.2.1 74 = .ok (.invokestatic 93, 3) := by decide +kernel
theorem dc_X9_comes_77 : decode mX9_comes.2.1 77 = .ok (.iconst 1, 1) := by decide +kernel
theorem dc_X9_comes_78 : decode mX9_comes.2.1 78 = .ok (.iastore, 1) := by decide +kernel
theorem dc_X9_comes_79 : decode mX9_comes.2.1 79 = .ok (.aload_n 0, 1) := by decide +kernel
theorem dc_X9_comes_80 : decode mX9_comes.2.1 80 = .ok (.getfield 9, 3) := by decide +kernel
theorem dc_X9_comes_83 : decode mX9_comes.2.1 83 = .ok (.iconst 1, 1) := by decide +kernel
theorem dc_X9_comes_84 : decode mX9_comes.2.1 84 = .ok (.dup2, 1) := by decide +kernel
theorem dc_X9_comes_85 : decode mX9_comes.2.1 85 = .ok (.iaload, 1) := by decide +kernel
theorem dc_X9_comes_86 : decode mX9_comes.2.1 86 = .ok (.iconst 1, 1) := by decide +kernel
theorem dc_X9_comes_87 : decode mX9_comes.2.1 87 = .ok (.iadd, 1) := by decide +kernel
theorem dc_X9_comes_88 : decode mX9_comes.2.1 88 = .ok (.iastore, 1) := by decide +kernel
theorem dc_X9_comes_89 : decode mX9_comes.2.1 89 = .ok (.iload_n 3, 1) := by decide +kernel
theorem dc_X9_comes_90 : decode mX9_comes.2.1 90 = .ok (.ireturn, 1) := by decide +kernel
theorem dc_X9_ship_0 : decode mX9_ship.2.1 0 = .ok (.iload_n 1, 1) := by decide +kernel
theorem dc_X9_ship_1 : decode mX9_ship.2.1 1 = .ok (.invokestatic 96, 3) := by decide +kernel
theorem dc_X9_ship_4 : decode mX9_ship.2.1 4 = .ok (.ifCond .eq 10, 3) := by decide +kernel
theorem dc_X9_ship_7 : decode mX9_ship.2.1 7 = .ok (.iload_n 2, 1) := by decide +kernel
theorem dc_X9_ship_8 : decode mX9_ship.2.1 8 = .ok (.invokestatic 100, 3) := by decide +kernel
theorem dc_X9_ship_11 : decode mX9_ship.2.1 11 = .ok (.ifCond .ne 10, 3) := by decide +kernel
theorem dc_X9_ship_14 : decode mX9_ship.2.1 14 = .ok (.aload_n 0, 1) := by decide +kernel
theorem dc_X9_ship_15 : decode mX9_ship.2.1 15 = .ok (.ldc 60, 2) := by decide +kernel
theorem dc_X9_ship_17 : decode mX9_ship.2.1 17 = .ok (.invokevirtual 66, 3) := by decide +kernel
theorem dc_X9_ship_20 : decode mX9_ship.2.1 20 = .ok (.ireturn, 1) := by decide +kernel
theorem dc_X9_ship_21 : decode mX9_ship.2.1 21 = .ok (.aload_n 0, 1) := by decide +kernel
theorem dc_X9_ship_22 : decode mX9_ship.2.1 22 = .ok (.getfield 9, 3) := by decide +kernel
theorem dc_X9_ship_25 : decode mX9_ship.2.1 25 = .ok (.iconst 1, 1) := by decide +kernel
theorem dc_X9_ship_26 : decode mX9_ship.2.1 26 = .ok (.iaload, 1) := by decide +kernel
theorem dc_X9_ship_27 : decode mX9_ship.2.1 27 = .ok (.bipush 8, 2) := by decide +kernel
theorem dc_X9_ship_29 : decode mX9_ship.2.1 29 = .ok (.if_icmp .ne 12, 3) := by decide +kernel
theorem dc_X9_ship_32 : decode mX9_ship.2.1 32 = .ok (.aload_n 0, 1) := by decide +kernel
theorem dc_X9_ship_33 : decode mX9_ship.2.1 33 = .ok (.ldc 103, 2) := by decide +kernel
theorem dc_X9_ship_35 : decode mX9_ship.2.1 35 = .ok (.invokevirtual 66, 3) := by decide +kernel
theorem dc_X9_ship_38 : decode mX9_ship.2.1 38 = .ok (.goto 9, 3) := by decide +kernel
theorem dc_X9_ship_41 : decode mX9_ship.2.1 41 = .ok (.aload_n 0, 1) := by decide +kernel
theorem dc_X9_ship_42 : decode mX9_ship.2.1 42 = .ok (.iload_n 1, 1) := by decide +kernel
theorem dc_X9_ship_43 : decode mX9_ship.2.1 43 = .ok (.iload_n 2, 1) := by decide +kernel
theorem dc_X9_ship_44 : decode mX9_ship.2.1 44 = .ok (.invokevirtual 104, 3) := by decide +kernel
theorem dc_X9_ship_47 : decode mX9_ship.2.1 47 = .ok (.ireturn, 1) := by decide +kernel
theorem dc_X9_near_0 : decode mX9_near.2.1 0 = .ok (.aload_n 0, 1) := by decide +kernel
theorem dc_X9_near_1 : decode mX9_near.2.1 1 = .ok (.iload_n 1, 1) := by decide +kernel
theorem dc_X9_near_2 : decode mX9_near.2.1 2 = .ok (.iconst 1, 1) := by decide +kernel
theorem dc_X9_near_3 : decode mX9_near.2.1 3 = .ok (.invokevirtual 107, 3) := by decide +kernel
theorem dc_X9_near_6 : decode mX9_near.2.1 6 = .ok (.istore_n 2, 1) := by decide +kernel
theorem dc_X9_near_7 : decode mX9_near.2.1 7 = .ok (.iload_n 2, 1) := by decide +kernel
theorem dc_X9_near_8 : decode mX9_near.2.1 8 = .ok (.bipush 8, 2) := by decide +kernel
theorem dc_X9_near_10 : decode mX9_near.2.1 10 = .ok (.if_icmp .gt 7, 3) := by decide +kernel
theorem dc_X9_near_13 : decode mX9_near.2.1 13 = .ok (.iconst 1, 1) := by decide +kernel
theorem dc_X9_near_14 : decode mX9_near.2.1 14 = .ok (.goto 4, 3) := by decide +kernel
theorem dc_X9_near_17 : decode mX9_near.2.1 17 = .ok (.iconst 0, 1) := by decide +kernel
theorem dc_X9_near_18 : decode mX9_near.2.1 18 = .ok (.bipush 23, 2) := by decide +kernel
theorem dc_X9_near_20 : decode mX9_near.2.1 20 = .ok (.iload_n 2, 1) := by decide +kernel
theorem dc_X9_near_21 : decode mX9_near.2.1 21 = .ok (.isub, 1) := by decide +kernel
theorem dc_X9_near_22 : decode mX9_near.2.1 22 = .ok (.bipush 8, 2) := by decide +kernel
theorem dc_X9_near_24 : decode mX9_near.2.1 24 = .ok (.if_icmp .gt 7, 3) := by decide +kernel
theorem dc_X9_near_27 : decode mX9_near.2.1 27 = .ok (.iconst 2, 1) := by decide +kernel
theorem dc_X9_near_28 : decode mX9_near.2.1 28 = .ok (.goto 4, 3) := by decide +kernel
theorem dc_X9_near_31 : decode mX9_near.2.1 31 = .ok (.iconst 0, 1) := by decide +kernel
theorem dc_X9_near_32 : decode mX9_near.2.1 32 = .ok (.ior, 1) := by decide +kernel
theorem dc_X9_near_33 : decode mX9_near.2.1 33 = .ok (.ireturn, 1) := by decide +kernel
theorem dc_X9_sees_0 : decode mX9_sees.2.1 0 = .ok (.aload_n 0, 1) := by decide +kernel
theorem dc_X9_sees_1 : decode mX9_sees.2.1 1 = .ok (.getfield 9, 3) := by decide +kernel
theorem dc_X9_sees_4 : decode mX9_sees.2.1 4 = .ok (.iconst 0, 1) := by decide +kernel
theorem dc_X9_sees_5 : decode mX9_sees.2.1 5 = .ok (.iaload, 1) := by decide +kernel
theorem dc_X9_sees_6 : decode mX9_sees.2.1 6 = .ok (.iconst 2, 1) := by decide +kernel
theorem dc_X9_sees_7 : decode mX9_sees.2.1 7 = .ok (.irem, 1) := by decide +kernel
theorem dc_X9_sees_8 : decode mX9_sees.2.1 8 = .ok (.ifCond .ne 7, 3) := by decide +kernel
theorem dc_X9_sees_11 : decode mX9_sees.2.1 11 = .ok (.iconst 1, 1) := by decide +kernel
theorem dc_X9_sees_12 : decode mX9_sees.2.1 12 = .ok (.goto 4, 3) := by decide +kernel
theorem dc_X9_sees_15 : decode mX9_sees.2.1 15 = .ok (.iconst 0, 1) := by decide +kernel
theorem dc_X9_sees_16 : decode mX9_sees.2.1 16 = .ok (.istore_n 3, 1) := by decide +kernel
theorem dc_X9_sees_17 : decode mX9_sees.2.1 17 = .ok (.aload_n 0, 1) := by decide +kernel
theorem dc_X9_sees_18 : decode mX9_sees.2.1 18 = .ok (.iload_n 1, 1) := by decide +kernel
theorem dc_X9_sees_19 : decode mX9_sees.2.1 19 = .ok (.iconst 0, 1) := by decide +kernel
theorem dc_X9_sees_20 : decode mX9_sees.2.1 20 = .ok (.invokevirtual 107, 3) := by decide +kernel
theorem dc_X9_sees_23 : decode mX9_sees.2.1 23 = .ok (.tableswitch 108 1 6 #[37, 68, 78, 98, 102, 45], 37) := by decide +kernel
theorem dc_X9_sees_60 : decode mX9_sees.2.1 60 = .ok (.iload_n 2, 1) := by decide +kernel
theorem dc_X9_sees_61 : decode mX9_sees.2.1 61 = .ok (.aload_n 0, 1) := by decide +kernel
theorem dc_X9_sees_62 : decode mX9_sees.2.1 62 = .ok (.iload_n 1, 1) := by decide +kernel
theorem dc_X9_sees_63 : decode mX9_sees.2.1 63 = .ok (.invokevirtual 110, 3) := by decide +kernel
theorem dc_X9_sees_66 : decode mX9_sees.2.1 66 = .ok (.iand, 1) := by decide +kernel
theorem dc_X9_sees_67 : decode mX9_sees.2.1 67 = .ok (.ireturn, 1) := by decide +kernel
theorem dc_X9_sees_68 : decode mX9_sees.2.1 68 = .ok (.aload_n 0, 1) := by decide +kernel
theorem dc_X9_sees_69 : decode mX9_sees.2.1 69 = .ok (.iload_n 1, 1) := by decide +kernel
theorem dc_X9_sees_70 : decode mX9_sees.2.1 70 = .ok (.iconst 1, 1) := by decide +kernel
theorem dc_X9_sees_71 : decode mX9_sees.2.1 71 = .ok (.invokevirtual 107, 3) := by decide +kernel
theorem dc_X9_sees_74 : decode mX9_sees.2.1 74 = .ok (.iconst 2, 1) := by decide +kernel
theorem dc_X9_sees_75 : decode mX9_sees.2.1 75 = .ok (.irem, 1) := by decide +kernel
theorem dc_X9_sees_76 : decode mX9_sees.2.1 76 = .ok (.ifCond .ne 7, 3) := by decide +kernel
theorem dc_X9_sees_79 : decode mX9_sees.2.1 79 = .ok (.iload_n 2, 1) := by decide +kernel
theorem dc_X9_sees_80 : decode mX9_sees.2.1 80 = .ok (.goto 10, 3) := by decide +kernel
theorem dc_X9_sees_83 : decode mX9_sees.2.1 83 = .ok (.iload_n 2, 1) := by decide +kernel
theorem dc_X9_sees_84 : decode mX9_sees.2.1 84 = .ok (.aload_n 0, 1) := by decide +kernel
theorem dc_X9_sees_85 : decode mX9_sees.2.1 85 = .ok (.iload_n 1, 1) := by decide +kernel
theorem dc_X9_sees_86 : decode mX9_sees.2.1 86 = .ok (.invokevirtual 110, 3) := by decide +kernel
theorem dc_X9_sees_89 : decode mX9_sees.2.1 89 = .ok (.iand, 1) := by decide +kernel
theorem dc_X9_sees_90 : decode mX9_sees.2.1 90 = .ok (.ireturn, 1) := by decide +kernel
theorem dc_X9_sees_91 : decode mX9_sees.2.1 91 = .ok (.iload_n 3, 1) := by decide +kernel
theorem dc_X9_sees_92 : decode mX9_sees.2.1 92 = .ok (.ifCond .eq 7, 3) := by decide +kernel
theorem dc_X9_sees_95 : decode mX9_sees.2.1 95 = .ok (.iload_n 2, 1) := by decide +kernel
theorem dc_X9_sees_96 : decode mX9_sees.2.1 96 = .ok (.goto 4, 3) := by decide +kernel
theorem dc_X9_sees_99 : decode mX9_sees.2.1 99 = .ok (.iconst 0, 1) := by decide +kernel
theorem dc_X9_sees_100 : decode mX9_sees.2.1 100 = .ok (.ireturn, 1) := by decide +kernel
theorem dc_X9_sees_101 : decode mX9_sees.2.1 101 = .ok (.iload_n 3, 1) := by decide +kernel
theorem dc_X9_sees_102 : decode mX9_sees.2.1 102 = .ok (.ifCond .ne 13, 3) := by decide +kernel
theorem dc_X9_sees_105 : decode mX9_sees.2.1 105 = .ok (.aload_n 0, 1) := by decide +kernel
theorem dc_X9_sees_106 : decode mX9_sees.2.1 106 = .ok (.iload_n 1, 1) := by decide +kernel
theorem dc_X9_sees_107 : decode mX9_sees.2.1 107 = .ok (.iconst 3, 1) := by decide +kernel
theorem dc_X9_sees_108 : decode mX9_sees.2.1 108 = .ok (.invokevirtual 107, 3) := by decide +kernel
theorem dc_X9_sees_111 : decode mX9_sees.2.1 111 = .ok (.iconst 1, 1) := by decide +kernel
theorem dc_X9_sees_112 : decode mX9_sees.2.1 112 = .ok (.if_icmp .gt 7, 3) := by decide +kernel
theorem dc_X9_sees_115 : decode mX9_sees.2.1 115 = .ok (.iload_n 2, 1) := by decide +kernel
theorem dc_X9_sees_116 : decode mX9_sees.2.1 116 = .ok (.goto 4, 3) := by decide +kernel
theorem dc_X9_sees_119 : decode mX9_sees.2.1 119 = .ok (.iconst 0, 1) := by decide +kernel
theorem dc_X9_sees_120 : decode mX9_sees.2.1 120 = .ok (.ireturn, 1) := by decide +kernel
theorem dc_X9_sees_121 : decode mX9_sees.2.1 121 = .ok (.iload_n 2, 1) := by decide +kernel
theorem dc_X9_sees_122 : decode mX9_sees.2.1 122 = .ok (.iconst 2, 1) := by decide +kernel
theorem dc_X9_sees_123 : decode mX9_sees.2.1 123 = .ok (.iand, 1) := by decide +kernel
theorem dc_X9_sees_124 : decode mX9_sees.2.1 124 = .ok (.ireturn, 1) := by decide +kernel
theorem dc_X9_sees_125 : decode mX9_sees.2.1 125 = .ok (.iconst 3, 1) := by decide +kernel
theorem dc_X9_sees_126 : decode mX9_sees.2.1 126 = .ok (.iload_n 2, 1) := by decide +kernel
theorem dc_X9_sees_127 : decode mX9_sees.2.1 127 = .ok (.iconst (-1), 1) := by decide +kernel
theorem dc_X9_sees_128 : decode mX9_sees.2.1 128 = .ok (.ixor, 1) := by decide +kernel
theorem dc_X9_sees_129 : decode mX9_sees.2.1 129 = .ok (.iand, 1) := by decide +kernel
theorem dc_X9_sees_130 : decode mX9_sees.2.1 130 = .ok (.ireturn, 1) := by decide +kernel
theorem dc_X9_sees_131 : decode mX9_sees.2.1 131 = .ok (.iload_n 2, 1) := by decide +kernel
theorem dc_X9_sees_132 : decode mX9_sees.2.1 132 = .ok (.ireturn, 1) := by decide +kernel
theorem dc_X9_goes_0 : decode mX9_goes.2.1 0 = .ok (.aload_n 0, 1) := by decide +kernel
theorem dc_X9_goes_1 : decode mX9_goes.2.1 1 = .ok (.iload_n 1, 1) := by decide +kernel
theorem dc_X9_goes_2 : decode mX9_goes.2.1 2 = .ok (.iconst 3, 1) := by decide +kernel
theorem dc_X9_goes_3 : decode mX9_goes.2.1 3 = .ok (.invokevirtual 107, 3) := by decide +kernel
theorem dc_X9_goes_6 : decode mX9_goes.2.1 6 = .ok (.istore_n 2, 1) := by decide +kernel
theorem dc_X9_goes_7 : decode mX9_goes.2.1 7 = .ok (.iload_n 2, 1) := by decide +kernel
theorem dc_X9_goes_8 : decode mX9_goes.2.1 8 = .ok (.ifCond .le 7, 3) := by decide +kernel
theorem dc_X9_goes_11 : decode mX9_goes.2.1 11 = .ok (.iconst 1, 1) := by decide +kernel
theorem dc_X9_goes_12 : decode mX9_goes.2.1 12 = .ok (.goto 4, 3) := by decide +kernel
theorem dc_X9_goes_15 : decode mX9_goes.2.1 15 = .ok (.iconst 0, 1) := by decide +kernel
theorem dc_X9_goes_16 : decode mX9_goes.2.1 16 = .ok (.istore_n 3, 1) := by decide +kernel
theorem dc_X9_goes_17 : decode mX9_goes.2.1 17 = .ok (.iload_n 2, 1) := by decide +kernel
theorem dc_X9_goes_18 : decode mX9_goes.2.1 18 = .ok (.iconst 1, 1) := by decide +kernel
theorem dc_X9_goes_19 : decode mX9_goes.2.1 19 = .ok (.iadd, 1) := by decide +kernel
theorem dc_X9_goes_20 : decode mX9_goes.2.1 20 = .ok (.aload_n 0, 1) := by decide +kernel
theorem dc_X9_goes_21 : decode mX9_goes.2.1 21 = .ok (.getfield 9, 3) := by decide +kernel
theorem dc_X9_goes_24 : decode mX9_goes.2.1 24 = .ok (.iconst 0, 1) := by decide +kernel
theorem dc_X9_goes_25 : decode mX9_goes.2.1 25 = .ok (.iaload, 1) := by decide +kernel
theorem dc_X9_goes_26 : decode mX9_goes.2.1 26 = .ok (.iconst 2, 1) := by decide +kernel
theorem dc_X9_goes_27 : decode mX9_goes.2.1 27 = .ok (.irem, 1) := by decide +kernel
theorem dc_X9_goes_28 : decode mX9_goes.2.1 28 = .ok (.isub, 1) := by decide +kernel
theorem dc_X9_goes_29 : decode mX9_goes.2.1 29 = .ok (.istore 4, 2) := by decide +kernel
theorem dc_X9_goes_31 : decode mX9_goes.2.1 31 = .ok (.aload_n 0, 1) := by decide +kernel
theorem dc_X9_goes_32 : decode mX9_goes.2.1 32 = .ok (.iload_n 1, 1) := by decide +kernel
theorem dc_X9_goes_33 : decode mX9_goes.2.1 33 = .ok (.iconst 0, 1) := by decide +kernel
theorem dc_X9_goes_34 : decode mX9_goes.2.1 34 = .ok (.invokevirtual 107, 3) := by decide +kernel
theorem dc_X9_goes_37 : decode mX9_goes.2.1 37 = .ok (.tableswitch 57 1 6 #[39, 45, 49, 52, 57, 41], 39) := by decide +kernel
theorem dc_X9_goes_76 : decode mX9_goes.2.1 76 = .ok (.iload_n 3, 1) := by decide +kernel
theorem dc_X9_goes_77 : decode mX9_goes.2.1 77 = .ok (.ireturn, 1) := by decide +kernel
theorem dc_X9_goes_78 : decode mX9_goes.2.1 78 = .ok (.iconst 2, 1) := by decide +kernel
theorem dc_X9_goes_79 : decode mX9_goes.2.1 79 = .ok (.iload_n 3, 1) := by decide +kernel
theorem dc_X9_goes_80 : decode mX9_goes.2.1 80 = .ok (.imul, 1) := by decide +kernel
theorem dc_X9_goes_81 : decode mX9_goes.2.1 81 = .ok (.ireturn, 1) := by decide +kernel
theorem dc_X9_goes_82 : decode mX9_goes.2.1 82 = .ok (.iload_n 2, 1) := by decide +kernel
theorem dc_X9_goes_83 : decode mX9_goes.2.1 83 = .ok (.iconst 1, 1) := by decide +kernel
theorem dc_X9_goes_84 : decode mX9_goes.2.1 84 = .ok (.iadd, 1) := by decide +kernel
theorem dc_X9_goes_85 : decode mX9_goes.2.1 85 = .ok (.ireturn, 1) := by decide +kernel
theorem dc_X9_goes_86 : decode mX9_goes.2.1 86 = .ok (.iload 4, 2) := by decide +kernel
theorem dc_X9_goes_88 : decode mX9_goes.2.1 88 = .ok (.ireturn, 1) := by decide +kernel
theorem dc_X9_goes_89 : decode mX9_goes.2.1 89 = .ok (.iload 4, 2) := by decide +kernel
theorem dc_X9_goes_91 : decode mX9_goes.2.1 91 = .ok (.iconst 2, 1) := by decide +kernel
theorem dc_X9_goes_92 : decode mX9_goes.2.1 92 = .ok (.iadd, 1) := by decide +kernel
theorem dc_X9_goes_93 : decode mX9_goes.2.1 93 = .ok (.ireturn, 1) := by decide +kernel
theorem dc_X9_goes_94 : decode mX9_goes.2.1 94 = .ok (.iload_n 2, 1) := by decide +kernel
theorem dc_X9_goes_95 : decode mX9_goes.2.1 95 = .ok (.ireturn, 1) := by decide +kernel
theorem dc_X9_shownNow_0 : decode mX9_shownNow.2.1 0 = .ok (.aload_n 0, 1) := by decide +kernel
theorem dc_X9_shownNow_1 : decode mX9_shownNow.2.1 1 = .ok (.invokevirtual 82, 3) := by decide +kernel
theorem dc_X9_shownNow_4 : decode mX9_shownNow.2.1 4 = .ok (.iconst 1, 1) := by decide +kernel
theorem dc_X9_shownNow_5 : decode mX9_shownNow.2.1 5 = .ok (.imul, 1) := by decide +kernel
theorem dc_X9_shownNow_6 : decode mX9_shownNow.2.1 6 = .ok (.aload_n 0, 1) := by decide +kernel
theorem dc_X9_shownNow_7 : decode mX9_shownNow.2.1 7 = .ok (.invokevirtual 90, 3) := by decide +kernel
theorem dc_X9_shownNow_10 : decode mX9_shownNow.2.1 10 = .ok (.iconst 2, 1) := by decide +kernel
theorem dc_X9_shownNow_11 : decode mX9_shownNow.2.1 11 = .ok (.imul, 1) := by decide +kernel
theorem dc_X9_shownNow_12 : decode mX9_shownNow.2.1 12 = .ok (.iadd, 1) := by decide +kernel
theorem dc_X9_shownNow_13 : decode mX9_shownNow.2.1 13 = .ok (.ireturn, 1) := by decide +kernel
theorem dc_X9_of_0 : decode mX9_of.2.1 0 = .ok (.aload_n 0, 1) := by decide +kernel
theorem dc_X9_of_1 : decode mX9_of.2.1 1 = .ok (.iload_n 1, 1) := by decide +kernel
theorem dc_X9_of_2 : decode mX9_of.2.1 2 = .ok (.invokevirtual 113, 3) := by decide +kernel
theorem dc_X9_of_5 : decode mX9_of.2.1 5 = .ok (.ifCond .eq 13, 3) := by decide +kernel
theorem dc_X9_of_8 : decode mX9_of.2.1 8 = .ok (.iload_n 2, 1) := by decide +kernel
theorem dc_X9_of_9 : decode mX9_of.2.1 9 = .ok (.iconst 0, 1) := by decide +kernel
theorem dc_X9_of_10 : decode mX9_of.2.1 10 = .ok (.bipush 8, 2) := by decide +kernel
theorem dc_X9_of_12 : decode mX9_of.2.1 12 = .ok (.invokestatic 71, 3) := by decide +kernel
theorem dc_X9_of_15 : decode mX9_of.2.1 15 = .ok (.ifCond .ne 10, 3) := by decide +kernel
theorem dc_X9_of_18 : decode mX9_of.2.1 18 = .ok (.aload_n 0, 1) := by decide +kernel
theorem dc_X9_of_19 : decode mX9_of.2.1 19 = .ok (.ldc 60, 2) := by decide +kernel
theorem dc_X9_of_21 : decode mX9_of.2.1 21 = .ok (.invokevirtual 66, 3) := by decide +kernel
theorem dc_X9_of_24 : decode mX9_of.2.1 24 = .ok (.ireturn, 1) := by decide +kernel
theorem dc_X9_of_25 : decode mX9_of.2.1 25 = .ok (.iload_n 2, 1) := by decide +kernel
theorem dc_X9_of_26 : decode mX9_of.2.1 26 = .ok (.bipush 7, 2) := by decide +kernel
theorem dc_X9_of_28 : decode mX9_of.2.1 28 = .ok (.if_icmp .ge 12, 3) := by decide +kernel
theorem dc_X9_of_31 : decode mX9_of.2.1 31 = .ok (.aload_n 0, 1) := by decide +kernel
theorem dc_X9_of_32 : decode mX9_of.2.1 32 = .ok (.iload_n 1, 1) := by decide +kernel
theorem dc_X9_of_33 : decode mX9_of.2.1 33 = .ok (.iload_n 2, 1) := by decide +kernel
theorem dc_X9_of_34 : decode mX9_of.2.1 34 = .ok (.invokevirtual 107, 3) := by decide +kernel
theorem dc_X9_of_37 : decode mX9_of.2.1 37 = .ok (.goto 26, 3) := by decide +kernel
theorem dc_X9_of_40 : decode mX9_of.2.1 40 = .ok (.iload_n 2, 1) := by decide +kernel
theorem dc_X9_of_41 : decode mX9_of.2.1 41 = .ok (.bipush 7, 2) := by decide +kernel
theorem dc_X9_of_43 : decode mX9_of.2.1 43 = .ok (.if_icmp .ne 11, 3) := by decide +kernel
theorem dc_X9_of_46 : decode mX9_of.2.1 46 = .ok (.aload_n 0, 1) := by decide +kernel
theorem dc_X9_of_47 : decode mX9_of.2.1 47 = .ok (.iload_n 1, 1) := by decide +kernel
theorem dc_X9_of_48 : decode mX9_of.2.1 48 = .ok (.invokevirtual 116, 3) := by decide +kernel
theorem dc_X9_of_51 : decode mX9_of.2.1 51 = .ok (.goto 12, 3) := by decide +kernel
theorem dc_X9_of_54 : decode mX9_of.2.1 54 = .ok (.aload_n 0, 1) := by decide +kernel
theorem dc_X9_of_55 : decode mX9_of.2.1 55 = .ok (.iload_n 1, 1) := by decide +kernel
theorem dc_X9_of_56 : decode mX9_of.2.1 56 = .ok (.aload_n 0, 1) := by decide +kernel
theorem dc_X9_of_57 : decode mX9_of.2.1 57 = .ok (.invokevirtual 119, 3) := by decide +kernel
theorem dc_X9_of_60 : decode mX9_of.2.1 60 = .ok (.invokevirtual 122, 3) := by decide +kernel
theorem dc_X9_of_63 : decode mX9_of.2.1 63 = .ok (.ireturn, 1) := by decide +kernel
theorem dc_X9_isField_0 : decode mX9_isField.2.1 0 = .ok (.iload_n 0, 1) := by decide +kernel
theorem dc_X9_isField_1 : decode mX9_isField.2.1 1 = .ok (.tableswitch 76 0 6 #[43, 48, 53, 60, 53, 67, 67], 43) := by decide +kernel
theorem dc_X9_isField_44 : decode mX9_isField.2.1 44 = .ok (.iload_n 1, 1) := by decide +kernel
theorem dc_X9_isField_45 : decode mX9_isField.2.1 45 = .ok (.invokestatic 96, 3) := by decide +kernel
theorem dc_X9_isField_48 : decode mX9_isField.2.1 48 = .ok (.ireturn, 1) := by decide +kernel
theorem dc_X9_isField_49 : decode mX9_isField.2.1 49 = .ok (.iload_n 1, 1) := by decide +kernel
theorem dc_X9_isField_50 : decode mX9_isField.2.1 50 = .ok (.invokestatic 100, 3) := by decide +kernel
theorem dc_X9_isField_53 : decode mX9_isField.2.1 53 = .ok (.ireturn, 1) := by decide +kernel
theorem dc_X9_isField_54 : decode mX9_isField.2.1 54 = .ok (.iload_n 1, 1) := by decide +kernel
theorem dc_X9_isField_55 : decode mX9_isField.2.1 55 = .ok (.iconst 0, 1) := by decide +kernel
theorem dc_X9_isField_56 : decode mX9_isField.2.1 56 = .ok (.iconst 1, 1) := by decide +kernel
theorem dc_X9_isField_57 : decode mX9_isField.2.1 57 = .ok (.invokestatic 71, 3) := by decide +kernel
theorem dc_X9_isField_60 : decode mX9_isField.2.1 60 = .ok (.ireturn, 1) := by decide +kernel
theorem dc_X9_isField_61 : decode mX9_isField.2.1 61 = .ok (.iload_n 1, 1) := by decide +kernel
theorem dc_X9_isField_62 : decode mX9_isField.2.1 62 = .ok (.iconst 0, 1) := by decide +kernel
theorem dc_X9_isField_63 : decode mX9_isField.2.1 63 = .ok (.iconst 5, 1) := by decide +kernel
theorem dc_X9_isField_64 : decode mX9_isField.2.1 64 = .ok (.invokestatic 71, 3) := by decide +kernel
theorem dc_X9_isField_67 : decode mX9_isField.2.1 67 = .ok (.ireturn, 1) := by decide +kernel
theorem dc_X9_isField_68 : decode mX9_isField.2.1 68 = .ok (.iload_n 1, 1) := by decide +kernel
theorem dc_X9_isField_69 : decode mX9_isField.2.1 69 = .ok (.iconst 0, 1) := by decide +kernel
theorem dc_X9_isField_70 : decode mX9_isField.2.1 70 = .ok (.sipush 9999, 3) := by decide +kernel
theorem dc_X9_isField_73 : decode mX9_isField.2.1 73 = .ok (.invokestatic 71, 3) := by decide +kernel
theorem dc_X9_isField_76 : decode mX9_isField.2.1 76 = .ok (.ireturn, 1) := by decide +kernel
theorem dc_X9_isField_77 : decode mX9_isField.2.1 77 = .ok (.iconst 0, 1) := by decide +kernel
theorem dc_X9_isField_78 : decode mX9_isField.2.1 78 = .ok (.ireturn, 1) := by decide +kernel
theorem dc_X9_change_0 : decode mX9_change.2.1 0 = .ok (.aload_n 0, 1) := by decide +kernel
theorem dc_X9_change_1 : decode mX9_change.2.1 1 = .ok (.iload_n 1, 1) := by decide +kernel
theorem dc_X9_change_2 : decode mX9_change.2.1 2 = .ok (.invokevirtual 113, 3) := by decide +kernel
theorem dc_X9_change_5 : decode mX9_change.2.1 5 = .ok (.ifCond .eq 24, 3) := by decide +kernel
theorem dc_X9_change_8 : decode mX9_change.2.1 8 = .ok (.iload_n 2, 1) := by decide +kernel
theorem dc_X9_change_9 : decode mX9_change.2.1 9 = .ok (.iload_n 3, 1) := by decide +kernel
theorem dc_X9_change_10 : decode mX9_change.2.1 10 = .ok (.invokestatic 125, 3) := by decide +kernel
theorem dc_X9_change_13 : decode mX9_change.2.1 13 = .ok (.ifCond .eq 16, 3) := by decide +kernel
theorem dc_X9_change_16 : decode mX9_change.2.1 16 = .ok (.aload_n 0, 1) := by decide +kernel
theorem dc_X9_change_17 : decode mX9_change.2.1 17 = .ok (.iload_n 1, 1) := by decide +kernel
theorem dc_X9_change_18 : decode mX9_change.2.1 18 = .ok (.iload_n 2, 1) := by decide +kernel
theorem dc_X9_change_19 : decode mX9_change.2.1 19 = .ok (.invokestatic 93, 3) := by decide +kernel
theorem dc_X9_change_22 : decode mX9_change.2.1 22 = .ok (.iload_n 3, 1) := by decide +kernel
theorem dc_X9_change_23 : decode mX9_change.2.1 23 = .ok (.invokevirtual 78, 3) := by decide +kernel
theorem dc_X9_change_26 : decode mX9_change.2.1 26 = .ok (.goto 9, 3) := by decide +kernel
theorem dc_X9_change_29 : decode mX9_change.2.1 29 = .ok (.aload_n 0, 1) := by decide +kernel
theorem dc_X9_change_30 : decode mX9_change.2.1 30 = .ok (.ldc 60, 2) := by decide +kernel
theorem dc_X9_change_32 : decode mX9_change.2.1 32 = .ok (.invokevirtual 66, 3) := by decide +kernel
theorem dc_X9_change_35 : decode mX9_change.2.1 35 = .ok (.ireturn, 1) := by decide +kernel
theorem dc_X9_isOut_0 : decode mX9_isOut.2.1 0 = .ok (.aload_n 0, 1) := by decide +kernel
theorem dc_X9_isOut_1 : decode mX9_isOut.2.1 1 = .ok (.iload_n 1, 1) := by decide +kernel
theorem dc_X9_isOut_2 : decode mX9_isOut.2.1 2 = .ok (.iconst 4, 1) := by decide +kernel
theorem dc_X9_isOut_3 : decode mX9_isOut.2.1 3 = .ok (.invokevirtual 107, 3) := by decide +kernel
theorem dc_X9_isOut_6 : decode mX9_isOut.2.1 6 = .ok (.ifCond .ne 7, 3) := by decide +kernel
theorem dc_X9_isOut_9 : decode mX9_isOut.2.1 9 = .ok (.iconst 1, 1) := by decide +kernel
theorem dc_X9_isOut_10 : decode mX9_isOut.2.1 10 = .ok (.goto 4, 3) := by decide +kernel
theorem dc_X9_isOut_13 : decode mX9_isOut.2.1 13 = .ok (.iconst 0, 1) := by decide +kernel
theorem dc_X9_isOut_14 : decode mX9_isOut.2.1 14 = .ok (.ireturn, 1) := by decide +kernel
theorem dc_X9_who_0 : decode mX9_who.2.1 0 = .ok (.iload_n 1, 1) := by decide +kernel
theorem dc_X9_who_1 : decode mX9_who.2.1 1 = .ok (.invokestatic 100, 3) := by decide +kernel
theorem dc_X9_who_4 : decode mX9_who.2.1 4 = .ok (.ifCond .ne 10, 3) := by decide +kernel
theorem dc_X9_who_7 : decode mX9_who.2.1 7 = .ok (.aload_n 0, 1) := by decide +kernel
theorem dc_X9_who_8 : decode mX9_who.2.1 8 = .ok (.ldc 60, 2) := by decide +kernel
theorem dc_X9_who_10 : decode mX9_who.2.1 10 = .ok (.invokevirtual 66, 3) := by decide +kernel
theorem dc_X9_who_13 : decode mX9_who.2.1 13 = .ok (.ireturn, 1) := by decide +kernel
theorem dc_X9_who_14 : decode mX9_who.2.1 14 = .ok (.iconst 0, 1) := by decide +kernel
theorem dc_X9_who_15 : decode mX9_who.2.1 15 = .ok (.istore_n 2, 1) := by decide +kernel
theorem dc_X9_who_16 : decode mX9_who.2.1 16 = .ok (.iconst 0, 1) := by decide +kernel
theorem dc_X9_who_17 : decode mX9_who.2.1 17 = .ok (.istore_n 3, 1) := by decide +kernel
theorem dc_X9_who_18 : decode mX9_who.2.1 18 = .ok (.iload_n 3, 1) := by decide +kernel
theorem dc_X9_who_19 : decode mX9_who.2.1 19 = .ok (.aload_n 0, 1) := by decide +kernel
theorem dc_X9_who_20 : decode mX9_who.2.1 20 = .ok (.getfield 9, 3) := by decide +kernel
theorem dc_X9_who_23 : decode mX9_who.2.1 23 = .ok (.iconst 1, 1) := by decide +kernel
theorem dc_X9_who_24 : decode mX9_who.2.1 24 = .ok (.iaload, 1) := by decide +kernel
theorem dc_X9_who_25 : decode mX9_who.2.1 25 = .ok (.if_icmp .ge 37, 3) := by decide +kernel
theorem dc_X9_who_28 : decode mX9_who.2.1 28 = .ok (.iload_n 2, 1) := by decide +kernel
theorem dc_X9_who_29 : decode mX9_who.2.1 29 = .ok (.aload_n 0, 1) := by decide +kernel
theorem dc_X9_who_30 : decode mX9_who.2.1 30 = .ok (.iload_n 3, 1) := by decide +kernel
theorem dc_X9_who_31 : decode mX9_who.2.1 31 = .ok (.invokevirtual 129, 3) := by decide +kernel
theorem dc_X9_who_34 : decode mX9_who.2.1 34 = .ok (.ifCond .eq 19, 3) := by decide +kernel
theorem dc_X9_who_37 : decode mX9_who.2.1 37 = .ok (.aload_n 0, 1) := by decide +kernel
theorem dc_X9_who_38 : decode mX9_who.2.1 38 = .ok (.iload_n 3, 1) := by decide +kernel
theorem dc_X9_who_39 : decode mX9_who.2.1 39 = .ok (.iconst 1, 1) := by decide +kernel
theorem dc_X9_who_40 : decode mX9_who.2.1 40 = .ok (.invokevirtual 107, 3) := by decide +kernel
theorem dc_X9_who_43 : decode mX9_who.2.1 43 = .ok (.iload_n 1, 1) := by decide +kernel
theorem dc_X9_who_44 : decode mX9_who.2.1 44 = .ok (.if_icmp .ne 9, 3) := by decide +kernel
theorem dc_X9_who_47 : decode mX9_who.2.1 47 = .ok (.iconst 1, 1) := by decide +kernel
theorem dc_X9_who_48 : decode mX9_who.2.1 48 = .ok (.iload_n 3, 1) := by decide +kernel
theorem dc_X9_who_49 : decode mX9_who.2.1 49 = .ok (.ishl, 1) := by decide +kernel
theorem dc_X9_who_50 : decode mX9_who.2.1 50 = .ok (.goto 4, 3) := by decide +kernel
theorem dc_X9_who_53 : decode mX9_who.2.1 53 = .ok (.iconst 0, 1) := by decide +kernel
theorem dc_X9_who_54 : decode mX9_who.2.1 54 = .ok (.ior, 1) := by decide +kernel
theorem dc_X9_who_55 : decode mX9_who.2.1 55 = .ok (.istore_n 2, 1) := by decide +kernel
theorem dc_X9_who_56 : decode mX9_who.2.1 56 = .ok (.iinc 3 1, 3) := by decide +kernel
theorem dc_X9_who_59 : decode mX9_who.2.1 59 = .ok (.goto (-41), 3) := by decide +kernel
theorem dc_X9_who_62 : decode mX9_who.2.1 62 = .ok (.iload_n 2, 1) := by decide +kernel
theorem dc_X9_who_63 : decode mX9_who.2.1 63 = .ok (.ireturn, 1) := by decide +kernel
theorem dc_X9_steers_0 : decode mX9_steers.2.1 0 = .ok (.iload_n 2, 1) := by decide +kernel
theorem dc_X9_steers_1 : decode mX9_steers.2.1 1 = .ok (.iconst 1, 1) := by decide +kernel
theorem dc_X9_steers_2 : decode mX9_steers.2.1 2 = .ok (.if_icmp .ne 7, 3) := by decide +kernel
theorem dc_X9_steers_5 : decode mX9_steers.2.1 5 = .ok (.iconst 1, 1) := by decide +kernel
theorem dc_X9_steers_6 : decode mX9_steers.2.1 6 = .ok (.goto 18, 3) := by decide +kernel
theorem dc_X9_steers_9 : decode mX9_steers.2.1 9 = .ok (.iload_n 2, 1) := by decide +kernel
theorem dc_X9_steers_10 : decode mX9_steers.2.1 10 = .ok (.iconst 2, 1) := by decide +kernel
theorem dc_X9_steers_11 : decode mX9_steers.2.1 11 = .ok (.if_icmp .ne 7, 3) := by decide +kernel
theorem dc_X9_steers_14 : decode mX9_steers.2.1 14 = .ok (.iconst 0, 1) := by decide +kernel
theorem dc_X9_steers_15 : decode mX9_steers.2.1 15 = .ok (.goto 9, 3) := by decide +kernel
theorem dc_X9_steers_18 : decode mX9_steers.2.1 18 = .ok (.aload_n 0, 1) := by decide +kernel
theorem dc_X9_steers_19 : decode mX9_steers.2.1 19 = .ok (.iload_n 1, 1) := by decide +kernel
theorem dc_X9_steers_20 : decode mX9_steers.2.1 20 = .ok (.iconst 2, 1) := by decide +kernel
theorem dc_X9_steers_21 : decode mX9_steers.2.1 21 = .ok (.invokevirtual 107, 3) := by decide +kernel
theorem dc_X9_steers_24 : decode mX9_steers.2.1 24 = .ok (.istore_n 3, 1) := by decide +kernel
theorem dc_X9_steers_25 : decode mX9_steers.2.1 25 = .ok (.aload_n 0, 1) := by decide +kernel
theorem dc_X9_steers_26 : decode mX9_steers.2.1 26 = .ok (.getfield 9, 3) := by decide +kernel
theorem dc_X9_steers_29 : decode mX9_steers.2.1 29 = .ok (.iload_n 1, 1) := by decide +kernel
theorem dc_X9_steers_30 : decode mX9_steers.2.1 30 = .ok (.iconst 2, 1) := by decide +kernel
theorem dc_X9_steers_31 : decode mX9_steers.2.1 31 = .ok (.invokestatic 93, 3) := by decide +kernel
theorem dc_X9_steers_34 : decode mX9_steers.2.1 34 = .ok (.iload_n 3, 1) := by decide +kernel
theorem dc_X9_steers_35 : decode mX9_steers.2.1 35 = .ok (.iastore, 1) := by decide +kernel
theorem dc_X9_steers_36 : decode mX9_steers.2.1 36 = .ok (.aload_n 0, 1) := by decide +kernel
theorem dc_X9_steers_37 : decode mX9_steers.2.1 37 = .ok (.getfield 9, 3) := by decide +kernel
theorem dc_X9_steers_40 : decode mX9_steers.2.1 40 = .ok (.iload_n 1, 1) := by decide +kernel
theorem dc_X9_steers_41 : decode mX9_steers.2.1 41 = .ok (.bipush 6, 2) := by decide +kernel
theorem dc_X9_steers_43 : decode mX9_steers.2.1 43 = .ok (.invokestatic 93, 3) := by decide +kernel
theorem dc_X9_steers_46 : decode mX9_steers.2.1 46 = .ok (.sipush 9999, 3) := by decide +kernel
theorem dc_X9_steers_49 : decode mX9_steers.2.1 49 = .ok (.aload_n 0, 1) := by decide +kernel
theorem dc_X9_steers_50 : decode mX9_steers.2.1 50 = .ok (.iload_n 1, 1) := by decide +kernel
theorem dc_X9_steers_51 : decode mX9_steers.2.1 51 = .ok (.bipush 6, 2) := by decide +kernel
theorem dc_X9_steers_53 : decode mX9_steers.2.1 53 = .ok (.invokevirtual 107, 3) := by decide +kernel
theorem dc_X9_steers_56 : decode mX9_steers.2.1 56 = .ok (.iload_n 2, 1) := by decide +kernel
theorem dc_X9_steers_57 : decode mX9_steers.2.1 57 = .ok (.invokestatic 132, 3) := by decide +kernel
theorem dc_X9_steers_60 : decode mX9_steers.2.1 60 = .ok (.iadd, 1) := by decide +kernel
theorem dc_X9_steers_61 : decode mX9_steers.2.1 61 = .ok (.invokestatic 135, 3) := by decide +kernel
theorem dc_X9_steers_64 : decode mX9_steers.2.1 64 = .ok (.iastore, 1) := by decide +kernel
theorem dc_X9_steers_65 : decode mX9_steers.2.1 65 = .ok (.iload_n 2, 1) := by decide +kernel
theorem dc_X9_steers_66 : decode mX9_steers.2.1 66 = .ok (.iconst 3, 1) := by decide +kernel
theorem dc_X9_steers_67 : decode mX9_steers.2.1 67 = .ok (.if_icmp .ne 7, 3) := by decide +kernel
theorem dc_X9_steers_70 : decode mX9_steers.2.1 70 = .ok (.iconst 0, 1) := by decide +kernel
theorem dc_X9_steers_71 : decode mX9_steers.2.1 71 = .ok (.goto 8, 3) := by decide +kernel
theorem dc_X9_steers_74 : decode mX9_steers.2.1 74 = .ok (.aload_n 0, 1) := by decide +kernel
theorem dc_X9_steers_75 : decode mX9_steers.2.1 75 = .ok (.iload_n 1, 1) := by decide +kernel
theorem dc_X9_steers_76 : decode mX9_steers.2.1 76 = .ok (.invokevirtual 116, 3) := by decide +kernel
theorem dc_X9_steers_79 : decode mX9_steers.2.1 79 = .ok (.istore 4, 2) := by decide +kernel
theorem dc_X9_steers_81 : decode mX9_steers.2.1 81 = .ok (.aload_n 0, 1) := by decide +kernel
theorem dc_X9_steers_82 : decode mX9_steers.2.1 82 = .ok (.iload_n 1, 1) := by decide +kernel
theorem dc_X9_steers_83 : decode mX9_steers.2.1 83 = .ok (.iconst 1, 1) := by decide +kernel
theorem dc_X9_steers_84 : decode mX9_steers.2.1 84 = .ok (.invokevirtual 107, 3) := by decide +kernel
theorem dc_X9_steers_87 : decode mX9_steers.2.1 87 = .ok (.istore 5, 2) := by decide +kernel
theorem dc_X9_steers_89 : decode mX9_steers.2.1 89 = .ok (.iload_n 3, 1) := by decide +kernel
theorem dc_X9_steers_90 : decode mX9_steers.2.1 90 = .ok (.iconst 1, 1) := by decide +kernel
theorem dc_X9_steers_91 : decode mX9_steers.2.1 91 = .ok (.if_icmp .ne 16, 3) := by decide +kernel
theorem dc_X9_steers_94 : decode mX9_steers.2.1 94 = .ok (.bipush 23, 2) := by decide +kernel
theorem dc_X9_steers_96 : decode mX9_steers.2.1 96 = .ok (.iload 5, 2) := by decide +kernel
theorem dc_X9_steers_98 : decode mX9_steers.2.1 98 = .ok (.iload 4, 2) := by decide +kernel
theorem dc_X9_steers_100 : decode mX9_steers.2.1 100 = .ok (.iadd, 1) := by decide +kernel
theorem dc_X9_steers_101 : decode mX9_steers.2.1 101 = .ok (.invokestatic 135, 3) := by decide +kernel
theorem dc_X9_steers_104 : decode mX9_steers.2.1 104 = .ok (.goto 12, 3) := by decide +kernel
theorem dc_X9_steers_107 : decode mX9_steers.2.1 107 = .ok (.iconst 0, 1) := by decide +kernel
theorem dc_X9_steers_108 : decode mX9_steers.2.1 108 = .ok (.iload 5, 2) := by decide +kernel
theorem dc_X9_steers_110 : decode mX9_steers.2.1 110 = .ok (.iload 4, 2) := by decide +kernel
theorem dc_X9_steers_112 : decode mX9_steers.2.1 112 = .ok (.isub, 1) := by decide +kernel
theorem dc_X9_steers_113 : decode mX9_steers.2.1 113 = .ok (.invokestatic 140, 3) := by decide +kernel
theorem dc_X9_steers_116 : decode mX9_steers.2.1 116 = .ok (.istore 6, 2) := by decide +kernel
theorem dc_X9_steers_118 : decode mX9_steers.2.1 118 = .ok (.iload 4, 2) := by decide +kernel
theorem dc_X9_steers_120 : decode mX9_steers.2.1 120 = .ok (.ifCond .le 19, 3) := by decide +kernel
theorem dc_X9_steers_123 : decode mX9_steers.2.1 123 = .ok (.iload 6, 2) := by decide +kernel
theorem dc_X9_steers_125 : decode mX9_steers.2.1 125 = .ok (.ifCond .eq 10, 3) := by decide +kernel
theorem dc_X9_steers_128 : decode mX9_steers.2.1 128 = .ok (.iload 6, 2) := by decide +kernel
theorem dc_X9_steers_130 : decode mX9_steers.2.1 130 = .ok (.bipush 23, 2) := by decide +kernel
theorem dc_X9_steers_132 : decode mX9_steers.2.1 132 = .ok (.if_icmp .ne 7, 3) := by decide +kernel
theorem dc_X9_steers_135 : decode mX9_steers.2.1 135 = .ok (.iconst 1, 1) := by decide +kernel
theorem dc_X9_steers_136 : decode mX9_steers.2.1 136 = .ok (.goto 4, 3) := by decide +kernel
theorem dc_X9_steers_139 : decode mX9_steers.2.1 139 = .ok (.iconst 0, 1) := by decide +kernel
theorem dc_X9_steers_140 : decode mX9_steers.2.1 140 = .ok (.istore 7, 2) := by decide +kernel
theorem dc_X9_steers_142 : decode mX9_steers.2.1 142 = .ok (.aload_n 0, 1) := by decide +kernel
theorem dc_X9_steers_143 : decode mX9_steers.2.1 143 = .ok (.getfield 9, 3) := by decide +kernel
theorem dc_X9_steers_146 : decode mX9_steers.2.1 146 = .ok (.iload_n 1, 1) := by decide +kernel
theorem dc_X9_steers_147 : decode mX9_steers.2.1 147 = .ok (.iconst 1, 1) := by decide +kernel
theorem dc_X9_steers_148 : decode mX9_steers.2.1 148 = .ok (.invokestatic 93, 3) := by decide +kernel
theorem dc_X9_steers_151 : decode mX9_steers.2.1 151 = .ok (.iload 7, 2) := by decide +kernel
theorem dc_X9_steers_153 : decode mX9_steers.2.1 153 = .ok (.ifCond .eq 8, 3) := by decide +kernel
theorem dc_X9_steers_156 : decode mX9_steers.2.1 156 = .ok (.bipush 11, 2) := by decide +kernel
theorem dc_X9_steers_158 : decode mX9_steers.2.1 158 = .ok (.goto 5, 3) := by decide +kernel
theorem dc_X9_steers_161 : decode mX9_steers.2.1 161 = .ok (.iload 6, 2) := by decide +kernel
theorem dc_X9_steers_163 : decode mX9_steers.2.1 163 = .ok (.iastore, 1) := by decide +kernel
theorem dc_X9_steers_164 : decode mX9_steers.2.1 164 = .ok (.iload 7, 2) := by decide +kernel
theorem dc_X9_steers_166 : decode mX9_steers.2.1 166 = .ok (.ifCond .eq 40, 3) := by decide +kernel
theorem dc_X9_steers_169 : decode mX9_steers.2.1 169 = .ok (.aload_n 0, 1) := by decide +kernel
theorem dc_X9_steers_170 : decode mX9_steers.2.1 170 = .ok (.getfield 9, 3) := by decide +kernel
theorem dc_X9_steers_173 : decode mX9_steers.2.1 173 = .ok (.iload_n 1, 1) := by decide +kernel
theorem dc_X9_steers_174 : decode mX9_steers.2.1 174 = .ok (.iconst 5, 1) := by decide +kernel
theorem dc_X9_steers_175 : decode mX9_steers.2.1 175 = .ok (.invokestatic 93, 3) := by decide +kernel
theorem dc_X9_steers_178 : decode mX9_steers.2.1 178 = .ok (.sipush 9999, 3) := by decide +kernel
theorem dc_X9_steers_181 : decode mX9_steers.2.1 181 = .ok (.aload_n 0, 1) := by decide +kernel
theorem dc_X9_steers_182 : decode mX9_steers.2.1 182 = .ok (.iload_n 1, 1) := by decide +kernel
theorem dc_X9_steers_183 : decode mX9_steers.2.1 183 = .ok (.iconst 5, 1) := by decide +kernel
theorem dc_X9_steers_184 : decode mX9_steers.2.1 184 = .ok (.invokevirtual 107, 3) := by decide +kernel
theorem dc_X9_steers_187 : decode mX9_steers.2.1 187 = .ok (.iconst 1, 1) := by decide +kernel
theorem dc_X9_steers_188 : decode mX9_steers.2.1 188 = .ok (.iadd, 1) := by decide +kernel
theorem dc_X9_steers_189 : decode mX9_steers.2.1 189 = .ok (.invokestatic 135, 3) := by decide +kernel
theorem dc_X9_steers_192 : decode mX9_steers.2.1 192 = .ok (.iastore, 1) := by decide +kernel
theorem dc_X9_steers_193 : decode mX9_steers.2.1 193 = .ok (.aload_n 0, 1) := by decide +kernel
theorem dc_X9_steers_194 : decode mX9_steers.2.1 194 = .ok (.getfield 9, 3) := by decide +kernel
theorem dc_X9_steers_197 : decode mX9_steers.2.1 197 = .ok (.iload_n 1, 1) := by decide +kernel
theorem dc_X9_steers_198 : decode mX9_steers.2.1 198 = .ok (.iconst 2, 1) := by decide +kernel
theorem dc_X9_steers_199 : decode mX9_steers.2.1 199 = .ok (.invokestatic 93, 3) := by decide +kernel
theorem dc_X9_steers_202 : decode mX9_steers.2.1 202 = .ok (.iconst 1, 1) := by decide +kernel
theorem dc_X9_steers_203 : decode mX9_steers.2.1 203 = .ok (.iload_n 3, 1) := by decide +kernel
theorem dc_X9_steers_204 : decode mX9_steers.2.1 204 = .ok (.isub, 1) := by decide +kernel
theorem dc_X9_steers_205 : decode mX9_steers.2.1 205 = .ok (.iastore, 1) := by decide +kernel
theorem dc_X9_steers_206 : decode mX9_steers.2.1 206 = .ok (.return_, 1) := by decide +kernel
theorem dc_X9_tick_0 : decode mX9_tick.2.1 0 = .ok (.aload_n 0, 1) := by decide +kernel
theorem dc_X9_tick_1 : decode mX9_tick.2.1 1 = .ok (.invokevirtual 119, 3) := by decide +kernel
theorem dc_X9_tick_4 : decode mX9_tick.2.1 4 = .ok (.istore_n 1, 1) := by decide +kernel
theorem dc_X9_tick_5 : decode mX9_tick.2.1 5 = .ok (.aload_n 0, 1) := by decide +kernel
theorem dc_X9_tick_6 : decode mX9_tick.2.1 6 = .ok (.getfield 9, 3) := by decide +kernel
theorem dc_X9_tick_9 : decode mX9_tick.2.1 9 = .ok (.bipush 6, 2) := by decide +kernel
theorem dc_X9_tick_11 : decode mX9_tick.2.1 11 = .ok (.aload_n 0, 1) := by decide +kernel
theorem dc_X9_tick_12 : decode mX9_tick.2.1 12 = .ok (.invokevirtual 87, 3) := by decide +kernel
theorem dc_X9_tick_15 : decode mX9_tick.2.1 15 = .ok (.iastore, 1) := by decide +kernel
theorem dc_X9_tick_16 : decode mX9_tick.2.1 16 = .ok (.iconst 0, 1) := by decide +kernel
theorem dc_X9_tick_17 : decode mX9_tick.2.1 17 = .ok (.istore_n 2, 1) := by decide +kernel
theorem dc_X9_tick_18 : decode mX9_tick.2.1 18 = .ok (.iload_n 2, 1) := by decide +kernel
theorem dc_X9_tick_19 : decode mX9_tick.2.1 19 = .ok (.aload_n 0, 1) := by decide +kernel
theorem dc_X9_tick_20 : decode mX9_tick.2.1 20 = .ok (.getfield 9, 3) := by decide +kernel
theorem dc_X9_tick_23 : decode mX9_tick.2.1 23 = .ok (.iconst 1, 1) := by decide +kernel
theorem dc_X9_tick_24 : decode mX9_tick.2.1 24 = .ok (.iaload, 1) := by decide +kernel
theorem dc_X9_tick_25 : decode mX9_tick.2.1 25 = .ok (.if_icmp .ge 28, 3) := by decide +kernel
theorem dc_X9_tick_28 : decode mX9_tick.2.1 28 = .ok (.aload_n 0, 1) := by decide +kernel
theorem dc_X9_tick_29 : decode mX9_tick.2.1 29 = .ok (.iload_n 2, 1) := by decide +kernel
theorem dc_X9_tick_30 : decode mX9_tick.2.1 30 = .ok (.invokevirtual 129, 3) := by decide +kernel
theorem dc_X9_tick_33 : decode mX9_tick.2.1 33 = .ok (.ifCond .eq 14, 3) := by decide +kernel
theorem dc_X9_tick_36 : decode mX9_tick.2.1 36 = .ok (.aload_n 0, 1) := by decide +kernel
theorem dc_X9_tick_37 : decode mX9_tick.2.1 37 = .ok (.iload_n 2, 1) := by decide +kernel
theorem dc_X9_tick_38 : decode mX9_tick.2.1 38 = .ok (.aload_n 0, 1) := by decide +kernel
theorem dc_X9_tick_39 : decode mX9_tick.2.1 39 = .ok (.iload_n 2, 1) := by decide +kernel
theorem dc_X9_tick_40 : decode mX9_tick.2.1 40 = .ok (.iload_n 1, 1) := by decide +kernel
theorem dc_X9_tick_41 : decode mX9_tick.2.1 41 = .ok (.invokevirtual 122, 3) := by decide +kernel
theorem dc_X9_tick_44 : decode mX9_tick.2.1 44 = .ok (.invokevirtual 143, 3) := by decide +kernel
theorem dc_X9_tick_47 : decode mX9_tick.2.1 47 = .ok (.iinc 2 1, 3) := by decide +kernel
theorem dc_X9_tick_50 : decode mX9_tick.2.1 50 = .ok (.goto (-32), 3) := by decide +kernel
theorem dc_X9_tick_53 : decode mX9_tick.2.1 53 = .ok (.aload_n 0, 1) := by decide +kernel
theorem dc_X9_tick_54 : decode mX9_tick.2.1 54 = .ok (.getfield 9, 3) := by decide +kernel
theorem dc_X9_tick_57 : decode mX9_tick.2.1 57 = .ok (.iconst 0, 1) := by decide +kernel
theorem dc_X9_tick_58 : decode mX9_tick.2.1 58 = .ok (.dup2, 1) := by decide +kernel
theorem dc_X9_tick_59 : decode mX9_tick.2.1 59 = .ok (.iaload, 1) := by decide +kernel
theorem dc_X9_tick_60 : decode mX9_tick.2.1 60 = .ok (.iconst 1, 1) := by decide +kernel
theorem dc_X9_tick_61 : decode mX9_tick.2.1 61 = .ok (.iadd, 1) := by decide +kernel
theorem dc_X9_tick_62 : decode mX9_tick.2.1 62 = .ok (.iastore, 1) := by decide +kernel
theorem dc_X9_tick_63 : decode mX9_tick.2.1 63 = .ok (.return_, 1) := by decide +kernel
theorem dc_X9_ticksGo_0 : decode mX9_ticksGo.2.1 0 = .ok (.iconst 0, 1) := by decide +kernel
theorem dc_X9_ticksGo_1 : decode mX9_ticksGo.2.1 1 = .ok (.istore_n 2, 1) := by decide +kernel
theorem dc_X9_ticksGo_2 : decode mX9_ticksGo.2.1 2 = .ok (.iload_n 2, 1) := by decide +kernel
theorem dc_X9_ticksGo_3 : decode mX9_ticksGo.2.1 3 = .ok (.iload_n 1, 1) := by decide +kernel
theorem dc_X9_ticksGo_4 : decode mX9_ticksGo.2.1 4 = .ok (.if_icmp .ge 13, 3) := by decide +kernel
theorem dc_X9_ticksGo_7 : decode mX9_ticksGo.2.1 7 = .ok (.aload_n 0, 1) := by decide +kernel
theorem dc_X9_ticksGo_8 : decode mX9_ticksGo.2.1 8 = .ok (.invokevirtual 147, 3) := by decide +kernel
theorem dc_X9_ticksGo_11 : decode mX9_ticksGo.2.1 11 = .ok (.iinc 2 1, 3) := by decide +kernel
theorem dc_X9_ticksGo_14 : decode mX9_ticksGo.2.1 14 = .ok (.goto (-12), 3) := by decide +kernel
theorem dc_X9_ticksGo_17 : decode mX9_ticksGo.2.1 17 = .ok (.return_, 1) := by decide +kernel
theorem dc_X9_sumOf_0 : decode mX9_sumOf.2.1 0 = .ok (.iconst 0, 1) := by decide +kernel
theorem dc_X9_sumOf_1 : decode mX9_sumOf.2.1 1 = .ok (.istore_n 2, 1) := by decide +kernel
theorem dc_X9_sumOf_2 : decode mX9_sumOf.2.1 2 = .ok (.iconst 0, 1) := by decide +kernel
theorem dc_X9_sumOf_3 : decode mX9_sumOf.2.1 3 = .ok (.istore_n 3, 1) := by decide +kernel
theorem dc_X9_sumOf_4 : decode mX9_sumOf.2.1 4 = .ok (.iload_n 3, 1) := by decide +kernel
theorem dc_X9_sumOf_5 : decode mX9_sumOf.2.1 5 = .ok (.aload_n 0, 1) := by decide +kernel
theorem dc_X9_sumOf_6 : decode mX9_sumOf.2.1 6 = .ok (.getfield 9, 3) := by decide +kernel
theorem dc_X9_sumOf_9 : decode mX9_sumOf.2.1 9 = .ok (.iconst 1, 1) := by decide +kernel
theorem dc_X9_sumOf_10 : decode mX9_sumOf.2.1 10 = .ok (.iaload, 1) := by decide +kernel
theorem dc_X9_sumOf_11 : decode mX9_sumOf.2.1 11 = .ok (.if_icmp .ge 18, 3) := by decide +kernel
theorem dc_X9_sumOf_14 : decode mX9_sumOf.2.1 14 = .ok (.iload_n 2, 1) := by decide +kernel
theorem dc_X9_sumOf_15 : decode mX9_sumOf.2.1 15 = .ok (.aload_n 0, 1) := by decide +kernel
theorem dc_X9_sumOf_16 : decode mX9_sumOf.2.1 16 = .ok (.iload_n 3, 1) := by decide +kernel
theorem dc_X9_sumOf_17 : decode mX9_sumOf.2.1 17 = .ok (.iload_n 1, 1) := by decide +kernel
theorem dc_X9_sumOf_18 : decode mX9_sumOf.2.1 18 = .ok (.invokevirtual 107, 3) := by decide +kernel
theorem dc_X9_sumOf_21 : decode mX9_sumOf.2.1 21 = .ok (.iadd, 1) := by decide +kernel
theorem dc_X9_sumOf_22 : decode mX9_sumOf.2.1 22 = .ok (.istore_n 2, 1) := by decide +kernel
theorem dc_X9_sumOf_23 : decode mX9_sumOf.2.1 23 = .ok (.iinc 3 1, 3) := by decide +kernel
theorem dc_X9_sumOf_26 : decode mX9_sumOf.2.1 26 = .ok (.goto (-22), 3) := by decide +kernel
theorem dc_X9_sumOf_29 : decode mX9_sumOf.2.1 29 = .ok (.iload_n 2, 1) := by decide +kernel
theorem dc_X9_sumOf_30 : decode mX9_sumOf.2.1 30 = .ok (.ireturn, 1) := by decide +kernel
theorem dc_X9_go_0 : decode mX9_go.2.1 0 = .ok (.iload_n 1, 1) := by decide +kernel
theorem dc_X9_go_1 : decode mX9_go.2.1 1 = .ok (.iconst 1, 1) := by decide +kernel
theorem dc_X9_go_2 : decode mX9_go.2.1 2 = .ok (.bipush 60, 2) := by decide +kernel
theorem dc_X9_go_4 : decode mX9_go.2.1 4 = .ok (.invokestatic 71, 3) := by decide +kernel
theorem dc_X9_go_7 : decode mX9_go.2.1 7 = .ok (.ifCond .ne 10, 3) := by decide +kernel
theorem dc_X9_go_10 : decode mX9_go.2.1 10 = .ok (.aload_n 0, 1) := by decide +kernel
theorem dc_X9_go_11 : decode mX9_go.2.1 11 = .ok (.ldc 60, 2) := by decide +kernel
theorem dc_X9_go_13 : decode mX9_go.2.1 13 = .ok (.invokevirtual 66, 3) := by decide +kernel
theorem dc_X9_go_16 : decode mX9_go.2.1 16 = .ok (.ireturn, 1) := by decide +kernel
theorem dc_X9_go_17 : decode mX9_go.2.1 17 = .ok (.aload_n 0, 1) := by decide +kernel
theorem dc_X9_go_18 : decode mX9_go.2.1 18 = .ok (.getfield 9, 3) := by decide +kernel
theorem dc_X9_go_21 : decode mX9_go.2.1 21 = .ok (.iconst 0, 1) := by decide +kernel
theorem dc_X9_go_22 : decode mX9_go.2.1 22 = .ok (.iaload, 1) := by decide +kernel
theorem dc_X9_go_23 : decode mX9_go.2.1 23 = .ok (.iload_n 1, 1) := by decide +kernel
theorem dc_X9_go_24 : decode mX9_go.2.1 24 = .ok (.iadd, 1) := by decide +kernel
theorem dc_X9_go_25 : decode mX9_go.2.1 25 = .ok (.ldc 150, 2) := by decide +kernel
theorem dc_X9_go_27 : decode mX9_go.2.1 27 = .ok (.if_icmp .le 10, 3) := by decide +kernel
theorem dc_X9_go_30 : decode mX9_go.2.1 30 = .ok (.aload_n 0, 1) := by decide +kernel
theorem dc_X9_go_31 : decode mX9_go.2.1 31 = .ok (.ldc 151, 2) := by decide +kernel
theorem dc_X9_go_33 : decode mX9_go.2.1 33 = .ok (.invokevirtual 66, 3) := by decide +kernel
theorem dc_X9_go_36 : decode mX9_go.2.1 36 = .ok (.ireturn, 1) := by decide +kernel
theorem dc_X9_go_37 : decode mX9_go.2.1 37 = .ok (.aload_n 0, 1) := by decide +kernel
theorem dc_X9_go_38 : decode mX9_go.2.1 38 = .ok (.iload_n 1, 1) := by decide +kernel
theorem dc_X9_go_39 : decode mX9_go.2.1 39 = .ok (.invokevirtual 152, 3) := by decide +kernel
theorem dc_X9_go_42 : decode mX9_go.2.1 42 = .ok (.aload_n 0, 1) := by decide +kernel
theorem dc_X9_go_43 : decode mX9_go.2.1 43 = .ok (.iconst 5, 1) := by decide +kernel
theorem dc_X9_go_44 : decode mX9_go.2.1 44 = .ok (.invokevirtual 156, 3) := by decide +kernel
theorem dc_X9_go_47 : decode mX9_go.2.1 47 = .ok (.ireturn, 1) := by decide +kernel
theorem dc_X9_inPort_0 : decode mX9_inPort.2.1 0 = .ok (.iconst 0, 1) := by decide +kernel
theorem dc_X9_inPort_1 : decode mX9_inPort.2.1 1 = .ok (.istore_n 1, 1) := by decide +kernel
theorem dc_X9_inPort_2 : decode mX9_inPort.2.1 2 = .ok (.iconst 0, 1) := by decide +kernel
theorem dc_X9_inPort_3 : decode mX9_inPort.2.1 3 = .ok (.istore_n 2, 1) := by decide +kernel
theorem dc_X9_inPort_4 : decode mX9_inPort.2.1 4 = .ok (.iload_n 2, 1) := by decide +kernel
theorem dc_X9_inPort_5 : decode mX9_inPort.2.1 5 = .ok (.aload_n 0, 1) := by decide +kernel
theorem dc_X9_inPort_6 : decode mX9_inPort.2.1 6 = .ok (.getfield 9, 3) := by decide +kernel
theorem dc_X9_inPort_9 : decode mX9_inPort.2.1 9 = .ok (.iconst 1, 1) := by decide +kernel
theorem dc_X9_inPort_10 : decode mX9_inPort.2.1 10 = .ok (.iaload, 1) := by decide +kernel
theorem dc_X9_inPort_11 : decode mX9_inPort.2.1 11 = .ok (.if_icmp .ge 27, 3) := by decide +kernel
theorem dc_X9_inPort_14 : decode mX9_inPort.2.1 14 = .ok (.iload_n 1, 1) := by decide +kernel
theorem dc_X9_inPort_15 : decode mX9_inPort.2.1 15 = .ok (.aload_n 0, 1) := by decide +kernel
theorem dc_X9_inPort_16 : decode mX9_inPort.2.1 16 = .ok (.iload_n 2, 1) := by decide +kernel
theorem dc_X9_inPort_17 : decode mX9_inPort.2.1 17 = .ok (.invokevirtual 129, 3) := by decide +kernel
theorem dc_X9_inPort_20 : decode mX9_inPort.2.1 20 = .ok (.ifCond .eq 7, 3) := by decide +kernel
theorem dc_X9_inPort_23 : decode mX9_inPort.2.1 23 = .ok (.iconst 0, 1) := by decide +kernel
theorem dc_X9_inPort_24 : decode mX9_inPort.2.1 24 = .ok (.goto 6, 3) := by decide +kernel
theorem dc_X9_inPort_27 : decode mX9_inPort.2.1 27 = .ok (.iconst 1, 1) := by decide +kernel
theorem dc_X9_inPort_28 : decode mX9_inPort.2.1 28 = .ok (.iload_n 2, 1) := by decide +kernel
theorem dc_X9_inPort_29 : decode mX9_inPort.2.1 29 = .ok (.ishl, 1) := by decide +kernel
theorem dc_X9_inPort_30 : decode mX9_inPort.2.1 30 = .ok (.ior, 1) := by decide +kernel
theorem dc_X9_inPort_31 : decode mX9_inPort.2.1 31 = .ok (.istore_n 1, 1) := by decide +kernel
theorem dc_X9_inPort_32 : decode mX9_inPort.2.1 32 = .ok (.iinc 2 1, 3) := by decide +kernel
theorem dc_X9_inPort_35 : decode mX9_inPort.2.1 35 = .ok (.goto (-31), 3) := by decide +kernel
theorem dc_X9_inPort_38 : decode mX9_inPort.2.1 38 = .ok (.iload_n 1, 1) := by decide +kernel
theorem dc_X9_inPort_39 : decode mX9_inPort.2.1 39 = .ok (.ireturn, 1) := by decide +kernel
theorem dc_X9_cellsTaken_0 : decode mX9_cellsTaken.2.1 0 = .ok (.iconst 0, 1) := by decide +kernel
theorem dc_X9_cellsTaken_1 : decode mX9_cellsTaken.2.1 1 = .ok (.istore_n 1, 1) := by decide +kernel
theorem dc_X9_cellsTaken_2 : decode mX9_cellsTaken.2.1 2 = .ok (.iconst 0, 1) := by decide +kernel
theorem dc_X9_cellsTaken_3 : decode mX9_cellsTaken.2.1 3 = .ok (.istore_n 2, 1) := by decide +kernel
theorem dc_X9_cellsTaken_4 : decode mX9_cellsTaken.2.1 4 = .ok (.iload_n 2, 1) := by decide +kernel
theorem dc_X9_cellsTaken_5 : decode mX9_cellsTaken.2.1 5 = .ok (.aload_n 0, 1) := by decide +kernel
theorem dc_X9_cellsTaken_6 : decode mX9_cellsTaken.2.1 6 = .ok (.getfield 9, 3) := by decide +kernel
theorem dc_X9_cellsTaken_9 : decode mX9_cellsTaken.2.1 9 = .ok (.iconst 1, 1) := by decide +kernel
theorem dc_X9_cellsTaken_10 : decode mX9_cellsTaken.2.1 10 = .ok (.iaload, 1) := by decide +kernel
theorem dc_X9_cellsTaken_11 : decode mX9_cellsTaken.2.1 11 = .ok (.if_icmp .ge 32, 3) := by decide +kernel
theorem dc_X9_cellsTaken_14 : decode mX9_cellsTaken.2.1 14 = .ok (.iload_n 1, 1) := by decide +kernel
theorem dc_X9_cellsTaken_15 : decode mX9_cellsTaken.2.1 15 = .ok (.aload_n 0, 1) := by decide +kernel
theorem dc_X9_cellsTaken_16 : decode mX9_cellsTaken.2.1 16 = .ok (.iload_n 2, 1) := by decide +kernel
theorem dc_X9_cellsTaken_17 : decode mX9_cellsTaken.2.1 17 = .ok (.invokevirtual 129, 3) := by decide +kernel
theorem dc_X9_cellsTaken_20 : decode mX9_cellsTaken.2.1 20 = .ok (.ifCond .eq 14, 3) := by decide +kernel
theorem dc_X9_cellsTaken_23 : decode mX9_cellsTaken.2.1 23 = .ok (.iconst 1, 1) := by decide +kernel
theorem dc_X9_cellsTaken_24 : decode mX9_cellsTaken.2.1 24 = .ok (.aload_n 0, 1) := by decide +kernel
theorem dc_X9_cellsTaken_25 : decode mX9_cellsTaken.2.1 25 = .ok (.iload_n 2, 1) := by decide +kernel
theorem dc_X9_cellsTaken_26 : decode mX9_cellsTaken.2.1 26 = .ok (.iconst 1, 1) := by decide +kernel
theorem dc_X9_cellsTaken_27 : decode mX9_cellsTaken.2.1 27 = .ok (.invokevirtual 107, 3) := by decide +kernel
theorem dc_X9_cellsTaken_30 : decode mX9_cellsTaken.2.1 30 = .ok (.ishl, 1) := by decide +kernel
theorem dc_X9_cellsTaken_31 : decode mX9_cellsTaken.2.1 31 = .ok (.goto 4, 3) := by decide +kernel
theorem dc_X9_cellsTaken_34 : decode mX9_cellsTaken.2.1 34 = .ok (.iconst 0, 1) := by decide +kernel
theorem dc_X9_cellsTaken_35 : decode mX9_cellsTaken.2.1 35 = .ok (.ior, 1) := by decide +kernel
theorem dc_X9_cellsTaken_36 : decode mX9_cellsTaken.2.1 36 = .ok (.istore_n 1, 1) := by decide +kernel
theorem dc_X9_cellsTaken_37 : decode mX9_cellsTaken.2.1 37 = .ok (.iinc 2 1, 3) := by decide +kernel
theorem dc_X9_cellsTaken_40 : decode mX9_cellsTaken.2.1 40 = .ok (.goto (-36), 3) := by decide +kernel
theorem dc_X9_cellsTaken_43 : decode mX9_cellsTaken.2.1 43 = .ok (.iload_n 1, 1) := by decide +kernel
theorem dc_X9_cellsTaken_44 : decode mX9_cellsTaken.2.1 44 = .ok (.ireturn, 1) := by decide +kernel
theorem dc_X9_nearest_0 : decode mX9_nearest.2.1 0 = .ok (.iconst (-1), 1) := by decide +kernel
theorem dc_X9_nearest_1 : decode mX9_nearest.2.1 1 = .ok (.istore_n 1, 1) := by decide +kernel
theorem dc_X9_nearest_2 : decode mX9_nearest.2.1 2 = .ok (.bipush 24, 2) := by decide +kernel
theorem dc_X9_nearest_4 : decode mX9_nearest.2.1 4 = .ok (.istore_n 2, 1) := by decide +kernel
theorem dc_X9_nearest_5 : decode mX9_nearest.2.1 5 = .ok (.iconst 0, 1) := by decide +kernel
theorem dc_X9_nearest_6 : decode mX9_nearest.2.1 6 = .ok (.istore_n 3, 1) := by decide +kernel
theorem dc_X9_nearest_7 : decode mX9_nearest.2.1 7 = .ok (.iload_n 3, 1) := by decide +kernel
theorem dc_X9_nearest_8 : decode mX9_nearest.2.1 8 = .ok (.aload_n 0, 1) := by decide +kernel
theorem dc_X9_nearest_9 : decode mX9_nearest.2.1 9 = .ok (.getfield 9, 3) := by decide +kernel
theorem dc_X9_nearest_12 : decode mX9_nearest.2.1 12 = .ok (.iconst 1, 1) := by decide +kernel
theorem dc_X9_nearest_13 : decode mX9_nearest.2.1 13 = .ok (.iaload, 1) := by decide +kernel
theorem dc_X9_nearest_14 : decode mX9_nearest.2.1 14 = .ok (.if_icmp .ge 36, 3) := by decide +kernel
theorem dc_X9_nearest_17 : decode mX9_nearest.2.1 17 = .ok (.aload_n 0, 1) := by decide +kernel
theorem dc_X9_nearest_18 : decode mX9_nearest.2.1 18 = .ok (.iload_n 3, 1) := by decide +kernel
theorem dc_X9_nearest_19 : decode mX9_nearest.2.1 19 = .ok (.invokevirtual 129, 3) := by decide +kernel
theorem dc_X9_nearest_22 : decode mX9_nearest.2.1 22 = .ok (.ifCond .eq 22, 3) := by decide +kernel
theorem dc_X9_nearest_25 : decode mX9_nearest.2.1 25 = .ok (.aload_n 0, 1) := by decide +kernel
theorem dc_X9_nearest_26 : decode mX9_nearest.2.1 26 = .ok (.iload_n 3, 1) := by decide +kernel
theorem dc_X9_nearest_27 : decode mX9_nearest.2.1 27 = .ok (.iconst 1, 1) := by decide +kernel
theorem dc_X9_nearest_28 : decode mX9_nearest.2.1 28 = .ok (.invokevirtual 107, 3) := by decide +kernel
theorem dc_X9_nearest_31 : decode mX9_nearest.2.1 31 = .ok (.iload_n 2, 1) := by decide +kernel
theorem dc_X9_nearest_32 : decode mX9_nearest.2.1 32 = .ok (.if_icmp .ge 12, 3) := by decide +kernel
theorem dc_X9_nearest_35 : decode mX9_nearest.2.1 35 = .ok (.iload_n 3, 1) := by decide +kernel
theorem dc_X9_nearest_36 : decode mX9_nearest.2.1 36 = .ok (.istore_n 1, 1) := by decide +kernel
theorem dc_X9_nearest_37 : decode mX9_nearest.2.1 37 = .ok (.aload_n 0, 1) := by decide +kernel
theorem dc_X9_nearest_38 : decode mX9_nearest.2.1 38 = .ok (.iload_n 3, 1) := by decide +kernel
theorem dc_X9_nearest_39 : decode mX9_nearest.2.1 39 = .ok (.iconst 1, 1) := by decide +kernel
theorem dc_X9_nearest_40 : decode mX9_nearest.2.1 40 = .ok (.invokevirtual 107, 3) := by decide +kernel
theorem dc_X9_nearest_43 : decode mX9_nearest.2.1 43 = .ok (.istore_n 2, 1) := by decide +kernel
theorem dc_X9_nearest_44 : decode mX9_nearest.2.1 44 = .ok (.iinc 3 1, 3) := by decide +kernel
theorem dc_X9_nearest_47 : decode mX9_nearest.2.1 47 = .ok (.goto (-40), 3) := by decide +kernel
theorem dc_X9_nearest_50 : decode mX9_nearest.2.1 50 = .ok (.iload_n 1, 1) := by decide +kernel
theorem dc_X9_nearest_51 : decode mX9_nearest.2.1 51 = .ok (.ireturn, 1) := by decide +kernel
theorem dc_X9_now_0 : decode mX9_now.2.1 0 = .ok (.iload_n 1, 1) := by decide +kernel
theorem dc_X9_now_1 : decode mX9_now.2.1 1 = .ok (.tableswitch 89 0 6 #[43, 50, 56, 63, 68, 73, 78], 43) := by decide +kernel
theorem dc_X9_now_44 : decode mX9_now.2.1 44 = .ok (.aload_n 0, 1) := by decide +kernel
theorem dc_X9_now_45 : decode mX9_now.2.1 45 = .ok (.getfield 9, 3) := by decide +kernel
theorem dc_X9_now_48 : decode mX9_now.2.1 48 = .ok (.iconst 0, 1) := by decide +kernel
theorem dc_X9_now_49 : decode mX9_now.2.1 49 = .ok (.iaload, 1) := by decide +kernel
theorem dc_X9_now_50 : decode mX9_now.2.1 50 = .ok (.ireturn, 1) := by decide +kernel
theorem dc_X9_now_51 : decode mX9_now.2.1 51 = .ok (.aload_n 0, 1) := by decide +kernel
theorem dc_X9_now_52 : decode mX9_now.2.1 52 = .ok (.iconst 5, 1) := by decide +kernel
theorem dc_X9_now_53 : decode mX9_now.2.1 53 = .ok (.invokevirtual 156, 3) := by decide +kernel
theorem dc_X9_now_56 : decode mX9_now.2.1 56 = .ok (.ireturn, 1) := by decide +kernel
theorem dc_X9_now_57 : decode mX9_now.2.1 57 = .ok (.aload_n 0, 1) := by decide +kernel
theorem dc_X9_now_58 : decode mX9_now.2.1 58 = .ok (.bipush 6, 2) := by decide +kernel
theorem dc_X9_now_60 : decode mX9_now.2.1 60 = .ok (.invokevirtual 156, 3) := by decide +kernel
theorem dc_X9_now_63 : decode mX9_now.2.1 63 = .ok (.ireturn, 1) := by decide +kernel
theorem dc_X9_now_64 : decode mX9_now.2.1 64 = .ok (.aload_n 0, 1) := by decide +kernel
theorem dc_X9_now_65 : decode mX9_now.2.1 65 = .ok (.invokevirtual 159, 3) := by decide +kernel
theorem dc_X9_now_68 : decode mX9_now.2.1 68 = .ok (.ireturn, 1) := by decide +kernel
theorem dc_X9_now_69 : decode mX9_now.2.1 69 = .ok (.aload_n 0, 1) := by decide +kernel
theorem dc_X9_now_70 : decode mX9_now.2.1 70 = .ok (.invokevirtual 162, 3) := by decide +kernel
theorem dc_X9_now_73 : decode mX9_now.2.1 73 = .ok (.ireturn, 1) := by decide +kernel
theorem dc_X9_now_74 : decode mX9_now.2.1 74 = .ok (.aload_n 0, 1) := by decide +kernel
theorem dc_X9_now_75 : decode mX9_now.2.1 75 = .ok (.invokevirtual 165, 3) := by decide +kernel
theorem dc_X9_now_78 : decode mX9_now.2.1 78 = .ok (.ireturn, 1) := by decide +kernel
theorem dc_X9_now_79 : decode mX9_now.2.1 79 = .ok (.aload_n 0, 1) := by decide +kernel
theorem dc_X9_now_80 : decode mX9_now.2.1 80 = .ok (.getfield 9, 3) := by decide +kernel
theorem dc_X9_now_83 : decode mX9_now.2.1 83 = .ok (.bipush 6, 2) := by decide +kernel
theorem dc_X9_now_85 : decode mX9_now.2.1 85 = .ok (.iaload, 1) := by decide +kernel
theorem dc_X9_now_86 : decode mX9_now.2.1 86 = .ok (.invokestatic 132, 3) := by decide +kernel
theorem dc_X9_now_89 : decode mX9_now.2.1 89 = .ok (.ireturn, 1) := by decide +kernel
theorem dc_X9_now_90 : decode mX9_now.2.1 90 = .ok (.aload_n 0, 1) := by decide +kernel
theorem dc_X9_now_91 : decode mX9_now.2.1 91 = .ok (.ldc 60, 2) := by decide +kernel
theorem dc_X9_now_93 : decode mX9_now.2.1 93 = .ok (.invokevirtual 66, 3) := by decide +kernel
theorem dc_X9_now_96 : decode mX9_now.2.1 96 = .ok (.ireturn, 1) := by decide +kernel
theorem dc_X9_behind_0 : decode mX9_behind.2.1 0 = .ok (.aload_n 0, 1) := by decide +kernel
theorem dc_X9_behind_1 : decode mX9_behind.2.1 1 = .ok (.getfield 9, 3) := by decide +kernel
theorem dc_X9_behind_4 : decode mX9_behind.2.1 4 = .ok (.aload_n 0, 1) := by decide +kernel
theorem dc_X9_behind_5 : decode mX9_behind.2.1 5 = .ok (.getfield 16, 3) := by decide +kernel
theorem dc_X9_behind_8 : decode mX9_behind.2.1 8 = .ok (.invokestatic 61, 3) := by decide +kernel
theorem dc_X9_behind_11 : decode mX9_behind.2.1 11 = .ok (.aload_n 0, 1) := by decide +kernel
theorem dc_X9_behind_12 : decode mX9_behind.2.1 12 = .ok (.iload_n 2, 1) := by decide +kernel
theorem dc_X9_behind_13 : decode mX9_behind.2.1 13 = .ok (.invokevirtual 152, 3) := by decide +kernel
theorem dc_X9_behind_16 : decode mX9_behind.2.1 16 = .ok (.aload_n 0, 1) := by decide +kernel
theorem dc_X9_behind_17 : decode mX9_behind.2.1 17 = .ok (.aload_n 0, 1) := by decide +kernel
theorem dc_X9_behind_18 : decode mX9_behind.2.1 18 = .ok (.getfield 9, 3) := by decide +kernel
theorem dc_X9_behind_21 : decode mX9_behind.2.1 21 = .ok (.iload_n 1, 1) := by decide +kernel
theorem dc_X9_behind_22 : decode mX9_behind.2.1 22 = .ok (.iaload, 1) := by decide +kernel
theorem dc_X9_behind_23 : decode mX9_behind.2.1 23 = .ok (.invokevirtual 168, 3) := by decide +kernel
theorem dc_X9_behind_26 : decode mX9_behind.2.1 26 = .ok (.ireturn, 1) := by decide +kernel
theorem dc_X9_strandedBehind_0 : decode mX9_strandedBehind.2.1 0 = .ok (.aload_n 0, 1) := by decide +kernel
theorem dc_X9_strandedBehind_1 : decode mX9_strandedBehind.2.1 1 = .ok (.getfield 9, 3) := by decide +kernel
theorem dc_X9_strandedBehind_4 : decode mX9_strandedBehind.2.1 4 = .ok (.aload_n 0, 1) := by decide +kernel
theorem dc_X9_strandedBehind_5 : decode mX9_strandedBehind.2.1 5 = .ok (.getfield 16, 3) := by decide +kernel
theorem dc_X9_strandedBehind_8 : decode mX9_strandedBehind.2.1 8 = .ok (.invokestatic 61, 3) := by decide +kernel
theorem dc_X9_strandedBehind_11 : decode mX9_strandedBehind.2.1 11 = .ok (.aload_n 0, 1) := by decide +kernel
theorem dc_X9_strandedBehind_12 : decode mX9_strandedBehind.2.1 12 = .ok (.iload_n 1, 1) := by decide +kernel
theorem dc_X9_strandedBehind_13 : decode mX9_strandedBehind.2.1 13 = .ok (.invokevirtual 152, 3) := by decide +kernel
theorem dc_X9_strandedBehind_16 : decode mX9_strandedBehind.2.1 16 = .ok (.aload_n 0, 1) := by decide +kernel
theorem dc_X9_strandedBehind_17 : decode mX9_strandedBehind.2.1 17 = .ok (.aload_n 0, 1) := by decide +kernel
theorem dc_X9_strandedBehind_18 : decode mX9_strandedBehind.2.1 18 = .ok (.iconst 5, 1) := by decide +kernel
theorem dc_X9_strandedBehind_19 : decode mX9_strandedBehind.2.1 19 = .ok (.invokevirtual 156, 3) := by decide +kernel
theorem dc_X9_strandedBehind_22 : decode mX9_strandedBehind.2.1 22 = .ok (.invokevirtual 168, 3) := by decide +kernel
theorem dc_X9_strandedBehind_25 : decode mX9_strandedBehind.2.1 25 = .ok (.ireturn, 1) := by decide +kernel
theorem dc_X9_ahead_0 : decode mX9_ahead.2.1 0 = .ok (.aload_n 0, 1) := by decide +kernel
theorem dc_X9_ahead_1 : decode mX9_ahead.2.1 1 = .ok (.iload_n 1, 1) := by decide +kernel
theorem dc_X9_ahead_2 : decode mX9_ahead.2.1 2 = .ok (.invokevirtual 113, 3) := by decide +kernel
theorem dc_X9_ahead_5 : decode mX9_ahead.2.1 5 = .ok (.ifCond .eq 36, 3) := by decide +kernel
theorem dc_X9_ahead_8 : decode mX9_ahead.2.1 8 = .ok (.iload_n 2, 1) := by decide +kernel
theorem dc_X9_ahead_9 : decode mX9_ahead.2.1 9 = .ok (.iconst 1, 1) := by decide +kernel
theorem dc_X9_ahead_10 : decode mX9_ahead.2.1 10 = .ok (.iconst 2, 1) := by decide +kernel
theorem dc_X9_ahead_11 : decode mX9_ahead.2.1 11 = .ok (.invokestatic 71, 3) := by decide +kernel
theorem dc_X9_ahead_14 : decode mX9_ahead.2.1 14 = .ok (.ifCond .ne 13, 3) := by decide +kernel
theorem dc_X9_ahead_17 : decode mX9_ahead.2.1 17 = .ok (.iload_n 2, 1) := by decide +kernel
theorem dc_X9_ahead_18 : decode mX9_ahead.2.1 18 = .ok (.iconst 5, 1) := by decide +kernel
theorem dc_X9_ahead_19 : decode mX9_ahead.2.1 19 = .ok (.bipush 6, 2) := by decide +kernel
theorem dc_X9_ahead_21 : decode mX9_ahead.2.1 21 = .ok (.invokestatic 71, 3) := by decide +kernel
theorem dc_X9_ahead_24 : decode mX9_ahead.2.1 24 = .ok (.ifCond .eq 17, 3) := by decide +kernel
theorem dc_X9_ahead_27 : decode mX9_ahead.2.1 27 = .ok (.iload_n 3, 1) := by decide +kernel
theorem dc_X9_ahead_28 : decode mX9_ahead.2.1 28 = .ok (.iconst 0, 1) := by decide +kernel
theorem dc_X9_ahead_29 : decode mX9_ahead.2.1 29 = .ok (.bipush 100, 2) := by decide +kernel
theorem dc_X9_ahead_31 : decode mX9_ahead.2.1 31 = .ok (.invokestatic 71, 3) := by decide +kernel
theorem dc_X9_ahead_34 : decode mX9_ahead.2.1 34 = .ok (.ifCond .eq 7, 3) := by decide +kernel
theorem dc_X9_ahead_37 : decode mX9_ahead.2.1 37 = .ok (.iconst 1, 1) := by decide +kernel
theorem dc_X9_ahead_38 : decode mX9_ahead.2.1 38 = .ok (.goto 4, 3) := by decide +kernel
theorem dc_X9_ahead_41 : decode mX9_ahead.2.1 41 = .ok (.iconst 0, 1) := by decide +kernel
theorem dc_X9_ahead_42 : decode mX9_ahead.2.1 42 = .ok (.istore 4, 2) := by decide +kernel
theorem dc_X9_ahead_44 : decode mX9_ahead.2.1 44 = .ok (.iload 4, 2) := by decide +kernel
theorem dc_X9_ahead_46 : decode mX9_ahead.2.1 46 = .ok (.ifCond .eq 16, 3) := by decide +kernel
theorem dc_X9_ahead_49 : decode mX9_ahead.2.1 49 = .ok (.aload_n 0, 1) := by decide +kernel
theorem dc_X9_ahead_50 : decode mX9_ahead.2.1 50 = .ok (.iload_n 1, 1) := by decide +kernel
theorem dc_X9_ahead_51 : decode mX9_ahead.2.1 51 = .ok (.iload_n 2, 1) := by decide +kernel
theorem dc_X9_ahead_52 : decode mX9_ahead.2.1 52 = .ok (.invokestatic 93, 3) := by decide +kernel
theorem dc_X9_ahead_55 : decode mX9_ahead.2.1 55 = .ok (.iload_n 3, 1) := by decide +kernel
theorem dc_X9_ahead_56 : decode mX9_ahead.2.1 56 = .ok (.invokevirtual 171, 3) := by decide +kernel
theorem dc_X9_ahead_59 : decode mX9_ahead.2.1 59 = .ok (.goto 9, 3) := by decide +kernel
theorem dc_X9_ahead_62 : decode mX9_ahead.2.1 62 = .ok (.aload_n 0, 1) := by decide +kernel
theorem dc_X9_ahead_63 : decode mX9_ahead.2.1 63 = .ok (.ldc 60, 2) := by decide +kernel
theorem dc_X9_ahead_65 : decode mX9_ahead.2.1 65 = .ok (.invokevirtual 66, 3) := by decide +kernel
theorem dc_X9_ahead_68 : decode mX9_ahead.2.1 68 = .ok (.ireturn, 1) := by decide +kernel
theorem dc_X9_shows_0 : decode mX9_shows.2.1 0 = .ok (.iload_n 1, 1) := by decide +kernel
theorem dc_X9_shows_1 : decode mX9_shows.2.1 1 = .ok (.iconst 0, 1) := by decide +kernel
theorem dc_X9_shows_2 : decode mX9_shows.2.1 2 = .ok (.iconst 1, 1) := by decide +kernel
theorem dc_X9_shows_3 : decode mX9_shows.2.1 3 = .ok (.invokestatic 71, 3) := by decide +kernel
theorem dc_X9_shows_6 : decode mX9_shows.2.1 6 = .ok (.ifCond .eq 13, 3) := by decide +kernel
theorem dc_X9_shows_9 : decode mX9_shows.2.1 9 = .ok (.iload_n 2, 1) := by decide +kernel
theorem dc_X9_shows_10 : decode mX9_shows.2.1 10 = .ok (.iconst 0, 1) := by decide +kernel
theorem dc_X9_shows_11 : decode mX9_shows.2.1 11 = .ok (.bipush 100, 2) := by decide +kernel
theorem dc_X9_shows_13 : decode mX9_shows.2.1 13 = .ok (.invokestatic 71, 3) := by decide +kernel
theorem dc_X9_shows_16 : decode mX9_shows.2.1 16 = .ok (.ifCond .ne 10, 3) := by decide +kernel
theorem dc_X9_shows_19 : decode mX9_shows.2.1 19 = .ok (.aload_n 0, 1) := by decide +kernel
theorem dc_X9_shows_20 : decode mX9_shows.2.1 20 = .ok (.ldc 60, 2) := by decide +kernel
theorem dc_X9_shows_22 : decode mX9_shows.2.1 22 = .ok (.invokevirtual 66, 3) := by decide +kernel
theorem dc_X9_shows_25 : decode mX9_shows.2.1 25 = .ok (.ireturn, 1) := by decide +kernel
theorem dc_X9_shows_26 : decode mX9_shows.2.1 26 = .ok (.aload_n 0, 1) := by decide +kernel
theorem dc_X9_shows_27 : decode mX9_shows.2.1 27 = .ok (.getfield 9, 3) := by decide +kernel
theorem dc_X9_shows_30 : decode mX9_shows.2.1 30 = .ok (.aload_n 0, 1) := by decide +kernel
theorem dc_X9_shows_31 : decode mX9_shows.2.1 31 = .ok (.getfield 16, 3) := by decide +kernel
theorem dc_X9_shows_34 : decode mX9_shows.2.1 34 = .ok (.invokestatic 61, 3) := by decide +kernel
theorem dc_X9_shows_37 : decode mX9_shows.2.1 37 = .ok (.aload_n 0, 1) := by decide +kernel
theorem dc_X9_shows_38 : decode mX9_shows.2.1 38 = .ok (.iload_n 2, 1) := by decide +kernel
theorem dc_X9_shows_39 : decode mX9_shows.2.1 39 = .ok (.invokevirtual 152, 3) := by decide +kernel
theorem dc_X9_shows_42 : decode mX9_shows.2.1 42 = .ok (.aload_n 0, 1) := by decide +kernel
theorem dc_X9_shows_43 : decode mX9_shows.2.1 43 = .ok (.iload_n 1, 1) := by decide +kernel
theorem dc_X9_shows_44 : decode mX9_shows.2.1 44 = .ok (.ifCond .ne 10, 3) := by decide +kernel
theorem dc_X9_shows_47 : decode mX9_shows.2.1 47 = .ok (.aload_n 0, 1) := by decide +kernel
theorem dc_X9_shows_48 : decode mX9_shows.2.1 48 = .ok (.invokevirtual 82, 3) := by decide +kernel
theorem dc_X9_shows_51 : decode mX9_shows.2.1 51 = .ok (.goto 7, 3) := by decide +kernel
theorem dc_X9_shows_54 : decode mX9_shows.2.1 54 = .ok (.aload_n 0, 1) := by decide +kernel
theorem dc_X9_shows_55 : decode mX9_shows.2.1 55 = .ok (.invokevirtual 90, 3) := by decide +kernel
theorem dc_X9_shows_58 : decode mX9_shows.2.1 58 = .ok (.invokevirtual 168, 3) := by decide +kernel
theorem dc_X9_shows_61 : decode mX9_shows.2.1 61 = .ok (.ireturn, 1) := by decide +kernel
theorem dc_X9_strands_0 : decode mX9_strands.2.1 0 = .ok (.aload_n 0, 1) := by decide +kernel
theorem dc_X9_strands_1 : decode mX9_strands.2.1 1 = .ok (.iload_n 1, 1) := by decide +kernel
theorem dc_X9_strands_2 : decode mX9_strands.2.1 2 = .ok (.invokevirtual 113, 3) := by decide +kernel
theorem dc_X9_strands_5 : decode mX9_strands.2.1 5 = .ok (.ifCond .ne 10, 3) := by decide +kernel
theorem dc_X9_strands_8 : decode mX9_strands.2.1 8 = .ok (.aload_n 0, 1) := by decide +kernel
theorem dc_X9_strands_9 : decode mX9_strands.2.1 9 = .ok (.ldc 60, 2) := by decide +kernel
theorem dc_X9_strands_11 : decode mX9_strands.2.1 11 = .ok (.invokevirtual 66, 3) := by decide +kernel
theorem dc_X9_strands_14 : decode mX9_strands.2.1 14 = .ok (.ireturn, 1) := by decide +kernel
theorem dc_X9_strands_15 : decode mX9_strands.2.1 15 = .ok (.aload_n 0, 1) := by decide +kernel
theorem dc_X9_strands_16 : decode mX9_strands.2.1 16 = .ok (.getfield 9, 3) := by decide +kernel
theorem dc_X9_strands_19 : decode mX9_strands.2.1 19 = .ok (.aload_n 0, 1) := by decide +kernel
theorem dc_X9_strands_20 : decode mX9_strands.2.1 20 = .ok (.getfield 16, 3) := by decide +kernel
theorem dc_X9_strands_23 : decode mX9_strands.2.1 23 = .ok (.invokestatic 61, 3) := by decide +kernel
theorem dc_X9_strands_26 : decode mX9_strands.2.1 26 = .ok (.aload_n 0, 1) := by decide +kernel
theorem dc_X9_strands_27 : decode mX9_strands.2.1 27 = .ok (.iload_n 1, 1) := by decide +kernel
theorem dc_X9_strands_28 : decode mX9_strands.2.1 28 = .ok (.iconst 5, 1) := by decide +kernel
theorem dc_X9_strands_29 : decode mX9_strands.2.1 29 = .ok (.invokevirtual 107, 3) := by decide +kernel
theorem dc_X9_strands_32 : decode mX9_strands.2.1 32 = .ok (.istore_n 2, 1) := by decide +kernel
theorem dc_X9_strands_33 : decode mX9_strands.2.1 33 = .ok (.iconst 0, 1) := by decide +kernel
theorem dc_X9_strands_34 : decode mX9_strands.2.1 34 = .ok (.istore_n 3, 1) := by decide +kernel
theorem dc_X9_strands_35 : decode mX9_strands.2.1 35 = .ok (.iload_n 3, 1) := by decide +kernel
theorem dc_X9_strands_36 : decode mX9_strands.2.1 36 = .ok (.sipush 200, 3) := by decide +kernel
theorem dc_X9_strands_39 : decode mX9_strands.2.1 39 = .ok (.if_icmp .ge 23, 3) := by decide +kernel
theorem dc_X9_strands_42 : decode mX9_strands.2.1 42 = .ok (.aload_n 0, 1) := by decide +kernel
theorem dc_X9_strands_43 : decode mX9_strands.2.1 43 = .ok (.iload_n 1, 1) := by decide +kernel
theorem dc_X9_strands_44 : decode mX9_strands.2.1 44 = .ok (.iconst 5, 1) := by decide +kernel
theorem dc_X9_strands_45 : decode mX9_strands.2.1 45 = .ok (.invokevirtual 107, 3) := by decide +kernel
theorem dc_X9_strands_48 : decode mX9_strands.2.1 48 = .ok (.iload_n 2, 1) := by decide +kernel
theorem dc_X9_strands_49 : decode mX9_strands.2.1 49 = .ok (.if_icmp .ne 13, 3) := by decide +kernel
theorem dc_X9_strands_52 : decode mX9_strands.2.1 52 = .ok (.aload_n 0, 1) := by decide +kernel
theorem dc_X9_strands_53 : decode mX9_strands.2.1 53 = .ok (.invokevirtual 147, 3) := by decide +kernel
theorem dc_X9_strands_56 : decode mX9_strands.2.1 56 = .ok (.iinc 3 1, 3) := by decide +kernel
theorem dc_X9_strands_59 : decode mX9_strands.2.1 59 = .ok (.goto (-24), 3) := by decide +kernel
theorem dc_X9_strands_62 : decode mX9_strands.2.1 62 = .ok (.aload_n 0, 1) := by decide +kernel
theorem dc_X9_strands_63 : decode mX9_strands.2.1 63 = .ok (.aload_n 0, 1) := by decide +kernel
theorem dc_X9_strands_64 : decode mX9_strands.2.1 64 = .ok (.aload_n 0, 1) := by decide +kernel
theorem dc_X9_strands_65 : decode mX9_strands.2.1 65 = .ok (.iload_n 1, 1) := by decide +kernel
theorem dc_X9_strands_66 : decode mX9_strands.2.1 66 = .ok (.iconst 5, 1) := by decide +kernel
theorem dc_X9_strands_67 : decode mX9_strands.2.1 67 = .ok (.invokevirtual 107, 3) := by decide +kernel
theorem dc_X9_strands_70 : decode mX9_strands.2.1 70 = .ok (.iload_n 2, 1) := by decide +kernel
theorem dc_X9_strands_71 : decode mX9_strands.2.1 71 = .ok (.if_icmp .ne 7, 3) := by decide +kernel
theorem dc_X9_strands_74 : decode mX9_strands.2.1 74 = .ok (.iconst (-1), 1) := by decide +kernel
theorem dc_X9_strands_75 : decode mX9_strands.2.1 75 = .ok (.goto 4, 3) := by decide +kernel
theorem dc_X9_strands_78 : decode mX9_strands.2.1 78 = .ok (.iload_n 3, 1) := by decide +kernel
theorem dc_X9_strands_79 : decode mX9_strands.2.1 79 = .ok (.invokevirtual 168, 3) := by decide +kernel
theorem dc_X9_strands_82 : decode mX9_strands.2.1 82 = .ok (.invokevirtual 174, 3) := by decide +kernel
theorem dc_X9_strands_85 : decode mX9_strands.2.1 85 = .ok (.ireturn, 1) := by decide +kernel
theorem dc_X9_when_0 : decode mX9_when.2.1 0 = .ok (.aload_n 0, 1) := by decide +kernel
theorem dc_X9_when_1 : decode mX9_when.2.1 1 = .ok (.iload_n 1, 1) := by decide +kernel
theorem dc_X9_when_2 : decode mX9_when.2.1 2 = .ok (.invokevirtual 113, 3) := by decide +kernel
theorem dc_X9_when_5 : decode mX9_when.2.1 5 = .ok (.ifCond .eq 10, 3) := by decide +kernel
theorem dc_X9_when_8 : decode mX9_when.2.1 8 = .ok (.iload_n 2, 1) := by decide +kernel
theorem dc_X9_when_9 : decode mX9_when.2.1 9 = .ok (.invokestatic 100, 3) := by decide +kernel
theorem dc_X9_when_12 : decode mX9_when.2.1 12 = .ok (.ifCond .ne 10, 3) := by decide +kernel
theorem dc_X9_when_15 : decode mX9_when.2.1 15 = .ok (.aload_n 0, 1) := by decide +kernel
theorem dc_X9_when_16 : decode mX9_when.2.1 16 = .ok (.ldc 60, 2) := by decide +kernel
theorem dc_X9_when_18 : decode mX9_when.2.1 18 = .ok (.invokevirtual 66, 3) := by decide +kernel
theorem dc_X9_when_21 : decode mX9_when.2.1 21 = .ok (.ireturn, 1) := by decide +kernel
theorem dc_X9_when_22 : decode mX9_when.2.1 22 = .ok (.aload_n 0, 1) := by decide +kernel
theorem dc_X9_when_23 : decode mX9_when.2.1 23 = .ok (.getfield 9, 3) := by decide +kernel
theorem dc_X9_when_26 : decode mX9_when.2.1 26 = .ok (.aload_n 0, 1) := by decide +kernel
theorem dc_X9_when_27 : decode mX9_when.2.1 27 = .ok (.getfield 16, 3) := by decide +kernel
theorem dc_X9_when_30 : decode mX9_when.2.1 30 = .ok (.invokestatic 61, 3) := by decide +kernel
theorem dc_X9_when_33 : decode mX9_when.2.1 33 = .ok (.iconst 0, 1) := by decide +kernel
theorem dc_X9_when_34 : decode mX9_when.2.1 34 = .ok (.istore_n 3, 1) := by decide +kernel
theorem dc_X9_when_35 : decode mX9_when.2.1 35 = .ok (.iload_n 3, 1) := by decide +kernel
theorem dc_X9_when_36 : decode mX9_when.2.1 36 = .ok (.sipush 200, 3) := by decide +kernel
theorem dc_X9_when_39 : decode mX9_when.2.1 39 = .ok (.if_icmp .ge 23, 3) := by decide +kernel
theorem dc_X9_when_42 : decode mX9_when.2.1 42 = .ok (.aload_n 0, 1) := by decide +kernel
theorem dc_X9_when_43 : decode mX9_when.2.1 43 = .ok (.iload_n 1, 1) := by decide +kernel
theorem dc_X9_when_44 : decode mX9_when.2.1 44 = .ok (.iconst 1, 1) := by decide +kernel
theorem dc_X9_when_45 : decode mX9_when.2.1 45 = .ok (.invokevirtual 107, 3) := by decide +kernel
theorem dc_X9_when_48 : decode mX9_when.2.1 48 = .ok (.iload_n 2, 1) := by decide +kernel
theorem dc_X9_when_49 : decode mX9_when.2.1 49 = .ok (.if_icmp .eq 13, 3) := by decide +kernel
theorem dc_X9_when_52 : decode mX9_when.2.1 52 = .ok (.aload_n 0, 1) := by decide +kernel
theorem dc_X9_when_53 : decode mX9_when.2.1 53 = .ok (.invokevirtual 147, 3) := by decide +kernel
theorem dc_X9_when_56 : decode mX9_when.2.1 56 = .ok (.iinc 3 1, 3) := by decide +kernel
theorem dc_X9_when_59 : decode mX9_when.2.1 59 = .ok (.goto (-24), 3) := by decide +kernel
theorem dc_X9_when_62 : decode mX9_when.2.1 62 = .ok (.aload_n 0, 1) := by decide +kernel
theorem dc_X9_when_63 : decode mX9_when.2.1 63 = .ok (.aload_n 0, 1) := by decide +kernel
theorem dc_X9_when_64 : decode mX9_when.2.1 64 = .ok (.aload_n 0, 1) := by decide +kernel
theorem dc_X9_when_65 : decode mX9_when.2.1 65 = .ok (.iload_n 1, 1) := by decide +kernel
theorem dc_X9_when_66 : decode mX9_when.2.1 66 = .ok (.iconst 1, 1) := by decide +kernel
theorem dc_X9_when_67 : decode mX9_when.2.1 67 = .ok (.invokevirtual 107, 3) := by decide +kernel
theorem dc_X9_when_70 : decode mX9_when.2.1 70 = .ok (.iload_n 2, 1) := by decide +kernel
theorem dc_X9_when_71 : decode mX9_when.2.1 71 = .ok (.if_icmp .eq 7, 3) := by decide +kernel
theorem dc_X9_when_74 : decode mX9_when.2.1 74 = .ok (.iconst (-1), 1) := by decide +kernel
theorem dc_X9_when_75 : decode mX9_when.2.1 75 = .ok (.goto 4, 3) := by decide +kernel
theorem dc_X9_when_78 : decode mX9_when.2.1 78 = .ok (.iload_n 3, 1) := by decide +kernel
theorem dc_X9_when_79 : decode mX9_when.2.1 79 = .ok (.invokevirtual 168, 3) := by decide +kernel
theorem dc_X9_when_82 : decode mX9_when.2.1 82 = .ok (.invokevirtual 174, 3) := by decide +kernel
theorem dc_X9_when_85 : decode mX9_when.2.1 85 = .ok (.ireturn, 1) := by decide +kernel
theorem dc_X9_meet_0 : decode mX9_meet.2.1 0 = .ok (.aload_n 0, 1) := by decide +kernel
theorem dc_X9_meet_1 : decode mX9_meet.2.1 1 = .ok (.iload_n 1, 1) := by decide +kernel
theorem dc_X9_meet_2 : decode mX9_meet.2.1 2 = .ok (.invokevirtual 113, 3) := by decide +kernel
theorem dc_X9_meet_5 : decode mX9_meet.2.1 5 = .ok (.ifCond .eq 16, 3) := by decide +kernel
theorem dc_X9_meet_8 : decode mX9_meet.2.1 8 = .ok (.aload_n 0, 1) := by decide +kernel
theorem dc_X9_meet_9 : decode mX9_meet.2.1 9 = .ok (.iload_n 2, 1) := by decide +kernel
theorem dc_X9_meet_10 : decode mX9_meet.2.1 10 = .ok (.invokevirtual 113, 3) := by decide +kernel
theorem dc_X9_meet_13 : decode mX9_meet.2.1 13 = .ok (.ifCond .eq 8, 3) := by decide +kernel
theorem dc_X9_meet_16 : decode mX9_meet.2.1 16 = .ok (.iload_n 1, 1) := by decide +kernel
theorem dc_X9_meet_17 : decode mX9_meet.2.1 17 = .ok (.iload_n 2, 1) := by decide +kernel
theorem dc_X9_meet_18 : decode mX9_meet.2.1 18 = .ok (.if_icmp .ne 10, 3) := by decide +kernel
theorem dc_X9_meet_21 : decode mX9_meet.2.1 21 = .ok (.aload_n 0, 1) := by decide +kernel
theorem dc_X9_meet_22 : decode mX9_meet.2.1 22 = .ok (.ldc 60, 2) := by decide +kernel
theorem dc_X9_meet_24 : decode mX9_meet.2.1 24 = .ok (.invokevirtual 66, 3) := by decide +kernel
theorem dc_X9_meet_27 : decode mX9_meet.2.1 27 = .ok (.ireturn, 1) := by decide +kernel
theorem dc_X9_meet_28 : decode mX9_meet.2.1 28 = .ok (.aload_n 0, 1) := by decide +kernel
theorem dc_X9_meet_29 : decode mX9_meet.2.1 29 = .ok (.getfield 9, 3) := by decide +kernel
theorem dc_X9_meet_32 : decode mX9_meet.2.1 32 = .ok (.aload_n 0, 1) := by decide +kernel
theorem dc_X9_meet_33 : decode mX9_meet.2.1 33 = .ok (.getfield 16, 3) := by decide +kernel
theorem dc_X9_meet_36 : decode mX9_meet.2.1 36 = .ok (.invokestatic 61, 3) := by decide +kernel
theorem dc_X9_meet_39 : decode mX9_meet.2.1 39 = .ok (.iconst 0, 1) := by decide +kernel
theorem dc_X9_meet_40 : decode mX9_meet.2.1 40 = .ok (.istore_n 3, 1) := by decide +kernel
theorem dc_X9_meet_41 : decode mX9_meet.2.1 41 = .ok (.iload_n 3, 1) := by decide +kernel
theorem dc_X9_meet_42 : decode mX9_meet.2.1 42 = .ok (.sipush 200, 3) := by decide +kernel
theorem dc_X9_meet_45 : decode mX9_meet.2.1 45 = .ok (.if_icmp .ge 28, 3) := by decide +kernel
theorem dc_X9_meet_48 : decode mX9_meet.2.1 48 = .ok (.aload_n 0, 1) := by decide +kernel
theorem dc_X9_meet_49 : decode mX9_meet.2.1 49 = .ok (.iload_n 1, 1) := by decide +kernel
theorem dc_X9_meet_50 : decode mX9_meet.2.1 50 = .ok (.iconst 1, 1) := by decide +kernel
theorem dc_X9_meet_51 : decode mX9_meet.2.1 51 = .ok (.invokevirtual 107, 3) := by decide +kernel
theorem dc_X9_meet_54 : decode mX9_meet.2.1 54 = .ok (.aload_n 0, 1) := by decide +kernel
theorem dc_X9_meet_55 : decode mX9_meet.2.1 55 = .ok (.iload_n 2, 1) := by decide +kernel
theorem dc_X9_meet_56 : decode mX9_meet.2.1 56 = .ok (.iconst 1, 1) := by decide +kernel
theorem dc_X9_meet_57 : decode mX9_meet.2.1 57 = .ok (.invokevirtual 107, 3) := by decide +kernel
theorem dc_X9_meet_60 : decode mX9_meet.2.1 60 = .ok (.if_icmp .eq 13, 3) := by decide +kernel
theorem dc_X9_meet_63 : decode mX9_meet.2.1 63 = .ok (.aload_n 0, 1) := by decide +kernel
theorem dc_X9_meet_64 : decode mX9_meet.2.1 64 = .ok (.invokevirtual 147, 3) := by decide +kernel
theorem dc_X9_meet_67 : decode mX9_meet.2.1 67 = .ok (.iinc 3 1, 3) := by decide +kernel
theorem dc_X9_meet_70 : decode mX9_meet.2.1 70 = .ok (.goto (-29), 3) := by decide +kernel
theorem dc_X9_meet_73 : decode mX9_meet.2.1 73 = .ok (.aload_n 0, 1) := by decide +kernel
theorem dc_X9_meet_74 : decode mX9_meet.2.1 74 = .ok (.aload_n 0, 1) := by decide +kernel
theorem dc_X9_meet_75 : decode mX9_meet.2.1 75 = .ok (.aload_n 0, 1) := by decide +kernel
theorem dc_X9_meet_76 : decode mX9_meet.2.1 76 = .ok (.iload_n 1, 1) := by decide +kernel
theorem dc_X9_meet_77 : decode mX9_meet.2.1 77 = .ok (.iconst 1, 1) := by decide +kernel
theorem dc_X9_meet_78 : decode mX9_meet.2.1 78 = .ok (.invokevirtual 107, 3) := by decide +kernel
theorem dc_X9_meet_81 : decode mX9_meet.2.1 81 = .ok (.aload_n 0, 1) := by decide +kernel
theorem dc_X9_meet_82 : decode mX9_meet.2.1 82 = .ok (.iload_n 2, 1) := by decide +kernel
theorem dc_X9_meet_83 : decode mX9_meet.2.1 83 = .ok (.iconst 1, 1) := by decide +kernel
theorem dc_X9_meet_84 : decode mX9_meet.2.1 84 = .ok (.invokevirtual 107, 3) := by decide +kernel
theorem dc_X9_meet_87 : decode mX9_meet.2.1 87 = .ok (.if_icmp .eq 7, 3) := by decide +kernel
theorem dc_X9_meet_90 : decode mX9_meet.2.1 90 = .ok (.iconst (-1), 1) := by decide +kernel
theorem dc_X9_meet_91 : decode mX9_meet.2.1 91 = .ok (.goto 4, 3) := by decide +kernel
theorem dc_X9_meet_94 : decode mX9_meet.2.1 94 = .ok (.iload_n 3, 1) := by decide +kernel
theorem dc_X9_meet_95 : decode mX9_meet.2.1 95 = .ok (.invokevirtual 168, 3) := by decide +kernel
theorem dc_X9_meet_98 : decode mX9_meet.2.1 98 = .ok (.invokevirtual 174, 3) := by decide +kernel
theorem dc_X9_meet_101 : decode mX9_meet.2.1 101 = .ok (.ireturn, 1) := by decide +kernel
theorem dc_X9_period_0 : decode mX9_period.2.1 0 = .ok (.iconst 1, 1) := by decide +kernel
theorem dc_X9_period_1 : decode mX9_period.2.1 1 = .ok (.istore_n 1, 1) := by decide +kernel
theorem dc_X9_period_2 : decode mX9_period.2.1 2 = .ok (.aload_n 0, 1) := by decide +kernel
theorem dc_X9_period_3 : decode mX9_period.2.1 3 = .ok (.getfield 9, 3) := by decide +kernel
theorem dc_X9_period_6 : decode mX9_period.2.1 6 = .ok (.iconst 3, 1) := by decide +kernel
theorem dc_X9_period_7 : decode mX9_period.2.1 7 = .ok (.iaload, 1) := by decide +kernel
theorem dc_X9_period_8 : decode mX9_period.2.1 8 = .ok (.iload_n 1, 1) := by decide +kernel
theorem dc_X9_period_9 : decode mX9_period.2.1 9 = .ok (.ishr, 1) := by decide +kernel
theorem dc_X9_period_10 : decode mX9_period.2.1 10 = .ok (.aload_n 0, 1) := by decide +kernel
theorem dc_X9_period_11 : decode mX9_period.2.1 11 = .ok (.getfield 9, 3) := by decide +kernel
theorem dc_X9_period_14 : decode mX9_period.2.1 14 = .ok (.iconst 3, 1) := by decide +kernel
theorem dc_X9_period_15 : decode mX9_period.2.1 15 = .ok (.iaload, 1) := by decide +kernel
theorem dc_X9_period_16 : decode mX9_period.2.1 16 = .ok (.bipush 12, 2) := by decide +kernel
theorem dc_X9_period_18 : decode mX9_period.2.1 18 = .ok (.iload_n 1, 1) := by decide +kernel
theorem dc_X9_period_19 : decode mX9_period.2.1 19 = .ok (.isub, 1) := by decide +kernel
theorem dc_X9_period_20 : decode mX9_period.2.1 20 = .ok (.ishl, 1) := by decide +kernel
theorem dc_X9_period_21 : decode mX9_period.2.1 21 = .ok (.ior, 1) := by decide +kernel
theorem dc_X9_period_22 : decode mX9_period.2.1 22 = .ok (.sipush 4096, 3) := by decide +kernel
theorem dc_X9_period_25 : decode mX9_period.2.1 25 = .ok (.irem, 1) := by decide +kernel
theorem dc_X9_period_26 : decode mX9_period.2.1 26 = .ok (.aload_n 0, 1) := by decide +kernel
theorem dc_X9_period_27 : decode mX9_period.2.1 27 = .ok (.getfield 9, 3) := by decide +kernel
theorem dc_X9_period_30 : decode mX9_period.2.1 30 = .ok (.iconst 3, 1) := by decide +kernel
theorem dc_X9_period_31 : decode mX9_period.2.1 31 = .ok (.iaload, 1) := by decide +kernel
theorem dc_X9_period_32 : decode mX9_period.2.1 32 = .ok (.if_icmp .eq 9, 3) := by decide +kernel
theorem dc_X9_period_35 : decode mX9_period.2.1 35 = .ok (.iinc 1 1, 3) := by decide +kernel
theorem dc_X9_period_38 : decode mX9_period.2.1 38 = .ok (.goto (-36), 3) := by decide +kernel
theorem dc_X9_period_41 : decode mX9_period.2.1 41 = .ok (.iload_n 1, 1) := by decide +kernel
theorem dc_X9_period_42 : decode mX9_period.2.1 42 = .ok (.ireturn, 1) := by decide +kernel
theorem dc_X9_isThought_0 : decode mX9_isThought.2.1 0 = .ok (.iload_n 0, 1) := by decide +kernel
theorem dc_X9_isThought_1 : decode mX9_isThought.2.1 1 = .ok (.iconst 0, 1) := by decide +kernel
theorem dc_X9_isThought_2 : decode mX9_isThought.2.1 2 = .ok (.bipush 60, 2) := by decide +kernel
theorem dc_X9_isThought_4 : decode mX9_isThought.2.1 4 = .ok (.invokestatic 71, 3) := by decide +kernel
theorem dc_X9_isThought_7 : decode mX9_isThought.2.1 7 = .ok (.ireturn, 1) := by decide +kernel
theorem dc_X9_leastFor_0 : decode mX9_leastFor.2.1 0 = .ok (.aload_n 0, 1) := by decide +kernel
theorem dc_X9_leastFor_1 : decode mX9_leastFor.2.1 1 = .ok (.getfield 9, 3) := by decide +kernel
theorem dc_X9_leastFor_4 : decode mX9_leastFor.2.1 4 = .ok (.iload_n 1, 1) := by decide +kernel
theorem dc_X9_leastFor_5 : decode mX9_leastFor.2.1 5 = .ok (.iaload, 1) := by decide +kernel
theorem dc_X9_leastFor_6 : decode mX9_leastFor.2.1 6 = .ok (.istore 5, 2) := by decide +kernel
theorem dc_X9_leastFor_8 : decode mX9_leastFor.2.1 8 = .ok (.iconst 0, 1) := by decide +kernel
theorem dc_X9_leastFor_9 : decode mX9_leastFor.2.1 9 = .ok (.istore 6, 2) := by decide +kernel
theorem dc_X9_leastFor_11 : decode mX9_leastFor.2.1 11 = .ok (.iconst (-1), 1) := by decide +kernel
theorem dc_X9_leastFor_12 : decode mX9_leastFor.2.1 12 = .ok (.istore 7, 2) := by decide +kernel
theorem dc_X9_leastFor_14 : decode mX9_leastFor.2.1 14 = .ok (.iconst 0, 1) := by decide +kernel
theorem dc_X9_leastFor_15 : decode mX9_leastFor.2.1 15 = .ok (.istore 8, 2) := by decide +kernel
theorem dc_X9_leastFor_17 : decode mX9_leastFor.2.1 17 = .ok (.iload 8, 2) := by decide +kernel
theorem dc_X9_leastFor_19 : decode mX9_leastFor.2.1 19 = .ok (.iload_n 2, 1) := by decide +kernel
theorem dc_X9_leastFor_20 : decode mX9_leastFor.2.1 20 = .ok (.if_icmp .ge 63, 3) := by decide +kernel
theorem dc_X9_leastFor_23 : decode mX9_leastFor.2.1 23 = .ok (.aload_n 0, 1) := by decide +kernel
theorem dc_X9_leastFor_24 : decode mX9_leastFor.2.1 24 = .ok (.getfield 9, 3) := by decide +kernel
theorem dc_X9_leastFor_27 : decode mX9_leastFor.2.1 27 = .ok (.iload_n 1, 1) := by decide +kernel
theorem dc_X9_leastFor_28 : decode mX9_leastFor.2.1 28 = .ok (.iload 8, 2) := by decide +kernel
theorem dc_X9_leastFor_30 : decode mX9_leastFor.2.1 30 = .ok (.iastore, 1) := by decide +kernel
theorem dc_X9_leastFor_31 : decode mX9_leastFor.2.1 31 = .ok (.iload_n 3, 1) := by decide +kernel
theorem dc_X9_leastFor_32 : decode mX9_leastFor.2.1 32 = .ok (.ifCond .ge 12, 3) := by decide +kernel
theorem dc_X9_leastFor_35 : decode mX9_leastFor.2.1 35 = .ok (.aload_n 0, 1) := by decide +kernel
theorem dc_X9_leastFor_36 : decode mX9_leastFor.2.1 36 = .ok (.iload 4, 2) := by decide +kernel
theorem dc_X9_leastFor_38 : decode mX9_leastFor.2.1 38 = .ok (.invokevirtual 177, 3) := by decide +kernel
theorem dc_X9_leastFor_41 : decode mX9_leastFor.2.1 41 = .ok (.goto 14, 3) := by decide +kernel
theorem dc_X9_leastFor_44 : decode mX9_leastFor.2.1 44 = .ok (.aload_n 0, 1) := by decide +kernel
theorem dc_X9_leastFor_45 : decode mX9_leastFor.2.1 45 = .ok (.iload_n 3, 1) := by decide +kernel
theorem dc_X9_leastFor_46 : decode mX9_leastFor.2.1 46 = .ok (.iconst 5, 1) := by decide +kernel
theorem dc_X9_leastFor_47 : decode mX9_leastFor.2.1 47 = .ok (.invokestatic 93, 3) := by decide +kernel
theorem dc_X9_leastFor_50 : decode mX9_leastFor.2.1 50 = .ok (.iload 4, 2) := by decide +kernel
theorem dc_X9_leastFor_52 : decode mX9_leastFor.2.1 52 = .ok (.invokevirtual 171, 3) := by decide +kernel
theorem dc_X9_leastFor_55 : decode mX9_leastFor.2.1 55 = .ok (.istore 9, 2) := by decide +kernel
theorem dc_X9_leastFor_57 : decode mX9_leastFor.2.1 57 = .ok (.iload 7, 2) := by decide +kernel
theorem dc_X9_leastFor_59 : decode mX9_leastFor.2.1 59 = .ok (.ifCond .lt 10, 3) := by decide +kernel
theorem dc_X9_leastFor_62 : decode mX9_leastFor.2.1 62 = .ok (.iload 9, 2) := by decide +kernel
theorem dc_X9_leastFor_64 : decode mX9_leastFor.2.1 64 = .ok (.iload 7, 2) := by decide +kernel
theorem dc_X9_leastFor_66 : decode mX9_leastFor.2.1 66 = .ok (.if_icmp .ge 11, 3) := by decide +kernel
theorem dc_X9_leastFor_69 : decode mX9_leastFor.2.1 69 = .ok (.iload 8, 2) := by decide +kernel
theorem dc_X9_leastFor_71 : decode mX9_leastFor.2.1 71 = .ok (.istore 6, 2) := by decide +kernel
theorem dc_X9_leastFor_73 : decode mX9_leastFor.2.1 73 = .ok (.iload 9, 2) := by decide +kernel
theorem dc_X9_leastFor_75 : decode mX9_leastFor.2.1 75 = .ok (.istore 7, 2) := by decide +kernel
theorem dc_X9_leastFor_77 : decode mX9_leastFor.2.1 77 = .ok (.iinc 8 1, 3) := by decide +kernel
theorem dc_X9_leastFor_80 : decode mX9_leastFor.2.1 80 = .ok (.goto (-63), 3) := by decide +kernel
theorem dc_X9_leastFor_83 : decode mX9_leastFor.2.1 83 = .ok (.aload_n 0, 1) := by decide +kernel
theorem dc_X9_leastFor_84 : decode mX9_leastFor.2.1 84 = .ok (.getfield 9, 3) := by decide +kernel
theorem dc_X9_leastFor_87 : decode mX9_leastFor.2.1 87 = .ok (.iload_n 1, 1) := by decide +kernel
theorem dc_X9_leastFor_88 : decode mX9_leastFor.2.1 88 = .ok (.iload 5, 2) := by decide +kernel
theorem dc_X9_leastFor_90 : decode mX9_leastFor.2.1 90 = .ok (.iastore, 1) := by decide +kernel
theorem dc_X9_leastFor_91 : decode mX9_leastFor.2.1 91 = .ok (.iload 6, 2) := by decide +kernel
theorem dc_X9_leastFor_93 : decode mX9_leastFor.2.1 93 = .ok (.ireturn, 1) := by decide +kernel
theorem dc_X9_lagFor_0 : decode mX9_lagFor.2.1 0 = .ok (.iload_n 1, 1) := by decide +kernel
theorem dc_X9_lagFor_1 : decode mX9_lagFor.2.1 1 = .ok (.invokestatic 180, 3) := by decide +kernel
theorem dc_X9_lagFor_4 : decode mX9_lagFor.2.1 4 = .ok (.ifCond .eq 15, 3) := by decide +kernel
theorem dc_X9_lagFor_7 : decode mX9_lagFor.2.1 7 = .ok (.aload_n 0, 1) := by decide +kernel
theorem dc_X9_lagFor_8 : decode mX9_lagFor.2.1 8 = .ok (.iconst 4, 1) := by decide +kernel
theorem dc_X9_lagFor_9 : decode mX9_lagFor.2.1 9 = .ok (.bipush 24, 2) := by decide +kernel
theorem dc_X9_lagFor_11 : decode mX9_lagFor.2.1 11 = .ok (.iconst (-1), 1) := by decide +kernel
theorem dc_X9_lagFor_12 : decode mX9_lagFor.2.1 12 = .ok (.iload_n 1, 1) := by decide +kernel
theorem dc_X9_lagFor_13 : decode mX9_lagFor.2.1 13 = .ok (.invokevirtual 183, 3) := by decide +kernel
theorem dc_X9_lagFor_16 : decode mX9_lagFor.2.1 16 = .ok (.goto 9, 3) := by decide +kernel
theorem dc_X9_lagFor_19 : decode mX9_lagFor.2.1 19 = .ok (.aload_n 0, 1) := by decide +kernel
theorem dc_X9_lagFor_20 : decode mX9_lagFor.2.1 20 = .ok (.ldc 60, 2) := by decide +kernel
theorem dc_X9_lagFor_22 : decode mX9_lagFor.2.1 22 = .ok (.invokevirtual 66, 3) := by decide +kernel
theorem dc_X9_lagFor_25 : decode mX9_lagFor.2.1 25 = .ok (.ireturn, 1) := by decide +kernel
theorem dc_X9_patternFor_0 : decode mX9_patternFor.2.1 0 = .ok (.iload_n 1, 1) := by decide +kernel
theorem dc_X9_patternFor_1 : decode mX9_patternFor.2.1 1 = .ok (.iconst 0, 1) := by decide +kernel
theorem dc_X9_patternFor_2 : decode mX9_patternFor.2.1 2 = .ok (.bipush 12, 2) := by decide +kernel
theorem dc_X9_patternFor_4 : decode mX9_patternFor.2.1 4 = .ok (.invokestatic 71, 3) := by decide +kernel
theorem dc_X9_patternFor_7 : decode mX9_patternFor.2.1 7 = .ok (.ifCond .eq 16, 3) := by decide +kernel
theorem dc_X9_patternFor_10 : decode mX9_patternFor.2.1 10 = .ok (.aload_n 0, 1) := by decide +kernel
theorem dc_X9_patternFor_11 : decode mX9_patternFor.2.1 11 = .ok (.iconst 3, 1) := by decide +kernel
theorem dc_X9_patternFor_12 : decode mX9_patternFor.2.1 12 = .ok (.sipush 4096, 3) := by decide +kernel
theorem dc_X9_patternFor_15 : decode mX9_patternFor.2.1 15 = .ok (.iconst (-1), 1) := by decide +kernel
theorem dc_X9_patternFor_16 : decode mX9_patternFor.2.1 16 = .ok (.iload_n 1, 1) := by decide +kernel
theorem dc_X9_patternFor_17 : decode mX9_patternFor.2.1 17 = .ok (.invokevirtual 183, 3) := by decide +kernel
theorem dc_X9_patternFor_20 : decode mX9_patternFor.2.1 20 = .ok (.goto 9, 3) := by decide +kernel
theorem dc_X9_patternFor_23 : decode mX9_patternFor.2.1 23 = .ok (.aload_n 0, 1) := by decide +kernel
theorem dc_X9_patternFor_24 : decode mX9_patternFor.2.1 24 = .ok (.ldc 60, 2) := by decide +kernel
theorem dc_X9_patternFor_26 : decode mX9_patternFor.2.1 26 = .ok (.invokevirtual 66, 3) := by decide +kernel
theorem dc_X9_patternFor_29 : decode mX9_patternFor.2.1 29 = .ok (.ireturn, 1) := by decide +kernel
theorem dc_X9_kindFor_0 : decode mX9_kindFor.2.1 0 = .ok (.aload_n 0, 1) := by decide +kernel
theorem dc_X9_kindFor_1 : decode mX9_kindFor.2.1 1 = .ok (.iload_n 1, 1) := by decide +kernel
theorem dc_X9_kindFor_2 : decode mX9_kindFor.2.1 2 = .ok (.invokevirtual 113, 3) := by decide +kernel
theorem dc_X9_kindFor_5 : decode mX9_kindFor.2.1 5 = .ok (.ifCond .eq 26, 3) := by decide +kernel
theorem dc_X9_kindFor_8 : decode mX9_kindFor.2.1 8 = .ok (.iload_n 2, 1) := by decide +kernel
theorem dc_X9_kindFor_9 : decode mX9_kindFor.2.1 9 = .ok (.invokestatic 180, 3) := by decide +kernel
theorem dc_X9_kindFor_12 : decode mX9_kindFor.2.1 12 = .ok (.ifCond .eq 19, 3) := by decide +kernel
theorem dc_X9_kindFor_15 : decode mX9_kindFor.2.1 15 = .ok (.aload_n 0, 1) := by decide +kernel
theorem dc_X9_kindFor_16 : decode mX9_kindFor.2.1 16 = .ok (.iload_n 1, 1) := by decide +kernel
theorem dc_X9_kindFor_17 : decode mX9_kindFor.2.1 17 = .ok (.iconst 0, 1) := by decide +kernel
theorem dc_X9_kindFor_18 : decode mX9_kindFor.2.1 18 = .ok (.invokestatic 93, 3) := by decide +kernel
theorem dc_X9_kindFor_21 : decode mX9_kindFor.2.1 21 = .ok (.bipush 7, 2) := by decide +kernel
theorem dc_X9_kindFor_23 : decode mX9_kindFor.2.1 23 = .ok (.iload_n 1, 1) := by decide +kernel
theorem dc_X9_kindFor_24 : decode mX9_kindFor.2.1 24 = .ok (.iload_n 2, 1) := by decide +kernel
theorem dc_X9_kindFor_25 : decode mX9_kindFor.2.1 25 = .ok (.invokevirtual 183, 3) := by decide +kernel
theorem dc_X9_kindFor_28 : decode mX9_kindFor.2.1 28 = .ok (.goto 9, 3) := by decide +kernel
theorem dc_X9_kindFor_31 : decode mX9_kindFor.2.1 31 = .ok (.aload_n 0, 1) := by decide +kernel
theorem dc_X9_kindFor_32 : decode mX9_kindFor.2.1 32 = .ok (.ldc 60, 2) := by decide +kernel
theorem dc_X9_kindFor_34 : decode mX9_kindFor.2.1 34 = .ok (.invokevirtual 66, 3) := by decide +kernel
theorem dc_X9_kindFor_37 : decode mX9_kindFor.2.1 37 = .ok (.ireturn, 1) := by decide +kernel
theorem dc_X9_start_0 : decode mX9_start.2.1 0 = .ok (.aload_n 0, 1) := by decide +kernel
theorem dc_X9_start_1 : decode mX9_start.2.1 1 = .ok (.iload_n 1, 1) := by decide +kernel
theorem dc_X9_start_2 : decode mX9_start.2.1 2 = .ok (.invokevirtual 113, 3) := by decide +kernel
theorem dc_X9_start_5 : decode mX9_start.2.1 5 = .ok (.ifCond .eq 26, 3) := by decide +kernel
theorem dc_X9_start_8 : decode mX9_start.2.1 8 = .ok (.iload_n 2, 1) := by decide +kernel
theorem dc_X9_start_9 : decode mX9_start.2.1 9 = .ok (.invokestatic 180, 3) := by decide +kernel
theorem dc_X9_start_12 : decode mX9_start.2.1 12 = .ok (.ifCond .eq 19, 3) := by decide +kernel
theorem dc_X9_start_15 : decode mX9_start.2.1 15 = .ok (.aload_n 0, 1) := by decide +kernel
theorem dc_X9_start_16 : decode mX9_start.2.1 16 = .ok (.iload_n 1, 1) := by decide +kernel
theorem dc_X9_start_17 : decode mX9_start.2.1 17 = .ok (.iconst 1, 1) := by decide +kernel
theorem dc_X9_start_18 : decode mX9_start.2.1 18 = .ok (.invokestatic 93, 3) := by decide +kernel
theorem dc_X9_start_21 : decode mX9_start.2.1 21 = .ok (.bipush 24, 2) := by decide +kernel
theorem dc_X9_start_23 : decode mX9_start.2.1 23 = .ok (.iload_n 1, 1) := by decide +kernel
theorem dc_X9_start_24 : decode mX9_start.2.1 24 = .ok (.iload_n 2, 1) := by decide +kernel
theorem dc_X9_start_25 : decode mX9_start.2.1 25 = .ok (.invokevirtual 183, 3) := by decide +kernel
theorem dc_X9_start_28 : decode mX9_start.2.1 28 = .ok (.goto 9, 3) := by decide +kernel
theorem dc_X9_start_31 : decode mX9_start.2.1 31 = .ok (.aload_n 0, 1) := by decide +kernel
theorem dc_X9_start_32 : decode mX9_start.2.1 32 = .ok (.ldc 60, 2) := by decide +kernel
theorem dc_X9_start_34 : decode mX9_start.2.1 34 = .ok (.invokevirtual 66, 3) := by decide +kernel
theorem dc_X9_start_37 : decode mX9_start.2.1 37 = .ok (.ireturn, 1) := by decide +kernel
theorem dc_X9_speedFor_0 : decode mX9_speedFor.2.1 0 = .ok (.aload_n 0, 1) := by decide +kernel
theorem dc_X9_speedFor_1 : decode mX9_speedFor.2.1 1 = .ok (.iload_n 1, 1) := by decide +kernel
theorem dc_X9_speedFor_2 : decode mX9_speedFor.2.1 2 = .ok (.invokevirtual 113, 3) := by decide +kernel
theorem dc_X9_speedFor_5 : decode mX9_speedFor.2.1 5 = .ok (.ifCond .eq 10, 3) := by decide +kernel
theorem dc_X9_speedFor_8 : decode mX9_speedFor.2.1 8 = .ok (.iload_n 2, 1) := by decide +kernel
theorem dc_X9_speedFor_9 : decode mX9_speedFor.2.1 9 = .ok (.invokestatic 180, 3) := by decide +kernel
theorem dc_X9_speedFor_12 : decode mX9_speedFor.2.1 12 = .ok (.ifCond .ne 10, 3) := by decide +kernel
theorem dc_X9_speedFor_15 : decode mX9_speedFor.2.1 15 = .ok (.aload_n 0, 1) := by decide +kernel
theorem dc_X9_speedFor_16 : decode mX9_speedFor.2.1 16 = .ok (.ldc 60, 2) := by decide +kernel
theorem dc_X9_speedFor_18 : decode mX9_speedFor.2.1 18 = .ok (.invokevirtual 66, 3) := by decide +kernel
theorem dc_X9_speedFor_21 : decode mX9_speedFor.2.1 21 = .ok (.ireturn, 1) := by decide +kernel
theorem dc_X9_speedFor_22 : decode mX9_speedFor.2.1 22 = .ok (.iload_n 1, 1) := by decide +kernel
theorem dc_X9_speedFor_23 : decode mX9_speedFor.2.1 23 = .ok (.iconst 3, 1) := by decide +kernel
theorem dc_X9_speedFor_24 : decode mX9_speedFor.2.1 24 = .ok (.invokestatic 93, 3) := by decide +kernel
theorem dc_X9_speedFor_27 : decode mX9_speedFor.2.1 27 = .ok (.istore_n 3, 1) := by decide +kernel
theorem dc_X9_speedFor_28 : decode mX9_speedFor.2.1 28 = .ok (.aload_n 0, 1) := by decide +kernel
theorem dc_X9_speedFor_29 : decode mX9_speedFor.2.1 29 = .ok (.getfield 9, 3) := by decide +kernel
theorem dc_X9_speedFor_32 : decode mX9_speedFor.2.1 32 = .ok (.iload_n 3, 1) := by decide +kernel
theorem dc_X9_speedFor_33 : decode mX9_speedFor.2.1 33 = .ok (.iaload, 1) := by decide +kernel
theorem dc_X9_speedFor_34 : decode mX9_speedFor.2.1 34 = .ok (.istore 4, 2) := by decide +kernel
theorem dc_X9_speedFor_36 : decode mX9_speedFor.2.1 36 = .ok (.aload_n 0, 1) := by decide +kernel
theorem dc_X9_speedFor_37 : decode mX9_speedFor.2.1 37 = .ok (.iload_n 1, 1) := by decide +kernel
theorem dc_X9_speedFor_38 : decode mX9_speedFor.2.1 38 = .ok (.iconst 5, 1) := by decide +kernel
theorem dc_X9_speedFor_39 : decode mX9_speedFor.2.1 39 = .ok (.invokevirtual 107, 3) := by decide +kernel
theorem dc_X9_speedFor_42 : decode mX9_speedFor.2.1 42 = .ok (.istore 5, 2) := by decide +kernel
theorem dc_X9_speedFor_44 : decode mX9_speedFor.2.1 44 = .ok (.iconst (-1), 1) := by decide +kernel
theorem dc_X9_speedFor_45 : decode mX9_speedFor.2.1 45 = .ok (.istore 6, 2) := by decide +kernel
theorem dc_X9_speedFor_47 : decode mX9_speedFor.2.1 47 = .ok (.iconst 0, 1) := by decide +kernel
theorem dc_X9_speedFor_48 : decode mX9_speedFor.2.1 48 = .ok (.istore 7, 2) := by decide +kernel
theorem dc_X9_speedFor_50 : decode mX9_speedFor.2.1 50 = .ok (.iload 7, 2) := by decide +kernel
theorem dc_X9_speedFor_52 : decode mX9_speedFor.2.1 52 = .ok (.iconst 5, 1) := by decide +kernel
theorem dc_X9_speedFor_53 : decode mX9_speedFor.2.1 53 = .ok (.if_icmp .gt 41, 3) := by decide +kernel
theorem dc_X9_speedFor_56 : decode mX9_speedFor.2.1 56 = .ok (.aload_n 0, 1) := by decide +kernel
theorem dc_X9_speedFor_57 : decode mX9_speedFor.2.1 57 = .ok (.getfield 9, 3) := by decide +kernel
theorem dc_X9_speedFor_60 : decode mX9_speedFor.2.1 60 = .ok (.iload_n 3, 1) := by decide +kernel
theorem dc_X9_speedFor_61 : decode mX9_speedFor.2.1 61 = .ok (.iload 7, 2) := by decide +kernel
theorem dc_X9_speedFor_63 : decode mX9_speedFor.2.1 63 = .ok (.iastore, 1) := by decide +kernel
theorem dc_X9_speedFor_64 : decode mX9_speedFor.2.1 64 = .ok (.aload_n 0, 1) := by decide +kernel
theorem dc_X9_speedFor_65 : decode mX9_speedFor.2.1 65 = .ok (.iload_n 1, 1) := by decide +kernel
theorem dc_X9_speedFor_66 : decode mX9_speedFor.2.1 66 = .ok (.iconst 5, 1) := by decide +kernel
theorem dc_X9_speedFor_67 : decode mX9_speedFor.2.1 67 = .ok (.invokestatic 93, 3) := by decide +kernel
theorem dc_X9_speedFor_70 : decode mX9_speedFor.2.1 70 = .ok (.iload_n 2, 1) := by decide +kernel
theorem dc_X9_speedFor_71 : decode mX9_speedFor.2.1 71 = .ok (.invokevirtual 171, 3) := by decide +kernel
theorem dc_X9_speedFor_74 : decode mX9_speedFor.2.1 74 = .ok (.iload 5, 2) := by decide +kernel
theorem dc_X9_speedFor_76 : decode mX9_speedFor.2.1 76 = .ok (.if_icmp .ne 8, 3) := by decide +kernel
theorem dc_X9_speedFor_79 : decode mX9_speedFor.2.1 79 = .ok (.iload 7, 2) := by decide +kernel
theorem dc_X9_speedFor_81 : decode mX9_speedFor.2.1 81 = .ok (.goto 5, 3) := by decide +kernel
theorem dc_X9_speedFor_84 : decode mX9_speedFor.2.1 84 = .ok (.iload 6, 2) := by decide +kernel
theorem dc_X9_speedFor_86 : decode mX9_speedFor.2.1 86 = .ok (.istore 6, 2) := by decide +kernel
theorem dc_X9_speedFor_88 : decode mX9_speedFor.2.1 88 = .ok (.iinc 7 1, 3) := by decide +kernel
theorem dc_X9_speedFor_91 : decode mX9_speedFor.2.1 91 = .ok (.goto (-41), 3) := by decide +kernel
theorem dc_X9_speedFor_94 : decode mX9_speedFor.2.1 94 = .ok (.aload_n 0, 1) := by decide +kernel
theorem dc_X9_speedFor_95 : decode mX9_speedFor.2.1 95 = .ok (.getfield 9, 3) := by decide +kernel
theorem dc_X9_speedFor_98 : decode mX9_speedFor.2.1 98 = .ok (.iload_n 3, 1) := by decide +kernel
theorem dc_X9_speedFor_99 : decode mX9_speedFor.2.1 99 = .ok (.iload 4, 2) := by decide +kernel
theorem dc_X9_speedFor_101 : decode mX9_speedFor.2.1 101 = .ok (.iastore, 1) := by decide +kernel
theorem dc_X9_speedFor_102 : decode mX9_speedFor.2.1 102 = .ok (.aload_n 0, 1) := by decide +kernel
theorem dc_X9_speedFor_103 : decode mX9_speedFor.2.1 103 = .ok (.iload 6, 2) := by decide +kernel
theorem dc_X9_speedFor_105 : decode mX9_speedFor.2.1 105 = .ok (.invokevirtual 174, 3) := by decide +kernel
theorem dc_X9_speedFor_108 : decode mX9_speedFor.2.1 108 = .ok (.ireturn, 1) := by decide +kernel
theorem dc_X9_isKeptIn_0 : decode mX9_isKeptIn.2.1 0 = .ok (.aload_n 0, 1) := by decide +kernel
theorem dc_X9_isKeptIn_1 : decode mX9_isKeptIn.2.1 1 = .ok (.getfield 9, 3) := by decide +kernel
theorem dc_X9_isKeptIn_4 : decode mX9_isKeptIn.2.1 4 = .ok (.aload_n 0, 1) := by decide +kernel
theorem dc_X9_isKeptIn_5 : decode mX9_isKeptIn.2.1 5 = .ok (.getfield 16, 3) := by decide +kernel
theorem dc_X9_isKeptIn_8 : decode mX9_isKeptIn.2.1 8 = .ok (.invokestatic 61, 3) := by decide +kernel
theorem dc_X9_isKeptIn_11 : decode mX9_isKeptIn.2.1 11 = .ok (.iconst 0, 1) := by decide +kernel
theorem dc_X9_isKeptIn_12 : decode mX9_isKeptIn.2.1 12 = .ok (.istore 4, 2) := by decide +kernel
theorem dc_X9_isKeptIn_14 : decode mX9_isKeptIn.2.1 14 = .ok (.iload 4, 2) := by decide +kernel
theorem dc_X9_isKeptIn_16 : decode mX9_isKeptIn.2.1 16 = .ok (.aload_n 0, 1) := by decide +kernel
theorem dc_X9_isKeptIn_17 : decode mX9_isKeptIn.2.1 17 = .ok (.getfield 9, 3) := by decide +kernel
theorem dc_X9_isKeptIn_20 : decode mX9_isKeptIn.2.1 20 = .ok (.iconst 1, 1) := by decide +kernel
theorem dc_X9_isKeptIn_21 : decode mX9_isKeptIn.2.1 21 = .ok (.iaload, 1) := by decide +kernel
theorem dc_X9_isKeptIn_22 : decode mX9_isKeptIn.2.1 22 = .ok (.if_icmp .ge 40, 3) := by decide +kernel
theorem dc_X9_isKeptIn_25 : decode mX9_isKeptIn.2.1 25 = .ok (.aload_n 0, 1) := by decide +kernel
theorem dc_X9_isKeptIn_26 : decode mX9_isKeptIn.2.1 26 = .ok (.getfield 9, 3) := by decide +kernel
theorem dc_X9_isKeptIn_29 : decode mX9_isKeptIn.2.1 29 = .ok (.iload 4, 2) := by decide +kernel
theorem dc_X9_isKeptIn_31 : decode mX9_isKeptIn.2.1 31 = .ok (.iconst 4, 1) := by decide +kernel
theorem dc_X9_isKeptIn_32 : decode mX9_isKeptIn.2.1 32 = .ok (.invokestatic 93, 3) := by decide +kernel
theorem dc_X9_isKeptIn_35 : decode mX9_isKeptIn.2.1 35 = .ok (.iload_n 1, 1) := by decide +kernel
theorem dc_X9_isKeptIn_36 : decode mX9_isKeptIn.2.1 36 = .ok (.iload 4, 2) := by decide +kernel
theorem dc_X9_isKeptIn_38 : decode mX9_isKeptIn.2.1 38 = .ok (.invokestatic 187, 3) := by decide +kernel
theorem dc_X9_isKeptIn_41 : decode mX9_isKeptIn.2.1 41 = .ok (.ifCond .eq 7, 3) := by decide +kernel
theorem dc_X9_isKeptIn_44 : decode mX9_isKeptIn.2.1 44 = .ok (.iconst 1, 1) := by decide +kernel
theorem dc_X9_isKeptIn_45 : decode mX9_isKeptIn.2.1 45 = .ok (.goto 10, 3) := by decide +kernel
theorem dc_X9_isKeptIn_48 : decode mX9_isKeptIn.2.1 48 = .ok (.aload_n 0, 1) := by decide +kernel
theorem dc_X9_isKeptIn_49 : decode mX9_isKeptIn.2.1 49 = .ok (.iload 4, 2) := by decide +kernel
theorem dc_X9_isKeptIn_51 : decode mX9_isKeptIn.2.1 51 = .ok (.iconst 4, 1) := by decide +kernel
theorem dc_X9_isKeptIn_52 : decode mX9_isKeptIn.2.1 52 = .ok (.invokevirtual 107, 3) := by decide +kernel
theorem dc_X9_isKeptIn_55 : decode mX9_isKeptIn.2.1 55 = .ok (.iastore, 1) := by decide +kernel
theorem dc_X9_isKeptIn_56 : decode mX9_isKeptIn.2.1 56 = .ok (.iinc 4 1, 3) := by decide +kernel
theorem dc_X9_isKeptIn_59 : decode mX9_isKeptIn.2.1 59 = .ok (.goto (-45), 3) := by decide +kernel
theorem dc_X9_isKeptIn_62 : decode mX9_isKeptIn.2.1 62 = .ok (.aload_n 0, 1) := by decide +kernel
theorem dc_X9_isKeptIn_63 : decode mX9_isKeptIn.2.1 63 = .ok (.iload_n 3, 1) := by decide +kernel
theorem dc_X9_isKeptIn_64 : decode mX9_isKeptIn.2.1 64 = .ok (.invokevirtual 152, 3) := by decide +kernel
theorem dc_X9_isKeptIn_67 : decode mX9_isKeptIn.2.1 67 = .ok (.aload_n 0, 1) := by decide +kernel
theorem dc_X9_isKeptIn_68 : decode mX9_isKeptIn.2.1 68 = .ok (.iconst 5, 1) := by decide +kernel
theorem dc_X9_isKeptIn_69 : decode mX9_isKeptIn.2.1 69 = .ok (.invokevirtual 156, 3) := by decide +kernel
theorem dc_X9_isKeptIn_72 : decode mX9_isKeptIn.2.1 72 = .ok (.iload_n 2, 1) := by decide +kernel
theorem dc_X9_isKeptIn_73 : decode mX9_isKeptIn.2.1 73 = .ok (.if_icmp .gt 7, 3) := by decide +kernel
theorem dc_X9_isKeptIn_76 : decode mX9_isKeptIn.2.1 76 = .ok (.iconst 1, 1) := by decide +kernel
theorem dc_X9_isKeptIn_77 : decode mX9_isKeptIn.2.1 77 = .ok (.goto 4, 3) := by decide +kernel
theorem dc_X9_isKeptIn_80 : decode mX9_isKeptIn.2.1 80 = .ok (.iconst 0, 1) := by decide +kernel
theorem dc_X9_isKeptIn_81 : decode mX9_isKeptIn.2.1 81 = .ok (.istore 4, 2) := by decide +kernel
theorem dc_X9_isKeptIn_83 : decode mX9_isKeptIn.2.1 83 = .ok (.aload_n 0, 1) := by decide +kernel
theorem dc_X9_isKeptIn_84 : decode mX9_isKeptIn.2.1 84 = .ok (.getfield 16, 3) := by decide +kernel
theorem dc_X9_isKeptIn_87 : decode mX9_isKeptIn.2.1 87 = .ok (.aload_n 0, 1) := by decide +kernel
theorem dc_X9_isKeptIn_88 : decode mX9_isKeptIn.2.1 88 = .ok (.getfield 9, 3) := by decide +kernel
theorem dc_X9_isKeptIn_91 : decode mX9_isKeptIn.2.1 91 = .ok (.invokestatic 61, 3) := by decide +kernel
theorem dc_X9_isKeptIn_94 : decode mX9_isKeptIn.2.1 94 = .ok (.iload 4, 2) := by decide +kernel
theorem dc_X9_isKeptIn_96 : decode mX9_isKeptIn.2.1 96 = .ok (.ireturn, 1) := by decide +kernel
theorem dc_X9_keepIn_0 : decode mX9_keepIn.2.1 0 = .ok (.iload_n 1, 1) := by decide +kernel
theorem dc_X9_keepIn_1 : decode mX9_keepIn.2.1 1 = .ok (.iconst 0, 1) := by decide +kernel
theorem dc_X9_keepIn_2 : decode mX9_keepIn.2.1 2 = .ok (.sipush 9999, 3) := by decide +kernel
theorem dc_X9_keepIn_5 : decode mX9_keepIn.2.1 5 = .ok (.invokestatic 71, 3) := by decide +kernel
theorem dc_X9_keepIn_8 : decode mX9_keepIn.2.1 8 = .ok (.ifCond .eq 13, 3) := by decide +kernel
theorem dc_X9_keepIn_11 : decode mX9_keepIn.2.1 11 = .ok (.iload_n 2, 1) := by decide +kernel
theorem dc_X9_keepIn_12 : decode mX9_keepIn.2.1 12 = .ok (.iconst 0, 1) := by decide +kernel
theorem dc_X9_keepIn_13 : decode mX9_keepIn.2.1 13 = .ok (.bipush 20, 2) := by decide +kernel
theorem dc_X9_keepIn_15 : decode mX9_keepIn.2.1 15 = .ok (.invokestatic 71, 3) := by decide +kernel
theorem dc_X9_keepIn_18 : decode mX9_keepIn.2.1 18 = .ok (.ifCond .ne 10, 3) := by decide +kernel
theorem dc_X9_keepIn_21 : decode mX9_keepIn.2.1 21 = .ok (.aload_n 0, 1) := by decide +kernel
theorem dc_X9_keepIn_22 : decode mX9_keepIn.2.1 22 = .ok (.ldc 60, 2) := by decide +kernel
theorem dc_X9_keepIn_24 : decode mX9_keepIn.2.1 24 = .ok (.invokevirtual 66, 3) := by decide +kernel
theorem dc_X9_keepIn_27 : decode mX9_keepIn.2.1 27 = .ok (.ireturn, 1) := by decide +kernel
theorem dc_X9_keepIn_28 : decode mX9_keepIn.2.1 28 = .ok (.iconst (-1), 1) := by decide +kernel
theorem dc_X9_keepIn_29 : decode mX9_keepIn.2.1 29 = .ok (.istore_n 3, 1) := by decide +kernel
theorem dc_X9_keepIn_30 : decode mX9_keepIn.2.1 30 = .ok (.iconst 1, 1) := by decide +kernel
theorem dc_X9_keepIn_31 : decode mX9_keepIn.2.1 31 = .ok (.aload_n 0, 1) := by decide +kernel
theorem dc_X9_keepIn_32 : decode mX9_keepIn.2.1 32 = .ok (.getfield 9, 3) := by decide +kernel
theorem dc_X9_keepIn_35 : decode mX9_keepIn.2.1 35 = .ok (.iconst 1, 1) := by decide +kernel
theorem dc_X9_keepIn_36 : decode mX9_keepIn.2.1 36 = .ok (.iaload, 1) := by decide +kernel
theorem dc_X9_keepIn_37 : decode mX9_keepIn.2.1 37 = .ok (.ishl, 1) := by decide +kernel
theorem dc_X9_keepIn_38 : decode mX9_keepIn.2.1 38 = .ok (.iconst 1, 1) := by decide +kernel
theorem dc_X9_keepIn_39 : decode mX9_keepIn.2.1 39 = .ok (.isub, 1) := by decide +kernel
theorem dc_X9_keepIn_40 : decode mX9_keepIn.2.1 40 = .ok (.istore 4, 2) := by decide +kernel
theorem dc_X9_keepIn_42 : decode mX9_keepIn.2.1 42 = .ok (.iload 4, 2) := by decide +kernel
theorem dc_X9_keepIn_44 : decode mX9_keepIn.2.1 44 = .ok (.ifCond .lt 43, 3) := by decide +kernel
theorem dc_X9_keepIn_47 : decode mX9_keepIn.2.1 47 = .ok (.aload_n 0, 1) := by decide +kernel
theorem dc_X9_keepIn_48 : decode mX9_keepIn.2.1 48 = .ok (.iload 4, 2) := by decide +kernel
theorem dc_X9_keepIn_50 : decode mX9_keepIn.2.1 50 = .ok (.iload_n 1, 1) := by decide +kernel
theorem dc_X9_keepIn_51 : decode mX9_keepIn.2.1 51 = .ok (.iload_n 2, 1) := by decide +kernel
theorem dc_X9_keepIn_52 : decode mX9_keepIn.2.1 52 = .ok (.invokevirtual 190, 3) := by decide +kernel
theorem dc_X9_keepIn_55 : decode mX9_keepIn.2.1 55 = .ok (.ifCond .eq 24, 3) := by decide +kernel
theorem dc_X9_keepIn_58 : decode mX9_keepIn.2.1 58 = .ok (.iload_n 3, 1) := by decide +kernel
theorem dc_X9_keepIn_59 : decode mX9_keepIn.2.1 59 = .ok (.ifCond .lt 15, 3) := by decide +kernel
theorem dc_X9_keepIn_62 : decode mX9_keepIn.2.1 62 = .ok (.iload 4, 2) := by decide +kernel
theorem dc_X9_keepIn_64 : decode mX9_keepIn.2.1 64 = .ok (.invokestatic 132, 3) := by decide +kernel
theorem dc_X9_keepIn_67 : decode mX9_keepIn.2.1 67 = .ok (.iload_n 3, 1) := by decide +kernel
theorem dc_X9_keepIn_68 : decode mX9_keepIn.2.1 68 = .ok (.invokestatic 132, 3) := by decide +kernel
theorem dc_X9_keepIn_71 : decode mX9_keepIn.2.1 71 = .ok (.if_icmp .gt 8, 3) := by decide +kernel
theorem dc_X9_keepIn_74 : decode mX9_keepIn.2.1 74 = .ok (.iload 4, 2) := by decide +kernel
theorem dc_X9_keepIn_76 : decode mX9_keepIn.2.1 76 = .ok (.goto 4, 3) := by decide +kernel
theorem dc_X9_keepIn_79 : decode mX9_keepIn.2.1 79 = .ok (.iload_n 3, 1) := by decide +kernel
theorem dc_X9_keepIn_80 : decode mX9_keepIn.2.1 80 = .ok (.istore_n 3, 1) := by decide +kernel
theorem dc_X9_keepIn_81 : decode mX9_keepIn.2.1 81 = .ok (.iinc 4 (-1), 3) := by decide +kernel
theorem dc_X9_keepIn_84 : decode mX9_keepIn.2.1 84 = .ok (.goto (-42), 3) := by decide +kernel
theorem dc_X9_keepIn_87 : decode mX9_keepIn.2.1 87 = .ok (.aload_n 0, 1) := by decide +kernel
theorem dc_X9_keepIn_88 : decode mX9_keepIn.2.1 88 = .ok (.iload_n 3, 1) := by decide +kernel
theorem dc_X9_keepIn_89 : decode mX9_keepIn.2.1 89 = .ok (.invokevirtual 174, 3) := by decide +kernel
theorem dc_X9_keepIn_92 : decode mX9_keepIn.2.1 92 = .ok (.ireturn, 1) := by decide +kernel
theorem dc_X9_lacks_0 : decode mX9_lacks.2.1 0 = .ok (.iload_n 1, 1) := by decide +kernel
theorem dc_X9_lacks_1 : decode mX9_lacks.2.1 1 = .ok (.invokestatic 193, 3) := by decide +kernel
theorem dc_X9_lacks_4 : decode mX9_lacks.2.1 4 = .ok (.ifCond .ne 8, 3) := by decide +kernel
theorem dc_X9_lacks_7 : decode mX9_lacks.2.1 7 = .ok (.ldc 60, 2) := by decide +kernel
theorem dc_X9_lacks_9 : decode mX9_lacks.2.1 9 = .ok (.goto 27, 3) := by decide +kernel
theorem dc_X9_lacks_12 : decode mX9_lacks.2.1 12 = .ok (.aload_n 0, 1) := by decide +kernel
theorem dc_X9_lacks_13 : decode mX9_lacks.2.1 13 = .ok (.getfield 48, 3) := by decide +kernel
theorem dc_X9_lacks_16 : decode mX9_lacks.2.1 16 = .ok (.iload_n 1, 1) := by decide +kernel
theorem dc_X9_lacks_17 : decode mX9_lacks.2.1 17 = .ok (.iaload, 1) := by decide +kernel
theorem dc_X9_lacks_18 : decode mX9_lacks.2.1 18 = .ok (.ifCond .ne 8, 3) := by decide +kernel
theorem dc_X9_lacks_21 : decode mX9_lacks.2.1 21 = .ok (.ldc 196, 2) := by decide +kernel
theorem dc_X9_lacks_23 : decode mX9_lacks.2.1 23 = .ok (.goto 13, 3) := by decide +kernel
theorem dc_X9_lacks_26 : decode mX9_lacks.2.1 26 = .ok (.iload_n 2, 1) := by decide +kernel
theorem dc_X9_lacks_27 : decode mX9_lacks.2.1 27 = .ok (.ifCond .eq 7, 3) := by decide +kernel
theorem dc_X9_lacks_30 : decode mX9_lacks.2.1 30 = .ok (.iconst 0, 1) := by decide +kernel
theorem dc_X9_lacks_31 : decode mX9_lacks.2.1 31 = .ok (.goto 5, 3) := by decide +kernel
theorem dc_X9_lacks_34 : decode mX9_lacks.2.1 34 = .ok (.ldc 60, 2) := by decide +kernel
theorem dc_X9_lacks_36 : decode mX9_lacks.2.1 36 = .ok (.ireturn, 1) := by decide +kernel
theorem dc_X9_isShownSo_0 : decode mX9_isShownSo.2.1 0 = .ok (.aload_n 0, 1) := by decide +kernel
theorem dc_X9_isShownSo_1 : decode mX9_isShownSo.2.1 1 = .ok (.getfield 9, 3) := by decide +kernel
theorem dc_X9_isShownSo_4 : decode mX9_isShownSo.2.1 4 = .ok (.bipush 6, 2) := by decide +kernel
theorem dc_X9_isShownSo_6 : decode mX9_isShownSo.2.1 6 = .ok (.iaload, 1) := by decide +kernel
theorem dc_X9_isShownSo_7 : decode mX9_isShownSo.2.1 7 = .ok (.istore 4, 2) := by decide +kernel
theorem dc_X9_isShownSo_9 : decode mX9_isShownSo.2.1 9 = .ok (.iconst 1, 1) := by decide +kernel
theorem dc_X9_isShownSo_10 : decode mX9_isShownSo.2.1 10 = .ok (.istore 5, 2) := by decide +kernel
theorem dc_X9_isShownSo_12 : decode mX9_isShownSo.2.1 12 = .ok (.iconst 0, 1) := by decide +kernel
theorem dc_X9_isShownSo_13 : decode mX9_isShownSo.2.1 13 = .ok (.istore 6, 2) := by decide +kernel
theorem dc_X9_isShownSo_15 : decode mX9_isShownSo.2.1 15 = .ok (.iload 6, 2) := by decide +kernel
theorem dc_X9_isShownSo_17 : decode mX9_isShownSo.2.1 17 = .ok (.aload_n 0, 1) := by decide +kernel
theorem dc_X9_isShownSo_18 : decode mX9_isShownSo.2.1 18 = .ok (.getfield 51, 3) := by decide +kernel
theorem dc_X9_isShownSo_21 : decode mX9_isShownSo.2.1 21 = .ok (.iload_n 1, 1) := by decide +kernel
theorem dc_X9_isShownSo_22 : decode mX9_isShownSo.2.1 22 = .ok (.iaload, 1) := by decide +kernel
theorem dc_X9_isShownSo_23 : decode mX9_isShownSo.2.1 23 = .ok (.if_icmp .ge 97, 3) := by decide +kernel
theorem dc_X9_isShownSo_26 : decode mX9_isShownSo.2.1 26 = .ok (.iload 5, 2) := by decide +kernel
theorem dc_X9_isShownSo_28 : decode mX9_isShownSo.2.1 28 = .ok (.ifCond .eq 92, 3) := by decide +kernel
theorem dc_X9_isShownSo_31 : decode mX9_isShownSo.2.1 31 = .ok (.iload_n 2, 1) := by decide +kernel
theorem dc_X9_isShownSo_32 : decode mX9_isShownSo.2.1 32 = .ok (.aload_n 0, 1) := by decide +kernel
theorem dc_X9_isShownSo_33 : decode mX9_isShownSo.2.1 33 = .ok (.getfield 9, 3) := by decide +kernel
theorem dc_X9_isShownSo_36 : decode mX9_isShownSo.2.1 36 = .ok (.iconst 0, 1) := by decide +kernel
theorem dc_X9_isShownSo_37 : decode mX9_isShownSo.2.1 37 = .ok (.iaload, 1) := by decide +kernel
theorem dc_X9_isShownSo_38 : decode mX9_isShownSo.2.1 38 = .ok (.iload 6, 2) := by decide +kernel
theorem dc_X9_isShownSo_40 : decode mX9_isShownSo.2.1 40 = .ok (.iadd, 1) := by decide +kernel
theorem dc_X9_isShownSo_41 : decode mX9_isShownSo.2.1 41 = .ok (.bipush 12, 2) := by decide +kernel
theorem dc_X9_isShownSo_43 : decode mX9_isShownSo.2.1 43 = .ok (.irem, 1) := by decide +kernel
theorem dc_X9_isShownSo_44 : decode mX9_isShownSo.2.1 44 = .ok (.ishr, 1) := by decide +kernel
theorem dc_X9_isShownSo_45 : decode mX9_isShownSo.2.1 45 = .ok (.iconst 1, 1) := by decide +kernel
theorem dc_X9_isShownSo_46 : decode mX9_isShownSo.2.1 46 = .ok (.iand, 1) := by decide +kernel
theorem dc_X9_isShownSo_47 : decode mX9_isShownSo.2.1 47 = .ok (.istore 7, 2) := by decide +kernel
theorem dc_X9_isShownSo_49 : decode mX9_isShownSo.2.1 49 = .ok (.iload 4, 2) := by decide +kernel
theorem dc_X9_isShownSo_51 : decode mX9_isShownSo.2.1 51 = .ok (.iconst 2, 1) := by decide +kernel
theorem dc_X9_isShownSo_52 : decode mX9_isShownSo.2.1 52 = .ok (.imul, 1) := by decide +kernel
theorem dc_X9_isShownSo_53 : decode mX9_isShownSo.2.1 53 = .ok (.iload 7, 2) := by decide +kernel
theorem dc_X9_isShownSo_55 : decode mX9_isShownSo.2.1 55 = .ok (.iadd, 1) := by decide +kernel
theorem dc_X9_isShownSo_56 : decode mX9_isShownSo.2.1 56 = .ok (.ldc 86, 2) := by decide +kernel
theorem dc_X9_isShownSo_58 : decode mX9_isShownSo.2.1 58 = .ok (.irem, 1) := by decide +kernel
theorem dc_X9_isShownSo_59 : decode mX9_isShownSo.2.1 59 = .ok (.istore 4, 2) := by decide +kernel
theorem dc_X9_isShownSo_61 : decode mX9_isShownSo.2.1 61 = .ok (.aload_n 0, 1) := by decide +kernel
theorem dc_X9_isShownSo_62 : decode mX9_isShownSo.2.1 62 = .ok (.getfield 54, 3) := by decide +kernel
theorem dc_X9_isShownSo_65 : decode mX9_isShownSo.2.1 65 = .ok (.bipush 40, 2) := by decide +kernel
theorem dc_X9_isShownSo_67 : decode mX9_isShownSo.2.1 67 = .ok (.iload_n 1, 1) := by decide +kernel
theorem dc_X9_isShownSo_68 : decode mX9_isShownSo.2.1 68 = .ok (.imul, 1) := by decide +kernel
theorem dc_X9_isShownSo_69 : decode mX9_isShownSo.2.1 69 = .ok (.iload 6, 2) := by decide +kernel
theorem dc_X9_isShownSo_71 : decode mX9_isShownSo.2.1 71 = .ok (.iadd, 1) := by decide +kernel
theorem dc_X9_isShownSo_72 : decode mX9_isShownSo.2.1 72 = .ok (.iaload, 1) := by decide +kernel
theorem dc_X9_isShownSo_73 : decode mX9_isShownSo.2.1 73 = .ok (.istore 8, 2) := by decide +kernel
theorem dc_X9_isShownSo_75 : decode mX9_isShownSo.2.1 75 = .ok (.iload 8, 2) := by decide +kernel
theorem dc_X9_isShownSo_77 : decode mX9_isShownSo.2.1 77 = .ok (.iconst (-1), 1) := by decide +kernel
theorem dc_X9_isShownSo_78 : decode mX9_isShownSo.2.1 78 = .ok (.if_icmp .eq 29, 3) := by decide +kernel
theorem dc_X9_isShownSo_81 : decode mX9_isShownSo.2.1 81 = .ok (.iload 8, 2) := by decide +kernel
theorem dc_X9_isShownSo_83 : decode mX9_isShownSo.2.1 83 = .ok (.aload_n 0, 1) := by decide +kernel
theorem dc_X9_isShownSo_84 : decode mX9_isShownSo.2.1 84 = .ok (.getfield 9, 3) := by decide +kernel
theorem dc_X9_isShownSo_87 : decode mX9_isShownSo.2.1 87 = .ok (.iconst 5, 1) := by decide +kernel
theorem dc_X9_isShownSo_88 : decode mX9_isShownSo.2.1 88 = .ok (.iaload, 1) := by decide +kernel
theorem dc_X9_isShownSo_89 : decode mX9_isShownSo.2.1 89 = .ok (.iconst 1, 1) := by decide +kernel
theorem dc_X9_isShownSo_90 : decode mX9_isShownSo.2.1 90 = .ok (.if_icmp .ne 12, 3) := by decide +kernel
theorem dc_X9_isShownSo_93 : decode mX9_isShownSo.2.1 93 = .ok (.iload 4, 2) := by decide +kernel
theorem dc_X9_isShownSo_95 : decode mX9_isShownSo.2.1 95 = .ok (.iload_n 3, 1) := by decide +kernel
theorem dc_X9_isShownSo_96 : decode mX9_isShownSo.2.1 96 = .ok (.ishr, 1) := by decide +kernel
theorem dc_X9_isShownSo_97 : decode mX9_isShownSo.2.1 97 = .ok (.iconst 1, 1) := by decide +kernel
theorem dc_X9_isShownSo_98 : decode mX9_isShownSo.2.1 98 = .ok (.iand, 1) := by decide +kernel
theorem dc_X9_isShownSo_99 : decode mX9_isShownSo.2.1 99 = .ok (.goto 5, 3) := by decide +kernel
theorem dc_X9_isShownSo_102 : decode mX9_isShownSo.2.1 102 = .ok (.iload 7, 2) := by decide +kernel
theorem dc_X9_isShownSo_104 : decode mX9_isShownSo.2.1 104 = .ok (.if_icmp .ne 7, 3) := by decide +kernel
theorem dc_X9_isShownSo_107 : decode mX9_isShownSo.2.1 107 = .ok (.iconst 1, 1) := by decide +kernel
theorem dc_X9_isShownSo_108 : decode mX9_isShownSo.2.1 108 = .ok (.goto 4, 3) := by decide +kernel
theorem dc_X9_isShownSo_111 : decode mX9_isShownSo.2.1 111 = .ok (.iconst 0, 1) := by decide +kernel
theorem dc_X9_isShownSo_112 : decode mX9_isShownSo.2.1 112 = .ok (.istore 5, 2) := by decide +kernel
theorem dc_X9_isShownSo_114 : decode mX9_isShownSo.2.1 114 = .ok (.iinc 6 1, 3) := by decide +kernel
theorem dc_X9_isShownSo_117 : decode mX9_isShownSo.2.1 117 = .ok (.goto (-102), 3) := by decide +kernel
theorem dc_X9_isShownSo_120 : decode mX9_isShownSo.2.1 120 = .ok (.iload 5, 2) := by decide +kernel
theorem dc_X9_isShownSo_122 : decode mX9_isShownSo.2.1 122 = .ok (.ireturn, 1) := by decide +kernel
theorem dc_X9_lags_0 : decode mX9_lags.2.1 0 = .ok (.aload_n 0, 1) := by decide +kernel
theorem dc_X9_lags_1 : decode mX9_lags.2.1 1 = .ok (.iload_n 1, 1) := by decide +kernel
theorem dc_X9_lags_2 : decode mX9_lags.2.1 2 = .ok (.iconst 1, 1) := by decide +kernel
theorem dc_X9_lags_3 : decode mX9_lags.2.1 3 = .ok (.invokevirtual 197, 3) := by decide +kernel
theorem dc_X9_lags_6 : decode mX9_lags.2.1 6 = .ok (.ifCond .eq 14, 3) := by decide +kernel
theorem dc_X9_lags_9 : decode mX9_lags.2.1 9 = .ok (.aload_n 0, 1) := by decide +kernel
theorem dc_X9_lags_10 : decode mX9_lags.2.1 10 = .ok (.aload_n 0, 1) := by decide +kernel
theorem dc_X9_lags_11 : decode mX9_lags.2.1 11 = .ok (.iload_n 1, 1) := by decide +kernel
theorem dc_X9_lags_12 : decode mX9_lags.2.1 12 = .ok (.iconst 1, 1) := by decide +kernel
theorem dc_X9_lags_13 : decode mX9_lags.2.1 13 = .ok (.invokevirtual 197, 3) := by decide +kernel
theorem dc_X9_lags_16 : decode mX9_lags.2.1 16 = .ok (.invokevirtual 66, 3) := by decide +kernel
theorem dc_X9_lags_19 : decode mX9_lags.2.1 19 = .ok (.ireturn, 1) := by decide +kernel
theorem dc_X9_lags_20 : decode mX9_lags.2.1 20 = .ok (.iconst 0, 1) := by decide +kernel
theorem dc_X9_lags_21 : decode mX9_lags.2.1 21 = .ok (.istore_n 2, 1) := by decide +kernel
theorem dc_X9_lags_22 : decode mX9_lags.2.1 22 = .ok (.iconst 0, 1) := by decide +kernel
theorem dc_X9_lags_23 : decode mX9_lags.2.1 23 = .ok (.istore_n 3, 1) := by decide +kernel
theorem dc_X9_lags_24 : decode mX9_lags.2.1 24 = .ok (.iload_n 3, 1) := by decide +kernel
theorem dc_X9_lags_25 : decode mX9_lags.2.1 25 = .ok (.bipush 24, 2) := by decide +kernel
theorem dc_X9_lags_27 : decode mX9_lags.2.1 27 = .ok (.if_icmp .ge 34, 3) := by decide +kernel
theorem dc_X9_lags_30 : decode mX9_lags.2.1 30 = .ok (.iload_n 2, 1) := by decide +kernel
theorem dc_X9_lags_31 : decode mX9_lags.2.1 31 = .ok (.aload_n 0, 1) := by decide +kernel
theorem dc_X9_lags_32 : decode mX9_lags.2.1 32 = .ok (.iload_n 1, 1) := by decide +kernel
theorem dc_X9_lags_33 : decode mX9_lags.2.1 33 = .ok (.aload_n 0, 1) := by decide +kernel
theorem dc_X9_lags_34 : decode mX9_lags.2.1 34 = .ok (.getfield 9, 3) := by decide +kernel
theorem dc_X9_lags_37 : decode mX9_lags.2.1 37 = .ok (.iconst 3, 1) := by decide +kernel
theorem dc_X9_lags_38 : decode mX9_lags.2.1 38 = .ok (.iaload, 1) := by decide +kernel
theorem dc_X9_lags_39 : decode mX9_lags.2.1 39 = .ok (.iload_n 3, 1) := by decide +kernel
theorem dc_X9_lags_40 : decode mX9_lags.2.1 40 = .ok (.invokevirtual 201, 3) := by decide +kernel
theorem dc_X9_lags_43 : decode mX9_lags.2.1 43 = .ok (.ifCond .eq 9, 3) := by decide +kernel
theorem dc_X9_lags_46 : decode mX9_lags.2.1 46 = .ok (.iconst 1, 1) := by decide +kernel
theorem dc_X9_lags_47 : decode mX9_lags.2.1 47 = .ok (.iload_n 3, 1) := by decide +kernel
theorem dc_X9_lags_48 : decode mX9_lags.2.1 48 = .ok (.ishl, 1) := by decide +kernel
theorem dc_X9_lags_49 : decode mX9_lags.2.1 49 = .ok (.goto 4, 3) := by decide +kernel
theorem dc_X9_lags_52 : decode mX9_lags.2.1 52 = .ok (.iconst 0, 1) := by decide +kernel
theorem dc_X9_lags_53 : decode mX9_lags.2.1 53 = .ok (.ior, 1) := by decide +kernel
theorem dc_X9_lags_54 : decode mX9_lags.2.1 54 = .ok (.istore_n 2, 1) := by decide +kernel
theorem dc_X9_lags_55 : decode mX9_lags.2.1 55 = .ok (.iinc 3 1, 3) := by decide +kernel
theorem dc_X9_lags_58 : decode mX9_lags.2.1 58 = .ok (.goto (-34), 3) := by decide +kernel
theorem dc_X9_lags_61 : decode mX9_lags.2.1 61 = .ok (.iload_n 2, 1) := by decide +kernel
theorem dc_X9_lags_62 : decode mX9_lags.2.1 62 = .ok (.ireturn, 1) := by decide +kernel
theorem dc_X9_fits_0 : decode mX9_fits.2.1 0 = .ok (.aload_n 0, 1) := by decide +kernel
theorem dc_X9_fits_1 : decode mX9_fits.2.1 1 = .ok (.iload_n 1, 1) := by decide +kernel
theorem dc_X9_fits_2 : decode mX9_fits.2.1 2 = .ok (.iconst 1, 1) := by decide +kernel
theorem dc_X9_fits_3 : decode mX9_fits.2.1 3 = .ok (.invokevirtual 197, 3) := by decide +kernel
theorem dc_X9_fits_6 : decode mX9_fits.2.1 6 = .ok (.ifCond .eq 14, 3) := by decide +kernel
theorem dc_X9_fits_9 : decode mX9_fits.2.1 9 = .ok (.aload_n 0, 1) := by decide +kernel
theorem dc_X9_fits_10 : decode mX9_fits.2.1 10 = .ok (.aload_n 0, 1) := by decide +kernel
theorem dc_X9_fits_11 : decode mX9_fits.2.1 11 = .ok (.iload_n 1, 1) := by decide +kernel
theorem dc_X9_fits_12 : decode mX9_fits.2.1 12 = .ok (.iconst 1, 1) := by decide +kernel
theorem dc_X9_fits_13 : decode mX9_fits.2.1 13 = .ok (.invokevirtual 197, 3) := by decide +kernel
theorem dc_X9_fits_16 : decode mX9_fits.2.1 16 = .ok (.invokevirtual 66, 3) := by decide +kernel
theorem dc_X9_fits_19 : decode mX9_fits.2.1 19 = .ok (.ireturn, 1) := by decide +kernel
theorem dc_X9_fits_20 : decode mX9_fits.2.1 20 = .ok (.iconst 0, 1) := by decide +kernel
theorem dc_X9_fits_21 : decode mX9_fits.2.1 21 = .ok (.istore_n 2, 1) := by decide +kernel
theorem dc_X9_fits_22 : decode mX9_fits.2.1 22 = .ok (.iconst 0, 1) := by decide +kernel
theorem dc_X9_fits_23 : decode mX9_fits.2.1 23 = .ok (.istore_n 3, 1) := by decide +kernel
theorem dc_X9_fits_24 : decode mX9_fits.2.1 24 = .ok (.iload_n 3, 1) := by decide +kernel
theorem dc_X9_fits_25 : decode mX9_fits.2.1 25 = .ok (.sipush 4096, 3) := by decide +kernel
theorem dc_X9_fits_28 : decode mX9_fits.2.1 28 = .ok (.if_icmp .ge 32, 3) := by decide +kernel
theorem dc_X9_fits_31 : decode mX9_fits.2.1 31 = .ok (.iload_n 2, 1) := by decide +kernel
theorem dc_X9_fits_32 : decode mX9_fits.2.1 32 = .ok (.aload_n 0, 1) := by decide +kernel
theorem dc_X9_fits_33 : decode mX9_fits.2.1 33 = .ok (.iload_n 1, 1) := by decide +kernel
theorem dc_X9_fits_34 : decode mX9_fits.2.1 34 = .ok (.iload_n 3, 1) := by decide +kernel
theorem dc_X9_fits_35 : decode mX9_fits.2.1 35 = .ok (.aload_n 0, 1) := by decide +kernel
theorem dc_X9_fits_36 : decode mX9_fits.2.1 36 = .ok (.getfield 9, 3) := by decide +kernel
theorem dc_X9_fits_39 : decode mX9_fits.2.1 39 = .ok (.iconst 4, 1) := by decide +kernel
theorem dc_X9_fits_40 : decode mX9_fits.2.1 40 = .ok (.iaload, 1) := by decide +kernel
theorem dc_X9_fits_41 : decode mX9_fits.2.1 41 = .ok (.invokevirtual 201, 3) := by decide +kernel
theorem dc_X9_fits_44 : decode mX9_fits.2.1 44 = .ok (.ifCond .eq 7, 3) := by decide +kernel
theorem dc_X9_fits_47 : decode mX9_fits.2.1 47 = .ok (.iconst 1, 1) := by decide +kernel
theorem dc_X9_fits_48 : decode mX9_fits.2.1 48 = .ok (.goto 4, 3) := by decide +kernel
theorem dc_X9_fits_51 : decode mX9_fits.2.1 51 = .ok (.iconst 0, 1) := by decide +kernel
theorem dc_X9_fits_52 : decode mX9_fits.2.1 52 = .ok (.iadd, 1) := by decide +kernel
theorem dc_X9_fits_53 : decode mX9_fits.2.1 53 = .ok (.istore_n 2, 1) := by decide +kernel
theorem dc_X9_fits_54 : decode mX9_fits.2.1 54 = .ok (.iinc 3 1, 3) := by decide +kernel
theorem dc_X9_fits_57 : decode mX9_fits.2.1 57 = .ok (.goto (-33), 3) := by decide +kernel
theorem dc_X9_fits_60 : decode mX9_fits.2.1 60 = .ok (.iload_n 2, 1) := by decide +kernel
theorem dc_X9_fits_61 : decode mX9_fits.2.1 61 = .ok (.ireturn, 1) := by decide +kernel
theorem dc_X9_pattern_0 : decode mX9_pattern.2.1 0 = .ok (.aload_n 0, 1) := by decide +kernel
theorem dc_X9_pattern_1 : decode mX9_pattern.2.1 1 = .ok (.iload_n 1, 1) := by decide +kernel
theorem dc_X9_pattern_2 : decode mX9_pattern.2.1 2 = .ok (.iconst 1, 1) := by decide +kernel
theorem dc_X9_pattern_3 : decode mX9_pattern.2.1 3 = .ok (.invokevirtual 197, 3) := by decide +kernel
theorem dc_X9_pattern_6 : decode mX9_pattern.2.1 6 = .ok (.ifCond .eq 14, 3) := by decide +kernel
theorem dc_X9_pattern_9 : decode mX9_pattern.2.1 9 = .ok (.aload_n 0, 1) := by decide +kernel
theorem dc_X9_pattern_10 : decode mX9_pattern.2.1 10 = .ok (.aload_n 0, 1) := by decide +kernel
theorem dc_X9_pattern_11 : decode mX9_pattern.2.1 11 = .ok (.iload_n 1, 1) := by decide +kernel
theorem dc_X9_pattern_12 : decode mX9_pattern.2.1 12 = .ok (.iconst 1, 1) := by decide +kernel
theorem dc_X9_pattern_13 : decode mX9_pattern.2.1 13 = .ok (.invokevirtual 197, 3) := by decide +kernel
theorem dc_X9_pattern_16 : decode mX9_pattern.2.1 16 = .ok (.invokevirtual 66, 3) := by decide +kernel
theorem dc_X9_pattern_19 : decode mX9_pattern.2.1 19 = .ok (.ireturn, 1) := by decide +kernel
theorem dc_X9_pattern_20 : decode mX9_pattern.2.1 20 = .ok (.iconst 0, 1) := by decide +kernel
theorem dc_X9_pattern_21 : decode mX9_pattern.2.1 21 = .ok (.istore_n 2, 1) := by decide +kernel
theorem dc_X9_pattern_22 : decode mX9_pattern.2.1 22 = .ok (.iload_n 2, 1) := by decide +kernel
theorem dc_X9_pattern_23 : decode mX9_pattern.2.1 23 = .ok (.sipush 4096, 3) := by decide +kernel
theorem dc_X9_pattern_26 : decode mX9_pattern.2.1 26 = .ok (.if_icmp .ge 24, 3) := by decide +kernel
theorem dc_X9_pattern_29 : decode mX9_pattern.2.1 29 = .ok (.aload_n 0, 1) := by decide +kernel
theorem dc_X9_pattern_30 : decode mX9_pattern.2.1 30 = .ok (.iload_n 1, 1) := by decide +kernel
theorem dc_X9_pattern_31 : decode mX9_pattern.2.1 31 = .ok (.iload_n 2, 1) := by decide +kernel
theorem dc_X9_pattern_32 : decode mX9_pattern.2.1 32 = .ok (.aload_n 0, 1) := by decide +kernel
theorem dc_X9_pattern_33 : decode mX9_pattern.2.1 33 = .ok (.getfield 9, 3) := by decide +kernel
theorem dc_X9_pattern_36 : decode mX9_pattern.2.1 36 = .ok (.iconst 4, 1) := by decide +kernel
theorem dc_X9_pattern_37 : decode mX9_pattern.2.1 37 = .ok (.iaload, 1) := by decide +kernel
theorem dc_X9_pattern_38 : decode mX9_pattern.2.1 38 = .ok (.invokevirtual 201, 3) := by decide +kernel
theorem dc_X9_pattern_41 : decode mX9_pattern.2.1 41 = .ok (.ifCond .ne 9, 3) := by decide +kernel
theorem dc_X9_pattern_44 : decode mX9_pattern.2.1 44 = .ok (.iinc 2 1, 3) := by decide +kernel
theorem dc_X9_pattern_47 : decode mX9_pattern.2.1 47 = .ok (.goto (-25), 3) := by decide +kernel
theorem dc_X9_pattern_50 : decode mX9_pattern.2.1 50 = .ok (.aload_n 0, 1) := by decide +kernel
theorem dc_X9_pattern_51 : decode mX9_pattern.2.1 51 = .ok (.iload_n 2, 1) := by decide +kernel
theorem dc_X9_pattern_52 : decode mX9_pattern.2.1 52 = .ok (.sipush 4096, 3) := by decide +kernel
theorem dc_X9_pattern_55 : decode mX9_pattern.2.1 55 = .ok (.if_icmp .ge 7, 3) := by decide +kernel
theorem dc_X9_pattern_58 : decode mX9_pattern.2.1 58 = .ok (.iload_n 2, 1) := by decide +kernel
theorem dc_X9_pattern_59 : decode mX9_pattern.2.1 59 = .ok (.goto 4, 3) := by decide +kernel
theorem dc_X9_pattern_62 : decode mX9_pattern.2.1 62 = .ok (.iconst (-1), 1) := by decide +kernel
theorem dc_X9_pattern_63 : decode mX9_pattern.2.1 63 = .ok (.invokevirtual 174, 3) := by decide +kernel
theorem dc_X9_pattern_66 : decode mX9_pattern.2.1 66 = .ok (.ireturn, 1) := by decide +kernel
theorem dc_X9_isWaySo_0 : decode mX9_isWaySo.2.1 0 = .ok (.aload_n 0, 1) := by decide +kernel
theorem dc_X9_isWaySo_1 : decode mX9_isWaySo.2.1 1 = .ok (.getfield 9, 3) := by decide +kernel
theorem dc_X9_isWaySo_4 : decode mX9_isWaySo.2.1 4 = .ok (.aload_n 0, 1) := by decide +kernel
theorem dc_X9_isWaySo_5 : decode mX9_isWaySo.2.1 5 = .ok (.getfield 16, 3) := by decide +kernel
theorem dc_X9_isWaySo_8 : decode mX9_isWaySo.2.1 8 = .ok (.invokestatic 61, 3) := by decide +kernel
theorem dc_X9_isWaySo_11 : decode mX9_isWaySo.2.1 11 = .ok (.iconst 1, 1) := by decide +kernel
theorem dc_X9_isWaySo_12 : decode mX9_isWaySo.2.1 12 = .ok (.istore_n 3, 1) := by decide +kernel
theorem dc_X9_isWaySo_13 : decode mX9_isWaySo.2.1 13 = .ok (.iconst 0, 1) := by decide +kernel
theorem dc_X9_isWaySo_14 : decode mX9_isWaySo.2.1 14 = .ok (.istore 4, 2) := by decide +kernel
theorem dc_X9_isWaySo_16 : decode mX9_isWaySo.2.1 16 = .ok (.iload 4, 2) := by decide +kernel
theorem dc_X9_isWaySo_18 : decode mX9_isWaySo.2.1 18 = .ok (.aload_n 0, 1) := by decide +kernel
theorem dc_X9_isWaySo_19 : decode mX9_isWaySo.2.1 19 = .ok (.getfield 51, 3) := by decide +kernel
theorem dc_X9_isWaySo_22 : decode mX9_isWaySo.2.1 22 = .ok (.iload_n 1, 1) := by decide +kernel
theorem dc_X9_isWaySo_23 : decode mX9_isWaySo.2.1 23 = .ok (.iaload, 1) := by decide +kernel
theorem dc_X9_isWaySo_24 : decode mX9_isWaySo.2.1 24 = .ok (.if_icmp .ge 54, 3) := by decide +kernel
theorem dc_X9_isWaySo_27 : decode mX9_isWaySo.2.1 27 = .ok (.iload_n 3, 1) := by decide +kernel
theorem dc_X9_isWaySo_28 : decode mX9_isWaySo.2.1 28 = .ok (.ifCond .eq 50, 3) := by decide +kernel
theorem dc_X9_isWaySo_31 : decode mX9_isWaySo.2.1 31 = .ok (.aload_n 0, 1) := by decide +kernel
theorem dc_X9_isWaySo_32 : decode mX9_isWaySo.2.1 32 = .ok (.getfield 54, 3) := by decide +kernel
theorem dc_X9_isWaySo_35 : decode mX9_isWaySo.2.1 35 = .ok (.bipush 40, 2) := by decide +kernel
theorem dc_X9_isWaySo_37 : decode mX9_isWaySo.2.1 37 = .ok (.iload_n 1, 1) := by decide +kernel
theorem dc_X9_isWaySo_38 : decode mX9_isWaySo.2.1 38 = .ok (.imul, 1) := by decide +kernel
theorem dc_X9_isWaySo_39 : decode mX9_isWaySo.2.1 39 = .ok (.iload 4, 2) := by decide +kernel
theorem dc_X9_isWaySo_41 : decode mX9_isWaySo.2.1 41 = .ok (.iadd, 1) := by decide +kernel
theorem dc_X9_isWaySo_42 : decode mX9_isWaySo.2.1 42 = .ok (.iaload, 1) := by decide +kernel
theorem dc_X9_isWaySo_43 : decode mX9_isWaySo.2.1 43 = .ok (.istore 5, 2) := by decide +kernel
theorem dc_X9_isWaySo_45 : decode mX9_isWaySo.2.1 45 = .ok (.iload 5, 2) := by decide +kernel
theorem dc_X9_isWaySo_47 : decode mX9_isWaySo.2.1 47 = .ok (.iconst (-1), 1) := by decide +kernel
theorem dc_X9_isWaySo_48 : decode mX9_isWaySo.2.1 48 = .ok (.if_icmp .eq 14, 3) := by decide +kernel
theorem dc_X9_isWaySo_51 : decode mX9_isWaySo.2.1 51 = .ok (.iload 5, 2) := by decide +kernel
theorem dc_X9_isWaySo_53 : decode mX9_isWaySo.2.1 53 = .ok (.aload_n 0, 1) := by decide +kernel
theorem dc_X9_isWaySo_54 : decode mX9_isWaySo.2.1 54 = .ok (.iload_n 2, 1) := by decide +kernel
theorem dc_X9_isWaySo_55 : decode mX9_isWaySo.2.1 55 = .ok (.iconst 1, 1) := by decide +kernel
theorem dc_X9_isWaySo_56 : decode mX9_isWaySo.2.1 56 = .ok (.invokevirtual 107, 3) := by decide +kernel
theorem dc_X9_isWaySo_59 : decode mX9_isWaySo.2.1 59 = .ok (.if_icmp .ne 7, 3) := by decide +kernel
theorem dc_X9_isWaySo_62 : decode mX9_isWaySo.2.1 62 = .ok (.iconst 1, 1) := by decide +kernel
theorem dc_X9_isWaySo_63 : decode mX9_isWaySo.2.1 63 = .ok (.goto 4, 3) := by decide +kernel
theorem dc_X9_isWaySo_66 : decode mX9_isWaySo.2.1 66 = .ok (.iconst 0, 1) := by decide +kernel
theorem dc_X9_isWaySo_67 : decode mX9_isWaySo.2.1 67 = .ok (.istore_n 3, 1) := by decide +kernel
theorem dc_X9_isWaySo_68 : decode mX9_isWaySo.2.1 68 = .ok (.aload_n 0, 1) := by decide +kernel
theorem dc_X9_isWaySo_69 : decode mX9_isWaySo.2.1 69 = .ok (.invokevirtual 147, 3) := by decide +kernel
theorem dc_X9_isWaySo_72 : decode mX9_isWaySo.2.1 72 = .ok (.iinc 4 1, 3) := by decide +kernel
theorem dc_X9_isWaySo_75 : decode mX9_isWaySo.2.1 75 = .ok (.goto (-59), 3) := by decide +kernel
theorem dc_X9_isWaySo_78 : decode mX9_isWaySo.2.1 78 = .ok (.aload_n 0, 1) := by decide +kernel
theorem dc_X9_isWaySo_79 : decode mX9_isWaySo.2.1 79 = .ok (.getfield 16, 3) := by decide +kernel
theorem dc_X9_isWaySo_82 : decode mX9_isWaySo.2.1 82 = .ok (.aload_n 0, 1) := by decide +kernel
theorem dc_X9_isWaySo_83 : decode mX9_isWaySo.2.1 83 = .ok (.getfield 9, 3) := by decide +kernel
theorem dc_X9_isWaySo_86 : decode mX9_isWaySo.2.1 86 = .ok (.invokestatic 61, 3) := by decide +kernel
theorem dc_X9_isWaySo_89 : decode mX9_isWaySo.2.1 89 = .ok (.iload_n 3, 1) := by decide +kernel
theorem dc_X9_isWaySo_90 : decode mX9_isWaySo.2.1 90 = .ok (.ireturn, 1) := by decide +kernel
theorem dc_X9_kinds_0 : decode mX9_kinds.2.1 0 = .ok (.aload_n 0, 1) := by decide +kernel
theorem dc_X9_kinds_1 : decode mX9_kinds.2.1 1 = .ok (.iload_n 1, 1) := by decide +kernel
theorem dc_X9_kinds_2 : decode mX9_kinds.2.1 2 = .ok (.aload_n 0, 1) := by decide +kernel
theorem dc_X9_kinds_3 : decode mX9_kinds.2.1 3 = .ok (.iload_n 2, 1) := by decide +kernel
theorem dc_X9_kinds_4 : decode mX9_kinds.2.1 4 = .ok (.invokevirtual 113, 3) := by decide +kernel
theorem dc_X9_kinds_7 : decode mX9_kinds.2.1 7 = .ok (.invokevirtual 197, 3) := by decide +kernel
theorem dc_X9_kinds_10 : decode mX9_kinds.2.1 10 = .ok (.istore_n 3, 1) := by decide +kernel
theorem dc_X9_kinds_11 : decode mX9_kinds.2.1 11 = .ok (.iload_n 3, 1) := by decide +kernel
theorem dc_X9_kinds_12 : decode mX9_kinds.2.1 12 = .ok (.ifCond .eq 9, 3) := by decide +kernel
theorem dc_X9_kinds_15 : decode mX9_kinds.2.1 15 = .ok (.aload_n 0, 1) := by decide +kernel
theorem dc_X9_kinds_16 : decode mX9_kinds.2.1 16 = .ok (.iload_n 3, 1) := by decide +kernel
theorem dc_X9_kinds_17 : decode mX9_kinds.2.1 17 = .ok (.invokevirtual 66, 3) := by decide +kernel
theorem dc_X9_kinds_20 : decode mX9_kinds.2.1 20 = .ok (.ireturn, 1) := by decide +kernel
theorem dc_X9_kinds_21 : decode mX9_kinds.2.1 21 = .ok (.iload_n 2, 1) := by decide +kernel
theorem dc_X9_kinds_22 : decode mX9_kinds.2.1 22 = .ok (.iconst 0, 1) := by decide +kernel
theorem dc_X9_kinds_23 : decode mX9_kinds.2.1 23 = .ok (.invokestatic 93, 3) := by decide +kernel
theorem dc_X9_kinds_26 : decode mX9_kinds.2.1 26 = .ok (.istore 4, 2) := by decide +kernel
theorem dc_X9_kinds_28 : decode mX9_kinds.2.1 28 = .ok (.aload_n 0, 1) := by decide +kernel
theorem dc_X9_kinds_29 : decode mX9_kinds.2.1 29 = .ok (.getfield 9, 3) := by decide +kernel
theorem dc_X9_kinds_32 : decode mX9_kinds.2.1 32 = .ok (.iload 4, 2) := by decide +kernel
theorem dc_X9_kinds_34 : decode mX9_kinds.2.1 34 = .ok (.iaload, 1) := by decide +kernel
theorem dc_X9_kinds_35 : decode mX9_kinds.2.1 35 = .ok (.istore 5, 2) := by decide +kernel
theorem dc_X9_kinds_37 : decode mX9_kinds.2.1 37 = .ok (.iconst 0, 1) := by decide +kernel
theorem dc_X9_kinds_38 : decode mX9_kinds.2.1 38 = .ok (.istore 6, 2) := by decide +kernel
theorem dc_X9_kinds_40 : decode mX9_kinds.2.1 40 = .ok (.iconst 0, 1) := by decide +kernel
theorem dc_X9_kinds_41 : decode mX9_kinds.2.1 41 = .ok (.istore 7, 2) := by decide +kernel
theorem dc_X9_kinds_43 : decode mX9_kinds.2.1 43 = .ok (.iload 7, 2) := by decide +kernel
theorem dc_X9_kinds_45 : decode mX9_kinds.2.1 45 = .ok (.bipush 6, 2) := by decide +kernel
theorem dc_X9_kinds_47 : decode mX9_kinds.2.1 47 = .ok (.if_icmp .gt 40, 3) := by decide +kernel
theorem dc_X9_kinds_50 : decode mX9_kinds.2.1 50 = .ok (.aload_n 0, 1) := by decide +kernel
theorem dc_X9_kinds_51 : decode mX9_kinds.2.1 51 = .ok (.getfield 9, 3) := by decide +kernel
theorem dc_X9_kinds_54 : decode mX9_kinds.2.1 54 = .ok (.iload 4, 2) := by decide +kernel
theorem dc_X9_kinds_56 : decode mX9_kinds.2.1 56 = .ok (.iload 7, 2) := by decide +kernel
theorem dc_X9_kinds_58 : decode mX9_kinds.2.1 58 = .ok (.iastore, 1) := by decide +kernel
theorem dc_X9_kinds_59 : decode mX9_kinds.2.1 59 = .ok (.iload 6, 2) := by decide +kernel
theorem dc_X9_kinds_61 : decode mX9_kinds.2.1 61 = .ok (.aload_n 0, 1) := by decide +kernel
theorem dc_X9_kinds_62 : decode mX9_kinds.2.1 62 = .ok (.iload_n 1, 1) := by decide +kernel
theorem dc_X9_kinds_63 : decode mX9_kinds.2.1 63 = .ok (.iload_n 2, 1) := by decide +kernel
theorem dc_X9_kinds_64 : decode mX9_kinds.2.1 64 = .ok (.invokevirtual 204, 3) := by decide +kernel
theorem dc_X9_kinds_67 : decode mX9_kinds.2.1 67 = .ok (.ifCond .eq 10, 3) := by decide +kernel
theorem dc_X9_kinds_70 : decode mX9_kinds.2.1 70 = .ok (.iconst 1, 1) := by decide +kernel
theorem dc_X9_kinds_71 : decode mX9_kinds.2.1 71 = .ok (.iload 7, 2) := by decide +kernel
theorem dc_X9_kinds_73 : decode mX9_kinds.2.1 73 = .ok (.ishl, 1) := by decide +kernel
theorem dc_X9_kinds_74 : decode mX9_kinds.2.1 74 = .ok (.goto 4, 3) := by decide +kernel
theorem dc_X9_kinds_77 : decode mX9_kinds.2.1 77 = .ok (.iconst 0, 1) := by decide +kernel
theorem dc_X9_kinds_78 : decode mX9_kinds.2.1 78 = .ok (.ior, 1) := by decide +kernel
theorem dc_X9_kinds_79 : decode mX9_kinds.2.1 79 = .ok (.istore 6, 2) := by decide +kernel
theorem dc_X9_kinds_81 : decode mX9_kinds.2.1 81 = .ok (.iinc 7 1, 3) := by decide +kernel
theorem dc_X9_kinds_84 : decode mX9_kinds.2.1 84 = .ok (.goto (-41), 3) := by decide +kernel
theorem dc_X9_kinds_87 : decode mX9_kinds.2.1 87 = .ok (.aload_n 0, 1) := by decide +kernel
theorem dc_X9_kinds_88 : decode mX9_kinds.2.1 88 = .ok (.getfield 9, 3) := by decide +kernel
theorem dc_X9_kinds_91 : decode mX9_kinds.2.1 91 = .ok (.iload 4, 2) := by decide +kernel
theorem dc_X9_kinds_93 : decode mX9_kinds.2.1 93 = .ok (.iload 5, 2) := by decide +kernel
theorem dc_X9_kinds_95 : decode mX9_kinds.2.1 95 = .ok (.iastore, 1) := by decide +kernel
theorem dc_X9_kinds_96 : decode mX9_kinds.2.1 96 = .ok (.iload 6, 2) := by decide +kernel
theorem dc_X9_kinds_98 : decode mX9_kinds.2.1 98 = .ok (.ireturn, 1) := by decide +kernel
theorem dc_X9_drawn_0 : decode mX9_drawn.2.1 0 = .ok (.aload_n 0, 1) := by decide +kernel
theorem dc_X9_drawn_1 : decode mX9_drawn.2.1 1 = .ok (.getfield 9, 3) := by decide +kernel
theorem dc_X9_drawn_4 : decode mX9_drawn.2.1 4 = .ok (.iconst 2, 1) := by decide +kernel
theorem dc_X9_drawn_5 : decode mX9_drawn.2.1 5 = .ok (.aload_n 0, 1) := by decide +kernel
theorem dc_X9_drawn_6 : decode mX9_drawn.2.1 6 = .ok (.getfield 9, 3) := by decide +kernel
theorem dc_X9_drawn_9 : decode mX9_drawn.2.1 9 = .ok (.iconst 2, 1) := by decide +kernel
theorem dc_X9_drawn_10 : decode mX9_drawn.2.1 10 = .ok (.iaload, 1) := by decide +kernel
theorem dc_X9_drawn_11 : decode mX9_drawn.2.1 11 = .ok (.ldc 207, 2) := by decide +kernel
theorem dc_X9_drawn_13 : decode mX9_drawn.2.1 13 = .ok (.imul, 1) := by decide +kernel
theorem dc_X9_drawn_14 : decode mX9_drawn.2.1 14 = .ok (.sipush 12345, 3) := by decide +kernel
theorem dc_X9_drawn_17 : decode mX9_drawn.2.1 17 = .ok (.iadd, 1) := by decide +kernel
theorem dc_X9_drawn_18 : decode mX9_drawn.2.1 18 = .ok (.iastore, 1) := by decide +kernel
theorem dc_X9_drawn_19 : decode mX9_drawn.2.1 19 = .ok (.aload_n 0, 1) := by decide +kernel
theorem dc_X9_drawn_20 : decode mX9_drawn.2.1 20 = .ok (.getfield 9, 3) := by decide +kernel
theorem dc_X9_drawn_23 : decode mX9_drawn.2.1 23 = .ok (.iconst 2, 1) := by decide +kernel
theorem dc_X9_drawn_24 : decode mX9_drawn.2.1 24 = .ok (.iaload, 1) := by decide +kernel
theorem dc_X9_drawn_25 : decode mX9_drawn.2.1 25 = .ok (.bipush 8, 2) := by decide +kernel
theorem dc_X9_drawn_27 : decode mX9_drawn.2.1 27 = .ok (.iushr, 1) := by decide +kernel
theorem dc_X9_drawn_28 : decode mX9_drawn.2.1 28 = .ok (.ireturn, 1) := by decide +kernel
theorem dc_X9_nights_0 : decode mX9_nights.2.1 0 = .ok (.iload_n 1, 1) := by decide +kernel
theorem dc_X9_nights_1 : decode mX9_nights.2.1 1 = .ok (.iconst 1, 1) := by decide +kernel
theorem dc_X9_nights_2 : decode mX9_nights.2.1 2 = .ok (.bipush 20, 2) := by decide +kernel
theorem dc_X9_nights_4 : decode mX9_nights.2.1 4 = .ok (.invokestatic 71, 3) := by decide +kernel
theorem dc_X9_nights_7 : decode mX9_nights.2.1 7 = .ok (.ifCond .ne 10, 3) := by decide +kernel
theorem dc_X9_nights_10 : decode mX9_nights.2.1 10 = .ok (.aload_n 0, 1) := by decide +kernel
theorem dc_X9_nights_11 : decode mX9_nights.2.1 11 = .ok (.ldc 60, 2) := by decide +kernel
theorem dc_X9_nights_13 : decode mX9_nights.2.1 13 = .ok (.invokevirtual 66, 3) := by decide +kernel
theorem dc_X9_nights_16 : decode mX9_nights.2.1 16 = .ok (.ireturn, 1) := by decide +kernel
theorem dc_X9_nights_17 : decode mX9_nights.2.1 17 = .ok (.aload_n 0, 1) := by decide +kernel
theorem dc_X9_nights_18 : decode mX9_nights.2.1 18 = .ok (.getfield 9, 3) := by decide +kernel
theorem dc_X9_nights_21 : decode mX9_nights.2.1 21 = .ok (.iconst 0, 1) := by decide +kernel
theorem dc_X9_nights_22 : decode mX9_nights.2.1 22 = .ok (.iaload, 1) := by decide +kernel
theorem dc_X9_nights_23 : decode mX9_nights.2.1 23 = .ok (.iload_n 1, 1) := by decide +kernel
theorem dc_X9_nights_24 : decode mX9_nights.2.1 24 = .ok (.iadd, 1) := by decide +kernel
theorem dc_X9_nights_25 : decode mX9_nights.2.1 25 = .ok (.ldc 150, 2) := by decide +kernel
theorem dc_X9_nights_27 : decode mX9_nights.2.1 27 = .ok (.if_icmp .le 10, 3) := by decide +kernel
theorem dc_X9_nights_30 : decode mX9_nights.2.1 30 = .ok (.aload_n 0, 1) := by decide +kernel
theorem dc_X9_nights_31 : decode mX9_nights.2.1 31 = .ok (.ldc 151, 2) := by decide +kernel
theorem dc_X9_nights_33 : decode mX9_nights.2.1 33 = .ok (.invokevirtual 66, 3) := by decide +kernel
theorem dc_X9_nights_36 : decode mX9_nights.2.1 36 = .ok (.ireturn, 1) := by decide +kernel
theorem dc_X9_nights_37 : decode mX9_nights.2.1 37 = .ok (.iconst 0, 1) := by decide +kernel
theorem dc_X9_nights_38 : decode mX9_nights.2.1 38 = .ok (.istore_n 2, 1) := by decide +kernel
theorem dc_X9_nights_39 : decode mX9_nights.2.1 39 = .ok (.iload_n 2, 1) := by decide +kernel
theorem dc_X9_nights_40 : decode mX9_nights.2.1 40 = .ok (.iload_n 1, 1) := by decide +kernel
theorem dc_X9_nights_41 : decode mX9_nights.2.1 41 = .ok (.if_icmp .ge 69, 3) := by decide +kernel
theorem dc_X9_nights_44 : decode mX9_nights.2.1 44 = .ok (.aload_n 0, 1) := by decide +kernel
theorem dc_X9_nights_45 : decode mX9_nights.2.1 45 = .ok (.getfield 9, 3) := by decide +kernel
theorem dc_X9_nights_48 : decode mX9_nights.2.1 48 = .ok (.iconst 3, 1) := by decide +kernel
theorem dc_X9_nights_49 : decode mX9_nights.2.1 49 = .ok (.dup2, 1) := by decide +kernel
theorem dc_X9_nights_50 : decode mX9_nights.2.1 50 = .ok (.iaload, 1) := by decide +kernel
theorem dc_X9_nights_51 : decode mX9_nights.2.1 51 = .ok (.iconst 1, 1) := by decide +kernel
theorem dc_X9_nights_52 : decode mX9_nights.2.1 52 = .ok (.aload_n 0, 1) := by decide +kernel
theorem dc_X9_nights_53 : decode mX9_nights.2.1 53 = .ok (.invokevirtual 208, 3) := by decide +kernel
theorem dc_X9_nights_56 : decode mX9_nights.2.1 56 = .ok (.bipush 12, 2) := by decide +kernel
theorem dc_X9_nights_58 : decode mX9_nights.2.1 58 = .ok (.irem, 1) := by decide +kernel
theorem dc_X9_nights_59 : decode mX9_nights.2.1 59 = .ok (.ishl, 1) := by decide +kernel
theorem dc_X9_nights_60 : decode mX9_nights.2.1 60 = .ok (.ixor, 1) := by decide +kernel
theorem dc_X9_nights_61 : decode mX9_nights.2.1 61 = .ok (.iastore, 1) := by decide +kernel
theorem dc_X9_nights_62 : decode mX9_nights.2.1 62 = .ok (.aload_n 0, 1) := by decide +kernel
theorem dc_X9_nights_63 : decode mX9_nights.2.1 63 = .ok (.invokevirtual 208, 3) := by decide +kernel
theorem dc_X9_nights_66 : decode mX9_nights.2.1 66 = .ok (.bipush 8, 2) := by decide +kernel
theorem dc_X9_nights_68 : decode mX9_nights.2.1 68 = .ok (.irem, 1) := by decide +kernel
theorem dc_X9_nights_69 : decode mX9_nights.2.1 69 = .ok (.istore_n 3, 1) := by decide +kernel
theorem dc_X9_nights_70 : decode mX9_nights.2.1 70 = .ok (.aload_n 0, 1) := by decide +kernel
theorem dc_X9_nights_71 : decode mX9_nights.2.1 71 = .ok (.iload_n 3, 1) := by decide +kernel
theorem dc_X9_nights_72 : decode mX9_nights.2.1 72 = .ok (.invokevirtual 113, 3) := by decide +kernel
theorem dc_X9_nights_75 : decode mX9_nights.2.1 75 = .ok (.ifCond .eq 25, 3) := by decide +kernel
theorem dc_X9_nights_78 : decode mX9_nights.2.1 78 = .ok (.aload_n 0, 1) := by decide +kernel
theorem dc_X9_nights_79 : decode mX9_nights.2.1 79 = .ok (.getfield 9, 3) := by decide +kernel
theorem dc_X9_nights_82 : decode mX9_nights.2.1 82 = .ok (.iload_n 3, 1) := by decide +kernel
theorem dc_X9_nights_83 : decode mX9_nights.2.1 83 = .ok (.iconst 3, 1) := by decide +kernel
theorem dc_X9_nights_84 : decode mX9_nights.2.1 84 = .ok (.invokestatic 93, 3) := by decide +kernel
theorem dc_X9_nights_87 : decode mX9_nights.2.1 87 = .ok (.iconst 5, 1) := by decide +kernel
theorem dc_X9_nights_88 : decode mX9_nights.2.1 88 = .ok (.aload_n 0, 1) := by decide +kernel
theorem dc_X9_nights_89 : decode mX9_nights.2.1 89 = .ok (.iload_n 3, 1) := by decide +kernel
theorem dc_X9_nights_90 : decode mX9_nights.2.1 90 = .ok (.iconst 3, 1) := by decide +kernel
theorem dc_X9_nights_91 : decode mX9_nights.2.1 91 = .ok (.invokevirtual 107, 3) := by decide +kernel
theorem dc_X9_nights_94 : decode mX9_nights.2.1 94 = .ok (.iconst 1, 1) := by decide +kernel
theorem dc_X9_nights_95 : decode mX9_nights.2.1 95 = .ok (.iadd, 1) := by decide +kernel
theorem dc_X9_nights_96 : decode mX9_nights.2.1 96 = .ok (.invokestatic 135, 3) := by decide +kernel
theorem dc_X9_nights_99 : decode mX9_nights.2.1 99 = .ok (.iastore, 1) := by decide +kernel
theorem dc_X9_nights_100 : decode mX9_nights.2.1 100 = .ok (.aload_n 0, 1) := by decide +kernel
theorem dc_X9_nights_101 : decode mX9_nights.2.1 101 = .ok (.invokevirtual 147, 3) := by decide +kernel
theorem dc_X9_nights_104 : decode mX9_nights.2.1 104 = .ok (.iinc 2 1, 3) := by decide +kernel
theorem dc_X9_nights_107 : decode mX9_nights.2.1 107 = .ok (.goto (-68), 3) := by decide +kernel
theorem dc_X9_nights_110 : decode mX9_nights.2.1 110 = .ok (.aload_n 0, 1) := by decide +kernel
theorem dc_X9_nights_111 : decode mX9_nights.2.1 111 = .ok (.iconst 5, 1) := by decide +kernel
theorem dc_X9_nights_112 : decode mX9_nights.2.1 112 = .ok (.invokevirtual 156, 3) := by decide +kernel
theorem dc_X9_nights_115 : decode mX9_nights.2.1 115 = .ok (.ireturn, 1) := by decide +kernel
theorem dc_X9_odds_0 : decode mX9_odds.2.1 0 = .ok (.iload_n 1, 1) := by decide +kernel
theorem dc_X9_odds_1 : decode mX9_odds.2.1 1 = .ok (.iconst 0, 1) := by decide +kernel
theorem dc_X9_odds_2 : decode mX9_odds.2.1 2 = .ok (.bipush 17, 2) := by decide +kernel
theorem dc_X9_odds_4 : decode mX9_odds.2.1 4 = .ok (.invokestatic 71, 3) := by decide +kernel
theorem dc_X9_odds_7 : decode mX9_odds.2.1 7 = .ok (.ifCond .eq 12, 3) := by decide +kernel
theorem dc_X9_odds_10 : decode mX9_odds.2.1 10 = .ok (.iload_n 2, 1) := by decide +kernel
theorem dc_X9_odds_11 : decode mX9_odds.2.1 11 = .ok (.iconst 0, 1) := by decide +kernel
theorem dc_X9_odds_12 : decode mX9_odds.2.1 12 = .ok (.iconst 1, 1) := by decide +kernel
theorem dc_X9_odds_13 : decode mX9_odds.2.1 13 = .ok (.invokestatic 71, 3) := by decide +kernel
theorem dc_X9_odds_16 : decode mX9_odds.2.1 16 = .ok (.ifCond .ne 11, 3) := by decide +kernel
theorem dc_X9_odds_19 : decode mX9_odds.2.1 19 = .ok (.aload_n 0, 1) := by decide +kernel
theorem dc_X9_odds_20 : decode mX9_odds.2.1 20 = .ok (.ldc 60, 2) := by decide +kernel
theorem dc_X9_odds_22 : decode mX9_odds.2.1 22 = .ok (.invokevirtual 66, 3) := by decide +kernel
theorem dc_X9_odds_25 : decode mX9_odds.2.1 25 = .ok (.i2l, 1) := by decide +kernel
theorem dc_X9_odds_26 : decode mX9_odds.2.1 26 = .ok (.lreturn, 1) := by decide +kernel
theorem dc_X9_odds_27 : decode mX9_odds.2.1 27 = .ok (.aload_n 0, 1) := by decide +kernel
theorem dc_X9_odds_28 : decode mX9_odds.2.1 28 = .ok (.getfield 9, 3) := by decide +kernel
theorem dc_X9_odds_31 : decode mX9_odds.2.1 31 = .ok (.iconst 3, 1) := by decide +kernel
theorem dc_X9_odds_32 : decode mX9_odds.2.1 32 = .ok (.iaload, 1) := by decide +kernel
theorem dc_X9_odds_33 : decode mX9_odds.2.1 33 = .ok (.invokestatic 132, 3) := by decide +kernel
theorem dc_X9_odds_36 : decode mX9_odds.2.1 36 = .ok (.istore_n 3, 1) := by decide +kernel
theorem dc_X9_odds_37 : decode mX9_odds.2.1 37 = .ok (.bipush 12, 2) := by decide +kernel
theorem dc_X9_odds_39 : decode mX9_odds.2.1 39 = .ok (.istore 4, 2) := by decide +kernel
theorem dc_X9_odds_41 : decode mX9_odds.2.1 41 = .ok (.iload_n 3, 1) := by decide +kernel
theorem dc_X9_odds_42 : decode mX9_odds.2.1 42 = .ok (.istore 5, 2) := by decide +kernel
theorem dc_X9_odds_44 : decode mX9_odds.2.1 44 = .ok (.iload 5, 2) := by decide +kernel
theorem dc_X9_odds_46 : decode mX9_odds.2.1 46 = .ok (.ifCond .eq 21, 3) := by decide +kernel
theorem dc_X9_odds_49 : decode mX9_odds.2.1 49 = .ok (.iload 4, 2) := by decide +kernel
theorem dc_X9_odds_51 : decode mX9_odds.2.1 51 = .ok (.iload 5, 2) := by decide +kernel
theorem dc_X9_odds_53 : decode mX9_odds.2.1 53 = .ok (.irem, 1) := by decide +kernel
theorem dc_X9_odds_54 : decode mX9_odds.2.1 54 = .ok (.istore 6, 2) := by decide +kernel
theorem dc_X9_odds_56 : decode mX9_odds.2.1 56 = .ok (.iload 5, 2) := by decide +kernel
theorem dc_X9_odds_58 : decode mX9_odds.2.1 58 = .ok (.istore 4, 2) := by decide +kernel
theorem dc_X9_odds_60 : decode mX9_odds.2.1 60 = .ok (.iload 6, 2) := by decide +kernel
theorem dc_X9_odds_62 : decode mX9_odds.2.1 62 = .ok (.istore 5, 2) := by decide +kernel
theorem dc_X9_odds_64 : decode mX9_odds.2.1 64 = .ok (.goto (-20), 3) := by decide +kernel
theorem dc_X9_odds_67 : decode mX9_odds.2.1 67 = .ok (.lconst 1, 1) := by decide +kernel
theorem dc_X9_odds_68 : decode mX9_odds.2.1 68 = .ok (.lstore 6, 2) := by decide +kernel
theorem dc_X9_odds_70 : decode mX9_odds.2.1 70 = .ok (.iconst 0, 1) := by decide +kernel
theorem dc_X9_odds_71 : decode mX9_odds.2.1 71 = .ok (.istore 8, 2) := by decide +kernel
theorem dc_X9_odds_73 : decode mX9_odds.2.1 73 = .ok (.iload 8, 2) := by decide +kernel
theorem dc_X9_odds_75 : decode mX9_odds.2.1 75 = .ok (.iload_n 1, 1) := by decide +kernel
theorem dc_X9_odds_76 : decode mX9_odds.2.1 76 = .ok (.if_icmp .ge 28, 3) := by decide +kernel
theorem dc_X9_odds_79 : decode mX9_odds.2.1 79 = .ok (.lload 6, 2) := by decide +kernel
theorem dc_X9_odds_81 : decode mX9_odds.2.1 81 = .ok (.iload_n 2, 1) := by decide +kernel
theorem dc_X9_odds_82 : decode mX9_odds.2.1 82 = .ok (.ifCond .ne 7, 3) := by decide +kernel
theorem dc_X9_odds_85 : decode mX9_odds.2.1 85 = .ok (.iload_n 3, 1) := by decide +kernel
theorem dc_X9_odds_86 : decode mX9_odds.2.1 86 = .ok (.goto 5, 3) := by decide +kernel
theorem dc_X9_odds_89 : decode mX9_odds.2.1 89 = .ok (.bipush 12, 2) := by decide +kernel
theorem dc_X9_odds_91 : decode mX9_odds.2.1 91 = .ok (.iload 4, 2) := by decide +kernel
theorem dc_X9_odds_93 : decode mX9_odds.2.1 93 = .ok (.idiv, 1) := by decide +kernel
theorem dc_X9_odds_94 : decode mX9_odds.2.1 94 = .ok (.i2l, 1) := by decide +kernel
theorem dc_X9_odds_95 : decode mX9_odds.2.1 95 = .ok (.lmul, 1) := by decide +kernel
theorem dc_X9_odds_96 : decode mX9_odds.2.1 96 = .ok (.lstore 6, 2) := by decide +kernel
theorem dc_X9_odds_98 : decode mX9_odds.2.1 98 = .ok (.iinc 8 1, 3) := by decide +kernel
theorem dc_X9_odds_101 : decode mX9_odds.2.1 101 = .ok (.goto (-28), 3) := by decide +kernel
theorem dc_X9_odds_104 : decode mX9_odds.2.1 104 = .ok (.lload 6, 2) := by decide +kernel
theorem dc_X9_odds_106 : decode mX9_odds.2.1 106 = .ok (.lreturn, 1) := by decide +kernel
theorem dc_X9_seed_0 : decode mX9_seed.2.1 0 = .ok (.aload_n 0, 1) := by decide +kernel
theorem dc_X9_seed_1 : decode mX9_seed.2.1 1 = .ok (.iconst 2, 1) := by decide +kernel
theorem dc_X9_seed_2 : decode mX9_seed.2.1 2 = .ok (.iload_n 1, 1) := by decide +kernel
theorem dc_X9_seed_3 : decode mX9_seed.2.1 3 = .ok (.invokevirtual 78, 3) := by decide +kernel
theorem dc_X9_seed_6 : decode mX9_seed.2.1 6 = .ok (.ireturn, 1) := by decide +kernel
theorem dc_X9_feed_0 : decode mX9_feed.2.1 0 = .ok (.iload_n 2, 1) := by decide +kernel
theorem dc_X9_feed_1 : decode mX9_feed.2.1 1 = .ok (.iconst 1, 1) := by decide +kernel
theorem dc_X9_feed_2 : decode mX9_feed.2.1 2 = .ok (.iconst 4, 1) := by decide +kernel
theorem dc_X9_feed_3 : decode mX9_feed.2.1 3 = .ok (.invokestatic 71, 3) := by decide +kernel
theorem dc_X9_feed_6 : decode mX9_feed.2.1 6 = .ok (.ifCond .ne 10, 3) := by decide +kernel
theorem dc_X9_feed_9 : decode mX9_feed.2.1 9 = .ok (.aload_n 0, 1) := by decide +kernel
theorem dc_X9_feed_10 : decode mX9_feed.2.1 10 = .ok (.ldc 60, 2) := by decide +kernel
theorem dc_X9_feed_12 : decode mX9_feed.2.1 12 = .ok (.invokevirtual 66, 3) := by decide +kernel
theorem dc_X9_feed_15 : decode mX9_feed.2.1 15 = .ok (.ireturn, 1) := by decide +kernel
theorem dc_X9_feed_16 : decode mX9_feed.2.1 16 = .ok (.aload_n 0, 1) := by decide +kernel
theorem dc_X9_feed_17 : decode mX9_feed.2.1 17 = .ok (.getfield 211, 3) := by decide +kernel
theorem dc_X9_feed_20 : decode mX9_feed.2.1 20 = .ok (.iload_n 2, 1) := by decide +kernel
theorem dc_X9_feed_21 : decode mX9_feed.2.1 21 = .ok (.iadd, 1) := by decide +kernel
theorem dc_X9_feed_22 : decode mX9_feed.2.1 22 = .ok (.bipush 120, 2) := by decide +kernel
theorem dc_X9_feed_24 : decode mX9_feed.2.1 24 = .ok (.if_icmp .le 10, 3) := by decide +kernel
theorem dc_X9_feed_27 : decode mX9_feed.2.1 27 = .ok (.aload_n 0, 1) := by decide +kernel
theorem dc_X9_feed_28 : decode mX9_feed.2.1 28 = .ok (.ldc 103, 2) := by decide +kernel
theorem dc_X9_feed_30 : decode mX9_feed.2.1 30 = .ok (.invokevirtual 66, 3) := by decide +kernel
theorem dc_X9_feed_33 : decode mX9_feed.2.1 33 = .ok (.ireturn, 1) := by decide +kernel
theorem dc_X9_feed_34 : decode mX9_feed.2.1 34 = .ok (.iload_n 2, 1) := by decide +kernel
theorem dc_X9_feed_35 : decode mX9_feed.2.1 35 = .ok (.iconst 1, 1) := by decide +kernel
theorem dc_X9_feed_36 : decode mX9_feed.2.1 36 = .ok (.isub, 1) := by decide +kernel
theorem dc_X9_feed_37 : decode mX9_feed.2.1 37 = .ok (.istore_n 3, 1) := by decide +kernel
theorem dc_X9_feed_38 : decode mX9_feed.2.1 38 = .ok (.iload_n 3, 1) := by decide +kernel
theorem dc_X9_feed_39 : decode mX9_feed.2.1 39 = .ok (.ifCond .lt 38, 3) := by decide +kernel
theorem dc_X9_feed_42 : decode mX9_feed.2.1 42 = .ok (.aload_n 0, 1) := by decide +kernel
theorem dc_X9_feed_43 : decode mX9_feed.2.1 43 = .ok (.getfield 22, 3) := by decide +kernel
theorem dc_X9_feed_46 : decode mX9_feed.2.1 46 = .ok (.aload_n 0, 1) := by decide +kernel
theorem dc_X9_feed_47 : decode mX9_feed.2.1 47 = .ok (.getfield 211, 3) := by decide +kernel
theorem dc_X9_feed_50 : decode mX9_feed.2.1 50 = .ok (.iload_n 1, 1) := by decide +kernel
theorem dc_X9_feed_51 : decode mX9_feed.2.1 51 = .ok (.bipush 8, 2) := by decide +kernel
theorem dc_X9_feed_53 : decode mX9_feed.2.1 53 = .ok (.iload_n 3, 1) := by decide +kernel
theorem dc_X9_feed_54 : decode mX9_feed.2.1 54 = .ok (.imul, 1) := by decide +kernel
theorem dc_X9_feed_55 : decode mX9_feed.2.1 55 = .ok (.ishr, 1) := by decide +kernel
theorem dc_X9_feed_56 : decode mX9_feed.2.1 56 = .ok (.sipush 255, 3) := by decide +kernel
theorem dc_X9_feed_59 : decode mX9_feed.2.1 59 = .ok (.iand, 1) := by decide +kernel
theorem dc_X9_feed_60 : decode mX9_feed.2.1 60 = .ok (.iastore, 1) := by decide +kernel
theorem dc_X9_feed_61 : decode mX9_feed.2.1 61 = .ok (.aload_n 0, 1) := by decide +kernel
theorem dc_X9_feed_62 : decode mX9_feed.2.1 62 = .ok (.dup, 1) := by decide +kernel
theorem dc_X9_feed_63 : decode mX9_feed.2.1 63 = .ok (.getfield 211, 3) := by decide +kernel
theorem dc_X9_feed_66 : decode mX9_feed.2.1 66 = .ok (.iconst 1, 1) := by decide +kernel
theorem dc_X9_feed_67 : decode mX9_feed.2.1 67 = .ok (.iadd, 1) := by decide +kernel
theorem dc_X9_feed_68 : decode mX9_feed.2.1 68 = .ok (.putfield 211, 3) := by decide +kernel
theorem dc_X9_feed_71 : decode mX9_feed.2.1 71 = .ok (.iinc 3 (-1), 3) := by decide +kernel
theorem dc_X9_feed_74 : decode mX9_feed.2.1 74 = .ok (.goto (-36), 3) := by decide +kernel
theorem dc_X9_feed_77 : decode mX9_feed.2.1 77 = .ok (.aload_n 0, 1) := by decide +kernel
theorem dc_X9_feed_78 : decode mX9_feed.2.1 78 = .ok (.getfield 211, 3) := by decide +kernel
theorem dc_X9_feed_81 : decode mX9_feed.2.1 81 = .ok (.ireturn, 1) := by decide +kernel
theorem dc_X9_wipe_0 : decode mX9_wipe.2.1 0 = .ok (.aload_n 0, 1) := by decide +kernel
theorem dc_X9_wipe_1 : decode mX9_wipe.2.1 1 = .ok (.getfield 211, 3) := by decide +kernel
theorem dc_X9_wipe_4 : decode mX9_wipe.2.1 4 = .ok (.istore_n 1, 1) := by decide +kernel
theorem dc_X9_wipe_5 : decode mX9_wipe.2.1 5 = .ok (.aload_n 0, 1) := by decide +kernel
theorem dc_X9_wipe_6 : decode mX9_wipe.2.1 6 = .ok (.iconst 0, 1) := by decide +kernel
theorem dc_X9_wipe_7 : decode mX9_wipe.2.1 7 = .ok (.putfield 211, 3) := by decide +kernel
theorem dc_X9_wipe_10 : decode mX9_wipe.2.1 10 = .ok (.iload_n 1, 1) := by decide +kernel
theorem dc_X9_wipe_11 : decode mX9_wipe.2.1 11 = .ok (.ireturn, 1) := by decide +kernel
theorem dc_X9_byteAt_0 : decode mX9_byteAt.2.1 0 = .ok (.iload_n 1, 1) := by decide +kernel
theorem dc_X9_byteAt_1 : decode mX9_byteAt.2.1 1 = .ok (.aload_n 0, 1) := by decide +kernel
theorem dc_X9_byteAt_2 : decode mX9_byteAt.2.1 2 = .ok (.getfield 211, 3) := by decide +kernel
theorem dc_X9_byteAt_5 : decode mX9_byteAt.2.1 5 = .ok (.if_icmp .ge 12, 3) := by decide +kernel
theorem dc_X9_byteAt_8 : decode mX9_byteAt.2.1 8 = .ok (.aload_n 0, 1) := by decide +kernel
theorem dc_X9_byteAt_9 : decode mX9_byteAt.2.1 9 = .ok (.getfield 22, 3) := by decide +kernel
theorem dc_X9_byteAt_12 : decode mX9_byteAt.2.1 12 = .ok (.iload_n 1, 1) := by decide +kernel
theorem dc_X9_byteAt_13 : decode mX9_byteAt.2.1 13 = .ok (.iaload, 1) := by decide +kernel
theorem dc_X9_byteAt_14 : decode mX9_byteAt.2.1 14 = .ok (.goto 4, 3) := by decide +kernel
theorem dc_X9_byteAt_17 : decode mX9_byteAt.2.1 17 = .ok (.iconst (-1), 1) := by decide +kernel
theorem dc_X9_byteAt_18 : decode mX9_byteAt.2.1 18 = .ok (.ireturn, 1) := by decide +kernel
theorem dc_X9_token_0 : decode mX9_token.2.1 0 = .ok (.aload_n 0, 1) := by decide +kernel
theorem dc_X9_token_1 : decode mX9_token.2.1 1 = .ok (.aload_n 0, 1) := by decide +kernel
theorem dc_X9_token_2 : decode mX9_token.2.1 2 = .ok (.getfield 215, 3) := by decide +kernel
theorem dc_X9_token_5 : decode mX9_token.2.1 5 = .ok (.putfield 218, 3) := by decide +kernel
theorem dc_X9_token_8 : decode mX9_token.2.1 8 = .ok (.aload_n 0, 1) := by decide +kernel
theorem dc_X9_token_9 : decode mX9_token.2.1 9 = .ok (.aload_n 0, 1) := by decide +kernel
theorem dc_X9_token_10 : decode mX9_token.2.1 10 = .ok (.getfield 218, 3) := by decide +kernel
theorem dc_X9_token_13 : decode mX9_token.2.1 13 = .ok (.invokevirtual 221, 3) := by decide +kernel
theorem dc_X9_token_16 : decode mX9_token.2.1 16 = .ok (.bipush 32, 2) := by decide +kernel
theorem dc_X9_token_18 : decode mX9_token.2.1 18 = .ok (.if_icmp .ne 16, 3) := by decide +kernel
theorem dc_X9_token_21 : decode mX9_token.2.1 21 = .ok (.aload_n 0, 1) := by decide +kernel
theorem dc_X9_token_22 : decode mX9_token.2.1 22 = .ok (.dup, 1) := by decide +kernel
theorem dc_X9_token_23 : decode mX9_token.2.1 23 = .ok (.getfield 218, 3) := by decide +kernel
theorem dc_X9_token_26 : decode mX9_token.2.1 26 = .ok (.iconst 1, 1) := by decide +kernel
theorem dc_X9_token_27 : decode mX9_token.2.1 27 = .ok (.iadd, 1) := by decide +kernel
theorem dc_X9_token_28 : decode mX9_token.2.1 28 = .ok (.putfield 218, 3) := by decide +kernel
theorem dc_X9_token_31 : decode mX9_token.2.1 31 = .ok (.goto (-23), 3) := by decide +kernel
theorem dc_X9_token_34 : decode mX9_token.2.1 34 = .ok (.aload_n 0, 1) := by decide +kernel
theorem dc_X9_token_35 : decode mX9_token.2.1 35 = .ok (.aload_n 0, 1) := by decide +kernel
theorem dc_X9_token_36 : decode mX9_token.2.1 36 = .ok (.getfield 218, 3) := by decide +kernel
theorem dc_X9_token_39 : decode mX9_token.2.1 39 = .ok (.invokevirtual 221, 3) := by decide +kernel
theorem dc_X9_token_42 : decode mX9_token.2.1 42 = .ok (.istore_n 1, 1) := by decide +kernel
theorem dc_X9_token_43 : decode mX9_token.2.1 43 = .ok (.aload_n 0, 1) := by decide +kernel
theorem dc_X9_token_44 : decode mX9_token.2.1 44 = .ok (.aload_n 0, 1) := by decide +kernel
theorem dc_X9_token_45 : decode mX9_token.2.1 45 = .ok (.getfield 218, 3) := by decide +kernel
theorem dc_X9_token_48 : decode mX9_token.2.1 48 = .ok (.putfield 215, 3) := by decide +kernel
theorem dc_X9_token_51 : decode mX9_token.2.1 51 = .ok (.aload_n 0, 1) := by decide +kernel
theorem dc_X9_token_52 : decode mX9_token.2.1 52 = .ok (.iconst 0, 1) := by decide +kernel
theorem dc_X9_token_53 : decode mX9_token.2.1 53 = .ok (.putfield 224, 3) := by decide +kernel
theorem dc_X9_token_56 : decode mX9_token.2.1 56 = .ok (.iload_n 1, 1) := by decide +kernel
theorem dc_X9_token_57 : decode mX9_token.2.1 57 = .ok (.ifCond .ge 11, 3) := by decide +kernel
theorem dc_X9_token_60 : decode mX9_token.2.1 60 = .ok (.aload_n 0, 1) := by decide +kernel
theorem dc_X9_token_61 : decode mX9_token.2.1 61 = .ok (.iconst 0, 1) := by decide +kernel
theorem dc_X9_token_62 : decode mX9_token.2.1 62 = .ok (.putfield 227, 3) := by decide +kernel
theorem dc_X9_token_65 : decode mX9_token.2.1 65 = .ok (.goto 141, 3) := by decide +kernel
theorem dc_X9_token_68 : decode mX9_token.2.1 68 = .ok (.iload_n 1, 1) := by decide +kernel
theorem dc_X9_token_69 : decode mX9_token.2.1 69 = .ok (.bipush 97, 2) := by decide +kernel
theorem dc_X9_token_71 : decode mX9_token.2.1 71 = .ok (.bipush 122, 2) := by decide +kernel
theorem dc_X9_token_73 : decode mX9_token.2.1 73 = .ok (.invokestatic 71, 3) := by decide +kernel
theorem dc_X9_token_76 : decode mX9_token.2.1 76 = .ok (.ifCond .eq 39, 3) := by decide +kernel
theorem dc_X9_token_79 : decode mX9_token.2.1 79 = .ok (.aload_n 0, 1) := by decide +kernel
theorem dc_X9_token_80 : decode mX9_token.2.1 80 = .ok (.iconst 1, 1) := by decide +kernel
theorem dc_X9_token_81 : decode mX9_token.2.1 81 = .ok (.putfield 227, 3) := by decide +kernel
theorem dc_X9_token_84 : decode mX9_token.2.1 84 = .ok (.aload_n 0, 1) := by decide +kernel
theorem dc_X9_token_85 : decode mX9_token.2.1 85 = .ok (.aload_n 0, 1) := by decide +kernel
theorem dc_X9_token_86 : decode mX9_token.2.1 86 = .ok (.getfield 215, 3) := by decide +kernel
theorem dc_X9_token_89 : decode mX9_token.2.1 89 = .ok (.invokevirtual 221, 3) := by decide +kernel
theorem dc_X9_token_92 : decode mX9_token.2.1 92 = .ok (.bipush 97, 2) := by decide +kernel
theorem dc_X9_token_94 : decode mX9_token.2.1 94 = .ok (.bipush 122, 2) := by decide +kernel
theorem dc_X9_token_96 : decode mX9_token.2.1 96 = .ok (.invokestatic 71, 3) := by decide +kernel
theorem dc_X9_token_99 : decode mX9_token.2.1 99 = .ok (.ifCond .eq 107, 3) := by decide +kernel
theorem dc_X9_token_102 : decode mX9_token.2.1 102 = .ok (.aload_n 0, 1) := by decide +kernel
theorem dc_X9_token_103 : decode mX9_token.2.1 103 = .ok (.dup, 1) := by decide +kernel
theorem dc_X9_token_104 : decode mX9_token.2.1 104 = .ok (.getfield 215, 3) := by decide +kernel
theorem dc_X9_token_107 : decode mX9_token.2.1 107 = .ok (.iconst 1, 1) := by decide +kernel
theorem dc_X9_token_108 : decode mX9_token.2.1 108 = .ok (.iadd, 1) := by decide +kernel
theorem dc_X9_token_109 : decode mX9_token.2.1 109 = .ok (.putfield 215, 3) := by decide +kernel
theorem dc_X9_token_112 : decode mX9_token.2.1 112 = .ok (.goto (-28), 3) := by decide +kernel
theorem dc_X9_token_115 : decode mX9_token.2.1 115 = .ok (.iload_n 1, 1) := by decide +kernel
theorem dc_X9_token_116 : decode mX9_token.2.1 116 = .ok (.bipush 48, 2) := by decide +kernel
theorem dc_X9_token_118 : decode mX9_token.2.1 118 = .ok (.bipush 57, 2) := by decide +kernel
theorem dc_X9_token_120 : decode mX9_token.2.1 120 = .ok (.invokestatic 71, 3) := by decide +kernel
theorem dc_X9_token_123 : decode mX9_token.2.1 123 = .ok (.ifCond .eq 68, 3) := by decide +kernel
theorem dc_X9_token_126 : decode mX9_token.2.1 126 = .ok (.aload_n 0, 1) := by decide +kernel
theorem dc_X9_token_127 : decode mX9_token.2.1 127 = .ok (.iconst 2, 1) := by decide +kernel
theorem dc_X9_token_128 : decode mX9_token.2.1 128 = .ok (.putfield 227, 3) := by decide +kernel
theorem dc_X9_token_131 : decode mX9_token.2.1 131 = .ok (.aload_n 0, 1) := by decide +kernel
theorem dc_X9_token_132 : decode mX9_token.2.1 132 = .ok (.aload_n 0, 1) := by decide +kernel
theorem dc_X9_token_133 : decode mX9_token.2.1 133 = .ok (.getfield 215, 3) := by decide +kernel
theorem dc_X9_token_136 : decode mX9_token.2.1 136 = .ok (.invokevirtual 221, 3) := by decide +kernel
theorem dc_X9_token_139 : decode mX9_token.2.1 139 = .ok (.bipush 48, 2) := by decide +kernel
theorem dc_X9_token_141 : decode mX9_token.2.1 141 = .ok (.bipush 57, 2) := by decide +kernel
theorem dc_X9_token_143 : decode mX9_token.2.1 143 = .ok (.invokestatic 71, 3) := by decide +kernel
theorem dc_X9_token_146 : decode mX9_token.2.1 146 = .ok (.ifCond .eq 60, 3) := by decide +kernel
theorem dc_X9_token_149 : decode mX9_token.2.1 149 = .ok (.aload_n 0, 1) := by decide +kernel
theorem dc_X9_token_150 : decode mX9_token.2.1 150 = .ok (.sipush 10000, 3) := by decide +kernel
theorem dc_X9_token_153 : decode mX9_token.2.1 153 = .ok (.bipush 10, 2) := by decide +kernel
theorem dc_X9_token_155 : decode mX9_token.2.1 155 = .ok (.aload_n 0, 1) := by decide +kernel
theorem dc_X9_token_156 : decode mX9_token.2.1 156 = .ok (.getfield 224, 3) := by decide +kernel
theorem dc_X9_token_159 : decode mX9_token.2.1 159 = .ok (.imul, 1) := by decide +kernel
theorem dc_X9_token_160 : decode mX9_token.2.1 160 = .ok (.aload_n 0, 1) := by decide +kernel
theorem dc_X9_token_161 : decode mX9_token.2.1 161 = .ok (.aload_n 0, 1) := by decide +kernel
theorem dc_X9_token_162 : decode mX9_token.2.1 162 = .ok (.getfield 215, 3) := by decide +kernel
theorem dc_X9_token_165 : decode mX9_token.2.1 165 = .ok (.invokevirtual 221, 3) := by decide +kernel
theorem dc_X9_token_168 : decode mX9_token.2.1 168 = .ok (.iadd, 1) := by decide +kernel
theorem dc_X9_token_169 : decode mX9_token.2.1 169 = .ok (.bipush 48, 2) := by decide +kernel
theorem dc_X9_token_171 : decode mX9_token.2.1 171 = .ok (.isub, 1) := by decide +kernel
theorem dc_X9_token_172 : decode mX9_token.2.1 172 = .ok (.invokestatic 135, 3) := by decide +kernel
theorem dc_X9_token_175 : decode mX9_token.2.1 175 = .ok (.putfield 224, 3) := by decide +kernel
theorem dc_X9_token_178 : decode mX9_token.2.1 178 = .ok (.aload_n 0, 1) := by decide +kernel
theorem dc_X9_token_179 : decode mX9_token.2.1 179 = .ok (.dup, 1) := by decide +kernel
theorem dc_X9_token_180 : decode mX9_token.2.1 180 = .ok (.getfield 215, 3) := by decide +kernel
theorem dc_X9_token_183 : decode mX9_token.2.1 183 = .ok (.iconst 1, 1) := by decide +kernel
theorem dc_X9_token_184 : decode mX9_token.2.1 184 = .ok (.iadd, 1) := by decide +kernel
theorem dc_X9_token_185 : decode mX9_token.2.1 185 = .ok (.putfield 215, 3) := by decide +kernel
theorem dc_X9_token_188 : decode mX9_token.2.1 188 = .ok (.goto (-57), 3) := by decide +kernel
theorem dc_X9_token_191 : decode mX9_token.2.1 191 = .ok (.aload_n 0, 1) := by decide +kernel
theorem dc_X9_token_192 : decode mX9_token.2.1 192 = .ok (.iconst 3, 1) := by decide +kernel
theorem dc_X9_token_193 : decode mX9_token.2.1 193 = .ok (.putfield 227, 3) := by decide +kernel
theorem dc_X9_token_196 : decode mX9_token.2.1 196 = .ok (.aload_n 0, 1) := by decide +kernel
theorem dc_X9_token_197 : decode mX9_token.2.1 197 = .ok (.dup, 1) := by decide +kernel
theorem dc_X9_token_198 : decode mX9_token.2.1 198 = .ok (.getfield 215, 3) := by decide +kernel
theorem dc_X9_token_201 : decode mX9_token.2.1 201 = .ok (.iconst 1, 1) := by decide +kernel
theorem dc_X9_token_202 : decode mX9_token.2.1 202 = .ok (.iadd, 1) := by decide +kernel
theorem dc_X9_token_203 : decode mX9_token.2.1 203 = .ok (.putfield 215, 3) := by decide +kernel
theorem dc_X9_token_206 : decode mX9_token.2.1 206 = .ok (.return_, 1) := by decide +kernel
theorem dc_X9_isWord_0 : decode mX9_isWord.2.1 0 = .ok (.aload_n 0, 1) := by decide +kernel
theorem dc_X9_isWord_1 : decode mX9_isWord.2.1 1 = .ok (.getfield 227, 3) := by decide +kernel
theorem dc_X9_isWord_4 : decode mX9_isWord.2.1 4 = .ok (.iconst 1, 1) := by decide +kernel
theorem dc_X9_isWord_5 : decode mX9_isWord.2.1 5 = .ok (.if_icmp .ne 23, 3) := by decide +kernel
theorem dc_X9_isWord_8 : decode mX9_isWord.2.1 8 = .ok (.aload_n 0, 1) := by decide +kernel
theorem dc_X9_isWord_9 : decode mX9_isWord.2.1 9 = .ok (.getfield 215, 3) := by decide +kernel
theorem dc_X9_isWord_12 : decode mX9_isWord.2.1 12 = .ok (.aload_n 0, 1) := by decide +kernel
theorem dc_X9_isWord_13 : decode mX9_isWord.2.1 13 = .ok (.getfield 218, 3) := by decide +kernel
theorem dc_X9_isWord_16 : decode mX9_isWord.2.1 16 = .ok (.isub, 1) := by decide +kernel
theorem dc_X9_isWord_17 : decode mX9_isWord.2.1 17 = .ok (.aload_n 1, 1) := by decide +kernel
theorem dc_X9_isWord_18 : decode mX9_isWord.2.1 18 = .ok (.invokevirtual 230, 3) := by decide +kernel
theorem dc_X9_isWord_21 : decode mX9_isWord.2.1 21 = .ok (.if_icmp .ne 7, 3) := by decide +kernel
theorem dc_X9_isWord_24 : decode mX9_isWord.2.1 24 = .ok (.iconst 1, 1) := by decide +kernel
theorem dc_X9_isWord_25 : decode mX9_isWord.2.1 25 = .ok (.goto 4, 3) := by decide +kernel
theorem dc_X9_isWord_28 : decode mX9_isWord.2.1 28 = .ok (.iconst 0, 1) := by decide +kernel
theorem dc_X9_isWord_29 : decode mX9_isWord.2.1 29 = .ok (.istore_n 2, 1) := by decide +kernel
theorem dc_X9_isWord_30 : decode mX9_isWord.2.1 30 = .ok (.iconst 0, 1) := by decide +kernel
theorem dc_X9_isWord_31 : decode mX9_isWord.2.1 31 = .ok (.istore_n 3, 1) := by decide +kernel
theorem dc_X9_isWord_32 : decode mX9_isWord.2.1 32 = .ok (.iload_n 3, 1) := by decide +kernel
theorem dc_X9_isWord_33 : decode mX9_isWord.2.1 33 = .ok (.aload_n 1, 1) := by decide +kernel
theorem dc_X9_isWord_34 : decode mX9_isWord.2.1 34 = .ok (.invokevirtual 230, 3) := by decide +kernel
theorem dc_X9_isWord_37 : decode mX9_isWord.2.1 37 = .ok (.if_icmp .ge 38, 3) := by decide +kernel
theorem dc_X9_isWord_40 : decode mX9_isWord.2.1 40 = .ok (.iload_n 2, 1) := by decide +kernel
theorem dc_X9_isWord_41 : decode mX9_isWord.2.1 41 = .ok (.ifCond .eq 34, 3) := by decide +kernel
theorem dc_X9_isWord_44 : decode mX9_isWord.2.1 44 = .ok (.aload_n 0, 1) := by decide +kernel
theorem dc_X9_isWord_45 : decode mX9_isWord.2.1 45 = .ok (.getfield 22, 3) := by decide +kernel
theorem dc_X9_isWord_48 : decode mX9_isWord.2.1 48 = .ok (.aload_n 0, 1) := by decide +kernel
theorem dc_X9_isWord_49 : decode mX9_isWord.2.1 49 = .ok (.getfield 218, 3) := by decide +kernel
theorem dc_X9_isWord_52 : decode mX9_isWord.2.1 52 = .ok (.iload_n 3, 1) := by decide +kernel
theorem dc_X9_isWord_53 : decode mX9_isWord.2.1 53 = .ok (.iadd, 1) := by decide +kernel
theorem dc_X9_isWord_54 : decode mX9_isWord.2.1 54 = .ok (.iaload, 1) := by decide +kernel
theorem dc_X9_isWord_55 : decode mX9_isWord.2.1 55 = .ok (.aload_n 1, 1) := by decide +kernel
theorem dc_X9_isWord_56 : decode mX9_isWord.2.1 56 = .ok (.iload_n 3, 1) := by decide +kernel
theorem dc_X9_isWord_57 : decode mX9_isWord.2.1 57 = .ok (.invokevirtual 233, 3) := by decide +kernel
theorem dc_X9_isWord_60 : decode mX9_isWord.2.1 60 = .ok (.if_icmp .ne 7, 3) := by decide +kernel
theorem dc_X9_isWord_63 : decode mX9_isWord.2.1 63 = .ok (.iconst 1, 1) := by decide +kernel
theorem dc_X9_isWord_64 : decode mX9_isWord.2.1 64 = .ok (.goto 4, 3) := by decide +kernel
theorem dc_X9_isWord_67 : decode mX9_isWord.2.1 67 = .ok (.iconst 0, 1) := by decide +kernel
theorem dc_X9_isWord_68 : decode mX9_isWord.2.1 68 = .ok (.istore_n 2, 1) := by decide +kernel
theorem dc_X9_isWord_69 : decode mX9_isWord.2.1 69 = .ok (.iinc 3 1, 3) := by decide +kernel
theorem dc_X9_isWord_72 : decode mX9_isWord.2.1 72 = .ok (.goto (-40), 3) := by decide +kernel
theorem dc_X9_isWord_75 : decode mX9_isWord.2.1 75 = .ok (.iload_n 2, 1) := by decide +kernel
theorem dc_X9_isWord_76 : decode mX9_isWord.2.1 76 = .ok (.ireturn, 1) := by decide +kernel
theorem dc_X9_must_0 : decode mX9_must.2.1 0 = .ok (.aload_n 0, 1) := by decide +kernel
theorem dc_X9_must_1 : decode mX9_must.2.1 1 = .ok (.aload_n 0, 1) := by decide +kernel
theorem dc_X9_must_2 : decode mX9_must.2.1 2 = .ok (.getfield 237, 3) := by decide +kernel
theorem dc_X9_must_5 : decode mX9_must.2.1 5 = .ok (.ifCond .ne 7, 3) := by decide +kernel
theorem dc_X9_must_8 : decode mX9_must.2.1 8 = .ok (.iload_n 1, 1) := by decide +kernel
theorem dc_X9_must_9 : decode mX9_must.2.1 9 = .ok (.ifCond .ne 7, 3) := by decide +kernel
theorem dc_X9_must_12 : decode mX9_must.2.1 12 = .ok (.iconst 1, 1) := by decide +kernel
theorem dc_X9_must_13 : decode mX9_must.2.1 13 = .ok (.goto 4, 3) := by decide +kernel
theorem dc_X9_must_16 : decode mX9_must.2.1 16 = .ok (.iconst 0, 1) := by decide +kernel
theorem dc_X9_must_17 : decode mX9_must.2.1 17 = .ok (.putfield 237, 3) := by decide +kernel
theorem dc_X9_must_20 : decode mX9_must.2.1 20 = .ok (.aload_n 0, 1) := by decide +kernel
theorem dc_X9_must_21 : decode mX9_must.2.1 21 = .ok (.getfield 237, 3) := by decide +kernel
theorem dc_X9_must_24 : decode mX9_must.2.1 24 = .ok (.ifCond .ne 7, 3) := by decide +kernel
theorem dc_X9_must_27 : decode mX9_must.2.1 27 = .ok (.aload_n 0, 1) := by decide +kernel
theorem dc_X9_must_28 : decode mX9_must.2.1 28 = .ok (.invokevirtual 241, 3) := by decide +kernel
theorem dc_X9_must_31 : decode mX9_must.2.1 31 = .ok (.return_, 1) := by decide +kernel
theorem dc_X9_number_0 : decode mX9_number.2.1 0 = .ok (.aload_n 0, 1) := by decide +kernel
theorem dc_X9_number_1 : decode mX9_number.2.1 1 = .ok (.getfield 224, 3) := by decide +kernel
theorem dc_X9_number_4 : decode mX9_number.2.1 4 = .ok (.istore_n 3, 1) := by decide +kernel
theorem dc_X9_number_5 : decode mX9_number.2.1 5 = .ok (.aload_n 0, 1) := by decide +kernel
theorem dc_X9_number_6 : decode mX9_number.2.1 6 = .ok (.aload_n 0, 1) := by decide +kernel
theorem dc_X9_number_7 : decode mX9_number.2.1 7 = .ok (.getfield 227, 3) := by decide +kernel
theorem dc_X9_number_10 : decode mX9_number.2.1 10 = .ok (.iconst 2, 1) := by decide +kernel
theorem dc_X9_number_11 : decode mX9_number.2.1 11 = .ok (.if_icmp .ne 16, 3) := by decide +kernel
theorem dc_X9_number_14 : decode mX9_number.2.1 14 = .ok (.iload_n 3, 1) := by decide +kernel
theorem dc_X9_number_15 : decode mX9_number.2.1 15 = .ok (.iload_n 1, 1) := by decide +kernel
theorem dc_X9_number_16 : decode mX9_number.2.1 16 = .ok (.iload_n 2, 1) := by decide +kernel
theorem dc_X9_number_17 : decode mX9_number.2.1 17 = .ok (.invokestatic 71, 3) := by decide +kernel
theorem dc_X9_number_20 : decode mX9_number.2.1 20 = .ok (.ifCond .eq 7, 3) := by decide +kernel
theorem dc_X9_number_23 : decode mX9_number.2.1 23 = .ok (.iconst 1, 1) := by decide +kernel
theorem dc_X9_number_24 : decode mX9_number.2.1 24 = .ok (.goto 4, 3) := by decide +kernel
theorem dc_X9_number_27 : decode mX9_number.2.1 27 = .ok (.iconst 0, 1) := by decide +kernel
theorem dc_X9_number_28 : decode mX9_number.2.1 28 = .ok (.invokevirtual 244, 3) := by decide +kernel
theorem dc_X9_number_31 : decode mX9_number.2.1 31 = .ok (.iload_n 3, 1) := by decide +kernel
theorem dc_X9_number_32 : decode mX9_number.2.1 32 = .ok (.ireturn, 1) := by decide +kernel
theorem dc_X9_addItem_0 : decode mX9_addItem.2.1 0 = .ok (.iconst 5, 1) := by decide +kernel
theorem dc_X9_addItem_1 : decode mX9_addItem.2.1 1 = .ok (.aload_n 0, 1) := by decide +kernel
theorem dc_X9_addItem_2 : decode mX9_addItem.2.1 2 = .ok (.getfield 248, 3) := by decide +kernel
theorem dc_X9_addItem_5 : decode mX9_addItem.2.1 5 = .ok (.imul, 1) := by decide +kernel
theorem dc_X9_addItem_6 : decode mX9_addItem.2.1 6 = .ok (.istore 6, 2) := by decide +kernel
theorem dc_X9_addItem_8 : decode mX9_addItem.2.1 8 = .ok (.aload_n 0, 1) := by decide +kernel
theorem dc_X9_addItem_9 : decode mX9_addItem.2.1 9 = .ok (.getfield 45, 3) := by decide +kernel
theorem dc_X9_addItem_12 : decode mX9_addItem.2.1 12 = .ok (.iload 6, 2) := by decide +kernel
theorem dc_X9_addItem_14 : decode mX9_addItem.2.1 14 = .ok (.iload_n 1, 1) := by decide +kernel
theorem dc_X9_addItem_15 : decode mX9_addItem.2.1 15 = .ok (.iastore, 1) := by decide +kernel
theorem dc_X9_addItem_16 : decode mX9_addItem.2.1 16 = .ok (.aload_n 0, 1) := by decide +kernel
theorem dc_X9_addItem_17 : decode mX9_addItem.2.1 17 = .ok (.getfield 45, 3) := by decide +kernel
theorem dc_X9_addItem_20 : decode mX9_addItem.2.1 20 = .ok (.iload 6, 2) := by decide +kernel
theorem dc_X9_addItem_22 : decode mX9_addItem.2.1 22 = .ok (.iconst 1, 1) := by decide +kernel
theorem dc_X9_addItem_23 : decode mX9_addItem.2.1 23 = .ok (.iadd, 1) := by decide +kernel
theorem dc_X9_addItem_24 : decode mX9_addItem.2.1 24 = .ok (.iload_n 2, 1) := by decide +kernel
theorem dc_X9_addItem_25 : decode mX9_addItem.2.1 25 = .ok (.iastore, 1) := by decide +kernel
theorem dc_X9_addItem_26 : decode mX9_addItem.2.1 26 = .ok (.aload_n 0, 1) := by decide +kernel
theorem dc_X9_addItem_27 : decode mX9_addItem.2.1 27 = .ok (.getfield 45, 3) := by decide +kernel
theorem dc_X9_addItem_30 : decode mX9_addItem.2.1 30 = .ok (.iload 6, 2) := by decide +kernel
theorem dc_X9_addItem_32 : decode mX9_addItem.2.1 32 = .ok (.iconst 2, 1) := by decide +kernel
theorem dc_X9_addItem_33 : decode mX9_addItem.2.1 33 = .ok (.iadd, 1) := by decide +kernel
theorem dc_X9_addItem_34 : decode mX9_addItem.2.1 34 = .ok (.iload_n 3, 1) := by decide +kernel
theorem dc_X9_addItem_35 : decode mX9_addItem.2.1 35 = .ok (.iastore, 1) := by decide +kernel
theorem dc_X9_addItem_36 : decode mX9_addItem.2.1 36 = .ok (.aload_n 0, 1) := by decide +kernel
theorem dc_X9_addItem_37 : decode mX9_addItem.2.1 37 = .ok (.getfield 45, 3) := by decide +kernel
theorem dc_X9_addItem_40 : decode mX9_addItem.2.1 40 = .ok (.iload 6, 2) := by decide +kernel
theorem dc_X9_addItem_42 : decode mX9_addItem.2.1 42 = .ok (.iconst 3, 1) := by decide +kernel
theorem dc_X9_addItem_43 : decode mX9_addItem.2.1 43 = .ok (.iadd, 1) := by decide +kernel
theorem dc_X9_addItem_44 : decode mX9_addItem.2.1 44 = .ok (.iload 4, 2) := by decide +kernel
theorem dc_X9_addItem_46 : decode mX9_addItem.2.1 46 = .ok (.iastore, 1) := by decide +kernel
theorem dc_X9_addItem_47 : decode mX9_addItem.2.1 47 = .ok (.aload_n 0, 1) := by decide +kernel
theorem dc_X9_addItem_48 : decode mX9_addItem.2.1 48 = .ok (.getfield 45, 3) := by decide +kernel
theorem dc_X9_addItem_51 : decode mX9_addItem.2.1 51 = .ok (.iload 6, 2) := by decide +kernel
theorem dc_X9_addItem_53 : decode mX9_addItem.2.1 53 = .ok (.iconst 4, 1) := by decide +kernel
theorem dc_X9_addItem_54 : decode mX9_addItem.2.1 54 = .ok (.iadd, 1) := by decide +kernel
theorem dc_X9_addItem_55 : decode mX9_addItem.2.1 55 = .ok (.iload 5, 2) := by decide +kernel
theorem dc_X9_addItem_57 : decode mX9_addItem.2.1 57 = .ok (.iastore, 1) := by decide +kernel
theorem dc_X9_addItem_58 : decode mX9_addItem.2.1 58 = .ok (.aload_n 0, 1) := by decide +kernel
theorem dc_X9_addItem_59 : decode mX9_addItem.2.1 59 = .ok (.dup, 1) := by decide +kernel
theorem dc_X9_addItem_60 : decode mX9_addItem.2.1 60 = .ok (.getfield 248, 3) := by decide +kernel
theorem dc_X9_addItem_63 : decode mX9_addItem.2.1 63 = .ok (.iconst 1, 1) := by decide +kernel
theorem dc_X9_addItem_64 : decode mX9_addItem.2.1 64 = .ok (.iadd, 1) := by decide +kernel
theorem dc_X9_addItem_65 : decode mX9_addItem.2.1 65 = .ok (.putfield 248, 3) := by decide +kernel
theorem dc_X9_addItem_68 : decode mX9_addItem.2.1 68 = .ok (.return_, 1) := by decide +kernel
theorem dc_X9_takesWord_0 : decode mX9_takesWord.2.1 0 = .ok (.aload_n 0, 1) := by decide +kernel
theorem dc_X9_takesWord_1 : decode mX9_takesWord.2.1 1 = .ok (.getfield 237, 3) := by decide +kernel
theorem dc_X9_takesWord_4 : decode mX9_takesWord.2.1 4 = .ok (.ifCond .ne 15, 3) := by decide +kernel
theorem dc_X9_takesWord_7 : decode mX9_takesWord.2.1 7 = .ok (.aload_n 0, 1) := by decide +kernel
theorem dc_X9_takesWord_8 : decode mX9_takesWord.2.1 8 = .ok (.aload_n 1, 1) := by decide +kernel
theorem dc_X9_takesWord_9 : decode mX9_takesWord.2.1 9 = .ok (.invokevirtual 251, 3) := by decide +kernel
theorem dc_X9_takesWord_12 : decode mX9_takesWord.2.1 12 = .ok (.ifCond .eq 7, 3) := by decide +kernel
theorem dc_X9_takesWord_15 : decode mX9_takesWord.2.1 15 = .ok (.iconst 1, 1) := by decide +kernel
theorem dc_X9_takesWord_16 : decode mX9_takesWord.2.1 16 = .ok (.goto 4, 3) := by decide +kernel
theorem dc_X9_takesWord_19 : decode mX9_takesWord.2.1 19 = .ok (.iconst 0, 1) := by decide +kernel
theorem dc_X9_takesWord_20 : decode mX9_takesWord.2.1 20 = .ok (.istore_n 2, 1) := by decide +kernel
theorem dc_X9_takesWord_21 : decode mX9_takesWord.2.1 21 = .ok (.iload_n 2, 1) := by decide +kernel
theorem dc_X9_takesWord_22 : decode mX9_takesWord.2.1 22 = .ok (.ifCond .eq 8, 3) := by decide +kernel
theorem dc_X9_takesWord_25 : decode mX9_takesWord.2.1 25 = .ok (.aload_n 0, 1) := by decide +kernel
theorem dc_X9_takesWord_26 : decode mX9_takesWord.2.1 26 = .ok (.iconst 1, 1) := by decide +kernel
theorem dc_X9_takesWord_27 : decode mX9_takesWord.2.1 27 = .ok (.invokevirtual 244, 3) := by decide +kernel
theorem dc_X9_takesWord_30 : decode mX9_takesWord.2.1 30 = .ok (.iload_n 2, 1) := by decide +kernel
theorem dc_X9_takesWord_31 : decode mX9_takesWord.2.1 31 = .ok (.ireturn, 1) := by decide +kernel
theorem dc_X9_readShip_0 : decode mX9_readShip.2.1 0 = .ok (.aload_n 0, 1) := by decide +kernel
theorem dc_X9_readShip_1 : decode mX9_readShip.2.1 1 = .ok (.aload_n 0, 1) := by decide +kernel
theorem dc_X9_readShip_2 : decode mX9_readShip.2.1 2 = .ok (.getfield 255, 3) := by decide +kernel
theorem dc_X9_readShip_5 : decode mX9_readShip.2.1 5 = .ok (.bipush 8, 2) := by decide +kernel
theorem dc_X9_readShip_7 : decode mX9_readShip.2.1 7 = .ok (.if_icmp .ge 7, 3) := by decide +kernel
theorem dc_X9_readShip_10 : decode mX9_readShip.2.1 10 = .ok (.iconst 1, 1) := by decide +kernel
theorem dc_X9_readShip_11 : decode mX9_readShip.2.1 11 = .ok (.goto 4, 3) := by decide +kernel
theorem dc_X9_readShip_14 : decode mX9_readShip.2.1 14 = .ok (.iconst 0, 1) := by decide +kernel
theorem dc_X9_readShip_15 : decode mX9_readShip.2.1 15 = .ok (.invokevirtual 244, 3) := by decide +kernel
theorem dc_X9_readShip_18 : decode mX9_readShip.2.1 18 = .ok (.aload_n 0, 1) := by decide +kernel
theorem dc_X9_readShip_19 : decode mX9_readShip.2.1 19 = .ok (.ldc_w 258, 3) := by decide +kernel
theorem dc_X9_readShip_22 : decode mX9_readShip.2.1 22 = .ok (.invokevirtual 260, 3) := by decide +kernel
theorem dc_X9_readShip_25 : decode mX9_readShip.2.1 25 = .ok (.ifCond .eq 13, 3) := by decide +kernel
theorem dc_X9_readShip_28 : decode mX9_readShip.2.1 28 = .ok (.aload_n 0, 1) := by decide +kernel
theorem dc_X9_readShip_29 : decode mX9_readShip.2.1 29 = .ok (.iconst 0, 1) := by decide +kernel
theorem dc_X9_readShip_30 : decode mX9_readShip.2.1 30 = .ok (.bipush 23, 2) := by decide +kernel
theorem dc_X9_readShip_32 : decode mX9_readShip.2.1 32 = .ok (.invokevirtual 263, 3) := by decide +kernel
theorem dc_X9_readShip_35 : decode mX9_readShip.2.1 35 = .ok (.goto 5, 3) := by decide +kernel
theorem dc_X9_readShip_38 : decode mX9_readShip.2.1 38 = .ok (.bipush 11, 2) := by decide +kernel
theorem dc_X9_readShip_40 : decode mX9_readShip.2.1 40 = .ok (.istore_n 2, 1) := by decide +kernel
theorem dc_X9_readShip_41 : decode mX9_readShip.2.1 41 = .ok (.aload_n 0, 1) := by decide +kernel
theorem dc_X9_readShip_42 : decode mX9_readShip.2.1 42 = .ok (.ldc_w 266, 3) := by decide +kernel
theorem dc_X9_readShip_45 : decode mX9_readShip.2.1 45 = .ok (.invokevirtual 260, 3) := by decide +kernel
theorem dc_X9_readShip_48 : decode mX9_readShip.2.1 48 = .ok (.ifCond .eq 7, 3) := by decide +kernel
theorem dc_X9_readShip_51 : decode mX9_readShip.2.1 51 = .ok (.iconst 0, 1) := by decide +kernel
theorem dc_X9_readShip_52 : decode mX9_readShip.2.1 52 = .ok (.goto 4, 3) := by decide +kernel
theorem dc_X9_readShip_55 : decode mX9_readShip.2.1 55 = .ok (.iconst 1, 1) := by decide +kernel
theorem dc_X9_readShip_56 : decode mX9_readShip.2.1 56 = .ok (.istore_n 3, 1) := by decide +kernel
theorem dc_X9_readShip_57 : decode mX9_readShip.2.1 57 = .ok (.aload_n 0, 1) := by decide +kernel
theorem dc_X9_readShip_58 : decode mX9_readShip.2.1 58 = .ok (.ldc_w 268, 3) := by decide +kernel
theorem dc_X9_readShip_61 : decode mX9_readShip.2.1 61 = .ok (.invokevirtual 260, 3) := by decide +kernel
theorem dc_X9_readShip_64 : decode mX9_readShip.2.1 64 = .ok (.ifCond .eq 12, 3) := by decide +kernel
theorem dc_X9_readShip_67 : decode mX9_readShip.2.1 67 = .ok (.aload_n 0, 1) := by decide +kernel
theorem dc_X9_readShip_68 : decode mX9_readShip.2.1 68 = .ok (.iconst 0, 1) := by decide +kernel
theorem dc_X9_readShip_69 : decode mX9_readShip.2.1 69 = .ok (.iconst 5, 1) := by decide +kernel
theorem dc_X9_readShip_70 : decode mX9_readShip.2.1 70 = .ok (.invokevirtual 263, 3) := by decide +kernel
theorem dc_X9_readShip_73 : decode mX9_readShip.2.1 73 = .ok (.goto 4, 3) := by decide +kernel
theorem dc_X9_readShip_76 : decode mX9_readShip.2.1 76 = .ok (.iconst 1, 1) := by decide +kernel
theorem dc_X9_readShip_77 : decode mX9_readShip.2.1 77 = .ok (.istore 4, 2) := by decide +kernel
theorem dc_X9_readShip_79 : decode mX9_readShip.2.1 79 = .ok (.aload_n 0, 1) := by decide +kernel
theorem dc_X9_readShip_80 : decode mX9_readShip.2.1 80 = .ok (.iload_n 1, 1) := by decide +kernel
theorem dc_X9_readShip_81 : decode mX9_readShip.2.1 81 = .ok (.iload_n 2, 1) := by decide +kernel
theorem dc_X9_readShip_82 : decode mX9_readShip.2.1 82 = .ok (.iload_n 3, 1) := by decide +kernel
theorem dc_X9_readShip_83 : decode mX9_readShip.2.1 83 = .ok (.iload 4, 2) := by decide +kernel
theorem dc_X9_readShip_85 : decode mX9_readShip.2.1 85 = .ok (.aload_n 0, 1) := by decide +kernel
theorem dc_X9_readShip_86 : decode mX9_readShip.2.1 86 = .ok (.ldc_w 270, 3) := by decide +kernel
theorem dc_X9_readShip_89 : decode mX9_readShip.2.1 89 = .ok (.invokevirtual 260, 3) := by decide +kernel
theorem dc_X9_readShip_92 : decode mX9_readShip.2.1 92 = .ok (.ifCond .eq 7, 3) := by decide +kernel
theorem dc_X9_readShip_95 : decode mX9_readShip.2.1 95 = .ok (.iconst 1, 1) := by decide +kernel
theorem dc_X9_readShip_96 : decode mX9_readShip.2.1 96 = .ok (.goto 4, 3) := by decide +kernel
theorem dc_X9_readShip_99 : decode mX9_readShip.2.1 99 = .ok (.iconst 0, 1) := by decide +kernel
theorem dc_X9_readShip_100 : decode mX9_readShip.2.1 100 = .ok (.invokevirtual 272, 3) := by decide +kernel
theorem dc_X9_readShip_103 : decode mX9_readShip.2.1 103 = .ok (.aload_n 0, 1) := by decide +kernel
theorem dc_X9_readShip_104 : decode mX9_readShip.2.1 104 = .ok (.dup, 1) := by decide +kernel
theorem dc_X9_readShip_105 : decode mX9_readShip.2.1 105 = .ok (.getfield 255, 3) := by decide +kernel
theorem dc_X9_readShip_108 : decode mX9_readShip.2.1 108 = .ok (.iconst 1, 1) := by decide +kernel
theorem dc_X9_readShip_109 : decode mX9_readShip.2.1 109 = .ok (.iadd, 1) := by decide +kernel
theorem dc_X9_readShip_110 : decode mX9_readShip.2.1 110 = .ok (.putfield 255, 3) := by decide +kernel
theorem dc_X9_readShip_113 : decode mX9_readShip.2.1 113 = .ok (.return_, 1) := by decide +kernel
theorem dc_X9_readItem_0 : decode mX9_readItem.2.1 0 = .ok (.iconst (-1), 1) := by decide +kernel
theorem dc_X9_readItem_1 : decode mX9_readItem.2.1 1 = .ok (.istore_n 1, 1) := by decide +kernel
theorem dc_X9_readItem_2 : decode mX9_readItem.2.1 2 = .ok (.iconst 0, 1) := by decide +kernel
theorem dc_X9_readItem_3 : decode mX9_readItem.2.1 3 = .ok (.istore_n 2, 1) := by decide +kernel
theorem dc_X9_readItem_4 : decode mX9_readItem.2.1 4 = .ok (.iload_n 2, 1) := by decide +kernel
theorem dc_X9_readItem_5 : decode mX9_readItem.2.1 5 = .ok (.aload_n 0, 1) := by decide +kernel
theorem dc_X9_readItem_6 : decode mX9_readItem.2.1 6 = .ok (.getfield 41, 3) := by decide +kernel
theorem dc_X9_readItem_9 : decode mX9_readItem.2.1 9 = .ok (.arraylength, 1) := by decide +kernel
theorem dc_X9_readItem_10 : decode mX9_readItem.2.1 10 = .ok (.if_icmp .ge 28, 3) := by decide +kernel
theorem dc_X9_readItem_13 : decode mX9_readItem.2.1 13 = .ok (.aload_n 0, 1) := by decide +kernel
theorem dc_X9_readItem_14 : decode mX9_readItem.2.1 14 = .ok (.aload_n 0, 1) := by decide +kernel
theorem dc_X9_readItem_15 : decode mX9_readItem.2.1 15 = .ok (.getfield 41, 3) := by decide +kernel
theorem dc_X9_readItem_18 : decode mX9_readItem.2.1 18 = .ok (.iload_n 2, 1) := by decide +kernel
theorem dc_X9_readItem_19 : decode mX9_readItem.2.1 19 = .ok (.aaload, 1) := by decide +kernel
theorem dc_X9_readItem_20 : decode mX9_readItem.2.1 20 = .ok (.invokevirtual 251, 3) := by decide +kernel
theorem dc_X9_readItem_23 : decode mX9_readItem.2.1 23 = .ok (.ifCond .eq 7, 3) := by decide +kernel
theorem dc_X9_readItem_26 : decode mX9_readItem.2.1 26 = .ok (.iload_n 2, 1) := by decide +kernel
theorem dc_X9_readItem_27 : decode mX9_readItem.2.1 27 = .ok (.goto 4, 3) := by decide +kernel
theorem dc_X9_readItem_30 : decode mX9_readItem.2.1 30 = .ok (.iload_n 1, 1) := by decide +kernel
theorem dc_X9_readItem_31 : decode mX9_readItem.2.1 31 = .ok (.istore_n 1, 1) := by decide +kernel
theorem dc_X9_readItem_32 : decode mX9_readItem.2.1 32 = .ok (.iinc 2 1, 3) := by decide +kernel
theorem dc_X9_readItem_35 : decode mX9_readItem.2.1 35 = .ok (.goto (-31), 3) := by decide +kernel
theorem dc_X9_readItem_38 : decode mX9_readItem.2.1 38 = .ok (.iload_n 1, 1) := by decide +kernel
theorem dc_X9_readItem_39 : decode mX9_readItem.2.1 39 = .ok (.ifCond .lt 11, 3) := by decide +kernel
theorem dc_X9_readItem_42 : decode mX9_readItem.2.1 42 = .ok (.aload_n 0, 1) := by decide +kernel
theorem dc_X9_readItem_43 : decode mX9_readItem.2.1 43 = .ok (.iload_n 1, 1) := by decide +kernel
theorem dc_X9_readItem_44 : decode mX9_readItem.2.1 44 = .ok (.invokevirtual 276, 3) := by decide +kernel
theorem dc_X9_readItem_47 : decode mX9_readItem.2.1 47 = .ok (.goto 95, 3) := by decide +kernel
theorem dc_X9_readItem_50 : decode mX9_readItem.2.1 50 = .ok (.aload_n 0, 1) := by decide +kernel
theorem dc_X9_readItem_51 : decode mX9_readItem.2.1 51 = .ok (.ldc_w 279, 3) := by decide +kernel
theorem dc_X9_readItem_54 : decode mX9_readItem.2.1 54 = .ok (.invokevirtual 260, 3) := by decide +kernel
theorem dc_X9_readItem_57 : decode mX9_readItem.2.1 57 = .ok (.ifCond .eq 23, 3) := by decide +kernel
theorem dc_X9_readItem_60 : decode mX9_readItem.2.1 60 = .ok (.aload_n 0, 1) := by decide +kernel
theorem dc_X9_readItem_61 : decode mX9_readItem.2.1 61 = .ok (.bipush 10, 2) := by decide +kernel
theorem dc_X9_readItem_63 : decode mX9_readItem.2.1 63 = .ok (.aload_n 0, 1) := by decide +kernel
theorem dc_X9_readItem_64 : decode mX9_readItem.2.1 64 = .ok (.iconst 0, 1) := by decide +kernel
theorem dc_X9_readItem_65 : decode mX9_readItem.2.1 65 = .ok (.sipush 4095, 3) := by decide +kernel
theorem dc_X9_readItem_68 : decode mX9_readItem.2.1 68 = .ok (.invokevirtual 263, 3) := by decide +kernel
theorem dc_X9_readItem_71 : decode mX9_readItem.2.1 71 = .ok (.iconst 0, 1) := by decide +kernel
theorem dc_X9_readItem_72 : decode mX9_readItem.2.1 72 = .ok (.iconst 0, 1) := by decide +kernel
theorem dc_X9_readItem_73 : decode mX9_readItem.2.1 73 = .ok (.iconst 0, 1) := by decide +kernel
theorem dc_X9_readItem_74 : decode mX9_readItem.2.1 74 = .ok (.invokevirtual 272, 3) := by decide +kernel
theorem dc_X9_readItem_77 : decode mX9_readItem.2.1 77 = .ok (.goto 65, 3) := by decide +kernel
theorem dc_X9_readItem_80 : decode mX9_readItem.2.1 80 = .ok (.aload_n 0, 1) := by decide +kernel
theorem dc_X9_readItem_81 : decode mX9_readItem.2.1 81 = .ok (.ldc_w 281, 3) := by decide +kernel
theorem dc_X9_readItem_84 : decode mX9_readItem.2.1 84 = .ok (.invokevirtual 260, 3) := by decide +kernel
theorem dc_X9_readItem_87 : decode mX9_readItem.2.1 87 = .ok (.ifCond .eq 22, 3) := by decide +kernel
theorem dc_X9_readItem_90 : decode mX9_readItem.2.1 90 = .ok (.aload_n 0, 1) := by decide +kernel
theorem dc_X9_readItem_91 : decode mX9_readItem.2.1 91 = .ok (.bipush 11, 2) := by decide +kernel
theorem dc_X9_readItem_93 : decode mX9_readItem.2.1 93 = .ok (.aload_n 0, 1) := by decide +kernel
theorem dc_X9_readItem_94 : decode mX9_readItem.2.1 94 = .ok (.iconst 0, 1) := by decide +kernel
theorem dc_X9_readItem_95 : decode mX9_readItem.2.1 95 = .ok (.bipush 23, 2) := by decide +kernel
theorem dc_X9_readItem_97 : decode mX9_readItem.2.1 97 = .ok (.invokevirtual 263, 3) := by decide +kernel
theorem dc_X9_readItem_100 : decode mX9_readItem.2.1 100 = .ok (.iconst 0, 1) := by decide +kernel
theorem dc_X9_readItem_101 : decode mX9_readItem.2.1 101 = .ok (.iconst 0, 1) := by decide +kernel
theorem dc_X9_readItem_102 : decode mX9_readItem.2.1 102 = .ok (.iconst 0, 1) := by decide +kernel
theorem dc_X9_readItem_103 : decode mX9_readItem.2.1 103 = .ok (.invokevirtual 272, 3) := by decide +kernel
theorem dc_X9_readItem_106 : decode mX9_readItem.2.1 106 = .ok (.goto 36, 3) := by decide +kernel
theorem dc_X9_readItem_109 : decode mX9_readItem.2.1 109 = .ok (.aload_n 0, 1) := by decide +kernel
theorem dc_X9_readItem_110 : decode mX9_readItem.2.1 110 = .ok (.ldc_w 283, 3) := by decide +kernel
theorem dc_X9_readItem_113 : decode mX9_readItem.2.1 113 = .ok (.invokevirtual 260, 3) := by decide +kernel
theorem dc_X9_readItem_116 : decode mX9_readItem.2.1 116 = .ok (.ifCond .eq 21, 3) := by decide +kernel
theorem dc_X9_readItem_119 : decode mX9_readItem.2.1 119 = .ok (.aload_n 0, 1) := by decide +kernel
theorem dc_X9_readItem_120 : decode mX9_readItem.2.1 120 = .ok (.bipush 12, 2) := by decide +kernel
theorem dc_X9_readItem_122 : decode mX9_readItem.2.1 122 = .ok (.aload_n 0, 1) := by decide +kernel
theorem dc_X9_readItem_123 : decode mX9_readItem.2.1 123 = .ok (.iconst 0, 1) := by decide +kernel
theorem dc_X9_readItem_124 : decode mX9_readItem.2.1 124 = .ok (.iconst 1, 1) := by decide +kernel
theorem dc_X9_readItem_125 : decode mX9_readItem.2.1 125 = .ok (.invokevirtual 263, 3) := by decide +kernel
theorem dc_X9_readItem_128 : decode mX9_readItem.2.1 128 = .ok (.iconst 0, 1) := by decide +kernel
theorem dc_X9_readItem_129 : decode mX9_readItem.2.1 129 = .ok (.iconst 0, 1) := by decide +kernel
theorem dc_X9_readItem_130 : decode mX9_readItem.2.1 130 = .ok (.iconst 0, 1) := by decide +kernel
theorem dc_X9_readItem_131 : decode mX9_readItem.2.1 131 = .ok (.invokevirtual 272, 3) := by decide +kernel
theorem dc_X9_readItem_134 : decode mX9_readItem.2.1 134 = .ok (.goto 8, 3) := by decide +kernel
theorem dc_X9_readItem_137 : decode mX9_readItem.2.1 137 = .ok (.aload_n 0, 1) := by decide +kernel
theorem dc_X9_readItem_138 : decode mX9_readItem.2.1 138 = .ok (.iconst 0, 1) := by decide +kernel
theorem dc_X9_readItem_139 : decode mX9_readItem.2.1 139 = .ok (.invokevirtual 244, 3) := by decide +kernel
theorem dc_X9_readItem_142 : decode mX9_readItem.2.1 142 = .ok (.return_, 1) := by decide +kernel
theorem dc_X9_isToldSo_0 : decode mX9_isToldSo.2.1 0 = .ok (.aload_n 0, 1) := by decide +kernel
theorem dc_X9_isToldSo_1 : decode mX9_isToldSo.2.1 1 = .ok (.getfield 45, 3) := by decide +kernel
theorem dc_X9_isToldSo_4 : decode mX9_isToldSo.2.1 4 = .ok (.iload_n 1, 1) := by decide +kernel
theorem dc_X9_isToldSo_5 : decode mX9_isToldSo.2.1 5 = .ok (.iconst 1, 1) := by decide +kernel
theorem dc_X9_isToldSo_6 : decode mX9_isToldSo.2.1 6 = .ok (.iadd, 1) := by decide +kernel
theorem dc_X9_isToldSo_7 : decode mX9_isToldSo.2.1 7 = .ok (.iaload, 1) := by decide +kernel
theorem dc_X9_isToldSo_8 : decode mX9_isToldSo.2.1 8 = .ok (.istore_n 2, 1) := by decide +kernel
theorem dc_X9_isToldSo_9 : decode mX9_isToldSo.2.1 9 = .ok (.aload_n 0, 1) := by decide +kernel
theorem dc_X9_isToldSo_10 : decode mX9_isToldSo.2.1 10 = .ok (.getfield 45, 3) := by decide +kernel
theorem dc_X9_isToldSo_13 : decode mX9_isToldSo.2.1 13 = .ok (.iload_n 1, 1) := by decide +kernel
theorem dc_X9_isToldSo_14 : decode mX9_isToldSo.2.1 14 = .ok (.iaload, 1) := by decide +kernel
theorem dc_X9_isToldSo_15 : decode mX9_isToldSo.2.1 15 = .ok (.tableswitch 55 10 12 #[25, 35, 45], 25) := by decide +kernel
theorem dc_X9_isToldSo_40 : decode mX9_isToldSo.2.1 40 = .ok (.aload_n 0, 1) := by decide +kernel
theorem dc_X9_isToldSo_41 : decode mX9_isToldSo.2.1 41 = .ok (.getfield 9, 3) := by decide +kernel
theorem dc_X9_isToldSo_44 : decode mX9_isToldSo.2.1 44 = .ok (.iconst 3, 1) := by decide +kernel
theorem dc_X9_isToldSo_45 : decode mX9_isToldSo.2.1 45 = .ok (.iload_n 2, 1) := by decide +kernel
theorem dc_X9_isToldSo_46 : decode mX9_isToldSo.2.1 46 = .ok (.iastore, 1) := by decide +kernel
theorem dc_X9_isToldSo_47 : decode mX9_isToldSo.2.1 47 = .ok (.goto 89, 3) := by decide +kernel
theorem dc_X9_isToldSo_50 : decode mX9_isToldSo.2.1 50 = .ok (.aload_n 0, 1) := by decide +kernel
theorem dc_X9_isToldSo_51 : decode mX9_isToldSo.2.1 51 = .ok (.getfield 9, 3) := by decide +kernel
theorem dc_X9_isToldSo_54 : decode mX9_isToldSo.2.1 54 = .ok (.iconst 4, 1) := by decide +kernel
theorem dc_X9_isToldSo_55 : decode mX9_isToldSo.2.1 55 = .ok (.iload_n 2, 1) := by decide +kernel
theorem dc_X9_isToldSo_56 : decode mX9_isToldSo.2.1 56 = .ok (.iastore, 1) := by decide +kernel
theorem dc_X9_isToldSo_57 : decode mX9_isToldSo.2.1 57 = .ok (.goto 79, 3) := by decide +kernel
theorem dc_X9_isToldSo_60 : decode mX9_isToldSo.2.1 60 = .ok (.aload_n 0, 1) := by decide +kernel
theorem dc_X9_isToldSo_61 : decode mX9_isToldSo.2.1 61 = .ok (.getfield 9, 3) := by decide +kernel
theorem dc_X9_isToldSo_64 : decode mX9_isToldSo.2.1 64 = .ok (.iconst 5, 1) := by decide +kernel
theorem dc_X9_isToldSo_65 : decode mX9_isToldSo.2.1 65 = .ok (.iload_n 2, 1) := by decide +kernel
theorem dc_X9_isToldSo_66 : decode mX9_isToldSo.2.1 66 = .ok (.iastore, 1) := by decide +kernel
theorem dc_X9_isToldSo_67 : decode mX9_isToldSo.2.1 67 = .ok (.goto 69, 3) := by decide +kernel
theorem dc_X9_isToldSo_70 : decode mX9_isToldSo.2.1 70 = .ok (.aload_n 0, 1) := by decide +kernel
theorem dc_X9_isToldSo_71 : decode mX9_isToldSo.2.1 71 = .ok (.aload_n 0, 1) := by decide +kernel
theorem dc_X9_isToldSo_72 : decode mX9_isToldSo.2.1 72 = .ok (.getfield 45, 3) := by decide +kernel
theorem dc_X9_isToldSo_75 : decode mX9_isToldSo.2.1 75 = .ok (.iload_n 1, 1) := by decide +kernel
theorem dc_X9_isToldSo_76 : decode mX9_isToldSo.2.1 76 = .ok (.iaload, 1) := by decide +kernel
theorem dc_X9_isToldSo_77 : decode mX9_isToldSo.2.1 77 = .ok (.iload_n 2, 1) := by decide +kernel
theorem dc_X9_isToldSo_78 : decode mX9_isToldSo.2.1 78 = .ok (.invokevirtual 104, 3) := by decide +kernel
theorem dc_X9_isToldSo_81 : decode mX9_isToldSo.2.1 81 = .ok (.istore_n 3, 1) := by decide +kernel
theorem dc_X9_isToldSo_82 : decode mX9_isToldSo.2.1 82 = .ok (.aload_n 0, 1) := by decide +kernel
theorem dc_X9_isToldSo_83 : decode mX9_isToldSo.2.1 83 = .ok (.getfield 9, 3) := by decide +kernel
theorem dc_X9_isToldSo_86 : decode mX9_isToldSo.2.1 86 = .ok (.iload_n 3, 1) := by decide +kernel
theorem dc_X9_isToldSo_87 : decode mX9_isToldSo.2.1 87 = .ok (.iconst 2, 1) := by decide +kernel
theorem dc_X9_isToldSo_88 : decode mX9_isToldSo.2.1 88 = .ok (.invokestatic 93, 3) := by decide +kernel
theorem dc_X9_isToldSo_91 : decode mX9_isToldSo.2.1 91 = .ok (.aload_n 0, 1) := by decide +kernel
theorem dc_X9_isToldSo_92 : decode mX9_isToldSo.2.1 92 = .ok (.getfield 45, 3) := by decide +kernel
theorem dc_X9_isToldSo_95 : decode mX9_isToldSo.2.1 95 = .ok (.iload_n 1, 1) := by decide +kernel
theorem dc_X9_isToldSo_96 : decode mX9_isToldSo.2.1 96 = .ok (.iconst 2, 1) := by decide +kernel
theorem dc_X9_isToldSo_97 : decode mX9_isToldSo.2.1 97 = .ok (.iadd, 1) := by decide +kernel
theorem dc_X9_isToldSo_98 : decode mX9_isToldSo.2.1 98 = .ok (.iaload, 1) := by decide +kernel
theorem dc_X9_isToldSo_99 : decode mX9_isToldSo.2.1 99 = .ok (.iastore, 1) := by decide +kernel
theorem dc_X9_isToldSo_100 : decode mX9_isToldSo.2.1 100 = .ok (.aload_n 0, 1) := by decide +kernel
theorem dc_X9_isToldSo_101 : decode mX9_isToldSo.2.1 101 = .ok (.getfield 9, 3) := by decide +kernel
theorem dc_X9_isToldSo_104 : decode mX9_isToldSo.2.1 104 = .ok (.iload_n 3, 1) := by decide +kernel
theorem dc_X9_isToldSo_105 : decode mX9_isToldSo.2.1 105 = .ok (.iconst 3, 1) := by decide +kernel
theorem dc_X9_isToldSo_106 : decode mX9_isToldSo.2.1 106 = .ok (.invokestatic 93, 3) := by decide +kernel
theorem dc_X9_isToldSo_109 : decode mX9_isToldSo.2.1 109 = .ok (.aload_n 0, 1) := by decide +kernel
theorem dc_X9_isToldSo_110 : decode mX9_isToldSo.2.1 110 = .ok (.getfield 45, 3) := by decide +kernel
theorem dc_X9_isToldSo_113 : decode mX9_isToldSo.2.1 113 = .ok (.iload_n 1, 1) := by decide +kernel
theorem dc_X9_isToldSo_114 : decode mX9_isToldSo.2.1 114 = .ok (.iconst 3, 1) := by decide +kernel
theorem dc_X9_isToldSo_115 : decode mX9_isToldSo.2.1 115 = .ok (.iadd, 1) := by decide +kernel
theorem dc_X9_isToldSo_116 : decode mX9_isToldSo.2.1 116 = .ok (.iaload, 1) := by decide +kernel
theorem dc_X9_isToldSo_117 : decode mX9_isToldSo.2.1 117 = .ok (.iastore, 1) := by decide +kernel
theorem dc_X9_isToldSo_118 : decode mX9_isToldSo.2.1 118 = .ok (.aload_n 0, 1) := by decide +kernel
theorem dc_X9_isToldSo_119 : decode mX9_isToldSo.2.1 119 = .ok (.getfield 9, 3) := by decide +kernel
theorem dc_X9_isToldSo_122 : decode mX9_isToldSo.2.1 122 = .ok (.iload_n 3, 1) := by decide +kernel
theorem dc_X9_isToldSo_123 : decode mX9_isToldSo.2.1 123 = .ok (.iconst 4, 1) := by decide +kernel
theorem dc_X9_isToldSo_124 : decode mX9_isToldSo.2.1 124 = .ok (.invokestatic 93, 3) := by decide +kernel
theorem dc_X9_isToldSo_127 : decode mX9_isToldSo.2.1 127 = .ok (.aload_n 0, 1) := by decide +kernel
theorem dc_X9_isToldSo_128 : decode mX9_isToldSo.2.1 128 = .ok (.getfield 45, 3) := by decide +kernel
theorem dc_X9_isToldSo_131 : decode mX9_isToldSo.2.1 131 = .ok (.iload_n 1, 1) := by decide +kernel
theorem dc_X9_isToldSo_132 : decode mX9_isToldSo.2.1 132 = .ok (.iconst 4, 1) := by decide +kernel
theorem dc_X9_isToldSo_133 : decode mX9_isToldSo.2.1 133 = .ok (.iadd, 1) := by decide +kernel
theorem dc_X9_isToldSo_134 : decode mX9_isToldSo.2.1 134 = .ok (.iaload, 1) := by decide +kernel
theorem dc_X9_isToldSo_135 : decode mX9_isToldSo.2.1 135 = .ok (.iastore, 1) := by decide +kernel
theorem dc_X9_isToldSo_136 : decode mX9_isToldSo.2.1 136 = .ok (.return_, 1) := by decide +kernel
theorem dc_X9_text_0 : decode mX9_text.2.1 0 = .ok (.aload_n 0, 1) := by decide +kernel
theorem dc_X9_text_1 : decode mX9_text.2.1 1 = .ok (.iconst 0, 1) := by decide +kernel
theorem dc_X9_text_2 : decode mX9_text.2.1 2 = .ok (.putfield 215, 3) := by decide +kernel
theorem dc_X9_text_5 : decode mX9_text.2.1 5 = .ok (.aload_n 0, 1) := by decide +kernel
theorem dc_X9_text_6 : decode mX9_text.2.1 6 = .ok (.iconst 0, 1) := by decide +kernel
theorem dc_X9_text_7 : decode mX9_text.2.1 7 = .ok (.putfield 237, 3) := by decide +kernel
theorem dc_X9_text_10 : decode mX9_text.2.1 10 = .ok (.aload_n 0, 1) := by decide +kernel
theorem dc_X9_text_11 : decode mX9_text.2.1 11 = .ok (.iconst 0, 1) := by decide +kernel
theorem dc_X9_text_12 : decode mX9_text.2.1 12 = .ok (.putfield 248, 3) := by decide +kernel
theorem dc_X9_text_15 : decode mX9_text.2.1 15 = .ok (.aload_n 0, 1) := by decide +kernel
theorem dc_X9_text_16 : decode mX9_text.2.1 16 = .ok (.aload_n 0, 1) := by decide +kernel
theorem dc_X9_text_17 : decode mX9_text.2.1 17 = .ok (.getfield 9, 3) := by decide +kernel
theorem dc_X9_text_20 : decode mX9_text.2.1 20 = .ok (.iconst 1, 1) := by decide +kernel
theorem dc_X9_text_21 : decode mX9_text.2.1 21 = .ok (.iaload, 1) := by decide +kernel
theorem dc_X9_text_22 : decode mX9_text.2.1 22 = .ok (.putfield 255, 3) := by decide +kernel
theorem dc_X9_text_25 : decode mX9_text.2.1 25 = .ok (.aload_n 0, 1) := by decide +kernel
theorem dc_X9_text_26 : decode mX9_text.2.1 26 = .ok (.invokevirtual 241, 3) := by decide +kernel
theorem dc_X9_text_29 : decode mX9_text.2.1 29 = .ok (.aload_n 0, 1) := by decide +kernel
theorem dc_X9_text_30 : decode mX9_text.2.1 30 = .ok (.invokevirtual 285, 3) := by decide +kernel
theorem dc_X9_text_33 : decode mX9_text.2.1 33 = .ok (.aload_n 0, 1) := by decide +kernel
theorem dc_X9_text_34 : decode mX9_text.2.1 34 = .ok (.getfield 237, 3) := by decide +kernel
theorem dc_X9_text_37 : decode mX9_text.2.1 37 = .ok (.ifCond .ne 37, 3) := by decide +kernel
theorem dc_X9_text_40 : decode mX9_text.2.1 40 = .ok (.aload_n 0, 1) := by decide +kernel
theorem dc_X9_text_41 : decode mX9_text.2.1 41 = .ok (.getfield 227, 3) := by decide +kernel
theorem dc_X9_text_44 : decode mX9_text.2.1 44 = .ok (.iconst 3, 1) := by decide +kernel
theorem dc_X9_text_45 : decode mX9_text.2.1 45 = .ok (.if_icmp .ne 29, 3) := by decide +kernel
theorem dc_X9_text_48 : decode mX9_text.2.1 48 = .ok (.aload_n 0, 1) := by decide +kernel
theorem dc_X9_text_49 : decode mX9_text.2.1 49 = .ok (.getfield 22, 3) := by decide +kernel
theorem dc_X9_text_52 : decode mX9_text.2.1 52 = .ok (.aload_n 0, 1) := by decide +kernel
theorem dc_X9_text_53 : decode mX9_text.2.1 53 = .ok (.getfield 218, 3) := by decide +kernel
theorem dc_X9_text_56 : decode mX9_text.2.1 56 = .ok (.iaload, 1) := by decide +kernel
theorem dc_X9_text_57 : decode mX9_text.2.1 57 = .ok (.bipush 59, 2) := by decide +kernel
theorem dc_X9_text_59 : decode mX9_text.2.1 59 = .ok (.if_icmp .ne 15, 3) := by decide +kernel
theorem dc_X9_text_62 : decode mX9_text.2.1 62 = .ok (.aload_n 0, 1) := by decide +kernel
theorem dc_X9_text_63 : decode mX9_text.2.1 63 = .ok (.iconst 1, 1) := by decide +kernel
theorem dc_X9_text_64 : decode mX9_text.2.1 64 = .ok (.invokevirtual 244, 3) := by decide +kernel
theorem dc_X9_text_67 : decode mX9_text.2.1 67 = .ok (.aload_n 0, 1) := by decide +kernel
theorem dc_X9_text_68 : decode mX9_text.2.1 68 = .ok (.invokevirtual 285, 3) := by decide +kernel
theorem dc_X9_text_71 : decode mX9_text.2.1 71 = .ok (.goto (-38), 3) := by decide +kernel
theorem dc_X9_text_74 : decode mX9_text.2.1 74 = .ok (.aload_n 0, 1) := by decide +kernel
theorem dc_X9_text_75 : decode mX9_text.2.1 75 = .ok (.aload_n 0, 1) := by decide +kernel
theorem dc_X9_text_76 : decode mX9_text.2.1 76 = .ok (.getfield 227, 3) := by decide +kernel
theorem dc_X9_text_79 : decode mX9_text.2.1 79 = .ok (.ifCond .ne 7, 3) := by decide +kernel
theorem dc_X9_text_82 : decode mX9_text.2.1 82 = .ok (.iconst 1, 1) := by decide +kernel
theorem dc_X9_text_83 : decode mX9_text.2.1 83 = .ok (.goto 4, 3) := by decide +kernel
theorem dc_X9_text_86 : decode mX9_text.2.1 86 = .ok (.iconst 0, 1) := by decide +kernel
theorem dc_X9_text_87 : decode mX9_text.2.1 87 = .ok (.invokevirtual 244, 3) := by decide +kernel
theorem dc_X9_text_90 : decode mX9_text.2.1 90 = .ok (.aload_n 0, 1) := by decide +kernel
theorem dc_X9_text_91 : decode mX9_text.2.1 91 = .ok (.iconst 0, 1) := by decide +kernel
theorem dc_X9_text_92 : decode mX9_text.2.1 92 = .ok (.putfield 211, 3) := by decide +kernel
theorem dc_X9_text_95 : decode mX9_text.2.1 95 = .ok (.aload_n 0, 1) := by decide +kernel
theorem dc_X9_text_96 : decode mX9_text.2.1 96 = .ok (.getfield 237, 3) := by decide +kernel
theorem dc_X9_text_99 : decode mX9_text.2.1 99 = .ok (.ifCond .eq 10, 3) := by decide +kernel
theorem dc_X9_text_102 : decode mX9_text.2.1 102 = .ok (.iconst (-1), 1) := by decide +kernel
theorem dc_X9_text_103 : decode mX9_text.2.1 103 = .ok (.aload_n 0, 1) := by decide +kernel
theorem dc_X9_text_104 : decode mX9_text.2.1 104 = .ok (.getfield 218, 3) := by decide +kernel
theorem dc_X9_text_107 : decode mX9_text.2.1 107 = .ok (.isub, 1) := by decide +kernel
theorem dc_X9_text_108 : decode mX9_text.2.1 108 = .ok (.ireturn, 1) := by decide +kernel
theorem dc_X9_text_109 : decode mX9_text.2.1 109 = .ok (.iconst 0, 1) := by decide +kernel
theorem dc_X9_text_110 : decode mX9_text.2.1 110 = .ok (.istore_n 1, 1) := by decide +kernel
theorem dc_X9_text_111 : decode mX9_text.2.1 111 = .ok (.iload_n 1, 1) := by decide +kernel
theorem dc_X9_text_112 : decode mX9_text.2.1 112 = .ok (.aload_n 0, 1) := by decide +kernel
theorem dc_X9_text_113 : decode mX9_text.2.1 113 = .ok (.getfield 248, 3) := by decide +kernel
theorem dc_X9_text_116 : decode mX9_text.2.1 116 = .ok (.if_icmp .ge 16, 3) := by decide +kernel
theorem dc_X9_text_119 : decode mX9_text.2.1 119 = .ok (.aload_n 0, 1) := by decide +kernel
theorem dc_X9_text_120 : decode mX9_text.2.1 120 = .ok (.iconst 5, 1) := by decide +kernel
theorem dc_X9_text_121 : decode mX9_text.2.1 121 = .ok (.iload_n 1, 1) := by decide +kernel
theorem dc_X9_text_122 : decode mX9_text.2.1 122 = .ok (.imul, 1) := by decide +kernel
theorem dc_X9_text_123 : decode mX9_text.2.1 123 = .ok (.invokevirtual 288, 3) := by decide +kernel
theorem dc_X9_text_126 : decode mX9_text.2.1 126 = .ok (.iinc 1 1, 3) := by decide +kernel
theorem dc_X9_text_129 : decode mX9_text.2.1 129 = .ok (.goto (-18), 3) := by decide +kernel
theorem dc_X9_text_132 : decode mX9_text.2.1 132 = .ok (.aload_n 0, 1) := by decide +kernel
theorem dc_X9_text_133 : decode mX9_text.2.1 133 = .ok (.getfield 248, 3) := by decide +kernel
theorem dc_X9_text_136 : decode mX9_text.2.1 136 = .ok (.ireturn, 1) := by decide +kernel
theorem dc_X9_isSpot_0 : decode mX9_isSpot.2.1 0 = .ok (.iload_n 0, 1) := by decide +kernel
theorem dc_X9_isSpot_1 : decode mX9_isSpot.2.1 1 = .ok (.iconst 0, 1) := by decide +kernel
theorem dc_X9_isSpot_2 : decode mX9_isSpot.2.1 2 = .ok (.bipush 9, 2) := by decide +kernel
theorem dc_X9_isSpot_4 : decode mX9_isSpot.2.1 4 = .ok (.invokestatic 71, 3) := by decide +kernel
theorem dc_X9_isSpot_7 : decode mX9_isSpot.2.1 7 = .ok (.ireturn, 1) := by decide +kernel
theorem dc_X9_hold_0 : decode mX9_hold.2.1 0 = .ok (.iload_n 1, 1) := by decide +kernel
theorem dc_X9_hold_1 : decode mX9_hold.2.1 1 = .ok (.invokestatic 291, 3) := by decide +kernel
theorem dc_X9_hold_4 : decode mX9_hold.2.1 4 = .ok (.ifCond .eq 16, 3) := by decide +kernel
theorem dc_X9_hold_7 : decode mX9_hold.2.1 7 = .ok (.iload_n 2, 1) := by decide +kernel
theorem dc_X9_hold_8 : decode mX9_hold.2.1 8 = .ok (.iconst (-1), 1) := by decide +kernel
theorem dc_X9_hold_9 : decode mX9_hold.2.1 9 = .ok (.if_icmp .eq 18, 3) := by decide +kernel
theorem dc_X9_hold_12 : decode mX9_hold.2.1 12 = .ok (.aload_n 0, 1) := by decide +kernel
theorem dc_X9_hold_13 : decode mX9_hold.2.1 13 = .ok (.iload_n 2, 1) := by decide +kernel
theorem dc_X9_hold_14 : decode mX9_hold.2.1 14 = .ok (.invokevirtual 113, 3) := by decide +kernel
theorem dc_X9_hold_17 : decode mX9_hold.2.1 17 = .ok (.ifCond .ne 10, 3) := by decide +kernel
theorem dc_X9_hold_20 : decode mX9_hold.2.1 20 = .ok (.aload_n 0, 1) := by decide +kernel
theorem dc_X9_hold_21 : decode mX9_hold.2.1 21 = .ok (.ldc 60, 2) := by decide +kernel
theorem dc_X9_hold_23 : decode mX9_hold.2.1 23 = .ok (.invokevirtual 66, 3) := by decide +kernel
theorem dc_X9_hold_26 : decode mX9_hold.2.1 26 = .ok (.ireturn, 1) := by decide +kernel
theorem dc_X9_hold_27 : decode mX9_hold.2.1 27 = .ok (.aload_n 0, 1) := by decide +kernel
theorem dc_X9_hold_28 : decode mX9_hold.2.1 28 = .ok (.getfield 9, 3) := by decide +kernel
theorem dc_X9_hold_31 : decode mX9_hold.2.1 31 = .ok (.bipush 7, 2) := by decide +kernel
theorem dc_X9_hold_33 : decode mX9_hold.2.1 33 = .ok (.iload_n 1, 1) := by decide +kernel
theorem dc_X9_hold_34 : decode mX9_hold.2.1 34 = .ok (.iadd, 1) := by decide +kernel
theorem dc_X9_hold_35 : decode mX9_hold.2.1 35 = .ok (.iload_n 2, 1) := by decide +kernel
theorem dc_X9_hold_36 : decode mX9_hold.2.1 36 = .ok (.iastore, 1) := by decide +kernel
theorem dc_X9_hold_37 : decode mX9_hold.2.1 37 = .ok (.iconst 1, 1) := by decide +kernel
theorem dc_X9_hold_38 : decode mX9_hold.2.1 38 = .ok (.ireturn, 1) := by decide +kernel
theorem dc_X9_as_0 : decode mX9_as.2.1 0 = .ok (.iload_n 1, 1) := by decide +kernel
theorem dc_X9_as_1 : decode mX9_as.2.1 1 = .ok (.invokestatic 291, 3) := by decide +kernel
theorem dc_X9_as_4 : decode mX9_as.2.1 4 = .ok (.ifCond .eq 10, 3) := by decide +kernel
theorem dc_X9_as_7 : decode mX9_as.2.1 7 = .ok (.iload_n 2, 1) := by decide +kernel
theorem dc_X9_as_8 : decode mX9_as.2.1 8 = .ok (.invokestatic 96, 3) := by decide +kernel
theorem dc_X9_as_11 : decode mX9_as.2.1 11 = .ok (.ifCond .ne 10, 3) := by decide +kernel
theorem dc_X9_as_14 : decode mX9_as.2.1 14 = .ok (.aload_n 0, 1) := by decide +kernel
theorem dc_X9_as_15 : decode mX9_as.2.1 15 = .ok (.ldc 60, 2) := by decide +kernel
theorem dc_X9_as_17 : decode mX9_as.2.1 17 = .ok (.invokevirtual 66, 3) := by decide +kernel
theorem dc_X9_as_20 : decode mX9_as.2.1 20 = .ok (.ireturn, 1) := by decide +kernel
theorem dc_X9_as_21 : decode mX9_as.2.1 21 = .ok (.aload_n 0, 1) := by decide +kernel
theorem dc_X9_as_22 : decode mX9_as.2.1 22 = .ok (.getfield 9, 3) := by decide +kernel
theorem dc_X9_as_25 : decode mX9_as.2.1 25 = .ok (.bipush 7, 2) := by decide +kernel
theorem dc_X9_as_27 : decode mX9_as.2.1 27 = .ok (.iload_n 1, 1) := by decide +kernel
theorem dc_X9_as_28 : decode mX9_as.2.1 28 = .ok (.iadd, 1) := by decide +kernel
theorem dc_X9_as_29 : decode mX9_as.2.1 29 = .ok (.iaload, 1) := by decide +kernel
theorem dc_X9_as_30 : decode mX9_as.2.1 30 = .ok (.istore_n 3, 1) := by decide +kernel
theorem dc_X9_as_31 : decode mX9_as.2.1 31 = .ok (.iload_n 3, 1) := by decide +kernel
theorem dc_X9_as_32 : decode mX9_as.2.1 32 = .ok (.ifCond .ge 10, 3) := by decide +kernel
theorem dc_X9_as_35 : decode mX9_as.2.1 35 = .ok (.aload_n 0, 1) := by decide +kernel
theorem dc_X9_as_36 : decode mX9_as.2.1 36 = .ok (.ldc 196, 2) := by decide +kernel
theorem dc_X9_as_38 : decode mX9_as.2.1 38 = .ok (.invokevirtual 66, 3) := by decide +kernel
theorem dc_X9_as_41 : decode mX9_as.2.1 41 = .ok (.ireturn, 1) := by decide +kernel
theorem dc_X9_as_42 : decode mX9_as.2.1 42 = .ok (.aload_n 0, 1) := by decide +kernel
theorem dc_X9_as_43 : decode mX9_as.2.1 43 = .ok (.iload_n 3, 1) := by decide +kernel
theorem dc_X9_as_44 : decode mX9_as.2.1 44 = .ok (.iconst 0, 1) := by decide +kernel
theorem dc_X9_as_45 : decode mX9_as.2.1 45 = .ok (.invokevirtual 107, 3) := by decide +kernel
theorem dc_X9_as_48 : decode mX9_as.2.1 48 = .ok (.iload_n 2, 1) := by decide +kernel
theorem dc_X9_as_49 : decode mX9_as.2.1 49 = .ok (.invokestatic 294, 3) := by decide +kernel
theorem dc_X9_as_52 : decode mX9_as.2.1 52 = .ok (.ifCond .eq 7, 3) := by decide +kernel
theorem dc_X9_as_55 : decode mX9_as.2.1 55 = .ok (.iload_n 3, 1) := by decide +kernel
theorem dc_X9_as_56 : decode mX9_as.2.1 56 = .ok (.goto 10, 3) := by decide +kernel
theorem dc_X9_as_59 : decode mX9_as.2.1 59 = .ok (.aload_n 0, 1) := by decide +kernel
theorem dc_X9_as_60 : decode mX9_as.2.1 60 = .ok (.ldc_w 297, 3) := by decide +kernel
theorem dc_X9_as_63 : decode mX9_as.2.1 63 = .ok (.invokevirtual 66, 3) := by decide +kernel
theorem dc_X9_as_66 : decode mX9_as.2.1 66 = .ok (.ireturn, 1) := by decide +kernel
theorem dc_X9_isSheet_0 : decode mX9_isSheet.2.1 0 = .ok (.iload_n 0, 1) := by decide +kernel
theorem dc_X9_isSheet_1 : decode mX9_isSheet.2.1 1 = .ok (.iconst 0, 1) := by decide +kernel
theorem dc_X9_isSheet_2 : decode mX9_isSheet.2.1 2 = .ok (.iconst 3, 1) := by decide +kernel
theorem dc_X9_isSheet_3 : decode mX9_isSheet.2.1 3 = .ok (.invokestatic 71, 3) := by decide +kernel
theorem dc_X9_isSheet_6 : decode mX9_isSheet.2.1 6 = .ok (.ireturn, 1) := by decide +kernel
theorem dc_X9_cutTo_0 : decode mX9_cutTo.2.1 0 = .ok (.iload_n 1, 1) := by decide +kernel
theorem dc_X9_cutTo_1 : decode mX9_cutTo.2.1 1 = .ok (.bipush 8, 2) := by decide +kernel
theorem dc_X9_cutTo_3 : decode mX9_cutTo.2.1 3 = .ok (.if_icmp .ne 8, 3) := by decide +kernel
theorem dc_X9_cutTo_6 : decode mX9_cutTo.2.1 6 = .ok (.iload_n 0, 1) := by decide +kernel
theorem dc_X9_cutTo_7 : decode mX9_cutTo.2.1 7 = .ok (.i2b, 1) := by decide +kernel
theorem dc_X9_cutTo_8 : decode mX9_cutTo.2.1 8 = .ok (.goto 15, 3) := by decide +kernel
theorem dc_X9_cutTo_11 : decode mX9_cutTo.2.1 11 = .ok (.iload_n 1, 1) := by decide +kernel
theorem dc_X9_cutTo_12 : decode mX9_cutTo.2.1 12 = .ok (.bipush 16, 2) := by decide +kernel
theorem dc_X9_cutTo_14 : decode mX9_cutTo.2.1 14 = .ok (.if_icmp .ne 8, 3) := by decide +kernel
theorem dc_X9_cutTo_17 : decode mX9_cutTo.2.1 17 = .ok (.iload_n 0, 1) := by decide +kernel
theorem dc_X9_cutTo_18 : decode mX9_cutTo.2.1 18 = .ok (.i2s, 1) := by decide +kernel
theorem dc_X9_cutTo_19 : decode mX9_cutTo.2.1 19 = .ok (.goto 4, 3) := by decide +kernel
theorem dc_X9_cutTo_22 : decode mX9_cutTo.2.1 22 = .ok (.iload_n 0, 1) := by decide +kernel
theorem dc_X9_cutTo_23 : decode mX9_cutTo.2.1 23 = .ok (.ireturn, 1) := by decide +kernel
theorem dc_X9_sheet_0 : decode mX9_sheet.2.1 0 = .ok (.iload_n 1, 1) := by decide +kernel
theorem dc_X9_sheet_1 : decode mX9_sheet.2.1 1 = .ok (.invokestatic 193, 3) := by decide +kernel
theorem dc_X9_sheet_4 : decode mX9_sheet.2.1 4 = .ok (.ifCond .eq 25, 3) := by decide +kernel
theorem dc_X9_sheet_7 : decode mX9_sheet.2.1 7 = .ok (.iload_n 2, 1) := by decide +kernel
theorem dc_X9_sheet_8 : decode mX9_sheet.2.1 8 = .ok (.ifCond .eq 28, 3) := by decide +kernel
theorem dc_X9_sheet_11 : decode mX9_sheet.2.1 11 = .ok (.iload_n 2, 1) := by decide +kernel
theorem dc_X9_sheet_12 : decode mX9_sheet.2.1 12 = .ok (.bipush 8, 2) := by decide +kernel
theorem dc_X9_sheet_14 : decode mX9_sheet.2.1 14 = .ok (.if_icmp .eq 22, 3) := by decide +kernel
theorem dc_X9_sheet_17 : decode mX9_sheet.2.1 17 = .ok (.iload_n 2, 1) := by decide +kernel
theorem dc_X9_sheet_18 : decode mX9_sheet.2.1 18 = .ok (.bipush 16, 2) := by decide +kernel
theorem dc_X9_sheet_20 : decode mX9_sheet.2.1 20 = .ok (.if_icmp .eq 16, 3) := by decide +kernel
theorem dc_X9_sheet_23 : decode mX9_sheet.2.1 23 = .ok (.iload_n 2, 1) := by decide +kernel
theorem dc_X9_sheet_24 : decode mX9_sheet.2.1 24 = .ok (.bipush 32, 2) := by decide +kernel
theorem dc_X9_sheet_26 : decode mX9_sheet.2.1 26 = .ok (.if_icmp .eq 10, 3) := by decide +kernel
theorem dc_X9_sheet_29 : decode mX9_sheet.2.1 29 = .ok (.aload_n 0, 1) := by decide +kernel
theorem dc_X9_sheet_30 : decode mX9_sheet.2.1 30 = .ok (.ldc 60, 2) := by decide +kernel
theorem dc_X9_sheet_32 : decode mX9_sheet.2.1 32 = .ok (.invokevirtual 66, 3) := by decide +kernel
theorem dc_X9_sheet_35 : decode mX9_sheet.2.1 35 = .ok (.ireturn, 1) := by decide +kernel
theorem dc_X9_sheet_36 : decode mX9_sheet.2.1 36 = .ok (.iload_n 3, 1) := by decide +kernel
theorem dc_X9_sheet_37 : decode mX9_sheet.2.1 37 = .ok (.ifCond .ge 11, 3) := by decide +kernel
theorem dc_X9_sheet_40 : decode mX9_sheet.2.1 40 = .ok (.aload_n 0, 1) := by decide +kernel
theorem dc_X9_sheet_41 : decode mX9_sheet.2.1 41 = .ok (.ldc_w 298, 3) := by decide +kernel
theorem dc_X9_sheet_44 : decode mX9_sheet.2.1 44 = .ok (.invokevirtual 66, 3) := by decide +kernel
theorem dc_X9_sheet_47 : decode mX9_sheet.2.1 47 = .ok (.ireturn, 1) := by decide +kernel
theorem dc_X9_sheet_48 : decode mX9_sheet.2.1 48 = .ok (.iload_n 3, 1) := by decide +kernel
theorem dc_X9_sheet_49 : decode mX9_sheet.2.1 49 = .ok (.bipush 40, 2) := by decide +kernel
theorem dc_X9_sheet_51 : decode mX9_sheet.2.1 51 = .ok (.if_icmp .le 10, 3) := by decide +kernel
theorem dc_X9_sheet_54 : decode mX9_sheet.2.1 54 = .ok (.aload_n 0, 1) := by decide +kernel
theorem dc_X9_sheet_55 : decode mX9_sheet.2.1 55 = .ok (.ldc 60, 2) := by decide +kernel
theorem dc_X9_sheet_57 : decode mX9_sheet.2.1 57 = .ok (.invokevirtual 66, 3) := by decide +kernel
theorem dc_X9_sheet_60 : decode mX9_sheet.2.1 60 = .ok (.ireturn, 1) := by decide +kernel
theorem dc_X9_sheet_61 : decode mX9_sheet.2.1 61 = .ok (.aload_n 0, 1) := by decide +kernel
theorem dc_X9_sheet_62 : decode mX9_sheet.2.1 62 = .ok (.getfield 48, 3) := by decide +kernel
theorem dc_X9_sheet_65 : decode mX9_sheet.2.1 65 = .ok (.iload_n 1, 1) := by decide +kernel
theorem dc_X9_sheet_66 : decode mX9_sheet.2.1 66 = .ok (.iload_n 2, 1) := by decide +kernel
theorem dc_X9_sheet_67 : decode mX9_sheet.2.1 67 = .ok (.iastore, 1) := by decide +kernel
theorem dc_X9_sheet_68 : decode mX9_sheet.2.1 68 = .ok (.aload_n 0, 1) := by decide +kernel
theorem dc_X9_sheet_69 : decode mX9_sheet.2.1 69 = .ok (.getfield 51, 3) := by decide +kernel
theorem dc_X9_sheet_72 : decode mX9_sheet.2.1 72 = .ok (.iload_n 1, 1) := by decide +kernel
theorem dc_X9_sheet_73 : decode mX9_sheet.2.1 73 = .ok (.iload_n 2, 1) := by decide +kernel
theorem dc_X9_sheet_74 : decode mX9_sheet.2.1 74 = .ok (.ifCond .ne 7, 3) := by decide +kernel
theorem dc_X9_sheet_77 : decode mX9_sheet.2.1 77 = .ok (.iconst 0, 1) := by decide +kernel
theorem dc_X9_sheet_78 : decode mX9_sheet.2.1 78 = .ok (.goto 4, 3) := by decide +kernel
theorem dc_X9_sheet_81 : decode mX9_sheet.2.1 81 = .ok (.iload_n 3, 1) := by decide +kernel
theorem dc_X9_sheet_82 : decode mX9_sheet.2.1 82 = .ok (.iastore, 1) := by decide +kernel
theorem dc_X9_sheet_83 : decode mX9_sheet.2.1 83 = .ok (.iconst 0, 1) := by decide +kernel
theorem dc_X9_sheet_84 : decode mX9_sheet.2.1 84 = .ok (.istore 4, 2) := by decide +kernel
theorem dc_X9_sheet_86 : decode mX9_sheet.2.1 86 = .ok (.iload 4, 2) := by decide +kernel
theorem dc_X9_sheet_88 : decode mX9_sheet.2.1 88 = .ok (.bipush 40, 2) := by decide +kernel
theorem dc_X9_sheet_90 : decode mX9_sheet.2.1 90 = .ok (.if_icmp .ge 22, 3) := by decide +kernel
theorem dc_X9_sheet_93 : decode mX9_sheet.2.1 93 = .ok (.aload_n 0, 1) := by decide +kernel
theorem dc_X9_sheet_94 : decode mX9_sheet.2.1 94 = .ok (.getfield 54, 3) := by decide +kernel
theorem dc_X9_sheet_97 : decode mX9_sheet.2.1 97 = .ok (.bipush 40, 2) := by decide +kernel
theorem dc_X9_sheet_99 : decode mX9_sheet.2.1 99 = .ok (.iload_n 1, 1) := by decide +kernel
theorem dc_X9_sheet_100 : decode mX9_sheet.2.1 100 = .ok (.imul, 1) := by decide +kernel
theorem dc_X9_sheet_101 : decode mX9_sheet.2.1 101 = .ok (.iload 4, 2) := by decide +kernel
theorem dc_X9_sheet_103 : decode mX9_sheet.2.1 103 = .ok (.iadd, 1) := by decide +kernel
theorem dc_X9_sheet_104 : decode mX9_sheet.2.1 104 = .ok (.iconst 0, 1) := by decide +kernel
theorem dc_X9_sheet_105 : decode mX9_sheet.2.1 105 = .ok (.iastore, 1) := by decide +kernel
theorem dc_X9_sheet_106 : decode mX9_sheet.2.1 106 = .ok (.iinc 4 1, 3) := by decide +kernel
theorem dc_X9_sheet_109 : decode mX9_sheet.2.1 109 = .ok (.goto (-23), 3) := by decide +kernel
theorem dc_X9_sheet_112 : decode mX9_sheet.2.1 112 = .ok (.aload_n 0, 1) := by decide +kernel
theorem dc_X9_sheet_113 : decode mX9_sheet.2.1 113 = .ok (.getfield 51, 3) := by decide +kernel
theorem dc_X9_sheet_116 : decode mX9_sheet.2.1 116 = .ok (.iload_n 1, 1) := by decide +kernel
theorem dc_X9_sheet_117 : decode mX9_sheet.2.1 117 = .ok (.iaload, 1) := by decide +kernel
theorem dc_X9_sheet_118 : decode mX9_sheet.2.1 118 = .ok (.ireturn, 1) := by decide +kernel
theorem dc_X9_write_0 : decode mX9_write.2.1 0 = .ok (.iload_n 1, 1) := by decide +kernel
theorem dc_X9_write_1 : decode mX9_write.2.1 1 = .ok (.invokestatic 193, 3) := by decide +kernel
theorem dc_X9_write_4 : decode mX9_write.2.1 4 = .ok (.ifCond .ne 10, 3) := by decide +kernel
theorem dc_X9_write_7 : decode mX9_write.2.1 7 = .ok (.aload_n 0, 1) := by decide +kernel
theorem dc_X9_write_8 : decode mX9_write.2.1 8 = .ok (.ldc 60, 2) := by decide +kernel
theorem dc_X9_write_10 : decode mX9_write.2.1 10 = .ok (.invokevirtual 66, 3) := by decide +kernel
theorem dc_X9_write_13 : decode mX9_write.2.1 13 = .ok (.ireturn, 1) := by decide +kernel
theorem dc_X9_write_14 : decode mX9_write.2.1 14 = .ok (.aload_n 0, 1) := by decide +kernel
theorem dc_X9_write_15 : decode mX9_write.2.1 15 = .ok (.getfield 48, 3) := by decide +kernel
theorem dc_X9_write_18 : decode mX9_write.2.1 18 = .ok (.iload_n 1, 1) := by decide +kernel
theorem dc_X9_write_19 : decode mX9_write.2.1 19 = .ok (.iaload, 1) := by decide +kernel
theorem dc_X9_write_20 : decode mX9_write.2.1 20 = .ok (.ifCond .ne 10, 3) := by decide +kernel
theorem dc_X9_write_23 : decode mX9_write.2.1 23 = .ok (.aload_n 0, 1) := by decide +kernel
theorem dc_X9_write_24 : decode mX9_write.2.1 24 = .ok (.ldc 196, 2) := by decide +kernel
theorem dc_X9_write_26 : decode mX9_write.2.1 26 = .ok (.invokevirtual 66, 3) := by decide +kernel
theorem dc_X9_write_29 : decode mX9_write.2.1 29 = .ok (.ireturn, 1) := by decide +kernel
theorem dc_X9_write_30 : decode mX9_write.2.1 30 = .ok (.iload_n 2, 1) := by decide +kernel
theorem dc_X9_write_31 : decode mX9_write.2.1 31 = .ok (.iconst 0, 1) := by decide +kernel
theorem dc_X9_write_32 : decode mX9_write.2.1 32 = .ok (.aload_n 0, 1) := by decide +kernel
theorem dc_X9_write_33 : decode mX9_write.2.1 33 = .ok (.getfield 51, 3) := by decide +kernel
theorem dc_X9_write_36 : decode mX9_write.2.1 36 = .ok (.iload_n 1, 1) := by decide +kernel
theorem dc_X9_write_37 : decode mX9_write.2.1 37 = .ok (.iaload, 1) := by decide +kernel
theorem dc_X9_write_38 : decode mX9_write.2.1 38 = .ok (.iconst 1, 1) := by decide +kernel
theorem dc_X9_write_39 : decode mX9_write.2.1 39 = .ok (.isub, 1) := by decide +kernel
theorem dc_X9_write_40 : decode mX9_write.2.1 40 = .ok (.invokestatic 71, 3) := by decide +kernel
theorem dc_X9_write_43 : decode mX9_write.2.1 43 = .ok (.ifCond .ne 10, 3) := by decide +kernel
theorem dc_X9_write_46 : decode mX9_write.2.1 46 = .ok (.aload_n 0, 1) := by decide +kernel
theorem dc_X9_write_47 : decode mX9_write.2.1 47 = .ok (.ldc 60, 2) := by decide +kernel
theorem dc_X9_write_49 : decode mX9_write.2.1 49 = .ok (.invokevirtual 66, 3) := by decide +kernel
theorem dc_X9_write_52 : decode mX9_write.2.1 52 = .ok (.ireturn, 1) := by decide +kernel
theorem dc_X9_write_53 : decode mX9_write.2.1 53 = .ok (.aload_n 0, 1) := by decide +kernel
theorem dc_X9_write_54 : decode mX9_write.2.1 54 = .ok (.getfield 54, 3) := by decide +kernel
theorem dc_X9_write_57 : decode mX9_write.2.1 57 = .ok (.bipush 40, 2) := by decide +kernel
theorem dc_X9_write_59 : decode mX9_write.2.1 59 = .ok (.iload_n 1, 1) := by decide +kernel
theorem dc_X9_write_60 : decode mX9_write.2.1 60 = .ok (.imul, 1) := by decide +kernel
theorem dc_X9_write_61 : decode mX9_write.2.1 61 = .ok (.iload_n 2, 1) := by decide +kernel
theorem dc_X9_write_62 : decode mX9_write.2.1 62 = .ok (.iadd, 1) := by decide +kernel
theorem dc_X9_write_63 : decode mX9_write.2.1 63 = .ok (.iload_n 3, 1) := by decide +kernel
theorem dc_X9_write_64 : decode mX9_write.2.1 64 = .ok (.aload_n 0, 1) := by decide +kernel
theorem dc_X9_write_65 : decode mX9_write.2.1 65 = .ok (.getfield 48, 3) := by decide +kernel
theorem dc_X9_write_68 : decode mX9_write.2.1 68 = .ok (.iload_n 1, 1) := by decide +kernel
theorem dc_X9_write_69 : decode mX9_write.2.1 69 = .ok (.iaload, 1) := by decide +kernel
theorem dc_X9_write_70 : decode mX9_write.2.1 70 = .ok (.invokestatic 299, 3) := by decide +kernel
theorem dc_X9_write_73 : decode mX9_write.2.1 73 = .ok (.iastore, 1) := by decide +kernel
theorem dc_X9_write_74 : decode mX9_write.2.1 74 = .ok (.iconst 1, 1) := by decide +kernel
theorem dc_X9_write_75 : decode mX9_write.2.1 75 = .ok (.ireturn, 1) := by decide +kernel
theorem dc_X9_copy_0 : decode mX9_copy.2.1 0 = .ok (.iload_n 1, 1) := by decide +kernel
theorem dc_X9_copy_1 : decode mX9_copy.2.1 1 = .ok (.invokestatic 193, 3) := by decide +kernel
theorem dc_X9_copy_4 : decode mX9_copy.2.1 4 = .ok (.ifCond .eq 10, 3) := by decide +kernel
theorem dc_X9_copy_7 : decode mX9_copy.2.1 7 = .ok (.iload_n 3, 1) := by decide +kernel
theorem dc_X9_copy_8 : decode mX9_copy.2.1 8 = .ok (.invokestatic 193, 3) := by decide +kernel
theorem dc_X9_copy_11 : decode mX9_copy.2.1 11 = .ok (.ifCond .ne 10, 3) := by decide +kernel
theorem dc_X9_copy_14 : decode mX9_copy.2.1 14 = .ok (.aload_n 0, 1) := by decide +kernel
theorem dc_X9_copy_15 : decode mX9_copy.2.1 15 = .ok (.ldc 60, 2) := by decide +kernel
theorem dc_X9_copy_17 : decode mX9_copy.2.1 17 = .ok (.invokevirtual 66, 3) := by decide +kernel
theorem dc_X9_copy_20 : decode mX9_copy.2.1 20 = .ok (.ireturn, 1) := by decide +kernel
theorem dc_X9_copy_21 : decode mX9_copy.2.1 21 = .ok (.aload_n 0, 1) := by decide +kernel
theorem dc_X9_copy_22 : decode mX9_copy.2.1 22 = .ok (.getfield 48, 3) := by decide +kernel
theorem dc_X9_copy_25 : decode mX9_copy.2.1 25 = .ok (.iload_n 1, 1) := by decide +kernel
theorem dc_X9_copy_26 : decode mX9_copy.2.1 26 = .ok (.iaload, 1) := by decide +kernel
theorem dc_X9_copy_27 : decode mX9_copy.2.1 27 = .ok (.ifCond .eq 12, 3) := by decide +kernel
theorem dc_X9_copy_30 : decode mX9_copy.2.1 30 = .ok (.aload_n 0, 1) := by decide +kernel
theorem dc_X9_copy_31 : decode mX9_copy.2.1 31 = .ok (.getfield 48, 3) := by decide +kernel
theorem dc_X9_copy_34 : decode mX9_copy.2.1 34 = .ok (.iload_n 3, 1) := by decide +kernel
theorem dc_X9_copy_35 : decode mX9_copy.2.1 35 = .ok (.iaload, 1) := by decide +kernel
theorem dc_X9_copy_36 : decode mX9_copy.2.1 36 = .ok (.ifCond .ne 10, 3) := by decide +kernel
theorem dc_X9_copy_39 : decode mX9_copy.2.1 39 = .ok (.aload_n 0, 1) := by decide +kernel
theorem dc_X9_copy_40 : decode mX9_copy.2.1 40 = .ok (.ldc 196, 2) := by decide +kernel
theorem dc_X9_copy_42 : decode mX9_copy.2.1 42 = .ok (.invokevirtual 66, 3) := by decide +kernel
theorem dc_X9_copy_45 : decode mX9_copy.2.1 45 = .ok (.ireturn, 1) := by decide +kernel
theorem dc_X9_copy_46 : decode mX9_copy.2.1 46 = .ok (.aload_n 0, 1) := by decide +kernel
theorem dc_X9_copy_47 : decode mX9_copy.2.1 47 = .ok (.getfield 48, 3) := by decide +kernel
theorem dc_X9_copy_50 : decode mX9_copy.2.1 50 = .ok (.iload_n 1, 1) := by decide +kernel
theorem dc_X9_copy_51 : decode mX9_copy.2.1 51 = .ok (.iaload, 1) := by decide +kernel
theorem dc_X9_copy_52 : decode mX9_copy.2.1 52 = .ok (.aload_n 0, 1) := by decide +kernel
theorem dc_X9_copy_53 : decode mX9_copy.2.1 53 = .ok (.getfield 48, 3) := by decide +kernel
theorem dc_X9_copy_56 : decode mX9_copy.2.1 56 = .ok (.iload_n 3, 1) := by decide +kernel
theorem dc_X9_copy_57 : decode mX9_copy.2.1 57 = .ok (.iaload, 1) := by decide +kernel
theorem dc_X9_copy_58 : decode mX9_copy.2.1 58 = .ok (.if_icmp .eq 11, 3) := by decide +kernel
theorem dc_X9_copy_61 : decode mX9_copy.2.1 61 = .ok (.aload_n 0, 1) := by decide +kernel
theorem dc_X9_copy_62 : decode mX9_copy.2.1 62 = .ok (.ldc_w 297, 3) := by decide +kernel
theorem dc_X9_copy_65 : decode mX9_copy.2.1 65 = .ok (.invokevirtual 66, 3) := by decide +kernel
theorem dc_X9_copy_68 : decode mX9_copy.2.1 68 = .ok (.ireturn, 1) := by decide +kernel
theorem dc_X9_copy_69 : decode mX9_copy.2.1 69 = .ok (.iload_n 2, 1) := by decide +kernel
theorem dc_X9_copy_70 : decode mX9_copy.2.1 70 = .ok (.ifCond .lt 48, 3) := by decide +kernel
theorem dc_X9_copy_73 : decode mX9_copy.2.1 73 = .ok (.iload 4, 2) := by decide +kernel
theorem dc_X9_copy_75 : decode mX9_copy.2.1 75 = .ok (.ifCond .lt 43, 3) := by decide +kernel
theorem dc_X9_copy_78 : decode mX9_copy.2.1 78 = .ok (.iload 5, 2) := by decide +kernel
theorem dc_X9_copy_80 : decode mX9_copy.2.1 80 = .ok (.ifCond .lt 38, 3) := by decide +kernel
theorem dc_X9_copy_83 : decode mX9_copy.2.1 83 = .ok (.iload_n 2, 1) := by decide +kernel
theorem dc_X9_copy_84 : decode mX9_copy.2.1 84 = .ok (.i2l, 1) := by decide +kernel
theorem dc_X9_copy_85 : decode mX9_copy.2.1 85 = .ok (.iload 5, 2) := by decide +kernel
theorem dc_X9_copy_87 : decode mX9_copy.2.1 87 = .ok (.i2l, 1) := by decide +kernel
theorem dc_X9_copy_88 : decode mX9_copy.2.1 88 = .ok (.ladd, 1) := by decide +kernel
theorem dc_X9_copy_89 : decode mX9_copy.2.1 89 = .ok (.aload_n 0, 1) := by decide +kernel
theorem dc_X9_copy_90 : decode mX9_copy.2.1 90 = .ok (.getfield 51, 3) := by decide +kernel
theorem dc_X9_copy_93 : decode mX9_copy.2.1 93 = .ok (.iload_n 1, 1) := by decide +kernel
theorem dc_X9_copy_94 : decode mX9_copy.2.1 94 = .ok (.iaload, 1) := by decide +kernel
theorem dc_X9_copy_95 : decode mX9_copy.2.1 95 = .ok (.i2l, 1) := by decide +kernel
theorem dc_X9_copy_96 : decode mX9_copy.2.1 96 = .ok (.lcmp, 1) := by decide +kernel
theorem dc_X9_copy_97 : decode mX9_copy.2.1 97 = .ok (.ifCond .gt 21, 3) := by decide +kernel
theorem dc_X9_copy_100 : decode mX9_copy.2.1 100 = .ok (.iload 4, 2) := by decide +kernel
theorem dc_X9_copy_102 : decode mX9_copy.2.1 102 = .ok (.i2l, 1) := by decide +kernel
theorem dc_X9_copy_103 : decode mX9_copy.2.1 103 = .ok (.iload 5, 2) := by decide +kernel
theorem dc_X9_copy_105 : decode mX9_copy.2.1 105 = .ok (.i2l, 1) := by decide +kernel
theorem dc_X9_copy_106 : decode mX9_copy.2.1 106 = .ok (.ladd, 1) := by decide +kernel
theorem dc_X9_copy_107 : decode mX9_copy.2.1 107 = .ok (.aload_n 0, 1) := by decide +kernel
theorem dc_X9_copy_108 : decode mX9_copy.2.1 108 = .ok (.getfield 51, 3) := by decide +kernel
theorem dc_X9_copy_111 : decode mX9_copy.2.1 111 = .ok (.iload_n 3, 1) := by decide +kernel
theorem dc_X9_copy_112 : decode mX9_copy.2.1 112 = .ok (.iaload, 1) := by decide +kernel
theorem dc_X9_copy_113 : decode mX9_copy.2.1 113 = .ok (.i2l, 1) := by decide +kernel
theorem dc_X9_copy_114 : decode mX9_copy.2.1 114 = .ok (.lcmp, 1) := by decide +kernel
theorem dc_X9_copy_115 : decode mX9_copy.2.1 115 = .ok (.ifCond .le 10, 3) := by decide +kernel
theorem dc_X9_copy_118 : decode mX9_copy.2.1 118 = .ok (.aload_n 0, 1) := by decide +kernel
theorem dc_X9_copy_119 : decode mX9_copy.2.1 119 = .ok (.ldc 60, 2) := by decide +kernel
theorem dc_X9_copy_121 : decode mX9_copy.2.1 121 = .ok (.invokevirtual 66, 3) := by decide +kernel
theorem dc_X9_copy_124 : decode mX9_copy.2.1 124 = .ok (.ireturn, 1) := by decide +kernel
theorem dc_X9_copy_125 : decode mX9_copy.2.1 125 = .ok (.iconst 0, 1) := by decide +kernel
theorem dc_X9_copy_126 : decode mX9_copy.2.1 126 = .ok (.istore 6, 2) := by decide +kernel
theorem dc_X9_copy_128 : decode mX9_copy.2.1 128 = .ok (.iload 6, 2) := by decide +kernel
theorem dc_X9_copy_130 : decode mX9_copy.2.1 130 = .ok (.iload 5, 2) := by decide +kernel
theorem dc_X9_copy_132 : decode mX9_copy.2.1 132 = .ok (.if_icmp .ge 30, 3) := by decide +kernel
theorem dc_X9_copy_135 : decode mX9_copy.2.1 135 = .ok (.aload_n 0, 1) := by decide +kernel
theorem dc_X9_copy_136 : decode mX9_copy.2.1 136 = .ok (.getfield 57, 3) := by decide +kernel
theorem dc_X9_copy_139 : decode mX9_copy.2.1 139 = .ok (.iload 6, 2) := by decide +kernel
theorem dc_X9_copy_141 : decode mX9_copy.2.1 141 = .ok (.aload_n 0, 1) := by decide +kernel
theorem dc_X9_copy_142 : decode mX9_copy.2.1 142 = .ok (.getfield 54, 3) := by decide +kernel
theorem dc_X9_copy_145 : decode mX9_copy.2.1 145 = .ok (.bipush 40, 2) := by decide +kernel
theorem dc_X9_copy_147 : decode mX9_copy.2.1 147 = .ok (.iload_n 1, 1) := by decide +kernel
theorem dc_X9_copy_148 : decode mX9_copy.2.1 148 = .ok (.imul, 1) := by decide +kernel
theorem dc_X9_copy_149 : decode mX9_copy.2.1 149 = .ok (.iload_n 2, 1) := by decide +kernel
theorem dc_X9_copy_150 : decode mX9_copy.2.1 150 = .ok (.iadd, 1) := by decide +kernel
theorem dc_X9_copy_151 : decode mX9_copy.2.1 151 = .ok (.iload 6, 2) := by decide +kernel
theorem dc_X9_copy_153 : decode mX9_copy.2.1 153 = .ok (.iadd, 1) := by decide +kernel
theorem dc_X9_copy_154 : decode mX9_copy.2.1 154 = .ok (.iaload, 1) := by decide +kernel
theorem dc_X9_copy_155 : decode mX9_copy.2.1 155 = .ok (.iastore, 1) := by decide +kernel
theorem dc_X9_copy_156 : decode mX9_copy.2.1 156 = .ok (.iinc 6 1, 3) := by decide +kernel
theorem dc_X9_copy_159 : decode mX9_copy.2.1 159 = .ok (.goto (-31), 3) := by decide +kernel
theorem dc_X9_copy_162 : decode mX9_copy.2.1 162 = .ok (.iconst 0, 1) := by decide +kernel
theorem dc_X9_copy_163 : decode mX9_copy.2.1 163 = .ok (.istore 6, 2) := by decide +kernel
theorem dc_X9_copy_165 : decode mX9_copy.2.1 165 = .ok (.iload 6, 2) := by decide +kernel
theorem dc_X9_copy_167 : decode mX9_copy.2.1 167 = .ok (.iload 5, 2) := by decide +kernel
theorem dc_X9_copy_169 : decode mX9_copy.2.1 169 = .ok (.if_icmp .ge 31, 3) := by decide +kernel
theorem dc_X9_copy_172 : decode mX9_copy.2.1 172 = .ok (.aload_n 0, 1) := by decide +kernel
theorem dc_X9_copy_173 : decode mX9_copy.2.1 173 = .ok (.getfield 54, 3) := by decide +kernel
theorem dc_X9_copy_176 : decode mX9_copy.2.1 176 = .ok (.bipush 40, 2) := by decide +kernel
theorem dc_X9_copy_178 : decode mX9_copy.2.1 178 = .ok (.iload_n 3, 1) := by decide +kernel
theorem dc_X9_copy_179 : decode mX9_copy.2.1 179 = .ok (.imul, 1) := by decide +kernel
theorem dc_X9_copy_180 : decode mX9_copy.2.1 180 = .ok (.iload 4, 2) := by decide +kernel
theorem dc_X9_copy_182 : decode mX9_copy.2.1 182 = .ok (.iadd, 1) := by decide +kernel
theorem dc_X9_copy_183 : decode mX9_copy.2.1 183 = .ok (.iload 6, 2) := by decide +kernel
theorem dc_X9_copy_185 : decode mX9_copy.2.1 185 = .ok (.iadd, 1) := by decide +kernel
theorem dc_X9_copy_186 : decode mX9_copy.2.1 186 = .ok (.aload_n 0, 1) := by decide +kernel
theorem dc_X9_copy_187 : decode mX9_copy.2.1 187 = .ok (.getfield 57, 3) := by decide +kernel
theorem dc_X9_copy_190 : decode mX9_copy.2.1 190 = .ok (.iload 6, 2) := by decide +kernel
theorem dc_X9_copy_192 : decode mX9_copy.2.1 192 = .ok (.iaload, 1) := by decide +kernel
theorem dc_X9_copy_193 : decode mX9_copy.2.1 193 = .ok (.iastore, 1) := by decide +kernel
theorem dc_X9_copy_194 : decode mX9_copy.2.1 194 = .ok (.iinc 6 1, 3) := by decide +kernel
theorem dc_X9_copy_197 : decode mX9_copy.2.1 197 = .ok (.goto (-32), 3) := by decide +kernel
theorem dc_X9_copy_200 : decode mX9_copy.2.1 200 = .ok (.iload 5, 2) := by decide +kernel
theorem dc_X9_copy_202 : decode mX9_copy.2.1 202 = .ok (.ireturn, 1) := by decide +kernel
theorem dc_X9_above_0 : decode mX9_above.2.1 0 = .ok (.iload_n 0, 1) := by decide +kernel
theorem dc_X9_above_1 : decode mX9_above.2.1 1 = .ok (.ifCond .ne 7, 3) := by decide +kernel
theorem dc_X9_above_4 : decode mX9_above.2.1 4 = .ok (.iconst (-1), 1) := by decide +kernel
theorem dc_X9_above_5 : decode mX9_above.2.1 5 = .ok (.goto 32, 3) := by decide +kernel
theorem dc_X9_above_8 : decode mX9_above.2.1 8 = .ok (.iload_n 0, 1) := by decide +kernel
theorem dc_X9_above_9 : decode mX9_above.2.1 9 = .ok (.iconst 3, 1) := by decide +kernel
theorem dc_X9_above_10 : decode mX9_above.2.1 10 = .ok (.if_icmp .ne 7, 3) := by decide +kernel
theorem dc_X9_above_13 : decode mX9_above.2.1 13 = .ok (.iconst 2, 1) := by decide +kernel
theorem dc_X9_above_14 : decode mX9_above.2.1 14 = .ok (.goto 23, 3) := by decide +kernel
theorem dc_X9_above_17 : decode mX9_above.2.1 17 = .ok (.iload_n 0, 1) := by decide +kernel
theorem dc_X9_above_18 : decode mX9_above.2.1 18 = .ok (.iconst 4, 1) := by decide +kernel
theorem dc_X9_above_19 : decode mX9_above.2.1 19 = .ok (.if_icmp .ne 7, 3) := by decide +kernel
theorem dc_X9_above_22 : decode mX9_above.2.1 22 = .ok (.iconst 3, 1) := by decide +kernel
theorem dc_X9_above_23 : decode mX9_above.2.1 23 = .ok (.goto 14, 3) := by decide +kernel
theorem dc_X9_above_26 : decode mX9_above.2.1 26 = .ok (.iload_n 0, 1) := by decide +kernel
theorem dc_X9_above_27 : decode mX9_above.2.1 27 = .ok (.bipush 6, 2) := by decide +kernel
theorem dc_X9_above_29 : decode mX9_above.2.1 29 = .ok (.if_icmp .ne 7, 3) := by decide +kernel
theorem dc_X9_above_32 : decode mX9_above.2.1 32 = .ok (.iconst 1, 1) := by decide +kernel
theorem dc_X9_above_33 : decode mX9_above.2.1 33 = .ok (.goto 4, 3) := by decide +kernel
theorem dc_X9_above_36 : decode mX9_above.2.1 36 = .ok (.iconst 0, 1) := by decide +kernel
theorem dc_X9_above_37 : decode mX9_above.2.1 37 = .ok (.ireturn, 1) := by decide +kernel
theorem dc_X9_isUnder_0 : decode mX9_isUnder.2.1 0 = .ok (.iload_n 0, 1) := by decide +kernel
theorem dc_X9_isUnder_1 : decode mX9_isUnder.2.1 1 = .ok (.istore_n 2, 1) := by decide +kernel
theorem dc_X9_isUnder_2 : decode mX9_isUnder.2.1 2 = .ok (.iload_n 2, 1) := by decide +kernel
theorem dc_X9_isUnder_3 : decode mX9_isUnder.2.1 3 = .ok (.ifCond .lt 16, 3) := by decide +kernel
theorem dc_X9_isUnder_6 : decode mX9_isUnder.2.1 6 = .ok (.iload_n 2, 1) := by decide +kernel
theorem dc_X9_isUnder_7 : decode mX9_isUnder.2.1 7 = .ok (.iload_n 1, 1) := by decide +kernel
theorem dc_X9_isUnder_8 : decode mX9_isUnder.2.1 8 = .ok (.if_icmp .eq 11, 3) := by decide +kernel
theorem dc_X9_isUnder_11 : decode mX9_isUnder.2.1 11 = .ok (.iload_n 2, 1) := by decide +kernel
theorem dc_X9_isUnder_12 : decode mX9_isUnder.2.1 12 = .ok (.invokestatic 302, 3) := by decide +kernel
theorem dc_X9_isUnder_15 : decode mX9_isUnder.2.1 15 = .ok (.istore_n 2, 1) := by decide +kernel
theorem dc_X9_isUnder_16 : decode mX9_isUnder.2.1 16 = .ok (.goto (-14), 3) := by decide +kernel
theorem dc_X9_isUnder_19 : decode mX9_isUnder.2.1 19 = .ok (.iload_n 2, 1) := by decide +kernel
theorem dc_X9_isUnder_20 : decode mX9_isUnder.2.1 20 = .ok (.ifCond .lt 7, 3) := by decide +kernel
theorem dc_X9_isUnder_23 : decode mX9_isUnder.2.1 23 = .ok (.iconst 1, 1) := by decide +kernel
theorem dc_X9_isUnder_24 : decode mX9_isUnder.2.1 24 = .ok (.goto 4, 3) := by decide +kernel
theorem dc_X9_isUnder_27 : decode mX9_isUnder.2.1 27 = .ok (.iconst 0, 1) := by decide +kernel
theorem dc_X9_isUnder_28 : decode mX9_isUnder.2.1 28 = .ok (.ireturn, 1) := by decide +kernel
theorem dc_X9_load_0 : decode mX9_load.2.1 0 = .ok (.aload_n 0, 1) := by decide +kernel
theorem dc_X9_load_1 : decode mX9_load.2.1 1 = .ok (.iload_n 1, 1) := by decide +kernel
theorem dc_X9_load_2 : decode mX9_load.2.1 2 = .ok (.iconst 1, 1) := by decide +kernel
theorem dc_X9_load_3 : decode mX9_load.2.1 3 = .ok (.invokevirtual 197, 3) := by decide +kernel
theorem dc_X9_load_6 : decode mX9_load.2.1 6 = .ok (.ifCond .eq 14, 3) := by decide +kernel
theorem dc_X9_load_9 : decode mX9_load.2.1 9 = .ok (.aload_n 0, 1) := by decide +kernel
theorem dc_X9_load_10 : decode mX9_load.2.1 10 = .ok (.aload_n 0, 1) := by decide +kernel
theorem dc_X9_load_11 : decode mX9_load.2.1 11 = .ok (.iload_n 1, 1) := by decide +kernel
theorem dc_X9_load_12 : decode mX9_load.2.1 12 = .ok (.iconst 1, 1) := by decide +kernel
theorem dc_X9_load_13 : decode mX9_load.2.1 13 = .ok (.invokevirtual 197, 3) := by decide +kernel
theorem dc_X9_load_16 : decode mX9_load.2.1 16 = .ok (.invokevirtual 66, 3) := by decide +kernel
theorem dc_X9_load_19 : decode mX9_load.2.1 19 = .ok (.ireturn, 1) := by decide +kernel
theorem dc_X9_load_20 : decode mX9_load.2.1 20 = .ok (.iconst 0, 1) := by decide +kernel
theorem dc_X9_load_21 : decode mX9_load.2.1 21 = .ok (.istore_n 2, 1) := by decide +kernel
theorem dc_X9_load_22 : decode mX9_load.2.1 22 = .ok (.iload_n 2, 1) := by decide +kernel
theorem dc_X9_load_23 : decode mX9_load.2.1 23 = .ok (.aload_n 0, 1) := by decide +kernel
theorem dc_X9_load_24 : decode mX9_load.2.1 24 = .ok (.getfield 51, 3) := by decide +kernel
theorem dc_X9_load_27 : decode mX9_load.2.1 27 = .ok (.iload_n 1, 1) := by decide +kernel
theorem dc_X9_load_28 : decode mX9_load.2.1 28 = .ok (.iaload, 1) := by decide +kernel
theorem dc_X9_load_29 : decode mX9_load.2.1 29 = .ok (.if_icmp .ge 57, 3) := by decide +kernel
theorem dc_X9_load_32 : decode mX9_load.2.1 32 = .ok (.aload_n 0, 1) := by decide +kernel
theorem dc_X9_load_33 : decode mX9_load.2.1 33 = .ok (.iload_n 2, 1) := by decide +kernel
theorem dc_X9_load_34 : decode mX9_load.2.1 34 = .ok (.invokevirtual 113, 3) := by decide +kernel
theorem dc_X9_load_37 : decode mX9_load.2.1 37 = .ok (.ifCond .eq 49, 3) := by decide +kernel
theorem dc_X9_load_40 : decode mX9_load.2.1 40 = .ok (.aload_n 0, 1) := by decide +kernel
theorem dc_X9_load_41 : decode mX9_load.2.1 41 = .ok (.getfield 54, 3) := by decide +kernel
theorem dc_X9_load_44 : decode mX9_load.2.1 44 = .ok (.bipush 40, 2) := by decide +kernel
theorem dc_X9_load_46 : decode mX9_load.2.1 46 = .ok (.iload_n 1, 1) := by decide +kernel
theorem dc_X9_load_47 : decode mX9_load.2.1 47 = .ok (.imul, 1) := by decide +kernel
theorem dc_X9_load_48 : decode mX9_load.2.1 48 = .ok (.iload_n 2, 1) := by decide +kernel
theorem dc_X9_load_49 : decode mX9_load.2.1 49 = .ok (.iadd, 1) := by decide +kernel
theorem dc_X9_load_50 : decode mX9_load.2.1 50 = .ok (.iaload, 1) := by decide +kernel
theorem dc_X9_load_51 : decode mX9_load.2.1 51 = .ok (.iconst 0, 1) := by decide +kernel
theorem dc_X9_load_52 : decode mX9_load.2.1 52 = .ok (.iconst 5, 1) := by decide +kernel
theorem dc_X9_load_53 : decode mX9_load.2.1 53 = .ok (.invokestatic 71, 3) := by decide +kernel
theorem dc_X9_load_56 : decode mX9_load.2.1 56 = .ok (.ifCond .eq 30, 3) := by decide +kernel
theorem dc_X9_load_59 : decode mX9_load.2.1 59 = .ok (.aload_n 0, 1) := by decide +kernel
theorem dc_X9_load_60 : decode mX9_load.2.1 60 = .ok (.getfield 9, 3) := by decide +kernel
theorem dc_X9_load_63 : decode mX9_load.2.1 63 = .ok (.iload_n 2, 1) := by decide +kernel
theorem dc_X9_load_64 : decode mX9_load.2.1 64 = .ok (.iconst 3, 1) := by decide +kernel
theorem dc_X9_load_65 : decode mX9_load.2.1 65 = .ok (.invokestatic 93, 3) := by decide +kernel
theorem dc_X9_load_68 : decode mX9_load.2.1 68 = .ok (.aload_n 0, 1) := by decide +kernel
theorem dc_X9_load_69 : decode mX9_load.2.1 69 = .ok (.getfield 54, 3) := by decide +kernel
theorem dc_X9_load_72 : decode mX9_load.2.1 72 = .ok (.bipush 40, 2) := by decide +kernel
theorem dc_X9_load_74 : decode mX9_load.2.1 74 = .ok (.iload_n 1, 1) := by decide +kernel
theorem dc_X9_load_75 : decode mX9_load.2.1 75 = .ok (.imul, 1) := by decide +kernel
theorem dc_X9_load_76 : decode mX9_load.2.1 76 = .ok (.iload_n 2, 1) := by decide +kernel
theorem dc_X9_load_77 : decode mX9_load.2.1 77 = .ok (.iadd, 1) := by decide +kernel
theorem dc_X9_load_78 : decode mX9_load.2.1 78 = .ok (.iaload, 1) := by decide +kernel
theorem dc_X9_load_79 : decode mX9_load.2.1 79 = .ok (.iastore, 1) := by decide +kernel
theorem dc_X9_load_80 : decode mX9_load.2.1 80 = .ok (.iinc 2 1, 3) := by decide +kernel
theorem dc_X9_load_83 : decode mX9_load.2.1 83 = .ok (.goto (-61), 3) := by decide +kernel
theorem dc_X9_load_86 : decode mX9_load.2.1 86 = .ok (.iload_n 2, 1) := by decide +kernel
theorem dc_X9_load_87 : decode mX9_load.2.1 87 = .ok (.ireturn, 1) := by decide +kernel
theorem dc_X9_judge_0 : decode mX9_judge.2.1 0 = .ok (.aload_n 0, 1) := by decide +kernel
theorem dc_X9_judge_1 : decode mX9_judge.2.1 1 = .ok (.iload_n 1, 1) := by decide +kernel
theorem dc_X9_judge_2 : decode mX9_judge.2.1 2 = .ok (.iconst 1, 1) := by decide +kernel
theorem dc_X9_judge_3 : decode mX9_judge.2.1 3 = .ok (.invokevirtual 197, 3) := by decide +kernel
theorem dc_X9_judge_6 : decode mX9_judge.2.1 6 = .ok (.ifCond .eq 14, 3) := by decide +kernel
theorem dc_X9_judge_9 : decode mX9_judge.2.1 9 = .ok (.aload_n 0, 1) := by decide +kernel
theorem dc_X9_judge_10 : decode mX9_judge.2.1 10 = .ok (.aload_n 0, 1) := by decide +kernel
theorem dc_X9_judge_11 : decode mX9_judge.2.1 11 = .ok (.iload_n 1, 1) := by decide +kernel
theorem dc_X9_judge_12 : decode mX9_judge.2.1 12 = .ok (.iconst 1, 1) := by decide +kernel
theorem dc_X9_judge_13 : decode mX9_judge.2.1 13 = .ok (.invokevirtual 197, 3) := by decide +kernel
theorem dc_X9_judge_16 : decode mX9_judge.2.1 16 = .ok (.invokevirtual 66, 3) := by decide +kernel
theorem dc_X9_judge_19 : decode mX9_judge.2.1 19 = .ok (.ireturn, 1) := by decide +kernel
theorem dc_X9_judge_20 : decode mX9_judge.2.1 20 = .ok (.iconst 0, 1) := by decide +kernel
theorem dc_X9_judge_21 : decode mX9_judge.2.1 21 = .ok (.istore_n 2, 1) := by decide +kernel
theorem dc_X9_judge_22 : decode mX9_judge.2.1 22 = .ok (.iload_n 2, 1) := by decide +kernel
theorem dc_X9_judge_23 : decode mX9_judge.2.1 23 = .ok (.aload_n 0, 1) := by decide +kernel
theorem dc_X9_judge_24 : decode mX9_judge.2.1 24 = .ok (.getfield 51, 3) := by decide +kernel
theorem dc_X9_judge_27 : decode mX9_judge.2.1 27 = .ok (.iload_n 1, 1) := by decide +kernel
theorem dc_X9_judge_28 : decode mX9_judge.2.1 28 = .ok (.iaload, 1) := by decide +kernel
theorem dc_X9_judge_29 : decode mX9_judge.2.1 29 = .ok (.if_icmp .ge 37, 3) := by decide +kernel
theorem dc_X9_judge_32 : decode mX9_judge.2.1 32 = .ok (.aload_n 0, 1) := by decide +kernel
theorem dc_X9_judge_33 : decode mX9_judge.2.1 33 = .ok (.iload_n 2, 1) := by decide +kernel
theorem dc_X9_judge_34 : decode mX9_judge.2.1 34 = .ok (.invokevirtual 113, 3) := by decide +kernel
theorem dc_X9_judge_37 : decode mX9_judge.2.1 37 = .ok (.ifCond .eq 29, 3) := by decide +kernel
theorem dc_X9_judge_40 : decode mX9_judge.2.1 40 = .ok (.aload_n 0, 1) := by decide +kernel
theorem dc_X9_judge_41 : decode mX9_judge.2.1 41 = .ok (.getfield 54, 3) := by decide +kernel
theorem dc_X9_judge_44 : decode mX9_judge.2.1 44 = .ok (.bipush 40, 2) := by decide +kernel
theorem dc_X9_judge_46 : decode mX9_judge.2.1 46 = .ok (.iload_n 1, 1) := by decide +kernel
theorem dc_X9_judge_47 : decode mX9_judge.2.1 47 = .ok (.imul, 1) := by decide +kernel
theorem dc_X9_judge_48 : decode mX9_judge.2.1 48 = .ok (.iload_n 2, 1) := by decide +kernel
theorem dc_X9_judge_49 : decode mX9_judge.2.1 49 = .ok (.iadd, 1) := by decide +kernel
theorem dc_X9_judge_50 : decode mX9_judge.2.1 50 = .ok (.iaload, 1) := by decide +kernel
theorem dc_X9_judge_51 : decode mX9_judge.2.1 51 = .ok (.aload_n 0, 1) := by decide +kernel
theorem dc_X9_judge_52 : decode mX9_judge.2.1 52 = .ok (.iload_n 2, 1) := by decide +kernel
theorem dc_X9_judge_53 : decode mX9_judge.2.1 53 = .ok (.iconst 1, 1) := by decide +kernel
theorem dc_X9_judge_54 : decode mX9_judge.2.1 54 = .ok (.invokevirtual 107, 3) := by decide +kernel
theorem dc_X9_judge_57 : decode mX9_judge.2.1 57 = .ok (.if_icmp .ne 9, 3) := by decide +kernel
theorem dc_X9_judge_60 : decode mX9_judge.2.1 60 = .ok (.iinc 2 1, 3) := by decide +kernel
theorem dc_X9_judge_63 : decode mX9_judge.2.1 63 = .ok (.goto (-41), 3) := by decide +kernel
theorem dc_X9_judge_66 : decode mX9_judge.2.1 66 = .ok (.iload_n 2, 1) := by decide +kernel
theorem dc_X9_judge_67 : decode mX9_judge.2.1 67 = .ok (.aload_n 0, 1) := by decide +kernel
theorem dc_X9_judge_68 : decode mX9_judge.2.1 68 = .ok (.getfield 51, 3) := by decide +kernel
theorem dc_X9_judge_71 : decode mX9_judge.2.1 71 = .ok (.iload_n 1, 1) := by decide +kernel
theorem dc_X9_judge_72 : decode mX9_judge.2.1 72 = .ok (.iaload, 1) := by decide +kernel
theorem dc_X9_judge_73 : decode mX9_judge.2.1 73 = .ok (.if_icmp .ne 7, 3) := by decide +kernel
theorem dc_X9_judge_76 : decode mX9_judge.2.1 76 = .ok (.iconst 0, 1) := by decide +kernel
theorem dc_X9_judge_77 : decode mX9_judge.2.1 77 = .ok (.goto 6, 3) := by decide +kernel
theorem dc_X9_judge_80 : decode mX9_judge.2.1 80 = .ok (.iconst 1, 1) := by decide +kernel
theorem dc_X9_judge_81 : decode mX9_judge.2.1 81 = .ok (.iload_n 2, 1) := by decide +kernel
theorem dc_X9_judge_82 : decode mX9_judge.2.1 82 = .ok (.iadd, 1) := by decide +kernel
theorem dc_X9_judge_83 : decode mX9_judge.2.1 83 = .ok (.ireturn, 1) := by decide +kernel
theorem dc_X9_image_0 : decode mX9_image.2.1 0 = .ok (.aload_n 0, 1) := by decide +kernel
theorem dc_X9_image_1 : decode mX9_image.2.1 1 = .ok (.getfield 9, 3) := by decide +kernel
theorem dc_X9_image_4 : decode mX9_image.2.1 4 = .ok (.aload_n 0, 1) := by decide +kernel
theorem dc_X9_image_5 : decode mX9_image.2.1 5 = .ok (.getfield 13, 3) := by decide +kernel
theorem dc_X9_image_8 : decode mX9_image.2.1 8 = .ok (.invokestatic 61, 3) := by decide +kernel
theorem dc_X9_image_11 : decode mX9_image.2.1 11 = .ok (.aload_n 0, 1) := by decide +kernel
theorem dc_X9_image_12 : decode mX9_image.2.1 12 = .ok (.iconst 1, 1) := by decide +kernel
theorem dc_X9_image_13 : decode mX9_image.2.1 13 = .ok (.putfield 305, 3) := by decide +kernel
theorem dc_X9_image_16 : decode mX9_image.2.1 16 = .ok (.iconst 1, 1) := by decide +kernel
theorem dc_X9_image_17 : decode mX9_image.2.1 17 = .ok (.ireturn, 1) := by decide +kernel
theorem dc_X9_undo_0 : decode mX9_undo.2.1 0 = .ok (.aload_n 0, 1) := by decide +kernel
theorem dc_X9_undo_1 : decode mX9_undo.2.1 1 = .ok (.getfield 305, 3) := by decide +kernel
theorem dc_X9_undo_4 : decode mX9_undo.2.1 4 = .ok (.ifCond .ne 10, 3) := by decide +kernel
theorem dc_X9_undo_7 : decode mX9_undo.2.1 7 = .ok (.aload_n 0, 1) := by decide +kernel
theorem dc_X9_undo_8 : decode mX9_undo.2.1 8 = .ok (.ldc 65, 2) := by decide +kernel
theorem dc_X9_undo_10 : decode mX9_undo.2.1 10 = .ok (.invokevirtual 66, 3) := by decide +kernel
theorem dc_X9_undo_13 : decode mX9_undo.2.1 13 = .ok (.ireturn, 1) := by decide +kernel
theorem dc_X9_undo_14 : decode mX9_undo.2.1 14 = .ok (.aload_n 0, 1) := by decide +kernel
theorem dc_X9_undo_15 : decode mX9_undo.2.1 15 = .ok (.getfield 13, 3) := by decide +kernel
theorem dc_X9_undo_18 : decode mX9_undo.2.1 18 = .ok (.aload_n 0, 1) := by decide +kernel
theorem dc_X9_undo_19 : decode mX9_undo.2.1 19 = .ok (.getfield 9, 3) := by decide +kernel
theorem dc_X9_undo_22 : decode mX9_undo.2.1 22 = .ok (.invokestatic 61, 3) := by decide +kernel
theorem dc_X9_undo_25 : decode mX9_undo.2.1 25 = .ok (.aload_n 0, 1) := by decide +kernel
theorem dc_X9_undo_26 : decode mX9_undo.2.1 26 = .ok (.getfield 9, 3) := by decide +kernel
theorem dc_X9_undo_29 : decode mX9_undo.2.1 29 = .ok (.iconst 0, 1) := by decide +kernel
theorem dc_X9_undo_30 : decode mX9_undo.2.1 30 = .ok (.iaload, 1) := by decide +kernel
theorem dc_X9_undo_31 : decode mX9_undo.2.1 31 = .ok (.ireturn, 1) := by decide +kernel
theorem dc_X9_tear_0 : decode mX9_tear.2.1 0 = .ok (.aload_n 0, 1) := by decide +kernel
theorem dc_X9_tear_1 : decode mX9_tear.2.1 1 = .ok (.getfield 305, 3) := by decide +kernel
theorem dc_X9_tear_4 : decode mX9_tear.2.1 4 = .ok (.ifCond .eq 7, 3) := by decide +kernel
theorem dc_X9_tear_7 : decode mX9_tear.2.1 7 = .ok (.iconst 1, 1) := by decide +kernel
theorem dc_X9_tear_8 : decode mX9_tear.2.1 8 = .ok (.goto 4, 3) := by decide +kernel
theorem dc_X9_tear_11 : decode mX9_tear.2.1 11 = .ok (.iconst 0, 1) := by decide +kernel
theorem dc_X9_tear_12 : decode mX9_tear.2.1 12 = .ok (.istore_n 1, 1) := by decide +kernel
theorem dc_X9_tear_13 : decode mX9_tear.2.1 13 = .ok (.aload_n 0, 1) := by decide +kernel
theorem dc_X9_tear_14 : decode mX9_tear.2.1 14 = .ok (.iconst 0, 1) := by decide +kernel
theorem dc_X9_tear_15 : decode mX9_tear.2.1 15 = .ok (.putfield 305, 3) := by decide +kernel
theorem dc_X9_tear_18 : decode mX9_tear.2.1 18 = .ok (.iload_n 1, 1) := by decide +kernel
theorem dc_X9_tear_19 : decode mX9_tear.2.1 19 = .ok (.ireturn, 1) := by decide +kernel
theorem dc_X9_count_0 : decode mX9_count.2.1 0 = .ok (.iconst 0, 1) := by decide +kernel
theorem dc_X9_count_1 : decode mX9_count.2.1 1 = .ok (.istore_n 2, 1) := by decide +kernel
theorem dc_X9_count_2 : decode mX9_count.2.1 2 = .ok (.iload_n 1, 1) := by decide +kernel
theorem dc_X9_count_3 : decode mX9_count.2.1 3 = .ok (.tableswitch 128 0 7 #[45, 52, 59, 65, 72, 80, 85, 92], 45) := by decide +kernel
theorem dc_X9_count_48 : decode mX9_count.2.1 48 = .ok (.aload_n 0, 1) := by decide +kernel
theorem dc_X9_count_49 : decode mX9_count.2.1 49 = .ok (.getfield 9, 3) := by decide +kernel
theorem dc_X9_count_52 : decode mX9_count.2.1 52 = .ok (.iconst 0, 1) := by decide +kernel
theorem dc_X9_count_53 : decode mX9_count.2.1 53 = .ok (.iaload, 1) := by decide +kernel
theorem dc_X9_count_54 : decode mX9_count.2.1 54 = .ok (.ireturn, 1) := by decide +kernel
theorem dc_X9_count_55 : decode mX9_count.2.1 55 = .ok (.aload_n 0, 1) := by decide +kernel
theorem dc_X9_count_56 : decode mX9_count.2.1 56 = .ok (.getfield 9, 3) := by decide +kernel
theorem dc_X9_count_59 : decode mX9_count.2.1 59 = .ok (.iconst 1, 1) := by decide +kernel
theorem dc_X9_count_60 : decode mX9_count.2.1 60 = .ok (.iaload, 1) := by decide +kernel
theorem dc_X9_count_61 : decode mX9_count.2.1 61 = .ok (.ireturn, 1) := by decide +kernel
theorem dc_X9_count_62 : decode mX9_count.2.1 62 = .ok (.aload_n 0, 1) := by decide +kernel
theorem dc_X9_count_63 : decode mX9_count.2.1 63 = .ok (.iconst 5, 1) := by decide +kernel
theorem dc_X9_count_64 : decode mX9_count.2.1 64 = .ok (.invokevirtual 156, 3) := by decide +kernel
theorem dc_X9_count_67 : decode mX9_count.2.1 67 = .ok (.ireturn, 1) := by decide +kernel
theorem dc_X9_count_68 : decode mX9_count.2.1 68 = .ok (.aload_n 0, 1) := by decide +kernel
theorem dc_X9_count_69 : decode mX9_count.2.1 69 = .ok (.bipush 6, 2) := by decide +kernel
theorem dc_X9_count_71 : decode mX9_count.2.1 71 = .ok (.invokevirtual 156, 3) := by decide +kernel
theorem dc_X9_count_74 : decode mX9_count.2.1 74 = .ok (.ireturn, 1) := by decide +kernel
theorem dc_X9_count_75 : decode mX9_count.2.1 75 = .ok (.aload_n 0, 1) := by decide +kernel
theorem dc_X9_count_76 : decode mX9_count.2.1 76 = .ok (.getfield 9, 3) := by decide +kernel
theorem dc_X9_count_79 : decode mX9_count.2.1 79 = .ok (.bipush 6, 2) := by decide +kernel
theorem dc_X9_count_81 : decode mX9_count.2.1 81 = .ok (.iaload, 1) := by decide +kernel
theorem dc_X9_count_82 : decode mX9_count.2.1 82 = .ok (.ireturn, 1) := by decide +kernel
theorem dc_X9_count_83 : decode mX9_count.2.1 83 = .ok (.aload_n 0, 1) := by decide +kernel
theorem dc_X9_count_84 : decode mX9_count.2.1 84 = .ok (.getfield 211, 3) := by decide +kernel
theorem dc_X9_count_87 : decode mX9_count.2.1 87 = .ok (.ireturn, 1) := by decide +kernel
theorem dc_X9_count_88 : decode mX9_count.2.1 88 = .ok (.aload_n 0, 1) := by decide +kernel
theorem dc_X9_count_89 : decode mX9_count.2.1 89 = .ok (.getfield 9, 3) := by decide +kernel
theorem dc_X9_count_92 : decode mX9_count.2.1 92 = .ok (.iconst 2, 1) := by decide +kernel
theorem dc_X9_count_93 : decode mX9_count.2.1 93 = .ok (.iaload, 1) := by decide +kernel
theorem dc_X9_count_94 : decode mX9_count.2.1 94 = .ok (.ireturn, 1) := by decide +kernel
theorem dc_X9_count_95 : decode mX9_count.2.1 95 = .ok (.iconst 0, 1) := by decide +kernel
theorem dc_X9_count_96 : decode mX9_count.2.1 96 = .ok (.istore_n 3, 1) := by decide +kernel
theorem dc_X9_count_97 : decode mX9_count.2.1 97 = .ok (.iload_n 3, 1) := by decide +kernel
theorem dc_X9_count_98 : decode mX9_count.2.1 98 = .ok (.bipush 10, 2) := by decide +kernel
theorem dc_X9_count_100 : decode mX9_count.2.1 100 = .ok (.if_icmp .ge 29, 3) := by decide +kernel
theorem dc_X9_count_103 : decode mX9_count.2.1 103 = .ok (.iload_n 2, 1) := by decide +kernel
theorem dc_X9_count_104 : decode mX9_count.2.1 104 = .ok (.aload_n 0, 1) := by decide +kernel
theorem dc_X9_count_105 : decode mX9_count.2.1 105 = .ok (.getfield 9, 3) := by decide +kernel
theorem dc_X9_count_108 : decode mX9_count.2.1 108 = .ok (.bipush 7, 2) := by decide +kernel
theorem dc_X9_count_110 : decode mX9_count.2.1 110 = .ok (.iload_n 3, 1) := by decide +kernel
theorem dc_X9_count_111 : decode mX9_count.2.1 111 = .ok (.iadd, 1) := by decide +kernel
theorem dc_X9_count_112 : decode mX9_count.2.1 112 = .ok (.iaload, 1) := by decide +kernel
theorem dc_X9_count_113 : decode mX9_count.2.1 113 = .ok (.ifCond .ge 7, 3) := by decide +kernel
theorem dc_X9_count_116 : decode mX9_count.2.1 116 = .ok (.iconst 0, 1) := by decide +kernel
theorem dc_X9_count_117 : decode mX9_count.2.1 117 = .ok (.goto 4, 3) := by decide +kernel
theorem dc_X9_count_120 : decode mX9_count.2.1 120 = .ok (.iconst 1, 1) := by decide +kernel
theorem dc_X9_count_121 : decode mX9_count.2.1 121 = .ok (.iadd, 1) := by decide +kernel
theorem dc_X9_count_122 : decode mX9_count.2.1 122 = .ok (.istore_n 2, 1) := by decide +kernel
theorem dc_X9_count_123 : decode mX9_count.2.1 123 = .ok (.iinc 3 1, 3) := by decide +kernel
theorem dc_X9_count_126 : decode mX9_count.2.1 126 = .ok (.goto (-29), 3) := by decide +kernel
theorem dc_X9_count_129 : decode mX9_count.2.1 129 = .ok (.iload_n 2, 1) := by decide +kernel
theorem dc_X9_count_130 : decode mX9_count.2.1 130 = .ok (.ireturn, 1) := by decide +kernel
theorem dc_X9_count_131 : decode mX9_count.2.1 131 = .ok (.aload_n 0, 1) := by decide +kernel
theorem dc_X9_count_132 : decode mX9_count.2.1 132 = .ok (.ldc 60, 2) := by decide +kernel
theorem dc_X9_count_134 : decode mX9_count.2.1 134 = .ok (.invokevirtual 66, 3) := by decide +kernel
theorem dc_X9_count_137 : decode mX9_count.2.1 137 = .ok (.ireturn, 1) := by decide +kernel
theorem dc_X9_status_0 : decode mX9_status.2.1 0 = .ok (.iload_n 1, 1) := by decide +kernel
theorem dc_X9_status_1 : decode mX9_status.2.1 1 = .ok (.iconst (-1), 1) := by decide +kernel
theorem dc_X9_status_2 : decode mX9_status.2.1 2 = .ok (.bipush 6, 2) := by decide +kernel
theorem dc_X9_status_4 : decode mX9_status.2.1 4 = .ok (.invokestatic 71, 3) := by decide +kernel
theorem dc_X9_status_7 : decode mX9_status.2.1 7 = .ok (.ifCond .eq 14, 3) := by decide +kernel
theorem dc_X9_status_10 : decode mX9_status.2.1 10 = .ok (.aload_n 0, 1) := by decide +kernel
theorem dc_X9_status_11 : decode mX9_status.2.1 11 = .ok (.getfield 19, 3) := by decide +kernel
theorem dc_X9_status_14 : decode mX9_status.2.1 14 = .ok (.iload_n 1, 1) := by decide +kernel
theorem dc_X9_status_15 : decode mX9_status.2.1 15 = .ok (.iconst 1, 1) := by decide +kernel
theorem dc_X9_status_16 : decode mX9_status.2.1 16 = .ok (.iadd, 1) := by decide +kernel
theorem dc_X9_status_17 : decode mX9_status.2.1 17 = .ok (.iaload, 1) := by decide +kernel
theorem dc_X9_status_18 : decode mX9_status.2.1 18 = .ok (.goto 9, 3) := by decide +kernel
theorem dc_X9_status_21 : decode mX9_status.2.1 21 = .ok (.aload_n 0, 1) := by decide +kernel
theorem dc_X9_status_22 : decode mX9_status.2.1 22 = .ok (.ldc 60, 2) := by decide +kernel
theorem dc_X9_status_24 : decode mX9_status.2.1 24 = .ok (.invokevirtual 66, 3) := by decide +kernel
theorem dc_X9_status_27 : decode mX9_status.2.1 27 = .ok (.ireturn, 1) := by decide +kernel
