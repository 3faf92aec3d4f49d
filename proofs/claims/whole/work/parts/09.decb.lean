theorem dc_X8_init_0 : decode mX8_init.2.1 0 = .ok (.aload_n 0, 1) := by decide +kernel
theorem dc_X8_init_1 : decode mX8_init.2.1 1 = .ok (.invokespecial 3, 3) := by decide +kernel
theorem dc_X8_init_4 : decode mX8_init.2.1 4 = .ok (.aload_n 0, 1) := by decide +kernel
theorem dc_X8_init_5 : decode mX8_init.2.1 5 = .ok (.new 9, 3) := by decide +kernel
theorem dc_X8_init_8 : decode mX8_init.2.1 8 = .ok (.dup, 1) := by decide +kernel
theorem dc_X8_init_9 : decode mX8_init.2.1 9 = .ok (.invokespecial 11, 3) := by decide +kernel
theorem dc_X8_init_12 : decode mX8_init.2.1 12 = .ok (.putfield 12, 3) := by decide +kernel
theorem dc_X8_init_15 : decode mX8_init.2.1 15 = .ok (.aload_n 0, 1) := by decide +kernel
theorem dc_X8_init_16 : decode mX8_init.2.1 16 = .ok (.new 9, 3) := by decide +kernel
theorem dc_X8_init_19 : decode mX8_init.2.1 19 = .ok (.dup, 1) := by decide +kernel
theorem dc_X8_init_20 : decode mX8_init.2.1 20 = .ok (.invokespecial 11, 3) := by decide +kernel
theorem dc_X8_init_23 : decode mX8_init.2.1 23 = .ok (.putfield 16, 3) := by decide +kernel
theorem dc_X8_init_26 : decode mX8_init.2.1 26 = .ok (.aload_n 0, 1) := by decide +kernel
theorem dc_X8_init_27 : decode mX8_init.2.1 27 = .ok (.iconst 0, 1) := by decide +kernel
theorem dc_X8_init_28 : decode mX8_init.2.1 28 = .ok (.putfield 19, 3) := by decide +kernel
theorem dc_X8_init_31 : decode mX8_init.2.1 31 = .ok (.aload_n 0, 1) := by decide +kernel
theorem dc_X8_init_32 : decode mX8_init.2.1 32 = .ok (.new 23, 3) := by decide +kernel
theorem dc_X8_init_35 : decode mX8_init.2.1 35 = .ok (.dup, 1) := by decide +kernel
theorem dc_X8_init_36 : decode mX8_init.2.1 36 = .ok (.invokespecial 25, 3) := by decide +kernel
theorem dc_X8_init_39 : decode mX8_init.2.1 39 = .ok (.putfield 26, 3) := by decide +kernel
theorem dc_X8_init_42 : decode mX8_init.2.1 42 = .ok (.aload_n 0, 1) := by decide +kernel
theorem dc_X8_init_43 : decode mX8_init.2.1 43 = .ok (.iconst 4, 1) := by decide +kernel
theorem dc_X8_init_44 : decode mX8_init.2.1 44 = .ok (.anewarray 30, 3) := by decide +kernel
theorem dc_X8_init_47 : decode mX8_init.2.1 47 = .ok (.putfield 32, 3) := by decide +kernel
theorem dc_X8_init_50 : decode mX8_init.2.1 50 = .ok (.aload_n 0, 1) := by decide +kernel
theorem dc_X8_init_51 : decode mX8_init.2.1 51 = .ok (.bipush 7, 2) := by decide +kernel
theorem dc_X8_init_53 : decode mX8_init.2.1 53 = .ok (.newarray .int, 2) := by decide +kernel
theorem dc_X8_init_55 : decode mX8_init.2.1 55 = .ok (.putfield 36, 3) := by decide +kernel
theorem dc_X8_init_58 : decode mX8_init.2.1 58 = .ok (.aload_n 0, 1) := by decide +kernel
theorem dc_X8_init_59 : decode mX8_init.2.1 59 = .ok (.new 9, 3) := by decide +kernel
theorem dc_X8_init_62 : decode mX8_init.2.1 62 = .ok (.dup, 1) := by decide +kernel
theorem dc_X8_init_63 : decode mX8_init.2.1 63 = .ok (.invokespecial 11, 3) := by decide +kernel
theorem dc_X8_init_66 : decode mX8_init.2.1 66 = .ok (.putfield 40, 3) := by decide +kernel
theorem dc_X8_init_69 : decode mX8_init.2.1 69 = .ok (.aload_n 0, 1) := by decide +kernel
theorem dc_X8_init_70 : decode mX8_init.2.1 70 = .ok (.new 43, 3) := by decide +kernel
theorem dc_X8_init_73 : decode mX8_init.2.1 73 = .ok (.dup, 1) := by decide +kernel
theorem dc_X8_init_74 : decode mX8_init.2.1 74 = .ok (.invokespecial 45, 3) := by decide +kernel
theorem dc_X8_init_77 : decode mX8_init.2.1 77 = .ok (.putfield 46, 3) := by decide +kernel
theorem dc_X8_init_80 : decode mX8_init.2.1 80 = .ok (.aload_n 0, 1) := by decide +kernel
theorem dc_X8_init_81 : decode mX8_init.2.1 81 = .ok (.new 50, 3) := by decide +kernel
theorem dc_X8_init_84 : decode mX8_init.2.1 84 = .ok (.dup, 1) := by decide +kernel
theorem dc_X8_init_85 : decode mX8_init.2.1 85 = .ok (.invokespecial 52, 3) := by decide +kernel
theorem dc_X8_init_88 : decode mX8_init.2.1 88 = .ok (.putfield 53, 3) := by decide +kernel
theorem dc_X8_init_91 : decode mX8_init.2.1 91 = .ok (.aload_n 0, 1) := by decide +kernel
theorem dc_X8_init_92 : decode mX8_init.2.1 92 = .ok (.new 50, 3) := by decide +kernel
theorem dc_X8_init_95 : decode mX8_init.2.1 95 = .ok (.dup, 1) := by decide +kernel
theorem dc_X8_init_96 : decode mX8_init.2.1 96 = .ok (.invokespecial 52, 3) := by decide +kernel
theorem dc_X8_init_99 : decode mX8_init.2.1 99 = .ok (.putfield 57, 3) := by decide +kernel
theorem dc_X8_init_102 : decode mX8_init.2.1 102 = .ok (.aload_n 0, 1) := by decide +kernel
theorem dc_X8_init_103 : decode mX8_init.2.1 103 = .ok (.bipush 8, 2) := by decide +kernel
theorem dc_X8_init_105 : decode mX8_init.2.1 105 = .ok (.newarray .int, 2) := by decide +kernel
theorem dc_X8_init_107 : decode mX8_init.2.1 107 = .ok (.putfield 60, 3) := by decide +kernel
theorem dc_X8_init_110 : decode mX8_init.2.1 110 = .ok (.aload_n 0, 1) := by decide +kernel
theorem dc_X8_init_111 : decode mX8_init.2.1 111 = .ok (.new 63, 3) := by decide +kernel
theorem dc_X8_init_114 : decode mX8_init.2.1 114 = .ok (.dup, 1) := by decide +kernel
theorem dc_X8_init_115 : decode mX8_init.2.1 115 = .ok (.invokespecial 65, 3) := by decide +kernel
theorem dc_X8_init_118 : decode mX8_init.2.1 118 = .ok (.putfield 66, 3) := by decide +kernel
theorem dc_X8_init_121 : decode mX8_init.2.1 121 = .ok (.aload_n 0, 1) := by decide +kernel
theorem dc_X8_init_122 : decode mX8_init.2.1 122 = .ok (.new 70, 3) := by decide +kernel
theorem dc_X8_init_125 : decode mX8_init.2.1 125 = .ok (.dup, 1) := by decide +kernel
theorem dc_X8_init_126 : decode mX8_init.2.1 126 = .ok (.invokespecial 72, 3) := by decide +kernel
theorem dc_X8_init_129 : decode mX8_init.2.1 129 = .ok (.putfield 73, 3) := by decide +kernel
theorem dc_X8_init_132 : decode mX8_init.2.1 132 = .ok (.iconst 0, 1) := by decide +kernel
theorem dc_X8_init_133 : decode mX8_init.2.1 133 = .ok (.istore_n 1, 1) := by decide +kernel
theorem dc_X8_init_134 : decode mX8_init.2.1 134 = .ok (.iload_n 1, 1) := by decide +kernel
theorem dc_X8_init_135 : decode mX8_init.2.1 135 = .ok (.iconst 3, 1) := by decide +kernel
theorem dc_X8_init_136 : decode mX8_init.2.1 136 = .ok (.if_icmp .gt 22, 3) := by decide +kernel
theorem dc_X8_init_139 : decode mX8_init.2.1 139 = .ok (.aload_n 0, 1) := by decide +kernel
theorem dc_X8_init_140 : decode mX8_init.2.1 140 = .ok (.getfield 32, 3) := by decide +kernel
theorem dc_X8_init_143 : decode mX8_init.2.1 143 = .ok (.iload_n 1, 1) := by decide +kernel
theorem dc_X8_init_144 : decode mX8_init.2.1 144 = .ok (.new 30, 3) := by decide +kernel
theorem dc_X8_init_147 : decode mX8_init.2.1 147 = .ok (.dup, 1) := by decide +kernel
theorem dc_X8_init_148 : decode mX8_init.2.1 148 = .ok (.invokespecial 77, 3) := by decide +kernel
theorem dc_X8_init_151 : decode mX8_init.2.1 151 = .ok (.aastore, 1) := by decide +kernel
theorem dc_X8_init_152 : decode mX8_init.2.1 152 = .ok (.iinc 1 1, 3) := by decide +kernel
theorem dc_X8_init_155 : decode mX8_init.2.1 155 = .ok (.goto (-21), 3) := by decide +kernel
theorem dc_X8_init_158 : decode mX8_init.2.1 158 = .ok (.return_, 1) := by decide +kernel
theorem dc_X8_set_0 : decode mX8_set.2.1 0 = .ok (.iload_n 1, 1) := by decide +kernel
theorem dc_X8_set_1 : decode mX8_set.2.1 1 = .ok (.iload_n 2, 1) := by decide +kernel
theorem dc_X8_set_2 : decode mX8_set.2.1 2 = .ok (.invokestatic 78, 3) := by decide +kernel
theorem dc_X8_set_5 : decode mX8_set.2.1 5 = .ok (.ifCond .ne 10, 3) := by decide +kernel
theorem dc_X8_set_8 : decode mX8_set.2.1 8 = .ok (.aload_n 0, 1) := by decide +kernel
theorem dc_X8_set_9 : decode mX8_set.2.1 9 = .ok (.ldc 82, 2) := by decide +kernel
theorem dc_X8_set_11 : decode mX8_set.2.1 11 = .ok (.invokevirtual 83, 3) := by decide +kernel
theorem dc_X8_set_14 : decode mX8_set.2.1 14 = .ok (.ireturn, 1) := by decide +kernel
theorem dc_X8_set_15 : decode mX8_set.2.1 15 = .ok (.aload_n 0, 1) := by decide +kernel
theorem dc_X8_set_16 : decode mX8_set.2.1 16 = .ok (.getfield 12, 3) := by decide +kernel
theorem dc_X8_set_19 : decode mX8_set.2.1 19 = .ok (.getfield 87, 3) := by decide +kernel
theorem dc_X8_set_22 : decode mX8_set.2.1 22 = .ok (.iload_n 1, 1) := by decide +kernel
theorem dc_X8_set_23 : decode mX8_set.2.1 23 = .ok (.invokevirtual 90, 3) := by decide +kernel
theorem dc_X8_set_26 : decode mX8_set.2.1 26 = .ok (.istore_n 3, 1) := by decide +kernel
theorem dc_X8_set_27 : decode mX8_set.2.1 27 = .ok (.aload_n 0, 1) := by decide +kernel
theorem dc_X8_set_28 : decode mX8_set.2.1 28 = .ok (.getfield 12, 3) := by decide +kernel
theorem dc_X8_set_31 : decode mX8_set.2.1 31 = .ok (.getfield 87, 3) := by decide +kernel
theorem dc_X8_set_34 : decode mX8_set.2.1 34 = .ok (.iload_n 1, 1) := by decide +kernel
theorem dc_X8_set_35 : decode mX8_set.2.1 35 = .ok (.iload_n 2, 1) := by decide +kernel
theorem dc_X8_set_36 : decode mX8_set.2.1 36 = .ok (.invokevirtual 93, 3) := by decide +kernel
theorem dc_X8_set_39 : decode mX8_set.2.1 39 = .ok (.iload_n 3, 1) := by decide +kernel
theorem dc_X8_set_40 : decode mX8_set.2.1 40 = .ok (.ireturn, 1) := by decide +kernel
theorem dc_X8_light_0 : decode mX8_light.2.1 0 = .ok (.iload_n 1, 1) := by decide +kernel
theorem dc_X8_light_1 : decode mX8_light.2.1 1 = .ok (.iconst 0, 1) := by decide +kernel
theorem dc_X8_light_2 : decode mX8_light.2.1 2 = .ok (.iconst 5, 1) := by decide +kernel
theorem dc_X8_light_3 : decode mX8_light.2.1 3 = .ok (.invokestatic 97, 3) := by decide +kernel
theorem dc_X8_light_6 : decode mX8_light.2.1 6 = .ok (.ifCond .eq 17, 3) := by decide +kernel
theorem dc_X8_light_9 : decode mX8_light.2.1 9 = .ok (.aload_n 0, 1) := by decide +kernel
theorem dc_X8_light_10 : decode mX8_light.2.1 10 = .ok (.getfield 12, 3) := by decide +kernel
theorem dc_X8_light_13 : decode mX8_light.2.1 13 = .ok (.getfield 87, 3) := by decide +kernel
theorem dc_X8_light_16 : decode mX8_light.2.1 16 = .ok (.iload_n 1, 1) := by decide +kernel
theorem dc_X8_light_17 : decode mX8_light.2.1 17 = .ok (.invokevirtual 90, 3) := by decide +kernel
theorem dc_X8_light_20 : decode mX8_light.2.1 20 = .ok (.goto 9, 3) := by decide +kernel
theorem dc_X8_light_23 : decode mX8_light.2.1 23 = .ok (.aload_n 0, 1) := by decide +kernel
theorem dc_X8_light_24 : decode mX8_light.2.1 24 = .ok (.ldc 82, 2) := by decide +kernel
theorem dc_X8_light_26 : decode mX8_light.2.1 26 = .ok (.invokevirtual 83, 3) := by decide +kernel
theorem dc_X8_light_29 : decode mX8_light.2.1 29 = .ok (.ireturn, 1) := by decide +kernel
theorem dc_X8_ship_0 : decode mX8_ship.2.1 0 = .ok (.iload_n 1, 1) := by decide +kernel
theorem dc_X8_ship_1 : decode mX8_ship.2.1 1 = .ok (.iconst 0, 1) := by decide +kernel
theorem dc_X8_ship_2 : decode mX8_ship.2.1 2 = .ok (.bipush 6, 2) := by decide +kernel
theorem dc_X8_ship_4 : decode mX8_ship.2.1 4 = .ok (.invokestatic 97, 3) := by decide +kernel
theorem dc_X8_ship_7 : decode mX8_ship.2.1 7 = .ok (.ifCond .eq 13, 3) := by decide +kernel
theorem dc_X8_ship_10 : decode mX8_ship.2.1 10 = .ok (.iload_n 2, 1) := by decide +kernel
theorem dc_X8_ship_11 : decode mX8_ship.2.1 11 = .ok (.iconst 0, 1) := by decide +kernel
theorem dc_X8_ship_12 : decode mX8_ship.2.1 12 = .ok (.bipush 23, 2) := by decide +kernel
theorem dc_X8_ship_14 : decode mX8_ship.2.1 14 = .ok (.invokestatic 97, 3) := by decide +kernel
theorem dc_X8_ship_17 : decode mX8_ship.2.1 17 = .ok (.ifCond .ne 10, 3) := by decide +kernel
theorem dc_X8_ship_20 : decode mX8_ship.2.1 20 = .ok (.aload_n 0, 1) := by decide +kernel
theorem dc_X8_ship_21 : decode mX8_ship.2.1 21 = .ok (.ldc 82, 2) := by decide +kernel
theorem dc_X8_ship_23 : decode mX8_ship.2.1 23 = .ok (.invokevirtual 83, 3) := by decide +kernel
theorem dc_X8_ship_26 : decode mX8_ship.2.1 26 = .ok (.ireturn, 1) := by decide +kernel
theorem dc_X8_ship_27 : decode mX8_ship.2.1 27 = .ok (.aload_n 0, 1) := by decide +kernel
theorem dc_X8_ship_28 : decode mX8_ship.2.1 28 = .ok (.getfield 12, 3) := by decide +kernel
theorem dc_X8_ship_31 : decode mX8_ship.2.1 31 = .ok (.getfield 101, 3) := by decide +kernel
theorem dc_X8_ship_34 : decode mX8_ship.2.1 34 = .ok (.invokevirtual 105, 3) := by decide +kernel
theorem dc_X8_ship_37 : decode mX8_ship.2.1 37 = .ok (.ifCond .eq 10, 3) := by decide +kernel
theorem dc_X8_ship_40 : decode mX8_ship.2.1 40 = .ok (.aload_n 0, 1) := by decide +kernel
theorem dc_X8_ship_41 : decode mX8_ship.2.1 41 = .ok (.ldc 111, 2) := by decide +kernel
theorem dc_X8_ship_43 : decode mX8_ship.2.1 43 = .ok (.invokevirtual 83, 3) := by decide +kernel
theorem dc_X8_ship_46 : decode mX8_ship.2.1 46 = .ok (.ireturn, 1) := by decide +kernel
theorem dc_X8_ship_47 : decode mX8_ship.2.1 47 = .ok (.aload_n 0, 1) := by decide +kernel
theorem dc_X8_ship_48 : decode mX8_ship.2.1 48 = .ok (.getfield 12, 3) := by decide +kernel
theorem dc_X8_ship_51 : decode mX8_ship.2.1 51 = .ok (.getfield 101, 3) := by decide +kernel
theorem dc_X8_ship_54 : decode mX8_ship.2.1 54 = .ok (.iload_n 1, 1) := by decide +kernel
theorem dc_X8_ship_55 : decode mX8_ship.2.1 55 = .ok (.iload_n 2, 1) := by decide +kernel
theorem dc_X8_ship_56 : decode mX8_ship.2.1 56 = .ok (.invokevirtual 112, 3) := by decide +kernel
theorem dc_X8_ship_59 : decode mX8_ship.2.1 59 = .ok (.aload_n 0, 1) := by decide +kernel
theorem dc_X8_ship_60 : decode mX8_ship.2.1 60 = .ok (.getfield 12, 3) := by decide +kernel
theorem dc_X8_ship_63 : decode mX8_ship.2.1 63 = .ok (.getfield 101, 3) := by decide +kernel
theorem dc_X8_ship_66 : decode mX8_ship.2.1 66 = .ok (.getfield 115, 3) := by decide +kernel
theorem dc_X8_ship_69 : decode mX8_ship.2.1 69 = .ok (.iconst 1, 1) := by decide +kernel
theorem dc_X8_ship_70 : decode mX8_ship.2.1 70 = .ok (.isub, 1) := by decide +kernel
theorem dc_X8_ship_71 : decode mX8_ship.2.1 71 = .ok (.ireturn, 1) := by decide +kernel
theorem dc_X8_of_0 : decode mX8_of.2.1 0 = .ok (.aload_n 0, 1) := by decide +kernel
theorem dc_X8_of_1 : decode mX8_of.2.1 1 = .ok (.iload_n 1, 1) := by decide +kernel
theorem dc_X8_of_2 : decode mX8_of.2.1 2 = .ok (.invokevirtual 119, 3) := by decide +kernel
theorem dc_X8_of_5 : decode mX8_of.2.1 5 = .ok (.ifCond .eq 13, 3) := by decide +kernel
theorem dc_X8_of_8 : decode mX8_of.2.1 8 = .ok (.iload_n 2, 1) := by decide +kernel
theorem dc_X8_of_9 : decode mX8_of.2.1 9 = .ok (.iconst 0, 1) := by decide +kernel
theorem dc_X8_of_10 : decode mX8_of.2.1 10 = .ok (.bipush 8, 2) := by decide +kernel
theorem dc_X8_of_12 : decode mX8_of.2.1 12 = .ok (.invokestatic 97, 3) := by decide +kernel
theorem dc_X8_of_15 : decode mX8_of.2.1 15 = .ok (.ifCond .ne 10, 3) := by decide +kernel
theorem dc_X8_of_18 : decode mX8_of.2.1 18 = .ok (.aload_n 0, 1) := by decide +kernel
theorem dc_X8_of_19 : decode mX8_of.2.1 19 = .ok (.ldc 82, 2) := by decide +kernel
theorem dc_X8_of_21 : decode mX8_of.2.1 21 = .ok (.invokevirtual 83, 3) := by decide +kernel
theorem dc_X8_of_24 : decode mX8_of.2.1 24 = .ok (.ireturn, 1) := by decide +kernel
theorem dc_X8_of_25 : decode mX8_of.2.1 25 = .ok (.aload_n 0, 1) := by decide +kernel
theorem dc_X8_of_26 : decode mX8_of.2.1 26 = .ok (.getfield 12, 3) := by decide +kernel
theorem dc_X8_of_29 : decode mX8_of.2.1 29 = .ok (.getfield 101, 3) := by decide +kernel
theorem dc_X8_of_32 : decode mX8_of.2.1 32 = .ok (.getfield 123, 3) := by decide +kernel
theorem dc_X8_of_35 : decode mX8_of.2.1 35 = .ok (.iload_n 1, 1) := by decide +kernel
theorem dc_X8_of_36 : decode mX8_of.2.1 36 = .ok (.aaload, 1) := by decide +kernel
theorem dc_X8_of_37 : decode mX8_of.2.1 37 = .ok (.astore_n 3, 1) := by decide +kernel
theorem dc_X8_of_38 : decode mX8_of.2.1 38 = .ok (.iload_n 2, 1) := by decide +kernel
theorem dc_X8_of_39 : decode mX8_of.2.1 39 = .ok (.bipush 7, 2) := by decide +kernel
theorem dc_X8_of_41 : decode mX8_of.2.1 41 = .ok (.if_icmp .ne 18, 3) := by decide +kernel
theorem dc_X8_of_44 : decode mX8_of.2.1 44 = .ok (.aload_n 3, 1) := by decide +kernel
theorem dc_X8_of_45 : decode mX8_of.2.1 45 = .ok (.aload_n 0, 1) := by decide +kernel
theorem dc_X8_of_46 : decode mX8_of.2.1 46 = .ok (.getfield 12, 3) := by decide +kernel
theorem dc_X8_of_49 : decode mX8_of.2.1 49 = .ok (.getfield 87, 3) := by decide +kernel
theorem dc_X8_of_52 : decode mX8_of.2.1 52 = .ok (.getfield 127, 3) := by decide +kernel
theorem dc_X8_of_55 : decode mX8_of.2.1 55 = .ok (.invokevirtual 130, 3) := by decide +kernel
theorem dc_X8_of_58 : decode mX8_of.2.1 58 = .ok (.ireturn, 1) := by decide +kernel
theorem dc_X8_of_59 : decode mX8_of.2.1 59 = .ok (.iload_n 2, 1) := by decide +kernel
theorem dc_X8_of_60 : decode mX8_of.2.1 60 = .ok (.bipush 8, 2) := by decide +kernel
theorem dc_X8_of_62 : decode mX8_of.2.1 62 = .ok (.if_icmp .ne 29, 3) := by decide +kernel
theorem dc_X8_of_65 : decode mX8_of.2.1 65 = .ok (.aload_n 3, 1) := by decide +kernel
theorem dc_X8_of_66 : decode mX8_of.2.1 66 = .ok (.aload_n 0, 1) := by decide +kernel
theorem dc_X8_of_67 : decode mX8_of.2.1 67 = .ok (.getfield 12, 3) := by decide +kernel
theorem dc_X8_of_70 : decode mX8_of.2.1 70 = .ok (.getfield 87, 3) := by decide +kernel
theorem dc_X8_of_73 : decode mX8_of.2.1 73 = .ok (.iconst 0, 1) := by decide +kernel
theorem dc_X8_of_74 : decode mX8_of.2.1 74 = .ok (.invokevirtual 133, 3) := by decide +kernel
theorem dc_X8_of_77 : decode mX8_of.2.1 77 = .ok (.aload_n 0, 1) := by decide +kernel
theorem dc_X8_of_78 : decode mX8_of.2.1 78 = .ok (.getfield 12, 3) := by decide +kernel
theorem dc_X8_of_81 : decode mX8_of.2.1 81 = .ok (.getfield 87, 3) := by decide +kernel
theorem dc_X8_of_84 : decode mX8_of.2.1 84 = .ok (.getfield 127, 3) := by decide +kernel
theorem dc_X8_of_87 : decode mX8_of.2.1 87 = .ok (.invokevirtual 136, 3) := by decide +kernel
theorem dc_X8_of_90 : decode mX8_of.2.1 90 = .ok (.ireturn, 1) := by decide +kernel
theorem dc_X8_of_91 : decode mX8_of.2.1 91 = .ok (.aload_n 3, 1) := by decide +kernel
theorem dc_X8_of_92 : decode mX8_of.2.1 92 = .ok (.iload_n 2, 1) := by decide +kernel
theorem dc_X8_of_93 : decode mX8_of.2.1 93 = .ok (.invokevirtual 140, 3) := by decide +kernel
theorem dc_X8_of_96 : decode mX8_of.2.1 96 = .ok (.ireturn, 1) := by decide +kernel
theorem dc_X8_change_0 : decode mX8_change.2.1 0 = .ok (.aload_n 0, 1) := by decide +kernel
theorem dc_X8_change_1 : decode mX8_change.2.1 1 = .ok (.iload_n 1, 1) := by decide +kernel
theorem dc_X8_change_2 : decode mX8_change.2.1 2 = .ok (.invokevirtual 119, 3) := by decide +kernel
theorem dc_X8_change_5 : decode mX8_change.2.1 5 = .ok (.ifCond .eq 11, 3) := by decide +kernel
theorem dc_X8_change_8 : decode mX8_change.2.1 8 = .ok (.iload_n 2, 1) := by decide +kernel
theorem dc_X8_change_9 : decode mX8_change.2.1 9 = .ok (.iload_n 3, 1) := by decide +kernel
theorem dc_X8_change_10 : decode mX8_change.2.1 10 = .ok (.invokestatic 141, 3) := by decide +kernel
theorem dc_X8_change_13 : decode mX8_change.2.1 13 = .ok (.ifCond .ne 10, 3) := by decide +kernel
theorem dc_X8_change_16 : decode mX8_change.2.1 16 = .ok (.aload_n 0, 1) := by decide +kernel
theorem dc_X8_change_17 : decode mX8_change.2.1 17 = .ok (.ldc 82, 2) := by decide +kernel
theorem dc_X8_change_19 : decode mX8_change.2.1 19 = .ok (.invokevirtual 83, 3) := by decide +kernel
theorem dc_X8_change_22 : decode mX8_change.2.1 22 = .ok (.ireturn, 1) := by decide +kernel
theorem dc_X8_change_23 : decode mX8_change.2.1 23 = .ok (.aload_n 0, 1) := by decide +kernel
theorem dc_X8_change_24 : decode mX8_change.2.1 24 = .ok (.getfield 12, 3) := by decide +kernel
theorem dc_X8_change_27 : decode mX8_change.2.1 27 = .ok (.getfield 101, 3) := by decide +kernel
theorem dc_X8_change_30 : decode mX8_change.2.1 30 = .ok (.getfield 123, 3) := by decide +kernel
theorem dc_X8_change_33 : decode mX8_change.2.1 33 = .ok (.iload_n 1, 1) := by decide +kernel
theorem dc_X8_change_34 : decode mX8_change.2.1 34 = .ok (.aaload, 1) := by decide +kernel
theorem dc_X8_change_35 : decode mX8_change.2.1 35 = .ok (.astore 4, 2) := by decide +kernel
theorem dc_X8_change_37 : decode mX8_change.2.1 37 = .ok (.aload 4, 2) := by decide +kernel
theorem dc_X8_change_39 : decode mX8_change.2.1 39 = .ok (.iload_n 2, 1) := by decide +kernel
theorem dc_X8_change_40 : decode mX8_change.2.1 40 = .ok (.invokevirtual 140, 3) := by decide +kernel
theorem dc_X8_change_43 : decode mX8_change.2.1 43 = .ok (.istore 5, 2) := by decide +kernel
theorem dc_X8_change_45 : decode mX8_change.2.1 45 = .ok (.aload 4, 2) := by decide +kernel
theorem dc_X8_change_47 : decode mX8_change.2.1 47 = .ok (.iload_n 2, 1) := by decide +kernel
theorem dc_X8_change_48 : decode mX8_change.2.1 48 = .ok (.iload_n 3, 1) := by decide +kernel
theorem dc_X8_change_49 : decode mX8_change.2.1 49 = .ok (.invokevirtual 142, 3) := by decide +kernel
theorem dc_X8_change_52 : decode mX8_change.2.1 52 = .ok (.iload 5, 2) := by decide +kernel
theorem dc_X8_change_54 : decode mX8_change.2.1 54 = .ok (.ireturn, 1) := by decide +kernel
theorem dc_X8_who_0 : decode mX8_who.2.1 0 = .ok (.iload_n 1, 1) := by decide +kernel
theorem dc_X8_who_1 : decode mX8_who.2.1 1 = .ok (.iconst 0, 1) := by decide +kernel
theorem dc_X8_who_2 : decode mX8_who.2.1 2 = .ok (.bipush 23, 2) := by decide +kernel
theorem dc_X8_who_4 : decode mX8_who.2.1 4 = .ok (.invokestatic 97, 3) := by decide +kernel
theorem dc_X8_who_7 : decode mX8_who.2.1 7 = .ok (.ifCond .eq 17, 3) := by decide +kernel
theorem dc_X8_who_10 : decode mX8_who.2.1 10 = .ok (.aload_n 0, 1) := by decide +kernel
theorem dc_X8_who_11 : decode mX8_who.2.1 11 = .ok (.getfield 12, 3) := by decide +kernel
theorem dc_X8_who_14 : decode mX8_who.2.1 14 = .ok (.getfield 101, 3) := by decide +kernel
theorem dc_X8_who_17 : decode mX8_who.2.1 17 = .ok (.iload_n 1, 1) := by decide +kernel
theorem dc_X8_who_18 : decode mX8_who.2.1 18 = .ok (.invokevirtual 143, 3) := by decide +kernel
theorem dc_X8_who_21 : decode mX8_who.2.1 21 = .ok (.goto 9, 3) := by decide +kernel
theorem dc_X8_who_24 : decode mX8_who.2.1 24 = .ok (.aload_n 0, 1) := by decide +kernel
theorem dc_X8_who_25 : decode mX8_who.2.1 25 = .ok (.ldc 82, 2) := by decide +kernel
theorem dc_X8_who_27 : decode mX8_who.2.1 27 = .ok (.invokevirtual 83, 3) := by decide +kernel
theorem dc_X8_who_30 : decode mX8_who.2.1 30 = .ok (.ireturn, 1) := by decide +kernel
theorem dc_X8_go_0 : decode mX8_go.2.1 0 = .ok (.iload_n 1, 1) := by decide +kernel
theorem dc_X8_go_1 : decode mX8_go.2.1 1 = .ok (.iconst 1, 1) := by decide +kernel
theorem dc_X8_go_2 : decode mX8_go.2.1 2 = .ok (.bipush 60, 2) := by decide +kernel
theorem dc_X8_go_4 : decode mX8_go.2.1 4 = .ok (.invokestatic 97, 3) := by decide +kernel
theorem dc_X8_go_7 : decode mX8_go.2.1 7 = .ok (.ifCond .ne 10, 3) := by decide +kernel
theorem dc_X8_go_10 : decode mX8_go.2.1 10 = .ok (.aload_n 0, 1) := by decide +kernel
theorem dc_X8_go_11 : decode mX8_go.2.1 11 = .ok (.ldc 82, 2) := by decide +kernel
theorem dc_X8_go_13 : decode mX8_go.2.1 13 = .ok (.invokevirtual 83, 3) := by decide +kernel
theorem dc_X8_go_16 : decode mX8_go.2.1 16 = .ok (.ireturn, 1) := by decide +kernel
theorem dc_X8_go_17 : decode mX8_go.2.1 17 = .ok (.aload_n 0, 1) := by decide +kernel
theorem dc_X8_go_18 : decode mX8_go.2.1 18 = .ok (.getfield 12, 3) := by decide +kernel
theorem dc_X8_go_21 : decode mX8_go.2.1 21 = .ok (.getfield 87, 3) := by decide +kernel
theorem dc_X8_go_24 : decode mX8_go.2.1 24 = .ok (.getfield 127, 3) := by decide +kernel
theorem dc_X8_go_27 : decode mX8_go.2.1 27 = .ok (.iload_n 1, 1) := by decide +kernel
theorem dc_X8_go_28 : decode mX8_go.2.1 28 = .ok (.iadd, 1) := by decide +kernel
theorem dc_X8_go_29 : decode mX8_go.2.1 29 = .ok (.ldc 146, 2) := by decide +kernel
theorem dc_X8_go_31 : decode mX8_go.2.1 31 = .ok (.if_icmp .le 10, 3) := by decide +kernel
theorem dc_X8_go_34 : decode mX8_go.2.1 34 = .ok (.aload_n 0, 1) := by decide +kernel
theorem dc_X8_go_35 : decode mX8_go.2.1 35 = .ok (.ldc 147, 2) := by decide +kernel
theorem dc_X8_go_37 : decode mX8_go.2.1 37 = .ok (.invokevirtual 83, 3) := by decide +kernel
theorem dc_X8_go_40 : decode mX8_go.2.1 40 = .ok (.ireturn, 1) := by decide +kernel
theorem dc_X8_go_41 : decode mX8_go.2.1 41 = .ok (.iconst 0, 1) := by decide +kernel
theorem dc_X8_go_42 : decode mX8_go.2.1 42 = .ok (.istore_n 2, 1) := by decide +kernel
theorem dc_X8_go_43 : decode mX8_go.2.1 43 = .ok (.iload_n 2, 1) := by decide +kernel
theorem dc_X8_go_44 : decode mX8_go.2.1 44 = .ok (.iload_n 1, 1) := by decide +kernel
theorem dc_X8_go_45 : decode mX8_go.2.1 45 = .ok (.if_icmp .ge 16, 3) := by decide +kernel
theorem dc_X8_go_48 : decode mX8_go.2.1 48 = .ok (.aload_n 0, 1) := by decide +kernel
theorem dc_X8_go_49 : decode mX8_go.2.1 49 = .ok (.getfield 12, 3) := by decide +kernel
theorem dc_X8_go_52 : decode mX8_go.2.1 52 = .ok (.invokevirtual 148, 3) := by decide +kernel
theorem dc_X8_go_55 : decode mX8_go.2.1 55 = .ok (.iinc 2 1, 3) := by decide +kernel
theorem dc_X8_go_58 : decode mX8_go.2.1 58 = .ok (.goto (-15), 3) := by decide +kernel
theorem dc_X8_go_61 : decode mX8_go.2.1 61 = .ok (.aload_n 0, 1) := by decide +kernel
theorem dc_X8_go_62 : decode mX8_go.2.1 62 = .ok (.getfield 12, 3) := by decide +kernel
theorem dc_X8_go_65 : decode mX8_go.2.1 65 = .ok (.getfield 101, 3) := by decide +kernel
theorem dc_X8_go_68 : decode mX8_go.2.1 68 = .ok (.invokevirtual 151, 3) := by decide +kernel
theorem dc_X8_go_71 : decode mX8_go.2.1 71 = .ok (.ireturn, 1) := by decide +kernel
theorem dc_X8_now_0 : decode mX8_now.2.1 0 = .ok (.iload_n 1, 1) := by decide +kernel
theorem dc_X8_now_1 : decode mX8_now.2.1 1 = .ok (.tableswitch 123 0 6 #[43, 54, 65, 76, 87, 98, 109], 43) := by decide +kernel
theorem dc_X8_now_44 : decode mX8_now.2.1 44 = .ok (.aload_n 0, 1) := by decide +kernel
theorem dc_X8_now_45 : decode mX8_now.2.1 45 = .ok (.getfield 12, 3) := by decide +kernel
theorem dc_X8_now_48 : decode mX8_now.2.1 48 = .ok (.getfield 87, 3) := by decide +kernel
theorem dc_X8_now_51 : decode mX8_now.2.1 51 = .ok (.getfield 127, 3) := by decide +kernel
theorem dc_X8_now_54 : decode mX8_now.2.1 54 = .ok (.ireturn, 1) := by decide +kernel
theorem dc_X8_now_55 : decode mX8_now.2.1 55 = .ok (.aload_n 0, 1) := by decide +kernel
theorem dc_X8_now_56 : decode mX8_now.2.1 56 = .ok (.getfield 12, 3) := by decide +kernel
theorem dc_X8_now_59 : decode mX8_now.2.1 59 = .ok (.getfield 101, 3) := by decide +kernel
theorem dc_X8_now_62 : decode mX8_now.2.1 62 = .ok (.invokevirtual 151, 3) := by decide +kernel
theorem dc_X8_now_65 : decode mX8_now.2.1 65 = .ok (.ireturn, 1) := by decide +kernel
theorem dc_X8_now_66 : decode mX8_now.2.1 66 = .ok (.aload_n 0, 1) := by decide +kernel
theorem dc_X8_now_67 : decode mX8_now.2.1 67 = .ok (.getfield 12, 3) := by decide +kernel
theorem dc_X8_now_70 : decode mX8_now.2.1 70 = .ok (.getfield 101, 3) := by decide +kernel
theorem dc_X8_now_73 : decode mX8_now.2.1 73 = .ok (.invokevirtual 155, 3) := by decide +kernel
theorem dc_X8_now_76 : decode mX8_now.2.1 76 = .ok (.ireturn, 1) := by decide +kernel
theorem dc_X8_now_77 : decode mX8_now.2.1 77 = .ok (.aload_n 0, 1) := by decide +kernel
theorem dc_X8_now_78 : decode mX8_now.2.1 78 = .ok (.getfield 12, 3) := by decide +kernel
theorem dc_X8_now_81 : decode mX8_now.2.1 81 = .ok (.getfield 101, 3) := by decide +kernel
theorem dc_X8_now_84 : decode mX8_now.2.1 84 = .ok (.invokevirtual 158, 3) := by decide +kernel
theorem dc_X8_now_87 : decode mX8_now.2.1 87 = .ok (.ireturn, 1) := by decide +kernel
theorem dc_X8_now_88 : decode mX8_now.2.1 88 = .ok (.aload_n 0, 1) := by decide +kernel
theorem dc_X8_now_89 : decode mX8_now.2.1 89 = .ok (.getfield 12, 3) := by decide +kernel
theorem dc_X8_now_92 : decode mX8_now.2.1 92 = .ok (.getfield 101, 3) := by decide +kernel
theorem dc_X8_now_95 : decode mX8_now.2.1 95 = .ok (.invokevirtual 161, 3) := by decide +kernel
theorem dc_X8_now_98 : decode mX8_now.2.1 98 = .ok (.ireturn, 1) := by decide +kernel
theorem dc_X8_now_99 : decode mX8_now.2.1 99 = .ok (.aload_n 0, 1) := by decide +kernel
theorem dc_X8_now_100 : decode mX8_now.2.1 100 = .ok (.getfield 12, 3) := by decide +kernel
theorem dc_X8_now_103 : decode mX8_now.2.1 103 = .ok (.getfield 101, 3) := by decide +kernel
theorem dc_X8_now_106 : decode mX8_now.2.1 106 = .ok (.invokevirtual 164, 3) := by decide +kernel
theorem dc_X8_now_109 : decode mX8_now.2.1 109 = .ok (.ireturn, 1) := by decide +kernel
theorem dc_X8_now_110 : decode mX8_now.2.1 110 = .ok (.aload_n 0, 1) := by decide +kernel
theorem dc_X8_now_111 : decode mX8_now.2.1 111 = .ok (.getfield 12, 3) := by decide +kernel
theorem dc_X8_now_114 : decode mX8_now.2.1 114 = .ok (.getfield 87, 3) := by decide +kernel
theorem dc_X8_now_117 : decode mX8_now.2.1 117 = .ok (.getfield 167, 3) := by decide +kernel
theorem dc_X8_now_120 : decode mX8_now.2.1 120 = .ok (.invokestatic 170, 3) := by decide +kernel
theorem dc_X8_now_123 : decode mX8_now.2.1 123 = .ok (.ireturn, 1) := by decide +kernel
theorem dc_X8_now_124 : decode mX8_now.2.1 124 = .ok (.aload_n 0, 1) := by decide +kernel
theorem dc_X8_now_125 : decode mX8_now.2.1 125 = .ok (.ldc 82, 2) := by decide +kernel
theorem dc_X8_now_127 : decode mX8_now.2.1 127 = .ok (.invokevirtual 83, 3) := by decide +kernel
theorem dc_X8_now_130 : decode mX8_now.2.1 130 = .ok (.ireturn, 1) := by decide +kernel
theorem dc_X8_ahead_0 : decode mX8_ahead.2.1 0 = .ok (.iload_n 2, 1) := by decide +kernel
theorem dc_X8_ahead_1 : decode mX8_ahead.2.1 1 = .ok (.iconst 1, 1) := by decide +kernel
theorem dc_X8_ahead_2 : decode mX8_ahead.2.1 2 = .ok (.if_icmp .eq 19, 3) := by decide +kernel
theorem dc_X8_ahead_5 : decode mX8_ahead.2.1 5 = .ok (.iload_n 2, 1) := by decide +kernel
theorem dc_X8_ahead_6 : decode mX8_ahead.2.1 6 = .ok (.iconst 2, 1) := by decide +kernel
theorem dc_X8_ahead_7 : decode mX8_ahead.2.1 7 = .ok (.if_icmp .eq 14, 3) := by decide +kernel
theorem dc_X8_ahead_10 : decode mX8_ahead.2.1 10 = .ok (.iload_n 2, 1) := by decide +kernel
theorem dc_X8_ahead_11 : decode mX8_ahead.2.1 11 = .ok (.iconst 5, 1) := by decide +kernel
theorem dc_X8_ahead_12 : decode mX8_ahead.2.1 12 = .ok (.if_icmp .eq 9, 3) := by decide +kernel
theorem dc_X8_ahead_15 : decode mX8_ahead.2.1 15 = .ok (.iload_n 2, 1) := by decide +kernel
theorem dc_X8_ahead_16 : decode mX8_ahead.2.1 16 = .ok (.bipush 6, 2) := by decide +kernel
theorem dc_X8_ahead_18 : decode mX8_ahead.2.1 18 = .ok (.if_icmp .ne 7, 3) := by decide +kernel
theorem dc_X8_ahead_21 : decode mX8_ahead.2.1 21 = .ok (.iconst 1, 1) := by decide +kernel
theorem dc_X8_ahead_22 : decode mX8_ahead.2.1 22 = .ok (.goto 4, 3) := by decide +kernel
theorem dc_X8_ahead_25 : decode mX8_ahead.2.1 25 = .ok (.iconst 0, 1) := by decide +kernel
theorem dc_X8_ahead_26 : decode mX8_ahead.2.1 26 = .ok (.istore 4, 2) := by decide +kernel
theorem dc_X8_ahead_28 : decode mX8_ahead.2.1 28 = .ok (.aload_n 0, 1) := by decide +kernel
theorem dc_X8_ahead_29 : decode mX8_ahead.2.1 29 = .ok (.iload_n 1, 1) := by decide +kernel
theorem dc_X8_ahead_30 : decode mX8_ahead.2.1 30 = .ok (.invokevirtual 119, 3) := by decide +kernel
theorem dc_X8_ahead_33 : decode mX8_ahead.2.1 33 = .ok (.ifCond .eq 18, 3) := by decide +kernel
theorem dc_X8_ahead_36 : decode mX8_ahead.2.1 36 = .ok (.iload 4, 2) := by decide +kernel
theorem dc_X8_ahead_38 : decode mX8_ahead.2.1 38 = .ok (.ifCond .eq 13, 3) := by decide +kernel
theorem dc_X8_ahead_41 : decode mX8_ahead.2.1 41 = .ok (.iload_n 3, 1) := by decide +kernel
theorem dc_X8_ahead_42 : decode mX8_ahead.2.1 42 = .ok (.iconst 0, 1) := by decide +kernel
theorem dc_X8_ahead_43 : decode mX8_ahead.2.1 43 = .ok (.bipush 100, 2) := by decide +kernel
theorem dc_X8_ahead_45 : decode mX8_ahead.2.1 45 = .ok (.invokestatic 97, 3) := by decide +kernel
theorem dc_X8_ahead_48 : decode mX8_ahead.2.1 48 = .ok (.ifCond .ne 10, 3) := by decide +kernel
theorem dc_X8_ahead_51 : decode mX8_ahead.2.1 51 = .ok (.aload_n 0, 1) := by decide +kernel
theorem dc_X8_ahead_52 : decode mX8_ahead.2.1 52 = .ok (.ldc 82, 2) := by decide +kernel
theorem dc_X8_ahead_54 : decode mX8_ahead.2.1 54 = .ok (.invokevirtual 83, 3) := by decide +kernel
theorem dc_X8_ahead_57 : decode mX8_ahead.2.1 57 = .ok (.ireturn, 1) := by decide +kernel
theorem dc_X8_ahead_58 : decode mX8_ahead.2.1 58 = .ok (.aload_n 0, 1) := by decide +kernel
theorem dc_X8_ahead_59 : decode mX8_ahead.2.1 59 = .ok (.getfield 53, 3) := by decide +kernel
theorem dc_X8_ahead_62 : decode mX8_ahead.2.1 62 = .ok (.aload_n 0, 1) := by decide +kernel
theorem dc_X8_ahead_63 : decode mX8_ahead.2.1 63 = .ok (.getfield 12, 3) := by decide +kernel
theorem dc_X8_ahead_66 : decode mX8_ahead.2.1 66 = .ok (.getfield 101, 3) := by decide +kernel
theorem dc_X8_ahead_69 : decode mX8_ahead.2.1 69 = .ok (.getfield 123, 3) := by decide +kernel
theorem dc_X8_ahead_72 : decode mX8_ahead.2.1 72 = .ok (.iload_n 1, 1) := by decide +kernel
theorem dc_X8_ahead_73 : decode mX8_ahead.2.1 73 = .ok (.aaload, 1) := by decide +kernel
theorem dc_X8_ahead_74 : decode mX8_ahead.2.1 74 = .ok (.invokevirtual 175, 3) := by decide +kernel
theorem dc_X8_ahead_77 : decode mX8_ahead.2.1 77 = .ok (.aload_n 0, 1) := by decide +kernel
theorem dc_X8_ahead_78 : decode mX8_ahead.2.1 78 = .ok (.getfield 53, 3) := by decide +kernel
theorem dc_X8_ahead_81 : decode mX8_ahead.2.1 81 = .ok (.aload_n 0, 1) := by decide +kernel
theorem dc_X8_ahead_82 : decode mX8_ahead.2.1 82 = .ok (.getfield 12, 3) := by decide +kernel
theorem dc_X8_ahead_85 : decode mX8_ahead.2.1 85 = .ok (.getfield 87, 3) := by decide +kernel
theorem dc_X8_ahead_88 : decode mX8_ahead.2.1 88 = .ok (.iload_n 3, 1) := by decide +kernel
theorem dc_X8_ahead_89 : decode mX8_ahead.2.1 89 = .ok (.invokevirtual 179, 3) := by decide +kernel
theorem dc_X8_ahead_92 : decode mX8_ahead.2.1 92 = .ok (.aload_n 0, 1) := by decide +kernel
theorem dc_X8_ahead_93 : decode mX8_ahead.2.1 93 = .ok (.getfield 53, 3) := by decide +kernel
theorem dc_X8_ahead_96 : decode mX8_ahead.2.1 96 = .ok (.iload_n 2, 1) := by decide +kernel
theorem dc_X8_ahead_97 : decode mX8_ahead.2.1 97 = .ok (.invokevirtual 140, 3) := by decide +kernel
theorem dc_X8_ahead_100 : decode mX8_ahead.2.1 100 = .ok (.ireturn, 1) := by decide +kernel
theorem dc_X8_shows_0 : decode mX8_shows.2.1 0 = .ok (.iload_n 1, 1) := by decide +kernel
theorem dc_X8_shows_1 : decode mX8_shows.2.1 1 = .ok (.iconst 0, 1) := by decide +kernel
theorem dc_X8_shows_2 : decode mX8_shows.2.1 2 = .ok (.iconst 1, 1) := by decide +kernel
theorem dc_X8_shows_3 : decode mX8_shows.2.1 3 = .ok (.invokestatic 97, 3) := by decide +kernel
theorem dc_X8_shows_6 : decode mX8_shows.2.1 6 = .ok (.ifCond .eq 13, 3) := by decide +kernel
theorem dc_X8_shows_9 : decode mX8_shows.2.1 9 = .ok (.iload_n 2, 1) := by decide +kernel
theorem dc_X8_shows_10 : decode mX8_shows.2.1 10 = .ok (.iconst 0, 1) := by decide +kernel
theorem dc_X8_shows_11 : decode mX8_shows.2.1 11 = .ok (.bipush 100, 2) := by decide +kernel
theorem dc_X8_shows_13 : decode mX8_shows.2.1 13 = .ok (.invokestatic 97, 3) := by decide +kernel
theorem dc_X8_shows_16 : decode mX8_shows.2.1 16 = .ok (.ifCond .ne 10, 3) := by decide +kernel
theorem dc_X8_shows_19 : decode mX8_shows.2.1 19 = .ok (.aload_n 0, 1) := by decide +kernel
theorem dc_X8_shows_20 : decode mX8_shows.2.1 20 = .ok (.ldc 82, 2) := by decide +kernel
theorem dc_X8_shows_22 : decode mX8_shows.2.1 22 = .ok (.invokevirtual 83, 3) := by decide +kernel
theorem dc_X8_shows_25 : decode mX8_shows.2.1 25 = .ok (.ireturn, 1) := by decide +kernel
theorem dc_X8_shows_26 : decode mX8_shows.2.1 26 = .ok (.iload_n 1, 1) := by decide +kernel
theorem dc_X8_shows_27 : decode mX8_shows.2.1 27 = .ok (.ifCond .ne 17, 3) := by decide +kernel
theorem dc_X8_shows_30 : decode mX8_shows.2.1 30 = .ok (.aload_n 0, 1) := by decide +kernel
theorem dc_X8_shows_31 : decode mX8_shows.2.1 31 = .ok (.getfield 12, 3) := by decide +kernel
theorem dc_X8_shows_34 : decode mX8_shows.2.1 34 = .ok (.getfield 87, 3) := by decide +kernel
theorem dc_X8_shows_37 : decode mX8_shows.2.1 37 = .ok (.iload_n 2, 1) := by decide +kernel
theorem dc_X8_shows_38 : decode mX8_shows.2.1 38 = .ok (.invokevirtual 183, 3) := by decide +kernel
theorem dc_X8_shows_41 : decode mX8_shows.2.1 41 = .ok (.goto 14, 3) := by decide +kernel
theorem dc_X8_shows_44 : decode mX8_shows.2.1 44 = .ok (.aload_n 0, 1) := by decide +kernel
theorem dc_X8_shows_45 : decode mX8_shows.2.1 45 = .ok (.getfield 12, 3) := by decide +kernel
theorem dc_X8_shows_48 : decode mX8_shows.2.1 48 = .ok (.getfield 87, 3) := by decide +kernel
theorem dc_X8_shows_51 : decode mX8_shows.2.1 51 = .ok (.iload_n 2, 1) := by decide +kernel
theorem dc_X8_shows_52 : decode mX8_shows.2.1 52 = .ok (.invokevirtual 186, 3) := by decide +kernel
theorem dc_X8_shows_55 : decode mX8_shows.2.1 55 = .ok (.ireturn, 1) := by decide +kernel
theorem dc_X8_strands_0 : decode mX8_strands.2.1 0 = .ok (.aload_n 0, 1) := by decide +kernel
theorem dc_X8_strands_1 : decode mX8_strands.2.1 1 = .ok (.iload_n 1, 1) := by decide +kernel
theorem dc_X8_strands_2 : decode mX8_strands.2.1 2 = .ok (.invokevirtual 119, 3) := by decide +kernel
theorem dc_X8_strands_5 : decode mX8_strands.2.1 5 = .ok (.ifCond .ne 10, 3) := by decide +kernel
theorem dc_X8_strands_8 : decode mX8_strands.2.1 8 = .ok (.aload_n 0, 1) := by decide +kernel
theorem dc_X8_strands_9 : decode mX8_strands.2.1 9 = .ok (.ldc 82, 2) := by decide +kernel
theorem dc_X8_strands_11 : decode mX8_strands.2.1 11 = .ok (.invokevirtual 83, 3) := by decide +kernel
theorem dc_X8_strands_14 : decode mX8_strands.2.1 14 = .ok (.ireturn, 1) := by decide +kernel
theorem dc_X8_strands_15 : decode mX8_strands.2.1 15 = .ok (.aload_n 0, 1) := by decide +kernel
theorem dc_X8_strands_16 : decode mX8_strands.2.1 16 = .ok (.getfield 53, 3) := by decide +kernel
theorem dc_X8_strands_19 : decode mX8_strands.2.1 19 = .ok (.aload_n 0, 1) := by decide +kernel
theorem dc_X8_strands_20 : decode mX8_strands.2.1 20 = .ok (.getfield 12, 3) := by decide +kernel
theorem dc_X8_strands_23 : decode mX8_strands.2.1 23 = .ok (.getfield 101, 3) := by decide +kernel
theorem dc_X8_strands_26 : decode mX8_strands.2.1 26 = .ok (.getfield 123, 3) := by decide +kernel
theorem dc_X8_strands_29 : decode mX8_strands.2.1 29 = .ok (.iload_n 1, 1) := by decide +kernel
theorem dc_X8_strands_30 : decode mX8_strands.2.1 30 = .ok (.aaload, 1) := by decide +kernel
theorem dc_X8_strands_31 : decode mX8_strands.2.1 31 = .ok (.invokevirtual 175, 3) := by decide +kernel
theorem dc_X8_strands_34 : decode mX8_strands.2.1 34 = .ok (.aload_n 0, 1) := by decide +kernel
theorem dc_X8_strands_35 : decode mX8_strands.2.1 35 = .ok (.getfield 53, 3) := by decide +kernel
theorem dc_X8_strands_38 : decode mX8_strands.2.1 38 = .ok (.getfield 189, 3) := by decide +kernel
theorem dc_X8_strands_41 : decode mX8_strands.2.1 41 = .ok (.istore_n 2, 1) := by decide +kernel
theorem dc_X8_strands_42 : decode mX8_strands.2.1 42 = .ok (.iconst 1, 1) := by decide +kernel
theorem dc_X8_strands_43 : decode mX8_strands.2.1 43 = .ok (.istore_n 3, 1) := by decide +kernel
theorem dc_X8_strands_44 : decode mX8_strands.2.1 44 = .ok (.iload_n 3, 1) := by decide +kernel
theorem dc_X8_strands_45 : decode mX8_strands.2.1 45 = .ok (.sipush 200, 3) := by decide +kernel
theorem dc_X8_strands_48 : decode mX8_strands.2.1 48 = .ok (.if_icmp .gt 33, 3) := by decide +kernel
theorem dc_X8_strands_51 : decode mX8_strands.2.1 51 = .ok (.aload_n 0, 1) := by decide +kernel
theorem dc_X8_strands_52 : decode mX8_strands.2.1 52 = .ok (.aload_n 0, 1) := by decide +kernel
theorem dc_X8_strands_53 : decode mX8_strands.2.1 53 = .ok (.getfield 53, 3) := by decide +kernel
theorem dc_X8_strands_56 : decode mX8_strands.2.1 56 = .ok (.iload_n 3, 1) := by decide +kernel
theorem dc_X8_strands_57 : decode mX8_strands.2.1 57 = .ok (.iconst 1, 1) := by decide +kernel
theorem dc_X8_strands_58 : decode mX8_strands.2.1 58 = .ok (.isub, 1) := by decide +kernel
theorem dc_X8_strands_59 : decode mX8_strands.2.1 59 = .ok (.invokevirtual 192, 3) := by decide +kernel
theorem dc_X8_strands_62 : decode mX8_strands.2.1 62 = .ok (.aload_n 0, 1) := by decide +kernel
theorem dc_X8_strands_63 : decode mX8_strands.2.1 63 = .ok (.getfield 53, 3) := by decide +kernel
theorem dc_X8_strands_66 : decode mX8_strands.2.1 66 = .ok (.getfield 189, 3) := by decide +kernel
theorem dc_X8_strands_69 : decode mX8_strands.2.1 69 = .ok (.iload_n 2, 1) := by decide +kernel
theorem dc_X8_strands_70 : decode mX8_strands.2.1 70 = .ok (.if_icmp .le 5, 3) := by decide +kernel
theorem dc_X8_strands_73 : decode mX8_strands.2.1 73 = .ok (.iload_n 3, 1) := by decide +kernel
theorem dc_X8_strands_74 : decode mX8_strands.2.1 74 = .ok (.ireturn, 1) := by decide +kernel
theorem dc_X8_strands_75 : decode mX8_strands.2.1 75 = .ok (.iinc 3 1, 3) := by decide +kernel
theorem dc_X8_strands_78 : decode mX8_strands.2.1 78 = .ok (.goto (-34), 3) := by decide +kernel
theorem dc_X8_strands_81 : decode mX8_strands.2.1 81 = .ok (.aload_n 0, 1) := by decide +kernel
theorem dc_X8_strands_82 : decode mX8_strands.2.1 82 = .ok (.ldc 196, 2) := by decide +kernel
theorem dc_X8_strands_84 : decode mX8_strands.2.1 84 = .ok (.invokevirtual 83, 3) := by decide +kernel
theorem dc_X8_strands_87 : decode mX8_strands.2.1 87 = .ok (.ireturn, 1) := by decide +kernel
theorem dc_X8_when_0 : decode mX8_when.2.1 0 = .ok (.aload_n 0, 1) := by decide +kernel
theorem dc_X8_when_1 : decode mX8_when.2.1 1 = .ok (.iload_n 1, 1) := by decide +kernel
theorem dc_X8_when_2 : decode mX8_when.2.1 2 = .ok (.invokevirtual 119, 3) := by decide +kernel
theorem dc_X8_when_5 : decode mX8_when.2.1 5 = .ok (.ifCond .eq 13, 3) := by decide +kernel
theorem dc_X8_when_8 : decode mX8_when.2.1 8 = .ok (.iload_n 2, 1) := by decide +kernel
theorem dc_X8_when_9 : decode mX8_when.2.1 9 = .ok (.iconst 0, 1) := by decide +kernel
theorem dc_X8_when_10 : decode mX8_when.2.1 10 = .ok (.bipush 23, 2) := by decide +kernel
theorem dc_X8_when_12 : decode mX8_when.2.1 12 = .ok (.invokestatic 97, 3) := by decide +kernel
theorem dc_X8_when_15 : decode mX8_when.2.1 15 = .ok (.ifCond .ne 10, 3) := by decide +kernel
theorem dc_X8_when_18 : decode mX8_when.2.1 18 = .ok (.aload_n 0, 1) := by decide +kernel
theorem dc_X8_when_19 : decode mX8_when.2.1 19 = .ok (.ldc 82, 2) := by decide +kernel
theorem dc_X8_when_21 : decode mX8_when.2.1 21 = .ok (.invokevirtual 83, 3) := by decide +kernel
theorem dc_X8_when_24 : decode mX8_when.2.1 24 = .ok (.ireturn, 1) := by decide +kernel
theorem dc_X8_when_25 : decode mX8_when.2.1 25 = .ok (.aload_n 0, 1) := by decide +kernel
theorem dc_X8_when_26 : decode mX8_when.2.1 26 = .ok (.getfield 53, 3) := by decide +kernel
theorem dc_X8_when_29 : decode mX8_when.2.1 29 = .ok (.aload_n 0, 1) := by decide +kernel
theorem dc_X8_when_30 : decode mX8_when.2.1 30 = .ok (.getfield 12, 3) := by decide +kernel
theorem dc_X8_when_33 : decode mX8_when.2.1 33 = .ok (.getfield 101, 3) := by decide +kernel
theorem dc_X8_when_36 : decode mX8_when.2.1 36 = .ok (.getfield 123, 3) := by decide +kernel
theorem dc_X8_when_39 : decode mX8_when.2.1 39 = .ok (.iload_n 1, 1) := by decide +kernel
theorem dc_X8_when_40 : decode mX8_when.2.1 40 = .ok (.aaload, 1) := by decide +kernel
theorem dc_X8_when_41 : decode mX8_when.2.1 41 = .ok (.invokevirtual 175, 3) := by decide +kernel
theorem dc_X8_when_44 : decode mX8_when.2.1 44 = .ok (.iconst 0, 1) := by decide +kernel
theorem dc_X8_when_45 : decode mX8_when.2.1 45 = .ok (.istore_n 3, 1) := by decide +kernel
theorem dc_X8_when_46 : decode mX8_when.2.1 46 = .ok (.iload_n 3, 1) := by decide +kernel
theorem dc_X8_when_47 : decode mX8_when.2.1 47 = .ok (.sipush 200, 3) := by decide +kernel
theorem dc_X8_when_50 : decode mX8_when.2.1 50 = .ok (.if_icmp .gt 31, 3) := by decide +kernel
theorem dc_X8_when_53 : decode mX8_when.2.1 53 = .ok (.aload_n 0, 1) := by decide +kernel
theorem dc_X8_when_54 : decode mX8_when.2.1 54 = .ok (.getfield 53, 3) := by decide +kernel
theorem dc_X8_when_57 : decode mX8_when.2.1 57 = .ok (.getfield 197, 3) := by decide +kernel
theorem dc_X8_when_60 : decode mX8_when.2.1 60 = .ok (.iload_n 2, 1) := by decide +kernel
theorem dc_X8_when_61 : decode mX8_when.2.1 61 = .ok (.if_icmp .ne 5, 3) := by decide +kernel
theorem dc_X8_when_64 : decode mX8_when.2.1 64 = .ok (.iload_n 3, 1) := by decide +kernel
theorem dc_X8_when_65 : decode mX8_when.2.1 65 = .ok (.ireturn, 1) := by decide +kernel
theorem dc_X8_when_66 : decode mX8_when.2.1 66 = .ok (.aload_n 0, 1) := by decide +kernel
theorem dc_X8_when_67 : decode mX8_when.2.1 67 = .ok (.aload_n 0, 1) := by decide +kernel
theorem dc_X8_when_68 : decode mX8_when.2.1 68 = .ok (.getfield 53, 3) := by decide +kernel
theorem dc_X8_when_71 : decode mX8_when.2.1 71 = .ok (.iload_n 3, 1) := by decide +kernel
theorem dc_X8_when_72 : decode mX8_when.2.1 72 = .ok (.invokevirtual 192, 3) := by decide +kernel
theorem dc_X8_when_75 : decode mX8_when.2.1 75 = .ok (.iinc 3 1, 3) := by decide +kernel
theorem dc_X8_when_78 : decode mX8_when.2.1 78 = .ok (.goto (-32), 3) := by decide +kernel
theorem dc_X8_when_81 : decode mX8_when.2.1 81 = .ok (.aload_n 0, 1) := by decide +kernel
theorem dc_X8_when_82 : decode mX8_when.2.1 82 = .ok (.ldc 196, 2) := by decide +kernel
theorem dc_X8_when_84 : decode mX8_when.2.1 84 = .ok (.invokevirtual 83, 3) := by decide +kernel
theorem dc_X8_when_87 : decode mX8_when.2.1 87 = .ok (.ireturn, 1) := by decide +kernel
theorem dc_X8_meet_0 : decode mX8_meet.2.1 0 = .ok (.aload_n 0, 1) := by decide +kernel
theorem dc_X8_meet_1 : decode mX8_meet.2.1 1 = .ok (.iload_n 1, 1) := by decide +kernel
theorem dc_X8_meet_2 : decode mX8_meet.2.1 2 = .ok (.invokevirtual 119, 3) := by decide +kernel
theorem dc_X8_meet_5 : decode mX8_meet.2.1 5 = .ok (.ifCond .eq 16, 3) := by decide +kernel
theorem dc_X8_meet_8 : decode mX8_meet.2.1 8 = .ok (.aload_n 0, 1) := by decide +kernel
theorem dc_X8_meet_9 : decode mX8_meet.2.1 9 = .ok (.iload_n 2, 1) := by decide +kernel
theorem dc_X8_meet_10 : decode mX8_meet.2.1 10 = .ok (.invokevirtual 119, 3) := by decide +kernel
theorem dc_X8_meet_13 : decode mX8_meet.2.1 13 = .ok (.ifCond .eq 8, 3) := by decide +kernel
theorem dc_X8_meet_16 : decode mX8_meet.2.1 16 = .ok (.iload_n 1, 1) := by decide +kernel
theorem dc_X8_meet_17 : decode mX8_meet.2.1 17 = .ok (.iload_n 2, 1) := by decide +kernel
theorem dc_X8_meet_18 : decode mX8_meet.2.1 18 = .ok (.if_icmp .ne 10, 3) := by decide +kernel
theorem dc_X8_meet_21 : decode mX8_meet.2.1 21 = .ok (.aload_n 0, 1) := by decide +kernel
theorem dc_X8_meet_22 : decode mX8_meet.2.1 22 = .ok (.ldc 82, 2) := by decide +kernel
theorem dc_X8_meet_24 : decode mX8_meet.2.1 24 = .ok (.invokevirtual 83, 3) := by decide +kernel
theorem dc_X8_meet_27 : decode mX8_meet.2.1 27 = .ok (.ireturn, 1) := by decide +kernel
theorem dc_X8_meet_28 : decode mX8_meet.2.1 28 = .ok (.aload_n 0, 1) := by decide +kernel
theorem dc_X8_meet_29 : decode mX8_meet.2.1 29 = .ok (.getfield 53, 3) := by decide +kernel
theorem dc_X8_meet_32 : decode mX8_meet.2.1 32 = .ok (.aload_n 0, 1) := by decide +kernel
theorem dc_X8_meet_33 : decode mX8_meet.2.1 33 = .ok (.getfield 12, 3) := by decide +kernel
theorem dc_X8_meet_36 : decode mX8_meet.2.1 36 = .ok (.getfield 101, 3) := by decide +kernel
theorem dc_X8_meet_39 : decode mX8_meet.2.1 39 = .ok (.getfield 123, 3) := by decide +kernel
theorem dc_X8_meet_42 : decode mX8_meet.2.1 42 = .ok (.iload_n 1, 1) := by decide +kernel
theorem dc_X8_meet_43 : decode mX8_meet.2.1 43 = .ok (.aaload, 1) := by decide +kernel
theorem dc_X8_meet_44 : decode mX8_meet.2.1 44 = .ok (.invokevirtual 175, 3) := by decide +kernel
theorem dc_X8_meet_47 : decode mX8_meet.2.1 47 = .ok (.aload_n 0, 1) := by decide +kernel
theorem dc_X8_meet_48 : decode mX8_meet.2.1 48 = .ok (.getfield 57, 3) := by decide +kernel
theorem dc_X8_meet_51 : decode mX8_meet.2.1 51 = .ok (.aload_n 0, 1) := by decide +kernel
theorem dc_X8_meet_52 : decode mX8_meet.2.1 52 = .ok (.getfield 12, 3) := by decide +kernel
theorem dc_X8_meet_55 : decode mX8_meet.2.1 55 = .ok (.getfield 101, 3) := by decide +kernel
theorem dc_X8_meet_58 : decode mX8_meet.2.1 58 = .ok (.getfield 123, 3) := by decide +kernel
theorem dc_X8_meet_61 : decode mX8_meet.2.1 61 = .ok (.iload_n 2, 1) := by decide +kernel
theorem dc_X8_meet_62 : decode mX8_meet.2.1 62 = .ok (.aaload, 1) := by decide +kernel
theorem dc_X8_meet_63 : decode mX8_meet.2.1 63 = .ok (.invokevirtual 175, 3) := by decide +kernel
theorem dc_X8_meet_66 : decode mX8_meet.2.1 66 = .ok (.iconst 0, 1) := by decide +kernel
theorem dc_X8_meet_67 : decode mX8_meet.2.1 67 = .ok (.istore_n 3, 1) := by decide +kernel
theorem dc_X8_meet_68 : decode mX8_meet.2.1 68 = .ok (.iload_n 3, 1) := by decide +kernel
theorem dc_X8_meet_69 : decode mX8_meet.2.1 69 = .ok (.sipush 200, 3) := by decide +kernel
theorem dc_X8_meet_72 : decode mX8_meet.2.1 72 = .ok (.if_icmp .gt 46, 3) := by decide +kernel
theorem dc_X8_meet_75 : decode mX8_meet.2.1 75 = .ok (.aload_n 0, 1) := by decide +kernel
theorem dc_X8_meet_76 : decode mX8_meet.2.1 76 = .ok (.getfield 53, 3) := by decide +kernel
theorem dc_X8_meet_79 : decode mX8_meet.2.1 79 = .ok (.getfield 197, 3) := by decide +kernel
theorem dc_X8_meet_82 : decode mX8_meet.2.1 82 = .ok (.aload_n 0, 1) := by decide +kernel
theorem dc_X8_meet_83 : decode mX8_meet.2.1 83 = .ok (.getfield 57, 3) := by decide +kernel
theorem dc_X8_meet_86 : decode mX8_meet.2.1 86 = .ok (.getfield 197, 3) := by decide +kernel
theorem dc_X8_meet_89 : decode mX8_meet.2.1 89 = .ok (.if_icmp .ne 5, 3) := by decide +kernel
theorem dc_X8_meet_92 : decode mX8_meet.2.1 92 = .ok (.iload_n 3, 1) := by decide +kernel
theorem dc_X8_meet_93 : decode mX8_meet.2.1 93 = .ok (.ireturn, 1) := by decide +kernel
theorem dc_X8_meet_94 : decode mX8_meet.2.1 94 = .ok (.aload_n 0, 1) := by decide +kernel
theorem dc_X8_meet_95 : decode mX8_meet.2.1 95 = .ok (.aload_n 0, 1) := by decide +kernel
theorem dc_X8_meet_96 : decode mX8_meet.2.1 96 = .ok (.getfield 53, 3) := by decide +kernel
theorem dc_X8_meet_99 : decode mX8_meet.2.1 99 = .ok (.iload_n 3, 1) := by decide +kernel
theorem dc_X8_meet_100 : decode mX8_meet.2.1 100 = .ok (.invokevirtual 192, 3) := by decide +kernel
theorem dc_X8_meet_103 : decode mX8_meet.2.1 103 = .ok (.aload_n 0, 1) := by decide +kernel
theorem dc_X8_meet_104 : decode mX8_meet.2.1 104 = .ok (.aload_n 0, 1) := by decide +kernel
theorem dc_X8_meet_105 : decode mX8_meet.2.1 105 = .ok (.getfield 57, 3) := by decide +kernel
theorem dc_X8_meet_108 : decode mX8_meet.2.1 108 = .ok (.iload_n 3, 1) := by decide +kernel
theorem dc_X8_meet_109 : decode mX8_meet.2.1 109 = .ok (.invokevirtual 192, 3) := by decide +kernel
theorem dc_X8_meet_112 : decode mX8_meet.2.1 112 = .ok (.iinc 3 1, 3) := by decide +kernel
theorem dc_X8_meet_115 : decode mX8_meet.2.1 115 = .ok (.goto (-47), 3) := by decide +kernel
theorem dc_X8_meet_118 : decode mX8_meet.2.1 118 = .ok (.aload_n 0, 1) := by decide +kernel
theorem dc_X8_meet_119 : decode mX8_meet.2.1 119 = .ok (.ldc 196, 2) := by decide +kernel
theorem dc_X8_meet_121 : decode mX8_meet.2.1 121 = .ok (.invokevirtual 83, 3) := by decide +kernel
theorem dc_X8_meet_124 : decode mX8_meet.2.1 124 = .ok (.ireturn, 1) := by decide +kernel
theorem dc_X8_period_0 : decode mX8_period.2.1 0 = .ok (.aload_n 0, 1) := by decide +kernel
theorem dc_X8_period_1 : decode mX8_period.2.1 1 = .ok (.getfield 12, 3) := by decide +kernel
theorem dc_X8_period_4 : decode mX8_period.2.1 4 = .ok (.getfield 87, 3) := by decide +kernel
theorem dc_X8_period_7 : decode mX8_period.2.1 7 = .ok (.getfield 200, 3) := by decide +kernel
theorem dc_X8_period_10 : decode mX8_period.2.1 10 = .ok (.istore_n 1, 1) := by decide +kernel
theorem dc_X8_period_11 : decode mX8_period.2.1 11 = .ok (.iconst 1, 1) := by decide +kernel
theorem dc_X8_period_12 : decode mX8_period.2.1 12 = .ok (.istore_n 2, 1) := by decide +kernel
theorem dc_X8_period_13 : decode mX8_period.2.1 13 = .ok (.iload_n 2, 1) := by decide +kernel
theorem dc_X8_period_14 : decode mX8_period.2.1 14 = .ok (.bipush 12, 2) := by decide +kernel
theorem dc_X8_period_16 : decode mX8_period.2.1 16 = .ok (.if_icmp .ge 31, 3) := by decide +kernel
theorem dc_X8_period_19 : decode mX8_period.2.1 19 = .ok (.iload_n 1, 1) := by decide +kernel
theorem dc_X8_period_20 : decode mX8_period.2.1 20 = .ok (.iload_n 2, 1) := by decide +kernel
theorem dc_X8_period_21 : decode mX8_period.2.1 21 = .ok (.ishl, 1) := by decide +kernel
theorem dc_X8_period_22 : decode mX8_period.2.1 22 = .ok (.iload_n 1, 1) := by decide +kernel
theorem dc_X8_period_23 : decode mX8_period.2.1 23 = .ok (.bipush 12, 2) := by decide +kernel
theorem dc_X8_period_25 : decode mX8_period.2.1 25 = .ok (.iload_n 2, 1) := by decide +kernel
theorem dc_X8_period_26 : decode mX8_period.2.1 26 = .ok (.isub, 1) := by decide +kernel
theorem dc_X8_period_27 : decode mX8_period.2.1 27 = .ok (.ishr, 1) := by decide +kernel
theorem dc_X8_period_28 : decode mX8_period.2.1 28 = .ok (.ior, 1) := by decide +kernel
theorem dc_X8_period_29 : decode mX8_period.2.1 29 = .ok (.sipush 4095, 3) := by decide +kernel
theorem dc_X8_period_32 : decode mX8_period.2.1 32 = .ok (.iand, 1) := by decide +kernel
theorem dc_X8_period_33 : decode mX8_period.2.1 33 = .ok (.istore_n 3, 1) := by decide +kernel
theorem dc_X8_period_34 : decode mX8_period.2.1 34 = .ok (.iload_n 3, 1) := by decide +kernel
theorem dc_X8_period_35 : decode mX8_period.2.1 35 = .ok (.iload_n 1, 1) := by decide +kernel
theorem dc_X8_period_36 : decode mX8_period.2.1 36 = .ok (.if_icmp .ne 5, 3) := by decide +kernel
theorem dc_X8_period_39 : decode mX8_period.2.1 39 = .ok (.iload_n 2, 1) := by decide +kernel
theorem dc_X8_period_40 : decode mX8_period.2.1 40 = .ok (.ireturn, 1) := by decide +kernel
theorem dc_X8_period_41 : decode mX8_period.2.1 41 = .ok (.iinc 2 1, 3) := by decide +kernel
theorem dc_X8_period_44 : decode mX8_period.2.1 44 = .ok (.goto (-31), 3) := by decide +kernel
theorem dc_X8_period_47 : decode mX8_period.2.1 47 = .ok (.bipush 12, 2) := by decide +kernel
theorem dc_X8_period_49 : decode mX8_period.2.1 49 = .ok (.ireturn, 1) := by decide +kernel
theorem dc_X8_lagFor_0 : decode mX8_lagFor.2.1 0 = .ok (.iload_n 1, 1) := by decide +kernel
theorem dc_X8_lagFor_1 : decode mX8_lagFor.2.1 1 = .ok (.iconst 0, 1) := by decide +kernel
theorem dc_X8_lagFor_2 : decode mX8_lagFor.2.1 2 = .ok (.bipush 60, 2) := by decide +kernel
theorem dc_X8_lagFor_4 : decode mX8_lagFor.2.1 4 = .ok (.invokestatic 97, 3) := by decide +kernel
theorem dc_X8_lagFor_7 : decode mX8_lagFor.2.1 7 = .ok (.ifCond .ne 10, 3) := by decide +kernel
theorem dc_X8_lagFor_10 : decode mX8_lagFor.2.1 10 = .ok (.aload_n 0, 1) := by decide +kernel
theorem dc_X8_lagFor_11 : decode mX8_lagFor.2.1 11 = .ok (.ldc 82, 2) := by decide +kernel
theorem dc_X8_lagFor_13 : decode mX8_lagFor.2.1 13 = .ok (.invokevirtual 83, 3) := by decide +kernel
theorem dc_X8_lagFor_16 : decode mX8_lagFor.2.1 16 = .ok (.ireturn, 1) := by decide +kernel
theorem dc_X8_lagFor_17 : decode mX8_lagFor.2.1 17 = .ok (.aload_n 0, 1) := by decide +kernel
theorem dc_X8_lagFor_18 : decode mX8_lagFor.2.1 18 = .ok (.getfield 46, 3) := by decide +kernel
theorem dc_X8_lagFor_21 : decode mX8_lagFor.2.1 21 = .ok (.aload_n 0, 1) := by decide +kernel
theorem dc_X8_lagFor_22 : decode mX8_lagFor.2.1 22 = .ok (.getfield 12, 3) := by decide +kernel
theorem dc_X8_lagFor_25 : decode mX8_lagFor.2.1 25 = .ok (.getfield 87, 3) := by decide +kernel
theorem dc_X8_lagFor_28 : decode mX8_lagFor.2.1 28 = .ok (.invokevirtual 203, 3) := by decide +kernel
theorem dc_X8_lagFor_31 : decode mX8_lagFor.2.1 31 = .ok (.iconst 0, 1) := by decide +kernel
theorem dc_X8_lagFor_32 : decode mX8_lagFor.2.1 32 = .ok (.istore_n 2, 1) := by decide +kernel
theorem dc_X8_lagFor_33 : decode mX8_lagFor.2.1 33 = .ok (.ldc 206, 2) := by decide +kernel
theorem dc_X8_lagFor_35 : decode mX8_lagFor.2.1 35 = .ok (.istore_n 3, 1) := by decide +kernel
theorem dc_X8_lagFor_36 : decode mX8_lagFor.2.1 36 = .ok (.iconst 0, 1) := by decide +kernel
theorem dc_X8_lagFor_37 : decode mX8_lagFor.2.1 37 = .ok (.istore 4, 2) := by decide +kernel
theorem dc_X8_lagFor_39 : decode mX8_lagFor.2.1 39 = .ok (.iload 4, 2) := by decide +kernel
theorem dc_X8_lagFor_41 : decode mX8_lagFor.2.1 41 = .ok (.bipush 23, 2) := by decide +kernel
theorem dc_X8_lagFor_43 : decode mX8_lagFor.2.1 43 = .ok (.if_icmp .gt 74, 3) := by decide +kernel
theorem dc_X8_lagFor_46 : decode mX8_lagFor.2.1 46 = .ok (.aload_n 0, 1) := by decide +kernel
theorem dc_X8_lagFor_47 : decode mX8_lagFor.2.1 47 = .ok (.getfield 46, 3) := by decide +kernel
theorem dc_X8_lagFor_50 : decode mX8_lagFor.2.1 50 = .ok (.iload 4, 2) := by decide +kernel
theorem dc_X8_lagFor_52 : decode mX8_lagFor.2.1 52 = .ok (.putfield 207, 3) := by decide +kernel
theorem dc_X8_lagFor_55 : decode mX8_lagFor.2.1 55 = .ok (.aload_n 0, 1) := by decide +kernel
theorem dc_X8_lagFor_56 : decode mX8_lagFor.2.1 56 = .ok (.getfield 40, 3) := by decide +kernel
theorem dc_X8_lagFor_59 : decode mX8_lagFor.2.1 59 = .ok (.getfield 101, 3) := by decide +kernel
theorem dc_X8_lagFor_62 : decode mX8_lagFor.2.1 62 = .ok (.aload_n 0, 1) := by decide +kernel
theorem dc_X8_lagFor_63 : decode mX8_lagFor.2.1 63 = .ok (.getfield 12, 3) := by decide +kernel
theorem dc_X8_lagFor_66 : decode mX8_lagFor.2.1 66 = .ok (.getfield 101, 3) := by decide +kernel
theorem dc_X8_lagFor_69 : decode mX8_lagFor.2.1 69 = .ok (.invokevirtual 210, 3) := by decide +kernel
theorem dc_X8_lagFor_72 : decode mX8_lagFor.2.1 72 = .ok (.aload_n 0, 1) := by decide +kernel
theorem dc_X8_lagFor_73 : decode mX8_lagFor.2.1 73 = .ok (.getfield 40, 3) := by decide +kernel
theorem dc_X8_lagFor_76 : decode mX8_lagFor.2.1 76 = .ok (.getfield 101, 3) := by decide +kernel
theorem dc_X8_lagFor_79 : decode mX8_lagFor.2.1 79 = .ok (.aload_n 0, 1) := by decide +kernel
theorem dc_X8_lagFor_80 : decode mX8_lagFor.2.1 80 = .ok (.getfield 46, 3) := by decide +kernel
theorem dc_X8_lagFor_83 : decode mX8_lagFor.2.1 83 = .ok (.iload_n 1, 1) := by decide +kernel
theorem dc_X8_lagFor_84 : decode mX8_lagFor.2.1 84 = .ok (.invokevirtual 213, 3) := by decide +kernel
theorem dc_X8_lagFor_87 : decode mX8_lagFor.2.1 87 = .ok (.aload_n 0, 1) := by decide +kernel
theorem dc_X8_lagFor_88 : decode mX8_lagFor.2.1 88 = .ok (.getfield 40, 3) := by decide +kernel
theorem dc_X8_lagFor_91 : decode mX8_lagFor.2.1 91 = .ok (.getfield 101, 3) := by decide +kernel
theorem dc_X8_lagFor_94 : decode mX8_lagFor.2.1 94 = .ok (.invokevirtual 151, 3) := by decide +kernel
theorem dc_X8_lagFor_97 : decode mX8_lagFor.2.1 97 = .ok (.istore 5, 2) := by decide +kernel
theorem dc_X8_lagFor_99 : decode mX8_lagFor.2.1 99 = .ok (.iload 5, 2) := by decide +kernel
theorem dc_X8_lagFor_101 : decode mX8_lagFor.2.1 101 = .ok (.iload_n 3, 1) := by decide +kernel
theorem dc_X8_lagFor_102 : decode mX8_lagFor.2.1 102 = .ok (.if_icmp .ge 9, 3) := by decide +kernel
theorem dc_X8_lagFor_105 : decode mX8_lagFor.2.1 105 = .ok (.iload 5, 2) := by decide +kernel
theorem dc_X8_lagFor_107 : decode mX8_lagFor.2.1 107 = .ok (.istore_n 3, 1) := by decide +kernel
theorem dc_X8_lagFor_108 : decode mX8_lagFor.2.1 108 = .ok (.iload 4, 2) := by decide +kernel
theorem dc_X8_lagFor_110 : decode mX8_lagFor.2.1 110 = .ok (.istore_n 2, 1) := by decide +kernel
theorem dc_X8_lagFor_111 : decode mX8_lagFor.2.1 111 = .ok (.iinc 4 1, 3) := by decide +kernel
theorem dc_X8_lagFor_114 : decode mX8_lagFor.2.1 114 = .ok (.goto (-75), 3) := by decide +kernel
theorem dc_X8_lagFor_117 : decode mX8_lagFor.2.1 117 = .ok (.iload_n 2, 1) := by decide +kernel
theorem dc_X8_lagFor_118 : decode mX8_lagFor.2.1 118 = .ok (.ireturn, 1) := by decide +kernel
theorem dc_X8_patternFor_0 : decode mX8_patternFor.2.1 0 = .ok (.iload_n 1, 1) := by decide +kernel
theorem dc_X8_patternFor_1 : decode mX8_patternFor.2.1 1 = .ok (.iconst 0, 1) := by decide +kernel
theorem dc_X8_patternFor_2 : decode mX8_patternFor.2.1 2 = .ok (.bipush 12, 2) := by decide +kernel
theorem dc_X8_patternFor_4 : decode mX8_patternFor.2.1 4 = .ok (.invokestatic 97, 3) := by decide +kernel
theorem dc_X8_patternFor_7 : decode mX8_patternFor.2.1 7 = .ok (.ifCond .eq 18, 3) := by decide +kernel
theorem dc_X8_patternFor_10 : decode mX8_patternFor.2.1 10 = .ok (.aload_n 0, 1) := by decide +kernel
theorem dc_X8_patternFor_11 : decode mX8_patternFor.2.1 11 = .ok (.getfield 73, 3) := by decide +kernel
theorem dc_X8_patternFor_14 : decode mX8_patternFor.2.1 14 = .ok (.aload_n 0, 1) := by decide +kernel
theorem dc_X8_patternFor_15 : decode mX8_patternFor.2.1 15 = .ok (.getfield 12, 3) := by decide +kernel
theorem dc_X8_patternFor_18 : decode mX8_patternFor.2.1 18 = .ok (.iload_n 1, 1) := by decide +kernel
theorem dc_X8_patternFor_19 : decode mX8_patternFor.2.1 19 = .ok (.invokevirtual 214, 3) := by decide +kernel
theorem dc_X8_patternFor_22 : decode mX8_patternFor.2.1 22 = .ok (.goto 9, 3) := by decide +kernel
theorem dc_X8_patternFor_25 : decode mX8_patternFor.2.1 25 = .ok (.aload_n 0, 1) := by decide +kernel
theorem dc_X8_patternFor_26 : decode mX8_patternFor.2.1 26 = .ok (.ldc 82, 2) := by decide +kernel
theorem dc_X8_patternFor_28 : decode mX8_patternFor.2.1 28 = .ok (.invokevirtual 83, 3) := by decide +kernel
theorem dc_X8_patternFor_31 : decode mX8_patternFor.2.1 31 = .ok (.ireturn, 1) := by decide +kernel
theorem dc_X8_kindFor_0 : decode mX8_kindFor.2.1 0 = .ok (.aload_n 0, 1) := by decide +kernel
theorem dc_X8_kindFor_1 : decode mX8_kindFor.2.1 1 = .ok (.iload_n 1, 1) := by decide +kernel
theorem dc_X8_kindFor_2 : decode mX8_kindFor.2.1 2 = .ok (.invokevirtual 119, 3) := by decide +kernel
theorem dc_X8_kindFor_5 : decode mX8_kindFor.2.1 5 = .ok (.ifCond .eq 13, 3) := by decide +kernel
theorem dc_X8_kindFor_8 : decode mX8_kindFor.2.1 8 = .ok (.iload_n 2, 1) := by decide +kernel
theorem dc_X8_kindFor_9 : decode mX8_kindFor.2.1 9 = .ok (.iconst 0, 1) := by decide +kernel
theorem dc_X8_kindFor_10 : decode mX8_kindFor.2.1 10 = .ok (.bipush 60, 2) := by decide +kernel
theorem dc_X8_kindFor_12 : decode mX8_kindFor.2.1 12 = .ok (.invokestatic 97, 3) := by decide +kernel
theorem dc_X8_kindFor_15 : decode mX8_kindFor.2.1 15 = .ok (.ifCond .ne 10, 3) := by decide +kernel
theorem dc_X8_kindFor_18 : decode mX8_kindFor.2.1 18 = .ok (.aload_n 0, 1) := by decide +kernel
theorem dc_X8_kindFor_19 : decode mX8_kindFor.2.1 19 = .ok (.ldc 82, 2) := by decide +kernel
theorem dc_X8_kindFor_21 : decode mX8_kindFor.2.1 21 = .ok (.invokevirtual 83, 3) := by decide +kernel
theorem dc_X8_kindFor_24 : decode mX8_kindFor.2.1 24 = .ok (.ireturn, 1) := by decide +kernel
theorem dc_X8_kindFor_25 : decode mX8_kindFor.2.1 25 = .ok (.aload_n 0, 1) := by decide +kernel
theorem dc_X8_kindFor_26 : decode mX8_kindFor.2.1 26 = .ok (.iload_n 1, 1) := by decide +kernel
theorem dc_X8_kindFor_27 : decode mX8_kindFor.2.1 27 = .ok (.iconst 0, 1) := by decide +kernel
theorem dc_X8_kindFor_28 : decode mX8_kindFor.2.1 28 = .ok (.bipush 6, 2) := by decide +kernel
theorem dc_X8_kindFor_30 : decode mX8_kindFor.2.1 30 = .ok (.iload_n 2, 1) := by decide +kernel
theorem dc_X8_kindFor_31 : decode mX8_kindFor.2.1 31 = .ok (.invokevirtual 218, 3) := by decide +kernel
theorem dc_X8_kindFor_34 : decode mX8_kindFor.2.1 34 = .ok (.ireturn, 1) := by decide +kernel
theorem dc_X8_start_0 : decode mX8_start.2.1 0 = .ok (.aload_n 0, 1) := by decide +kernel
theorem dc_X8_start_1 : decode mX8_start.2.1 1 = .ok (.iload_n 1, 1) := by decide +kernel
theorem dc_X8_start_2 : decode mX8_start.2.1 2 = .ok (.invokevirtual 119, 3) := by decide +kernel
theorem dc_X8_start_5 : decode mX8_start.2.1 5 = .ok (.ifCond .eq 13, 3) := by decide +kernel
theorem dc_X8_start_8 : decode mX8_start.2.1 8 = .ok (.iload_n 2, 1) := by decide +kernel
theorem dc_X8_start_9 : decode mX8_start.2.1 9 = .ok (.iconst 0, 1) := by decide +kernel
theorem dc_X8_start_10 : decode mX8_start.2.1 10 = .ok (.bipush 60, 2) := by decide +kernel
theorem dc_X8_start_12 : decode mX8_start.2.1 12 = .ok (.invokestatic 97, 3) := by decide +kernel
theorem dc_X8_start_15 : decode mX8_start.2.1 15 = .ok (.ifCond .ne 10, 3) := by decide +kernel
theorem dc_X8_start_18 : decode mX8_start.2.1 18 = .ok (.aload_n 0, 1) := by decide +kernel
theorem dc_X8_start_19 : decode mX8_start.2.1 19 = .ok (.ldc 82, 2) := by decide +kernel
theorem dc_X8_start_21 : decode mX8_start.2.1 21 = .ok (.invokevirtual 83, 3) := by decide +kernel
theorem dc_X8_start_24 : decode mX8_start.2.1 24 = .ok (.ireturn, 1) := by decide +kernel
theorem dc_X8_start_25 : decode mX8_start.2.1 25 = .ok (.aload_n 0, 1) := by decide +kernel
theorem dc_X8_start_26 : decode mX8_start.2.1 26 = .ok (.iload_n 1, 1) := by decide +kernel
theorem dc_X8_start_27 : decode mX8_start.2.1 27 = .ok (.iconst 1, 1) := by decide +kernel
theorem dc_X8_start_28 : decode mX8_start.2.1 28 = .ok (.bipush 23, 2) := by decide +kernel
theorem dc_X8_start_30 : decode mX8_start.2.1 30 = .ok (.iload_n 2, 1) := by decide +kernel
theorem dc_X8_start_31 : decode mX8_start.2.1 31 = .ok (.invokevirtual 218, 3) := by decide +kernel
theorem dc_X8_start_34 : decode mX8_start.2.1 34 = .ok (.ireturn, 1) := by decide +kernel
theorem dc_X8_speedFor_0 : decode mX8_speedFor.2.1 0 = .ok (.aload_n 0, 1) := by decide +kernel
theorem dc_X8_speedFor_1 : decode mX8_speedFor.2.1 1 = .ok (.iload_n 1, 1) := by decide +kernel
theorem dc_X8_speedFor_2 : decode mX8_speedFor.2.1 2 = .ok (.invokevirtual 119, 3) := by decide +kernel
theorem dc_X8_speedFor_5 : decode mX8_speedFor.2.1 5 = .ok (.ifCond .eq 13, 3) := by decide +kernel
theorem dc_X8_speedFor_8 : decode mX8_speedFor.2.1 8 = .ok (.iload_n 2, 1) := by decide +kernel
theorem dc_X8_speedFor_9 : decode mX8_speedFor.2.1 9 = .ok (.iconst 0, 1) := by decide +kernel
theorem dc_X8_speedFor_10 : decode mX8_speedFor.2.1 10 = .ok (.bipush 60, 2) := by decide +kernel
theorem dc_X8_speedFor_12 : decode mX8_speedFor.2.1 12 = .ok (.invokestatic 97, 3) := by decide +kernel
theorem dc_X8_speedFor_15 : decode mX8_speedFor.2.1 15 = .ok (.ifCond .ne 10, 3) := by decide +kernel
theorem dc_X8_speedFor_18 : decode mX8_speedFor.2.1 18 = .ok (.aload_n 0, 1) := by decide +kernel
theorem dc_X8_speedFor_19 : decode mX8_speedFor.2.1 19 = .ok (.ldc 82, 2) := by decide +kernel
theorem dc_X8_speedFor_21 : decode mX8_speedFor.2.1 21 = .ok (.invokevirtual 83, 3) := by decide +kernel
theorem dc_X8_speedFor_24 : decode mX8_speedFor.2.1 24 = .ok (.ireturn, 1) := by decide +kernel
theorem dc_X8_speedFor_25 : decode mX8_speedFor.2.1 25 = .ok (.iconst 5, 1) := by decide +kernel
theorem dc_X8_speedFor_26 : decode mX8_speedFor.2.1 26 = .ok (.istore_n 3, 1) := by decide +kernel
theorem dc_X8_speedFor_27 : decode mX8_speedFor.2.1 27 = .ok (.iload_n 3, 1) := by decide +kernel
theorem dc_X8_speedFor_28 : decode mX8_speedFor.2.1 28 = .ok (.ifCond .lt 37, 3) := by decide +kernel
theorem dc_X8_speedFor_31 : decode mX8_speedFor.2.1 31 = .ok (.aload_n 0, 1) := by decide +kernel
theorem dc_X8_speedFor_32 : decode mX8_speedFor.2.1 32 = .ok (.iload_n 1, 1) := by decide +kernel
theorem dc_X8_speedFor_33 : decode mX8_speedFor.2.1 33 = .ok (.iconst 3, 1) := by decide +kernel
theorem dc_X8_speedFor_34 : decode mX8_speedFor.2.1 34 = .ok (.iload_n 3, 1) := by decide +kernel
theorem dc_X8_speedFor_35 : decode mX8_speedFor.2.1 35 = .ok (.iload_n 2, 1) := by decide +kernel
theorem dc_X8_speedFor_36 : decode mX8_speedFor.2.1 36 = .ok (.invokevirtual 222, 3) := by decide +kernel
theorem dc_X8_speedFor_39 : decode mX8_speedFor.2.1 39 = .ok (.aload_n 0, 1) := by decide +kernel
theorem dc_X8_speedFor_40 : decode mX8_speedFor.2.1 40 = .ok (.getfield 12, 3) := by decide +kernel
theorem dc_X8_speedFor_43 : decode mX8_speedFor.2.1 43 = .ok (.getfield 101, 3) := by decide +kernel
theorem dc_X8_speedFor_46 : decode mX8_speedFor.2.1 46 = .ok (.getfield 123, 3) := by decide +kernel
theorem dc_X8_speedFor_49 : decode mX8_speedFor.2.1 49 = .ok (.iload_n 1, 1) := by decide +kernel
theorem dc_X8_speedFor_50 : decode mX8_speedFor.2.1 50 = .ok (.aaload, 1) := by decide +kernel
theorem dc_X8_speedFor_51 : decode mX8_speedFor.2.1 51 = .ok (.getfield 189, 3) := by decide +kernel
theorem dc_X8_speedFor_54 : decode mX8_speedFor.2.1 54 = .ok (.if_icmp .ne 5, 3) := by decide +kernel
theorem dc_X8_speedFor_57 : decode mX8_speedFor.2.1 57 = .ok (.iload_n 3, 1) := by decide +kernel
theorem dc_X8_speedFor_58 : decode mX8_speedFor.2.1 58 = .ok (.ireturn, 1) := by decide +kernel
theorem dc_X8_speedFor_59 : decode mX8_speedFor.2.1 59 = .ok (.iinc 3 (-1), 3) := by decide +kernel
theorem dc_X8_speedFor_62 : decode mX8_speedFor.2.1 62 = .ok (.goto (-35), 3) := by decide +kernel
theorem dc_X8_speedFor_65 : decode mX8_speedFor.2.1 65 = .ok (.aload_n 0, 1) := by decide +kernel
theorem dc_X8_speedFor_66 : decode mX8_speedFor.2.1 66 = .ok (.ldc 196, 2) := by decide +kernel
theorem dc_X8_speedFor_68 : decode mX8_speedFor.2.1 68 = .ok (.invokevirtual 83, 3) := by decide +kernel
theorem dc_X8_speedFor_71 : decode mX8_speedFor.2.1 71 = .ok (.ireturn, 1) := by decide +kernel
theorem dc_X8_keepIn_0 : decode mX8_keepIn.2.1 0 = .ok (.iload_n 1, 1) := by decide +kernel
theorem dc_X8_keepIn_1 : decode mX8_keepIn.2.1 1 = .ok (.iconst 0, 1) := by decide +kernel
theorem dc_X8_keepIn_2 : decode mX8_keepIn.2.1 2 = .ok (.sipush 9999, 3) := by decide +kernel
theorem dc_X8_keepIn_5 : decode mX8_keepIn.2.1 5 = .ok (.invokestatic 97, 3) := by decide +kernel
theorem dc_X8_keepIn_8 : decode mX8_keepIn.2.1 8 = .ok (.ifCond .eq 13, 3) := by decide +kernel
theorem dc_X8_keepIn_11 : decode mX8_keepIn.2.1 11 = .ok (.iload_n 2, 1) := by decide +kernel
theorem dc_X8_keepIn_12 : decode mX8_keepIn.2.1 12 = .ok (.iconst 0, 1) := by decide +kernel
theorem dc_X8_keepIn_13 : decode mX8_keepIn.2.1 13 = .ok (.bipush 20, 2) := by decide +kernel
theorem dc_X8_keepIn_15 : decode mX8_keepIn.2.1 15 = .ok (.invokestatic 97, 3) := by decide +kernel
theorem dc_X8_keepIn_18 : decode mX8_keepIn.2.1 18 = .ok (.ifCond .ne 10, 3) := by decide +kernel
theorem dc_X8_keepIn_21 : decode mX8_keepIn.2.1 21 = .ok (.aload_n 0, 1) := by decide +kernel
theorem dc_X8_keepIn_22 : decode mX8_keepIn.2.1 22 = .ok (.ldc 82, 2) := by decide +kernel
theorem dc_X8_keepIn_24 : decode mX8_keepIn.2.1 24 = .ok (.invokevirtual 83, 3) := by decide +kernel
theorem dc_X8_keepIn_27 : decode mX8_keepIn.2.1 27 = .ok (.ireturn, 1) := by decide +kernel
theorem dc_X8_keepIn_28 : decode mX8_keepIn.2.1 28 = .ok (.aload_n 0, 1) := by decide +kernel
theorem dc_X8_keepIn_29 : decode mX8_keepIn.2.1 29 = .ok (.getfield 12, 3) := by decide +kernel
theorem dc_X8_keepIn_32 : decode mX8_keepIn.2.1 32 = .ok (.getfield 101, 3) := by decide +kernel
theorem dc_X8_keepIn_35 : decode mX8_keepIn.2.1 35 = .ok (.astore_n 3, 1) := by decide +kernel
theorem dc_X8_keepIn_36 : decode mX8_keepIn.2.1 36 = .ok (.iconst 0, 1) := by decide +kernel
theorem dc_X8_keepIn_37 : decode mX8_keepIn.2.1 37 = .ok (.istore 4, 2) := by decide +kernel
theorem dc_X8_keepIn_39 : decode mX8_keepIn.2.1 39 = .ok (.iload 4, 2) := by decide +kernel
theorem dc_X8_keepIn_41 : decode mX8_keepIn.2.1 41 = .ok (.aload_n 3, 1) := by decide +kernel
theorem dc_X8_keepIn_42 : decode mX8_keepIn.2.1 42 = .ok (.getfield 115, 3) := by decide +kernel
theorem dc_X8_keepIn_45 : decode mX8_keepIn.2.1 45 = .ok (.if_icmp .ge 63, 3) := by decide +kernel
theorem dc_X8_keepIn_48 : decode mX8_keepIn.2.1 48 = .ok (.aload_n 0, 1) := by decide +kernel
theorem dc_X8_keepIn_49 : decode mX8_keepIn.2.1 49 = .ok (.getfield 53, 3) := by decide +kernel
theorem dc_X8_keepIn_52 : decode mX8_keepIn.2.1 52 = .ok (.aload_n 3, 1) := by decide +kernel
theorem dc_X8_keepIn_53 : decode mX8_keepIn.2.1 53 = .ok (.getfield 123, 3) := by decide +kernel
theorem dc_X8_keepIn_56 : decode mX8_keepIn.2.1 56 = .ok (.iload 4, 2) := by decide +kernel
theorem dc_X8_keepIn_58 : decode mX8_keepIn.2.1 58 = .ok (.aaload, 1) := by decide +kernel
theorem dc_X8_keepIn_59 : decode mX8_keepIn.2.1 59 = .ok (.invokevirtual 175, 3) := by decide +kernel
theorem dc_X8_keepIn_62 : decode mX8_keepIn.2.1 62 = .ok (.aload_n 0, 1) := by decide +kernel
theorem dc_X8_keepIn_63 : decode mX8_keepIn.2.1 63 = .ok (.getfield 53, 3) := by decide +kernel
theorem dc_X8_keepIn_66 : decode mX8_keepIn.2.1 66 = .ok (.aload_n 0, 1) := by decide +kernel
theorem dc_X8_keepIn_67 : decode mX8_keepIn.2.1 67 = .ok (.getfield 12, 3) := by decide +kernel
theorem dc_X8_keepIn_70 : decode mX8_keepIn.2.1 70 = .ok (.getfield 87, 3) := by decide +kernel
theorem dc_X8_keepIn_73 : decode mX8_keepIn.2.1 73 = .ok (.iload_n 2, 1) := by decide +kernel
theorem dc_X8_keepIn_74 : decode mX8_keepIn.2.1 74 = .ok (.invokevirtual 179, 3) := by decide +kernel
theorem dc_X8_keepIn_77 : decode mX8_keepIn.2.1 77 = .ok (.aload_n 0, 1) := by decide +kernel
theorem dc_X8_keepIn_78 : decode mX8_keepIn.2.1 78 = .ok (.getfield 60, 3) := by decide +kernel
theorem dc_X8_keepIn_81 : decode mX8_keepIn.2.1 81 = .ok (.iload 4, 2) := by decide +kernel
theorem dc_X8_keepIn_83 : decode mX8_keepIn.2.1 83 = .ok (.aload_n 0, 1) := by decide +kernel
theorem dc_X8_keepIn_84 : decode mX8_keepIn.2.1 84 = .ok (.getfield 53, 3) := by decide +kernel
theorem dc_X8_keepIn_87 : decode mX8_keepIn.2.1 87 = .ok (.getfield 189, 3) := by decide +kernel
theorem dc_X8_keepIn_90 : decode mX8_keepIn.2.1 90 = .ok (.aload_n 3, 1) := by decide +kernel
theorem dc_X8_keepIn_91 : decode mX8_keepIn.2.1 91 = .ok (.getfield 123, 3) := by decide +kernel
theorem dc_X8_keepIn_94 : decode mX8_keepIn.2.1 94 = .ok (.iload 4, 2) := by decide +kernel
theorem dc_X8_keepIn_96 : decode mX8_keepIn.2.1 96 = .ok (.aaload, 1) := by decide +kernel
theorem dc_X8_keepIn_97 : decode mX8_keepIn.2.1 97 = .ok (.getfield 189, 3) := by decide +kernel
theorem dc_X8_keepIn_100 : decode mX8_keepIn.2.1 100 = .ok (.isub, 1) := by decide +kernel
theorem dc_X8_keepIn_101 : decode mX8_keepIn.2.1 101 = .ok (.iastore, 1) := by decide +kernel
theorem dc_X8_keepIn_102 : decode mX8_keepIn.2.1 102 = .ok (.iinc 4 1, 3) := by decide +kernel
theorem dc_X8_keepIn_105 : decode mX8_keepIn.2.1 105 = .ok (.goto (-66), 3) := by decide +kernel
theorem dc_X8_keepIn_108 : decode mX8_keepIn.2.1 108 = .ok (.aload_n 0, 1) := by decide +kernel
theorem dc_X8_keepIn_109 : decode mX8_keepIn.2.1 109 = .ok (.aload_n 3, 1) := by decide +kernel
theorem dc_X8_keepIn_110 : decode mX8_keepIn.2.1 110 = .ok (.getfield 115, 3) := by decide +kernel
theorem dc_X8_keepIn_113 : decode mX8_keepIn.2.1 113 = .ok (.iload_n 1, 1) := by decide +kernel
theorem dc_X8_keepIn_114 : decode mX8_keepIn.2.1 114 = .ok (.aload_n 3, 1) := by decide +kernel
theorem dc_X8_keepIn_115 : decode mX8_keepIn.2.1 115 = .ok (.invokevirtual 151, 3) := by decide +kernel
theorem dc_X8_keepIn_118 : decode mX8_keepIn.2.1 118 = .ok (.isub, 1) := by decide +kernel
theorem dc_X8_keepIn_119 : decode mX8_keepIn.2.1 119 = .ok (.invokevirtual 225, 3) := by decide +kernel
theorem dc_X8_keepIn_122 : decode mX8_keepIn.2.1 122 = .ok (.istore 4, 2) := by decide +kernel
theorem dc_X8_keepIn_124 : decode mX8_keepIn.2.1 124 = .ok (.iload 4, 2) := by decide +kernel
theorem dc_X8_keepIn_126 : decode mX8_keepIn.2.1 126 = .ok (.ifCond .lt 8, 3) := by decide +kernel
theorem dc_X8_keepIn_129 : decode mX8_keepIn.2.1 129 = .ok (.iload 4, 2) := by decide +kernel
theorem dc_X8_keepIn_131 : decode mX8_keepIn.2.1 131 = .ok (.goto 9, 3) := by decide +kernel
theorem dc_X8_keepIn_134 : decode mX8_keepIn.2.1 134 = .ok (.aload_n 0, 1) := by decide +kernel
theorem dc_X8_keepIn_135 : decode mX8_keepIn.2.1 135 = .ok (.ldc 196, 2) := by decide +kernel
theorem dc_X8_keepIn_137 : decode mX8_keepIn.2.1 137 = .ok (.invokevirtual 83, 3) := by decide +kernel
theorem dc_X8_keepIn_140 : decode mX8_keepIn.2.1 140 = .ok (.ireturn, 1) := by decide +kernel
theorem dc_X8_lags_0 : decode mX8_lags.2.1 0 = .ok (.aload_n 0, 1) := by decide +kernel
theorem dc_X8_lags_1 : decode mX8_lags.2.1 1 = .ok (.iload_n 1, 1) := by decide +kernel
theorem dc_X8_lags_2 : decode mX8_lags.2.1 2 = .ok (.invokevirtual 228, 3) := by decide +kernel
theorem dc_X8_lags_5 : decode mX8_lags.2.1 5 = .ok (.istore_n 2, 1) := by decide +kernel
theorem dc_X8_lags_6 : decode mX8_lags.2.1 6 = .ok (.iload_n 2, 1) := by decide +kernel
theorem dc_X8_lags_7 : decode mX8_lags.2.1 7 = .ok (.ifCond .eq 9, 3) := by decide +kernel
theorem dc_X8_lags_10 : decode mX8_lags.2.1 10 = .ok (.aload_n 0, 1) := by decide +kernel
theorem dc_X8_lags_11 : decode mX8_lags.2.1 11 = .ok (.iload_n 2, 1) := by decide +kernel
theorem dc_X8_lags_12 : decode mX8_lags.2.1 12 = .ok (.invokevirtual 83, 3) := by decide +kernel
theorem dc_X8_lags_15 : decode mX8_lags.2.1 15 = .ok (.ireturn, 1) := by decide +kernel
theorem dc_X8_lags_16 : decode mX8_lags.2.1 16 = .ok (.aload_n 0, 1) := by decide +kernel
theorem dc_X8_lags_17 : decode mX8_lags.2.1 17 = .ok (.getfield 46, 3) := by decide +kernel
theorem dc_X8_lags_20 : decode mX8_lags.2.1 20 = .ok (.aload_n 0, 1) := by decide +kernel
theorem dc_X8_lags_21 : decode mX8_lags.2.1 21 = .ok (.getfield 12, 3) := by decide +kernel
theorem dc_X8_lags_24 : decode mX8_lags.2.1 24 = .ok (.getfield 87, 3) := by decide +kernel
theorem dc_X8_lags_27 : decode mX8_lags.2.1 27 = .ok (.invokevirtual 203, 3) := by decide +kernel
theorem dc_X8_lags_30 : decode mX8_lags.2.1 30 = .ok (.iconst 0, 1) := by decide +kernel
theorem dc_X8_lags_31 : decode mX8_lags.2.1 31 = .ok (.istore_n 3, 1) := by decide +kernel
theorem dc_X8_lags_32 : decode mX8_lags.2.1 32 = .ok (.iconst 0, 1) := by decide +kernel
theorem dc_X8_lags_33 : decode mX8_lags.2.1 33 = .ok (.istore 4, 2) := by decide +kernel
theorem dc_X8_lags_35 : decode mX8_lags.2.1 35 = .ok (.iload 4, 2) := by decide +kernel
theorem dc_X8_lags_37 : decode mX8_lags.2.1 37 = .ok (.bipush 23, 2) := by decide +kernel
theorem dc_X8_lags_39 : decode mX8_lags.2.1 39 = .ok (.if_icmp .gt 41, 3) := by decide +kernel
theorem dc_X8_lags_42 : decode mX8_lags.2.1 42 = .ok (.aload_n 0, 1) := by decide +kernel
theorem dc_X8_lags_43 : decode mX8_lags.2.1 43 = .ok (.getfield 46, 3) := by decide +kernel
theorem dc_X8_lags_46 : decode mX8_lags.2.1 46 = .ok (.iload 4, 2) := by decide +kernel
theorem dc_X8_lags_48 : decode mX8_lags.2.1 48 = .ok (.putfield 207, 3) := by decide +kernel
theorem dc_X8_lags_51 : decode mX8_lags.2.1 51 = .ok (.aload_n 0, 1) := by decide +kernel
theorem dc_X8_lags_52 : decode mX8_lags.2.1 52 = .ok (.getfield 32, 3) := by decide +kernel
theorem dc_X8_lags_55 : decode mX8_lags.2.1 55 = .ok (.iload_n 1, 1) := by decide +kernel
theorem dc_X8_lags_56 : decode mX8_lags.2.1 56 = .ok (.aaload, 1) := by decide +kernel
theorem dc_X8_lags_57 : decode mX8_lags.2.1 57 = .ok (.aload_n 0, 1) := by decide +kernel
theorem dc_X8_lags_58 : decode mX8_lags.2.1 58 = .ok (.getfield 46, 3) := by decide +kernel
theorem dc_X8_lags_61 : decode mX8_lags.2.1 61 = .ok (.invokestatic 231, 3) := by decide +kernel
theorem dc_X8_lags_64 : decode mX8_lags.2.1 64 = .ok (.ifCond .eq 10, 3) := by decide +kernel
theorem dc_X8_lags_67 : decode mX8_lags.2.1 67 = .ok (.iload_n 3, 1) := by decide +kernel
theorem dc_X8_lags_68 : decode mX8_lags.2.1 68 = .ok (.iconst 1, 1) := by decide +kernel
theorem dc_X8_lags_69 : decode mX8_lags.2.1 69 = .ok (.iload 4, 2) := by decide +kernel
theorem dc_X8_lags_71 : decode mX8_lags.2.1 71 = .ok (.ishl, 1) := by decide +kernel
theorem dc_X8_lags_72 : decode mX8_lags.2.1 72 = .ok (.ior, 1) := by decide +kernel
theorem dc_X8_lags_73 : decode mX8_lags.2.1 73 = .ok (.istore_n 3, 1) := by decide +kernel
theorem dc_X8_lags_74 : decode mX8_lags.2.1 74 = .ok (.iinc 4 1, 3) := by decide +kernel
theorem dc_X8_lags_77 : decode mX8_lags.2.1 77 = .ok (.goto (-42), 3) := by decide +kernel
theorem dc_X8_lags_80 : decode mX8_lags.2.1 80 = .ok (.iload_n 3, 1) := by decide +kernel
theorem dc_X8_lags_81 : decode mX8_lags.2.1 81 = .ok (.ireturn, 1) := by decide +kernel
theorem dc_X8_fits_0 : decode mX8_fits.2.1 0 = .ok (.aload_n 0, 1) := by decide +kernel
theorem dc_X8_fits_1 : decode mX8_fits.2.1 1 = .ok (.iload_n 1, 1) := by decide +kernel
theorem dc_X8_fits_2 : decode mX8_fits.2.1 2 = .ok (.invokevirtual 228, 3) := by decide +kernel
theorem dc_X8_fits_5 : decode mX8_fits.2.1 5 = .ok (.istore_n 2, 1) := by decide +kernel
theorem dc_X8_fits_6 : decode mX8_fits.2.1 6 = .ok (.iload_n 2, 1) := by decide +kernel
theorem dc_X8_fits_7 : decode mX8_fits.2.1 7 = .ok (.ifCond .eq 9, 3) := by decide +kernel
theorem dc_X8_fits_10 : decode mX8_fits.2.1 10 = .ok (.aload_n 0, 1) := by decide +kernel
theorem dc_X8_fits_11 : decode mX8_fits.2.1 11 = .ok (.iload_n 2, 1) := by decide +kernel
theorem dc_X8_fits_12 : decode mX8_fits.2.1 12 = .ok (.invokevirtual 83, 3) := by decide +kernel
theorem dc_X8_fits_15 : decode mX8_fits.2.1 15 = .ok (.ireturn, 1) := by decide +kernel
theorem dc_X8_fits_16 : decode mX8_fits.2.1 16 = .ok (.aload_n 0, 1) := by decide +kernel
theorem dc_X8_fits_17 : decode mX8_fits.2.1 17 = .ok (.getfield 66, 3) := by decide +kernel
theorem dc_X8_fits_20 : decode mX8_fits.2.1 20 = .ok (.aload_n 0, 1) := by decide +kernel
theorem dc_X8_fits_21 : decode mX8_fits.2.1 21 = .ok (.getfield 32, 3) := by decide +kernel
theorem dc_X8_fits_24 : decode mX8_fits.2.1 24 = .ok (.iload_n 1, 1) := by decide +kernel
theorem dc_X8_fits_25 : decode mX8_fits.2.1 25 = .ok (.aaload, 1) := by decide +kernel
theorem dc_X8_fits_26 : decode mX8_fits.2.1 26 = .ok (.aload_n 0, 1) := by decide +kernel
theorem dc_X8_fits_27 : decode mX8_fits.2.1 27 = .ok (.getfield 12, 3) := by decide +kernel
theorem dc_X8_fits_30 : decode mX8_fits.2.1 30 = .ok (.getfield 87, 3) := by decide +kernel
theorem dc_X8_fits_33 : decode mX8_fits.2.1 33 = .ok (.invokevirtual 235, 3) := by decide +kernel
theorem dc_X8_fits_36 : decode mX8_fits.2.1 36 = .ok (.aload_n 0, 1) := by decide +kernel
theorem dc_X8_fits_37 : decode mX8_fits.2.1 37 = .ok (.getfield 66, 3) := by decide +kernel
theorem dc_X8_fits_40 : decode mX8_fits.2.1 40 = .ok (.invokevirtual 239, 3) := by decide +kernel
theorem dc_X8_fits_43 : decode mX8_fits.2.1 43 = .ok (.ifCond .eq 15, 3) := by decide +kernel
theorem dc_X8_fits_46 : decode mX8_fits.2.1 46 = .ok (.iconst 1, 1) := by decide +kernel
theorem dc_X8_fits_47 : decode mX8_fits.2.1 47 = .ok (.aload_n 0, 1) := by decide +kernel
theorem dc_X8_fits_48 : decode mX8_fits.2.1 48 = .ok (.getfield 66, 3) := by decide +kernel
theorem dc_X8_fits_51 : decode mX8_fits.2.1 51 = .ok (.invokevirtual 242, 3) := by decide +kernel
theorem dc_X8_fits_54 : decode mX8_fits.2.1 54 = .ok (.ishl, 1) := by decide +kernel
theorem dc_X8_fits_55 : decode mX8_fits.2.1 55 = .ok (.goto 4, 3) := by decide +kernel
theorem dc_X8_fits_58 : decode mX8_fits.2.1 58 = .ok (.iconst 0, 1) := by decide +kernel
theorem dc_X8_fits_59 : decode mX8_fits.2.1 59 = .ok (.ireturn, 1) := by decide +kernel
theorem dc_X8_pattern_0 : decode mX8_pattern.2.1 0 = .ok (.aload_n 0, 1) := by decide +kernel
theorem dc_X8_pattern_1 : decode mX8_pattern.2.1 1 = .ok (.iload_n 1, 1) := by decide +kernel
theorem dc_X8_pattern_2 : decode mX8_pattern.2.1 2 = .ok (.invokevirtual 228, 3) := by decide +kernel
theorem dc_X8_pattern_5 : decode mX8_pattern.2.1 5 = .ok (.istore_n 2, 1) := by decide +kernel
theorem dc_X8_pattern_6 : decode mX8_pattern.2.1 6 = .ok (.iload_n 2, 1) := by decide +kernel
theorem dc_X8_pattern_7 : decode mX8_pattern.2.1 7 = .ok (.ifCond .eq 9, 3) := by decide +kernel
theorem dc_X8_pattern_10 : decode mX8_pattern.2.1 10 = .ok (.aload_n 0, 1) := by decide +kernel
theorem dc_X8_pattern_11 : decode mX8_pattern.2.1 11 = .ok (.iload_n 2, 1) := by decide +kernel
theorem dc_X8_pattern_12 : decode mX8_pattern.2.1 12 = .ok (.invokevirtual 83, 3) := by decide +kernel
theorem dc_X8_pattern_15 : decode mX8_pattern.2.1 15 = .ok (.ireturn, 1) := by decide +kernel
theorem dc_X8_pattern_16 : decode mX8_pattern.2.1 16 = .ok (.aload_n 0, 1) := by decide +kernel
theorem dc_X8_pattern_17 : decode mX8_pattern.2.1 17 = .ok (.getfield 66, 3) := by decide +kernel
theorem dc_X8_pattern_20 : decode mX8_pattern.2.1 20 = .ok (.aload_n 0, 1) := by decide +kernel
theorem dc_X8_pattern_21 : decode mX8_pattern.2.1 21 = .ok (.getfield 32, 3) := by decide +kernel
theorem dc_X8_pattern_24 : decode mX8_pattern.2.1 24 = .ok (.iload_n 1, 1) := by decide +kernel
theorem dc_X8_pattern_25 : decode mX8_pattern.2.1 25 = .ok (.aaload, 1) := by decide +kernel
theorem dc_X8_pattern_26 : decode mX8_pattern.2.1 26 = .ok (.aload_n 0, 1) := by decide +kernel
theorem dc_X8_pattern_27 : decode mX8_pattern.2.1 27 = .ok (.getfield 12, 3) := by decide +kernel
theorem dc_X8_pattern_30 : decode mX8_pattern.2.1 30 = .ok (.getfield 87, 3) := by decide +kernel
theorem dc_X8_pattern_33 : decode mX8_pattern.2.1 33 = .ok (.invokevirtual 235, 3) := by decide +kernel
theorem dc_X8_pattern_36 : decode mX8_pattern.2.1 36 = .ok (.aload_n 0, 1) := by decide +kernel
theorem dc_X8_pattern_37 : decode mX8_pattern.2.1 37 = .ok (.getfield 66, 3) := by decide +kernel
theorem dc_X8_pattern_40 : decode mX8_pattern.2.1 40 = .ok (.invokevirtual 239, 3) := by decide +kernel
theorem dc_X8_pattern_43 : decode mX8_pattern.2.1 43 = .ok (.ifCond .eq 13, 3) := by decide +kernel
theorem dc_X8_pattern_46 : decode mX8_pattern.2.1 46 = .ok (.aload_n 0, 1) := by decide +kernel
theorem dc_X8_pattern_47 : decode mX8_pattern.2.1 47 = .ok (.getfield 66, 3) := by decide +kernel
theorem dc_X8_pattern_50 : decode mX8_pattern.2.1 50 = .ok (.getfield 245, 3) := by decide +kernel
theorem dc_X8_pattern_53 : decode mX8_pattern.2.1 53 = .ok (.goto 9, 3) := by decide +kernel
theorem dc_X8_pattern_56 : decode mX8_pattern.2.1 56 = .ok (.aload_n 0, 1) := by decide +kernel
theorem dc_X8_pattern_57 : decode mX8_pattern.2.1 57 = .ok (.ldc 196, 2) := by decide +kernel
theorem dc_X8_pattern_59 : decode mX8_pattern.2.1 59 = .ok (.invokevirtual 83, 3) := by decide +kernel
theorem dc_X8_pattern_62 : decode mX8_pattern.2.1 62 = .ok (.ireturn, 1) := by decide +kernel
theorem dc_X8_kinds_0 : decode mX8_kinds.2.1 0 = .ok (.aload_n 0, 1) := by decide +kernel
theorem dc_X8_kinds_1 : decode mX8_kinds.2.1 1 = .ok (.iload_n 1, 1) := by decide +kernel
theorem dc_X8_kinds_2 : decode mX8_kinds.2.1 2 = .ok (.invokevirtual 228, 3) := by decide +kernel
theorem dc_X8_kinds_5 : decode mX8_kinds.2.1 5 = .ok (.istore_n 3, 1) := by decide +kernel
theorem dc_X8_kinds_6 : decode mX8_kinds.2.1 6 = .ok (.iload_n 3, 1) := by decide +kernel
theorem dc_X8_kinds_7 : decode mX8_kinds.2.1 7 = .ok (.ifCond .eq 9, 3) := by decide +kernel
theorem dc_X8_kinds_10 : decode mX8_kinds.2.1 10 = .ok (.aload_n 0, 1) := by decide +kernel
theorem dc_X8_kinds_11 : decode mX8_kinds.2.1 11 = .ok (.iload_n 3, 1) := by decide +kernel
theorem dc_X8_kinds_12 : decode mX8_kinds.2.1 12 = .ok (.invokevirtual 83, 3) := by decide +kernel
theorem dc_X8_kinds_15 : decode mX8_kinds.2.1 15 = .ok (.ireturn, 1) := by decide +kernel
theorem dc_X8_kinds_16 : decode mX8_kinds.2.1 16 = .ok (.aload_n 0, 1) := by decide +kernel
theorem dc_X8_kinds_17 : decode mX8_kinds.2.1 17 = .ok (.iload_n 2, 1) := by decide +kernel
theorem dc_X8_kinds_18 : decode mX8_kinds.2.1 18 = .ok (.invokevirtual 119, 3) := by decide +kernel
theorem dc_X8_kinds_21 : decode mX8_kinds.2.1 21 = .ok (.ifCond .ne 10, 3) := by decide +kernel
theorem dc_X8_kinds_24 : decode mX8_kinds.2.1 24 = .ok (.aload_n 0, 1) := by decide +kernel
theorem dc_X8_kinds_25 : decode mX8_kinds.2.1 25 = .ok (.ldc 82, 2) := by decide +kernel
theorem dc_X8_kinds_27 : decode mX8_kinds.2.1 27 = .ok (.invokevirtual 83, 3) := by decide +kernel
theorem dc_X8_kinds_30 : decode mX8_kinds.2.1 30 = .ok (.ireturn, 1) := by decide +kernel
theorem dc_X8_kinds_31 : decode mX8_kinds.2.1 31 = .ok (.iconst 0, 1) := by decide +kernel
theorem dc_X8_kinds_32 : decode mX8_kinds.2.1 32 = .ok (.istore 4, 2) := by decide +kernel
theorem dc_X8_kinds_34 : decode mX8_kinds.2.1 34 = .ok (.iconst 0, 1) := by decide +kernel
theorem dc_X8_kinds_35 : decode mX8_kinds.2.1 35 = .ok (.istore 5, 2) := by decide +kernel
theorem dc_X8_kinds_37 : decode mX8_kinds.2.1 37 = .ok (.iload 5, 2) := by decide +kernel
theorem dc_X8_kinds_39 : decode mX8_kinds.2.1 39 = .ok (.bipush 6, 2) := by decide +kernel
theorem dc_X8_kinds_41 : decode mX8_kinds.2.1 41 = .ok (.if_icmp .gt 63, 3) := by decide +kernel
theorem dc_X8_kinds_44 : decode mX8_kinds.2.1 44 = .ok (.aload_n 0, 1) := by decide +kernel
theorem dc_X8_kinds_45 : decode mX8_kinds.2.1 45 = .ok (.getfield 53, 3) := by decide +kernel
theorem dc_X8_kinds_48 : decode mX8_kinds.2.1 48 = .ok (.aload_n 0, 1) := by decide +kernel
theorem dc_X8_kinds_49 : decode mX8_kinds.2.1 49 = .ok (.getfield 12, 3) := by decide +kernel
theorem dc_X8_kinds_52 : decode mX8_kinds.2.1 52 = .ok (.getfield 101, 3) := by decide +kernel
theorem dc_X8_kinds_55 : decode mX8_kinds.2.1 55 = .ok (.getfield 123, 3) := by decide +kernel
theorem dc_X8_kinds_58 : decode mX8_kinds.2.1 58 = .ok (.iload_n 2, 1) := by decide +kernel
theorem dc_X8_kinds_59 : decode mX8_kinds.2.1 59 = .ok (.aaload, 1) := by decide +kernel
theorem dc_X8_kinds_60 : decode mX8_kinds.2.1 60 = .ok (.invokevirtual 175, 3) := by decide +kernel
theorem dc_X8_kinds_63 : decode mX8_kinds.2.1 63 = .ok (.aload_n 0, 1) := by decide +kernel
theorem dc_X8_kinds_64 : decode mX8_kinds.2.1 64 = .ok (.getfield 53, 3) := by decide +kernel
theorem dc_X8_kinds_67 : decode mX8_kinds.2.1 67 = .ok (.iload 5, 2) := by decide +kernel
theorem dc_X8_kinds_69 : decode mX8_kinds.2.1 69 = .ok (.putfield 248, 3) := by decide +kernel
theorem dc_X8_kinds_72 : decode mX8_kinds.2.1 72 = .ok (.aload_n 0, 1) := by decide +kernel
theorem dc_X8_kinds_73 : decode mX8_kinds.2.1 73 = .ok (.aload_n 0, 1) := by decide +kernel
theorem dc_X8_kinds_74 : decode mX8_kinds.2.1 74 = .ok (.getfield 32, 3) := by decide +kernel
theorem dc_X8_kinds_77 : decode mX8_kinds.2.1 77 = .ok (.iload_n 1, 1) := by decide +kernel
theorem dc_X8_kinds_78 : decode mX8_kinds.2.1 78 = .ok (.aaload, 1) := by decide +kernel
theorem dc_X8_kinds_79 : decode mX8_kinds.2.1 79 = .ok (.aload_n 0, 1) := by decide +kernel
theorem dc_X8_kinds_80 : decode mX8_kinds.2.1 80 = .ok (.getfield 53, 3) := by decide +kernel
theorem dc_X8_kinds_83 : decode mX8_kinds.2.1 83 = .ok (.invokevirtual 251, 3) := by decide +kernel
theorem dc_X8_kinds_86 : decode mX8_kinds.2.1 86 = .ok (.ifCond .eq 12, 3) := by decide +kernel
theorem dc_X8_kinds_89 : decode mX8_kinds.2.1 89 = .ok (.iload 4, 2) := by decide +kernel
theorem dc_X8_kinds_91 : decode mX8_kinds.2.1 91 = .ok (.iconst 1, 1) := by decide +kernel
theorem dc_X8_kinds_92 : decode mX8_kinds.2.1 92 = .ok (.iload 5, 2) := by decide +kernel
theorem dc_X8_kinds_94 : decode mX8_kinds.2.1 94 = .ok (.ishl, 1) := by decide +kernel
theorem dc_X8_kinds_95 : decode mX8_kinds.2.1 95 = .ok (.ior, 1) := by decide +kernel
theorem dc_X8_kinds_96 : decode mX8_kinds.2.1 96 = .ok (.istore 4, 2) := by decide +kernel
theorem dc_X8_kinds_98 : decode mX8_kinds.2.1 98 = .ok (.iinc 5 1, 3) := by decide +kernel
theorem dc_X8_kinds_101 : decode mX8_kinds.2.1 101 = .ok (.goto (-64), 3) := by decide +kernel
theorem dc_X8_kinds_104 : decode mX8_kinds.2.1 104 = .ok (.iload 4, 2) := by decide +kernel
theorem dc_X8_kinds_106 : decode mX8_kinds.2.1 106 = .ok (.ireturn, 1) := by decide +kernel
theorem dc_X8_nights_0 : decode mX8_nights.2.1 0 = .ok (.iload_n 1, 1) := by decide +kernel
theorem dc_X8_nights_1 : decode mX8_nights.2.1 1 = .ok (.iconst 1, 1) := by decide +kernel
theorem dc_X8_nights_2 : decode mX8_nights.2.1 2 = .ok (.bipush 20, 2) := by decide +kernel
theorem dc_X8_nights_4 : decode mX8_nights.2.1 4 = .ok (.invokestatic 97, 3) := by decide +kernel
theorem dc_X8_nights_7 : decode mX8_nights.2.1 7 = .ok (.ifCond .ne 10, 3) := by decide +kernel
theorem dc_X8_nights_10 : decode mX8_nights.2.1 10 = .ok (.aload_n 0, 1) := by decide +kernel
theorem dc_X8_nights_11 : decode mX8_nights.2.1 11 = .ok (.ldc 82, 2) := by decide +kernel
theorem dc_X8_nights_13 : decode mX8_nights.2.1 13 = .ok (.invokevirtual 83, 3) := by decide +kernel
theorem dc_X8_nights_16 : decode mX8_nights.2.1 16 = .ok (.ireturn, 1) := by decide +kernel
theorem dc_X8_nights_17 : decode mX8_nights.2.1 17 = .ok (.aload_n 0, 1) := by decide +kernel
theorem dc_X8_nights_18 : decode mX8_nights.2.1 18 = .ok (.getfield 12, 3) := by decide +kernel
theorem dc_X8_nights_21 : decode mX8_nights.2.1 21 = .ok (.getfield 87, 3) := by decide +kernel
theorem dc_X8_nights_24 : decode mX8_nights.2.1 24 = .ok (.getfield 127, 3) := by decide +kernel
theorem dc_X8_nights_27 : decode mX8_nights.2.1 27 = .ok (.iload_n 1, 1) := by decide +kernel
theorem dc_X8_nights_28 : decode mX8_nights.2.1 28 = .ok (.iadd, 1) := by decide +kernel
theorem dc_X8_nights_29 : decode mX8_nights.2.1 29 = .ok (.ldc 146, 2) := by decide +kernel
theorem dc_X8_nights_31 : decode mX8_nights.2.1 31 = .ok (.if_icmp .le 10, 3) := by decide +kernel
theorem dc_X8_nights_34 : decode mX8_nights.2.1 34 = .ok (.aload_n 0, 1) := by decide +kernel
theorem dc_X8_nights_35 : decode mX8_nights.2.1 35 = .ok (.ldc 147, 2) := by decide +kernel
theorem dc_X8_nights_37 : decode mX8_nights.2.1 37 = .ok (.invokevirtual 83, 3) := by decide +kernel
theorem dc_X8_nights_40 : decode mX8_nights.2.1 40 = .ok (.ireturn, 1) := by decide +kernel
theorem dc_X8_nights_41 : decode mX8_nights.2.1 41 = .ok (.iconst 0, 1) := by decide +kernel
theorem dc_X8_nights_42 : decode mX8_nights.2.1 42 = .ok (.istore_n 2, 1) := by decide +kernel
theorem dc_X8_nights_43 : decode mX8_nights.2.1 43 = .ok (.iload_n 2, 1) := by decide +kernel
theorem dc_X8_nights_44 : decode mX8_nights.2.1 44 = .ok (.iload_n 1, 1) := by decide +kernel
theorem dc_X8_nights_45 : decode mX8_nights.2.1 45 = .ok (.if_icmp .ge 16, 3) := by decide +kernel
theorem dc_X8_nights_48 : decode mX8_nights.2.1 48 = .ok (.aload_n 0, 1) := by decide +kernel
theorem dc_X8_nights_49 : decode mX8_nights.2.1 49 = .ok (.getfield 12, 3) := by decide +kernel
theorem dc_X8_nights_52 : decode mX8_nights.2.1 52 = .ok (.invokevirtual 255, 3) := by decide +kernel
theorem dc_X8_nights_55 : decode mX8_nights.2.1 55 = .ok (.iinc 2 1, 3) := by decide +kernel
theorem dc_X8_nights_58 : decode mX8_nights.2.1 58 = .ok (.goto (-15), 3) := by decide +kernel
theorem dc_X8_nights_61 : decode mX8_nights.2.1 61 = .ok (.aload_n 0, 1) := by decide +kernel
theorem dc_X8_nights_62 : decode mX8_nights.2.1 62 = .ok (.getfield 12, 3) := by decide +kernel
theorem dc_X8_nights_65 : decode mX8_nights.2.1 65 = .ok (.getfield 101, 3) := by decide +kernel
theorem dc_X8_nights_68 : decode mX8_nights.2.1 68 = .ok (.invokevirtual 151, 3) := by decide +kernel
theorem dc_X8_nights_71 : decode mX8_nights.2.1 71 = .ok (.ireturn, 1) := by decide +kernel
theorem dc_X8_odds_0 : decode mX8_odds.2.1 0 = .ok (.iload_n 1, 1) := by decide +kernel
theorem dc_X8_odds_1 : decode mX8_odds.2.1 1 = .ok (.iconst 0, 1) := by decide +kernel
theorem dc_X8_odds_2 : decode mX8_odds.2.1 2 = .ok (.bipush 17, 2) := by decide +kernel
theorem dc_X8_odds_4 : decode mX8_odds.2.1 4 = .ok (.invokestatic 97, 3) := by decide +kernel
theorem dc_X8_odds_7 : decode mX8_odds.2.1 7 = .ok (.ifCond .eq 12, 3) := by decide +kernel
theorem dc_X8_odds_10 : decode mX8_odds.2.1 10 = .ok (.iload_n 2, 1) := by decide +kernel
theorem dc_X8_odds_11 : decode mX8_odds.2.1 11 = .ok (.iconst 0, 1) := by decide +kernel
theorem dc_X8_odds_12 : decode mX8_odds.2.1 12 = .ok (.iconst 1, 1) := by decide +kernel
theorem dc_X8_odds_13 : decode mX8_odds.2.1 13 = .ok (.invokestatic 97, 3) := by decide +kernel
theorem dc_X8_odds_16 : decode mX8_odds.2.1 16 = .ok (.ifCond .ne 11, 3) := by decide +kernel
theorem dc_X8_odds_19 : decode mX8_odds.2.1 19 = .ok (.aload_n 0, 1) := by decide +kernel
theorem dc_X8_odds_20 : decode mX8_odds.2.1 20 = .ok (.ldc 82, 2) := by decide +kernel
theorem dc_X8_odds_22 : decode mX8_odds.2.1 22 = .ok (.invokevirtual 83, 3) := by decide +kernel
theorem dc_X8_odds_25 : decode mX8_odds.2.1 25 = .ok (.i2l, 1) := by decide +kernel
theorem dc_X8_odds_26 : decode mX8_odds.2.1 26 = .ok (.lreturn, 1) := by decide +kernel
theorem dc_X8_odds_27 : decode mX8_odds.2.1 27 = .ok (.aload_n 0, 1) := by decide +kernel
theorem dc_X8_odds_28 : decode mX8_odds.2.1 28 = .ok (.getfield 12, 3) := by decide +kernel
theorem dc_X8_odds_31 : decode mX8_odds.2.1 31 = .ok (.getfield 87, 3) := by decide +kernel
theorem dc_X8_odds_34 : decode mX8_odds.2.1 34 = .ok (.getfield 200, 3) := by decide +kernel
theorem dc_X8_odds_37 : decode mX8_odds.2.1 37 = .ok (.invokestatic 170, 3) := by decide +kernel
theorem dc_X8_odds_40 : decode mX8_odds.2.1 40 = .ok (.istore_n 3, 1) := by decide +kernel
theorem dc_X8_odds_41 : decode mX8_odds.2.1 41 = .ok (.iload_n 2, 1) := by decide +kernel
theorem dc_X8_odds_42 : decode mX8_odds.2.1 42 = .ok (.ifCond .ne 12, 3) := by decide +kernel
theorem dc_X8_odds_45 : decode mX8_odds.2.1 45 = .ok (.iload_n 3, 1) := by decide +kernel
theorem dc_X8_odds_46 : decode mX8_odds.2.1 46 = .ok (.bipush 12, 2) := by decide +kernel
theorem dc_X8_odds_48 : decode mX8_odds.2.1 48 = .ok (.invokestatic 258, 3) := by decide +kernel
theorem dc_X8_odds_51 : decode mX8_odds.2.1 51 = .ok (.goto 9, 3) := by decide +kernel
theorem dc_X8_odds_54 : decode mX8_odds.2.1 54 = .ok (.bipush 12, 2) := by decide +kernel
theorem dc_X8_odds_56 : decode mX8_odds.2.1 56 = .ok (.iload_n 3, 1) := by decide +kernel
theorem dc_X8_odds_57 : decode mX8_odds.2.1 57 = .ok (.invokestatic 258, 3) := by decide +kernel
theorem dc_X8_odds_60 : decode mX8_odds.2.1 60 = .ok (.iload_n 1, 1) := by decide +kernel
theorem dc_X8_odds_61 : decode mX8_odds.2.1 61 = .ok (.invokestatic 261, 3) := by decide +kernel
theorem dc_X8_odds_64 : decode mX8_odds.2.1 64 = .ok (.lreturn, 1) := by decide +kernel
theorem dc_X8_seed_0 : decode mX8_seed.2.1 0 = .ok (.aload_n 0, 1) := by decide +kernel
theorem dc_X8_seed_1 : decode mX8_seed.2.1 1 = .ok (.getfield 12, 3) := by decide +kernel
theorem dc_X8_seed_4 : decode mX8_seed.2.1 4 = .ok (.getfield 265, 3) := by decide +kernel
theorem dc_X8_seed_7 : decode mX8_seed.2.1 7 = .ok (.istore_n 2, 1) := by decide +kernel
theorem dc_X8_seed_8 : decode mX8_seed.2.1 8 = .ok (.aload_n 0, 1) := by decide +kernel
theorem dc_X8_seed_9 : decode mX8_seed.2.1 9 = .ok (.getfield 12, 3) := by decide +kernel
theorem dc_X8_seed_12 : decode mX8_seed.2.1 12 = .ok (.iload_n 1, 1) := by decide +kernel
theorem dc_X8_seed_13 : decode mX8_seed.2.1 13 = .ok (.putfield 265, 3) := by decide +kernel
theorem dc_X8_seed_16 : decode mX8_seed.2.1 16 = .ok (.iload_n 2, 1) := by decide +kernel
theorem dc_X8_seed_17 : decode mX8_seed.2.1 17 = .ok (.ireturn, 1) := by decide +kernel
theorem dc_X8_feed_0 : decode mX8_feed.2.1 0 = .ok (.iload_n 2, 1) := by decide +kernel
theorem dc_X8_feed_1 : decode mX8_feed.2.1 1 = .ok (.iconst 1, 1) := by decide +kernel
theorem dc_X8_feed_2 : decode mX8_feed.2.1 2 = .ok (.iconst 4, 1) := by decide +kernel
theorem dc_X8_feed_3 : decode mX8_feed.2.1 3 = .ok (.invokestatic 97, 3) := by decide +kernel
theorem dc_X8_feed_6 : decode mX8_feed.2.1 6 = .ok (.ifCond .ne 10, 3) := by decide +kernel
theorem dc_X8_feed_9 : decode mX8_feed.2.1 9 = .ok (.aload_n 0, 1) := by decide +kernel
theorem dc_X8_feed_10 : decode mX8_feed.2.1 10 = .ok (.ldc 82, 2) := by decide +kernel
theorem dc_X8_feed_12 : decode mX8_feed.2.1 12 = .ok (.invokevirtual 83, 3) := by decide +kernel
theorem dc_X8_feed_15 : decode mX8_feed.2.1 15 = .ok (.ireturn, 1) := by decide +kernel
theorem dc_X8_feed_16 : decode mX8_feed.2.1 16 = .ok (.aload_n 0, 1) := by decide +kernel
theorem dc_X8_feed_17 : decode mX8_feed.2.1 17 = .ok (.getfield 26, 3) := by decide +kernel
theorem dc_X8_feed_20 : decode mX8_feed.2.1 20 = .ok (.getfield 268, 3) := by decide +kernel
theorem dc_X8_feed_23 : decode mX8_feed.2.1 23 = .ok (.iload_n 2, 1) := by decide +kernel
theorem dc_X8_feed_24 : decode mX8_feed.2.1 24 = .ok (.iadd, 1) := by decide +kernel
theorem dc_X8_feed_25 : decode mX8_feed.2.1 25 = .ok (.bipush 120, 2) := by decide +kernel
theorem dc_X8_feed_27 : decode mX8_feed.2.1 27 = .ok (.if_icmp .le 10, 3) := by decide +kernel
theorem dc_X8_feed_30 : decode mX8_feed.2.1 30 = .ok (.aload_n 0, 1) := by decide +kernel
theorem dc_X8_feed_31 : decode mX8_feed.2.1 31 = .ok (.ldc 111, 2) := by decide +kernel
theorem dc_X8_feed_33 : decode mX8_feed.2.1 33 = .ok (.invokevirtual 83, 3) := by decide +kernel
theorem dc_X8_feed_36 : decode mX8_feed.2.1 36 = .ok (.ireturn, 1) := by decide +kernel
theorem dc_X8_feed_37 : decode mX8_feed.2.1 37 = .ok (.iload_n 2, 1) := by decide +kernel
theorem dc_X8_feed_38 : decode mX8_feed.2.1 38 = .ok (.iconst 1, 1) := by decide +kernel
theorem dc_X8_feed_39 : decode mX8_feed.2.1 39 = .ok (.isub, 1) := by decide +kernel
theorem dc_X8_feed_40 : decode mX8_feed.2.1 40 = .ok (.istore_n 3, 1) := by decide +kernel
theorem dc_X8_feed_41 : decode mX8_feed.2.1 41 = .ok (.iload_n 3, 1) := by decide +kernel
theorem dc_X8_feed_42 : decode mX8_feed.2.1 42 = .ok (.ifCond .lt 26, 3) := by decide +kernel
theorem dc_X8_feed_45 : decode mX8_feed.2.1 45 = .ok (.aload_n 0, 1) := by decide +kernel
theorem dc_X8_feed_46 : decode mX8_feed.2.1 46 = .ok (.getfield 26, 3) := by decide +kernel
theorem dc_X8_feed_49 : decode mX8_feed.2.1 49 = .ok (.iload_n 1, 1) := by decide +kernel
theorem dc_X8_feed_50 : decode mX8_feed.2.1 50 = .ok (.bipush 8, 2) := by decide +kernel
theorem dc_X8_feed_52 : decode mX8_feed.2.1 52 = .ok (.iload_n 3, 1) := by decide +kernel
theorem dc_X8_feed_53 : decode mX8_feed.2.1 53 = .ok (.imul, 1) := by decide +kernel
theorem dc_X8_feed_54 : decode mX8_feed.2.1 54 = .ok (.iushr, 1) := by decide +kernel
theorem dc_X8_feed_55 : decode mX8_feed.2.1 55 = .ok (.sipush 255, 3) := by decide +kernel
theorem dc_X8_feed_58 : decode mX8_feed.2.1 58 = .ok (.iand, 1) := by decide +kernel
theorem dc_X8_feed_59 : decode mX8_feed.2.1 59 = .ok (.invokevirtual 269, 3) := by decide +kernel
theorem dc_X8_feed_62 : decode mX8_feed.2.1 62 = .ok (.iinc 3 (-1), 3) := by decide +kernel
theorem dc_X8_feed_65 : decode mX8_feed.2.1 65 = .ok (.goto (-24), 3) := by decide +kernel
theorem dc_X8_feed_68 : decode mX8_feed.2.1 68 = .ok (.aload_n 0, 1) := by decide +kernel
theorem dc_X8_feed_69 : decode mX8_feed.2.1 69 = .ok (.getfield 26, 3) := by decide +kernel
theorem dc_X8_feed_72 : decode mX8_feed.2.1 72 = .ok (.getfield 268, 3) := by decide +kernel
theorem dc_X8_feed_75 : decode mX8_feed.2.1 75 = .ok (.ireturn, 1) := by decide +kernel
theorem dc_X8_wipe_0 : decode mX8_wipe.2.1 0 = .ok (.aload_n 0, 1) := by decide +kernel
theorem dc_X8_wipe_1 : decode mX8_wipe.2.1 1 = .ok (.getfield 26, 3) := by decide +kernel
theorem dc_X8_wipe_4 : decode mX8_wipe.2.1 4 = .ok (.getfield 268, 3) := by decide +kernel
theorem dc_X8_wipe_7 : decode mX8_wipe.2.1 7 = .ok (.istore_n 1, 1) := by decide +kernel
theorem dc_X8_wipe_8 : decode mX8_wipe.2.1 8 = .ok (.aload_n 0, 1) := by decide +kernel
theorem dc_X8_wipe_9 : decode mX8_wipe.2.1 9 = .ok (.getfield 26, 3) := by decide +kernel
theorem dc_X8_wipe_12 : decode mX8_wipe.2.1 12 = .ok (.iconst 0, 1) := by decide +kernel
theorem dc_X8_wipe_13 : decode mX8_wipe.2.1 13 = .ok (.putfield 268, 3) := by decide +kernel
theorem dc_X8_wipe_16 : decode mX8_wipe.2.1 16 = .ok (.iload_n 1, 1) := by decide +kernel
theorem dc_X8_wipe_17 : decode mX8_wipe.2.1 17 = .ok (.ireturn, 1) := by decide +kernel
theorem dc_X8_text_0 : decode mX8_text.2.1 0 = .ok (.aload_n 0, 1) := by decide +kernel
theorem dc_X8_text_1 : decode mX8_text.2.1 1 = .ok (.getfield 40, 3) := by decide +kernel
theorem dc_X8_text_4 : decode mX8_text.2.1 4 = .ok (.aload_n 0, 1) := by decide +kernel
theorem dc_X8_text_5 : decode mX8_text.2.1 5 = .ok (.getfield 12, 3) := by decide +kernel
theorem dc_X8_text_8 : decode mX8_text.2.1 8 = .ok (.invokevirtual 273, 3) := by decide +kernel
theorem dc_X8_text_11 : decode mX8_text.2.1 11 = .ok (.aload_n 0, 1) := by decide +kernel
theorem dc_X8_text_12 : decode mX8_text.2.1 12 = .ok (.getfield 26, 3) := by decide +kernel
theorem dc_X8_text_15 : decode mX8_text.2.1 15 = .ok (.aload_n 0, 1) := by decide +kernel
theorem dc_X8_text_16 : decode mX8_text.2.1 16 = .ok (.getfield 40, 3) := by decide +kernel
theorem dc_X8_text_19 : decode mX8_text.2.1 19 = .ok (.invokevirtual 276, 3) := by decide +kernel
theorem dc_X8_text_22 : decode mX8_text.2.1 22 = .ok (.istore_n 1, 1) := by decide +kernel
theorem dc_X8_text_23 : decode mX8_text.2.1 23 = .ok (.iload_n 1, 1) := by decide +kernel
theorem dc_X8_text_24 : decode mX8_text.2.1 24 = .ok (.ifCond .lt 14, 3) := by decide +kernel
theorem dc_X8_text_27 : decode mX8_text.2.1 27 = .ok (.aload_n 0, 1) := by decide +kernel
theorem dc_X8_text_28 : decode mX8_text.2.1 28 = .ok (.getfield 12, 3) := by decide +kernel
theorem dc_X8_text_31 : decode mX8_text.2.1 31 = .ok (.aload_n 0, 1) := by decide +kernel
theorem dc_X8_text_32 : decode mX8_text.2.1 32 = .ok (.getfield 40, 3) := by decide +kernel
theorem dc_X8_text_35 : decode mX8_text.2.1 35 = .ok (.invokevirtual 273, 3) := by decide +kernel
theorem dc_X8_text_38 : decode mX8_text.2.1 38 = .ok (.aload_n 0, 1) := by decide +kernel
theorem dc_X8_text_39 : decode mX8_text.2.1 39 = .ok (.getfield 26, 3) := by decide +kernel
theorem dc_X8_text_42 : decode mX8_text.2.1 42 = .ok (.iconst 0, 1) := by decide +kernel
theorem dc_X8_text_43 : decode mX8_text.2.1 43 = .ok (.putfield 268, 3) := by decide +kernel
theorem dc_X8_text_46 : decode mX8_text.2.1 46 = .ok (.iload_n 1, 1) := by decide +kernel
theorem dc_X8_text_47 : decode mX8_text.2.1 47 = .ok (.ireturn, 1) := by decide +kernel
theorem dc_X8_hold_0 : decode mX8_hold.2.1 0 = .ok (.iload_n 1, 1) := by decide +kernel
theorem dc_X8_hold_1 : decode mX8_hold.2.1 1 = .ok (.iconst 0, 1) := by decide +kernel
theorem dc_X8_hold_2 : decode mX8_hold.2.1 2 = .ok (.bipush 9, 2) := by decide +kernel
theorem dc_X8_hold_4 : decode mX8_hold.2.1 4 = .ok (.invokestatic 97, 3) := by decide +kernel
theorem dc_X8_hold_7 : decode mX8_hold.2.1 7 = .ok (.ifCond .eq 16, 3) := by decide +kernel
theorem dc_X8_hold_10 : decode mX8_hold.2.1 10 = .ok (.iload_n 2, 1) := by decide +kernel
theorem dc_X8_hold_11 : decode mX8_hold.2.1 11 = .ok (.iconst (-1), 1) := by decide +kernel
theorem dc_X8_hold_12 : decode mX8_hold.2.1 12 = .ok (.if_icmp .eq 18, 3) := by decide +kernel
theorem dc_X8_hold_15 : decode mX8_hold.2.1 15 = .ok (.aload_n 0, 1) := by decide +kernel
theorem dc_X8_hold_16 : decode mX8_hold.2.1 16 = .ok (.iload_n 2, 1) := by decide +kernel
theorem dc_X8_hold_17 : decode mX8_hold.2.1 17 = .ok (.invokevirtual 119, 3) := by decide +kernel
theorem dc_X8_hold_20 : decode mX8_hold.2.1 20 = .ok (.ifCond .ne 10, 3) := by decide +kernel
theorem dc_X8_hold_23 : decode mX8_hold.2.1 23 = .ok (.aload_n 0, 1) := by decide +kernel
theorem dc_X8_hold_24 : decode mX8_hold.2.1 24 = .ok (.ldc 82, 2) := by decide +kernel
theorem dc_X8_hold_26 : decode mX8_hold.2.1 26 = .ok (.invokevirtual 83, 3) := by decide +kernel
theorem dc_X8_hold_29 : decode mX8_hold.2.1 29 = .ok (.ireturn, 1) := by decide +kernel
theorem dc_X8_hold_30 : decode mX8_hold.2.1 30 = .ok (.aload_n 0, 1) := by decide +kernel
theorem dc_X8_hold_31 : decode mX8_hold.2.1 31 = .ok (.getfield 12, 3) := by decide +kernel
theorem dc_X8_hold_34 : decode mX8_hold.2.1 34 = .ok (.getfield 280, 3) := by decide +kernel
theorem dc_X8_hold_37 : decode mX8_hold.2.1 37 = .ok (.iload_n 1, 1) := by decide +kernel
theorem dc_X8_hold_38 : decode mX8_hold.2.1 38 = .ok (.iload_n 2, 1) := by decide +kernel
theorem dc_X8_hold_39 : decode mX8_hold.2.1 39 = .ok (.iastore, 1) := by decide +kernel
theorem dc_X8_hold_40 : decode mX8_hold.2.1 40 = .ok (.iconst 1, 1) := by decide +kernel
theorem dc_X8_hold_41 : decode mX8_hold.2.1 41 = .ok (.ireturn, 1) := by decide +kernel
theorem dc_X8_as_0 : decode mX8_as.2.1 0 = .ok (.iload_n 1, 1) := by decide +kernel
theorem dc_X8_as_1 : decode mX8_as.2.1 1 = .ok (.iconst 0, 1) := by decide +kernel
theorem dc_X8_as_2 : decode mX8_as.2.1 2 = .ok (.bipush 9, 2) := by decide +kernel
theorem dc_X8_as_4 : decode mX8_as.2.1 4 = .ok (.invokestatic 97, 3) := by decide +kernel
theorem dc_X8_as_7 : decode mX8_as.2.1 7 = .ok (.ifCond .eq 13, 3) := by decide +kernel
theorem dc_X8_as_10 : decode mX8_as.2.1 10 = .ok (.iload_n 2, 1) := by decide +kernel
theorem dc_X8_as_11 : decode mX8_as.2.1 11 = .ok (.iconst 0, 1) := by decide +kernel
theorem dc_X8_as_12 : decode mX8_as.2.1 12 = .ok (.bipush 6, 2) := by decide +kernel
theorem dc_X8_as_14 : decode mX8_as.2.1 14 = .ok (.invokestatic 97, 3) := by decide +kernel
theorem dc_X8_as_17 : decode mX8_as.2.1 17 = .ok (.ifCond .ne 10, 3) := by decide +kernel
theorem dc_X8_as_20 : decode mX8_as.2.1 20 = .ok (.aload_n 0, 1) := by decide +kernel
theorem dc_X8_as_21 : decode mX8_as.2.1 21 = .ok (.ldc 82, 2) := by decide +kernel
theorem dc_X8_as_23 : decode mX8_as.2.1 23 = .ok (.invokevirtual 83, 3) := by decide +kernel
theorem dc_X8_as_26 : decode mX8_as.2.1 26 = .ok (.ireturn, 1) := by decide +kernel
theorem dc_X8_as_27 : decode mX8_as.2.1 27 = .ok (.aload_n 0, 1) := by decide +kernel
theorem dc_X8_as_28 : decode mX8_as.2.1 28 = .ok (.getfield 12, 3) := by decide +kernel
theorem dc_X8_as_31 : decode mX8_as.2.1 31 = .ok (.getfield 280, 3) := by decide +kernel
theorem dc_X8_as_34 : decode mX8_as.2.1 34 = .ok (.iload_n 1, 1) := by decide +kernel
theorem dc_X8_as_35 : decode mX8_as.2.1 35 = .ok (.iaload, 1) := by decide +kernel
theorem dc_X8_as_36 : decode mX8_as.2.1 36 = .ok (.istore_n 3, 1) := by decide +kernel
theorem dc_X8_as_37 : decode mX8_as.2.1 37 = .ok (.aload_n 0, 1) := by decide +kernel
theorem dc_X8_as_38 : decode mX8_as.2.1 38 = .ok (.iload_n 3, 1) := by decide +kernel
theorem dc_X8_as_39 : decode mX8_as.2.1 39 = .ok (.invokevirtual 119, 3) := by decide +kernel
theorem dc_X8_as_42 : decode mX8_as.2.1 42 = .ok (.ifCond .ne 11, 3) := by decide +kernel
theorem dc_X8_as_45 : decode mX8_as.2.1 45 = .ok (.aload_n 0, 1) := by decide +kernel
theorem dc_X8_as_46 : decode mX8_as.2.1 46 = .ok (.ldc_w 283, 3) := by decide +kernel
theorem dc_X8_as_49 : decode mX8_as.2.1 49 = .ok (.invokevirtual 83, 3) := by decide +kernel
theorem dc_X8_as_52 : decode mX8_as.2.1 52 = .ok (.ireturn, 1) := by decide +kernel
theorem dc_X8_as_53 : decode mX8_as.2.1 53 = .ok (.aload_n 0, 1) := by decide +kernel
theorem dc_X8_as_54 : decode mX8_as.2.1 54 = .ok (.getfield 12, 3) := by decide +kernel
theorem dc_X8_as_57 : decode mX8_as.2.1 57 = .ok (.getfield 101, 3) := by decide +kernel
theorem dc_X8_as_60 : decode mX8_as.2.1 60 = .ok (.getfield 123, 3) := by decide +kernel
theorem dc_X8_as_63 : decode mX8_as.2.1 63 = .ok (.iload_n 3, 1) := by decide +kernel
theorem dc_X8_as_64 : decode mX8_as.2.1 64 = .ok (.aaload, 1) := by decide +kernel
theorem dc_X8_as_65 : decode mX8_as.2.1 65 = .ok (.getfield 248, 3) := by decide +kernel
theorem dc_X8_as_68 : decode mX8_as.2.1 68 = .ok (.iload_n 2, 1) := by decide +kernel
theorem dc_X8_as_69 : decode mX8_as.2.1 69 = .ok (.invokestatic 284, 3) := by decide +kernel
theorem dc_X8_as_72 : decode mX8_as.2.1 72 = .ok (.ifCond .eq 7, 3) := by decide +kernel
theorem dc_X8_as_75 : decode mX8_as.2.1 75 = .ok (.iload_n 3, 1) := by decide +kernel
theorem dc_X8_as_76 : decode mX8_as.2.1 76 = .ok (.goto 10, 3) := by decide +kernel
theorem dc_X8_as_79 : decode mX8_as.2.1 79 = .ok (.aload_n 0, 1) := by decide +kernel
theorem dc_X8_as_80 : decode mX8_as.2.1 80 = .ok (.ldc_w 287, 3) := by decide +kernel
theorem dc_X8_as_83 : decode mX8_as.2.1 83 = .ok (.invokevirtual 83, 3) := by decide +kernel
theorem dc_X8_as_86 : decode mX8_as.2.1 86 = .ok (.ireturn, 1) := by decide +kernel
theorem dc_X8_sheet_0 : decode mX8_sheet.2.1 0 = .ok (.iload_n 2, 1) := by decide +kernel
theorem dc_X8_sheet_1 : decode mX8_sheet.2.1 1 = .ok (.ifCond .eq 21, 3) := by decide +kernel
theorem dc_X8_sheet_4 : decode mX8_sheet.2.1 4 = .ok (.iload_n 2, 1) := by decide +kernel
theorem dc_X8_sheet_5 : decode mX8_sheet.2.1 5 = .ok (.bipush 8, 2) := by decide +kernel
theorem dc_X8_sheet_7 : decode mX8_sheet.2.1 7 = .ok (.if_icmp .eq 15, 3) := by decide +kernel
theorem dc_X8_sheet_10 : decode mX8_sheet.2.1 10 = .ok (.iload_n 2, 1) := by decide +kernel
theorem dc_X8_sheet_11 : decode mX8_sheet.2.1 11 = .ok (.bipush 16, 2) := by decide +kernel
theorem dc_X8_sheet_13 : decode mX8_sheet.2.1 13 = .ok (.if_icmp .eq 9, 3) := by decide +kernel
theorem dc_X8_sheet_16 : decode mX8_sheet.2.1 16 = .ok (.iload_n 2, 1) := by decide +kernel
theorem dc_X8_sheet_17 : decode mX8_sheet.2.1 17 = .ok (.bipush 32, 2) := by decide +kernel
theorem dc_X8_sheet_19 : decode mX8_sheet.2.1 19 = .ok (.if_icmp .ne 7, 3) := by decide +kernel
theorem dc_X8_sheet_22 : decode mX8_sheet.2.1 22 = .ok (.iconst 1, 1) := by decide +kernel
theorem dc_X8_sheet_23 : decode mX8_sheet.2.1 23 = .ok (.goto 4, 3) := by decide +kernel
theorem dc_X8_sheet_26 : decode mX8_sheet.2.1 26 = .ok (.iconst 0, 1) := by decide +kernel
theorem dc_X8_sheet_27 : decode mX8_sheet.2.1 27 = .ok (.istore 4, 2) := by decide +kernel
theorem dc_X8_sheet_29 : decode mX8_sheet.2.1 29 = .ok (.iload_n 1, 1) := by decide +kernel
theorem dc_X8_sheet_30 : decode mX8_sheet.2.1 30 = .ok (.iconst 0, 1) := by decide +kernel
theorem dc_X8_sheet_31 : decode mX8_sheet.2.1 31 = .ok (.iconst 3, 1) := by decide +kernel
theorem dc_X8_sheet_32 : decode mX8_sheet.2.1 32 = .ok (.invokestatic 97, 3) := by decide +kernel
theorem dc_X8_sheet_35 : decode mX8_sheet.2.1 35 = .ok (.ifCond .eq 8, 3) := by decide +kernel
theorem dc_X8_sheet_38 : decode mX8_sheet.2.1 38 = .ok (.iload 4, 2) := by decide +kernel
theorem dc_X8_sheet_40 : decode mX8_sheet.2.1 40 = .ok (.ifCond .ne 10, 3) := by decide +kernel
theorem dc_X8_sheet_43 : decode mX8_sheet.2.1 43 = .ok (.aload_n 0, 1) := by decide +kernel
theorem dc_X8_sheet_44 : decode mX8_sheet.2.1 44 = .ok (.ldc 82, 2) := by decide +kernel
theorem dc_X8_sheet_46 : decode mX8_sheet.2.1 46 = .ok (.invokevirtual 83, 3) := by decide +kernel
theorem dc_X8_sheet_49 : decode mX8_sheet.2.1 49 = .ok (.ireturn, 1) := by decide +kernel
theorem dc_X8_sheet_50 : decode mX8_sheet.2.1 50 = .ok (.iload_n 3, 1) := by decide +kernel
theorem dc_X8_sheet_51 : decode mX8_sheet.2.1 51 = .ok (.ifCond .ge 11, 3) := by decide +kernel
theorem dc_X8_sheet_54 : decode mX8_sheet.2.1 54 = .ok (.aload_n 0, 1) := by decide +kernel
theorem dc_X8_sheet_55 : decode mX8_sheet.2.1 55 = .ok (.ldc_w 288, 3) := by decide +kernel
theorem dc_X8_sheet_58 : decode mX8_sheet.2.1 58 = .ok (.invokevirtual 83, 3) := by decide +kernel
theorem dc_X8_sheet_61 : decode mX8_sheet.2.1 61 = .ok (.ireturn, 1) := by decide +kernel
theorem dc_X8_sheet_62 : decode mX8_sheet.2.1 62 = .ok (.iload_n 3, 1) := by decide +kernel
theorem dc_X8_sheet_63 : decode mX8_sheet.2.1 63 = .ok (.bipush 40, 2) := by decide +kernel
theorem dc_X8_sheet_65 : decode mX8_sheet.2.1 65 = .ok (.if_icmp .le 10, 3) := by decide +kernel
theorem dc_X8_sheet_68 : decode mX8_sheet.2.1 68 = .ok (.aload_n 0, 1) := by decide +kernel
theorem dc_X8_sheet_69 : decode mX8_sheet.2.1 69 = .ok (.ldc 82, 2) := by decide +kernel
theorem dc_X8_sheet_71 : decode mX8_sheet.2.1 71 = .ok (.invokevirtual 83, 3) := by decide +kernel
theorem dc_X8_sheet_74 : decode mX8_sheet.2.1 74 = .ok (.ireturn, 1) := by decide +kernel
theorem dc_X8_sheet_75 : decode mX8_sheet.2.1 75 = .ok (.aload_n 0, 1) := by decide +kernel
theorem dc_X8_sheet_76 : decode mX8_sheet.2.1 76 = .ok (.getfield 32, 3) := by decide +kernel
theorem dc_X8_sheet_79 : decode mX8_sheet.2.1 79 = .ok (.iload_n 1, 1) := by decide +kernel
theorem dc_X8_sheet_80 : decode mX8_sheet.2.1 80 = .ok (.aaload, 1) := by decide +kernel
theorem dc_X8_sheet_81 : decode mX8_sheet.2.1 81 = .ok (.iload_n 2, 1) := by decide +kernel
theorem dc_X8_sheet_82 : decode mX8_sheet.2.1 82 = .ok (.iload_n 3, 1) := by decide +kernel
theorem dc_X8_sheet_83 : decode mX8_sheet.2.1 83 = .ok (.invokevirtual 289, 3) := by decide +kernel
theorem dc_X8_sheet_86 : decode mX8_sheet.2.1 86 = .ok (.aload_n 0, 1) := by decide +kernel
theorem dc_X8_sheet_87 : decode mX8_sheet.2.1 87 = .ok (.getfield 32, 3) := by decide +kernel
theorem dc_X8_sheet_90 : decode mX8_sheet.2.1 90 = .ok (.iload_n 1, 1) := by decide +kernel
theorem dc_X8_sheet_91 : decode mX8_sheet.2.1 91 = .ok (.aaload, 1) := by decide +kernel
theorem dc_X8_sheet_92 : decode mX8_sheet.2.1 92 = .ok (.getfield 292, 3) := by decide +kernel
theorem dc_X8_sheet_95 : decode mX8_sheet.2.1 95 = .ok (.ireturn, 1) := by decide +kernel
theorem dc_X8_write_0 : decode mX8_write.2.1 0 = .ok (.aload_n 0, 1) := by decide +kernel
theorem dc_X8_write_1 : decode mX8_write.2.1 1 = .ok (.iload_n 1, 1) := by decide +kernel
theorem dc_X8_write_2 : decode mX8_write.2.1 2 = .ok (.invokevirtual 228, 3) := by decide +kernel
theorem dc_X8_write_5 : decode mX8_write.2.1 5 = .ok (.istore 4, 2) := by decide +kernel
theorem dc_X8_write_7 : decode mX8_write.2.1 7 = .ok (.iload 4, 2) := by decide +kernel
theorem dc_X8_write_9 : decode mX8_write.2.1 9 = .ok (.ifCond .eq 10, 3) := by decide +kernel
theorem dc_X8_write_12 : decode mX8_write.2.1 12 = .ok (.aload_n 0, 1) := by decide +kernel
theorem dc_X8_write_13 : decode mX8_write.2.1 13 = .ok (.iload 4, 2) := by decide +kernel
theorem dc_X8_write_15 : decode mX8_write.2.1 15 = .ok (.invokevirtual 83, 3) := by decide +kernel
theorem dc_X8_write_18 : decode mX8_write.2.1 18 = .ok (.ireturn, 1) := by decide +kernel
theorem dc_X8_write_19 : decode mX8_write.2.1 19 = .ok (.iload_n 2, 1) := by decide +kernel
theorem dc_X8_write_20 : decode mX8_write.2.1 20 = .ok (.iconst 0, 1) := by decide +kernel
theorem dc_X8_write_21 : decode mX8_write.2.1 21 = .ok (.aload_n 0, 1) := by decide +kernel
theorem dc_X8_write_22 : decode mX8_write.2.1 22 = .ok (.getfield 32, 3) := by decide +kernel
theorem dc_X8_write_25 : decode mX8_write.2.1 25 = .ok (.iload_n 1, 1) := by decide +kernel
theorem dc_X8_write_26 : decode mX8_write.2.1 26 = .ok (.aaload, 1) := by decide +kernel
theorem dc_X8_write_27 : decode mX8_write.2.1 27 = .ok (.getfield 292, 3) := by decide +kernel
theorem dc_X8_write_30 : decode mX8_write.2.1 30 = .ok (.iconst 1, 1) := by decide +kernel
theorem dc_X8_write_31 : decode mX8_write.2.1 31 = .ok (.isub, 1) := by decide +kernel
theorem dc_X8_write_32 : decode mX8_write.2.1 32 = .ok (.invokestatic 97, 3) := by decide +kernel
theorem dc_X8_write_35 : decode mX8_write.2.1 35 = .ok (.ifCond .ne 10, 3) := by decide +kernel
theorem dc_X8_write_38 : decode mX8_write.2.1 38 = .ok (.aload_n 0, 1) := by decide +kernel
theorem dc_X8_write_39 : decode mX8_write.2.1 39 = .ok (.ldc 82, 2) := by decide +kernel
theorem dc_X8_write_41 : decode mX8_write.2.1 41 = .ok (.invokevirtual 83, 3) := by decide +kernel
theorem dc_X8_write_44 : decode mX8_write.2.1 44 = .ok (.ireturn, 1) := by decide +kernel
theorem dc_X8_write_45 : decode mX8_write.2.1 45 = .ok (.aload_n 0, 1) := by decide +kernel
theorem dc_X8_write_46 : decode mX8_write.2.1 46 = .ok (.getfield 32, 3) := by decide +kernel
theorem dc_X8_write_49 : decode mX8_write.2.1 49 = .ok (.iload_n 1, 1) := by decide +kernel
theorem dc_X8_write_50 : decode mX8_write.2.1 50 = .ok (.aaload, 1) := by decide +kernel
theorem dc_X8_write_51 : decode mX8_write.2.1 51 = .ok (.iload_n 2, 1) := by decide +kernel
theorem dc_X8_write_52 : decode mX8_write.2.1 52 = .ok (.iload_n 3, 1) := by decide +kernel
theorem dc_X8_write_53 : decode mX8_write.2.1 53 = .ok (.invokevirtual 293, 3) := by decide +kernel
theorem dc_X8_write_56 : decode mX8_write.2.1 56 = .ok (.iconst 1, 1) := by decide +kernel
theorem dc_X8_write_57 : decode mX8_write.2.1 57 = .ok (.ireturn, 1) := by decide +kernel
theorem dc_X8_copy_0 : decode mX8_copy.2.1 0 = .ok (.aload_n 0, 1) := by decide +kernel
theorem dc_X8_copy_1 : decode mX8_copy.2.1 1 = .ok (.iload_n 1, 1) := by decide +kernel
theorem dc_X8_copy_2 : decode mX8_copy.2.1 2 = .ok (.iload_n 3, 1) := by decide +kernel
theorem dc_X8_copy_3 : decode mX8_copy.2.1 3 = .ok (.invokevirtual 296, 3) := by decide +kernel
theorem dc_X8_copy_6 : decode mX8_copy.2.1 6 = .ok (.istore 6, 2) := by decide +kernel
theorem dc_X8_copy_8 : decode mX8_copy.2.1 8 = .ok (.iload 6, 2) := by decide +kernel
theorem dc_X8_copy_10 : decode mX8_copy.2.1 10 = .ok (.ifCond .eq 10, 3) := by decide +kernel
theorem dc_X8_copy_13 : decode mX8_copy.2.1 13 = .ok (.aload_n 0, 1) := by decide +kernel
theorem dc_X8_copy_14 : decode mX8_copy.2.1 14 = .ok (.iload 6, 2) := by decide +kernel
theorem dc_X8_copy_16 : decode mX8_copy.2.1 16 = .ok (.invokevirtual 83, 3) := by decide +kernel
theorem dc_X8_copy_19 : decode mX8_copy.2.1 19 = .ok (.ireturn, 1) := by decide +kernel
theorem dc_X8_copy_20 : decode mX8_copy.2.1 20 = .ok (.aload_n 0, 1) := by decide +kernel
theorem dc_X8_copy_21 : decode mX8_copy.2.1 21 = .ok (.getfield 32, 3) := by decide +kernel
theorem dc_X8_copy_24 : decode mX8_copy.2.1 24 = .ok (.iload_n 1, 1) := by decide +kernel
theorem dc_X8_copy_25 : decode mX8_copy.2.1 25 = .ok (.aaload, 1) := by decide +kernel
theorem dc_X8_copy_26 : decode mX8_copy.2.1 26 = .ok (.getfield 299, 3) := by decide +kernel
theorem dc_X8_copy_29 : decode mX8_copy.2.1 29 = .ok (.aload_n 0, 1) := by decide +kernel
theorem dc_X8_copy_30 : decode mX8_copy.2.1 30 = .ok (.getfield 32, 3) := by decide +kernel
theorem dc_X8_copy_33 : decode mX8_copy.2.1 33 = .ok (.iload_n 3, 1) := by decide +kernel
theorem dc_X8_copy_34 : decode mX8_copy.2.1 34 = .ok (.aaload, 1) := by decide +kernel
theorem dc_X8_copy_35 : decode mX8_copy.2.1 35 = .ok (.getfield 299, 3) := by decide +kernel
theorem dc_X8_copy_38 : decode mX8_copy.2.1 38 = .ok (.if_icmp .eq 11, 3) := by decide +kernel
theorem dc_X8_copy_41 : decode mX8_copy.2.1 41 = .ok (.aload_n 0, 1) := by decide +kernel
theorem dc_X8_copy_42 : decode mX8_copy.2.1 42 = .ok (.ldc_w 287, 3) := by decide +kernel
theorem dc_X8_copy_45 : decode mX8_copy.2.1 45 = .ok (.invokevirtual 83, 3) := by decide +kernel
theorem dc_X8_copy_48 : decode mX8_copy.2.1 48 = .ok (.ireturn, 1) := by decide +kernel
theorem dc_X8_copy_49 : decode mX8_copy.2.1 49 = .ok (.aload_n 0, 1) := by decide +kernel
theorem dc_X8_copy_50 : decode mX8_copy.2.1 50 = .ok (.getfield 32, 3) := by decide +kernel
theorem dc_X8_copy_53 : decode mX8_copy.2.1 53 = .ok (.iload_n 1, 1) := by decide +kernel
theorem dc_X8_copy_54 : decode mX8_copy.2.1 54 = .ok (.aaload, 1) := by decide +kernel
theorem dc_X8_copy_55 : decode mX8_copy.2.1 55 = .ok (.iload_n 2, 1) := by decide +kernel
theorem dc_X8_copy_56 : decode mX8_copy.2.1 56 = .ok (.iload 5, 2) := by decide +kernel
theorem dc_X8_copy_58 : decode mX8_copy.2.1 58 = .ok (.invokevirtual 302, 3) := by decide +kernel
theorem dc_X8_copy_61 : decode mX8_copy.2.1 61 = .ok (.ifCond .eq 19, 3) := by decide +kernel
theorem dc_X8_copy_64 : decode mX8_copy.2.1 64 = .ok (.aload_n 0, 1) := by decide +kernel
theorem dc_X8_copy_65 : decode mX8_copy.2.1 65 = .ok (.getfield 32, 3) := by decide +kernel
theorem dc_X8_copy_68 : decode mX8_copy.2.1 68 = .ok (.iload_n 3, 1) := by decide +kernel
theorem dc_X8_copy_69 : decode mX8_copy.2.1 69 = .ok (.aaload, 1) := by decide +kernel
theorem dc_X8_copy_70 : decode mX8_copy.2.1 70 = .ok (.iload 4, 2) := by decide +kernel
theorem dc_X8_copy_72 : decode mX8_copy.2.1 72 = .ok (.iload 5, 2) := by decide +kernel
theorem dc_X8_copy_74 : decode mX8_copy.2.1 74 = .ok (.invokevirtual 302, 3) := by decide +kernel
theorem dc_X8_copy_77 : decode mX8_copy.2.1 77 = .ok (.ifCond .ne 10, 3) := by decide +kernel
theorem dc_X8_copy_80 : decode mX8_copy.2.1 80 = .ok (.aload_n 0, 1) := by decide +kernel
theorem dc_X8_copy_81 : decode mX8_copy.2.1 81 = .ok (.ldc 82, 2) := by decide +kernel
theorem dc_X8_copy_83 : decode mX8_copy.2.1 83 = .ok (.invokevirtual 83, 3) := by decide +kernel
theorem dc_X8_copy_86 : decode mX8_copy.2.1 86 = .ok (.ireturn, 1) := by decide +kernel
theorem dc_X8_copy_87 : decode mX8_copy.2.1 87 = .ok (.aload_n 0, 1) := by decide +kernel
theorem dc_X8_copy_88 : decode mX8_copy.2.1 88 = .ok (.getfield 32, 3) := by decide +kernel
theorem dc_X8_copy_91 : decode mX8_copy.2.1 91 = .ok (.iload_n 1, 1) := by decide +kernel
theorem dc_X8_copy_92 : decode mX8_copy.2.1 92 = .ok (.aaload, 1) := by decide +kernel
theorem dc_X8_copy_93 : decode mX8_copy.2.1 93 = .ok (.getfield 305, 3) := by decide +kernel
theorem dc_X8_copy_96 : decode mX8_copy.2.1 96 = .ok (.iload_n 2, 1) := by decide +kernel
theorem dc_X8_copy_97 : decode mX8_copy.2.1 97 = .ok (.aload_n 0, 1) := by decide +kernel
theorem dc_X8_copy_98 : decode mX8_copy.2.1 98 = .ok (.getfield 32, 3) := by decide +kernel
theorem dc_X8_copy_101 : decode mX8_copy.2.1 101 = .ok (.iload_n 3, 1) := by decide +kernel
theorem dc_X8_copy_102 : decode mX8_copy.2.1 102 = .ok (.aaload, 1) := by decide +kernel
theorem dc_X8_copy_103 : decode mX8_copy.2.1 103 = .ok (.getfield 305, 3) := by decide +kernel
theorem dc_X8_copy_106 : decode mX8_copy.2.1 106 = .ok (.iload 4, 2) := by decide +kernel
theorem dc_X8_copy_108 : decode mX8_copy.2.1 108 = .ok (.iload 5, 2) := by decide +kernel
theorem dc_X8_copy_110 : decode mX8_copy.2.1 110 = .ok (.invokestatic 308, 3) := by decide +kernel
theorem dc_X8_copy_113 : decode mX8_copy.2.1 113 = .ok (.iload 5, 2) := by decide +kernel
theorem dc_X8_copy_115 : decode mX8_copy.2.1 115 = .ok (.ireturn, 1) := by decide +kernel
theorem dc_X8_load_0 : decode mX8_load.2.1 0 = .ok (.aload_n 0, 1) := by decide +kernel
theorem dc_X8_load_1 : decode mX8_load.2.1 1 = .ok (.iload_n 1, 1) := by decide +kernel
theorem dc_X8_load_2 : decode mX8_load.2.1 2 = .ok (.invokevirtual 228, 3) := by decide +kernel
theorem dc_X8_load_5 : decode mX8_load.2.1 5 = .ok (.istore_n 2, 1) := by decide +kernel
theorem dc_X8_load_6 : decode mX8_load.2.1 6 = .ok (.iload_n 2, 1) := by decide +kernel
theorem dc_X8_load_7 : decode mX8_load.2.1 7 = .ok (.ifCond .eq 9, 3) := by decide +kernel
theorem dc_X8_load_10 : decode mX8_load.2.1 10 = .ok (.aload_n 0, 1) := by decide +kernel
theorem dc_X8_load_11 : decode mX8_load.2.1 11 = .ok (.iload_n 2, 1) := by decide +kernel
theorem dc_X8_load_12 : decode mX8_load.2.1 12 = .ok (.invokevirtual 83, 3) := by decide +kernel
theorem dc_X8_load_15 : decode mX8_load.2.1 15 = .ok (.ireturn, 1) := by decide +kernel
theorem dc_X8_load_16 : decode mX8_load.2.1 16 = .ok (.iconst 0, 1) := by decide +kernel
theorem dc_X8_load_17 : decode mX8_load.2.1 17 = .ok (.istore_n 3, 1) := by decide +kernel
theorem dc_X8_load_18 : decode mX8_load.2.1 18 = .ok (.iload_n 3, 1) := by decide +kernel
theorem dc_X8_load_19 : decode mX8_load.2.1 19 = .ok (.aload_n 0, 1) := by decide +kernel
theorem dc_X8_load_20 : decode mX8_load.2.1 20 = .ok (.getfield 32, 3) := by decide +kernel
theorem dc_X8_load_23 : decode mX8_load.2.1 23 = .ok (.iload_n 1, 1) := by decide +kernel
theorem dc_X8_load_24 : decode mX8_load.2.1 24 = .ok (.aaload, 1) := by decide +kernel
theorem dc_X8_load_25 : decode mX8_load.2.1 25 = .ok (.getfield 292, 3) := by decide +kernel
theorem dc_X8_load_28 : decode mX8_load.2.1 28 = .ok (.if_icmp .ge 62, 3) := by decide +kernel
theorem dc_X8_load_31 : decode mX8_load.2.1 31 = .ok (.aload_n 0, 1) := by decide +kernel
theorem dc_X8_load_32 : decode mX8_load.2.1 32 = .ok (.iload_n 3, 1) := by decide +kernel
theorem dc_X8_load_33 : decode mX8_load.2.1 33 = .ok (.invokevirtual 119, 3) := by decide +kernel
theorem dc_X8_load_36 : decode mX8_load.2.1 36 = .ok (.ifCond .eq 54, 3) := by decide +kernel
theorem dc_X8_load_39 : decode mX8_load.2.1 39 = .ok (.aload_n 0, 1) := by decide +kernel
theorem dc_X8_load_40 : decode mX8_load.2.1 40 = .ok (.getfield 32, 3) := by decide +kernel
theorem dc_X8_load_43 : decode mX8_load.2.1 43 = .ok (.iload_n 1, 1) := by decide +kernel
theorem dc_X8_load_44 : decode mX8_load.2.1 44 = .ok (.aaload, 1) := by decide +kernel
theorem dc_X8_load_45 : decode mX8_load.2.1 45 = .ok (.getfield 305, 3) := by decide +kernel
theorem dc_X8_load_48 : decode mX8_load.2.1 48 = .ok (.iload_n 3, 1) := by decide +kernel
theorem dc_X8_load_49 : decode mX8_load.2.1 49 = .ok (.iaload, 1) := by decide +kernel
theorem dc_X8_load_50 : decode mX8_load.2.1 50 = .ok (.iconst 0, 1) := by decide +kernel
theorem dc_X8_load_51 : decode mX8_load.2.1 51 = .ok (.iconst 5, 1) := by decide +kernel
theorem dc_X8_load_52 : decode mX8_load.2.1 52 = .ok (.invokestatic 97, 3) := by decide +kernel
theorem dc_X8_load_55 : decode mX8_load.2.1 55 = .ok (.ifCond .eq 35, 3) := by decide +kernel
theorem dc_X8_load_58 : decode mX8_load.2.1 58 = .ok (.aload_n 0, 1) := by decide +kernel
theorem dc_X8_load_59 : decode mX8_load.2.1 59 = .ok (.getfield 12, 3) := by decide +kernel
theorem dc_X8_load_62 : decode mX8_load.2.1 62 = .ok (.getfield 101, 3) := by decide +kernel
theorem dc_X8_load_65 : decode mX8_load.2.1 65 = .ok (.getfield 123, 3) := by decide +kernel
theorem dc_X8_load_68 : decode mX8_load.2.1 68 = .ok (.iload_n 3, 1) := by decide +kernel
theorem dc_X8_load_69 : decode mX8_load.2.1 69 = .ok (.aaload, 1) := by decide +kernel
theorem dc_X8_load_70 : decode mX8_load.2.1 70 = .ok (.aload_n 0, 1) := by decide +kernel
theorem dc_X8_load_71 : decode mX8_load.2.1 71 = .ok (.getfield 32, 3) := by decide +kernel
theorem dc_X8_load_74 : decode mX8_load.2.1 74 = .ok (.iload_n 1, 1) := by decide +kernel
theorem dc_X8_load_75 : decode mX8_load.2.1 75 = .ok (.aaload, 1) := by decide +kernel
theorem dc_X8_load_76 : decode mX8_load.2.1 76 = .ok (.getfield 305, 3) := by decide +kernel
theorem dc_X8_load_79 : decode mX8_load.2.1 79 = .ok (.iload_n 3, 1) := by decide +kernel
theorem dc_X8_load_80 : decode mX8_load.2.1 80 = .ok (.iaload, 1) := by decide +kernel
theorem dc_X8_load_81 : decode mX8_load.2.1 81 = .ok (.putfield 314, 3) := by decide +kernel
theorem dc_X8_load_84 : decode mX8_load.2.1 84 = .ok (.iinc 3 1, 3) := by decide +kernel
theorem dc_X8_load_87 : decode mX8_load.2.1 87 = .ok (.goto (-69), 3) := by decide +kernel
theorem dc_X8_load_90 : decode mX8_load.2.1 90 = .ok (.iload_n 3, 1) := by decide +kernel
theorem dc_X8_load_91 : decode mX8_load.2.1 91 = .ok (.ireturn, 1) := by decide +kernel
theorem dc_X8_judge_0 : decode mX8_judge.2.1 0 = .ok (.aload_n 0, 1) := by decide +kernel
theorem dc_X8_judge_1 : decode mX8_judge.2.1 1 = .ok (.iload_n 1, 1) := by decide +kernel
theorem dc_X8_judge_2 : decode mX8_judge.2.1 2 = .ok (.invokevirtual 228, 3) := by decide +kernel
theorem dc_X8_judge_5 : decode mX8_judge.2.1 5 = .ok (.istore_n 2, 1) := by decide +kernel
theorem dc_X8_judge_6 : decode mX8_judge.2.1 6 = .ok (.iload_n 2, 1) := by decide +kernel
theorem dc_X8_judge_7 : decode mX8_judge.2.1 7 = .ok (.ifCond .eq 9, 3) := by decide +kernel
theorem dc_X8_judge_10 : decode mX8_judge.2.1 10 = .ok (.aload_n 0, 1) := by decide +kernel
theorem dc_X8_judge_11 : decode mX8_judge.2.1 11 = .ok (.iload_n 2, 1) := by decide +kernel
theorem dc_X8_judge_12 : decode mX8_judge.2.1 12 = .ok (.invokevirtual 83, 3) := by decide +kernel
theorem dc_X8_judge_15 : decode mX8_judge.2.1 15 = .ok (.ireturn, 1) := by decide +kernel
theorem dc_X8_judge_16 : decode mX8_judge.2.1 16 = .ok (.iconst 0, 1) := by decide +kernel
theorem dc_X8_judge_17 : decode mX8_judge.2.1 17 = .ok (.istore_n 3, 1) := by decide +kernel
theorem dc_X8_judge_18 : decode mX8_judge.2.1 18 = .ok (.iload_n 3, 1) := by decide +kernel
theorem dc_X8_judge_19 : decode mX8_judge.2.1 19 = .ok (.aload_n 0, 1) := by decide +kernel
theorem dc_X8_judge_20 : decode mX8_judge.2.1 20 = .ok (.getfield 32, 3) := by decide +kernel
theorem dc_X8_judge_23 : decode mX8_judge.2.1 23 = .ok (.iload_n 1, 1) := by decide +kernel
theorem dc_X8_judge_24 : decode mX8_judge.2.1 24 = .ok (.aaload, 1) := by decide +kernel
theorem dc_X8_judge_25 : decode mX8_judge.2.1 25 = .ok (.getfield 292, 3) := by decide +kernel
theorem dc_X8_judge_28 : decode mX8_judge.2.1 28 = .ok (.if_icmp .ge 50, 3) := by decide +kernel
theorem dc_X8_judge_31 : decode mX8_judge.2.1 31 = .ok (.aload_n 0, 1) := by decide +kernel
theorem dc_X8_judge_32 : decode mX8_judge.2.1 32 = .ok (.iload_n 3, 1) := by decide +kernel
theorem dc_X8_judge_33 : decode mX8_judge.2.1 33 = .ok (.invokevirtual 119, 3) := by decide +kernel
theorem dc_X8_judge_36 : decode mX8_judge.2.1 36 = .ok (.ifCond .eq 32, 3) := by decide +kernel
theorem dc_X8_judge_39 : decode mX8_judge.2.1 39 = .ok (.aload_n 0, 1) := by decide +kernel
theorem dc_X8_judge_40 : decode mX8_judge.2.1 40 = .ok (.getfield 12, 3) := by decide +kernel
theorem dc_X8_judge_43 : decode mX8_judge.2.1 43 = .ok (.getfield 101, 3) := by decide +kernel
theorem dc_X8_judge_46 : decode mX8_judge.2.1 46 = .ok (.getfield 123, 3) := by decide +kernel
theorem dc_X8_judge_49 : decode mX8_judge.2.1 49 = .ok (.iload_n 3, 1) := by decide +kernel
theorem dc_X8_judge_50 : decode mX8_judge.2.1 50 = .ok (.aaload, 1) := by decide +kernel
theorem dc_X8_judge_51 : decode mX8_judge.2.1 51 = .ok (.getfield 197, 3) := by decide +kernel
theorem dc_X8_judge_54 : decode mX8_judge.2.1 54 = .ok (.aload_n 0, 1) := by decide +kernel
theorem dc_X8_judge_55 : decode mX8_judge.2.1 55 = .ok (.getfield 32, 3) := by decide +kernel
theorem dc_X8_judge_58 : decode mX8_judge.2.1 58 = .ok (.iload_n 1, 1) := by decide +kernel
theorem dc_X8_judge_59 : decode mX8_judge.2.1 59 = .ok (.aaload, 1) := by decide +kernel
theorem dc_X8_judge_60 : decode mX8_judge.2.1 60 = .ok (.getfield 305, 3) := by decide +kernel
theorem dc_X8_judge_63 : decode mX8_judge.2.1 63 = .ok (.iload_n 3, 1) := by decide +kernel
theorem dc_X8_judge_64 : decode mX8_judge.2.1 64 = .ok (.iaload, 1) := by decide +kernel
theorem dc_X8_judge_65 : decode mX8_judge.2.1 65 = .ok (.if_icmp .eq 7, 3) := by decide +kernel
theorem dc_X8_judge_68 : decode mX8_judge.2.1 68 = .ok (.iconst 1, 1) := by decide +kernel
theorem dc_X8_judge_69 : decode mX8_judge.2.1 69 = .ok (.iload_n 3, 1) := by decide +kernel
theorem dc_X8_judge_70 : decode mX8_judge.2.1 70 = .ok (.iadd, 1) := by decide +kernel
theorem dc_X8_judge_71 : decode mX8_judge.2.1 71 = .ok (.ireturn, 1) := by decide +kernel
theorem dc_X8_judge_72 : decode mX8_judge.2.1 72 = .ok (.iinc 3 1, 3) := by decide +kernel
theorem dc_X8_judge_75 : decode mX8_judge.2.1 75 = .ok (.goto (-57), 3) := by decide +kernel
theorem dc_X8_judge_78 : decode mX8_judge.2.1 78 = .ok (.iconst 0, 1) := by decide +kernel
theorem dc_X8_judge_79 : decode mX8_judge.2.1 79 = .ok (.ireturn, 1) := by decide +kernel
theorem dc_X8_image_0 : decode mX8_image.2.1 0 = .ok (.aload_n 0, 1) := by decide +kernel
theorem dc_X8_image_1 : decode mX8_image.2.1 1 = .ok (.getfield 16, 3) := by decide +kernel
theorem dc_X8_image_4 : decode mX8_image.2.1 4 = .ok (.aload_n 0, 1) := by decide +kernel
theorem dc_X8_image_5 : decode mX8_image.2.1 5 = .ok (.getfield 12, 3) := by decide +kernel
theorem dc_X8_image_8 : decode mX8_image.2.1 8 = .ok (.invokevirtual 273, 3) := by decide +kernel
theorem dc_X8_image_11 : decode mX8_image.2.1 11 = .ok (.aload_n 0, 1) := by decide +kernel
theorem dc_X8_image_12 : decode mX8_image.2.1 12 = .ok (.iconst 1, 1) := by decide +kernel
theorem dc_X8_image_13 : decode mX8_image.2.1 13 = .ok (.putfield 19, 3) := by decide +kernel
theorem dc_X8_image_16 : decode mX8_image.2.1 16 = .ok (.iconst 1, 1) := by decide +kernel
theorem dc_X8_image_17 : decode mX8_image.2.1 17 = .ok (.ireturn, 1) := by decide +kernel
theorem dc_X8_undo_0 : decode mX8_undo.2.1 0 = .ok (.aload_n 0, 1) := by decide +kernel
theorem dc_X8_undo_1 : decode mX8_undo.2.1 1 = .ok (.getfield 19, 3) := by decide +kernel
theorem dc_X8_undo_4 : decode mX8_undo.2.1 4 = .ok (.ifCond .ne 10, 3) := by decide +kernel
theorem dc_X8_undo_7 : decode mX8_undo.2.1 7 = .ok (.aload_n 0, 1) := by decide +kernel
theorem dc_X8_undo_8 : decode mX8_undo.2.1 8 = .ok (.ldc 196, 2) := by decide +kernel
theorem dc_X8_undo_10 : decode mX8_undo.2.1 10 = .ok (.invokevirtual 83, 3) := by decide +kernel
theorem dc_X8_undo_13 : decode mX8_undo.2.1 13 = .ok (.ireturn, 1) := by decide +kernel
theorem dc_X8_undo_14 : decode mX8_undo.2.1 14 = .ok (.aload_n 0, 1) := by decide +kernel
theorem dc_X8_undo_15 : decode mX8_undo.2.1 15 = .ok (.getfield 12, 3) := by decide +kernel
theorem dc_X8_undo_18 : decode mX8_undo.2.1 18 = .ok (.aload_n 0, 1) := by decide +kernel
theorem dc_X8_undo_19 : decode mX8_undo.2.1 19 = .ok (.getfield 16, 3) := by decide +kernel
theorem dc_X8_undo_22 : decode mX8_undo.2.1 22 = .ok (.invokevirtual 273, 3) := by decide +kernel
theorem dc_X8_undo_25 : decode mX8_undo.2.1 25 = .ok (.aload_n 0, 1) := by decide +kernel
theorem dc_X8_undo_26 : decode mX8_undo.2.1 26 = .ok (.getfield 12, 3) := by decide +kernel
theorem dc_X8_undo_29 : decode mX8_undo.2.1 29 = .ok (.getfield 87, 3) := by decide +kernel
theorem dc_X8_undo_32 : decode mX8_undo.2.1 32 = .ok (.getfield 127, 3) := by decide +kernel
theorem dc_X8_undo_35 : decode mX8_undo.2.1 35 = .ok (.ireturn, 1) := by decide +kernel
theorem dc_X8_tear_0 : decode mX8_tear.2.1 0 = .ok (.aload_n 0, 1) := by decide +kernel
theorem dc_X8_tear_1 : decode mX8_tear.2.1 1 = .ok (.getfield 19, 3) := by decide +kernel
theorem dc_X8_tear_4 : decode mX8_tear.2.1 4 = .ok (.ifCond .eq 7, 3) := by decide +kernel
theorem dc_X8_tear_7 : decode mX8_tear.2.1 7 = .ok (.iconst 1, 1) := by decide +kernel
theorem dc_X8_tear_8 : decode mX8_tear.2.1 8 = .ok (.goto 4, 3) := by decide +kernel
theorem dc_X8_tear_11 : decode mX8_tear.2.1 11 = .ok (.iconst 0, 1) := by decide +kernel
theorem dc_X8_tear_12 : decode mX8_tear.2.1 12 = .ok (.istore_n 1, 1) := by decide +kernel
theorem dc_X8_tear_13 : decode mX8_tear.2.1 13 = .ok (.aload_n 0, 1) := by decide +kernel
theorem dc_X8_tear_14 : decode mX8_tear.2.1 14 = .ok (.iconst 0, 1) := by decide +kernel
theorem dc_X8_tear_15 : decode mX8_tear.2.1 15 = .ok (.putfield 19, 3) := by decide +kernel
theorem dc_X8_tear_18 : decode mX8_tear.2.1 18 = .ok (.iload_n 1, 1) := by decide +kernel
theorem dc_X8_tear_19 : decode mX8_tear.2.1 19 = .ok (.ireturn, 1) := by decide +kernel
theorem dc_X8_count_0 : decode mX8_count.2.1 0 = .ok (.iload_n 1, 1) := by decide +kernel
theorem dc_X8_count_1 : decode mX8_count.2.1 1 = .ok (.tableswitch 126 0 7 #[47, 58, 69, 80, 91, 102, 110, 118], 47) := by decide +kernel
theorem dc_X8_count_48 : decode mX8_count.2.1 48 = .ok (.aload_n 0, 1) := by decide +kernel
theorem dc_X8_count_49 : decode mX8_count.2.1 49 = .ok (.getfield 12, 3) := by decide +kernel
theorem dc_X8_count_52 : decode mX8_count.2.1 52 = .ok (.getfield 87, 3) := by decide +kernel
theorem dc_X8_count_55 : decode mX8_count.2.1 55 = .ok (.getfield 127, 3) := by decide +kernel
theorem dc_X8_count_58 : decode mX8_count.2.1 58 = .ok (.ireturn, 1) := by decide +kernel
theorem dc_X8_count_59 : decode mX8_count.2.1 59 = .ok (.aload_n 0, 1) := by decide +kernel
theorem dc_X8_count_60 : decode mX8_count.2.1 60 = .ok (.getfield 12, 3) := by decide +kernel
theorem dc_X8_count_63 : decode mX8_count.2.1 63 = .ok (.getfield 101, 3) := by decide +kernel
theorem dc_X8_count_66 : decode mX8_count.2.1 66 = .ok (.getfield 115, 3) := by decide +kernel
theorem dc_X8_count_69 : decode mX8_count.2.1 69 = .ok (.ireturn, 1) := by decide +kernel
theorem dc_X8_count_70 : decode mX8_count.2.1 70 = .ok (.aload_n 0, 1) := by decide +kernel
theorem dc_X8_count_71 : decode mX8_count.2.1 71 = .ok (.getfield 12, 3) := by decide +kernel
theorem dc_X8_count_74 : decode mX8_count.2.1 74 = .ok (.getfield 101, 3) := by decide +kernel
theorem dc_X8_count_77 : decode mX8_count.2.1 77 = .ok (.invokevirtual 151, 3) := by decide +kernel
theorem dc_X8_count_80 : decode mX8_count.2.1 80 = .ok (.ireturn, 1) := by decide +kernel
theorem dc_X8_count_81 : decode mX8_count.2.1 81 = .ok (.aload_n 0, 1) := by decide +kernel
theorem dc_X8_count_82 : decode mX8_count.2.1 82 = .ok (.getfield 12, 3) := by decide +kernel
theorem dc_X8_count_85 : decode mX8_count.2.1 85 = .ok (.getfield 101, 3) := by decide +kernel
theorem dc_X8_count_88 : decode mX8_count.2.1 88 = .ok (.invokevirtual 155, 3) := by decide +kernel
theorem dc_X8_count_91 : decode mX8_count.2.1 91 = .ok (.ireturn, 1) := by decide +kernel
theorem dc_X8_count_92 : decode mX8_count.2.1 92 = .ok (.aload_n 0, 1) := by decide +kernel
theorem dc_X8_count_93 : decode mX8_count.2.1 93 = .ok (.getfield 12, 3) := by decide +kernel
theorem dc_X8_count_96 : decode mX8_count.2.1 96 = .ok (.getfield 87, 3) := by decide +kernel
theorem dc_X8_count_99 : decode mX8_count.2.1 99 = .ok (.getfield 167, 3) := by decide +kernel
theorem dc_X8_count_102 : decode mX8_count.2.1 102 = .ok (.ireturn, 1) := by decide +kernel
theorem dc_X8_count_103 : decode mX8_count.2.1 103 = .ok (.aload_n 0, 1) := by decide +kernel
theorem dc_X8_count_104 : decode mX8_count.2.1 104 = .ok (.getfield 26, 3) := by decide +kernel
theorem dc_X8_count_107 : decode mX8_count.2.1 107 = .ok (.getfield 268, 3) := by decide +kernel
theorem dc_X8_count_110 : decode mX8_count.2.1 110 = .ok (.ireturn, 1) := by decide +kernel
theorem dc_X8_count_111 : decode mX8_count.2.1 111 = .ok (.aload_n 0, 1) := by decide +kernel
theorem dc_X8_count_112 : decode mX8_count.2.1 112 = .ok (.getfield 12, 3) := by decide +kernel
theorem dc_X8_count_115 : decode mX8_count.2.1 115 = .ok (.getfield 265, 3) := by decide +kernel
theorem dc_X8_count_118 : decode mX8_count.2.1 118 = .ok (.ireturn, 1) := by decide +kernel
theorem dc_X8_count_119 : decode mX8_count.2.1 119 = .ok (.aload_n 0, 1) := by decide +kernel
theorem dc_X8_count_120 : decode mX8_count.2.1 120 = .ok (.getfield 12, 3) := by decide +kernel
theorem dc_X8_count_123 : decode mX8_count.2.1 123 = .ok (.invokevirtual 317, 3) := by decide +kernel
theorem dc_X8_count_126 : decode mX8_count.2.1 126 = .ok (.ireturn, 1) := by decide +kernel
theorem dc_X8_count_127 : decode mX8_count.2.1 127 = .ok (.aload_n 0, 1) := by decide +kernel
theorem dc_X8_count_128 : decode mX8_count.2.1 128 = .ok (.ldc 82, 2) := by decide +kernel
theorem dc_X8_count_130 : decode mX8_count.2.1 130 = .ok (.invokevirtual 83, 3) := by decide +kernel
theorem dc_X8_count_133 : decode mX8_count.2.1 133 = .ok (.ireturn, 1) := by decide +kernel
theorem dc_X8_status_0 : decode mX8_status.2.1 0 = .ok (.iload_n 1, 1) := by decide +kernel
theorem dc_X8_status_1 : decode mX8_status.2.1 1 = .ok (.iconst (-1), 1) := by decide +kernel
theorem dc_X8_status_2 : decode mX8_status.2.1 2 = .ok (.bipush 6, 2) := by decide +kernel
theorem dc_X8_status_4 : decode mX8_status.2.1 4 = .ok (.invokestatic 97, 3) := by decide +kernel
theorem dc_X8_status_7 : decode mX8_status.2.1 7 = .ok (.ifCond .ne 10, 3) := by decide +kernel
theorem dc_X8_status_10 : decode mX8_status.2.1 10 = .ok (.aload_n 0, 1) := by decide +kernel
theorem dc_X8_status_11 : decode mX8_status.2.1 11 = .ok (.ldc 82, 2) := by decide +kernel
theorem dc_X8_status_13 : decode mX8_status.2.1 13 = .ok (.invokevirtual 83, 3) := by decide +kernel
theorem dc_X8_status_16 : decode mX8_status.2.1 16 = .ok (.ireturn, 1) := by decide +kernel
theorem dc_X8_status_17 : decode mX8_status.2.1 17 = .ok (.iload_n 1, 1) := by decide +kernel
theorem dc_X8_status_18 : decode mX8_status.2.1 18 = .ok (.ifCond .lt 10, 3) := by decide +kernel
theorem dc_X8_status_21 : decode mX8_status.2.1 21 = .ok (.aload_n 0, 1) := by decide +kernel
theorem dc_X8_status_22 : decode mX8_status.2.1 22 = .ok (.getfield 36, 3) := by decide +kernel
theorem dc_X8_status_25 : decode mX8_status.2.1 25 = .ok (.iload_n 1, 1) := by decide +kernel
theorem dc_X8_status_26 : decode mX8_status.2.1 26 = .ok (.iaload, 1) := by decide +kernel
theorem dc_X8_status_27 : decode mX8_status.2.1 27 = .ok (.ireturn, 1) := by decide +kernel
theorem dc_X8_status_28 : decode mX8_status.2.1 28 = .ok (.iconst 0, 1) := by decide +kernel
theorem dc_X8_status_29 : decode mX8_status.2.1 29 = .ok (.istore_n 2, 1) := by decide +kernel
theorem dc_X8_status_30 : decode mX8_status.2.1 30 = .ok (.iconst 0, 1) := by decide +kernel
theorem dc_X8_status_31 : decode mX8_status.2.1 31 = .ok (.istore_n 3, 1) := by decide +kernel
theorem dc_X8_status_32 : decode mX8_status.2.1 32 = .ok (.iload_n 3, 1) := by decide +kernel
theorem dc_X8_status_33 : decode mX8_status.2.1 33 = .ok (.bipush 7, 2) := by decide +kernel
theorem dc_X8_status_35 : decode mX8_status.2.1 35 = .ok (.if_icmp .ge 18, 3) := by decide +kernel
theorem dc_X8_status_38 : decode mX8_status.2.1 38 = .ok (.iload_n 2, 1) := by decide +kernel
theorem dc_X8_status_39 : decode mX8_status.2.1 39 = .ok (.aload_n 0, 1) := by decide +kernel
theorem dc_X8_status_40 : decode mX8_status.2.1 40 = .ok (.getfield 36, 3) := by decide +kernel
theorem dc_X8_status_43 : decode mX8_status.2.1 43 = .ok (.iload_n 3, 1) := by decide +kernel
theorem dc_X8_status_44 : decode mX8_status.2.1 44 = .ok (.iaload, 1) := by decide +kernel
theorem dc_X8_status_45 : decode mX8_status.2.1 45 = .ok (.iadd, 1) := by decide +kernel
theorem dc_X8_status_46 : decode mX8_status.2.1 46 = .ok (.istore_n 2, 1) := by decide +kernel
theorem dc_X8_status_47 : decode mX8_status.2.1 47 = .ok (.iinc 3 1, 3) := by decide +kernel
theorem dc_X8_status_50 : decode mX8_status.2.1 50 = .ok (.goto (-18), 3) := by decide +kernel
theorem dc_X8_status_53 : decode mX8_status.2.1 53 = .ok (.iload_n 2, 1) := by decide +kernel
theorem dc_X8_status_54 : decode mX8_status.2.1 54 = .ok (.ireturn, 1) := by decide +kernel
theorem dc_X8_found_0 : decode mX8_found.2.1 0 = .ok (.ldc 82, 2) := by decide +kernel
theorem dc_X8_found_2 : decode mX8_found.2.1 2 = .ok (.iload_n 1, 1) := by decide +kernel
theorem dc_X8_found_3 : decode mX8_found.2.1 3 = .ok (.isub, 1) := by decide +kernel
theorem dc_X8_found_4 : decode mX8_found.2.1 4 = .ok (.istore_n 2, 1) := by decide +kernel
theorem dc_X8_found_5 : decode mX8_found.2.1 5 = .ok (.iload_n 2, 1) := by decide +kernel
theorem dc_X8_found_6 : decode mX8_found.2.1 6 = .ok (.iconst 0, 1) := by decide +kernel
theorem dc_X8_found_7 : decode mX8_found.2.1 7 = .ok (.bipush 6, 2) := by decide +kernel
theorem dc_X8_found_9 : decode mX8_found.2.1 9 = .ok (.invokestatic 97, 3) := by decide +kernel
theorem dc_X8_found_12 : decode mX8_found.2.1 12 = .ok (.ifCond .eq 13, 3) := by decide +kernel
theorem dc_X8_found_15 : decode mX8_found.2.1 15 = .ok (.aload_n 0, 1) := by decide +kernel
theorem dc_X8_found_16 : decode mX8_found.2.1 16 = .ok (.getfield 36, 3) := by decide +kernel
theorem dc_X8_found_19 : decode mX8_found.2.1 19 = .ok (.iload_n 2, 1) := by decide +kernel
theorem dc_X8_found_20 : decode mX8_found.2.1 20 = .ok (.dup2, 1) := by decide +kernel
theorem dc_X8_found_21 : decode mX8_found.2.1 21 = .ok (.iaload, 1) := by decide +kernel
theorem dc_X8_found_22 : decode mX8_found.2.1 22 = .ok (.iconst 1, 1) := by decide +kernel
theorem dc_X8_found_23 : decode mX8_found.2.1 23 = .ok (.iadd, 1) := by decide +kernel
theorem dc_X8_found_24 : decode mX8_found.2.1 24 = .ok (.iastore, 1) := by decide +kernel
theorem dc_X8_found_25 : decode mX8_found.2.1 25 = .ok (.iload_n 1, 1) := by decide +kernel
theorem dc_X8_found_26 : decode mX8_found.2.1 26 = .ok (.ireturn, 1) := by decide +kernel
theorem dc_X8_within_0 : decode mX8_within.2.1 0 = .ok (.iload_n 0, 1) := by decide +kernel
theorem dc_X8_within_1 : decode mX8_within.2.1 1 = .ok (.iload_n 1, 1) := by decide +kernel
theorem dc_X8_within_2 : decode mX8_within.2.1 2 = .ok (.if_icmp .lt 12, 3) := by decide +kernel
theorem dc_X8_within_5 : decode mX8_within.2.1 5 = .ok (.iload_n 0, 1) := by decide +kernel
theorem dc_X8_within_6 : decode mX8_within.2.1 6 = .ok (.iload_n 2, 1) := by decide +kernel
theorem dc_X8_within_7 : decode mX8_within.2.1 7 = .ok (.if_icmp .gt 7, 3) := by decide +kernel
theorem dc_X8_within_10 : decode mX8_within.2.1 10 = .ok (.iconst 1, 1) := by decide +kernel
theorem dc_X8_within_11 : decode mX8_within.2.1 11 = .ok (.goto 4, 3) := by decide +kernel
theorem dc_X8_within_14 : decode mX8_within.2.1 14 = .ok (.iconst 0, 1) := by decide +kernel
theorem dc_X8_within_15 : decode mX8_within.2.1 15 = .ok (.ireturn, 1) := by decide +kernel
theorem dc_X8_isShip_0 : decode mX8_isShip.2.1 0 = .ok (.iload_n 1, 1) := by decide +kernel
theorem dc_X8_isShip_1 : decode mX8_isShip.2.1 1 = .ok (.iconst 0, 1) := by decide +kernel
theorem dc_X8_isShip_2 : decode mX8_isShip.2.1 2 = .ok (.aload_n 0, 1) := by decide +kernel
theorem dc_X8_isShip_3 : decode mX8_isShip.2.1 3 = .ok (.getfield 12, 3) := by decide +kernel
theorem dc_X8_isShip_6 : decode mX8_isShip.2.1 6 = .ok (.getfield 101, 3) := by decide +kernel
theorem dc_X8_isShip_9 : decode mX8_isShip.2.1 9 = .ok (.getfield 115, 3) := by decide +kernel
theorem dc_X8_isShip_12 : decode mX8_isShip.2.1 12 = .ok (.iconst 1, 1) := by decide +kernel
theorem dc_X8_isShip_13 : decode mX8_isShip.2.1 13 = .ok (.isub, 1) := by decide +kernel
theorem dc_X8_isShip_14 : decode mX8_isShip.2.1 14 = .ok (.invokestatic 97, 3) := by decide +kernel
theorem dc_X8_isShip_17 : decode mX8_isShip.2.1 17 = .ok (.ireturn, 1) := by decide +kernel
theorem dc_X8_troubleWith_0 : decode mX8_troubleWith.2.1 0 = .ok (.iload_n 1, 1) := by decide +kernel
theorem dc_X8_troubleWith_1 : decode mX8_troubleWith.2.1 1 = .ok (.iconst 0, 1) := by decide +kernel
theorem dc_X8_troubleWith_2 : decode mX8_troubleWith.2.1 2 = .ok (.iconst 3, 1) := by decide +kernel
theorem dc_X8_troubleWith_3 : decode mX8_troubleWith.2.1 3 = .ok (.invokestatic 97, 3) := by decide +kernel
theorem dc_X8_troubleWith_6 : decode mX8_troubleWith.2.1 6 = .ok (.ifCond .ne 6, 3) := by decide +kernel
theorem dc_X8_troubleWith_9 : decode mX8_troubleWith.2.1 9 = .ok (.ldc 82, 2) := by decide +kernel
theorem dc_X8_troubleWith_11 : decode mX8_troubleWith.2.1 11 = .ok (.ireturn, 1) := by decide +kernel
theorem dc_X8_troubleWith_12 : decode mX8_troubleWith.2.1 12 = .ok (.aload_n 0, 1) := by decide +kernel
theorem dc_X8_troubleWith_13 : decode mX8_troubleWith.2.1 13 = .ok (.getfield 32, 3) := by decide +kernel
theorem dc_X8_troubleWith_16 : decode mX8_troubleWith.2.1 16 = .ok (.iload_n 1, 1) := by decide +kernel
theorem dc_X8_troubleWith_17 : decode mX8_troubleWith.2.1 17 = .ok (.aaload, 1) := by decide +kernel
theorem dc_X8_troubleWith_18 : decode mX8_troubleWith.2.1 18 = .ok (.invokevirtual 320, 3) := by decide +kernel
theorem dc_X8_troubleWith_21 : decode mX8_troubleWith.2.1 21 = .ok (.ifCond .eq 9, 3) := by decide +kernel
theorem dc_X8_troubleWith_24 : decode mX8_troubleWith.2.1 24 = .ok (.ldc_w 283, 3) := by decide +kernel
theorem dc_X8_troubleWith_27 : decode mX8_troubleWith.2.1 27 = .ok (.goto 4, 3) := by decide +kernel
theorem dc_X8_troubleWith_30 : decode mX8_troubleWith.2.1 30 = .ok (.iconst 0, 1) := by decide +kernel
theorem dc_X8_troubleWith_31 : decode mX8_troubleWith.2.1 31 = .ok (.ireturn, 1) := by decide +kernel
theorem dc_X8_troubleWithEither_0 : decode mX8_troubleWithEither.2.1 0 = .ok (.iload_n 1, 1) := by decide +kernel
theorem dc_X8_troubleWithEither_1 : decode mX8_troubleWithEither.2.1 1 = .ok (.iconst 0, 1) := by decide +kernel
theorem dc_X8_troubleWithEither_2 : decode mX8_troubleWithEither.2.1 2 = .ok (.iconst 3, 1) := by decide +kernel
theorem dc_X8_troubleWithEither_3 : decode mX8_troubleWithEither.2.1 3 = .ok (.invokestatic 97, 3) := by decide +kernel
theorem dc_X8_troubleWithEither_6 : decode mX8_troubleWithEither.2.1 6 = .ok (.ifCond .eq 12, 3) := by decide +kernel
theorem dc_X8_troubleWithEither_9 : decode mX8_troubleWithEither.2.1 9 = .ok (.iload_n 2, 1) := by decide +kernel
theorem dc_X8_troubleWithEither_10 : decode mX8_troubleWithEither.2.1 10 = .ok (.iconst 0, 1) := by decide +kernel
theorem dc_X8_troubleWithEither_11 : decode mX8_troubleWithEither.2.1 11 = .ok (.iconst 3, 1) := by decide +kernel
theorem dc_X8_troubleWithEither_12 : decode mX8_troubleWithEither.2.1 12 = .ok (.invokestatic 97, 3) := by decide +kernel
theorem dc_X8_troubleWithEither_15 : decode mX8_troubleWithEither.2.1 15 = .ok (.ifCond .ne 6, 3) := by decide +kernel
theorem dc_X8_troubleWithEither_18 : decode mX8_troubleWithEither.2.1 18 = .ok (.ldc 82, 2) := by decide +kernel
theorem dc_X8_troubleWithEither_20 : decode mX8_troubleWithEither.2.1 20 = .ok (.ireturn, 1) := by decide +kernel
theorem dc_X8_troubleWithEither_21 : decode mX8_troubleWithEither.2.1 21 = .ok (.aload_n 0, 1) := by decide +kernel
theorem dc_X8_troubleWithEither_22 : decode mX8_troubleWithEither.2.1 22 = .ok (.getfield 32, 3) := by decide +kernel
theorem dc_X8_troubleWithEither_25 : decode mX8_troubleWithEither.2.1 25 = .ok (.iload_n 1, 1) := by decide +kernel
theorem dc_X8_troubleWithEither_26 : decode mX8_troubleWithEither.2.1 26 = .ok (.aaload, 1) := by decide +kernel
theorem dc_X8_troubleWithEither_27 : decode mX8_troubleWithEither.2.1 27 = .ok (.invokevirtual 320, 3) := by decide +kernel
theorem dc_X8_troubleWithEither_30 : decode mX8_troubleWithEither.2.1 30 = .ok (.ifCond .ne 15, 3) := by decide +kernel
theorem dc_X8_troubleWithEither_33 : decode mX8_troubleWithEither.2.1 33 = .ok (.aload_n 0, 1) := by decide +kernel
theorem dc_X8_troubleWithEither_34 : decode mX8_troubleWithEither.2.1 34 = .ok (.getfield 32, 3) := by decide +kernel
theorem dc_X8_troubleWithEither_37 : decode mX8_troubleWithEither.2.1 37 = .ok (.iload_n 2, 1) := by decide +kernel
theorem dc_X8_troubleWithEither_38 : decode mX8_troubleWithEither.2.1 38 = .ok (.aaload, 1) := by decide +kernel
theorem dc_X8_troubleWithEither_39 : decode mX8_troubleWithEither.2.1 39 = .ok (.invokevirtual 320, 3) := by decide +kernel
theorem dc_X8_troubleWithEither_42 : decode mX8_troubleWithEither.2.1 42 = .ok (.ifCond .eq 9, 3) := by decide +kernel
theorem dc_X8_troubleWithEither_45 : decode mX8_troubleWithEither.2.1 45 = .ok (.ldc_w 283, 3) := by decide +kernel
theorem dc_X8_troubleWithEither_48 : decode mX8_troubleWithEither.2.1 48 = .ok (.goto 4, 3) := by decide +kernel
theorem dc_X8_troubleWithEither_51 : decode mX8_troubleWithEither.2.1 51 = .ok (.iconst 0, 1) := by decide +kernel
theorem dc_X8_troubleWithEither_52 : decode mX8_troubleWithEither.2.1 52 = .ok (.ireturn, 1) := by decide +kernel
theorem dc_X8_sailTick_0 : decode mX8_sailTick.2.1 0 = .ok (.aload_n 1, 1) := by decide +kernel
theorem dc_X8_sailTick_1 : decode mX8_sailTick.2.1 1 = .ok (.aload_n 0, 1) := by decide +kernel
theorem dc_X8_sailTick_2 : decode mX8_sailTick.2.1 2 = .ok (.getfield 12, 3) := by decide +kernel
theorem dc_X8_sailTick_5 : decode mX8_sailTick.2.1 5 = .ok (.getfield 87, 3) := by decide +kernel
theorem dc_X8_sailTick_8 : decode mX8_sailTick.2.1 8 = .ok (.iload_n 2, 1) := by decide +kernel
theorem dc_X8_sailTick_9 : decode mX8_sailTick.2.1 9 = .ok (.invokevirtual 133, 3) := by decide +kernel
theorem dc_X8_sailTick_12 : decode mX8_sailTick.2.1 12 = .ok (.aload_n 0, 1) := by decide +kernel
theorem dc_X8_sailTick_13 : decode mX8_sailTick.2.1 13 = .ok (.getfield 12, 3) := by decide +kernel
theorem dc_X8_sailTick_16 : decode mX8_sailTick.2.1 16 = .ok (.getfield 87, 3) := by decide +kernel
theorem dc_X8_sailTick_19 : decode mX8_sailTick.2.1 19 = .ok (.iload_n 2, 1) := by decide +kernel
theorem dc_X8_sailTick_20 : decode mX8_sailTick.2.1 20 = .ok (.invokevirtual 323, 3) := by decide +kernel
theorem dc_X8_sailTick_23 : decode mX8_sailTick.2.1 23 = .ok (.invokevirtual 326, 3) := by decide +kernel
theorem dc_X8_sailTick_26 : decode mX8_sailTick.2.1 26 = .ok (.return_, 1) := by decide +kernel
theorem dc_X8_strandedWith_0 : decode mX8_strandedWith.2.1 0 = .ok (.aload_n 0, 1) := by decide +kernel
theorem dc_X8_strandedWith_1 : decode mX8_strandedWith.2.1 1 = .ok (.getfield 53, 3) := by decide +kernel
theorem dc_X8_strandedWith_4 : decode mX8_strandedWith.2.1 4 = .ok (.aload_n 0, 1) := by decide +kernel
theorem dc_X8_strandedWith_5 : decode mX8_strandedWith.2.1 5 = .ok (.getfield 12, 3) := by decide +kernel
theorem dc_X8_strandedWith_8 : decode mX8_strandedWith.2.1 8 = .ok (.getfield 101, 3) := by decide +kernel
theorem dc_X8_strandedWith_11 : decode mX8_strandedWith.2.1 11 = .ok (.getfield 123, 3) := by decide +kernel
theorem dc_X8_strandedWith_14 : decode mX8_strandedWith.2.1 14 = .ok (.iload_n 1, 1) := by decide +kernel
theorem dc_X8_strandedWith_15 : decode mX8_strandedWith.2.1 15 = .ok (.aaload, 1) := by decide +kernel
theorem dc_X8_strandedWith_16 : decode mX8_strandedWith.2.1 16 = .ok (.invokevirtual 175, 3) := by decide +kernel
theorem dc_X8_strandedWith_19 : decode mX8_strandedWith.2.1 19 = .ok (.aload_n 0, 1) := by decide +kernel
theorem dc_X8_strandedWith_20 : decode mX8_strandedWith.2.1 20 = .ok (.getfield 53, 3) := by decide +kernel
theorem dc_X8_strandedWith_23 : decode mX8_strandedWith.2.1 23 = .ok (.iload_n 2, 1) := by decide +kernel
theorem dc_X8_strandedWith_24 : decode mX8_strandedWith.2.1 24 = .ok (.iload_n 3, 1) := by decide +kernel
theorem dc_X8_strandedWith_25 : decode mX8_strandedWith.2.1 25 = .ok (.invokevirtual 142, 3) := by decide +kernel
theorem dc_X8_strandedWith_28 : decode mX8_strandedWith.2.1 28 = .ok (.aload_n 0, 1) := by decide +kernel
theorem dc_X8_strandedWith_29 : decode mX8_strandedWith.2.1 29 = .ok (.getfield 53, 3) := by decide +kernel
theorem dc_X8_strandedWith_32 : decode mX8_strandedWith.2.1 32 = .ok (.aload_n 0, 1) := by decide +kernel
theorem dc_X8_strandedWith_33 : decode mX8_strandedWith.2.1 33 = .ok (.getfield 12, 3) := by decide +kernel
theorem dc_X8_strandedWith_36 : decode mX8_strandedWith.2.1 36 = .ok (.getfield 87, 3) := by decide +kernel
theorem dc_X8_strandedWith_39 : decode mX8_strandedWith.2.1 39 = .ok (.iload 4, 2) := by decide +kernel
theorem dc_X8_strandedWith_41 : decode mX8_strandedWith.2.1 41 = .ok (.invokevirtual 179, 3) := by decide +kernel
theorem dc_X8_strandedWith_44 : decode mX8_strandedWith.2.1 44 = .ok (.aload_n 0, 1) := by decide +kernel
theorem dc_X8_strandedWith_45 : decode mX8_strandedWith.2.1 45 = .ok (.getfield 53, 3) := by decide +kernel
theorem dc_X8_strandedWith_48 : decode mX8_strandedWith.2.1 48 = .ok (.getfield 189, 3) := by decide +kernel
theorem dc_X8_strandedWith_51 : decode mX8_strandedWith.2.1 51 = .ok (.ireturn, 1) := by decide +kernel
theorem dc_X8_bestToBecome_0 : decode mX8_bestToBecome.2.1 0 = .ok (.iconst 0, 1) := by decide +kernel
theorem dc_X8_bestToBecome_1 : decode mX8_bestToBecome.2.1 1 = .ok (.istore 5, 2) := by decide +kernel
theorem dc_X8_bestToBecome_3 : decode mX8_bestToBecome.2.1 3 = .ok (.ldc 206, 2) := by decide +kernel
theorem dc_X8_bestToBecome_5 : decode mX8_bestToBecome.2.1 5 = .ok (.istore 6, 2) := by decide +kernel
theorem dc_X8_bestToBecome_7 : decode mX8_bestToBecome.2.1 7 = .ok (.iconst 0, 1) := by decide +kernel
theorem dc_X8_bestToBecome_8 : decode mX8_bestToBecome.2.1 8 = .ok (.istore 7, 2) := by decide +kernel
theorem dc_X8_bestToBecome_10 : decode mX8_bestToBecome.2.1 10 = .ok (.iload 7, 2) := by decide +kernel
theorem dc_X8_bestToBecome_12 : decode mX8_bestToBecome.2.1 12 = .ok (.iload_n 3, 1) := by decide +kernel
theorem dc_X8_bestToBecome_13 : decode mX8_bestToBecome.2.1 13 = .ok (.if_icmp .gt 36, 3) := by decide +kernel
theorem dc_X8_bestToBecome_16 : decode mX8_bestToBecome.2.1 16 = .ok (.aload_n 0, 1) := by decide +kernel
theorem dc_X8_bestToBecome_17 : decode mX8_bestToBecome.2.1 17 = .ok (.iload_n 1, 1) := by decide +kernel
theorem dc_X8_bestToBecome_18 : decode mX8_bestToBecome.2.1 18 = .ok (.iload_n 2, 1) := by decide +kernel
theorem dc_X8_bestToBecome_19 : decode mX8_bestToBecome.2.1 19 = .ok (.iload 7, 2) := by decide +kernel
theorem dc_X8_bestToBecome_21 : decode mX8_bestToBecome.2.1 21 = .ok (.iload 4, 2) := by decide +kernel
theorem dc_X8_bestToBecome_23 : decode mX8_bestToBecome.2.1 23 = .ok (.invokevirtual 222, 3) := by decide +kernel
theorem dc_X8_bestToBecome_26 : decode mX8_bestToBecome.2.1 26 = .ok (.istore 8, 2) := by decide +kernel
theorem dc_X8_bestToBecome_28 : decode mX8_bestToBecome.2.1 28 = .ok (.iload 8, 2) := by decide +kernel
theorem dc_X8_bestToBecome_30 : decode mX8_bestToBecome.2.1 30 = .ok (.iload 6, 2) := by decide +kernel
theorem dc_X8_bestToBecome_32 : decode mX8_bestToBecome.2.1 32 = .ok (.if_icmp .ge 11, 3) := by decide +kernel
theorem dc_X8_bestToBecome_35 : decode mX8_bestToBecome.2.1 35 = .ok (.iload 8, 2) := by decide +kernel
theorem dc_X8_bestToBecome_37 : decode mX8_bestToBecome.2.1 37 = .ok (.istore 6, 2) := by decide +kernel
theorem dc_X8_bestToBecome_39 : decode mX8_bestToBecome.2.1 39 = .ok (.iload 7, 2) := by decide +kernel
theorem dc_X8_bestToBecome_41 : decode mX8_bestToBecome.2.1 41 = .ok (.istore 5, 2) := by decide +kernel
theorem dc_X8_bestToBecome_43 : decode mX8_bestToBecome.2.1 43 = .ok (.iinc 7 1, 3) := by decide +kernel
theorem dc_X8_bestToBecome_46 : decode mX8_bestToBecome.2.1 46 = .ok (.goto (-36), 3) := by decide +kernel
theorem dc_X8_bestToBecome_49 : decode mX8_bestToBecome.2.1 49 = .ok (.iload 5, 2) := by decide +kernel
theorem dc_X8_bestToBecome_51 : decode mX8_bestToBecome.2.1 51 = .ok (.ireturn, 1) := by decide +kernel
theorem dc_X8_fewestToKeep_0 : decode mX8_fewestToKeep.2.1 0 = .ok (.iconst (-1), 1) := by decide +kernel
theorem dc_X8_fewestToKeep_1 : decode mX8_fewestToKeep.2.1 1 = .ok (.istore_n 3, 1) := by decide +kernel
theorem dc_X8_fewestToKeep_2 : decode mX8_fewestToKeep.2.1 2 = .ok (.iload_n 1, 1) := by decide +kernel
theorem dc_X8_fewestToKeep_3 : decode mX8_fewestToKeep.2.1 3 = .ok (.iconst 1, 1) := by decide +kernel
theorem dc_X8_fewestToKeep_4 : decode mX8_fewestToKeep.2.1 4 = .ok (.iadd, 1) := by decide +kernel
theorem dc_X8_fewestToKeep_5 : decode mX8_fewestToKeep.2.1 5 = .ok (.istore 4, 2) := by decide +kernel
theorem dc_X8_fewestToKeep_7 : decode mX8_fewestToKeep.2.1 7 = .ok (.iconst 0, 1) := by decide +kernel
theorem dc_X8_fewestToKeep_8 : decode mX8_fewestToKeep.2.1 8 = .ok (.istore 5, 2) := by decide +kernel
theorem dc_X8_fewestToKeep_10 : decode mX8_fewestToKeep.2.1 10 = .ok (.iload 5, 2) := by decide +kernel
theorem dc_X8_fewestToKeep_12 : decode mX8_fewestToKeep.2.1 12 = .ok (.iconst 1, 1) := by decide +kernel
theorem dc_X8_fewestToKeep_13 : decode mX8_fewestToKeep.2.1 13 = .ok (.iload_n 1, 1) := by decide +kernel
theorem dc_X8_fewestToKeep_14 : decode mX8_fewestToKeep.2.1 14 = .ok (.ishl, 1) := by decide +kernel
theorem dc_X8_fewestToKeep_15 : decode mX8_fewestToKeep.2.1 15 = .ok (.if_icmp .ge 41, 3) := by decide +kernel
theorem dc_X8_fewestToKeep_18 : decode mX8_fewestToKeep.2.1 18 = .ok (.iload 5, 2) := by decide +kernel
theorem dc_X8_fewestToKeep_20 : decode mX8_fewestToKeep.2.1 20 = .ok (.invokestatic 170, 3) := by decide +kernel
theorem dc_X8_fewestToKeep_23 : decode mX8_fewestToKeep.2.1 23 = .ok (.istore 6, 2) := by decide +kernel
theorem dc_X8_fewestToKeep_25 : decode mX8_fewestToKeep.2.1 25 = .ok (.iload 6, 2) := by decide +kernel
theorem dc_X8_fewestToKeep_27 : decode mX8_fewestToKeep.2.1 27 = .ok (.iload 4, 2) := by decide +kernel
theorem dc_X8_fewestToKeep_29 : decode mX8_fewestToKeep.2.1 29 = .ok (.if_icmp .ge 21, 3) := by decide +kernel
theorem dc_X8_fewestToKeep_32 : decode mX8_fewestToKeep.2.1 32 = .ok (.aload_n 0, 1) := by decide +kernel
theorem dc_X8_fewestToKeep_33 : decode mX8_fewestToKeep.2.1 33 = .ok (.iload 5, 2) := by decide +kernel
theorem dc_X8_fewestToKeep_35 : decode mX8_fewestToKeep.2.1 35 = .ok (.iload_n 1, 1) := by decide +kernel
theorem dc_X8_fewestToKeep_36 : decode mX8_fewestToKeep.2.1 36 = .ok (.invokevirtual 329, 3) := by decide +kernel
theorem dc_X8_fewestToKeep_39 : decode mX8_fewestToKeep.2.1 39 = .ok (.iload_n 2, 1) := by decide +kernel
theorem dc_X8_fewestToKeep_40 : decode mX8_fewestToKeep.2.1 40 = .ok (.if_icmp .gt 10, 3) := by decide +kernel
theorem dc_X8_fewestToKeep_43 : decode mX8_fewestToKeep.2.1 43 = .ok (.iload 5, 2) := by decide +kernel
theorem dc_X8_fewestToKeep_45 : decode mX8_fewestToKeep.2.1 45 = .ok (.istore_n 3, 1) := by decide +kernel
theorem dc_X8_fewestToKeep_46 : decode mX8_fewestToKeep.2.1 46 = .ok (.iload 6, 2) := by decide +kernel
theorem dc_X8_fewestToKeep_48 : decode mX8_fewestToKeep.2.1 48 = .ok (.istore 4, 2) := by decide +kernel
theorem dc_X8_fewestToKeep_50 : decode mX8_fewestToKeep.2.1 50 = .ok (.iinc 5 1, 3) := by decide +kernel
theorem dc_X8_fewestToKeep_53 : decode mX8_fewestToKeep.2.1 53 = .ok (.goto (-43), 3) := by decide +kernel
theorem dc_X8_fewestToKeep_56 : decode mX8_fewestToKeep.2.1 56 = .ok (.iload_n 3, 1) := by decide +kernel
theorem dc_X8_fewestToKeep_57 : decode mX8_fewestToKeep.2.1 57 = .ok (.ireturn, 1) := by decide +kernel
theorem dc_X8_gainWithout_0 : decode mX8_gainWithout.2.1 0 = .ok (.iconst 0, 1) := by decide +kernel
theorem dc_X8_gainWithout_1 : decode mX8_gainWithout.2.1 1 = .ok (.istore_n 3, 1) := by decide +kernel
theorem dc_X8_gainWithout_2 : decode mX8_gainWithout.2.1 2 = .ok (.iconst 0, 1) := by decide +kernel
theorem dc_X8_gainWithout_3 : decode mX8_gainWithout.2.1 3 = .ok (.istore 4, 2) := by decide +kernel
theorem dc_X8_gainWithout_5 : decode mX8_gainWithout.2.1 5 = .ok (.iload 4, 2) := by decide +kernel
theorem dc_X8_gainWithout_7 : decode mX8_gainWithout.2.1 7 = .ok (.iload_n 2, 1) := by decide +kernel
theorem dc_X8_gainWithout_8 : decode mX8_gainWithout.2.1 8 = .ok (.if_icmp .ge 28, 3) := by decide +kernel
theorem dc_X8_gainWithout_11 : decode mX8_gainWithout.2.1 11 = .ok (.iload_n 1, 1) := by decide +kernel
theorem dc_X8_gainWithout_12 : decode mX8_gainWithout.2.1 12 = .ok (.iload 4, 2) := by decide +kernel
theorem dc_X8_gainWithout_14 : decode mX8_gainWithout.2.1 14 = .ok (.ishr, 1) := by decide +kernel
theorem dc_X8_gainWithout_15 : decode mX8_gainWithout.2.1 15 = .ok (.iconst 1, 1) := by decide +kernel
theorem dc_X8_gainWithout_16 : decode mX8_gainWithout.2.1 16 = .ok (.iand, 1) := by decide +kernel
theorem dc_X8_gainWithout_17 : decode mX8_gainWithout.2.1 17 = .ok (.ifCond .ne 13, 3) := by decide +kernel
theorem dc_X8_gainWithout_20 : decode mX8_gainWithout.2.1 20 = .ok (.iload_n 3, 1) := by decide +kernel
theorem dc_X8_gainWithout_21 : decode mX8_gainWithout.2.1 21 = .ok (.aload_n 0, 1) := by decide +kernel
theorem dc_X8_gainWithout_22 : decode mX8_gainWithout.2.1 22 = .ok (.getfield 60, 3) := by decide +kernel
theorem dc_X8_gainWithout_25 : decode mX8_gainWithout.2.1 25 = .ok (.iload 4, 2) := by decide +kernel
theorem dc_X8_gainWithout_27 : decode mX8_gainWithout.2.1 27 = .ok (.iaload, 1) := by decide +kernel
theorem dc_X8_gainWithout_28 : decode mX8_gainWithout.2.1 28 = .ok (.iadd, 1) := by decide +kernel
theorem dc_X8_gainWithout_29 : decode mX8_gainWithout.2.1 29 = .ok (.istore_n 3, 1) := by decide +kernel
theorem dc_X8_gainWithout_30 : decode mX8_gainWithout.2.1 30 = .ok (.iinc 4 1, 3) := by decide +kernel
theorem dc_X8_gainWithout_33 : decode mX8_gainWithout.2.1 33 = .ok (.goto (-28), 3) := by decide +kernel
theorem dc_X8_gainWithout_36 : decode mX8_gainWithout.2.1 36 = .ok (.iload_n 3, 1) := by decide +kernel
theorem dc_X8_gainWithout_37 : decode mX8_gainWithout.2.1 37 = .ok (.ireturn, 1) := by decide +kernel
theorem dc_X8_secondShowsAs_0 : decode mX8_secondShowsAs.2.1 0 = .ok (.iconst 0, 1) := by decide +kernel
theorem dc_X8_secondShowsAs_1 : decode mX8_secondShowsAs.2.1 1 = .ok (.istore_n 2, 1) := by decide +kernel
theorem dc_X8_secondShowsAs_2 : decode mX8_secondShowsAs.2.1 2 = .ok (.iload_n 2, 1) := by decide +kernel
theorem dc_X8_secondShowsAs_3 : decode mX8_secondShowsAs.2.1 3 = .ok (.aload_n 0, 1) := by decide +kernel
theorem dc_X8_secondShowsAs_4 : decode mX8_secondShowsAs.2.1 4 = .ok (.getfield 292, 3) := by decide +kernel
theorem dc_X8_secondShowsAs_7 : decode mX8_secondShowsAs.2.1 7 = .ok (.if_icmp .ge 32, 3) := by decide +kernel
theorem dc_X8_secondShowsAs_10 : decode mX8_secondShowsAs.2.1 10 = .ok (.aload_n 0, 1) := by decide +kernel
theorem dc_X8_secondShowsAs_11 : decode mX8_secondShowsAs.2.1 11 = .ok (.getfield 305, 3) := by decide +kernel
theorem dc_X8_secondShowsAs_14 : decode mX8_secondShowsAs.2.1 14 = .ok (.iload_n 2, 1) := by decide +kernel
theorem dc_X8_secondShowsAs_15 : decode mX8_secondShowsAs.2.1 15 = .ok (.iaload, 1) := by decide +kernel
theorem dc_X8_secondShowsAs_16 : decode mX8_secondShowsAs.2.1 16 = .ok (.istore_n 3, 1) := by decide +kernel
theorem dc_X8_secondShowsAs_17 : decode mX8_secondShowsAs.2.1 17 = .ok (.iload_n 3, 1) := by decide +kernel
theorem dc_X8_secondShowsAs_18 : decode mX8_secondShowsAs.2.1 18 = .ok (.iconst (-1), 1) := by decide +kernel
theorem dc_X8_secondShowsAs_19 : decode mX8_secondShowsAs.2.1 19 = .ok (.if_icmp .eq 14, 3) := by decide +kernel
theorem dc_X8_secondShowsAs_22 : decode mX8_secondShowsAs.2.1 22 = .ok (.iload_n 3, 1) := by decide +kernel
theorem dc_X8_secondShowsAs_23 : decode mX8_secondShowsAs.2.1 23 = .ok (.aload_n 1, 1) := by decide +kernel
theorem dc_X8_secondShowsAs_24 : decode mX8_secondShowsAs.2.1 24 = .ok (.iload_n 2, 1) := by decide +kernel
theorem dc_X8_secondShowsAs_25 : decode mX8_secondShowsAs.2.1 25 = .ok (.invokevirtual 186, 3) := by decide +kernel
theorem dc_X8_secondShowsAs_28 : decode mX8_secondShowsAs.2.1 28 = .ok (.if_icmp .eq 5, 3) := by decide +kernel
theorem dc_X8_secondShowsAs_31 : decode mX8_secondShowsAs.2.1 31 = .ok (.iconst 0, 1) := by decide +kernel
theorem dc_X8_secondShowsAs_32 : decode mX8_secondShowsAs.2.1 32 = .ok (.ireturn, 1) := by decide +kernel
theorem dc_X8_secondShowsAs_33 : decode mX8_secondShowsAs.2.1 33 = .ok (.iinc 2 1, 3) := by decide +kernel
theorem dc_X8_secondShowsAs_36 : decode mX8_secondShowsAs.2.1 36 = .ok (.goto (-34), 3) := by decide +kernel
theorem dc_X8_secondShowsAs_39 : decode mX8_secondShowsAs.2.1 39 = .ok (.iconst 1, 1) := by decide +kernel
theorem dc_X8_secondShowsAs_40 : decode mX8_secondShowsAs.2.1 40 = .ok (.ireturn, 1) := by decide +kernel
theorem dc_X8_sailsAs_0 : decode mX8_sailsAs.2.1 0 = .ok (.iconst 0, 1) := by decide +kernel
theorem dc_X8_sailsAs_1 : decode mX8_sailsAs.2.1 1 = .ok (.istore_n 3, 1) := by decide +kernel
theorem dc_X8_sailsAs_2 : decode mX8_sailsAs.2.1 2 = .ok (.iload_n 3, 1) := by decide +kernel
theorem dc_X8_sailsAs_3 : decode mX8_sailsAs.2.1 3 = .ok (.aload_n 1, 1) := by decide +kernel
theorem dc_X8_sailsAs_4 : decode mX8_sailsAs.2.1 4 = .ok (.getfield 292, 3) := by decide +kernel
theorem dc_X8_sailsAs_7 : decode mX8_sailsAs.2.1 7 = .ok (.if_icmp .ge 40, 3) := by decide +kernel
theorem dc_X8_sailsAs_10 : decode mX8_sailsAs.2.1 10 = .ok (.aload_n 1, 1) := by decide +kernel
theorem dc_X8_sailsAs_11 : decode mX8_sailsAs.2.1 11 = .ok (.getfield 305, 3) := by decide +kernel
theorem dc_X8_sailsAs_14 : decode mX8_sailsAs.2.1 14 = .ok (.iload_n 3, 1) := by decide +kernel
theorem dc_X8_sailsAs_15 : decode mX8_sailsAs.2.1 15 = .ok (.iaload, 1) := by decide +kernel
theorem dc_X8_sailsAs_16 : decode mX8_sailsAs.2.1 16 = .ok (.istore 4, 2) := by decide +kernel
theorem dc_X8_sailsAs_18 : decode mX8_sailsAs.2.1 18 = .ok (.iload 4, 2) := by decide +kernel
theorem dc_X8_sailsAs_20 : decode mX8_sailsAs.2.1 20 = .ok (.iconst (-1), 1) := by decide +kernel
theorem dc_X8_sailsAs_21 : decode mX8_sailsAs.2.1 21 = .ok (.if_icmp .eq 14, 3) := by decide +kernel
theorem dc_X8_sailsAs_24 : decode mX8_sailsAs.2.1 24 = .ok (.iload 4, 2) := by decide +kernel
theorem dc_X8_sailsAs_26 : decode mX8_sailsAs.2.1 26 = .ok (.aload_n 2, 1) := by decide +kernel
theorem dc_X8_sailsAs_27 : decode mX8_sailsAs.2.1 27 = .ok (.getfield 197, 3) := by decide +kernel
theorem dc_X8_sailsAs_30 : decode mX8_sailsAs.2.1 30 = .ok (.if_icmp .eq 5, 3) := by decide +kernel
theorem dc_X8_sailsAs_33 : decode mX8_sailsAs.2.1 33 = .ok (.iconst 0, 1) := by decide +kernel
theorem dc_X8_sailsAs_34 : decode mX8_sailsAs.2.1 34 = .ok (.ireturn, 1) := by decide +kernel
theorem dc_X8_sailsAs_35 : decode mX8_sailsAs.2.1 35 = .ok (.aload_n 0, 1) := by decide +kernel
theorem dc_X8_sailsAs_36 : decode mX8_sailsAs.2.1 36 = .ok (.aload_n 2, 1) := by decide +kernel
theorem dc_X8_sailsAs_37 : decode mX8_sailsAs.2.1 37 = .ok (.iload_n 3, 1) := by decide +kernel
theorem dc_X8_sailsAs_38 : decode mX8_sailsAs.2.1 38 = .ok (.invokevirtual 192, 3) := by decide +kernel
theorem dc_X8_sailsAs_41 : decode mX8_sailsAs.2.1 41 = .ok (.iinc 3 1, 3) := by decide +kernel
theorem dc_X8_sailsAs_44 : decode mX8_sailsAs.2.1 44 = .ok (.goto (-42), 3) := by decide +kernel
theorem dc_X8_sailsAs_47 : decode mX8_sailsAs.2.1 47 = .ok (.iconst 1, 1) := by decide +kernel
theorem dc_X8_sailsAs_48 : decode mX8_sailsAs.2.1 48 = .ok (.ireturn, 1) := by decide +kernel
theorem dc_X8_isUnder_0 : decode mX8_isUnder.2.1 0 = .ok (.iload_n 0, 1) := by decide +kernel
theorem dc_X8_isUnder_1 : decode mX8_isUnder.2.1 1 = .ok (.istore_n 2, 1) := by decide +kernel
theorem dc_X8_isUnder_2 : decode mX8_isUnder.2.1 2 = .ok (.iconst 0, 1) := by decide +kernel
theorem dc_X8_isUnder_3 : decode mX8_isUnder.2.1 3 = .ok (.istore_n 3, 1) := by decide +kernel
theorem dc_X8_isUnder_4 : decode mX8_isUnder.2.1 4 = .ok (.iload_n 3, 1) := by decide +kernel
theorem dc_X8_isUnder_5 : decode mX8_isUnder.2.1 5 = .ok (.bipush 6, 2) := by decide +kernel
theorem dc_X8_isUnder_7 : decode mX8_isUnder.2.1 7 = .ok (.if_icmp .gt 32, 3) := by decide +kernel
theorem dc_X8_isUnder_10 : decode mX8_isUnder.2.1 10 = .ok (.iload_n 2, 1) := by decide +kernel
theorem dc_X8_isUnder_11 : decode mX8_isUnder.2.1 11 = .ok (.iconst 0, 1) := by decide +kernel
theorem dc_X8_isUnder_12 : decode mX8_isUnder.2.1 12 = .ok (.bipush 6, 2) := by decide +kernel
theorem dc_X8_isUnder_14 : decode mX8_isUnder.2.1 14 = .ok (.invokestatic 97, 3) := by decide +kernel
theorem dc_X8_isUnder_17 : decode mX8_isUnder.2.1 17 = .ok (.ifCond .eq 22, 3) := by decide +kernel
theorem dc_X8_isUnder_20 : decode mX8_isUnder.2.1 20 = .ok (.iload_n 2, 1) := by decide +kernel
theorem dc_X8_isUnder_21 : decode mX8_isUnder.2.1 21 = .ok (.iload_n 1, 1) := by decide +kernel
theorem dc_X8_isUnder_22 : decode mX8_isUnder.2.1 22 = .ok (.if_icmp .ne 5, 3) := by decide +kernel
theorem dc_X8_isUnder_25 : decode mX8_isUnder.2.1 25 = .ok (.iconst 1, 1) := by decide +kernel
theorem dc_X8_isUnder_26 : decode mX8_isUnder.2.1 26 = .ok (.ireturn, 1) := by decide +kernel
theorem dc_X8_isUnder_27 : decode mX8_isUnder.2.1 27 = .ok (.getstatic 332, 3) := by decide +kernel
theorem dc_X8_isUnder_30 : decode mX8_isUnder.2.1 30 = .ok (.iload_n 2, 1) := by decide +kernel
theorem dc_X8_isUnder_31 : decode mX8_isUnder.2.1 31 = .ok (.iaload, 1) := by decide +kernel
theorem dc_X8_isUnder_32 : decode mX8_isUnder.2.1 32 = .ok (.istore_n 2, 1) := by decide +kernel
theorem dc_X8_isUnder_33 : decode mX8_isUnder.2.1 33 = .ok (.iinc 3 1, 3) := by decide +kernel
theorem dc_X8_isUnder_36 : decode mX8_isUnder.2.1 36 = .ok (.goto (-32), 3) := by decide +kernel
theorem dc_X8_isUnder_39 : decode mX8_isUnder.2.1 39 = .ok (.iconst 0, 1) := by decide +kernel
theorem dc_X8_isUnder_40 : decode mX8_isUnder.2.1 40 = .ok (.ireturn, 1) := by decide +kernel
theorem dc_X8_lowered_0 : decode mX8_lowered.2.1 0 = .ok (.bipush 12, 2) := by decide +kernel
theorem dc_X8_lowered_2 : decode mX8_lowered.2.1 2 = .ok (.istore_n 2, 1) := by decide +kernel
theorem dc_X8_lowered_3 : decode mX8_lowered.2.1 3 = .ok (.iload_n 2, 1) := by decide +kernel
theorem dc_X8_lowered_4 : decode mX8_lowered.2.1 4 = .ok (.iconst 1, 1) := by decide +kernel
theorem dc_X8_lowered_5 : decode mX8_lowered.2.1 5 = .ok (.if_icmp .le 25, 3) := by decide +kernel
theorem dc_X8_lowered_8 : decode mX8_lowered.2.1 8 = .ok (.iload_n 0, 1) := by decide +kernel
theorem dc_X8_lowered_9 : decode mX8_lowered.2.1 9 = .ok (.iload_n 2, 1) := by decide +kernel
theorem dc_X8_lowered_10 : decode mX8_lowered.2.1 10 = .ok (.irem, 1) := by decide +kernel
theorem dc_X8_lowered_11 : decode mX8_lowered.2.1 11 = .ok (.ifCond .ne 13, 3) := by decide +kernel
theorem dc_X8_lowered_14 : decode mX8_lowered.2.1 14 = .ok (.iload_n 1, 1) := by decide +kernel
theorem dc_X8_lowered_15 : decode mX8_lowered.2.1 15 = .ok (.iload_n 2, 1) := by decide +kernel
theorem dc_X8_lowered_16 : decode mX8_lowered.2.1 16 = .ok (.irem, 1) := by decide +kernel
theorem dc_X8_lowered_17 : decode mX8_lowered.2.1 17 = .ok (.ifCond .ne 7, 3) := by decide +kernel
theorem dc_X8_lowered_20 : decode mX8_lowered.2.1 20 = .ok (.iload_n 0, 1) := by decide +kernel
theorem dc_X8_lowered_21 : decode mX8_lowered.2.1 21 = .ok (.iload_n 2, 1) := by decide +kernel
theorem dc_X8_lowered_22 : decode mX8_lowered.2.1 22 = .ok (.idiv, 1) := by decide +kernel
theorem dc_X8_lowered_23 : decode mX8_lowered.2.1 23 = .ok (.ireturn, 1) := by decide +kernel
theorem dc_X8_lowered_24 : decode mX8_lowered.2.1 24 = .ok (.iinc 2 (-1), 3) := by decide +kernel
theorem dc_X8_lowered_27 : decode mX8_lowered.2.1 27 = .ok (.goto (-24), 3) := by decide +kernel
theorem dc_X8_lowered_30 : decode mX8_lowered.2.1 30 = .ok (.iload_n 0, 1) := by decide +kernel
theorem dc_X8_lowered_31 : decode mX8_lowered.2.1 31 = .ok (.ireturn, 1) := by decide +kernel
theorem dc_X8_power_0 : decode mX8_power.2.1 0 = .ok (.lconst 1, 1) := by decide +kernel
theorem dc_X8_power_1 : decode mX8_power.2.1 1 = .ok (.lstore_n 2, 1) := by decide +kernel
theorem dc_X8_power_2 : decode mX8_power.2.1 2 = .ok (.iconst 0, 1) := by decide +kernel
theorem dc_X8_power_3 : decode mX8_power.2.1 3 = .ok (.istore 4, 2) := by decide +kernel
theorem dc_X8_power_5 : decode mX8_power.2.1 5 = .ok (.iload 4, 2) := by decide +kernel
theorem dc_X8_power_7 : decode mX8_power.2.1 7 = .ok (.iload_n 1, 1) := by decide +kernel
theorem dc_X8_power_8 : decode mX8_power.2.1 8 = .ok (.if_icmp .ge 14, 3) := by decide +kernel
theorem dc_X8_power_11 : decode mX8_power.2.1 11 = .ok (.lload_n 2, 1) := by decide +kernel
theorem dc_X8_power_12 : decode mX8_power.2.1 12 = .ok (.iload_n 0, 1) := by decide +kernel
theorem dc_X8_power_13 : decode mX8_power.2.1 13 = .ok (.i2l, 1) := by decide +kernel
theorem dc_X8_power_14 : decode mX8_power.2.1 14 = .ok (.lmul, 1) := by decide +kernel
theorem dc_X8_power_15 : decode mX8_power.2.1 15 = .ok (.lstore_n 2, 1) := by decide +kernel
theorem dc_X8_power_16 : decode mX8_power.2.1 16 = .ok (.iinc 4 1, 3) := by decide +kernel
theorem dc_X8_power_19 : decode mX8_power.2.1 19 = .ok (.goto (-14), 3) := by decide +kernel
theorem dc_X8_power_22 : decode mX8_power.2.1 22 = .ok (.lload_n 2, 1) := by decide +kernel
theorem dc_X8_power_23 : decode mX8_power.2.1 23 = .ok (.lreturn, 1) := by decide +kernel
