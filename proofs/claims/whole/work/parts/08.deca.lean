theorem dc_X0_init_0 : decode mX0_init.2.1 0 = .ok (.aload_n 0, 1) := by decide +kernel
theorem dc_X0_init_1 : decode mX0_init.2.1 1 = .ok (.invokespecial 3, 3) := by decide +kernel
theorem dc_X0_init_4 : decode mX0_init.2.1 4 = .ok (.return_, 1) := by decide +kernel
theorem dc_X0_hear_0 : decode mX0_hear.2.1 0 = .ok (.aload_n 0, 1) := by decide +kernel
theorem dc_X0_hear_1 : decode mX0_hear.2.1 1 = .ok (.iconst 0, 1) := by decide +kernel
theorem dc_X0_hear_2 : decode mX0_hear.2.1 2 = .ok (.putfield 9, 3) := by decide +kernel
theorem dc_X0_hear_5 : decode mX0_hear.2.1 5 = .ok (.aload_n 0, 1) := by decide +kernel
theorem dc_X0_hear_6 : decode mX0_hear.2.1 6 = .ok (.iconst 0, 1) := by decide +kernel
theorem dc_X0_hear_7 : decode mX0_hear.2.1 7 = .ok (.putfield 15, 3) := by decide +kernel
theorem dc_X0_hear_10 : decode mX0_hear.2.1 10 = .ok (.aload_n 0, 1) := by decide +kernel
theorem dc_X0_hear_11 : decode mX0_hear.2.1 11 = .ok (.iconst 0, 1) := by decide +kernel
theorem dc_X0_hear_12 : decode mX0_hear.2.1 12 = .ok (.putfield 18, 3) := by decide +kernel
theorem dc_X0_hear_15 : decode mX0_hear.2.1 15 = .ok (.iconst 0, 1) := by decide +kernel
theorem dc_X0_hear_16 : decode mX0_hear.2.1 16 = .ok (.istore_n 3, 1) := by decide +kernel
theorem dc_X0_hear_17 : decode mX0_hear.2.1 17 = .ok (.iload_n 3, 1) := by decide +kernel
theorem dc_X0_hear_18 : decode mX0_hear.2.1 18 = .ok (.aload_n 1, 1) := by decide +kernel
theorem dc_X0_hear_19 : decode mX0_hear.2.1 19 = .ok (.getfield 22, 3) := by decide +kernel
theorem dc_X0_hear_22 : decode mX0_hear.2.1 22 = .ok (.if_icmp .ge 31, 3) := by decide +kernel
theorem dc_X0_hear_25 : decode mX0_hear.2.1 25 = .ok (.aload_n 1, 1) := by decide +kernel
theorem dc_X0_hear_26 : decode mX0_hear.2.1 26 = .ok (.getfield 27, 3) := by decide +kernel
theorem dc_X0_hear_29 : decode mX0_hear.2.1 29 = .ok (.iload_n 3, 1) := by decide +kernel
theorem dc_X0_hear_30 : decode mX0_hear.2.1 30 = .ok (.iaload, 1) := by decide +kernel
theorem dc_X0_hear_31 : decode mX0_hear.2.1 31 = .ok (.iconst (-1), 1) := by decide +kernel
theorem dc_X0_hear_32 : decode mX0_hear.2.1 32 = .ok (.if_icmp .eq 15, 3) := by decide +kernel
theorem dc_X0_hear_35 : decode mX0_hear.2.1 35 = .ok (.aload_n 0, 1) := by decide +kernel
theorem dc_X0_hear_36 : decode mX0_hear.2.1 36 = .ok (.aload_n 1, 1) := by decide +kernel
theorem dc_X0_hear_37 : decode mX0_hear.2.1 37 = .ok (.getfield 27, 3) := by decide +kernel
theorem dc_X0_hear_40 : decode mX0_hear.2.1 40 = .ok (.iload_n 3, 1) := by decide +kernel
theorem dc_X0_hear_41 : decode mX0_hear.2.1 41 = .ok (.iaload, 1) := by decide +kernel
theorem dc_X0_hear_42 : decode mX0_hear.2.1 42 = .ok (.iload_n 3, 1) := by decide +kernel
theorem dc_X0_hear_43 : decode mX0_hear.2.1 43 = .ok (.aload_n 2, 1) := by decide +kernel
theorem dc_X0_hear_44 : decode mX0_hear.2.1 44 = .ok (.invokevirtual 31, 3) := by decide +kernel
theorem dc_X0_hear_47 : decode mX0_hear.2.1 47 = .ok (.iinc 3 1, 3) := by decide +kernel
theorem dc_X0_hear_50 : decode mX0_hear.2.1 50 = .ok (.goto (-33), 3) := by decide +kernel
theorem dc_X0_hear_53 : decode mX0_hear.2.1 53 = .ok (.return_, 1) := by decide +kernel
theorem dc_X0_hearOne_0 : decode mX0_hearOne.2.1 0 = .ok (.aload_n 3, 1) := by decide +kernel
theorem dc_X0_hearOne_1 : decode mX0_hearOne.2.1 1 = .ok (.iload_n 2, 1) := by decide +kernel
theorem dc_X0_hearOne_2 : decode mX0_hearOne.2.1 2 = .ok (.invokevirtual 35, 3) := by decide +kernel
theorem dc_X0_hearOne_5 : decode mX0_hearOne.2.1 5 = .ok (.istore 4, 2) := by decide +kernel
theorem dc_X0_hearOne_7 : decode mX0_hearOne.2.1 7 = .ok (.iload_n 1, 1) := by decide +kernel
theorem dc_X0_hearOne_8 : decode mX0_hearOne.2.1 8 = .ok (.iconst 0, 1) := by decide +kernel
theorem dc_X0_hearOne_9 : decode mX0_hearOne.2.1 9 = .ok (.iconst 1, 1) := by decide +kernel
theorem dc_X0_hearOne_10 : decode mX0_hearOne.2.1 10 = .ok (.invokestatic 41, 3) := by decide +kernel
theorem dc_X0_hearOne_13 : decode mX0_hearOne.2.1 13 = .ok (.ifCond .ne 11, 3) := by decide +kernel
theorem dc_X0_hearOne_16 : decode mX0_hearOne.2.1 16 = .ok (.aload_n 0, 1) := by decide +kernel
theorem dc_X0_hearOne_17 : decode mX0_hearOne.2.1 17 = .ok (.iconst 1, 1) := by decide +kernel
theorem dc_X0_hearOne_18 : decode mX0_hearOne.2.1 18 = .ok (.putfield 18, 3) := by decide +kernel
theorem dc_X0_hearOne_21 : decode mX0_hearOne.2.1 21 = .ok (.goto 72, 3) := by decide +kernel
theorem dc_X0_hearOne_24 : decode mX0_hearOne.2.1 24 = .ok (.iload 4, 2) := by decide +kernel
theorem dc_X0_hearOne_26 : decode mX0_hearOne.2.1 26 = .ok (.ifCond .ge 29, 3) := by decide +kernel
theorem dc_X0_hearOne_29 : decode mX0_hearOne.2.1 29 = .ok (.aload_n 0, 1) := by decide +kernel
theorem dc_X0_hearOne_30 : decode mX0_hearOne.2.1 30 = .ok (.dup, 1) := by decide +kernel
theorem dc_X0_hearOne_31 : decode mX0_hearOne.2.1 31 = .ok (.getfield 18, 3) := by decide +kernel
theorem dc_X0_hearOne_34 : decode mX0_hearOne.2.1 34 = .ok (.iload_n 1, 1) := by decide +kernel
theorem dc_X0_hearOne_35 : decode mX0_hearOne.2.1 35 = .ok (.aload_n 3, 1) := by decide +kernel
theorem dc_X0_hearOne_36 : decode mX0_hearOne.2.1 36 = .ok (.iload_n 2, 1) := by decide +kernel
theorem dc_X0_hearOne_37 : decode mX0_hearOne.2.1 37 = .ok (.invokevirtual 45, 3) := by decide +kernel
theorem dc_X0_hearOne_40 : decode mX0_hearOne.2.1 40 = .ok (.if_icmp .eq 7, 3) := by decide +kernel
theorem dc_X0_hearOne_43 : decode mX0_hearOne.2.1 43 = .ok (.iconst 1, 1) := by decide +kernel
theorem dc_X0_hearOne_44 : decode mX0_hearOne.2.1 44 = .ok (.goto 4, 3) := by decide +kernel
theorem dc_X0_hearOne_47 : decode mX0_hearOne.2.1 47 = .ok (.iconst 0, 1) := by decide +kernel
theorem dc_X0_hearOne_48 : decode mX0_hearOne.2.1 48 = .ok (.ior, 1) := by decide +kernel
theorem dc_X0_hearOne_49 : decode mX0_hearOne.2.1 49 = .ok (.putfield 18, 3) := by decide +kernel
theorem dc_X0_hearOne_52 : decode mX0_hearOne.2.1 52 = .ok (.goto 41, 3) := by decide +kernel
theorem dc_X0_hearOne_55 : decode mX0_hearOne.2.1 55 = .ok (.iload_n 1, 1) := by decide +kernel
theorem dc_X0_hearOne_56 : decode mX0_hearOne.2.1 56 = .ok (.iconst 1, 1) := by decide +kernel
theorem dc_X0_hearOne_57 : decode mX0_hearOne.2.1 57 = .ok (.if_icmp .ne 21, 3) := by decide +kernel
theorem dc_X0_hearOne_60 : decode mX0_hearOne.2.1 60 = .ok (.aload_n 0, 1) := by decide +kernel
theorem dc_X0_hearOne_61 : decode mX0_hearOne.2.1 61 = .ok (.dup, 1) := by decide +kernel
theorem dc_X0_hearOne_62 : decode mX0_hearOne.2.1 62 = .ok (.getfield 9, 3) := by decide +kernel
theorem dc_X0_hearOne_65 : decode mX0_hearOne.2.1 65 = .ok (.aload_n 3, 1) := by decide +kernel
theorem dc_X0_hearOne_66 : decode mX0_hearOne.2.1 66 = .ok (.iload 4, 2) := by decide +kernel
theorem dc_X0_hearOne_68 : decode mX0_hearOne.2.1 68 = .ok (.invokevirtual 48, 3) := by decide +kernel
theorem dc_X0_hearOne_71 : decode mX0_hearOne.2.1 71 = .ok (.ior, 1) := by decide +kernel
theorem dc_X0_hearOne_72 : decode mX0_hearOne.2.1 72 = .ok (.putfield 9, 3) := by decide +kernel
theorem dc_X0_hearOne_75 : decode mX0_hearOne.2.1 75 = .ok (.goto 18, 3) := by decide +kernel
theorem dc_X0_hearOne_78 : decode mX0_hearOne.2.1 78 = .ok (.aload_n 0, 1) := by decide +kernel
theorem dc_X0_hearOne_79 : decode mX0_hearOne.2.1 79 = .ok (.dup, 1) := by decide +kernel
theorem dc_X0_hearOne_80 : decode mX0_hearOne.2.1 80 = .ok (.getfield 15, 3) := by decide +kernel
theorem dc_X0_hearOne_83 : decode mX0_hearOne.2.1 83 = .ok (.aload_n 3, 1) := by decide +kernel
theorem dc_X0_hearOne_84 : decode mX0_hearOne.2.1 84 = .ok (.iload 4, 2) := by decide +kernel
theorem dc_X0_hearOne_86 : decode mX0_hearOne.2.1 86 = .ok (.invokevirtual 48, 3) := by decide +kernel
theorem dc_X0_hearOne_89 : decode mX0_hearOne.2.1 89 = .ok (.ior, 1) := by decide +kernel
theorem dc_X0_hearOne_90 : decode mX0_hearOne.2.1 90 = .ok (.putfield 15, 3) := by decide +kernel
theorem dc_X0_hearOne_93 : decode mX0_hearOne.2.1 93 = .ok (.return_, 1) := by decide +kernel
theorem dc_X0_canBeMet_0 : decode mX0_canBeMet.2.1 0 = .ok (.aload_n 0, 1) := by decide +kernel
theorem dc_X0_canBeMet_1 : decode mX0_canBeMet.2.1 1 = .ok (.getfield 18, 3) := by decide +kernel
theorem dc_X0_canBeMet_4 : decode mX0_canBeMet.2.1 4 = .ok (.ifCond .ne 19, 3) := by decide +kernel
theorem dc_X0_canBeMet_7 : decode mX0_canBeMet.2.1 7 = .ok (.aload_n 0, 1) := by decide +kernel
theorem dc_X0_canBeMet_8 : decode mX0_canBeMet.2.1 8 = .ok (.getfield 9, 3) := by decide +kernel
theorem dc_X0_canBeMet_11 : decode mX0_canBeMet.2.1 11 = .ok (.aload_n 0, 1) := by decide +kernel
theorem dc_X0_canBeMet_12 : decode mX0_canBeMet.2.1 12 = .ok (.getfield 15, 3) := by decide +kernel
theorem dc_X0_canBeMet_15 : decode mX0_canBeMet.2.1 15 = .ok (.iand, 1) := by decide +kernel
theorem dc_X0_canBeMet_16 : decode mX0_canBeMet.2.1 16 = .ok (.ifCond .ne 7, 3) := by decide +kernel
theorem dc_X0_canBeMet_19 : decode mX0_canBeMet.2.1 19 = .ok (.iconst 1, 1) := by decide +kernel
theorem dc_X0_canBeMet_20 : decode mX0_canBeMet.2.1 20 = .ok (.goto 4, 3) := by decide +kernel
theorem dc_X0_canBeMet_23 : decode mX0_canBeMet.2.1 23 = .ok (.iconst 0, 1) := by decide +kernel
theorem dc_X0_canBeMet_24 : decode mX0_canBeMet.2.1 24 = .ok (.ireturn, 1) := by decide +kernel
theorem dc_X0_freeBits_0 : decode mX0_freeBits.2.1 0 = .ok (.bipush 12, 2) := by decide +kernel
theorem dc_X0_freeBits_2 : decode mX0_freeBits.2.1 2 = .ok (.aload_n 0, 1) := by decide +kernel
theorem dc_X0_freeBits_3 : decode mX0_freeBits.2.1 3 = .ok (.getfield 9, 3) := by decide +kernel
theorem dc_X0_freeBits_6 : decode mX0_freeBits.2.1 6 = .ok (.aload_n 0, 1) := by decide +kernel
theorem dc_X0_freeBits_7 : decode mX0_freeBits.2.1 7 = .ok (.getfield 15, 3) := by decide +kernel
theorem dc_X0_freeBits_10 : decode mX0_freeBits.2.1 10 = .ok (.ior, 1) := by decide +kernel
theorem dc_X0_freeBits_11 : decode mX0_freeBits.2.1 11 = .ok (.invokestatic 51, 3) := by decide +kernel
theorem dc_X0_freeBits_14 : decode mX0_freeBits.2.1 14 = .ok (.isub, 1) := by decide +kernel
theorem dc_X0_freeBits_15 : decode mX0_freeBits.2.1 15 = .ok (.ireturn, 1) := by decide +kernel
theorem dc_X1_init_0 : decode mX1_init.2.1 0 = .ok (.aload_n 0, 1) := by decide +kernel
theorem dc_X1_init_1 : decode mX1_init.2.1 1 = .ok (.invokespecial 3, 3) := by decide +kernel
theorem dc_X1_init_4 : decode mX1_init.2.1 4 = .ok (.aload_n 0, 1) := by decide +kernel
theorem dc_X1_init_5 : decode mX1_init.2.1 5 = .ok (.bipush 8, 2) := by decide +kernel
theorem dc_X1_init_7 : decode mX1_init.2.1 7 = .ok (.anewarray 9, 3) := by decide +kernel
theorem dc_X1_init_10 : decode mX1_init.2.1 10 = .ok (.putfield 11, 3) := by decide +kernel
theorem dc_X1_init_13 : decode mX1_init.2.1 13 = .ok (.aload_n 0, 1) := by decide +kernel
theorem dc_X1_init_14 : decode mX1_init.2.1 14 = .ok (.iconst 0, 1) := by decide +kernel
theorem dc_X1_init_15 : decode mX1_init.2.1 15 = .ok (.putfield 17, 3) := by decide +kernel
theorem dc_X1_init_18 : decode mX1_init.2.1 18 = .ok (.iconst 0, 1) := by decide +kernel
theorem dc_X1_init_19 : decode mX1_init.2.1 19 = .ok (.istore_n 1, 1) := by decide +kernel
theorem dc_X1_init_20 : decode mX1_init.2.1 20 = .ok (.iload_n 1, 1) := by decide +kernel
theorem dc_X1_init_21 : decode mX1_init.2.1 21 = .ok (.bipush 8, 2) := by decide +kernel
theorem dc_X1_init_23 : decode mX1_init.2.1 23 = .ok (.if_icmp .ge 22, 3) := by decide +kernel
theorem dc_X1_init_26 : decode mX1_init.2.1 26 = .ok (.aload_n 0, 1) := by decide +kernel
theorem dc_X1_init_27 : decode mX1_init.2.1 27 = .ok (.getfield 11, 3) := by decide +kernel
theorem dc_X1_init_30 : decode mX1_init.2.1 30 = .ok (.iload_n 1, 1) := by decide +kernel
theorem dc_X1_init_31 : decode mX1_init.2.1 31 = .ok (.new 9, 3) := by decide +kernel
theorem dc_X1_init_34 : decode mX1_init.2.1 34 = .ok (.dup, 1) := by decide +kernel
theorem dc_X1_init_35 : decode mX1_init.2.1 35 = .ok (.invokespecial 21, 3) := by decide +kernel
theorem dc_X1_init_38 : decode mX1_init.2.1 38 = .ok (.aastore, 1) := by decide +kernel
theorem dc_X1_init_39 : decode mX1_init.2.1 39 = .ok (.iinc 1 1, 3) := by decide +kernel
theorem dc_X1_init_42 : decode mX1_init.2.1 42 = .ok (.goto (-22), 3) := by decide +kernel
theorem dc_X1_init_45 : decode mX1_init.2.1 45 = .ok (.return_, 1) := by decide +kernel
theorem dc_X1_take_0 : decode mX1_take.2.1 0 = .ok (.aload_n 0, 1) := by decide +kernel
theorem dc_X1_take_1 : decode mX1_take.2.1 1 = .ok (.aload_n 1, 1) := by decide +kernel
theorem dc_X1_take_2 : decode mX1_take.2.1 2 = .ok (.getfield 17, 3) := by decide +kernel
theorem dc_X1_take_5 : decode mX1_take.2.1 5 = .ok (.putfield 17, 3) := by decide +kernel
theorem dc_X1_take_8 : decode mX1_take.2.1 8 = .ok (.iconst 0, 1) := by decide +kernel
theorem dc_X1_take_9 : decode mX1_take.2.1 9 = .ok (.istore_n 2, 1) := by decide +kernel
theorem dc_X1_take_10 : decode mX1_take.2.1 10 = .ok (.iload_n 2, 1) := by decide +kernel
theorem dc_X1_take_11 : decode mX1_take.2.1 11 = .ok (.aload_n 0, 1) := by decide +kernel
theorem dc_X1_take_12 : decode mX1_take.2.1 12 = .ok (.getfield 17, 3) := by decide +kernel
theorem dc_X1_take_15 : decode mX1_take.2.1 15 = .ok (.if_icmp .ge 24, 3) := by decide +kernel
theorem dc_X1_take_18 : decode mX1_take.2.1 18 = .ok (.aload_n 0, 1) := by decide +kernel
theorem dc_X1_take_19 : decode mX1_take.2.1 19 = .ok (.getfield 11, 3) := by decide +kernel
theorem dc_X1_take_22 : decode mX1_take.2.1 22 = .ok (.iload_n 2, 1) := by decide +kernel
theorem dc_X1_take_23 : decode mX1_take.2.1 23 = .ok (.aaload, 1) := by decide +kernel
theorem dc_X1_take_24 : decode mX1_take.2.1 24 = .ok (.aload_n 1, 1) := by decide +kernel
theorem dc_X1_take_25 : decode mX1_take.2.1 25 = .ok (.getfield 11, 3) := by decide +kernel
theorem dc_X1_take_28 : decode mX1_take.2.1 28 = .ok (.iload_n 2, 1) := by decide +kernel
theorem dc_X1_take_29 : decode mX1_take.2.1 29 = .ok (.aaload, 1) := by decide +kernel
theorem dc_X1_take_30 : decode mX1_take.2.1 30 = .ok (.invokevirtual 22, 3) := by decide +kernel
theorem dc_X1_take_33 : decode mX1_take.2.1 33 = .ok (.iinc 2 1, 3) := by decide +kernel
theorem dc_X1_take_36 : decode mX1_take.2.1 36 = .ok (.goto (-26), 3) := by decide +kernel
theorem dc_X1_take_39 : decode mX1_take.2.1 39 = .ok (.return_, 1) := by decide +kernel
theorem dc_X1_isFull_0 : decode mX1_isFull.2.1 0 = .ok (.aload_n 0, 1) := by decide +kernel
theorem dc_X1_isFull_1 : decode mX1_isFull.2.1 1 = .ok (.getfield 17, 3) := by decide +kernel
theorem dc_X1_isFull_4 : decode mX1_isFull.2.1 4 = .ok (.bipush 8, 2) := by decide +kernel
theorem dc_X1_isFull_6 : decode mX1_isFull.2.1 6 = .ok (.if_icmp .lt 7, 3) := by decide +kernel
theorem dc_X1_isFull_9 : decode mX1_isFull.2.1 9 = .ok (.iconst 1, 1) := by decide +kernel
theorem dc_X1_isFull_10 : decode mX1_isFull.2.1 10 = .ok (.goto 4, 3) := by decide +kernel
theorem dc_X1_isFull_13 : decode mX1_isFull.2.1 13 = .ok (.iconst 0, 1) := by decide +kernel
theorem dc_X1_isFull_14 : decode mX1_isFull.2.1 14 = .ok (.ireturn, 1) := by decide +kernel
theorem dc_X1_launch_0 : decode mX1_launch.2.1 0 = .ok (.aload_n 0, 1) := by decide +kernel
theorem dc_X1_launch_1 : decode mX1_launch.2.1 1 = .ok (.invokevirtual 26, 3) := by decide +kernel
theorem dc_X1_launch_4 : decode mX1_launch.2.1 4 = .ok (.ifCond .ne 27, 3) := by decide +kernel
theorem dc_X1_launch_7 : decode mX1_launch.2.1 7 = .ok (.aload_n 0, 1) := by decide +kernel
theorem dc_X1_launch_8 : decode mX1_launch.2.1 8 = .ok (.getfield 11, 3) := by decide +kernel
theorem dc_X1_launch_11 : decode mX1_launch.2.1 11 = .ok (.aload_n 0, 1) := by decide +kernel
theorem dc_X1_launch_12 : decode mX1_launch.2.1 12 = .ok (.getfield 17, 3) := by decide +kernel
theorem dc_X1_launch_15 : decode mX1_launch.2.1 15 = .ok (.aaload, 1) := by decide +kernel
theorem dc_X1_launch_16 : decode mX1_launch.2.1 16 = .ok (.iload_n 1, 1) := by decide +kernel
theorem dc_X1_launch_17 : decode mX1_launch.2.1 17 = .ok (.iload_n 2, 1) := by decide +kernel
theorem dc_X1_launch_18 : decode mX1_launch.2.1 18 = .ok (.invokevirtual 30, 3) := by decide +kernel
theorem dc_X1_launch_21 : decode mX1_launch.2.1 21 = .ok (.aload_n 0, 1) := by decide +kernel
theorem dc_X1_launch_22 : decode mX1_launch.2.1 22 = .ok (.dup, 1) := by decide +kernel
theorem dc_X1_launch_23 : decode mX1_launch.2.1 23 = .ok (.getfield 17, 3) := by decide +kernel
theorem dc_X1_launch_26 : decode mX1_launch.2.1 26 = .ok (.iconst 1, 1) := by decide +kernel
theorem dc_X1_launch_27 : decode mX1_launch.2.1 27 = .ok (.iadd, 1) := by decide +kernel
theorem dc_X1_launch_28 : decode mX1_launch.2.1 28 = .ok (.putfield 17, 3) := by decide +kernel
theorem dc_X1_launch_31 : decode mX1_launch.2.1 31 = .ok (.return_, 1) := by decide +kernel
theorem dc_X1_sail_0 : decode mX1_sail.2.1 0 = .ok (.iconst 0, 1) := by decide +kernel
theorem dc_X1_sail_1 : decode mX1_sail.2.1 1 = .ok (.istore_n 3, 1) := by decide +kernel
theorem dc_X1_sail_2 : decode mX1_sail.2.1 2 = .ok (.iload_n 3, 1) := by decide +kernel
theorem dc_X1_sail_3 : decode mX1_sail.2.1 3 = .ok (.aload_n 0, 1) := by decide +kernel
theorem dc_X1_sail_4 : decode mX1_sail.2.1 4 = .ok (.getfield 17, 3) := by decide +kernel
theorem dc_X1_sail_7 : decode mX1_sail.2.1 7 = .ok (.if_icmp .ge 20, 3) := by decide +kernel
theorem dc_X1_sail_10 : decode mX1_sail.2.1 10 = .ok (.aload_n 0, 1) := by decide +kernel
theorem dc_X1_sail_11 : decode mX1_sail.2.1 11 = .ok (.getfield 11, 3) := by decide +kernel
theorem dc_X1_sail_14 : decode mX1_sail.2.1 14 = .ok (.iload_n 3, 1) := by decide +kernel
theorem dc_X1_sail_15 : decode mX1_sail.2.1 15 = .ok (.aaload, 1) := by decide +kernel
theorem dc_X1_sail_16 : decode mX1_sail.2.1 16 = .ok (.iload_n 1, 1) := by decide +kernel
theorem dc_X1_sail_17 : decode mX1_sail.2.1 17 = .ok (.iload_n 2, 1) := by decide +kernel
theorem dc_X1_sail_18 : decode mX1_sail.2.1 18 = .ok (.invokevirtual 34, 3) := by decide +kernel
theorem dc_X1_sail_21 : decode mX1_sail.2.1 21 = .ok (.iinc 3 1, 3) := by decide +kernel
theorem dc_X1_sail_24 : decode mX1_sail.2.1 24 = .ok (.goto (-22), 3) := by decide +kernel
theorem dc_X1_sail_27 : decode mX1_sail.2.1 27 = .ok (.return_, 1) := by decide +kernel
theorem dc_X1_sailOn_0 : decode mX1_sailOn.2.1 0 = .ok (.iconst 0, 1) := by decide +kernel
theorem dc_X1_sailOn_1 : decode mX1_sailOn.2.1 1 = .ok (.istore_n 3, 1) := by decide +kernel
theorem dc_X1_sailOn_2 : decode mX1_sailOn.2.1 2 = .ok (.iload_n 3, 1) := by decide +kernel
theorem dc_X1_sailOn_3 : decode mX1_sailOn.2.1 3 = .ok (.iload_n 2, 1) := by decide +kernel
theorem dc_X1_sailOn_4 : decode mX1_sailOn.2.1 4 = .ok (.if_icmp .ge 23, 3) := by decide +kernel
theorem dc_X1_sailOn_7 : decode mX1_sailOn.2.1 7 = .ok (.aload_n 0, 1) := by decide +kernel
theorem dc_X1_sailOn_8 : decode mX1_sailOn.2.1 8 = .ok (.aload_n 1, 1) := by decide +kernel
theorem dc_X1_sailOn_9 : decode mX1_sailOn.2.1 9 = .ok (.iload_n 3, 1) := by decide +kernel
theorem dc_X1_sailOn_10 : decode mX1_sailOn.2.1 10 = .ok (.invokevirtual 37, 3) := by decide +kernel
theorem dc_X1_sailOn_13 : decode mX1_sailOn.2.1 13 = .ok (.aload_n 1, 1) := by decide +kernel
theorem dc_X1_sailOn_14 : decode mX1_sailOn.2.1 14 = .ok (.iload_n 3, 1) := by decide +kernel
theorem dc_X1_sailOn_15 : decode mX1_sailOn.2.1 15 = .ok (.invokevirtual 43, 3) := by decide +kernel
theorem dc_X1_sailOn_18 : decode mX1_sailOn.2.1 18 = .ok (.invokevirtual 46, 3) := by decide +kernel
theorem dc_X1_sailOn_21 : decode mX1_sailOn.2.1 21 = .ok (.iinc 3 1, 3) := by decide +kernel
theorem dc_X1_sailOn_24 : decode mX1_sailOn.2.1 24 = .ok (.goto (-22), 3) := by decide +kernel
theorem dc_X1_sailOn_27 : decode mX1_sailOn.2.1 27 = .ok (.return_, 1) := by decide +kernel
theorem dc_X1_strandedOfAll_0 : decode mX1_strandedOfAll.2.1 0 = .ok (.iconst 0, 1) := by decide +kernel
theorem dc_X1_strandedOfAll_1 : decode mX1_strandedOfAll.2.1 1 = .ok (.istore_n 1, 1) := by decide +kernel
theorem dc_X1_strandedOfAll_2 : decode mX1_strandedOfAll.2.1 2 = .ok (.iconst 0, 1) := by decide +kernel
theorem dc_X1_strandedOfAll_3 : decode mX1_strandedOfAll.2.1 3 = .ok (.istore_n 2, 1) := by decide +kernel
theorem dc_X1_strandedOfAll_4 : decode mX1_strandedOfAll.2.1 4 = .ok (.iload_n 2, 1) := by decide +kernel
theorem dc_X1_strandedOfAll_5 : decode mX1_strandedOfAll.2.1 5 = .ok (.aload_n 0, 1) := by decide +kernel
theorem dc_X1_strandedOfAll_6 : decode mX1_strandedOfAll.2.1 6 = .ok (.getfield 17, 3) := by decide +kernel
theorem dc_X1_strandedOfAll_9 : decode mX1_strandedOfAll.2.1 9 = .ok (.if_icmp .ge 21, 3) := by decide +kernel
theorem dc_X1_strandedOfAll_12 : decode mX1_strandedOfAll.2.1 12 = .ok (.iload_n 1, 1) := by decide +kernel
theorem dc_X1_strandedOfAll_13 : decode mX1_strandedOfAll.2.1 13 = .ok (.aload_n 0, 1) := by decide +kernel
theorem dc_X1_strandedOfAll_14 : decode mX1_strandedOfAll.2.1 14 = .ok (.getfield 11, 3) := by decide +kernel
theorem dc_X1_strandedOfAll_17 : decode mX1_strandedOfAll.2.1 17 = .ok (.iload_n 2, 1) := by decide +kernel
theorem dc_X1_strandedOfAll_18 : decode mX1_strandedOfAll.2.1 18 = .ok (.aaload, 1) := by decide +kernel
theorem dc_X1_strandedOfAll_19 : decode mX1_strandedOfAll.2.1 19 = .ok (.getfield 47, 3) := by decide +kernel
theorem dc_X1_strandedOfAll_22 : decode mX1_strandedOfAll.2.1 22 = .ok (.iadd, 1) := by decide +kernel
theorem dc_X1_strandedOfAll_23 : decode mX1_strandedOfAll.2.1 23 = .ok (.istore_n 1, 1) := by decide +kernel
theorem dc_X1_strandedOfAll_24 : decode mX1_strandedOfAll.2.1 24 = .ok (.iinc 2 1, 3) := by decide +kernel
theorem dc_X1_strandedOfAll_27 : decode mX1_strandedOfAll.2.1 27 = .ok (.goto (-23), 3) := by decide +kernel
theorem dc_X1_strandedOfAll_30 : decode mX1_strandedOfAll.2.1 30 = .ok (.iload_n 1, 1) := by decide +kernel
theorem dc_X1_strandedOfAll_31 : decode mX1_strandedOfAll.2.1 31 = .ok (.ireturn, 1) := by decide +kernel
theorem dc_X1_sawOfAll_0 : decode mX1_sawOfAll.2.1 0 = .ok (.iconst 0, 1) := by decide +kernel
theorem dc_X1_sawOfAll_1 : decode mX1_sawOfAll.2.1 1 = .ok (.istore_n 1, 1) := by decide +kernel
theorem dc_X1_sawOfAll_2 : decode mX1_sawOfAll.2.1 2 = .ok (.iconst 0, 1) := by decide +kernel
theorem dc_X1_sawOfAll_3 : decode mX1_sawOfAll.2.1 3 = .ok (.istore_n 2, 1) := by decide +kernel
theorem dc_X1_sawOfAll_4 : decode mX1_sawOfAll.2.1 4 = .ok (.iload_n 2, 1) := by decide +kernel
theorem dc_X1_sawOfAll_5 : decode mX1_sawOfAll.2.1 5 = .ok (.aload_n 0, 1) := by decide +kernel
theorem dc_X1_sawOfAll_6 : decode mX1_sawOfAll.2.1 6 = .ok (.getfield 17, 3) := by decide +kernel
theorem dc_X1_sawOfAll_9 : decode mX1_sawOfAll.2.1 9 = .ok (.if_icmp .ge 21, 3) := by decide +kernel
theorem dc_X1_sawOfAll_12 : decode mX1_sawOfAll.2.1 12 = .ok (.iload_n 1, 1) := by decide +kernel
theorem dc_X1_sawOfAll_13 : decode mX1_sawOfAll.2.1 13 = .ok (.aload_n 0, 1) := by decide +kernel
theorem dc_X1_sawOfAll_14 : decode mX1_sawOfAll.2.1 14 = .ok (.getfield 11, 3) := by decide +kernel
theorem dc_X1_sawOfAll_17 : decode mX1_sawOfAll.2.1 17 = .ok (.iload_n 2, 1) := by decide +kernel
theorem dc_X1_sawOfAll_18 : decode mX1_sawOfAll.2.1 18 = .ok (.aaload, 1) := by decide +kernel
theorem dc_X1_sawOfAll_19 : decode mX1_sawOfAll.2.1 19 = .ok (.getfield 50, 3) := by decide +kernel
theorem dc_X1_sawOfAll_22 : decode mX1_sawOfAll.2.1 22 = .ok (.iadd, 1) := by decide +kernel
theorem dc_X1_sawOfAll_23 : decode mX1_sawOfAll.2.1 23 = .ok (.istore_n 1, 1) := by decide +kernel
theorem dc_X1_sawOfAll_24 : decode mX1_sawOfAll.2.1 24 = .ok (.iinc 2 1, 3) := by decide +kernel
theorem dc_X1_sawOfAll_27 : decode mX1_sawOfAll.2.1 27 = .ok (.goto (-23), 3) := by decide +kernel
theorem dc_X1_sawOfAll_30 : decode mX1_sawOfAll.2.1 30 = .ok (.iload_n 1, 1) := by decide +kernel
theorem dc_X1_sawOfAll_31 : decode mX1_sawOfAll.2.1 31 = .ok (.ireturn, 1) := by decide +kernel
theorem dc_X1_shipsInPort_0 : decode mX1_shipsInPort.2.1 0 = .ok (.iconst 0, 1) := by decide +kernel
theorem dc_X1_shipsInPort_1 : decode mX1_shipsInPort.2.1 1 = .ok (.istore_n 1, 1) := by decide +kernel
theorem dc_X1_shipsInPort_2 : decode mX1_shipsInPort.2.1 2 = .ok (.iconst 0, 1) := by decide +kernel
theorem dc_X1_shipsInPort_3 : decode mX1_shipsInPort.2.1 3 = .ok (.istore_n 2, 1) := by decide +kernel
theorem dc_X1_shipsInPort_4 : decode mX1_shipsInPort.2.1 4 = .ok (.iload_n 2, 1) := by decide +kernel
theorem dc_X1_shipsInPort_5 : decode mX1_shipsInPort.2.1 5 = .ok (.aload_n 0, 1) := by decide +kernel
theorem dc_X1_shipsInPort_6 : decode mX1_shipsInPort.2.1 6 = .ok (.getfield 17, 3) := by decide +kernel
theorem dc_X1_shipsInPort_9 : decode mX1_shipsInPort.2.1 9 = .ok (.if_icmp .ge 23, 3) := by decide +kernel
theorem dc_X1_shipsInPort_12 : decode mX1_shipsInPort.2.1 12 = .ok (.iload_n 1, 1) := by decide +kernel
theorem dc_X1_shipsInPort_13 : decode mX1_shipsInPort.2.1 13 = .ok (.aload_n 0, 1) := by decide +kernel
theorem dc_X1_shipsInPort_14 : decode mX1_shipsInPort.2.1 14 = .ok (.getfield 11, 3) := by decide +kernel
theorem dc_X1_shipsInPort_17 : decode mX1_shipsInPort.2.1 17 = .ok (.iload_n 2, 1) := by decide +kernel
theorem dc_X1_shipsInPort_18 : decode mX1_shipsInPort.2.1 18 = .ok (.aaload, 1) := by decide +kernel
theorem dc_X1_shipsInPort_19 : decode mX1_shipsInPort.2.1 19 = .ok (.getfield 53, 3) := by decide +kernel
theorem dc_X1_shipsInPort_22 : decode mX1_shipsInPort.2.1 22 = .ok (.iload_n 2, 1) := by decide +kernel
theorem dc_X1_shipsInPort_23 : decode mX1_shipsInPort.2.1 23 = .ok (.ishl, 1) := by decide +kernel
theorem dc_X1_shipsInPort_24 : decode mX1_shipsInPort.2.1 24 = .ok (.ior, 1) := by decide +kernel
theorem dc_X1_shipsInPort_25 : decode mX1_shipsInPort.2.1 25 = .ok (.istore_n 1, 1) := by decide +kernel
theorem dc_X1_shipsInPort_26 : decode mX1_shipsInPort.2.1 26 = .ok (.iinc 2 1, 3) := by decide +kernel
theorem dc_X1_shipsInPort_29 : decode mX1_shipsInPort.2.1 29 = .ok (.goto (-25), 3) := by decide +kernel
theorem dc_X1_shipsInPort_32 : decode mX1_shipsInPort.2.1 32 = .ok (.iload_n 1, 1) := by decide +kernel
theorem dc_X1_shipsInPort_33 : decode mX1_shipsInPort.2.1 33 = .ok (.ireturn, 1) := by decide +kernel
theorem dc_X1_shipsAt_0 : decode mX1_shipsAt.2.1 0 = .ok (.iconst 0, 1) := by decide +kernel
theorem dc_X1_shipsAt_1 : decode mX1_shipsAt.2.1 1 = .ok (.istore_n 2, 1) := by decide +kernel
theorem dc_X1_shipsAt_2 : decode mX1_shipsAt.2.1 2 = .ok (.iconst 0, 1) := by decide +kernel
theorem dc_X1_shipsAt_3 : decode mX1_shipsAt.2.1 3 = .ok (.istore_n 3, 1) := by decide +kernel
theorem dc_X1_shipsAt_4 : decode mX1_shipsAt.2.1 4 = .ok (.iload_n 3, 1) := by decide +kernel
theorem dc_X1_shipsAt_5 : decode mX1_shipsAt.2.1 5 = .ok (.aload_n 0, 1) := by decide +kernel
theorem dc_X1_shipsAt_6 : decode mX1_shipsAt.2.1 6 = .ok (.getfield 17, 3) := by decide +kernel
theorem dc_X1_shipsAt_9 : decode mX1_shipsAt.2.1 9 = .ok (.if_icmp .ge 40, 3) := by decide +kernel
theorem dc_X1_shipsAt_12 : decode mX1_shipsAt.2.1 12 = .ok (.aload_n 0, 1) := by decide +kernel
theorem dc_X1_shipsAt_13 : decode mX1_shipsAt.2.1 13 = .ok (.getfield 11, 3) := by decide +kernel
theorem dc_X1_shipsAt_16 : decode mX1_shipsAt.2.1 16 = .ok (.iload_n 3, 1) := by decide +kernel
theorem dc_X1_shipsAt_17 : decode mX1_shipsAt.2.1 17 = .ok (.aaload, 1) := by decide +kernel
theorem dc_X1_shipsAt_18 : decode mX1_shipsAt.2.1 18 = .ok (.getfield 53, 3) := by decide +kernel
theorem dc_X1_shipsAt_21 : decode mX1_shipsAt.2.1 21 = .ok (.ifCond .ne 22, 3) := by decide +kernel
theorem dc_X1_shipsAt_24 : decode mX1_shipsAt.2.1 24 = .ok (.aload_n 0, 1) := by decide +kernel
theorem dc_X1_shipsAt_25 : decode mX1_shipsAt.2.1 25 = .ok (.getfield 11, 3) := by decide +kernel
theorem dc_X1_shipsAt_28 : decode mX1_shipsAt.2.1 28 = .ok (.iload_n 3, 1) := by decide +kernel
theorem dc_X1_shipsAt_29 : decode mX1_shipsAt.2.1 29 = .ok (.aaload, 1) := by decide +kernel
theorem dc_X1_shipsAt_30 : decode mX1_shipsAt.2.1 30 = .ok (.getfield 56, 3) := by decide +kernel
theorem dc_X1_shipsAt_33 : decode mX1_shipsAt.2.1 33 = .ok (.iload_n 1, 1) := by decide +kernel
theorem dc_X1_shipsAt_34 : decode mX1_shipsAt.2.1 34 = .ok (.if_icmp .ne 9, 3) := by decide +kernel
theorem dc_X1_shipsAt_37 : decode mX1_shipsAt.2.1 37 = .ok (.iload_n 2, 1) := by decide +kernel
theorem dc_X1_shipsAt_38 : decode mX1_shipsAt.2.1 38 = .ok (.iconst 1, 1) := by decide +kernel
theorem dc_X1_shipsAt_39 : decode mX1_shipsAt.2.1 39 = .ok (.iload_n 3, 1) := by decide +kernel
theorem dc_X1_shipsAt_40 : decode mX1_shipsAt.2.1 40 = .ok (.ishl, 1) := by decide +kernel
theorem dc_X1_shipsAt_41 : decode mX1_shipsAt.2.1 41 = .ok (.ior, 1) := by decide +kernel
theorem dc_X1_shipsAt_42 : decode mX1_shipsAt.2.1 42 = .ok (.istore_n 2, 1) := by decide +kernel
theorem dc_X1_shipsAt_43 : decode mX1_shipsAt.2.1 43 = .ok (.iinc 3 1, 3) := by decide +kernel
theorem dc_X1_shipsAt_46 : decode mX1_shipsAt.2.1 46 = .ok (.goto (-42), 3) := by decide +kernel
theorem dc_X1_shipsAt_49 : decode mX1_shipsAt.2.1 49 = .ok (.iload_n 2, 1) := by decide +kernel
theorem dc_X1_shipsAt_50 : decode mX1_shipsAt.2.1 50 = .ok (.ireturn, 1) := by decide +kernel
theorem dc_X1_cellsTaken_0 : decode mX1_cellsTaken.2.1 0 = .ok (.iconst 0, 1) := by decide +kernel
theorem dc_X1_cellsTaken_1 : decode mX1_cellsTaken.2.1 1 = .ok (.istore_n 1, 1) := by decide +kernel
theorem dc_X1_cellsTaken_2 : decode mX1_cellsTaken.2.1 2 = .ok (.iconst 0, 1) := by decide +kernel
theorem dc_X1_cellsTaken_3 : decode mX1_cellsTaken.2.1 3 = .ok (.istore_n 2, 1) := by decide +kernel
theorem dc_X1_cellsTaken_4 : decode mX1_cellsTaken.2.1 4 = .ok (.iload_n 2, 1) := by decide +kernel
theorem dc_X1_cellsTaken_5 : decode mX1_cellsTaken.2.1 5 = .ok (.aload_n 0, 1) := by decide +kernel
theorem dc_X1_cellsTaken_6 : decode mX1_cellsTaken.2.1 6 = .ok (.getfield 17, 3) := by decide +kernel
theorem dc_X1_cellsTaken_9 : decode mX1_cellsTaken.2.1 9 = .ok (.if_icmp .ge 35, 3) := by decide +kernel
theorem dc_X1_cellsTaken_12 : decode mX1_cellsTaken.2.1 12 = .ok (.aload_n 0, 1) := by decide +kernel
theorem dc_X1_cellsTaken_13 : decode mX1_cellsTaken.2.1 13 = .ok (.getfield 11, 3) := by decide +kernel
theorem dc_X1_cellsTaken_16 : decode mX1_cellsTaken.2.1 16 = .ok (.iload_n 2, 1) := by decide +kernel
theorem dc_X1_cellsTaken_17 : decode mX1_cellsTaken.2.1 17 = .ok (.aaload, 1) := by decide +kernel
theorem dc_X1_cellsTaken_18 : decode mX1_cellsTaken.2.1 18 = .ok (.getfield 53, 3) := by decide +kernel
theorem dc_X1_cellsTaken_21 : decode mX1_cellsTaken.2.1 21 = .ok (.ifCond .ne 17, 3) := by decide +kernel
theorem dc_X1_cellsTaken_24 : decode mX1_cellsTaken.2.1 24 = .ok (.iload_n 1, 1) := by decide +kernel
theorem dc_X1_cellsTaken_25 : decode mX1_cellsTaken.2.1 25 = .ok (.iconst 1, 1) := by decide +kernel
theorem dc_X1_cellsTaken_26 : decode mX1_cellsTaken.2.1 26 = .ok (.aload_n 0, 1) := by decide +kernel
theorem dc_X1_cellsTaken_27 : decode mX1_cellsTaken.2.1 27 = .ok (.getfield 11, 3) := by decide +kernel
theorem dc_X1_cellsTaken_30 : decode mX1_cellsTaken.2.1 30 = .ok (.iload_n 2, 1) := by decide +kernel
theorem dc_X1_cellsTaken_31 : decode mX1_cellsTaken.2.1 31 = .ok (.aaload, 1) := by decide +kernel
theorem dc_X1_cellsTaken_32 : decode mX1_cellsTaken.2.1 32 = .ok (.getfield 56, 3) := by decide +kernel
theorem dc_X1_cellsTaken_35 : decode mX1_cellsTaken.2.1 35 = .ok (.ishl, 1) := by decide +kernel
theorem dc_X1_cellsTaken_36 : decode mX1_cellsTaken.2.1 36 = .ok (.ior, 1) := by decide +kernel
theorem dc_X1_cellsTaken_37 : decode mX1_cellsTaken.2.1 37 = .ok (.istore_n 1, 1) := by decide +kernel
theorem dc_X1_cellsTaken_38 : decode mX1_cellsTaken.2.1 38 = .ok (.iinc 2 1, 3) := by decide +kernel
theorem dc_X1_cellsTaken_41 : decode mX1_cellsTaken.2.1 41 = .ok (.goto (-37), 3) := by decide +kernel
theorem dc_X1_cellsTaken_44 : decode mX1_cellsTaken.2.1 44 = .ok (.iload_n 1, 1) := by decide +kernel
theorem dc_X1_cellsTaken_45 : decode mX1_cellsTaken.2.1 45 = .ok (.ireturn, 1) := by decide +kernel
theorem dc_X1_nearestToFirst_0 : decode mX1_nearestToFirst.2.1 0 = .ok (.iconst (-1), 1) := by decide +kernel
theorem dc_X1_nearestToFirst_1 : decode mX1_nearestToFirst.2.1 1 = .ok (.istore_n 1, 1) := by decide +kernel
theorem dc_X1_nearestToFirst_2 : decode mX1_nearestToFirst.2.1 2 = .ok (.bipush 24, 2) := by decide +kernel
theorem dc_X1_nearestToFirst_4 : decode mX1_nearestToFirst.2.1 4 = .ok (.istore_n 2, 1) := by decide +kernel
theorem dc_X1_nearestToFirst_5 : decode mX1_nearestToFirst.2.1 5 = .ok (.iconst 0, 1) := by decide +kernel
theorem dc_X1_nearestToFirst_6 : decode mX1_nearestToFirst.2.1 6 = .ok (.istore_n 3, 1) := by decide +kernel
theorem dc_X1_nearestToFirst_7 : decode mX1_nearestToFirst.2.1 7 = .ok (.iload_n 3, 1) := by decide +kernel
theorem dc_X1_nearestToFirst_8 : decode mX1_nearestToFirst.2.1 8 = .ok (.aload_n 0, 1) := by decide +kernel
theorem dc_X1_nearestToFirst_9 : decode mX1_nearestToFirst.2.1 9 = .ok (.getfield 17, 3) := by decide +kernel
theorem dc_X1_nearestToFirst_12 : decode mX1_nearestToFirst.2.1 12 = .ok (.if_icmp .ge 46, 3) := by decide +kernel
theorem dc_X1_nearestToFirst_15 : decode mX1_nearestToFirst.2.1 15 = .ok (.aload_n 0, 1) := by decide +kernel
theorem dc_X1_nearestToFirst_16 : decode mX1_nearestToFirst.2.1 16 = .ok (.getfield 11, 3) := by decide +kernel
theorem dc_X1_nearestToFirst_19 : decode mX1_nearestToFirst.2.1 19 = .ok (.iload_n 3, 1) := by decide +kernel
theorem dc_X1_nearestToFirst_20 : decode mX1_nearestToFirst.2.1 20 = .ok (.aaload, 1) := by decide +kernel
theorem dc_X1_nearestToFirst_21 : decode mX1_nearestToFirst.2.1 21 = .ok (.getfield 53, 3) := by decide +kernel
theorem dc_X1_nearestToFirst_24 : decode mX1_nearestToFirst.2.1 24 = .ok (.ifCond .ne 28, 3) := by decide +kernel
theorem dc_X1_nearestToFirst_27 : decode mX1_nearestToFirst.2.1 27 = .ok (.aload_n 0, 1) := by decide +kernel
theorem dc_X1_nearestToFirst_28 : decode mX1_nearestToFirst.2.1 28 = .ok (.getfield 11, 3) := by decide +kernel
theorem dc_X1_nearestToFirst_31 : decode mX1_nearestToFirst.2.1 31 = .ok (.iload_n 3, 1) := by decide +kernel
theorem dc_X1_nearestToFirst_32 : decode mX1_nearestToFirst.2.1 32 = .ok (.aaload, 1) := by decide +kernel
theorem dc_X1_nearestToFirst_33 : decode mX1_nearestToFirst.2.1 33 = .ok (.getfield 56, 3) := by decide +kernel
theorem dc_X1_nearestToFirst_36 : decode mX1_nearestToFirst.2.1 36 = .ok (.iload_n 2, 1) := by decide +kernel
theorem dc_X1_nearestToFirst_37 : decode mX1_nearestToFirst.2.1 37 = .ok (.if_icmp .ge 15, 3) := by decide +kernel
theorem dc_X1_nearestToFirst_40 : decode mX1_nearestToFirst.2.1 40 = .ok (.aload_n 0, 1) := by decide +kernel
theorem dc_X1_nearestToFirst_41 : decode mX1_nearestToFirst.2.1 41 = .ok (.getfield 11, 3) := by decide +kernel
theorem dc_X1_nearestToFirst_44 : decode mX1_nearestToFirst.2.1 44 = .ok (.iload_n 3, 1) := by decide +kernel
theorem dc_X1_nearestToFirst_45 : decode mX1_nearestToFirst.2.1 45 = .ok (.aaload, 1) := by decide +kernel
theorem dc_X1_nearestToFirst_46 : decode mX1_nearestToFirst.2.1 46 = .ok (.getfield 56, 3) := by decide +kernel
theorem dc_X1_nearestToFirst_49 : decode mX1_nearestToFirst.2.1 49 = .ok (.istore_n 2, 1) := by decide +kernel
theorem dc_X1_nearestToFirst_50 : decode mX1_nearestToFirst.2.1 50 = .ok (.iload_n 3, 1) := by decide +kernel
theorem dc_X1_nearestToFirst_51 : decode mX1_nearestToFirst.2.1 51 = .ok (.istore_n 1, 1) := by decide +kernel
theorem dc_X1_nearestToFirst_52 : decode mX1_nearestToFirst.2.1 52 = .ok (.iinc 3 1, 3) := by decide +kernel
theorem dc_X1_nearestToFirst_55 : decode mX1_nearestToFirst.2.1 55 = .ok (.goto (-48), 3) := by decide +kernel
theorem dc_X1_nearestToFirst_58 : decode mX1_nearestToFirst.2.1 58 = .ok (.iload_n 1, 1) := by decide +kernel
theorem dc_X1_nearestToFirst_59 : decode mX1_nearestToFirst.2.1 59 = .ok (.ireturn, 1) := by decide +kernel
theorem dc_X2_init_0 : decode mX2_init.2.1 0 = .ok (.aload_n 0, 1) := by decide +kernel
theorem dc_X2_init_1 : decode mX2_init.2.1 1 = .ok (.invokespecial 3, 3) := by decide +kernel
theorem dc_X2_init_4 : decode mX2_init.2.1 4 = .ok (.aload_n 0, 1) := by decide +kernel
theorem dc_X2_init_5 : decode mX2_init.2.1 5 = .ok (.iconst 5, 1) := by decide +kernel
theorem dc_X2_init_6 : decode mX2_init.2.1 6 = .ok (.putfield 9, 3) := by decide +kernel
theorem dc_X2_init_9 : decode mX2_init.2.1 9 = .ok (.aload_n 0, 1) := by decide +kernel
theorem dc_X2_init_10 : decode mX2_init.2.1 10 = .ok (.iconst 4, 1) := by decide +kernel
theorem dc_X2_init_11 : decode mX2_init.2.1 11 = .ok (.putfield 15, 3) := by decide +kernel
theorem dc_X2_init_14 : decode mX2_init.2.1 14 = .ok (.aload_n 0, 1) := by decide +kernel
theorem dc_X2_init_15 : decode mX2_init.2.1 15 = .ok (.iconst 1, 1) := by decide +kernel
theorem dc_X2_init_16 : decode mX2_init.2.1 16 = .ok (.putfield 18, 3) := by decide +kernel
theorem dc_X2_init_19 : decode mX2_init.2.1 19 = .ok (.aload_n 0, 1) := by decide +kernel
theorem dc_X2_init_20 : decode mX2_init.2.1 20 = .ok (.iconst 0, 1) := by decide +kernel
theorem dc_X2_init_21 : decode mX2_init.2.1 21 = .ok (.putfield 21, 3) := by decide +kernel
theorem dc_X2_init_24 : decode mX2_init.2.1 24 = .ok (.aload_n 0, 1) := by decide +kernel
theorem dc_X2_init_25 : decode mX2_init.2.1 25 = .ok (.iconst 0, 1) := by decide +kernel
theorem dc_X2_init_26 : decode mX2_init.2.1 26 = .ok (.putfield 24, 3) := by decide +kernel
theorem dc_X2_init_29 : decode mX2_init.2.1 29 = .ok (.return_, 1) := by decide +kernel
theorem dc_X2_take_0 : decode mX2_take.2.1 0 = .ok (.aload_n 0, 1) := by decide +kernel
theorem dc_X2_take_1 : decode mX2_take.2.1 1 = .ok (.aload_n 1, 1) := by decide +kernel
theorem dc_X2_take_2 : decode mX2_take.2.1 2 = .ok (.getfield 9, 3) := by decide +kernel
theorem dc_X2_take_5 : decode mX2_take.2.1 5 = .ok (.putfield 9, 3) := by decide +kernel
theorem dc_X2_take_8 : decode mX2_take.2.1 8 = .ok (.aload_n 0, 1) := by decide +kernel
theorem dc_X2_take_9 : decode mX2_take.2.1 9 = .ok (.aload_n 1, 1) := by decide +kernel
theorem dc_X2_take_10 : decode mX2_take.2.1 10 = .ok (.getfield 15, 3) := by decide +kernel
theorem dc_X2_take_13 : decode mX2_take.2.1 13 = .ok (.putfield 15, 3) := by decide +kernel
theorem dc_X2_take_16 : decode mX2_take.2.1 16 = .ok (.aload_n 0, 1) := by decide +kernel
theorem dc_X2_take_17 : decode mX2_take.2.1 17 = .ok (.aload_n 1, 1) := by decide +kernel
theorem dc_X2_take_18 : decode mX2_take.2.1 18 = .ok (.getfield 18, 3) := by decide +kernel
theorem dc_X2_take_21 : decode mX2_take.2.1 21 = .ok (.putfield 18, 3) := by decide +kernel
theorem dc_X2_take_24 : decode mX2_take.2.1 24 = .ok (.aload_n 0, 1) := by decide +kernel
theorem dc_X2_take_25 : decode mX2_take.2.1 25 = .ok (.aload_n 1, 1) := by decide +kernel
theorem dc_X2_take_26 : decode mX2_take.2.1 26 = .ok (.getfield 21, 3) := by decide +kernel
theorem dc_X2_take_29 : decode mX2_take.2.1 29 = .ok (.putfield 21, 3) := by decide +kernel
theorem dc_X2_take_32 : decode mX2_take.2.1 32 = .ok (.aload_n 0, 1) := by decide +kernel
theorem dc_X2_take_33 : decode mX2_take.2.1 33 = .ok (.aload_n 1, 1) := by decide +kernel
theorem dc_X2_take_34 : decode mX2_take.2.1 34 = .ok (.getfield 24, 3) := by decide +kernel
theorem dc_X2_take_37 : decode mX2_take.2.1 37 = .ok (.putfield 24, 3) := by decide +kernel
theorem dc_X2_take_40 : decode mX2_take.2.1 40 = .ok (.return_, 1) := by decide +kernel
theorem dc_X2_mayBecome_0 : decode mX2_mayBecome.2.1 0 = .ok (.iload_n 0, 1) := by decide +kernel
theorem dc_X2_mayBecome_1 : decode mX2_mayBecome.2.1 1 = .ok (.tableswitch 63 0 3 #[31, 40, 48, 55], 31) := by decide +kernel
theorem dc_X2_mayBecome_32 : decode mX2_mayBecome.2.1 32 = .ok (.iload_n 1, 1) := by decide +kernel
theorem dc_X2_mayBecome_33 : decode mX2_mayBecome.2.1 33 = .ok (.iconst 0, 1) := by decide +kernel
theorem dc_X2_mayBecome_34 : decode mX2_mayBecome.2.1 34 = .ok (.sipush 4095, 3) := by decide +kernel
theorem dc_X2_mayBecome_37 : decode mX2_mayBecome.2.1 37 = .ok (.invokestatic 27, 3) := by decide +kernel
theorem dc_X2_mayBecome_40 : decode mX2_mayBecome.2.1 40 = .ok (.ireturn, 1) := by decide +kernel
theorem dc_X2_mayBecome_41 : decode mX2_mayBecome.2.1 41 = .ok (.iload_n 1, 1) := by decide +kernel
theorem dc_X2_mayBecome_42 : decode mX2_mayBecome.2.1 42 = .ok (.iconst 0, 1) := by decide +kernel
theorem dc_X2_mayBecome_43 : decode mX2_mayBecome.2.1 43 = .ok (.bipush 23, 2) := by decide +kernel
theorem dc_X2_mayBecome_45 : decode mX2_mayBecome.2.1 45 = .ok (.invokestatic 27, 3) := by decide +kernel
theorem dc_X2_mayBecome_48 : decode mX2_mayBecome.2.1 48 = .ok (.ireturn, 1) := by decide +kernel
theorem dc_X2_mayBecome_49 : decode mX2_mayBecome.2.1 49 = .ok (.iload_n 1, 1) := by decide +kernel
theorem dc_X2_mayBecome_50 : decode mX2_mayBecome.2.1 50 = .ok (.iconst 0, 1) := by decide +kernel
theorem dc_X2_mayBecome_51 : decode mX2_mayBecome.2.1 51 = .ok (.iconst 1, 1) := by decide +kernel
theorem dc_X2_mayBecome_52 : decode mX2_mayBecome.2.1 52 = .ok (.invokestatic 27, 3) := by decide +kernel
theorem dc_X2_mayBecome_55 : decode mX2_mayBecome.2.1 55 = .ok (.ireturn, 1) := by decide +kernel
theorem dc_X2_mayBecome_56 : decode mX2_mayBecome.2.1 56 = .ok (.iload_n 1, 1) := by decide +kernel
theorem dc_X2_mayBecome_57 : decode mX2_mayBecome.2.1 57 = .ok (.iconst 0, 1) := by decide +kernel
theorem dc_X2_mayBecome_58 : decode mX2_mayBecome.2.1 58 = .ok (.ldc 31, 2) := by decide +kernel
theorem dc_X2_mayBecome_60 : decode mX2_mayBecome.2.1 60 = .ok (.invokestatic 27, 3) := by decide +kernel
theorem dc_X2_mayBecome_63 : decode mX2_mayBecome.2.1 63 = .ok (.ireturn, 1) := by decide +kernel
theorem dc_X2_mayBecome_64 : decode mX2_mayBecome.2.1 64 = .ok (.iconst 0, 1) := by decide +kernel
theorem dc_X2_mayBecome_65 : decode mX2_mayBecome.2.1 65 = .ok (.ireturn, 1) := by decide +kernel
theorem dc_X2_become_0 : decode mX2_become.2.1 0 = .ok (.iload_n 1, 1) := by decide +kernel
theorem dc_X2_become_1 : decode mX2_become.2.1 1 = .ok (.tableswitch 51 0 2 #[27, 35, 43], 27) := by decide +kernel
theorem dc_X2_become_28 : decode mX2_become.2.1 28 = .ok (.aload_n 0, 1) := by decide +kernel
theorem dc_X2_become_29 : decode mX2_become.2.1 29 = .ok (.iload_n 2, 1) := by decide +kernel
theorem dc_X2_become_30 : decode mX2_become.2.1 30 = .ok (.putfield 9, 3) := by decide +kernel
theorem dc_X2_become_33 : decode mX2_become.2.1 33 = .ok (.goto 24, 3) := by decide +kernel
theorem dc_X2_become_36 : decode mX2_become.2.1 36 = .ok (.aload_n 0, 1) := by decide +kernel
theorem dc_X2_become_37 : decode mX2_become.2.1 37 = .ok (.iload_n 2, 1) := by decide +kernel
theorem dc_X2_become_38 : decode mX2_become.2.1 38 = .ok (.putfield 15, 3) := by decide +kernel
theorem dc_X2_become_41 : decode mX2_become.2.1 41 = .ok (.goto 16, 3) := by decide +kernel
theorem dc_X2_become_44 : decode mX2_become.2.1 44 = .ok (.aload_n 0, 1) := by decide +kernel
theorem dc_X2_become_45 : decode mX2_become.2.1 45 = .ok (.iload_n 2, 1) := by decide +kernel
theorem dc_X2_become_46 : decode mX2_become.2.1 46 = .ok (.putfield 18, 3) := by decide +kernel
theorem dc_X2_become_49 : decode mX2_become.2.1 49 = .ok (.goto 8, 3) := by decide +kernel
theorem dc_X2_become_52 : decode mX2_become.2.1 52 = .ok (.aload_n 0, 1) := by decide +kernel
theorem dc_X2_become_53 : decode mX2_become.2.1 53 = .ok (.iload_n 2, 1) := by decide +kernel
theorem dc_X2_become_54 : decode mX2_become.2.1 54 = .ok (.putfield 21, 3) := by decide +kernel
theorem dc_X2_become_57 : decode mX2_become.2.1 57 = .ok (.return_, 1) := by decide +kernel
theorem dc_X2_told_0 : decode mX2_told.2.1 0 = .ok (.iload_n 1, 1) := by decide +kernel
theorem dc_X2_told_1 : decode mX2_told.2.1 1 = .ok (.tableswitch 61 0 4 #[35, 40, 45, 50, 55], 35) := by decide +kernel
theorem dc_X2_told_36 : decode mX2_told.2.1 36 = .ok (.aload_n 0, 1) := by decide +kernel
theorem dc_X2_told_37 : decode mX2_told.2.1 37 = .ok (.getfield 9, 3) := by decide +kernel
theorem dc_X2_told_40 : decode mX2_told.2.1 40 = .ok (.ireturn, 1) := by decide +kernel
theorem dc_X2_told_41 : decode mX2_told.2.1 41 = .ok (.aload_n 0, 1) := by decide +kernel
theorem dc_X2_told_42 : decode mX2_told.2.1 42 = .ok (.getfield 15, 3) := by decide +kernel
theorem dc_X2_told_45 : decode mX2_told.2.1 45 = .ok (.ireturn, 1) := by decide +kernel
theorem dc_X2_told_46 : decode mX2_told.2.1 46 = .ok (.aload_n 0, 1) := by decide +kernel
theorem dc_X2_told_47 : decode mX2_told.2.1 47 = .ok (.getfield 18, 3) := by decide +kernel
theorem dc_X2_told_50 : decode mX2_told.2.1 50 = .ok (.ireturn, 1) := by decide +kernel
theorem dc_X2_told_51 : decode mX2_told.2.1 51 = .ok (.aload_n 0, 1) := by decide +kernel
theorem dc_X2_told_52 : decode mX2_told.2.1 52 = .ok (.getfield 21, 3) := by decide +kernel
theorem dc_X2_told_55 : decode mX2_told.2.1 55 = .ok (.ireturn, 1) := by decide +kernel
theorem dc_X2_told_56 : decode mX2_told.2.1 56 = .ok (.aload_n 0, 1) := by decide +kernel
theorem dc_X2_told_57 : decode mX2_told.2.1 57 = .ok (.iconst 0, 1) := by decide +kernel
theorem dc_X2_told_58 : decode mX2_told.2.1 58 = .ok (.invokevirtual 32, 3) := by decide +kernel
theorem dc_X2_told_61 : decode mX2_told.2.1 61 = .ok (.ireturn, 1) := by decide +kernel
theorem dc_X2_told_62 : decode mX2_told.2.1 62 = .ok (.aload_n 0, 1) := by decide +kernel
theorem dc_X2_told_63 : decode mX2_told.2.1 63 = .ok (.iconst 0, 1) := by decide +kernel
theorem dc_X2_told_64 : decode mX2_told.2.1 64 = .ok (.invokevirtual 36, 3) := by decide +kernel
theorem dc_X2_told_67 : decode mX2_told.2.1 67 = .ok (.ireturn, 1) := by decide +kernel
theorem dc_X2_tickAhead_0 : decode mX2_tickAhead.2.1 0 = .ok (.aload_n 0, 1) := by decide +kernel
theorem dc_X2_tickAhead_1 : decode mX2_tickAhead.2.1 1 = .ok (.getfield 24, 3) := by decide +kernel
theorem dc_X2_tickAhead_4 : decode mX2_tickAhead.2.1 4 = .ok (.iload_n 1, 1) := by decide +kernel
theorem dc_X2_tickAhead_5 : decode mX2_tickAhead.2.1 5 = .ok (.iadd, 1) := by decide +kernel
theorem dc_X2_tickAhead_6 : decode mX2_tickAhead.2.1 6 = .ok (.ldc 39, 2) := by decide +kernel
theorem dc_X2_tickAhead_8 : decode mX2_tickAhead.2.1 8 = .ok (.invokestatic 40, 3) := by decide +kernel
theorem dc_X2_tickAhead_11 : decode mX2_tickAhead.2.1 11 = .ok (.ireturn, 1) := by decide +kernel
theorem dc_X2_bitAhead_0 : decode mX2_bitAhead.2.1 0 = .ok (.iconst 1, 1) := by decide +kernel
theorem dc_X2_bitAhead_1 : decode mX2_bitAhead.2.1 1 = .ok (.aload_n 0, 1) := by decide +kernel
theorem dc_X2_bitAhead_2 : decode mX2_bitAhead.2.1 2 = .ok (.iload_n 1, 1) := by decide +kernel
theorem dc_X2_bitAhead_3 : decode mX2_bitAhead.2.1 3 = .ok (.invokevirtual 46, 3) := by decide +kernel
theorem dc_X2_bitAhead_6 : decode mX2_bitAhead.2.1 6 = .ok (.bipush 12, 2) := by decide +kernel
theorem dc_X2_bitAhead_8 : decode mX2_bitAhead.2.1 8 = .ok (.irem, 1) := by decide +kernel
theorem dc_X2_bitAhead_9 : decode mX2_bitAhead.2.1 9 = .ok (.ishl, 1) := by decide +kernel
theorem dc_X2_bitAhead_10 : decode mX2_bitAhead.2.1 10 = .ok (.ireturn, 1) := by decide +kernel
theorem dc_X2_firstAhead_0 : decode mX2_firstAhead.2.1 0 = .ok (.aload_n 0, 1) := by decide +kernel
theorem dc_X2_firstAhead_1 : decode mX2_firstAhead.2.1 1 = .ok (.getfield 9, 3) := by decide +kernel
theorem dc_X2_firstAhead_4 : decode mX2_firstAhead.2.1 4 = .ok (.aload_n 0, 1) := by decide +kernel
theorem dc_X2_firstAhead_5 : decode mX2_firstAhead.2.1 5 = .ok (.iload_n 1, 1) := by decide +kernel
theorem dc_X2_firstAhead_6 : decode mX2_firstAhead.2.1 6 = .ok (.invokevirtual 46, 3) := by decide +kernel
theorem dc_X2_firstAhead_9 : decode mX2_firstAhead.2.1 9 = .ok (.bipush 12, 2) := by decide +kernel
theorem dc_X2_firstAhead_11 : decode mX2_firstAhead.2.1 11 = .ok (.irem, 1) := by decide +kernel
theorem dc_X2_firstAhead_12 : decode mX2_firstAhead.2.1 12 = .ok (.ishr, 1) := by decide +kernel
theorem dc_X2_firstAhead_13 : decode mX2_firstAhead.2.1 13 = .ok (.iconst 1, 1) := by decide +kernel
theorem dc_X2_firstAhead_14 : decode mX2_firstAhead.2.1 14 = .ok (.iand, 1) := by decide +kernel
theorem dc_X2_firstAhead_15 : decode mX2_firstAhead.2.1 15 = .ok (.ireturn, 1) := by decide +kernel
theorem dc_X2_secondAhead_0 : decode mX2_secondAhead.2.1 0 = .ok (.aload_n 0, 1) := by decide +kernel
theorem dc_X2_secondAhead_1 : decode mX2_secondAhead.2.1 1 = .ok (.iload_n 1, 1) := by decide +kernel
theorem dc_X2_secondAhead_2 : decode mX2_secondAhead.2.1 2 = .ok (.invokevirtual 49, 3) := by decide +kernel
theorem dc_X2_secondAhead_5 : decode mX2_secondAhead.2.1 5 = .ok (.iconst 2, 1) := by decide +kernel
theorem dc_X2_secondAhead_6 : decode mX2_secondAhead.2.1 6 = .ok (.iand, 1) := by decide +kernel
theorem dc_X2_secondAhead_7 : decode mX2_secondAhead.2.1 7 = .ok (.ifCond .eq 7, 3) := by decide +kernel
theorem dc_X2_secondAhead_10 : decode mX2_secondAhead.2.1 10 = .ok (.iconst 1, 1) := by decide +kernel
theorem dc_X2_secondAhead_11 : decode mX2_secondAhead.2.1 11 = .ok (.goto 4, 3) := by decide +kernel
theorem dc_X2_secondAhead_14 : decode mX2_secondAhead.2.1 14 = .ok (.iconst 0, 1) := by decide +kernel
theorem dc_X2_secondAhead_15 : decode mX2_secondAhead.2.1 15 = .ok (.ireturn, 1) := by decide +kernel
theorem dc_X2_ticksToSource_0 : decode mX2_ticksToSource.2.1 0 = .ok (.aload_n 0, 1) := by decide +kernel
theorem dc_X2_ticksToSource_1 : decode mX2_ticksToSource.2.1 1 = .ok (.getfield 18, 3) := by decide +kernel
theorem dc_X2_ticksToSource_4 : decode mX2_ticksToSource.2.1 4 = .ok (.iconst 1, 1) := by decide +kernel
theorem dc_X2_ticksToSource_5 : decode mX2_ticksToSource.2.1 5 = .ok (.if_icmp .ne 12, 3) := by decide +kernel
theorem dc_X2_ticksToSource_8 : decode mX2_ticksToSource.2.1 8 = .ok (.iload_n 1, 1) := by decide +kernel
theorem dc_X2_ticksToSource_9 : decode mX2_ticksToSource.2.1 9 = .ok (.aload_n 0, 1) := by decide +kernel
theorem dc_X2_ticksToSource_10 : decode mX2_ticksToSource.2.1 10 = .ok (.getfield 15, 3) := by decide +kernel
theorem dc_X2_ticksToSource_13 : decode mX2_ticksToSource.2.1 13 = .ok (.isub, 1) := by decide +kernel
theorem dc_X2_ticksToSource_14 : decode mX2_ticksToSource.2.1 14 = .ok (.goto 4, 3) := by decide +kernel
theorem dc_X2_ticksToSource_17 : decode mX2_ticksToSource.2.1 17 = .ok (.iload_n 1, 1) := by decide +kernel
theorem dc_X2_ticksToSource_18 : decode mX2_ticksToSource.2.1 18 = .ok (.ireturn, 1) := by decide +kernel
theorem dc_X2_shownAhead_0 : decode mX2_shownAhead.2.1 0 = .ok (.aload_n 0, 1) := by decide +kernel
theorem dc_X2_shownAhead_1 : decode mX2_shownAhead.2.1 1 = .ok (.iload_n 1, 1) := by decide +kernel
theorem dc_X2_shownAhead_2 : decode mX2_shownAhead.2.1 2 = .ok (.invokevirtual 52, 3) := by decide +kernel
theorem dc_X2_shownAhead_5 : decode mX2_shownAhead.2.1 5 = .ok (.istore_n 2, 1) := by decide +kernel
theorem dc_X2_shownAhead_6 : decode mX2_shownAhead.2.1 6 = .ok (.iload_n 2, 1) := by decide +kernel
theorem dc_X2_shownAhead_7 : decode mX2_shownAhead.2.1 7 = .ok (.ifCond .lt 11, 3) := by decide +kernel
theorem dc_X2_shownAhead_10 : decode mX2_shownAhead.2.1 10 = .ok (.aload_n 0, 1) := by decide +kernel
theorem dc_X2_shownAhead_11 : decode mX2_shownAhead.2.1 11 = .ok (.iload_n 2, 1) := by decide +kernel
theorem dc_X2_shownAhead_12 : decode mX2_shownAhead.2.1 12 = .ok (.invokevirtual 32, 3) := by decide +kernel
theorem dc_X2_shownAhead_15 : decode mX2_shownAhead.2.1 15 = .ok (.goto 13, 3) := by decide +kernel
theorem dc_X2_shownAhead_18 : decode mX2_shownAhead.2.1 18 = .ok (.aload_n 0, 1) := by decide +kernel
theorem dc_X2_shownAhead_19 : decode mX2_shownAhead.2.1 19 = .ok (.getfield 21, 3) := by decide +kernel
theorem dc_X2_shownAhead_22 : decode mX2_shownAhead.2.1 22 = .ok (.iconst (-1), 1) := by decide +kernel
theorem dc_X2_shownAhead_23 : decode mX2_shownAhead.2.1 23 = .ok (.iload_n 2, 1) := by decide +kernel
theorem dc_X2_shownAhead_24 : decode mX2_shownAhead.2.1 24 = .ok (.isub, 1) := by decide +kernel
theorem dc_X2_shownAhead_25 : decode mX2_shownAhead.2.1 25 = .ok (.ishr, 1) := by decide +kernel
theorem dc_X2_shownAhead_26 : decode mX2_shownAhead.2.1 26 = .ok (.iconst 1, 1) := by decide +kernel
theorem dc_X2_shownAhead_27 : decode mX2_shownAhead.2.1 27 = .ok (.iand, 1) := by decide +kernel
theorem dc_X2_shownAhead_28 : decode mX2_shownAhead.2.1 28 = .ok (.istore_n 3, 1) := by decide +kernel
theorem dc_X2_shownAhead_29 : decode mX2_shownAhead.2.1 29 = .ok (.aload_n 0, 1) := by decide +kernel
theorem dc_X2_shownAhead_30 : decode mX2_shownAhead.2.1 30 = .ok (.iload_n 1, 1) := by decide +kernel
theorem dc_X2_shownAhead_31 : decode mX2_shownAhead.2.1 31 = .ok (.invokevirtual 32, 3) := by decide +kernel
theorem dc_X2_shownAhead_34 : decode mX2_shownAhead.2.1 34 = .ok (.iconst 1, 1) := by decide +kernel
theorem dc_X2_shownAhead_35 : decode mX2_shownAhead.2.1 35 = .ok (.if_icmp .ne 7, 3) := by decide +kernel
theorem dc_X2_shownAhead_38 : decode mX2_shownAhead.2.1 38 = .ok (.iconst 1, 1) := by decide +kernel
theorem dc_X2_shownAhead_39 : decode mX2_shownAhead.2.1 39 = .ok (.goto 4, 3) := by decide +kernel
theorem dc_X2_shownAhead_42 : decode mX2_shownAhead.2.1 42 = .ok (.iconst 0, 1) := by decide +kernel
theorem dc_X2_shownAhead_43 : decode mX2_shownAhead.2.1 43 = .ok (.iload_n 3, 1) := by decide +kernel
theorem dc_X2_shownAhead_44 : decode mX2_shownAhead.2.1 44 = .ok (.iconst 1, 1) := by decide +kernel
theorem dc_X2_shownAhead_45 : decode mX2_shownAhead.2.1 45 = .ok (.if_icmp .ne 7, 3) := by decide +kernel
theorem dc_X2_shownAhead_48 : decode mX2_shownAhead.2.1 48 = .ok (.iconst 2, 1) := by decide +kernel
theorem dc_X2_shownAhead_49 : decode mX2_shownAhead.2.1 49 = .ok (.goto 4, 3) := by decide +kernel
theorem dc_X2_shownAhead_52 : decode mX2_shownAhead.2.1 52 = .ok (.iconst 0, 1) := by decide +kernel
theorem dc_X2_shownAhead_53 : decode mX2_shownAhead.2.1 53 = .ok (.ior, 1) := by decide +kernel
theorem dc_X2_shownAhead_54 : decode mX2_shownAhead.2.1 54 = .ok (.ireturn, 1) := by decide +kernel
theorem dc_X2_passTick_0 : decode mX2_passTick.2.1 0 = .ok (.aload_n 0, 1) := by decide +kernel
theorem dc_X2_passTick_1 : decode mX2_passTick.2.1 1 = .ok (.aload_n 0, 1) := by decide +kernel
theorem dc_X2_passTick_2 : decode mX2_passTick.2.1 2 = .ok (.getfield 21, 3) := by decide +kernel
theorem dc_X2_passTick_5 : decode mX2_passTick.2.1 5 = .ok (.iconst 1, 1) := by decide +kernel
theorem dc_X2_passTick_6 : decode mX2_passTick.2.1 6 = .ok (.ishl, 1) := by decide +kernel
theorem dc_X2_passTick_7 : decode mX2_passTick.2.1 7 = .ok (.aload_n 0, 1) := by decide +kernel
theorem dc_X2_passTick_8 : decode mX2_passTick.2.1 8 = .ok (.iconst 0, 1) := by decide +kernel
theorem dc_X2_passTick_9 : decode mX2_passTick.2.1 9 = .ok (.invokevirtual 32, 3) := by decide +kernel
theorem dc_X2_passTick_12 : decode mX2_passTick.2.1 12 = .ok (.ior, 1) := by decide +kernel
theorem dc_X2_passTick_13 : decode mX2_passTick.2.1 13 = .ok (.ldc 31, 2) := by decide +kernel
theorem dc_X2_passTick_15 : decode mX2_passTick.2.1 15 = .ok (.iand, 1) := by decide +kernel
theorem dc_X2_passTick_16 : decode mX2_passTick.2.1 16 = .ok (.putfield 21, 3) := by decide +kernel
theorem dc_X2_passTick_19 : decode mX2_passTick.2.1 19 = .ok (.aload_n 0, 1) := by decide +kernel
theorem dc_X2_passTick_20 : decode mX2_passTick.2.1 20 = .ok (.aload_n 0, 1) := by decide +kernel
theorem dc_X2_passTick_21 : decode mX2_passTick.2.1 21 = .ok (.iconst 1, 1) := by decide +kernel
theorem dc_X2_passTick_22 : decode mX2_passTick.2.1 22 = .ok (.invokevirtual 46, 3) := by decide +kernel
theorem dc_X2_passTick_25 : decode mX2_passTick.2.1 25 = .ok (.putfield 24, 3) := by decide +kernel
theorem dc_X2_passTick_28 : decode mX2_passTick.2.1 28 = .ok (.return_, 1) := by decide +kernel
theorem dc_X3_init_0 : decode mX3_init.2.1 0 = .ok (.aload_n 0, 1) := by decide +kernel
theorem dc_X3_init_1 : decode mX3_init.2.1 1 = .ok (.invokespecial 3, 3) := by decide +kernel
theorem dc_X3_init_4 : decode mX3_init.2.1 4 = .ok (.aload_n 0, 1) := by decide +kernel
theorem dc_X3_init_5 : decode mX3_init.2.1 5 = .ok (.new 9, 3) := by decide +kernel
theorem dc_X3_init_8 : decode mX3_init.2.1 8 = .ok (.dup, 1) := by decide +kernel
theorem dc_X3_init_9 : decode mX3_init.2.1 9 = .ok (.invokespecial 11, 3) := by decide +kernel
theorem dc_X3_init_12 : decode mX3_init.2.1 12 = .ok (.putfield 12, 3) := by decide +kernel
theorem dc_X3_init_15 : decode mX3_init.2.1 15 = .ok (.aload_n 0, 1) := by decide +kernel
theorem dc_X3_init_16 : decode mX3_init.2.1 16 = .ok (.bipush 13, 2) := by decide +kernel
theorem dc_X3_init_18 : decode mX3_init.2.1 18 = .ok (.anewarray 18, 3) := by decide +kernel
theorem dc_X3_init_21 : decode mX3_init.2.1 21 = .ok (.putfield 20, 3) := by decide +kernel
theorem dc_X3_init_24 : decode mX3_init.2.1 24 = .ok (.iconst 0, 1) := by decide +kernel
theorem dc_X3_init_25 : decode mX3_init.2.1 25 = .ok (.istore_n 1, 1) := by decide +kernel
theorem dc_X3_init_26 : decode mX3_init.2.1 26 = .ok (.iload_n 1, 1) := by decide +kernel
theorem dc_X3_init_27 : decode mX3_init.2.1 27 = .ok (.bipush 12, 2) := by decide +kernel
theorem dc_X3_init_29 : decode mX3_init.2.1 29 = .ok (.if_icmp .gt 22, 3) := by decide +kernel
theorem dc_X3_init_32 : decode mX3_init.2.1 32 = .ok (.aload_n 0, 1) := by decide +kernel
theorem dc_X3_init_33 : decode mX3_init.2.1 33 = .ok (.getfield 20, 3) := by decide +kernel
theorem dc_X3_init_36 : decode mX3_init.2.1 36 = .ok (.iload_n 1, 1) := by decide +kernel
theorem dc_X3_init_37 : decode mX3_init.2.1 37 = .ok (.new 18, 3) := by decide +kernel
theorem dc_X3_init_40 : decode mX3_init.2.1 40 = .ok (.dup, 1) := by decide +kernel
theorem dc_X3_init_41 : decode mX3_init.2.1 41 = .ok (.invokespecial 24, 3) := by decide +kernel
theorem dc_X3_init_44 : decode mX3_init.2.1 44 = .ok (.aastore, 1) := by decide +kernel
theorem dc_X3_init_45 : decode mX3_init.2.1 45 = .ok (.iinc 1 1, 3) := by decide +kernel
theorem dc_X3_init_48 : decode mX3_init.2.1 48 = .ok (.goto (-22), 3) := by decide +kernel
theorem dc_X3_init_51 : decode mX3_init.2.1 51 = .ok (.return_, 1) := by decide +kernel
theorem dc_X3_leastPattern_0 : decode mX3_leastPattern.2.1 0 = .ok (.aload_n 0, 1) := by decide +kernel
theorem dc_X3_leastPattern_1 : decode mX3_leastPattern.2.1 1 = .ok (.getfield 12, 3) := by decide +kernel
theorem dc_X3_leastPattern_4 : decode mX3_leastPattern.2.1 4 = .ok (.aload_n 1, 1) := by decide +kernel
theorem dc_X3_leastPattern_5 : decode mX3_leastPattern.2.1 5 = .ok (.getfield 25, 3) := by decide +kernel
theorem dc_X3_leastPattern_8 : decode mX3_leastPattern.2.1 8 = .ok (.invokevirtual 28, 3) := by decide +kernel
theorem dc_X3_leastPattern_11 : decode mX3_leastPattern.2.1 11 = .ok (.aload_n 0, 1) := by decide +kernel
theorem dc_X3_leastPattern_12 : decode mX3_leastPattern.2.1 12 = .ok (.getfield 20, 3) := by decide +kernel
theorem dc_X3_leastPattern_15 : decode mX3_leastPattern.2.1 15 = .ok (.iconst 0, 1) := by decide +kernel
theorem dc_X3_leastPattern_16 : decode mX3_leastPattern.2.1 16 = .ok (.aaload, 1) := by decide +kernel
theorem dc_X3_leastPattern_17 : decode mX3_leastPattern.2.1 17 = .ok (.aload_n 1, 1) := by decide +kernel
theorem dc_X3_leastPattern_18 : decode mX3_leastPattern.2.1 18 = .ok (.getfield 32, 3) := by decide +kernel
theorem dc_X3_leastPattern_21 : decode mX3_leastPattern.2.1 21 = .ok (.invokevirtual 36, 3) := by decide +kernel
theorem dc_X3_leastPattern_24 : decode mX3_leastPattern.2.1 24 = .ok (.aload_n 0, 1) := by decide +kernel
theorem dc_X3_leastPattern_25 : decode mX3_leastPattern.2.1 25 = .ok (.iload_n 2, 1) := by decide +kernel
theorem dc_X3_leastPattern_26 : decode mX3_leastPattern.2.1 26 = .ok (.bipush 12, 2) := by decide +kernel
theorem dc_X3_leastPattern_28 : decode mX3_leastPattern.2.1 28 = .ok (.invokestatic 39, 3) := by decide +kernel
theorem dc_X3_leastPattern_31 : decode mX3_leastPattern.2.1 31 = .ok (.putfield 45, 3) := by decide +kernel
theorem dc_X3_leastPattern_34 : decode mX3_leastPattern.2.1 34 = .ok (.aload_n 0, 1) := by decide +kernel
theorem dc_X3_leastPattern_35 : decode mX3_leastPattern.2.1 35 = .ok (.iconst 0, 1) := by decide +kernel
theorem dc_X3_leastPattern_36 : decode mX3_leastPattern.2.1 36 = .ok (.putfield 49, 3) := by decide +kernel
theorem dc_X3_leastPattern_39 : decode mX3_leastPattern.2.1 39 = .ok (.aload_n 0, 1) := by decide +kernel
theorem dc_X3_leastPattern_40 : decode mX3_leastPattern.2.1 40 = .ok (.ldc 52, 2) := by decide +kernel
theorem dc_X3_leastPattern_42 : decode mX3_leastPattern.2.1 42 = .ok (.putfield 53, 3) := by decide +kernel
theorem dc_X3_leastPattern_45 : decode mX3_leastPattern.2.1 45 = .ok (.aload_n 0, 1) := by decide +kernel
theorem dc_X3_leastPattern_46 : decode mX3_leastPattern.2.1 46 = .ok (.iconst 0, 1) := by decide +kernel
theorem dc_X3_leastPattern_47 : decode mX3_leastPattern.2.1 47 = .ok (.iconst 0, 1) := by decide +kernel
theorem dc_X3_leastPattern_48 : decode mX3_leastPattern.2.1 48 = .ok (.invokevirtual 56, 3) := by decide +kernel
theorem dc_X3_leastPattern_51 : decode mX3_leastPattern.2.1 51 = .ok (.aload_n 0, 1) := by decide +kernel
theorem dc_X3_leastPattern_52 : decode mX3_leastPattern.2.1 52 = .ok (.getfield 49, 3) := by decide +kernel
theorem dc_X3_leastPattern_55 : decode mX3_leastPattern.2.1 55 = .ok (.ireturn, 1) := by decide +kernel
theorem dc_X3_tryFrom_0 : decode mX3_tryFrom.2.1 0 = .ok (.aload_n 0, 1) := by decide +kernel
theorem dc_X3_tryFrom_1 : decode mX3_tryFrom.2.1 1 = .ok (.getfield 20, 3) := by decide +kernel
theorem dc_X3_tryFrom_4 : decode mX3_tryFrom.2.1 4 = .ok (.iload_n 1, 1) := by decide +kernel
theorem dc_X3_tryFrom_5 : decode mX3_tryFrom.2.1 5 = .ok (.aaload, 1) := by decide +kernel
theorem dc_X3_tryFrom_6 : decode mX3_tryFrom.2.1 6 = .ok (.invokevirtual 60, 3) := by decide +kernel
theorem dc_X3_tryFrom_9 : decode mX3_tryFrom.2.1 9 = .ok (.istore_n 3, 1) := by decide +kernel
theorem dc_X3_tryFrom_10 : decode mX3_tryFrom.2.1 10 = .ok (.iload_n 3, 1) := by decide +kernel
theorem dc_X3_tryFrom_11 : decode mX3_tryFrom.2.1 11 = .ok (.aload_n 0, 1) := by decide +kernel
theorem dc_X3_tryFrom_12 : decode mX3_tryFrom.2.1 12 = .ok (.getfield 53, 3) := by decide +kernel
theorem dc_X3_tryFrom_15 : decode mX3_tryFrom.2.1 15 = .ok (.if_icmp .gt 19, 3) := by decide +kernel
theorem dc_X3_tryFrom_18 : decode mX3_tryFrom.2.1 18 = .ok (.iload_n 3, 1) := by decide +kernel
theorem dc_X3_tryFrom_19 : decode mX3_tryFrom.2.1 19 = .ok (.aload_n 0, 1) := by decide +kernel
theorem dc_X3_tryFrom_20 : decode mX3_tryFrom.2.1 20 = .ok (.getfield 53, 3) := by decide +kernel
theorem dc_X3_tryFrom_23 : decode mX3_tryFrom.2.1 23 = .ok (.if_icmp .ne 12, 3) := by decide +kernel
theorem dc_X3_tryFrom_26 : decode mX3_tryFrom.2.1 26 = .ok (.iload_n 2, 1) := by decide +kernel
theorem dc_X3_tryFrom_27 : decode mX3_tryFrom.2.1 27 = .ok (.aload_n 0, 1) := by decide +kernel
theorem dc_X3_tryFrom_28 : decode mX3_tryFrom.2.1 28 = .ok (.getfield 49, 3) := by decide +kernel
theorem dc_X3_tryFrom_31 : decode mX3_tryFrom.2.1 31 = .ok (.if_icmp .lt 4, 3) := by decide +kernel
theorem dc_X3_tryFrom_34 : decode mX3_tryFrom.2.1 34 = .ok (.return_, 1) := by decide +kernel
theorem dc_X3_tryFrom_35 : decode mX3_tryFrom.2.1 35 = .ok (.iload_n 1, 1) := by decide +kernel
theorem dc_X3_tryFrom_36 : decode mX3_tryFrom.2.1 36 = .ok (.aload_n 0, 1) := by decide +kernel
theorem dc_X3_tryFrom_37 : decode mX3_tryFrom.2.1 37 = .ok (.getfield 45, 3) := by decide +kernel
theorem dc_X3_tryFrom_40 : decode mX3_tryFrom.2.1 40 = .ok (.if_icmp .lt 14, 3) := by decide +kernel
theorem dc_X3_tryFrom_43 : decode mX3_tryFrom.2.1 43 = .ok (.aload_n 0, 1) := by decide +kernel
theorem dc_X3_tryFrom_44 : decode mX3_tryFrom.2.1 44 = .ok (.iload_n 3, 1) := by decide +kernel
theorem dc_X3_tryFrom_45 : decode mX3_tryFrom.2.1 45 = .ok (.putfield 53, 3) := by decide +kernel
theorem dc_X3_tryFrom_48 : decode mX3_tryFrom.2.1 48 = .ok (.aload_n 0, 1) := by decide +kernel
theorem dc_X3_tryFrom_49 : decode mX3_tryFrom.2.1 49 = .ok (.iload_n 2, 1) := by decide +kernel
theorem dc_X3_tryFrom_50 : decode mX3_tryFrom.2.1 50 = .ok (.putfield 49, 3) := by decide +kernel
theorem dc_X3_tryFrom_53 : decode mX3_tryFrom.2.1 53 = .ok (.return_, 1) := by decide +kernel
theorem dc_X3_tryFrom_54 : decode mX3_tryFrom.2.1 54 = .ok (.aload_n 0, 1) := by decide +kernel
theorem dc_X3_tryFrom_55 : decode mX3_tryFrom.2.1 55 = .ok (.iload_n 1, 1) := by decide +kernel
theorem dc_X3_tryFrom_56 : decode mX3_tryFrom.2.1 56 = .ok (.iload_n 2, 1) := by decide +kernel
theorem dc_X3_tryFrom_57 : decode mX3_tryFrom.2.1 57 = .ok (.invokevirtual 64, 3) := by decide +kernel
theorem dc_X3_tryFrom_60 : decode mX3_tryFrom.2.1 60 = .ok (.aload_n 0, 1) := by decide +kernel
theorem dc_X3_tryFrom_61 : decode mX3_tryFrom.2.1 61 = .ok (.iload_n 1, 1) := by decide +kernel
theorem dc_X3_tryFrom_62 : decode mX3_tryFrom.2.1 62 = .ok (.iload_n 2, 1) := by decide +kernel
theorem dc_X3_tryFrom_63 : decode mX3_tryFrom.2.1 63 = .ok (.aload_n 0, 1) := by decide +kernel
theorem dc_X3_tryFrom_64 : decode mX3_tryFrom.2.1 64 = .ok (.getfield 12, 3) := by decide +kernel
theorem dc_X3_tryFrom_67 : decode mX3_tryFrom.2.1 67 = .ok (.iload_n 1, 1) := by decide +kernel
theorem dc_X3_tryFrom_68 : decode mX3_tryFrom.2.1 68 = .ok (.invokevirtual 67, 3) := by decide +kernel
theorem dc_X3_tryFrom_71 : decode mX3_tryFrom.2.1 71 = .ok (.ior, 1) := by decide +kernel
theorem dc_X3_tryFrom_72 : decode mX3_tryFrom.2.1 72 = .ok (.invokevirtual 64, 3) := by decide +kernel
theorem dc_X3_tryFrom_75 : decode mX3_tryFrom.2.1 75 = .ok (.return_, 1) := by decide +kernel
theorem dc_X3_tryBit_0 : decode mX3_tryBit.2.1 0 = .ok (.aload_n 0, 1) := by decide +kernel
theorem dc_X3_tryBit_1 : decode mX3_tryBit.2.1 1 = .ok (.getfield 12, 3) := by decide +kernel
theorem dc_X3_tryBit_4 : decode mX3_tryBit.2.1 4 = .ok (.iload_n 2, 1) := by decide +kernel
theorem dc_X3_tryBit_5 : decode mX3_tryBit.2.1 5 = .ok (.putfield 71, 3) := by decide +kernel
theorem dc_X3_tryBit_8 : decode mX3_tryBit.2.1 8 = .ok (.aload_n 0, 1) := by decide +kernel
theorem dc_X3_tryBit_9 : decode mX3_tryBit.2.1 9 = .ok (.getfield 20, 3) := by decide +kernel
theorem dc_X3_tryBit_12 : decode mX3_tryBit.2.1 12 = .ok (.iload_n 1, 1) := by decide +kernel
theorem dc_X3_tryBit_13 : decode mX3_tryBit.2.1 13 = .ok (.iconst 1, 1) := by decide +kernel
theorem dc_X3_tryBit_14 : decode mX3_tryBit.2.1 14 = .ok (.iadd, 1) := by decide +kernel
theorem dc_X3_tryBit_15 : decode mX3_tryBit.2.1 15 = .ok (.aaload, 1) := by decide +kernel
theorem dc_X3_tryBit_16 : decode mX3_tryBit.2.1 16 = .ok (.aload_n 0, 1) := by decide +kernel
theorem dc_X3_tryBit_17 : decode mX3_tryBit.2.1 17 = .ok (.getfield 20, 3) := by decide +kernel
theorem dc_X3_tryBit_20 : decode mX3_tryBit.2.1 20 = .ok (.iload_n 1, 1) := by decide +kernel
theorem dc_X3_tryBit_21 : decode mX3_tryBit.2.1 21 = .ok (.aaload, 1) := by decide +kernel
theorem dc_X3_tryBit_22 : decode mX3_tryBit.2.1 22 = .ok (.invokevirtual 36, 3) := by decide +kernel
theorem dc_X3_tryBit_25 : decode mX3_tryBit.2.1 25 = .ok (.aload_n 0, 1) := by decide +kernel
theorem dc_X3_tryBit_26 : decode mX3_tryBit.2.1 26 = .ok (.getfield 20, 3) := by decide +kernel
theorem dc_X3_tryBit_29 : decode mX3_tryBit.2.1 29 = .ok (.iload_n 1, 1) := by decide +kernel
theorem dc_X3_tryBit_30 : decode mX3_tryBit.2.1 30 = .ok (.iconst 1, 1) := by decide +kernel
theorem dc_X3_tryBit_31 : decode mX3_tryBit.2.1 31 = .ok (.iadd, 1) := by decide +kernel
theorem dc_X3_tryBit_32 : decode mX3_tryBit.2.1 32 = .ok (.aaload, 1) := by decide +kernel
theorem dc_X3_tryBit_33 : decode mX3_tryBit.2.1 33 = .ok (.aload_n 0, 1) := by decide +kernel
theorem dc_X3_tryBit_34 : decode mX3_tryBit.2.1 34 = .ok (.getfield 12, 3) := by decide +kernel
theorem dc_X3_tryBit_37 : decode mX3_tryBit.2.1 37 = .ok (.iload_n 1, 1) := by decide +kernel
theorem dc_X3_tryBit_38 : decode mX3_tryBit.2.1 38 = .ok (.invokevirtual 74, 3) := by decide +kernel
theorem dc_X3_tryBit_41 : decode mX3_tryBit.2.1 41 = .ok (.aload_n 0, 1) := by decide +kernel
theorem dc_X3_tryBit_42 : decode mX3_tryBit.2.1 42 = .ok (.getfield 12, 3) := by decide +kernel
theorem dc_X3_tryBit_45 : decode mX3_tryBit.2.1 45 = .ok (.iload_n 1, 1) := by decide +kernel
theorem dc_X3_tryBit_46 : decode mX3_tryBit.2.1 46 = .ok (.invokevirtual 77, 3) := by decide +kernel
theorem dc_X3_tryBit_49 : decode mX3_tryBit.2.1 49 = .ok (.invokevirtual 80, 3) := by decide +kernel
theorem dc_X3_tryBit_52 : decode mX3_tryBit.2.1 52 = .ok (.aload_n 0, 1) := by decide +kernel
theorem dc_X3_tryBit_53 : decode mX3_tryBit.2.1 53 = .ok (.iload_n 1, 1) := by decide +kernel
theorem dc_X3_tryBit_54 : decode mX3_tryBit.2.1 54 = .ok (.iconst 1, 1) := by decide +kernel
theorem dc_X3_tryBit_55 : decode mX3_tryBit.2.1 55 = .ok (.iadd, 1) := by decide +kernel
theorem dc_X3_tryBit_56 : decode mX3_tryBit.2.1 56 = .ok (.iload_n 2, 1) := by decide +kernel
theorem dc_X3_tryBit_57 : decode mX3_tryBit.2.1 57 = .ok (.invokevirtual 56, 3) := by decide +kernel
theorem dc_X3_tryBit_60 : decode mX3_tryBit.2.1 60 = .ok (.return_, 1) := by decide +kernel
theorem dc_X4_init_0 : decode mX4_init.2.1 0 = .ok (.aload_n 0, 1) := by decide +kernel
theorem dc_X4_init_1 : decode mX4_init.2.1 1 = .ok (.invokespecial 3, 3) := by decide +kernel
theorem dc_X4_init_4 : decode mX4_init.2.1 4 = .ok (.aload_n 0, 1) := by decide +kernel
theorem dc_X4_init_5 : decode mX4_init.2.1 5 = .ok (.new 9, 3) := by decide +kernel
theorem dc_X4_init_8 : decode mX4_init.2.1 8 = .ok (.dup, 1) := by decide +kernel
theorem dc_X4_init_9 : decode mX4_init.2.1 9 = .ok (.invokespecial 11, 3) := by decide +kernel
theorem dc_X4_init_12 : decode mX4_init.2.1 12 = .ok (.putfield 12, 3) := by decide +kernel
theorem dc_X4_init_15 : decode mX4_init.2.1 15 = .ok (.aload_n 0, 1) := by decide +kernel
theorem dc_X4_init_16 : decode mX4_init.2.1 16 = .ok (.new 18, 3) := by decide +kernel
theorem dc_X4_init_19 : decode mX4_init.2.1 19 = .ok (.dup, 1) := by decide +kernel
theorem dc_X4_init_20 : decode mX4_init.2.1 20 = .ok (.invokespecial 20, 3) := by decide +kernel
theorem dc_X4_init_23 : decode mX4_init.2.1 23 = .ok (.putfield 21, 3) := by decide +kernel
theorem dc_X4_init_26 : decode mX4_init.2.1 26 = .ok (.aload_n 0, 1) := by decide +kernel
theorem dc_X4_init_27 : decode mX4_init.2.1 27 = .ok (.bipush 10, 2) := by decide +kernel
theorem dc_X4_init_29 : decode mX4_init.2.1 29 = .ok (.newarray .int, 2) := by decide +kernel
theorem dc_X4_init_31 : decode mX4_init.2.1 31 = .ok (.putfield 25, 3) := by decide +kernel
theorem dc_X4_init_34 : decode mX4_init.2.1 34 = .ok (.aload_n 0, 1) := by decide +kernel
theorem dc_X4_init_35 : decode mX4_init.2.1 35 = .ok (.iconst 1, 1) := by decide +kernel
theorem dc_X4_init_36 : decode mX4_init.2.1 36 = .ok (.putfield 29, 3) := by decide +kernel
theorem dc_X4_init_39 : decode mX4_init.2.1 39 = .ok (.iconst 0, 1) := by decide +kernel
theorem dc_X4_init_40 : decode mX4_init.2.1 40 = .ok (.istore_n 1, 1) := by decide +kernel
theorem dc_X4_init_41 : decode mX4_init.2.1 41 = .ok (.iload_n 1, 1) := by decide +kernel
theorem dc_X4_init_42 : decode mX4_init.2.1 42 = .ok (.bipush 9, 2) := by decide +kernel
theorem dc_X4_init_44 : decode mX4_init.2.1 44 = .ok (.if_icmp .gt 16, 3) := by decide +kernel
theorem dc_X4_init_47 : decode mX4_init.2.1 47 = .ok (.aload_n 0, 1) := by decide +kernel
theorem dc_X4_init_48 : decode mX4_init.2.1 48 = .ok (.getfield 25, 3) := by decide +kernel
theorem dc_X4_init_51 : decode mX4_init.2.1 51 = .ok (.iload_n 1, 1) := by decide +kernel
theorem dc_X4_init_52 : decode mX4_init.2.1 52 = .ok (.iconst (-1), 1) := by decide +kernel
theorem dc_X4_init_53 : decode mX4_init.2.1 53 = .ok (.iastore, 1) := by decide +kernel
theorem dc_X4_init_54 : decode mX4_init.2.1 54 = .ok (.iinc 1 1, 3) := by decide +kernel
theorem dc_X4_init_57 : decode mX4_init.2.1 57 = .ok (.goto (-16), 3) := by decide +kernel
theorem dc_X4_init_60 : decode mX4_init.2.1 60 = .ok (.return_, 1) := by decide +kernel
theorem dc_X4_take_0 : decode mX4_take.2.1 0 = .ok (.aload_n 0, 1) := by decide +kernel
theorem dc_X4_take_1 : decode mX4_take.2.1 1 = .ok (.getfield 12, 3) := by decide +kernel
theorem dc_X4_take_4 : decode mX4_take.2.1 4 = .ok (.aload_n 1, 1) := by decide +kernel
theorem dc_X4_take_5 : decode mX4_take.2.1 5 = .ok (.getfield 12, 3) := by decide +kernel
theorem dc_X4_take_8 : decode mX4_take.2.1 8 = .ok (.invokevirtual 33, 3) := by decide +kernel
theorem dc_X4_take_11 : decode mX4_take.2.1 11 = .ok (.aload_n 0, 1) := by decide +kernel
theorem dc_X4_take_12 : decode mX4_take.2.1 12 = .ok (.getfield 21, 3) := by decide +kernel
theorem dc_X4_take_15 : decode mX4_take.2.1 15 = .ok (.aload_n 1, 1) := by decide +kernel
theorem dc_X4_take_16 : decode mX4_take.2.1 16 = .ok (.getfield 21, 3) := by decide +kernel
theorem dc_X4_take_19 : decode mX4_take.2.1 19 = .ok (.invokevirtual 37, 3) := by decide +kernel
theorem dc_X4_take_22 : decode mX4_take.2.1 22 = .ok (.aload_n 1, 1) := by decide +kernel
theorem dc_X4_take_23 : decode mX4_take.2.1 23 = .ok (.getfield 25, 3) := by decide +kernel
theorem dc_X4_take_26 : decode mX4_take.2.1 26 = .ok (.iconst 0, 1) := by decide +kernel
theorem dc_X4_take_27 : decode mX4_take.2.1 27 = .ok (.aload_n 0, 1) := by decide +kernel
theorem dc_X4_take_28 : decode mX4_take.2.1 28 = .ok (.getfield 25, 3) := by decide +kernel
theorem dc_X4_take_31 : decode mX4_take.2.1 31 = .ok (.iconst 0, 1) := by decide +kernel
theorem dc_X4_take_32 : decode mX4_take.2.1 32 = .ok (.bipush 10, 2) := by decide +kernel
theorem dc_X4_take_34 : decode mX4_take.2.1 34 = .ok (.invokestatic 40, 3) := by decide +kernel
theorem dc_X4_take_37 : decode mX4_take.2.1 37 = .ok (.aload_n 0, 1) := by decide +kernel
theorem dc_X4_take_38 : decode mX4_take.2.1 38 = .ok (.aload_n 1, 1) := by decide +kernel
theorem dc_X4_take_39 : decode mX4_take.2.1 39 = .ok (.getfield 29, 3) := by decide +kernel
theorem dc_X4_take_42 : decode mX4_take.2.1 42 = .ok (.putfield 29, 3) := by decide +kernel
theorem dc_X4_take_45 : decode mX4_take.2.1 45 = .ok (.return_, 1) := by decide +kernel
theorem dc_X4_passTick_0 : decode mX4_passTick.2.1 0 = .ok (.aload_n 0, 1) := by decide +kernel
theorem dc_X4_passTick_1 : decode mX4_passTick.2.1 1 = .ok (.getfield 21, 3) := by decide +kernel
theorem dc_X4_passTick_4 : decode mX4_passTick.2.1 4 = .ok (.aload_n 0, 1) := by decide +kernel
theorem dc_X4_passTick_5 : decode mX4_passTick.2.1 5 = .ok (.getfield 12, 3) := by decide +kernel
theorem dc_X4_passTick_8 : decode mX4_passTick.2.1 8 = .ok (.iconst 0, 1) := by decide +kernel
theorem dc_X4_passTick_9 : decode mX4_passTick.2.1 9 = .ok (.invokevirtual 46, 3) := by decide +kernel
theorem dc_X4_passTick_12 : decode mX4_passTick.2.1 12 = .ok (.aload_n 0, 1) := by decide +kernel
theorem dc_X4_passTick_13 : decode mX4_passTick.2.1 13 = .ok (.getfield 12, 3) := by decide +kernel
theorem dc_X4_passTick_16 : decode mX4_passTick.2.1 16 = .ok (.getfield 50, 3) := by decide +kernel
theorem dc_X4_passTick_19 : decode mX4_passTick.2.1 19 = .ok (.invokevirtual 53, 3) := by decide +kernel
theorem dc_X4_passTick_22 : decode mX4_passTick.2.1 22 = .ok (.aload_n 0, 1) := by decide +kernel
theorem dc_X4_passTick_23 : decode mX4_passTick.2.1 23 = .ok (.getfield 12, 3) := by decide +kernel
theorem dc_X4_passTick_26 : decode mX4_passTick.2.1 26 = .ok (.invokevirtual 57, 3) := by decide +kernel
theorem dc_X4_passTick_29 : decode mX4_passTick.2.1 29 = .ok (.return_, 1) := by decide +kernel
theorem dc_X4_passNight_0 : decode mX4_passNight.2.1 0 = .ok (.aload_n 0, 1) := by decide +kernel
theorem dc_X4_passNight_1 : decode mX4_passNight.2.1 1 = .ok (.getfield 12, 3) := by decide +kernel
theorem dc_X4_passNight_4 : decode mX4_passNight.2.1 4 = .ok (.dup, 1) := by decide +kernel
theorem dc_X4_passNight_5 : decode mX4_passNight.2.1 5 = .ok (.getfield 60, 3) := by decide +kernel
theorem dc_X4_passNight_8 : decode mX4_passNight.2.1 8 = .ok (.iconst 1, 1) := by decide +kernel
theorem dc_X4_passNight_9 : decode mX4_passNight.2.1 9 = .ok (.aload_n 0, 1) := by decide +kernel
theorem dc_X4_passNight_10 : decode mX4_passNight.2.1 10 = .ok (.invokevirtual 63, 3) := by decide +kernel
theorem dc_X4_passNight_13 : decode mX4_passNight.2.1 13 = .ok (.bipush 12, 2) := by decide +kernel
theorem dc_X4_passNight_15 : decode mX4_passNight.2.1 15 = .ok (.irem, 1) := by decide +kernel
theorem dc_X4_passNight_16 : decode mX4_passNight.2.1 16 = .ok (.ishl, 1) := by decide +kernel
theorem dc_X4_passNight_17 : decode mX4_passNight.2.1 17 = .ok (.ixor, 1) := by decide +kernel
theorem dc_X4_passNight_18 : decode mX4_passNight.2.1 18 = .ok (.putfield 60, 3) := by decide +kernel
theorem dc_X4_passNight_21 : decode mX4_passNight.2.1 21 = .ok (.aload_n 0, 1) := by decide +kernel
theorem dc_X4_passNight_22 : decode mX4_passNight.2.1 22 = .ok (.invokevirtual 63, 3) := by decide +kernel
theorem dc_X4_passNight_25 : decode mX4_passNight.2.1 25 = .ok (.bipush 8, 2) := by decide +kernel
theorem dc_X4_passNight_27 : decode mX4_passNight.2.1 27 = .ok (.irem, 1) := by decide +kernel
theorem dc_X4_passNight_28 : decode mX4_passNight.2.1 28 = .ok (.istore_n 1, 1) := by decide +kernel
theorem dc_X4_passNight_29 : decode mX4_passNight.2.1 29 = .ok (.iload_n 1, 1) := by decide +kernel
theorem dc_X4_passNight_30 : decode mX4_passNight.2.1 30 = .ok (.aload_n 0, 1) := by decide +kernel
theorem dc_X4_passNight_31 : decode mX4_passNight.2.1 31 = .ok (.getfield 21, 3) := by decide +kernel
theorem dc_X4_passNight_34 : decode mX4_passNight.2.1 34 = .ok (.getfield 67, 3) := by decide +kernel
theorem dc_X4_passNight_37 : decode mX4_passNight.2.1 37 = .ok (.if_icmp .ge 27, 3) := by decide +kernel
theorem dc_X4_passNight_40 : decode mX4_passNight.2.1 40 = .ok (.aload_n 0, 1) := by decide +kernel
theorem dc_X4_passNight_41 : decode mX4_passNight.2.1 41 = .ok (.getfield 21, 3) := by decide +kernel
theorem dc_X4_passNight_44 : decode mX4_passNight.2.1 44 = .ok (.getfield 70, 3) := by decide +kernel
theorem dc_X4_passNight_47 : decode mX4_passNight.2.1 47 = .ok (.iload_n 1, 1) := by decide +kernel
theorem dc_X4_passNight_48 : decode mX4_passNight.2.1 48 = .ok (.aaload, 1) := by decide +kernel
theorem dc_X4_passNight_49 : decode mX4_passNight.2.1 49 = .ok (.astore_n 2, 1) := by decide +kernel
theorem dc_X4_passNight_50 : decode mX4_passNight.2.1 50 = .ok (.aload_n 2, 1) := by decide +kernel
theorem dc_X4_passNight_51 : decode mX4_passNight.2.1 51 = .ok (.aload_n 2, 1) := by decide +kernel
theorem dc_X4_passNight_52 : decode mX4_passNight.2.1 52 = .ok (.getfield 74, 3) := by decide +kernel
theorem dc_X4_passNight_55 : decode mX4_passNight.2.1 55 = .ok (.iconst 1, 1) := by decide +kernel
theorem dc_X4_passNight_56 : decode mX4_passNight.2.1 56 = .ok (.iadd, 1) := by decide +kernel
theorem dc_X4_passNight_57 : decode mX4_passNight.2.1 57 = .ok (.iconst 5, 1) := by decide +kernel
theorem dc_X4_passNight_58 : decode mX4_passNight.2.1 58 = .ok (.invokestatic 79, 3) := by decide +kernel
theorem dc_X4_passNight_61 : decode mX4_passNight.2.1 61 = .ok (.putfield 74, 3) := by decide +kernel
theorem dc_X4_passNight_64 : decode mX4_passNight.2.1 64 = .ok (.aload_n 0, 1) := by decide +kernel
theorem dc_X4_passNight_65 : decode mX4_passNight.2.1 65 = .ok (.invokevirtual 85, 3) := by decide +kernel
theorem dc_X4_passNight_68 : decode mX4_passNight.2.1 68 = .ok (.return_, 1) := by decide +kernel
theorem dc_X4_draw_0 : decode mX4_draw.2.1 0 = .ok (.aload_n 0, 1) := by decide +kernel
theorem dc_X4_draw_1 : decode mX4_draw.2.1 1 = .ok (.aload_n 0, 1) := by decide +kernel
theorem dc_X4_draw_2 : decode mX4_draw.2.1 2 = .ok (.getfield 29, 3) := by decide +kernel
theorem dc_X4_draw_5 : decode mX4_draw.2.1 5 = .ok (.ldc 86, 2) := by decide +kernel
theorem dc_X4_draw_7 : decode mX4_draw.2.1 7 = .ok (.imul, 1) := by decide +kernel
theorem dc_X4_draw_8 : decode mX4_draw.2.1 8 = .ok (.sipush 12345, 3) := by decide +kernel
theorem dc_X4_draw_11 : decode mX4_draw.2.1 11 = .ok (.iadd, 1) := by decide +kernel
theorem dc_X4_draw_12 : decode mX4_draw.2.1 12 = .ok (.putfield 29, 3) := by decide +kernel
theorem dc_X4_draw_15 : decode mX4_draw.2.1 15 = .ok (.aload_n 0, 1) := by decide +kernel
theorem dc_X4_draw_16 : decode mX4_draw.2.1 16 = .ok (.getfield 29, 3) := by decide +kernel
theorem dc_X4_draw_19 : decode mX4_draw.2.1 19 = .ok (.bipush 8, 2) := by decide +kernel
theorem dc_X4_draw_21 : decode mX4_draw.2.1 21 = .ok (.iushr, 1) := by decide +kernel
theorem dc_X4_draw_22 : decode mX4_draw.2.1 22 = .ok (.ireturn, 1) := by decide +kernel
theorem dc_X4_spotsTaken_0 : decode mX4_spotsTaken.2.1 0 = .ok (.iconst 0, 1) := by decide +kernel
theorem dc_X4_spotsTaken_1 : decode mX4_spotsTaken.2.1 1 = .ok (.istore_n 1, 1) := by decide +kernel
theorem dc_X4_spotsTaken_2 : decode mX4_spotsTaken.2.1 2 = .ok (.iconst 0, 1) := by decide +kernel
theorem dc_X4_spotsTaken_3 : decode mX4_spotsTaken.2.1 3 = .ok (.istore_n 2, 1) := by decide +kernel
theorem dc_X4_spotsTaken_4 : decode mX4_spotsTaken.2.1 4 = .ok (.iload_n 2, 1) := by decide +kernel
theorem dc_X4_spotsTaken_5 : decode mX4_spotsTaken.2.1 5 = .ok (.bipush 9, 2) := by decide +kernel
theorem dc_X4_spotsTaken_7 : decode mX4_spotsTaken.2.1 7 = .ok (.if_icmp .gt 26, 3) := by decide +kernel
theorem dc_X4_spotsTaken_10 : decode mX4_spotsTaken.2.1 10 = .ok (.iload_n 1, 1) := by decide +kernel
theorem dc_X4_spotsTaken_11 : decode mX4_spotsTaken.2.1 11 = .ok (.aload_n 0, 1) := by decide +kernel
theorem dc_X4_spotsTaken_12 : decode mX4_spotsTaken.2.1 12 = .ok (.getfield 25, 3) := by decide +kernel
theorem dc_X4_spotsTaken_15 : decode mX4_spotsTaken.2.1 15 = .ok (.iload_n 2, 1) := by decide +kernel
theorem dc_X4_spotsTaken_16 : decode mX4_spotsTaken.2.1 16 = .ok (.iaload, 1) := by decide +kernel
theorem dc_X4_spotsTaken_17 : decode mX4_spotsTaken.2.1 17 = .ok (.ifCond .lt 7, 3) := by decide +kernel
theorem dc_X4_spotsTaken_20 : decode mX4_spotsTaken.2.1 20 = .ok (.iconst 1, 1) := by decide +kernel
theorem dc_X4_spotsTaken_21 : decode mX4_spotsTaken.2.1 21 = .ok (.goto 4, 3) := by decide +kernel
theorem dc_X4_spotsTaken_24 : decode mX4_spotsTaken.2.1 24 = .ok (.iconst 0, 1) := by decide +kernel
theorem dc_X4_spotsTaken_25 : decode mX4_spotsTaken.2.1 25 = .ok (.iadd, 1) := by decide +kernel
theorem dc_X4_spotsTaken_26 : decode mX4_spotsTaken.2.1 26 = .ok (.istore_n 1, 1) := by decide +kernel
theorem dc_X4_spotsTaken_27 : decode mX4_spotsTaken.2.1 27 = .ok (.iinc 2 1, 3) := by decide +kernel
theorem dc_X4_spotsTaken_30 : decode mX4_spotsTaken.2.1 30 = .ok (.goto (-26), 3) := by decide +kernel
theorem dc_X4_spotsTaken_33 : decode mX4_spotsTaken.2.1 33 = .ok (.iload_n 1, 1) := by decide +kernel
theorem dc_X4_spotsTaken_34 : decode mX4_spotsTaken.2.1 34 = .ok (.ireturn, 1) := by decide +kernel
theorem dc_X5_init_0 : decode mX5_init.2.1 0 = .ok (.aload_n 0, 1) := by decide +kernel
theorem dc_X5_init_1 : decode mX5_init.2.1 1 = .ok (.invokespecial 3, 3) := by decide +kernel
theorem dc_X5_init_4 : decode mX5_init.2.1 4 = .ok (.aload_n 0, 1) := by decide +kernel
theorem dc_X5_init_5 : decode mX5_init.2.1 5 = .ok (.bipush 40, 2) := by decide +kernel
theorem dc_X5_init_7 : decode mX5_init.2.1 7 = .ok (.newarray .int, 2) := by decide +kernel
theorem dc_X5_init_9 : decode mX5_init.2.1 9 = .ok (.putfield 9, 3) := by decide +kernel
theorem dc_X5_init_12 : decode mX5_init.2.1 12 = .ok (.aload_n 0, 1) := by decide +kernel
theorem dc_X5_init_13 : decode mX5_init.2.1 13 = .ok (.iconst 0, 1) := by decide +kernel
theorem dc_X5_init_14 : decode mX5_init.2.1 14 = .ok (.putfield 15, 3) := by decide +kernel
theorem dc_X5_init_17 : decode mX5_init.2.1 17 = .ok (.aload_n 0, 1) := by decide +kernel
theorem dc_X5_init_18 : decode mX5_init.2.1 18 = .ok (.iconst 0, 1) := by decide +kernel
theorem dc_X5_init_19 : decode mX5_init.2.1 19 = .ok (.putfield 19, 3) := by decide +kernel
theorem dc_X5_init_22 : decode mX5_init.2.1 22 = .ok (.return_, 1) := by decide +kernel
theorem dc_X5_isMissing_0 : decode mX5_isMissing.2.1 0 = .ok (.aload_n 0, 1) := by decide +kernel
theorem dc_X5_isMissing_1 : decode mX5_isMissing.2.1 1 = .ok (.getfield 15, 3) := by decide +kernel
theorem dc_X5_isMissing_4 : decode mX5_isMissing.2.1 4 = .ok (.ifCond .ne 7, 3) := by decide +kernel
theorem dc_X5_isMissing_7 : decode mX5_isMissing.2.1 7 = .ok (.iconst 1, 1) := by decide +kernel
theorem dc_X5_isMissing_8 : decode mX5_isMissing.2.1 8 = .ok (.goto 4, 3) := by decide +kernel
theorem dc_X5_isMissing_11 : decode mX5_isMissing.2.1 11 = .ok (.iconst 0, 1) := by decide +kernel
theorem dc_X5_isMissing_12 : decode mX5_isMissing.2.1 12 = .ok (.ireturn, 1) := by decide +kernel
theorem dc_X5_renew_0 : decode mX5_renew.2.1 0 = .ok (.aload_n 0, 1) := by decide +kernel
theorem dc_X5_renew_1 : decode mX5_renew.2.1 1 = .ok (.iload_n 1, 1) := by decide +kernel
theorem dc_X5_renew_2 : decode mX5_renew.2.1 2 = .ok (.putfield 15, 3) := by decide +kernel
theorem dc_X5_renew_5 : decode mX5_renew.2.1 5 = .ok (.aload_n 0, 1) := by decide +kernel
theorem dc_X5_renew_6 : decode mX5_renew.2.1 6 = .ok (.iload_n 1, 1) := by decide +kernel
theorem dc_X5_renew_7 : decode mX5_renew.2.1 7 = .ok (.ifCond .ne 7, 3) := by decide +kernel
theorem dc_X5_renew_10 : decode mX5_renew.2.1 10 = .ok (.iconst 0, 1) := by decide +kernel
theorem dc_X5_renew_11 : decode mX5_renew.2.1 11 = .ok (.goto 4, 3) := by decide +kernel
theorem dc_X5_renew_14 : decode mX5_renew.2.1 14 = .ok (.iload_n 2, 1) := by decide +kernel
theorem dc_X5_renew_15 : decode mX5_renew.2.1 15 = .ok (.putfield 19, 3) := by decide +kernel
theorem dc_X5_renew_18 : decode mX5_renew.2.1 18 = .ok (.iconst 0, 1) := by decide +kernel
theorem dc_X5_renew_19 : decode mX5_renew.2.1 19 = .ok (.istore_n 3, 1) := by decide +kernel
theorem dc_X5_renew_20 : decode mX5_renew.2.1 20 = .ok (.iload_n 3, 1) := by decide +kernel
theorem dc_X5_renew_21 : decode mX5_renew.2.1 21 = .ok (.bipush 40, 2) := by decide +kernel
theorem dc_X5_renew_23 : decode mX5_renew.2.1 23 = .ok (.if_icmp .ge 16, 3) := by decide +kernel
theorem dc_X5_renew_26 : decode mX5_renew.2.1 26 = .ok (.aload_n 0, 1) := by decide +kernel
theorem dc_X5_renew_27 : decode mX5_renew.2.1 27 = .ok (.getfield 9, 3) := by decide +kernel
theorem dc_X5_renew_30 : decode mX5_renew.2.1 30 = .ok (.iload_n 3, 1) := by decide +kernel
theorem dc_X5_renew_31 : decode mX5_renew.2.1 31 = .ok (.iconst 0, 1) := by decide +kernel
theorem dc_X5_renew_32 : decode mX5_renew.2.1 32 = .ok (.iastore, 1) := by decide +kernel
theorem dc_X5_renew_33 : decode mX5_renew.2.1 33 = .ok (.iinc 3 1, 3) := by decide +kernel
theorem dc_X5_renew_36 : decode mX5_renew.2.1 36 = .ok (.goto (-16), 3) := by decide +kernel
theorem dc_X5_renew_39 : decode mX5_renew.2.1 39 = .ok (.return_, 1) := by decide +kernel
theorem dc_X5_put_0 : decode mX5_put.2.1 0 = .ok (.aload_n 0, 1) := by decide +kernel
theorem dc_X5_put_1 : decode mX5_put.2.1 1 = .ok (.getfield 15, 3) := by decide +kernel
theorem dc_X5_put_4 : decode mX5_put.2.1 4 = .ok (.bipush 8, 2) := by decide +kernel
theorem dc_X5_put_6 : decode mX5_put.2.1 6 = .ok (.if_icmp .ne 14, 3) := by decide +kernel
theorem dc_X5_put_9 : decode mX5_put.2.1 9 = .ok (.aload_n 0, 1) := by decide +kernel
theorem dc_X5_put_10 : decode mX5_put.2.1 10 = .ok (.getfield 9, 3) := by decide +kernel
theorem dc_X5_put_13 : decode mX5_put.2.1 13 = .ok (.iload_n 1, 1) := by decide +kernel
theorem dc_X5_put_14 : decode mX5_put.2.1 14 = .ok (.iload_n 2, 1) := by decide +kernel
theorem dc_X5_put_15 : decode mX5_put.2.1 15 = .ok (.i2b, 1) := by decide +kernel
theorem dc_X5_put_16 : decode mX5_put.2.1 16 = .ok (.iastore, 1) := by decide +kernel
theorem dc_X5_put_17 : decode mX5_put.2.1 17 = .ok (.goto 30, 3) := by decide +kernel
theorem dc_X5_put_20 : decode mX5_put.2.1 20 = .ok (.aload_n 0, 1) := by decide +kernel
theorem dc_X5_put_21 : decode mX5_put.2.1 21 = .ok (.getfield 15, 3) := by decide +kernel
theorem dc_X5_put_24 : decode mX5_put.2.1 24 = .ok (.bipush 16, 2) := by decide +kernel
theorem dc_X5_put_26 : decode mX5_put.2.1 26 = .ok (.if_icmp .ne 14, 3) := by decide +kernel
theorem dc_X5_put_29 : decode mX5_put.2.1 29 = .ok (.aload_n 0, 1) := by decide +kernel
theorem dc_X5_put_30 : decode mX5_put.2.1 30 = .ok (.getfield 9, 3) := by decide +kernel
theorem dc_X5_put_33 : decode mX5_put.2.1 33 = .ok (.iload_n 1, 1) := by decide +kernel
theorem dc_X5_put_34 : decode mX5_put.2.1 34 = .ok (.iload_n 2, 1) := by decide +kernel
theorem dc_X5_put_35 : decode mX5_put.2.1 35 = .ok (.i2s, 1) := by decide +kernel
theorem dc_X5_put_36 : decode mX5_put.2.1 36 = .ok (.iastore, 1) := by decide +kernel
theorem dc_X5_put_37 : decode mX5_put.2.1 37 = .ok (.goto 10, 3) := by decide +kernel
theorem dc_X5_put_40 : decode mX5_put.2.1 40 = .ok (.aload_n 0, 1) := by decide +kernel
theorem dc_X5_put_41 : decode mX5_put.2.1 41 = .ok (.getfield 9, 3) := by decide +kernel
theorem dc_X5_put_44 : decode mX5_put.2.1 44 = .ok (.iload_n 1, 1) := by decide +kernel
theorem dc_X5_put_45 : decode mX5_put.2.1 45 = .ok (.iload_n 2, 1) := by decide +kernel
theorem dc_X5_put_46 : decode mX5_put.2.1 46 = .ok (.iastore, 1) := by decide +kernel
theorem dc_X5_put_47 : decode mX5_put.2.1 47 = .ok (.return_, 1) := by decide +kernel
theorem dc_X5_hasPart_0 : decode mX5_hasPart.2.1 0 = .ok (.iload_n 1, 1) := by decide +kernel
theorem dc_X5_hasPart_1 : decode mX5_hasPart.2.1 1 = .ok (.ifCond .lt 21, 3) := by decide +kernel
theorem dc_X5_hasPart_4 : decode mX5_hasPart.2.1 4 = .ok (.iload_n 2, 1) := by decide +kernel
theorem dc_X5_hasPart_5 : decode mX5_hasPart.2.1 5 = .ok (.ifCond .lt 17, 3) := by decide +kernel
theorem dc_X5_hasPart_8 : decode mX5_hasPart.2.1 8 = .ok (.iload_n 1, 1) := by decide +kernel
theorem dc_X5_hasPart_9 : decode mX5_hasPart.2.1 9 = .ok (.aload_n 0, 1) := by decide +kernel
theorem dc_X5_hasPart_10 : decode mX5_hasPart.2.1 10 = .ok (.getfield 19, 3) := by decide +kernel
theorem dc_X5_hasPart_13 : decode mX5_hasPart.2.1 13 = .ok (.iload_n 2, 1) := by decide +kernel
theorem dc_X5_hasPart_14 : decode mX5_hasPart.2.1 14 = .ok (.isub, 1) := by decide +kernel
theorem dc_X5_hasPart_15 : decode mX5_hasPart.2.1 15 = .ok (.if_icmp .gt 7, 3) := by decide +kernel
theorem dc_X5_hasPart_18 : decode mX5_hasPart.2.1 18 = .ok (.iconst 1, 1) := by decide +kernel
theorem dc_X5_hasPart_19 : decode mX5_hasPart.2.1 19 = .ok (.goto 4, 3) := by decide +kernel
theorem dc_X5_hasPart_22 : decode mX5_hasPart.2.1 22 = .ok (.iconst 0, 1) := by decide +kernel
theorem dc_X5_hasPart_23 : decode mX5_hasPart.2.1 23 = .ok (.ireturn, 1) := by decide +kernel
theorem dc_X6_init_0 : decode mX6_init.2.1 0 = .ok (.aload_n 0, 1) := by decide +kernel
theorem dc_X6_init_1 : decode mX6_init.2.1 1 = .ok (.invokespecial 3, 3) := by decide +kernel
theorem dc_X6_init_4 : decode mX6_init.2.1 4 = .ok (.return_, 1) := by decide +kernel
theorem dc_X6_renew_0 : decode mX6_renew.2.1 0 = .ok (.aload_n 0, 1) := by decide +kernel
theorem dc_X6_renew_1 : decode mX6_renew.2.1 1 = .ok (.iload_n 1, 1) := by decide +kernel
theorem dc_X6_renew_2 : decode mX6_renew.2.1 2 = .ok (.putfield 9, 3) := by decide +kernel
theorem dc_X6_renew_5 : decode mX6_renew.2.1 5 = .ok (.aload_n 0, 1) := by decide +kernel
theorem dc_X6_renew_6 : decode mX6_renew.2.1 6 = .ok (.iload_n 2, 1) := by decide +kernel
theorem dc_X6_renew_7 : decode mX6_renew.2.1 7 = .ok (.putfield 15, 3) := by decide +kernel
theorem dc_X6_renew_10 : decode mX6_renew.2.1 10 = .ok (.aload_n 0, 1) := by decide +kernel
theorem dc_X6_renew_11 : decode mX6_renew.2.1 11 = .ok (.iconst 1, 1) := by decide +kernel
theorem dc_X6_renew_12 : decode mX6_renew.2.1 12 = .ok (.putfield 18, 3) := by decide +kernel
theorem dc_X6_renew_15 : decode mX6_renew.2.1 15 = .ok (.aload_n 0, 1) := by decide +kernel
theorem dc_X6_renew_16 : decode mX6_renew.2.1 16 = .ok (.iconst 1, 1) := by decide +kernel
theorem dc_X6_renew_17 : decode mX6_renew.2.1 17 = .ok (.putfield 21, 3) := by decide +kernel
theorem dc_X6_renew_20 : decode mX6_renew.2.1 20 = .ok (.aload_n 0, 1) := by decide +kernel
theorem dc_X6_renew_21 : decode mX6_renew.2.1 21 = .ok (.iconst 0, 1) := by decide +kernel
theorem dc_X6_renew_22 : decode mX6_renew.2.1 22 = .ok (.putfield 24, 3) := by decide +kernel
theorem dc_X6_renew_25 : decode mX6_renew.2.1 25 = .ok (.aload_n 0, 1) := by decide +kernel
theorem dc_X6_renew_26 : decode mX6_renew.2.1 26 = .ok (.iconst 0, 1) := by decide +kernel
theorem dc_X6_renew_27 : decode mX6_renew.2.1 27 = .ok (.putfield 27, 3) := by decide +kernel
theorem dc_X6_renew_30 : decode mX6_renew.2.1 30 = .ok (.aload_n 0, 1) := by decide +kernel
theorem dc_X6_renew_31 : decode mX6_renew.2.1 31 = .ok (.iconst 0, 1) := by decide +kernel
theorem dc_X6_renew_32 : decode mX6_renew.2.1 32 = .ok (.putfield 30, 3) := by decide +kernel
theorem dc_X6_renew_35 : decode mX6_renew.2.1 35 = .ok (.return_, 1) := by decide +kernel
theorem dc_X6_take_0 : decode mX6_take.2.1 0 = .ok (.aload_n 0, 1) := by decide +kernel
theorem dc_X6_take_1 : decode mX6_take.2.1 1 = .ok (.aload_n 1, 1) := by decide +kernel
theorem dc_X6_take_2 : decode mX6_take.2.1 2 = .ok (.getfield 9, 3) := by decide +kernel
theorem dc_X6_take_5 : decode mX6_take.2.1 5 = .ok (.putfield 9, 3) := by decide +kernel
theorem dc_X6_take_8 : decode mX6_take.2.1 8 = .ok (.aload_n 0, 1) := by decide +kernel
theorem dc_X6_take_9 : decode mX6_take.2.1 9 = .ok (.aload_n 1, 1) := by decide +kernel
theorem dc_X6_take_10 : decode mX6_take.2.1 10 = .ok (.getfield 15, 3) := by decide +kernel
theorem dc_X6_take_13 : decode mX6_take.2.1 13 = .ok (.putfield 15, 3) := by decide +kernel
theorem dc_X6_take_16 : decode mX6_take.2.1 16 = .ok (.aload_n 0, 1) := by decide +kernel
theorem dc_X6_take_17 : decode mX6_take.2.1 17 = .ok (.aload_n 1, 1) := by decide +kernel
theorem dc_X6_take_18 : decode mX6_take.2.1 18 = .ok (.getfield 18, 3) := by decide +kernel
theorem dc_X6_take_21 : decode mX6_take.2.1 21 = .ok (.putfield 18, 3) := by decide +kernel
theorem dc_X6_take_24 : decode mX6_take.2.1 24 = .ok (.aload_n 0, 1) := by decide +kernel
theorem dc_X6_take_25 : decode mX6_take.2.1 25 = .ok (.aload_n 1, 1) := by decide +kernel
theorem dc_X6_take_26 : decode mX6_take.2.1 26 = .ok (.getfield 21, 3) := by decide +kernel
theorem dc_X6_take_29 : decode mX6_take.2.1 29 = .ok (.putfield 21, 3) := by decide +kernel
theorem dc_X6_take_32 : decode mX6_take.2.1 32 = .ok (.aload_n 0, 1) := by decide +kernel
theorem dc_X6_take_33 : decode mX6_take.2.1 33 = .ok (.aload_n 1, 1) := by decide +kernel
theorem dc_X6_take_34 : decode mX6_take.2.1 34 = .ok (.getfield 24, 3) := by decide +kernel
theorem dc_X6_take_37 : decode mX6_take.2.1 37 = .ok (.putfield 24, 3) := by decide +kernel
theorem dc_X6_take_40 : decode mX6_take.2.1 40 = .ok (.aload_n 0, 1) := by decide +kernel
theorem dc_X6_take_41 : decode mX6_take.2.1 41 = .ok (.aload_n 1, 1) := by decide +kernel
theorem dc_X6_take_42 : decode mX6_take.2.1 42 = .ok (.getfield 27, 3) := by decide +kernel
theorem dc_X6_take_45 : decode mX6_take.2.1 45 = .ok (.putfield 27, 3) := by decide +kernel
theorem dc_X6_take_48 : decode mX6_take.2.1 48 = .ok (.aload_n 0, 1) := by decide +kernel
theorem dc_X6_take_49 : decode mX6_take.2.1 49 = .ok (.aload_n 1, 1) := by decide +kernel
theorem dc_X6_take_50 : decode mX6_take.2.1 50 = .ok (.getfield 30, 3) := by decide +kernel
theorem dc_X6_take_53 : decode mX6_take.2.1 53 = .ok (.putfield 30, 3) := by decide +kernel
theorem dc_X6_take_56 : decode mX6_take.2.1 56 = .ok (.return_, 1) := by decide +kernel
theorem dc_X6_mayBecome_0 : decode mX6_mayBecome.2.1 0 = .ok (.iload_n 0, 1) := by decide +kernel
theorem dc_X6_mayBecome_1 : decode mX6_mayBecome.2.1 1 = .ok (.tableswitch 98 0 6 #[43, 51, 59, 66, 73, 80, 89], 43) := by decide +kernel
theorem dc_X6_mayBecome_44 : decode mX6_mayBecome.2.1 44 = .ok (.iload_n 1, 1) := by decide +kernel
theorem dc_X6_mayBecome_45 : decode mX6_mayBecome.2.1 45 = .ok (.iconst 0, 1) := by decide +kernel
theorem dc_X6_mayBecome_46 : decode mX6_mayBecome.2.1 46 = .ok (.bipush 6, 2) := by decide +kernel
theorem dc_X6_mayBecome_48 : decode mX6_mayBecome.2.1 48 = .ok (.invokestatic 33, 3) := by decide +kernel
theorem dc_X6_mayBecome_51 : decode mX6_mayBecome.2.1 51 = .ok (.ireturn, 1) := by decide +kernel
theorem dc_X6_mayBecome_52 : decode mX6_mayBecome.2.1 52 = .ok (.iload_n 1, 1) := by decide +kernel
theorem dc_X6_mayBecome_53 : decode mX6_mayBecome.2.1 53 = .ok (.iconst 0, 1) := by decide +kernel
theorem dc_X6_mayBecome_54 : decode mX6_mayBecome.2.1 54 = .ok (.bipush 23, 2) := by decide +kernel
theorem dc_X6_mayBecome_56 : decode mX6_mayBecome.2.1 56 = .ok (.invokestatic 33, 3) := by decide +kernel
theorem dc_X6_mayBecome_59 : decode mX6_mayBecome.2.1 59 = .ok (.ireturn, 1) := by decide +kernel
theorem dc_X6_mayBecome_60 : decode mX6_mayBecome.2.1 60 = .ok (.iload_n 1, 1) := by decide +kernel
theorem dc_X6_mayBecome_61 : decode mX6_mayBecome.2.1 61 = .ok (.iconst 0, 1) := by decide +kernel
theorem dc_X6_mayBecome_62 : decode mX6_mayBecome.2.1 62 = .ok (.iconst 1, 1) := by decide +kernel
theorem dc_X6_mayBecome_63 : decode mX6_mayBecome.2.1 63 = .ok (.invokestatic 33, 3) := by decide +kernel
theorem dc_X6_mayBecome_66 : decode mX6_mayBecome.2.1 66 = .ok (.ireturn, 1) := by decide +kernel
theorem dc_X6_mayBecome_67 : decode mX6_mayBecome.2.1 67 = .ok (.iload_n 1, 1) := by decide +kernel
theorem dc_X6_mayBecome_68 : decode mX6_mayBecome.2.1 68 = .ok (.iconst 0, 1) := by decide +kernel
theorem dc_X6_mayBecome_69 : decode mX6_mayBecome.2.1 69 = .ok (.iconst 5, 1) := by decide +kernel
theorem dc_X6_mayBecome_70 : decode mX6_mayBecome.2.1 70 = .ok (.invokestatic 33, 3) := by decide +kernel
theorem dc_X6_mayBecome_73 : decode mX6_mayBecome.2.1 73 = .ok (.ireturn, 1) := by decide +kernel
theorem dc_X6_mayBecome_74 : decode mX6_mayBecome.2.1 74 = .ok (.iload_n 1, 1) := by decide +kernel
theorem dc_X6_mayBecome_75 : decode mX6_mayBecome.2.1 75 = .ok (.iconst 0, 1) := by decide +kernel
theorem dc_X6_mayBecome_76 : decode mX6_mayBecome.2.1 76 = .ok (.iconst 1, 1) := by decide +kernel
theorem dc_X6_mayBecome_77 : decode mX6_mayBecome.2.1 77 = .ok (.invokestatic 33, 3) := by decide +kernel
theorem dc_X6_mayBecome_80 : decode mX6_mayBecome.2.1 80 = .ok (.ireturn, 1) := by decide +kernel
theorem dc_X6_mayBecome_81 : decode mX6_mayBecome.2.1 81 = .ok (.iload_n 1, 1) := by decide +kernel
theorem dc_X6_mayBecome_82 : decode mX6_mayBecome.2.1 82 = .ok (.iconst 0, 1) := by decide +kernel
theorem dc_X6_mayBecome_83 : decode mX6_mayBecome.2.1 83 = .ok (.sipush 9999, 3) := by decide +kernel
theorem dc_X6_mayBecome_86 : decode mX6_mayBecome.2.1 86 = .ok (.invokestatic 33, 3) := by decide +kernel
theorem dc_X6_mayBecome_89 : decode mX6_mayBecome.2.1 89 = .ok (.ireturn, 1) := by decide +kernel
theorem dc_X6_mayBecome_90 : decode mX6_mayBecome.2.1 90 = .ok (.iload_n 1, 1) := by decide +kernel
theorem dc_X6_mayBecome_91 : decode mX6_mayBecome.2.1 91 = .ok (.iconst 0, 1) := by decide +kernel
theorem dc_X6_mayBecome_92 : decode mX6_mayBecome.2.1 92 = .ok (.sipush 9999, 3) := by decide +kernel
theorem dc_X6_mayBecome_95 : decode mX6_mayBecome.2.1 95 = .ok (.invokestatic 33, 3) := by decide +kernel
theorem dc_X6_mayBecome_98 : decode mX6_mayBecome.2.1 98 = .ok (.ireturn, 1) := by decide +kernel
theorem dc_X6_mayBecome_99 : decode mX6_mayBecome.2.1 99 = .ok (.iconst 0, 1) := by decide +kernel
theorem dc_X6_mayBecome_100 : decode mX6_mayBecome.2.1 100 = .ok (.ireturn, 1) := by decide +kernel
theorem dc_X6_become_0 : decode mX6_become.2.1 0 = .ok (.iload_n 1, 1) := by decide +kernel
theorem dc_X6_become_1 : decode mX6_become.2.1 1 = .ok (.tableswitch 87 0 5 #[39, 47, 55, 63, 71, 79], 39) := by decide +kernel
theorem dc_X6_become_40 : decode mX6_become.2.1 40 = .ok (.aload_n 0, 1) := by decide +kernel
theorem dc_X6_become_41 : decode mX6_become.2.1 41 = .ok (.iload_n 2, 1) := by decide +kernel
theorem dc_X6_become_42 : decode mX6_become.2.1 42 = .ok (.putfield 9, 3) := by decide +kernel
theorem dc_X6_become_45 : decode mX6_become.2.1 45 = .ok (.goto 48, 3) := by decide +kernel
theorem dc_X6_become_48 : decode mX6_become.2.1 48 = .ok (.aload_n 0, 1) := by decide +kernel
theorem dc_X6_become_49 : decode mX6_become.2.1 49 = .ok (.iload_n 2, 1) := by decide +kernel
theorem dc_X6_become_50 : decode mX6_become.2.1 50 = .ok (.putfield 15, 3) := by decide +kernel
theorem dc_X6_become_53 : decode mX6_become.2.1 53 = .ok (.goto 40, 3) := by decide +kernel
theorem dc_X6_become_56 : decode mX6_become.2.1 56 = .ok (.aload_n 0, 1) := by decide +kernel
theorem dc_X6_become_57 : decode mX6_become.2.1 57 = .ok (.iload_n 2, 1) := by decide +kernel
theorem dc_X6_become_58 : decode mX6_become.2.1 58 = .ok (.putfield 18, 3) := by decide +kernel
theorem dc_X6_become_61 : decode mX6_become.2.1 61 = .ok (.goto 32, 3) := by decide +kernel
theorem dc_X6_become_64 : decode mX6_become.2.1 64 = .ok (.aload_n 0, 1) := by decide +kernel
theorem dc_X6_become_65 : decode mX6_become.2.1 65 = .ok (.iload_n 2, 1) := by decide +kernel
theorem dc_X6_become_66 : decode mX6_become.2.1 66 = .ok (.putfield 21, 3) := by decide +kernel
theorem dc_X6_become_69 : decode mX6_become.2.1 69 = .ok (.goto 24, 3) := by decide +kernel
theorem dc_X6_become_72 : decode mX6_become.2.1 72 = .ok (.aload_n 0, 1) := by decide +kernel
theorem dc_X6_become_73 : decode mX6_become.2.1 73 = .ok (.iload_n 2, 1) := by decide +kernel
theorem dc_X6_become_74 : decode mX6_become.2.1 74 = .ok (.putfield 24, 3) := by decide +kernel
theorem dc_X6_become_77 : decode mX6_become.2.1 77 = .ok (.goto 16, 3) := by decide +kernel
theorem dc_X6_become_80 : decode mX6_become.2.1 80 = .ok (.aload_n 0, 1) := by decide +kernel
theorem dc_X6_become_81 : decode mX6_become.2.1 81 = .ok (.iload_n 2, 1) := by decide +kernel
theorem dc_X6_become_82 : decode mX6_become.2.1 82 = .ok (.putfield 27, 3) := by decide +kernel
theorem dc_X6_become_85 : decode mX6_become.2.1 85 = .ok (.goto 8, 3) := by decide +kernel
theorem dc_X6_become_88 : decode mX6_become.2.1 88 = .ok (.aload_n 0, 1) := by decide +kernel
theorem dc_X6_become_89 : decode mX6_become.2.1 89 = .ok (.iload_n 2, 1) := by decide +kernel
theorem dc_X6_become_90 : decode mX6_become.2.1 90 = .ok (.putfield 30, 3) := by decide +kernel
theorem dc_X6_become_93 : decode mX6_become.2.1 93 = .ok (.return_, 1) := by decide +kernel
theorem dc_X6_told_0 : decode mX6_told.2.1 0 = .ok (.iload_n 1, 1) := by decide +kernel
theorem dc_X6_told_1 : decode mX6_told.2.1 1 = .ok (.tableswitch 69 0 5 #[39, 44, 49, 54, 59, 64], 39) := by decide +kernel
theorem dc_X6_told_40 : decode mX6_told.2.1 40 = .ok (.aload_n 0, 1) := by decide +kernel
theorem dc_X6_told_41 : decode mX6_told.2.1 41 = .ok (.getfield 9, 3) := by decide +kernel
theorem dc_X6_told_44 : decode mX6_told.2.1 44 = .ok (.ireturn, 1) := by decide +kernel
theorem dc_X6_told_45 : decode mX6_told.2.1 45 = .ok (.aload_n 0, 1) := by decide +kernel
theorem dc_X6_told_46 : decode mX6_told.2.1 46 = .ok (.getfield 15, 3) := by decide +kernel
theorem dc_X6_told_49 : decode mX6_told.2.1 49 = .ok (.ireturn, 1) := by decide +kernel
theorem dc_X6_told_50 : decode mX6_told.2.1 50 = .ok (.aload_n 0, 1) := by decide +kernel
theorem dc_X6_told_51 : decode mX6_told.2.1 51 = .ok (.getfield 18, 3) := by decide +kernel
theorem dc_X6_told_54 : decode mX6_told.2.1 54 = .ok (.ireturn, 1) := by decide +kernel
theorem dc_X6_told_55 : decode mX6_told.2.1 55 = .ok (.aload_n 0, 1) := by decide +kernel
theorem dc_X6_told_56 : decode mX6_told.2.1 56 = .ok (.getfield 21, 3) := by decide +kernel
theorem dc_X6_told_59 : decode mX6_told.2.1 59 = .ok (.ireturn, 1) := by decide +kernel
theorem dc_X6_told_60 : decode mX6_told.2.1 60 = .ok (.aload_n 0, 1) := by decide +kernel
theorem dc_X6_told_61 : decode mX6_told.2.1 61 = .ok (.getfield 24, 3) := by decide +kernel
theorem dc_X6_told_64 : decode mX6_told.2.1 64 = .ok (.ireturn, 1) := by decide +kernel
theorem dc_X6_told_65 : decode mX6_told.2.1 65 = .ok (.aload_n 0, 1) := by decide +kernel
theorem dc_X6_told_66 : decode mX6_told.2.1 66 = .ok (.getfield 27, 3) := by decide +kernel
theorem dc_X6_told_69 : decode mX6_told.2.1 69 = .ok (.ireturn, 1) := by decide +kernel
theorem dc_X6_told_70 : decode mX6_told.2.1 70 = .ok (.aload_n 0, 1) := by decide +kernel
theorem dc_X6_told_71 : decode mX6_told.2.1 71 = .ok (.getfield 30, 3) := by decide +kernel
theorem dc_X6_told_74 : decode mX6_told.2.1 74 = .ok (.ireturn, 1) := by decide +kernel
theorem dc_X6_seen_0 : decode mX6_seen.2.1 0 = .ok (.iload_n 2, 1) := by decide +kernel
theorem dc_X6_seen_1 : decode mX6_seen.2.1 1 = .ok (.iconst 2, 1) := by decide +kernel
theorem dc_X6_seen_2 : decode mX6_seen.2.1 2 = .ok (.irem, 1) := by decide +kernel
theorem dc_X6_seen_3 : decode mX6_seen.2.1 3 = .ok (.ifCond .ne 7, 3) := by decide +kernel
theorem dc_X6_seen_6 : decode mX6_seen.2.1 6 = .ok (.iconst 1, 1) := by decide +kernel
theorem dc_X6_seen_7 : decode mX6_seen.2.1 7 = .ok (.goto 4, 3) := by decide +kernel
theorem dc_X6_seen_10 : decode mX6_seen.2.1 10 = .ok (.iconst 0, 1) := by decide +kernel
theorem dc_X6_seen_11 : decode mX6_seen.2.1 11 = .ok (.istore_n 3, 1) := by decide +kernel
theorem dc_X6_seen_12 : decode mX6_seen.2.1 12 = .ok (.aload_n 0, 1) := by decide +kernel
theorem dc_X6_seen_13 : decode mX6_seen.2.1 13 = .ok (.getfield 9, 3) := by decide +kernel
theorem dc_X6_seen_16 : decode mX6_seen.2.1 16 = .ok (.tableswitch 103 1 6 #[40, 67, 77, 95, 99, 47], 40) := by decide +kernel
theorem dc_X6_seen_56 : decode mX6_seen.2.1 56 = .ok (.iload_n 1, 1) := by decide +kernel
theorem dc_X6_seen_57 : decode mX6_seen.2.1 57 = .ok (.aload_n 0, 1) := by decide +kernel
theorem dc_X6_seen_58 : decode mX6_seen.2.1 58 = .ok (.invokevirtual 37, 3) := by decide +kernel
theorem dc_X6_seen_61 : decode mX6_seen.2.1 61 = .ok (.iand, 1) := by decide +kernel
theorem dc_X6_seen_62 : decode mX6_seen.2.1 62 = .ok (.ireturn, 1) := by decide +kernel
theorem dc_X6_seen_63 : decode mX6_seen.2.1 63 = .ok (.aload_n 0, 1) := by decide +kernel
theorem dc_X6_seen_64 : decode mX6_seen.2.1 64 = .ok (.getfield 15, 3) := by decide +kernel
theorem dc_X6_seen_67 : decode mX6_seen.2.1 67 = .ok (.iconst 2, 1) := by decide +kernel
theorem dc_X6_seen_68 : decode mX6_seen.2.1 68 = .ok (.irem, 1) := by decide +kernel
theorem dc_X6_seen_69 : decode mX6_seen.2.1 69 = .ok (.ifCond .ne 7, 3) := by decide +kernel
theorem dc_X6_seen_72 : decode mX6_seen.2.1 72 = .ok (.iload_n 1, 1) := by decide +kernel
theorem dc_X6_seen_73 : decode mX6_seen.2.1 73 = .ok (.goto 9, 3) := by decide +kernel
theorem dc_X6_seen_76 : decode mX6_seen.2.1 76 = .ok (.iload_n 1, 1) := by decide +kernel
theorem dc_X6_seen_77 : decode mX6_seen.2.1 77 = .ok (.aload_n 0, 1) := by decide +kernel
theorem dc_X6_seen_78 : decode mX6_seen.2.1 78 = .ok (.invokevirtual 37, 3) := by decide +kernel
theorem dc_X6_seen_81 : decode mX6_seen.2.1 81 = .ok (.iand, 1) := by decide +kernel
theorem dc_X6_seen_82 : decode mX6_seen.2.1 82 = .ok (.ireturn, 1) := by decide +kernel
theorem dc_X6_seen_83 : decode mX6_seen.2.1 83 = .ok (.iload_n 3, 1) := by decide +kernel
theorem dc_X6_seen_84 : decode mX6_seen.2.1 84 = .ok (.ifCond .eq 7, 3) := by decide +kernel
theorem dc_X6_seen_87 : decode mX6_seen.2.1 87 = .ok (.iload_n 1, 1) := by decide +kernel
theorem dc_X6_seen_88 : decode mX6_seen.2.1 88 = .ok (.goto 4, 3) := by decide +kernel
theorem dc_X6_seen_91 : decode mX6_seen.2.1 91 = .ok (.iconst 0, 1) := by decide +kernel
theorem dc_X6_seen_92 : decode mX6_seen.2.1 92 = .ok (.ireturn, 1) := by decide +kernel
theorem dc_X6_seen_93 : decode mX6_seen.2.1 93 = .ok (.iload_n 3, 1) := by decide +kernel
theorem dc_X6_seen_94 : decode mX6_seen.2.1 94 = .ok (.ifCond .ne 11, 3) := by decide +kernel
theorem dc_X6_seen_97 : decode mX6_seen.2.1 97 = .ok (.aload_n 0, 1) := by decide +kernel
theorem dc_X6_seen_98 : decode mX6_seen.2.1 98 = .ok (.getfield 21, 3) := by decide +kernel
theorem dc_X6_seen_101 : decode mX6_seen.2.1 101 = .ok (.iconst 1, 1) := by decide +kernel
theorem dc_X6_seen_102 : decode mX6_seen.2.1 102 = .ok (.if_icmp .gt 7, 3) := by decide +kernel
theorem dc_X6_seen_105 : decode mX6_seen.2.1 105 = .ok (.iload_n 1, 1) := by decide +kernel
theorem dc_X6_seen_106 : decode mX6_seen.2.1 106 = .ok (.goto 4, 3) := by decide +kernel
theorem dc_X6_seen_109 : decode mX6_seen.2.1 109 = .ok (.iconst 0, 1) := by decide +kernel
theorem dc_X6_seen_110 : decode mX6_seen.2.1 110 = .ok (.ireturn, 1) := by decide +kernel
theorem dc_X6_seen_111 : decode mX6_seen.2.1 111 = .ok (.iload_n 1, 1) := by decide +kernel
theorem dc_X6_seen_112 : decode mX6_seen.2.1 112 = .ok (.iconst 2, 1) := by decide +kernel
theorem dc_X6_seen_113 : decode mX6_seen.2.1 113 = .ok (.iand, 1) := by decide +kernel
theorem dc_X6_seen_114 : decode mX6_seen.2.1 114 = .ok (.ireturn, 1) := by decide +kernel
theorem dc_X6_seen_115 : decode mX6_seen.2.1 115 = .ok (.iload_n 1, 1) := by decide +kernel
theorem dc_X6_seen_116 : decode mX6_seen.2.1 116 = .ok (.iconst 3, 1) := by decide +kernel
theorem dc_X6_seen_117 : decode mX6_seen.2.1 117 = .ok (.ixor, 1) := by decide +kernel
theorem dc_X6_seen_118 : decode mX6_seen.2.1 118 = .ok (.ireturn, 1) := by decide +kernel
theorem dc_X6_seen_119 : decode mX6_seen.2.1 119 = .ok (.iload_n 1, 1) := by decide +kernel
theorem dc_X6_seen_120 : decode mX6_seen.2.1 120 = .ok (.ireturn, 1) := by decide +kernel
theorem dc_X6_lightsNear_0 : decode mX6_lightsNear.2.1 0 = .ok (.aload_n 0, 1) := by decide +kernel
theorem dc_X6_lightsNear_1 : decode mX6_lightsNear.2.1 1 = .ok (.getfield 15, 3) := by decide +kernel
theorem dc_X6_lightsNear_4 : decode mX6_lightsNear.2.1 4 = .ok (.bipush 8, 2) := by decide +kernel
theorem dc_X6_lightsNear_6 : decode mX6_lightsNear.2.1 6 = .ok (.if_icmp .gt 7, 3) := by decide +kernel
theorem dc_X6_lightsNear_9 : decode mX6_lightsNear.2.1 9 = .ok (.iconst 1, 1) := by decide +kernel
theorem dc_X6_lightsNear_10 : decode mX6_lightsNear.2.1 10 = .ok (.goto 4, 3) := by decide +kernel
theorem dc_X6_lightsNear_13 : decode mX6_lightsNear.2.1 13 = .ok (.iconst 0, 1) := by decide +kernel
theorem dc_X6_lightsNear_14 : decode mX6_lightsNear.2.1 14 = .ok (.bipush 23, 2) := by decide +kernel
theorem dc_X6_lightsNear_16 : decode mX6_lightsNear.2.1 16 = .ok (.aload_n 0, 1) := by decide +kernel
theorem dc_X6_lightsNear_17 : decode mX6_lightsNear.2.1 17 = .ok (.getfield 15, 3) := by decide +kernel
theorem dc_X6_lightsNear_20 : decode mX6_lightsNear.2.1 20 = .ok (.isub, 1) := by decide +kernel
theorem dc_X6_lightsNear_21 : decode mX6_lightsNear.2.1 21 = .ok (.bipush 8, 2) := by decide +kernel
theorem dc_X6_lightsNear_23 : decode mX6_lightsNear.2.1 23 = .ok (.if_icmp .gt 7, 3) := by decide +kernel
theorem dc_X6_lightsNear_26 : decode mX6_lightsNear.2.1 26 = .ok (.iconst 2, 1) := by decide +kernel
theorem dc_X6_lightsNear_27 : decode mX6_lightsNear.2.1 27 = .ok (.goto 4, 3) := by decide +kernel
theorem dc_X6_lightsNear_30 : decode mX6_lightsNear.2.1 30 = .ok (.iconst 0, 1) := by decide +kernel
theorem dc_X6_lightsNear_31 : decode mX6_lightsNear.2.1 31 = .ok (.ior, 1) := by decide +kernel
theorem dc_X6_lightsNear_32 : decode mX6_lightsNear.2.1 32 = .ok (.ireturn, 1) := by decide +kernel
theorem dc_X6_cellsToGo_0 : decode mX6_cellsToGo.2.1 0 = .ok (.iload_n 1, 1) := by decide +kernel
theorem dc_X6_cellsToGo_1 : decode mX6_cellsToGo.2.1 1 = .ok (.iconst 2, 1) := by decide +kernel
theorem dc_X6_cellsToGo_2 : decode mX6_cellsToGo.2.1 2 = .ok (.irem, 1) := by decide +kernel
theorem dc_X6_cellsToGo_3 : decode mX6_cellsToGo.2.1 3 = .ok (.ifCond .ne 12, 3) := by decide +kernel
theorem dc_X6_cellsToGo_6 : decode mX6_cellsToGo.2.1 6 = .ok (.aload_n 0, 1) := by decide +kernel
theorem dc_X6_cellsToGo_7 : decode mX6_cellsToGo.2.1 7 = .ok (.getfield 21, 3) := by decide +kernel
theorem dc_X6_cellsToGo_10 : decode mX6_cellsToGo.2.1 10 = .ok (.iconst 1, 1) := by decide +kernel
theorem dc_X6_cellsToGo_11 : decode mX6_cellsToGo.2.1 11 = .ok (.iadd, 1) := by decide +kernel
theorem dc_X6_cellsToGo_12 : decode mX6_cellsToGo.2.1 12 = .ok (.goto 7, 3) := by decide +kernel
theorem dc_X6_cellsToGo_15 : decode mX6_cellsToGo.2.1 15 = .ok (.aload_n 0, 1) := by decide +kernel
theorem dc_X6_cellsToGo_16 : decode mX6_cellsToGo.2.1 16 = .ok (.getfield 21, 3) := by decide +kernel
theorem dc_X6_cellsToGo_19 : decode mX6_cellsToGo.2.1 19 = .ok (.istore_n 2, 1) := by decide +kernel
theorem dc_X6_cellsToGo_20 : decode mX6_cellsToGo.2.1 20 = .ok (.aload_n 0, 1) := by decide +kernel
theorem dc_X6_cellsToGo_21 : decode mX6_cellsToGo.2.1 21 = .ok (.getfield 21, 3) := by decide +kernel
theorem dc_X6_cellsToGo_24 : decode mX6_cellsToGo.2.1 24 = .ok (.ifCond .le 7, 3) := by decide +kernel
theorem dc_X6_cellsToGo_27 : decode mX6_cellsToGo.2.1 27 = .ok (.iconst 1, 1) := by decide +kernel
theorem dc_X6_cellsToGo_28 : decode mX6_cellsToGo.2.1 28 = .ok (.goto 4, 3) := by decide +kernel
theorem dc_X6_cellsToGo_31 : decode mX6_cellsToGo.2.1 31 = .ok (.iconst 0, 1) := by decide +kernel
theorem dc_X6_cellsToGo_32 : decode mX6_cellsToGo.2.1 32 = .ok (.istore_n 3, 1) := by decide +kernel
theorem dc_X6_cellsToGo_33 : decode mX6_cellsToGo.2.1 33 = .ok (.aload_n 0, 1) := by decide +kernel
theorem dc_X6_cellsToGo_34 : decode mX6_cellsToGo.2.1 34 = .ok (.getfield 9, 3) := by decide +kernel
theorem dc_X6_cellsToGo_37 : decode mX6_cellsToGo.2.1 37 = .ok (.tableswitch 58 1 6 #[39, 45, 52, 54, 58, 41], 39) := by decide +kernel
theorem dc_X6_cellsToGo_76 : decode mX6_cellsToGo.2.1 76 = .ok (.iload_n 3, 1) := by decide +kernel
theorem dc_X6_cellsToGo_77 : decode mX6_cellsToGo.2.1 77 = .ok (.ireturn, 1) := by decide +kernel
theorem dc_X6_cellsToGo_78 : decode mX6_cellsToGo.2.1 78 = .ok (.iconst 2, 1) := by decide +kernel
theorem dc_X6_cellsToGo_79 : decode mX6_cellsToGo.2.1 79 = .ok (.iload_n 3, 1) := by decide +kernel
theorem dc_X6_cellsToGo_80 : decode mX6_cellsToGo.2.1 80 = .ok (.imul, 1) := by decide +kernel
theorem dc_X6_cellsToGo_81 : decode mX6_cellsToGo.2.1 81 = .ok (.ireturn, 1) := by decide +kernel
theorem dc_X6_cellsToGo_82 : decode mX6_cellsToGo.2.1 82 = .ok (.aload_n 0, 1) := by decide +kernel
theorem dc_X6_cellsToGo_83 : decode mX6_cellsToGo.2.1 83 = .ok (.getfield 21, 3) := by decide +kernel
theorem dc_X6_cellsToGo_86 : decode mX6_cellsToGo.2.1 86 = .ok (.iconst 1, 1) := by decide +kernel
theorem dc_X6_cellsToGo_87 : decode mX6_cellsToGo.2.1 87 = .ok (.iadd, 1) := by decide +kernel
theorem dc_X6_cellsToGo_88 : decode mX6_cellsToGo.2.1 88 = .ok (.ireturn, 1) := by decide +kernel
theorem dc_X6_cellsToGo_89 : decode mX6_cellsToGo.2.1 89 = .ok (.iload_n 2, 1) := by decide +kernel
theorem dc_X6_cellsToGo_90 : decode mX6_cellsToGo.2.1 90 = .ok (.ireturn, 1) := by decide +kernel
theorem dc_X6_cellsToGo_91 : decode mX6_cellsToGo.2.1 91 = .ok (.iload_n 2, 1) := by decide +kernel
theorem dc_X6_cellsToGo_92 : decode mX6_cellsToGo.2.1 92 = .ok (.iconst 2, 1) := by decide +kernel
theorem dc_X6_cellsToGo_93 : decode mX6_cellsToGo.2.1 93 = .ok (.iadd, 1) := by decide +kernel
theorem dc_X6_cellsToGo_94 : decode mX6_cellsToGo.2.1 94 = .ok (.ireturn, 1) := by decide +kernel
theorem dc_X6_cellsToGo_95 : decode mX6_cellsToGo.2.1 95 = .ok (.aload_n 0, 1) := by decide +kernel
theorem dc_X6_cellsToGo_96 : decode mX6_cellsToGo.2.1 96 = .ok (.getfield 21, 3) := by decide +kernel
theorem dc_X6_cellsToGo_99 : decode mX6_cellsToGo.2.1 99 = .ok (.ireturn, 1) := by decide +kernel
theorem dc_X6_sail_0 : decode mX6_sail.2.1 0 = .ok (.aload_n 0, 1) := by decide +kernel
theorem dc_X6_sail_1 : decode mX6_sail.2.1 1 = .ok (.getfield 24, 3) := by decide +kernel
theorem dc_X6_sail_4 : decode mX6_sail.2.1 4 = .ok (.iconst 1, 1) := by decide +kernel
theorem dc_X6_sail_5 : decode mX6_sail.2.1 5 = .ok (.if_icmp .ne 4, 3) := by decide +kernel
theorem dc_X6_sail_8 : decode mX6_sail.2.1 8 = .ok (.return_, 1) := by decide +kernel
theorem dc_X6_sail_9 : decode mX6_sail.2.1 9 = .ok (.aload_n 0, 1) := by decide +kernel
theorem dc_X6_sail_10 : decode mX6_sail.2.1 10 = .ok (.iload_n 1, 1) := by decide +kernel
theorem dc_X6_sail_11 : decode mX6_sail.2.1 11 = .ok (.iload_n 2, 1) := by decide +kernel
theorem dc_X6_sail_12 : decode mX6_sail.2.1 12 = .ok (.invokevirtual 41, 3) := by decide +kernel
theorem dc_X6_sail_15 : decode mX6_sail.2.1 15 = .ok (.istore_n 3, 1) := by decide +kernel
theorem dc_X6_sail_16 : decode mX6_sail.2.1 16 = .ok (.iload_n 3, 1) := by decide +kernel
theorem dc_X6_sail_17 : decode mX6_sail.2.1 17 = .ok (.iconst 1, 1) := by decide +kernel
theorem dc_X6_sail_18 : decode mX6_sail.2.1 18 = .ok (.if_icmp .ne 11, 3) := by decide +kernel
theorem dc_X6_sail_21 : decode mX6_sail.2.1 21 = .ok (.aload_n 0, 1) := by decide +kernel
theorem dc_X6_sail_22 : decode mX6_sail.2.1 22 = .ok (.iconst 1, 1) := by decide +kernel
theorem dc_X6_sail_23 : decode mX6_sail.2.1 23 = .ok (.putfield 18, 3) := by decide +kernel
theorem dc_X6_sail_26 : decode mX6_sail.2.1 26 = .ok (.goto 13, 3) := by decide +kernel
theorem dc_X6_sail_29 : decode mX6_sail.2.1 29 = .ok (.iload_n 3, 1) := by decide +kernel
theorem dc_X6_sail_30 : decode mX6_sail.2.1 30 = .ok (.iconst 2, 1) := by decide +kernel
theorem dc_X6_sail_31 : decode mX6_sail.2.1 31 = .ok (.if_icmp .ne 8, 3) := by decide +kernel
theorem dc_X6_sail_34 : decode mX6_sail.2.1 34 = .ok (.aload_n 0, 1) := by decide +kernel
theorem dc_X6_sail_35 : decode mX6_sail.2.1 35 = .ok (.iconst 0, 1) := by decide +kernel
theorem dc_X6_sail_36 : decode mX6_sail.2.1 36 = .ok (.putfield 18, 3) := by decide +kernel
theorem dc_X6_sail_39 : decode mX6_sail.2.1 39 = .ok (.aload_n 0, 1) := by decide +kernel
theorem dc_X6_sail_40 : decode mX6_sail.2.1 40 = .ok (.aload_n 0, 1) := by decide +kernel
theorem dc_X6_sail_41 : decode mX6_sail.2.1 41 = .ok (.getfield 30, 3) := by decide +kernel
theorem dc_X6_sail_44 : decode mX6_sail.2.1 44 = .ok (.iload_n 3, 1) := by decide +kernel
theorem dc_X6_sail_45 : decode mX6_sail.2.1 45 = .ok (.invokestatic 45, 3) := by decide +kernel
theorem dc_X6_sail_48 : decode mX6_sail.2.1 48 = .ok (.iadd, 1) := by decide +kernel
theorem dc_X6_sail_49 : decode mX6_sail.2.1 49 = .ok (.sipush 9999, 3) := by decide +kernel
theorem dc_X6_sail_52 : decode mX6_sail.2.1 52 = .ok (.invokestatic 51, 3) := by decide +kernel
theorem dc_X6_sail_55 : decode mX6_sail.2.1 55 = .ok (.putfield 30, 3) := by decide +kernel
theorem dc_X6_sail_58 : decode mX6_sail.2.1 58 = .ok (.iload_n 3, 1) := by decide +kernel
theorem dc_X6_sail_59 : decode mX6_sail.2.1 59 = .ok (.iconst 3, 1) := by decide +kernel
theorem dc_X6_sail_60 : decode mX6_sail.2.1 60 = .ok (.if_icmp .eq 12, 3) := by decide +kernel
theorem dc_X6_sail_63 : decode mX6_sail.2.1 63 = .ok (.aload_n 0, 1) := by decide +kernel
theorem dc_X6_sail_64 : decode mX6_sail.2.1 64 = .ok (.aload_n 0, 1) := by decide +kernel
theorem dc_X6_sail_65 : decode mX6_sail.2.1 65 = .ok (.iload_n 2, 1) := by decide +kernel
theorem dc_X6_sail_66 : decode mX6_sail.2.1 66 = .ok (.invokevirtual 56, 3) := by decide +kernel
theorem dc_X6_sail_69 : decode mX6_sail.2.1 69 = .ok (.invokevirtual 59, 3) := by decide +kernel
theorem dc_X6_sail_72 : decode mX6_sail.2.1 72 = .ok (.return_, 1) := by decide +kernel
theorem dc_X6_sailOn_0 : decode mX6_sailOn.2.1 0 = .ok (.iconst 0, 1) := by decide +kernel
theorem dc_X6_sailOn_1 : decode mX6_sailOn.2.1 1 = .ok (.istore_n 3, 1) := by decide +kernel
theorem dc_X6_sailOn_2 : decode mX6_sailOn.2.1 2 = .ok (.iload_n 3, 1) := by decide +kernel
theorem dc_X6_sailOn_3 : decode mX6_sailOn.2.1 3 = .ok (.iload_n 2, 1) := by decide +kernel
theorem dc_X6_sailOn_4 : decode mX6_sailOn.2.1 4 = .ok (.if_icmp .ge 23, 3) := by decide +kernel
theorem dc_X6_sailOn_7 : decode mX6_sailOn.2.1 7 = .ok (.aload_n 0, 1) := by decide +kernel
theorem dc_X6_sailOn_8 : decode mX6_sailOn.2.1 8 = .ok (.aload_n 1, 1) := by decide +kernel
theorem dc_X6_sailOn_9 : decode mX6_sailOn.2.1 9 = .ok (.iload_n 3, 1) := by decide +kernel
theorem dc_X6_sailOn_10 : decode mX6_sailOn.2.1 10 = .ok (.invokevirtual 63, 3) := by decide +kernel
theorem dc_X6_sailOn_13 : decode mX6_sailOn.2.1 13 = .ok (.aload_n 1, 1) := by decide +kernel
theorem dc_X6_sailOn_14 : decode mX6_sailOn.2.1 14 = .ok (.iload_n 3, 1) := by decide +kernel
theorem dc_X6_sailOn_15 : decode mX6_sailOn.2.1 15 = .ok (.invokevirtual 68, 3) := by decide +kernel
theorem dc_X6_sailOn_18 : decode mX6_sailOn.2.1 18 = .ok (.invokevirtual 71, 3) := by decide +kernel
theorem dc_X6_sailOn_21 : decode mX6_sailOn.2.1 21 = .ok (.iinc 3 1, 3) := by decide +kernel
theorem dc_X6_sailOn_24 : decode mX6_sailOn.2.1 24 = .ok (.goto (-22), 3) := by decide +kernel
theorem dc_X6_sailOn_27 : decode mX6_sailOn.2.1 27 = .ok (.return_, 1) := by decide +kernel
theorem dc_X6_move_0 : decode mX6_move.2.1 0 = .ok (.aload_n 0, 1) := by decide +kernel
theorem dc_X6_move_1 : decode mX6_move.2.1 1 = .ok (.aload_n 0, 1) := by decide +kernel
theorem dc_X6_move_2 : decode mX6_move.2.1 2 = .ok (.getfield 18, 3) := by decide +kernel
theorem dc_X6_move_5 : decode mX6_move.2.1 5 = .ok (.iconst 1, 1) := by decide +kernel
theorem dc_X6_move_6 : decode mX6_move.2.1 6 = .ok (.if_icmp .ne 17, 3) := by decide +kernel
theorem dc_X6_move_9 : decode mX6_move.2.1 9 = .ok (.aload_n 0, 1) := by decide +kernel
theorem dc_X6_move_10 : decode mX6_move.2.1 10 = .ok (.getfield 15, 3) := by decide +kernel
theorem dc_X6_move_13 : decode mX6_move.2.1 13 = .ok (.iload_n 1, 1) := by decide +kernel
theorem dc_X6_move_14 : decode mX6_move.2.1 14 = .ok (.iadd, 1) := by decide +kernel
theorem dc_X6_move_15 : decode mX6_move.2.1 15 = .ok (.bipush 23, 2) := by decide +kernel
theorem dc_X6_move_17 : decode mX6_move.2.1 17 = .ok (.invokestatic 51, 3) := by decide +kernel
theorem dc_X6_move_20 : decode mX6_move.2.1 20 = .ok (.goto 13, 3) := by decide +kernel
theorem dc_X6_move_23 : decode mX6_move.2.1 23 = .ok (.aload_n 0, 1) := by decide +kernel
theorem dc_X6_move_24 : decode mX6_move.2.1 24 = .ok (.getfield 15, 3) := by decide +kernel
theorem dc_X6_move_27 : decode mX6_move.2.1 27 = .ok (.iload_n 1, 1) := by decide +kernel
theorem dc_X6_move_28 : decode mX6_move.2.1 28 = .ok (.isub, 1) := by decide +kernel
theorem dc_X6_move_29 : decode mX6_move.2.1 29 = .ok (.iconst 0, 1) := by decide +kernel
theorem dc_X6_move_30 : decode mX6_move.2.1 30 = .ok (.invokestatic 75, 3) := by decide +kernel
theorem dc_X6_move_33 : decode mX6_move.2.1 33 = .ok (.putfield 15, 3) := by decide +kernel
theorem dc_X6_move_36 : decode mX6_move.2.1 36 = .ok (.iload_n 1, 1) := by decide +kernel
theorem dc_X6_move_37 : decode mX6_move.2.1 37 = .ok (.ifCond .le 51, 3) := by decide +kernel
theorem dc_X6_move_40 : decode mX6_move.2.1 40 = .ok (.aload_n 0, 1) := by decide +kernel
theorem dc_X6_move_41 : decode mX6_move.2.1 41 = .ok (.getfield 15, 3) := by decide +kernel
theorem dc_X6_move_44 : decode mX6_move.2.1 44 = .ok (.ifCond .eq 12, 3) := by decide +kernel
theorem dc_X6_move_47 : decode mX6_move.2.1 47 = .ok (.aload_n 0, 1) := by decide +kernel
theorem dc_X6_move_48 : decode mX6_move.2.1 48 = .ok (.getfield 15, 3) := by decide +kernel
theorem dc_X6_move_51 : decode mX6_move.2.1 51 = .ok (.bipush 23, 2) := by decide +kernel
theorem dc_X6_move_53 : decode mX6_move.2.1 53 = .ok (.if_icmp .ne 35, 3) := by decide +kernel
theorem dc_X6_move_56 : decode mX6_move.2.1 56 = .ok (.aload_n 0, 1) := by decide +kernel
theorem dc_X6_move_57 : decode mX6_move.2.1 57 = .ok (.aload_n 0, 1) := by decide +kernel
theorem dc_X6_move_58 : decode mX6_move.2.1 58 = .ok (.getfield 27, 3) := by decide +kernel
theorem dc_X6_move_61 : decode mX6_move.2.1 61 = .ok (.iconst 1, 1) := by decide +kernel
theorem dc_X6_move_62 : decode mX6_move.2.1 62 = .ok (.iadd, 1) := by decide +kernel
theorem dc_X6_move_63 : decode mX6_move.2.1 63 = .ok (.sipush 9999, 3) := by decide +kernel
theorem dc_X6_move_66 : decode mX6_move.2.1 66 = .ok (.invokestatic 51, 3) := by decide +kernel
theorem dc_X6_move_69 : decode mX6_move.2.1 69 = .ok (.putfield 27, 3) := by decide +kernel
theorem dc_X6_move_72 : decode mX6_move.2.1 72 = .ok (.aload_n 0, 1) := by decide +kernel
theorem dc_X6_move_73 : decode mX6_move.2.1 73 = .ok (.bipush 11, 2) := by decide +kernel
theorem dc_X6_move_75 : decode mX6_move.2.1 75 = .ok (.putfield 15, 3) := by decide +kernel
theorem dc_X6_move_78 : decode mX6_move.2.1 78 = .ok (.aload_n 0, 1) := by decide +kernel
theorem dc_X6_move_79 : decode mX6_move.2.1 79 = .ok (.iconst 1, 1) := by decide +kernel
theorem dc_X6_move_80 : decode mX6_move.2.1 80 = .ok (.aload_n 0, 1) := by decide +kernel
theorem dc_X6_move_81 : decode mX6_move.2.1 81 = .ok (.getfield 18, 3) := by decide +kernel
theorem dc_X6_move_84 : decode mX6_move.2.1 84 = .ok (.isub, 1) := by decide +kernel
theorem dc_X6_move_85 : decode mX6_move.2.1 85 = .ok (.putfield 18, 3) := by decide +kernel
theorem dc_X6_move_88 : decode mX6_move.2.1 88 = .ok (.return_, 1) := by decide +kernel
theorem dc_X7_init_0 : decode mX7_init.2.1 0 = .ok (.aload_n 0, 1) := by decide +kernel
theorem dc_X7_init_1 : decode mX7_init.2.1 1 = .ok (.invokespecial 3, 3) := by decide +kernel
theorem dc_X7_init_4 : decode mX7_init.2.1 4 = .ok (.aload_n 0, 1) := by decide +kernel
theorem dc_X7_init_5 : decode mX7_init.2.1 5 = .ok (.bipush 120, 2) := by decide +kernel
theorem dc_X7_init_7 : decode mX7_init.2.1 7 = .ok (.newarray .int, 2) := by decide +kernel
theorem dc_X7_init_9 : decode mX7_init.2.1 9 = .ok (.putfield 9, 3) := by decide +kernel
theorem dc_X7_init_12 : decode mX7_init.2.1 12 = .ok (.aload_n 0, 1) := by decide +kernel
theorem dc_X7_init_13 : decode mX7_init.2.1 13 = .ok (.iconst 0, 1) := by decide +kernel
theorem dc_X7_init_14 : decode mX7_init.2.1 14 = .ok (.putfield 15, 3) := by decide +kernel
theorem dc_X7_init_17 : decode mX7_init.2.1 17 = .ok (.return_, 1) := by decide +kernel
theorem dc_X7_add_0 : decode mX7_add.2.1 0 = .ok (.aload_n 0, 1) := by decide +kernel
theorem dc_X7_add_1 : decode mX7_add.2.1 1 = .ok (.getfield 15, 3) := by decide +kernel
theorem dc_X7_add_4 : decode mX7_add.2.1 4 = .ok (.bipush 120, 2) := by decide +kernel
theorem dc_X7_add_6 : decode mX7_add.2.1 6 = .ok (.if_icmp .ge 23, 3) := by decide +kernel
theorem dc_X7_add_9 : decode mX7_add.2.1 9 = .ok (.aload_n 0, 1) := by decide +kernel
theorem dc_X7_add_10 : decode mX7_add.2.1 10 = .ok (.getfield 9, 3) := by decide +kernel
theorem dc_X7_add_13 : decode mX7_add.2.1 13 = .ok (.aload_n 0, 1) := by decide +kernel
theorem dc_X7_add_14 : decode mX7_add.2.1 14 = .ok (.getfield 15, 3) := by decide +kernel
theorem dc_X7_add_17 : decode mX7_add.2.1 17 = .ok (.iload_n 1, 1) := by decide +kernel
theorem dc_X7_add_18 : decode mX7_add.2.1 18 = .ok (.iastore, 1) := by decide +kernel
theorem dc_X7_add_19 : decode mX7_add.2.1 19 = .ok (.aload_n 0, 1) := by decide +kernel
theorem dc_X7_add_20 : decode mX7_add.2.1 20 = .ok (.dup, 1) := by decide +kernel
theorem dc_X7_add_21 : decode mX7_add.2.1 21 = .ok (.getfield 15, 3) := by decide +kernel
theorem dc_X7_add_24 : decode mX7_add.2.1 24 = .ok (.iconst 1, 1) := by decide +kernel
theorem dc_X7_add_25 : decode mX7_add.2.1 25 = .ok (.iadd, 1) := by decide +kernel
theorem dc_X7_add_26 : decode mX7_add.2.1 26 = .ok (.putfield 15, 3) := by decide +kernel
theorem dc_X7_add_29 : decode mX7_add.2.1 29 = .ok (.return_, 1) := by decide +kernel
theorem dc_X7_readText_0 : decode mX7_readText.2.1 0 = .ok (.aload_n 0, 1) := by decide +kernel
theorem dc_X7_readText_1 : decode mX7_readText.2.1 1 = .ok (.iconst 0, 1) := by decide +kernel
theorem dc_X7_readText_2 : decode mX7_readText.2.1 2 = .ok (.putfield 19, 3) := by decide +kernel
theorem dc_X7_readText_5 : decode mX7_readText.2.1 5 = .ok (.aload_n 0, 1) := by decide +kernel
theorem dc_X7_readText_6 : decode mX7_readText.2.1 6 = .ok (.invokevirtual 22, 3) := by decide +kernel
theorem dc_X7_readText_9 : decode mX7_readText.2.1 9 = .ok (.iconst 1, 1) := by decide +kernel
theorem dc_X7_readText_10 : decode mX7_readText.2.1 10 = .ok (.istore_n 2, 1) := by decide +kernel
theorem dc_X7_readText_11 : decode mX7_readText.2.1 11 = .ok (.iload_n 2, 1) := by decide +kernel
theorem dc_X7_readText_12 : decode mX7_readText.2.1 12 = .ok (.bipush 120, 2) := by decide +kernel
theorem dc_X7_readText_14 : decode mX7_readText.2.1 14 = .ok (.if_icmp .gt 41, 3) := by decide +kernel
theorem dc_X7_readText_17 : decode mX7_readText.2.1 17 = .ok (.aload_n 0, 1) := by decide +kernel
theorem dc_X7_readText_18 : decode mX7_readText.2.1 18 = .ok (.aload_n 1, 1) := by decide +kernel
theorem dc_X7_readText_19 : decode mX7_readText.2.1 19 = .ok (.invokevirtual 25, 3) := by decide +kernel
theorem dc_X7_readText_22 : decode mX7_readText.2.1 22 = .ok (.ifCond .eq 33, 3) := by decide +kernel
theorem dc_X7_readText_25 : decode mX7_readText.2.1 25 = .ok (.aload_n 0, 1) := by decide +kernel
theorem dc_X7_readText_26 : decode mX7_readText.2.1 26 = .ok (.getfield 29, 3) := by decide +kernel
theorem dc_X7_readText_29 : decode mX7_readText.2.1 29 = .ok (.ifCond .ne 5, 3) := by decide +kernel
theorem dc_X7_readText_32 : decode mX7_readText.2.1 32 = .ok (.iload_n 2, 1) := by decide +kernel
theorem dc_X7_readText_33 : decode mX7_readText.2.1 33 = .ok (.ireturn, 1) := by decide +kernel
theorem dc_X7_readText_34 : decode mX7_readText.2.1 34 = .ok (.aload_n 0, 1) := by decide +kernel
theorem dc_X7_readText_35 : decode mX7_readText.2.1 35 = .ok (.getfield 29, 3) := by decide +kernel
theorem dc_X7_readText_38 : decode mX7_readText.2.1 38 = .ok (.iconst 3, 1) := by decide +kernel
theorem dc_X7_readText_39 : decode mX7_readText.2.1 39 = .ok (.if_icmp .eq 6, 3) := by decide +kernel
theorem dc_X7_readText_42 : decode mX7_readText.2.1 42 = .ok (.goto 13, 3) := by decide +kernel
theorem dc_X7_readText_45 : decode mX7_readText.2.1 45 = .ok (.aload_n 0, 1) := by decide +kernel
theorem dc_X7_readText_46 : decode mX7_readText.2.1 46 = .ok (.invokevirtual 22, 3) := by decide +kernel
theorem dc_X7_readText_49 : decode mX7_readText.2.1 49 = .ok (.iinc 2 1, 3) := by decide +kernel
theorem dc_X7_readText_52 : decode mX7_readText.2.1 52 = .ok (.goto (-41), 3) := by decide +kernel
theorem dc_X7_readText_55 : decode mX7_readText.2.1 55 = .ok (.iconst (-1), 1) := by decide +kernel
theorem dc_X7_readText_56 : decode mX7_readText.2.1 56 = .ok (.aload_n 0, 1) := by decide +kernel
theorem dc_X7_readText_57 : decode mX7_readText.2.1 57 = .ok (.getfield 32, 3) := by decide +kernel
theorem dc_X7_readText_60 : decode mX7_readText.2.1 60 = .ok (.isub, 1) := by decide +kernel
theorem dc_X7_readText_61 : decode mX7_readText.2.1 61 = .ok (.ireturn, 1) := by decide +kernel
theorem dc_X7_readItem_0 : decode mX7_readItem.2.1 0 = .ok (.aload_n 0, 1) := by decide +kernel
theorem dc_X7_readItem_1 : decode mX7_readItem.2.1 1 = .ok (.invokevirtual 35, 3) := by decide +kernel
theorem dc_X7_readItem_4 : decode mX7_readItem.2.1 4 = .ok (.istore_n 2, 1) := by decide +kernel
theorem dc_X7_readItem_5 : decode mX7_readItem.2.1 5 = .ok (.iload_n 2, 1) := by decide +kernel
theorem dc_X7_readItem_6 : decode mX7_readItem.2.1 6 = .ok (.ifCond .lt 13, 3) := by decide +kernel
theorem dc_X7_readItem_9 : decode mX7_readItem.2.1 9 = .ok (.aload_n 0, 1) := by decide +kernel
theorem dc_X7_readItem_10 : decode mX7_readItem.2.1 10 = .ok (.aload_n 1, 1) := by decide +kernel
theorem dc_X7_readItem_11 : decode mX7_readItem.2.1 11 = .ok (.getfield 39, 3) := by decide +kernel
theorem dc_X7_readItem_14 : decode mX7_readItem.2.1 14 = .ok (.iload_n 2, 1) := by decide +kernel
theorem dc_X7_readItem_15 : decode mX7_readItem.2.1 15 = .ok (.invokevirtual 45, 3) := by decide +kernel
theorem dc_X7_readItem_18 : decode mX7_readItem.2.1 18 = .ok (.ireturn, 1) := by decide +kernel
theorem dc_X7_readItem_19 : decode mX7_readItem.2.1 19 = .ok (.aload_n 0, 1) := by decide +kernel
theorem dc_X7_readItem_20 : decode mX7_readItem.2.1 20 = .ok (.ldc 49, 2) := by decide +kernel
theorem dc_X7_readItem_22 : decode mX7_readItem.2.1 22 = .ok (.invokevirtual 51, 3) := by decide +kernel
theorem dc_X7_readItem_25 : decode mX7_readItem.2.1 25 = .ok (.ifCond .eq 13, 3) := by decide +kernel
theorem dc_X7_readItem_28 : decode mX7_readItem.2.1 28 = .ok (.aload_n 0, 1) := by decide +kernel
theorem dc_X7_readItem_29 : decode mX7_readItem.2.1 29 = .ok (.aload_n 1, 1) := by decide +kernel
theorem dc_X7_readItem_30 : decode mX7_readItem.2.1 30 = .ok (.getfield 55, 3) := by decide +kernel
theorem dc_X7_readItem_33 : decode mX7_readItem.2.1 33 = .ok (.iconst 0, 1) := by decide +kernel
theorem dc_X7_readItem_34 : decode mX7_readItem.2.1 34 = .ok (.invokevirtual 59, 3) := by decide +kernel
theorem dc_X7_readItem_37 : decode mX7_readItem.2.1 37 = .ok (.ireturn, 1) := by decide +kernel
theorem dc_X7_readItem_38 : decode mX7_readItem.2.1 38 = .ok (.aload_n 0, 1) := by decide +kernel
theorem dc_X7_readItem_39 : decode mX7_readItem.2.1 39 = .ok (.ldc 63, 2) := by decide +kernel
theorem dc_X7_readItem_41 : decode mX7_readItem.2.1 41 = .ok (.invokevirtual 51, 3) := by decide +kernel
theorem dc_X7_readItem_44 : decode mX7_readItem.2.1 44 = .ok (.ifCond .eq 13, 3) := by decide +kernel
theorem dc_X7_readItem_47 : decode mX7_readItem.2.1 47 = .ok (.aload_n 0, 1) := by decide +kernel
theorem dc_X7_readItem_48 : decode mX7_readItem.2.1 48 = .ok (.aload_n 1, 1) := by decide +kernel
theorem dc_X7_readItem_49 : decode mX7_readItem.2.1 49 = .ok (.getfield 55, 3) := by decide +kernel
theorem dc_X7_readItem_52 : decode mX7_readItem.2.1 52 = .ok (.iconst 1, 1) := by decide +kernel
theorem dc_X7_readItem_53 : decode mX7_readItem.2.1 53 = .ok (.invokevirtual 59, 3) := by decide +kernel
theorem dc_X7_readItem_56 : decode mX7_readItem.2.1 56 = .ok (.ireturn, 1) := by decide +kernel
theorem dc_X7_readItem_57 : decode mX7_readItem.2.1 57 = .ok (.aload_n 0, 1) := by decide +kernel
theorem dc_X7_readItem_58 : decode mX7_readItem.2.1 58 = .ok (.ldc 65, 2) := by decide +kernel
theorem dc_X7_readItem_60 : decode mX7_readItem.2.1 60 = .ok (.invokevirtual 51, 3) := by decide +kernel
theorem dc_X7_readItem_63 : decode mX7_readItem.2.1 63 = .ok (.ifCond .eq 19, 3) := by decide +kernel
theorem dc_X7_readItem_66 : decode mX7_readItem.2.1 66 = .ok (.aload_n 0, 1) := by decide +kernel
theorem dc_X7_readItem_67 : decode mX7_readItem.2.1 67 = .ok (.aload_n 1, 1) := by decide +kernel
theorem dc_X7_readItem_68 : decode mX7_readItem.2.1 68 = .ok (.getfield 55, 3) := by decide +kernel
theorem dc_X7_readItem_71 : decode mX7_readItem.2.1 71 = .ok (.iconst 2, 1) := by decide +kernel
theorem dc_X7_readItem_72 : decode mX7_readItem.2.1 72 = .ok (.invokevirtual 59, 3) := by decide +kernel
theorem dc_X7_readItem_75 : decode mX7_readItem.2.1 75 = .ok (.ifCond .eq 7, 3) := by decide +kernel
theorem dc_X7_readItem_78 : decode mX7_readItem.2.1 78 = .ok (.iconst 1, 1) := by decide +kernel
theorem dc_X7_readItem_79 : decode mX7_readItem.2.1 79 = .ok (.goto 4, 3) := by decide +kernel
theorem dc_X7_readItem_82 : decode mX7_readItem.2.1 82 = .ok (.iconst 0, 1) := by decide +kernel
theorem dc_X7_readItem_83 : decode mX7_readItem.2.1 83 = .ok (.ireturn, 1) := by decide +kernel
theorem dc_X7_kindOfWord_0 : decode mX7_kindOfWord.2.1 0 = .ok (.aload_n 0, 1) := by decide +kernel
theorem dc_X7_kindOfWord_1 : decode mX7_kindOfWord.2.1 1 = .ok (.ldc 67, 2) := by decide +kernel
theorem dc_X7_kindOfWord_3 : decode mX7_kindOfWord.2.1 3 = .ok (.invokevirtual 51, 3) := by decide +kernel
theorem dc_X7_kindOfWord_6 : decode mX7_kindOfWord.2.1 6 = .ok (.ifCond .eq 5, 3) := by decide +kernel
theorem dc_X7_kindOfWord_9 : decode mX7_kindOfWord.2.1 9 = .ok (.iconst 0, 1) := by decide +kernel
theorem dc_X7_kindOfWord_10 : decode mX7_kindOfWord.2.1 10 = .ok (.ireturn, 1) := by decide +kernel
theorem dc_X7_kindOfWord_11 : decode mX7_kindOfWord.2.1 11 = .ok (.aload_n 0, 1) := by decide +kernel
theorem dc_X7_kindOfWord_12 : decode mX7_kindOfWord.2.1 12 = .ok (.ldc 69, 2) := by decide +kernel
theorem dc_X7_kindOfWord_14 : decode mX7_kindOfWord.2.1 14 = .ok (.invokevirtual 51, 3) := by decide +kernel
theorem dc_X7_kindOfWord_17 : decode mX7_kindOfWord.2.1 17 = .ok (.ifCond .eq 5, 3) := by decide +kernel
theorem dc_X7_kindOfWord_20 : decode mX7_kindOfWord.2.1 20 = .ok (.iconst 1, 1) := by decide +kernel
theorem dc_X7_kindOfWord_21 : decode mX7_kindOfWord.2.1 21 = .ok (.ireturn, 1) := by decide +kernel
theorem dc_X7_kindOfWord_22 : decode mX7_kindOfWord.2.1 22 = .ok (.aload_n 0, 1) := by decide +kernel
theorem dc_X7_kindOfWord_23 : decode mX7_kindOfWord.2.1 23 = .ok (.ldc 71, 2) := by decide +kernel
theorem dc_X7_kindOfWord_25 : decode mX7_kindOfWord.2.1 25 = .ok (.invokevirtual 51, 3) := by decide +kernel
theorem dc_X7_kindOfWord_28 : decode mX7_kindOfWord.2.1 28 = .ok (.ifCond .eq 5, 3) := by decide +kernel
theorem dc_X7_kindOfWord_31 : decode mX7_kindOfWord.2.1 31 = .ok (.iconst 2, 1) := by decide +kernel
theorem dc_X7_kindOfWord_32 : decode mX7_kindOfWord.2.1 32 = .ok (.ireturn, 1) := by decide +kernel
theorem dc_X7_kindOfWord_33 : decode mX7_kindOfWord.2.1 33 = .ok (.aload_n 0, 1) := by decide +kernel
theorem dc_X7_kindOfWord_34 : decode mX7_kindOfWord.2.1 34 = .ok (.ldc 73, 2) := by decide +kernel
theorem dc_X7_kindOfWord_36 : decode mX7_kindOfWord.2.1 36 = .ok (.invokevirtual 51, 3) := by decide +kernel
theorem dc_X7_kindOfWord_39 : decode mX7_kindOfWord.2.1 39 = .ok (.ifCond .eq 5, 3) := by decide +kernel
theorem dc_X7_kindOfWord_42 : decode mX7_kindOfWord.2.1 42 = .ok (.iconst 3, 1) := by decide +kernel
theorem dc_X7_kindOfWord_43 : decode mX7_kindOfWord.2.1 43 = .ok (.ireturn, 1) := by decide +kernel
theorem dc_X7_kindOfWord_44 : decode mX7_kindOfWord.2.1 44 = .ok (.aload_n 0, 1) := by decide +kernel
theorem dc_X7_kindOfWord_45 : decode mX7_kindOfWord.2.1 45 = .ok (.ldc 75, 2) := by decide +kernel
theorem dc_X7_kindOfWord_47 : decode mX7_kindOfWord.2.1 47 = .ok (.invokevirtual 51, 3) := by decide +kernel
theorem dc_X7_kindOfWord_50 : decode mX7_kindOfWord.2.1 50 = .ok (.ifCond .eq 5, 3) := by decide +kernel
theorem dc_X7_kindOfWord_53 : decode mX7_kindOfWord.2.1 53 = .ok (.iconst 4, 1) := by decide +kernel
theorem dc_X7_kindOfWord_54 : decode mX7_kindOfWord.2.1 54 = .ok (.ireturn, 1) := by decide +kernel
theorem dc_X7_kindOfWord_55 : decode mX7_kindOfWord.2.1 55 = .ok (.aload_n 0, 1) := by decide +kernel
theorem dc_X7_kindOfWord_56 : decode mX7_kindOfWord.2.1 56 = .ok (.ldc 77, 2) := by decide +kernel
theorem dc_X7_kindOfWord_58 : decode mX7_kindOfWord.2.1 58 = .ok (.invokevirtual 51, 3) := by decide +kernel
theorem dc_X7_kindOfWord_61 : decode mX7_kindOfWord.2.1 61 = .ok (.ifCond .eq 5, 3) := by decide +kernel
theorem dc_X7_kindOfWord_64 : decode mX7_kindOfWord.2.1 64 = .ok (.iconst 5, 1) := by decide +kernel
theorem dc_X7_kindOfWord_65 : decode mX7_kindOfWord.2.1 65 = .ok (.ireturn, 1) := by decide +kernel
theorem dc_X7_kindOfWord_66 : decode mX7_kindOfWord.2.1 66 = .ok (.aload_n 0, 1) := by decide +kernel
theorem dc_X7_kindOfWord_67 : decode mX7_kindOfWord.2.1 67 = .ok (.ldc 79, 2) := by decide +kernel
theorem dc_X7_kindOfWord_69 : decode mX7_kindOfWord.2.1 69 = .ok (.invokevirtual 51, 3) := by decide +kernel
theorem dc_X7_kindOfWord_72 : decode mX7_kindOfWord.2.1 72 = .ok (.ifCond .eq 8, 3) := by decide +kernel
theorem dc_X7_kindOfWord_75 : decode mX7_kindOfWord.2.1 75 = .ok (.bipush 6, 2) := by decide +kernel
theorem dc_X7_kindOfWord_77 : decode mX7_kindOfWord.2.1 77 = .ok (.goto 4, 3) := by decide +kernel
theorem dc_X7_kindOfWord_80 : decode mX7_kindOfWord.2.1 80 = .ok (.iconst (-1), 1) := by decide +kernel
theorem dc_X7_kindOfWord_81 : decode mX7_kindOfWord.2.1 81 = .ok (.ireturn, 1) := by decide +kernel
theorem dc_X7_readLight_0 : decode mX7_readLight.2.1 0 = .ok (.aload_n 0, 1) := by decide +kernel
theorem dc_X7_readLight_1 : decode mX7_readLight.2.1 1 = .ok (.invokevirtual 22, 3) := by decide +kernel
theorem dc_X7_readLight_4 : decode mX7_readLight.2.1 4 = .ok (.aload_n 0, 1) := by decide +kernel
theorem dc_X7_readLight_5 : decode mX7_readLight.2.1 5 = .ok (.getfield 29, 3) := by decide +kernel
theorem dc_X7_readLight_8 : decode mX7_readLight.2.1 8 = .ok (.iconst 2, 1) := by decide +kernel
theorem dc_X7_readLight_9 : decode mX7_readLight.2.1 9 = .ok (.if_icmp .ne 14, 3) := by decide +kernel
theorem dc_X7_readLight_12 : decode mX7_readLight.2.1 12 = .ok (.iload_n 2, 1) := by decide +kernel
theorem dc_X7_readLight_13 : decode mX7_readLight.2.1 13 = .ok (.aload_n 0, 1) := by decide +kernel
theorem dc_X7_readLight_14 : decode mX7_readLight.2.1 14 = .ok (.getfield 81, 3) := by decide +kernel
theorem dc_X7_readLight_17 : decode mX7_readLight.2.1 17 = .ok (.invokestatic 84, 3) := by decide +kernel
theorem dc_X7_readLight_20 : decode mX7_readLight.2.1 20 = .ok (.ifCond .ne 5, 3) := by decide +kernel
theorem dc_X7_readLight_23 : decode mX7_readLight.2.1 23 = .ok (.iconst 0, 1) := by decide +kernel
theorem dc_X7_readLight_24 : decode mX7_readLight.2.1 24 = .ok (.ireturn, 1) := by decide +kernel
theorem dc_X7_readLight_25 : decode mX7_readLight.2.1 25 = .ok (.aload_n 1, 1) := by decide +kernel
theorem dc_X7_readLight_26 : decode mX7_readLight.2.1 26 = .ok (.iload_n 2, 1) := by decide +kernel
theorem dc_X7_readLight_27 : decode mX7_readLight.2.1 27 = .ok (.aload_n 0, 1) := by decide +kernel
theorem dc_X7_readLight_28 : decode mX7_readLight.2.1 28 = .ok (.getfield 81, 3) := by decide +kernel
theorem dc_X7_readLight_31 : decode mX7_readLight.2.1 31 = .ok (.invokevirtual 90, 3) := by decide +kernel
theorem dc_X7_readLight_34 : decode mX7_readLight.2.1 34 = .ok (.aload_n 0, 1) := by decide +kernel
theorem dc_X7_readLight_35 : decode mX7_readLight.2.1 35 = .ok (.invokevirtual 22, 3) := by decide +kernel
theorem dc_X7_readLight_38 : decode mX7_readLight.2.1 38 = .ok (.iconst 1, 1) := by decide +kernel
theorem dc_X7_readLight_39 : decode mX7_readLight.2.1 39 = .ok (.ireturn, 1) := by decide +kernel
theorem dc_X7_readShip_0 : decode mX7_readShip.2.1 0 = .ok (.aload_n 1, 1) := by decide +kernel
theorem dc_X7_readShip_1 : decode mX7_readShip.2.1 1 = .ok (.invokevirtual 94, 3) := by decide +kernel
theorem dc_X7_readShip_4 : decode mX7_readShip.2.1 4 = .ok (.ifCond .eq 5, 3) := by decide +kernel
theorem dc_X7_readShip_7 : decode mX7_readShip.2.1 7 = .ok (.iconst 0, 1) := by decide +kernel
theorem dc_X7_readShip_8 : decode mX7_readShip.2.1 8 = .ok (.ireturn, 1) := by decide +kernel
theorem dc_X7_readShip_9 : decode mX7_readShip.2.1 9 = .ok (.aload_n 1, 1) := by decide +kernel
theorem dc_X7_readShip_10 : decode mX7_readShip.2.1 10 = .ok (.getfield 100, 3) := by decide +kernel
theorem dc_X7_readShip_13 : decode mX7_readShip.2.1 13 = .ok (.aload_n 1, 1) := by decide +kernel
theorem dc_X7_readShip_14 : decode mX7_readShip.2.1 14 = .ok (.getfield 104, 3) := by decide +kernel
theorem dc_X7_readShip_17 : decode mX7_readShip.2.1 17 = .ok (.aaload, 1) := by decide +kernel
theorem dc_X7_readShip_18 : decode mX7_readShip.2.1 18 = .ok (.astore_n 3, 1) := by decide +kernel
theorem dc_X7_readShip_19 : decode mX7_readShip.2.1 19 = .ok (.aload_n 1, 1) := by decide +kernel
theorem dc_X7_readShip_20 : decode mX7_readShip.2.1 20 = .ok (.iload_n 2, 1) := by decide +kernel
theorem dc_X7_readShip_21 : decode mX7_readShip.2.1 21 = .ok (.bipush 11, 2) := by decide +kernel
theorem dc_X7_readShip_23 : decode mX7_readShip.2.1 23 = .ok (.invokevirtual 105, 3) := by decide +kernel
theorem dc_X7_readShip_26 : decode mX7_readShip.2.1 26 = .ok (.aload_n 0, 1) := by decide +kernel
theorem dc_X7_readShip_27 : decode mX7_readShip.2.1 27 = .ok (.invokevirtual 22, 3) := by decide +kernel
theorem dc_X7_readShip_30 : decode mX7_readShip.2.1 30 = .ok (.aload_n 0, 1) := by decide +kernel
theorem dc_X7_readShip_31 : decode mX7_readShip.2.1 31 = .ok (.ldc 108, 2) := by decide +kernel
theorem dc_X7_readShip_33 : decode mX7_readShip.2.1 33 = .ok (.invokevirtual 51, 3) := by decide +kernel
theorem dc_X7_readShip_36 : decode mX7_readShip.2.1 36 = .ok (.ifCond .eq 14, 3) := by decide +kernel
theorem dc_X7_readShip_39 : decode mX7_readShip.2.1 39 = .ok (.aload_n 0, 1) := by decide +kernel
theorem dc_X7_readShip_40 : decode mX7_readShip.2.1 40 = .ok (.aload_n 3, 1) := by decide +kernel
theorem dc_X7_readShip_41 : decode mX7_readShip.2.1 41 = .ok (.iconst 1, 1) := by decide +kernel
theorem dc_X7_readShip_42 : decode mX7_readShip.2.1 42 = .ok (.invokevirtual 110, 3) := by decide +kernel
theorem dc_X7_readShip_45 : decode mX7_readShip.2.1 45 = .ok (.ifCond .ne 5, 3) := by decide +kernel
theorem dc_X7_readShip_48 : decode mX7_readShip.2.1 48 = .ok (.iconst 0, 1) := by decide +kernel
theorem dc_X7_readShip_49 : decode mX7_readShip.2.1 49 = .ok (.ireturn, 1) := by decide +kernel
theorem dc_X7_readShip_50 : decode mX7_readShip.2.1 50 = .ok (.aload_n 0, 1) := by decide +kernel
theorem dc_X7_readShip_51 : decode mX7_readShip.2.1 51 = .ok (.ldc 114, 2) := by decide +kernel
theorem dc_X7_readShip_53 : decode mX7_readShip.2.1 53 = .ok (.invokevirtual 51, 3) := by decide +kernel
theorem dc_X7_readShip_56 : decode mX7_readShip.2.1 56 = .ok (.ifCond .eq 12, 3) := by decide +kernel
theorem dc_X7_readShip_59 : decode mX7_readShip.2.1 59 = .ok (.aload_n 3, 1) := by decide +kernel
theorem dc_X7_readShip_60 : decode mX7_readShip.2.1 60 = .ok (.iconst 0, 1) := by decide +kernel
theorem dc_X7_readShip_61 : decode mX7_readShip.2.1 61 = .ok (.putfield 116, 3) := by decide +kernel
theorem dc_X7_readShip_64 : decode mX7_readShip.2.1 64 = .ok (.aload_n 0, 1) := by decide +kernel
theorem dc_X7_readShip_65 : decode mX7_readShip.2.1 65 = .ok (.invokevirtual 22, 3) := by decide +kernel
theorem dc_X7_readShip_68 : decode mX7_readShip.2.1 68 = .ok (.aload_n 0, 1) := by decide +kernel
theorem dc_X7_readShip_69 : decode mX7_readShip.2.1 69 = .ok (.ldc 121, 2) := by decide +kernel
theorem dc_X7_readShip_71 : decode mX7_readShip.2.1 71 = .ok (.invokevirtual 51, 3) := by decide +kernel
theorem dc_X7_readShip_74 : decode mX7_readShip.2.1 74 = .ok (.ifCond .eq 14, 3) := by decide +kernel
theorem dc_X7_readShip_77 : decode mX7_readShip.2.1 77 = .ok (.aload_n 0, 1) := by decide +kernel
theorem dc_X7_readShip_78 : decode mX7_readShip.2.1 78 = .ok (.aload_n 3, 1) := by decide +kernel
theorem dc_X7_readShip_79 : decode mX7_readShip.2.1 79 = .ok (.iconst 3, 1) := by decide +kernel
theorem dc_X7_readShip_80 : decode mX7_readShip.2.1 80 = .ok (.invokevirtual 110, 3) := by decide +kernel
theorem dc_X7_readShip_83 : decode mX7_readShip.2.1 83 = .ok (.ifCond .ne 5, 3) := by decide +kernel
theorem dc_X7_readShip_86 : decode mX7_readShip.2.1 86 = .ok (.iconst 0, 1) := by decide +kernel
theorem dc_X7_readShip_87 : decode mX7_readShip.2.1 87 = .ok (.ireturn, 1) := by decide +kernel
theorem dc_X7_readShip_88 : decode mX7_readShip.2.1 88 = .ok (.aload_n 0, 1) := by decide +kernel
theorem dc_X7_readShip_89 : decode mX7_readShip.2.1 89 = .ok (.ldc 123, 2) := by decide +kernel
theorem dc_X7_readShip_91 : decode mX7_readShip.2.1 91 = .ok (.invokevirtual 51, 3) := by decide +kernel
theorem dc_X7_readShip_94 : decode mX7_readShip.2.1 94 = .ok (.ifCond .eq 12, 3) := by decide +kernel
theorem dc_X7_readShip_97 : decode mX7_readShip.2.1 97 = .ok (.aload_n 3, 1) := by decide +kernel
theorem dc_X7_readShip_98 : decode mX7_readShip.2.1 98 = .ok (.iconst 1, 1) := by decide +kernel
theorem dc_X7_readShip_99 : decode mX7_readShip.2.1 99 = .ok (.putfield 125, 3) := by decide +kernel
theorem dc_X7_readShip_102 : decode mX7_readShip.2.1 102 = .ok (.aload_n 0, 1) := by decide +kernel
theorem dc_X7_readShip_103 : decode mX7_readShip.2.1 103 = .ok (.invokevirtual 22, 3) := by decide +kernel
theorem dc_X7_readShip_106 : decode mX7_readShip.2.1 106 = .ok (.iconst 1, 1) := by decide +kernel
theorem dc_X7_readShip_107 : decode mX7_readShip.2.1 107 = .ok (.ireturn, 1) := by decide +kernel
theorem dc_X7_readPart_0 : decode mX7_readPart.2.1 0 = .ok (.aload_n 0, 1) := by decide +kernel
theorem dc_X7_readPart_1 : decode mX7_readPart.2.1 1 = .ok (.invokevirtual 22, 3) := by decide +kernel
theorem dc_X7_readPart_4 : decode mX7_readPart.2.1 4 = .ok (.aload_n 0, 1) := by decide +kernel
theorem dc_X7_readPart_5 : decode mX7_readPart.2.1 5 = .ok (.getfield 29, 3) := by decide +kernel
theorem dc_X7_readPart_8 : decode mX7_readPart.2.1 8 = .ok (.iconst 2, 1) := by decide +kernel
theorem dc_X7_readPart_9 : decode mX7_readPart.2.1 9 = .ok (.if_icmp .ne 14, 3) := by decide +kernel
theorem dc_X7_readPart_12 : decode mX7_readPart.2.1 12 = .ok (.iload_n 2, 1) := by decide +kernel
theorem dc_X7_readPart_13 : decode mX7_readPart.2.1 13 = .ok (.aload_n 0, 1) := by decide +kernel
theorem dc_X7_readPart_14 : decode mX7_readPart.2.1 14 = .ok (.getfield 81, 3) := by decide +kernel
theorem dc_X7_readPart_17 : decode mX7_readPart.2.1 17 = .ok (.invokestatic 127, 3) := by decide +kernel
theorem dc_X7_readPart_20 : decode mX7_readPart.2.1 20 = .ok (.ifCond .ne 5, 3) := by decide +kernel
theorem dc_X7_readPart_23 : decode mX7_readPart.2.1 23 = .ok (.iconst 0, 1) := by decide +kernel
theorem dc_X7_readPart_24 : decode mX7_readPart.2.1 24 = .ok (.ireturn, 1) := by decide +kernel
theorem dc_X7_readPart_25 : decode mX7_readPart.2.1 25 = .ok (.aload_n 1, 1) := by decide +kernel
theorem dc_X7_readPart_26 : decode mX7_readPart.2.1 26 = .ok (.iload_n 2, 1) := by decide +kernel
theorem dc_X7_readPart_27 : decode mX7_readPart.2.1 27 = .ok (.aload_n 0, 1) := by decide +kernel
theorem dc_X7_readPart_28 : decode mX7_readPart.2.1 28 = .ok (.getfield 81, 3) := by decide +kernel
theorem dc_X7_readPart_31 : decode mX7_readPart.2.1 31 = .ok (.invokevirtual 128, 3) := by decide +kernel
theorem dc_X7_readPart_34 : decode mX7_readPart.2.1 34 = .ok (.aload_n 0, 1) := by decide +kernel
theorem dc_X7_readPart_35 : decode mX7_readPart.2.1 35 = .ok (.invokevirtual 22, 3) := by decide +kernel
theorem dc_X7_readPart_38 : decode mX7_readPart.2.1 38 = .ok (.iconst 1, 1) := by decide +kernel
theorem dc_X7_readPart_39 : decode mX7_readPart.2.1 39 = .ok (.ireturn, 1) := by decide +kernel
theorem dc_X7_isWord_0 : decode mX7_isWord.2.1 0 = .ok (.aload_n 0, 1) := by decide +kernel
theorem dc_X7_isWord_1 : decode mX7_isWord.2.1 1 = .ok (.getfield 29, 3) := by decide +kernel
theorem dc_X7_isWord_4 : decode mX7_isWord.2.1 4 = .ok (.iconst 1, 1) := by decide +kernel
theorem dc_X7_isWord_5 : decode mX7_isWord.2.1 5 = .ok (.if_icmp .ne 19, 3) := by decide +kernel
theorem dc_X7_isWord_8 : decode mX7_isWord.2.1 8 = .ok (.aload_n 0, 1) := by decide +kernel
theorem dc_X7_isWord_9 : decode mX7_isWord.2.1 9 = .ok (.getfield 19, 3) := by decide +kernel
theorem dc_X7_isWord_12 : decode mX7_isWord.2.1 12 = .ok (.aload_n 0, 1) := by decide +kernel
theorem dc_X7_isWord_13 : decode mX7_isWord.2.1 13 = .ok (.getfield 32, 3) := by decide +kernel
theorem dc_X7_isWord_16 : decode mX7_isWord.2.1 16 = .ok (.isub, 1) := by decide +kernel
theorem dc_X7_isWord_17 : decode mX7_isWord.2.1 17 = .ok (.aload_n 1, 1) := by decide +kernel
theorem dc_X7_isWord_18 : decode mX7_isWord.2.1 18 = .ok (.invokevirtual 129, 3) := by decide +kernel
theorem dc_X7_isWord_21 : decode mX7_isWord.2.1 21 = .ok (.if_icmp .eq 5, 3) := by decide +kernel
theorem dc_X7_isWord_24 : decode mX7_isWord.2.1 24 = .ok (.iconst 0, 1) := by decide +kernel
theorem dc_X7_isWord_25 : decode mX7_isWord.2.1 25 = .ok (.ireturn, 1) := by decide +kernel
theorem dc_X7_isWord_26 : decode mX7_isWord.2.1 26 = .ok (.iconst 0, 1) := by decide +kernel
theorem dc_X7_isWord_27 : decode mX7_isWord.2.1 27 = .ok (.istore_n 2, 1) := by decide +kernel
theorem dc_X7_isWord_28 : decode mX7_isWord.2.1 28 = .ok (.iload_n 2, 1) := by decide +kernel
theorem dc_X7_isWord_29 : decode mX7_isWord.2.1 29 = .ok (.aload_n 1, 1) := by decide +kernel
theorem dc_X7_isWord_30 : decode mX7_isWord.2.1 30 = .ok (.invokevirtual 129, 3) := by decide +kernel
theorem dc_X7_isWord_33 : decode mX7_isWord.2.1 33 = .ok (.if_icmp .ge 30, 3) := by decide +kernel
theorem dc_X7_isWord_36 : decode mX7_isWord.2.1 36 = .ok (.aload_n 0, 1) := by decide +kernel
theorem dc_X7_isWord_37 : decode mX7_isWord.2.1 37 = .ok (.getfield 9, 3) := by decide +kernel
theorem dc_X7_isWord_40 : decode mX7_isWord.2.1 40 = .ok (.aload_n 0, 1) := by decide +kernel
theorem dc_X7_isWord_41 : decode mX7_isWord.2.1 41 = .ok (.getfield 32, 3) := by decide +kernel
theorem dc_X7_isWord_44 : decode mX7_isWord.2.1 44 = .ok (.iload_n 2, 1) := by decide +kernel
theorem dc_X7_isWord_45 : decode mX7_isWord.2.1 45 = .ok (.iadd, 1) := by decide +kernel
theorem dc_X7_isWord_46 : decode mX7_isWord.2.1 46 = .ok (.iaload, 1) := by decide +kernel
theorem dc_X7_isWord_47 : decode mX7_isWord.2.1 47 = .ok (.aload_n 1, 1) := by decide +kernel
theorem dc_X7_isWord_48 : decode mX7_isWord.2.1 48 = .ok (.iload_n 2, 1) := by decide +kernel
theorem dc_X7_isWord_49 : decode mX7_isWord.2.1 49 = .ok (.invokevirtual 134, 3) := by decide +kernel
theorem dc_X7_isWord_52 : decode mX7_isWord.2.1 52 = .ok (.if_icmp .eq 5, 3) := by decide +kernel
theorem dc_X7_isWord_55 : decode mX7_isWord.2.1 55 = .ok (.iconst 0, 1) := by decide +kernel
theorem dc_X7_isWord_56 : decode mX7_isWord.2.1 56 = .ok (.ireturn, 1) := by decide +kernel
theorem dc_X7_isWord_57 : decode mX7_isWord.2.1 57 = .ok (.iinc 2 1, 3) := by decide +kernel
theorem dc_X7_isWord_60 : decode mX7_isWord.2.1 60 = .ok (.goto (-32), 3) := by decide +kernel
theorem dc_X7_isWord_63 : decode mX7_isWord.2.1 63 = .ok (.iconst 1, 1) := by decide +kernel
theorem dc_X7_isWord_64 : decode mX7_isWord.2.1 64 = .ok (.ireturn, 1) := by decide +kernel
theorem dc_X7_nextToken_0 : decode mX7_nextToken.2.1 0 = .ok (.aload_n 0, 1) := by decide +kernel
theorem dc_X7_nextToken_1 : decode mX7_nextToken.2.1 1 = .ok (.aload_n 0, 1) := by decide +kernel
theorem dc_X7_nextToken_2 : decode mX7_nextToken.2.1 2 = .ok (.getfield 19, 3) := by decide +kernel
theorem dc_X7_nextToken_5 : decode mX7_nextToken.2.1 5 = .ok (.putfield 32, 3) := by decide +kernel
theorem dc_X7_nextToken_8 : decode mX7_nextToken.2.1 8 = .ok (.aload_n 0, 1) := by decide +kernel
theorem dc_X7_nextToken_9 : decode mX7_nextToken.2.1 9 = .ok (.getfield 32, 3) := by decide +kernel
theorem dc_X7_nextToken_12 : decode mX7_nextToken.2.1 12 = .ok (.aload_n 0, 1) := by decide +kernel
theorem dc_X7_nextToken_13 : decode mX7_nextToken.2.1 13 = .ok (.getfield 15, 3) := by decide +kernel
theorem dc_X7_nextToken_16 : decode mX7_nextToken.2.1 16 = .ok (.if_icmp .ge 30, 3) := by decide +kernel
theorem dc_X7_nextToken_19 : decode mX7_nextToken.2.1 19 = .ok (.aload_n 0, 1) := by decide +kernel
theorem dc_X7_nextToken_20 : decode mX7_nextToken.2.1 20 = .ok (.getfield 9, 3) := by decide +kernel
theorem dc_X7_nextToken_23 : decode mX7_nextToken.2.1 23 = .ok (.aload_n 0, 1) := by decide +kernel
theorem dc_X7_nextToken_24 : decode mX7_nextToken.2.1 24 = .ok (.getfield 32, 3) := by decide +kernel
theorem dc_X7_nextToken_27 : decode mX7_nextToken.2.1 27 = .ok (.iaload, 1) := by decide +kernel
theorem dc_X7_nextToken_28 : decode mX7_nextToken.2.1 28 = .ok (.bipush 32, 2) := by decide +kernel
theorem dc_X7_nextToken_30 : decode mX7_nextToken.2.1 30 = .ok (.if_icmp .ne 16, 3) := by decide +kernel
theorem dc_X7_nextToken_33 : decode mX7_nextToken.2.1 33 = .ok (.aload_n 0, 1) := by decide +kernel
theorem dc_X7_nextToken_34 : decode mX7_nextToken.2.1 34 = .ok (.dup, 1) := by decide +kernel
theorem dc_X7_nextToken_35 : decode mX7_nextToken.2.1 35 = .ok (.getfield 32, 3) := by decide +kernel
theorem dc_X7_nextToken_38 : decode mX7_nextToken.2.1 38 = .ok (.iconst 1, 1) := by decide +kernel
theorem dc_X7_nextToken_39 : decode mX7_nextToken.2.1 39 = .ok (.iadd, 1) := by decide +kernel
theorem dc_X7_nextToken_40 : decode mX7_nextToken.2.1 40 = .ok (.putfield 32, 3) := by decide +kernel
theorem dc_X7_nextToken_43 : decode mX7_nextToken.2.1 43 = .ok (.goto (-35), 3) := by decide +kernel
theorem dc_X7_nextToken_46 : decode mX7_nextToken.2.1 46 = .ok (.aload_n 0, 1) := by decide +kernel
theorem dc_X7_nextToken_47 : decode mX7_nextToken.2.1 47 = .ok (.aload_n 0, 1) := by decide +kernel
theorem dc_X7_nextToken_48 : decode mX7_nextToken.2.1 48 = .ok (.getfield 32, 3) := by decide +kernel
theorem dc_X7_nextToken_51 : decode mX7_nextToken.2.1 51 = .ok (.putfield 19, 3) := by decide +kernel
theorem dc_X7_nextToken_54 : decode mX7_nextToken.2.1 54 = .ok (.aload_n 0, 1) := by decide +kernel
theorem dc_X7_nextToken_55 : decode mX7_nextToken.2.1 55 = .ok (.getfield 32, 3) := by decide +kernel
theorem dc_X7_nextToken_58 : decode mX7_nextToken.2.1 58 = .ok (.aload_n 0, 1) := by decide +kernel
theorem dc_X7_nextToken_59 : decode mX7_nextToken.2.1 59 = .ok (.getfield 15, 3) := by decide +kernel
theorem dc_X7_nextToken_62 : decode mX7_nextToken.2.1 62 = .ok (.if_icmp .lt 9, 3) := by decide +kernel
theorem dc_X7_nextToken_65 : decode mX7_nextToken.2.1 65 = .ok (.aload_n 0, 1) := by decide +kernel
theorem dc_X7_nextToken_66 : decode mX7_nextToken.2.1 66 = .ok (.iconst 0, 1) := by decide +kernel
theorem dc_X7_nextToken_67 : decode mX7_nextToken.2.1 67 = .ok (.putfield 29, 3) := by decide +kernel
theorem dc_X7_nextToken_70 : decode mX7_nextToken.2.1 70 = .ok (.return_, 1) := by decide +kernel
theorem dc_X7_nextToken_71 : decode mX7_nextToken.2.1 71 = .ok (.aload_n 0, 1) := by decide +kernel
theorem dc_X7_nextToken_72 : decode mX7_nextToken.2.1 72 = .ok (.aload_n 0, 1) := by decide +kernel
theorem dc_X7_nextToken_73 : decode mX7_nextToken.2.1 73 = .ok (.getfield 9, 3) := by decide +kernel
theorem dc_X7_nextToken_76 : decode mX7_nextToken.2.1 76 = .ok (.aload_n 0, 1) := by decide +kernel
theorem dc_X7_nextToken_77 : decode mX7_nextToken.2.1 77 = .ok (.getfield 32, 3) := by decide +kernel
theorem dc_X7_nextToken_80 : decode mX7_nextToken.2.1 80 = .ok (.iaload, 1) := by decide +kernel
theorem dc_X7_nextToken_81 : decode mX7_nextToken.2.1 81 = .ok (.invokestatic 138, 3) := by decide +kernel
theorem dc_X7_nextToken_84 : decode mX7_nextToken.2.1 84 = .ok (.putfield 29, 3) := by decide +kernel
theorem dc_X7_nextToken_87 : decode mX7_nextToken.2.1 87 = .ok (.aload_n 0, 1) := by decide +kernel
theorem dc_X7_nextToken_88 : decode mX7_nextToken.2.1 88 = .ok (.dup, 1) := by decide +kernel
theorem dc_X7_nextToken_89 : decode mX7_nextToken.2.1 89 = .ok (.getfield 19, 3) := by decide +kernel
theorem dc_X7_nextToken_92 : decode mX7_nextToken.2.1 92 = .ok (.iconst 1, 1) := by decide +kernel
theorem dc_X7_nextToken_93 : decode mX7_nextToken.2.1 93 = .ok (.iadd, 1) := by decide +kernel
theorem dc_X7_nextToken_94 : decode mX7_nextToken.2.1 94 = .ok (.putfield 19, 3) := by decide +kernel
theorem dc_X7_nextToken_97 : decode mX7_nextToken.2.1 97 = .ok (.aload_n 0, 1) := by decide +kernel
theorem dc_X7_nextToken_98 : decode mX7_nextToken.2.1 98 = .ok (.getfield 29, 3) := by decide +kernel
theorem dc_X7_nextToken_101 : decode mX7_nextToken.2.1 101 = .ok (.iconst 1, 1) := by decide +kernel
theorem dc_X7_nextToken_102 : decode mX7_nextToken.2.1 102 = .ok (.if_icmp .eq 11, 3) := by decide +kernel
theorem dc_X7_nextToken_105 : decode mX7_nextToken.2.1 105 = .ok (.aload_n 0, 1) := by decide +kernel
theorem dc_X7_nextToken_106 : decode mX7_nextToken.2.1 106 = .ok (.getfield 29, 3) := by decide +kernel
theorem dc_X7_nextToken_109 : decode mX7_nextToken.2.1 109 = .ok (.iconst 2, 1) := by decide +kernel
theorem dc_X7_nextToken_110 : decode mX7_nextToken.2.1 110 = .ok (.if_icmp .ne 7, 3) := by decide +kernel
theorem dc_X7_nextToken_113 : decode mX7_nextToken.2.1 113 = .ok (.iconst 1, 1) := by decide +kernel
theorem dc_X7_nextToken_114 : decode mX7_nextToken.2.1 114 = .ok (.goto 4, 3) := by decide +kernel
theorem dc_X7_nextToken_117 : decode mX7_nextToken.2.1 117 = .ok (.iconst 0, 1) := by decide +kernel
theorem dc_X7_nextToken_118 : decode mX7_nextToken.2.1 118 = .ok (.istore_n 1, 1) := by decide +kernel
theorem dc_X7_nextToken_119 : decode mX7_nextToken.2.1 119 = .ok (.iload_n 1, 1) := by decide +kernel
theorem dc_X7_nextToken_120 : decode mX7_nextToken.2.1 120 = .ok (.ifCond .eq 46, 3) := by decide +kernel
theorem dc_X7_nextToken_123 : decode mX7_nextToken.2.1 123 = .ok (.aload_n 0, 1) := by decide +kernel
theorem dc_X7_nextToken_124 : decode mX7_nextToken.2.1 124 = .ok (.getfield 19, 3) := by decide +kernel
theorem dc_X7_nextToken_127 : decode mX7_nextToken.2.1 127 = .ok (.aload_n 0, 1) := by decide +kernel
theorem dc_X7_nextToken_128 : decode mX7_nextToken.2.1 128 = .ok (.getfield 15, 3) := by decide +kernel
theorem dc_X7_nextToken_131 : decode mX7_nextToken.2.1 131 = .ok (.if_icmp .ge 35, 3) := by decide +kernel
theorem dc_X7_nextToken_134 : decode mX7_nextToken.2.1 134 = .ok (.aload_n 0, 1) := by decide +kernel
theorem dc_X7_nextToken_135 : decode mX7_nextToken.2.1 135 = .ok (.getfield 9, 3) := by decide +kernel
theorem dc_X7_nextToken_138 : decode mX7_nextToken.2.1 138 = .ok (.aload_n 0, 1) := by decide +kernel
theorem dc_X7_nextToken_139 : decode mX7_nextToken.2.1 139 = .ok (.getfield 19, 3) := by decide +kernel
theorem dc_X7_nextToken_142 : decode mX7_nextToken.2.1 142 = .ok (.iaload, 1) := by decide +kernel
theorem dc_X7_nextToken_143 : decode mX7_nextToken.2.1 143 = .ok (.invokestatic 138, 3) := by decide +kernel
theorem dc_X7_nextToken_146 : decode mX7_nextToken.2.1 146 = .ok (.aload_n 0, 1) := by decide +kernel
theorem dc_X7_nextToken_147 : decode mX7_nextToken.2.1 147 = .ok (.getfield 29, 3) := by decide +kernel
theorem dc_X7_nextToken_150 : decode mX7_nextToken.2.1 150 = .ok (.if_icmp .ne 16, 3) := by decide +kernel
theorem dc_X7_nextToken_153 : decode mX7_nextToken.2.1 153 = .ok (.aload_n 0, 1) := by decide +kernel
theorem dc_X7_nextToken_154 : decode mX7_nextToken.2.1 154 = .ok (.dup, 1) := by decide +kernel
theorem dc_X7_nextToken_155 : decode mX7_nextToken.2.1 155 = .ok (.getfield 19, 3) := by decide +kernel
theorem dc_X7_nextToken_158 : decode mX7_nextToken.2.1 158 = .ok (.iconst 1, 1) := by decide +kernel
theorem dc_X7_nextToken_159 : decode mX7_nextToken.2.1 159 = .ok (.iadd, 1) := by decide +kernel
theorem dc_X7_nextToken_160 : decode mX7_nextToken.2.1 160 = .ok (.putfield 19, 3) := by decide +kernel
theorem dc_X7_nextToken_163 : decode mX7_nextToken.2.1 163 = .ok (.goto (-44), 3) := by decide +kernel
theorem dc_X7_nextToken_166 : decode mX7_nextToken.2.1 166 = .ok (.aload_n 0, 1) := by decide +kernel
theorem dc_X7_nextToken_167 : decode mX7_nextToken.2.1 167 = .ok (.getfield 29, 3) := by decide +kernel
theorem dc_X7_nextToken_170 : decode mX7_nextToken.2.1 170 = .ok (.iconst 2, 1) := by decide +kernel
theorem dc_X7_nextToken_171 : decode mX7_nextToken.2.1 171 = .ok (.if_icmp .ne 11, 3) := by decide +kernel
theorem dc_X7_nextToken_174 : decode mX7_nextToken.2.1 174 = .ok (.aload_n 0, 1) := by decide +kernel
theorem dc_X7_nextToken_175 : decode mX7_nextToken.2.1 175 = .ok (.aload_n 0, 1) := by decide +kernel
theorem dc_X7_nextToken_176 : decode mX7_nextToken.2.1 176 = .ok (.invokevirtual 142, 3) := by decide +kernel
theorem dc_X7_nextToken_179 : decode mX7_nextToken.2.1 179 = .ok (.putfield 81, 3) := by decide +kernel
theorem dc_X7_nextToken_182 : decode mX7_nextToken.2.1 182 = .ok (.return_, 1) := by decide +kernel
theorem dc_X7_typeOf_0 : decode mX7_typeOf.2.1 0 = .ok (.iload_n 0, 1) := by decide +kernel
theorem dc_X7_typeOf_1 : decode mX7_typeOf.2.1 1 = .ok (.bipush 97, 2) := by decide +kernel
theorem dc_X7_typeOf_3 : decode mX7_typeOf.2.1 3 = .ok (.if_icmp .lt 11, 3) := by decide +kernel
theorem dc_X7_typeOf_6 : decode mX7_typeOf.2.1 6 = .ok (.iload_n 0, 1) := by decide +kernel
theorem dc_X7_typeOf_7 : decode mX7_typeOf.2.1 7 = .ok (.bipush 122, 2) := by decide +kernel
theorem dc_X7_typeOf_9 : decode mX7_typeOf.2.1 9 = .ok (.if_icmp .gt 5, 3) := by decide +kernel
theorem dc_X7_typeOf_12 : decode mX7_typeOf.2.1 12 = .ok (.iconst 1, 1) := by decide +kernel
theorem dc_X7_typeOf_13 : decode mX7_typeOf.2.1 13 = .ok (.ireturn, 1) := by decide +kernel
theorem dc_X7_typeOf_14 : decode mX7_typeOf.2.1 14 = .ok (.iload_n 0, 1) := by decide +kernel
theorem dc_X7_typeOf_15 : decode mX7_typeOf.2.1 15 = .ok (.bipush 48, 2) := by decide +kernel
theorem dc_X7_typeOf_17 : decode mX7_typeOf.2.1 17 = .ok (.if_icmp .lt 11, 3) := by decide +kernel
theorem dc_X7_typeOf_20 : decode mX7_typeOf.2.1 20 = .ok (.iload_n 0, 1) := by decide +kernel
theorem dc_X7_typeOf_21 : decode mX7_typeOf.2.1 21 = .ok (.bipush 57, 2) := by decide +kernel
theorem dc_X7_typeOf_23 : decode mX7_typeOf.2.1 23 = .ok (.if_icmp .gt 5, 3) := by decide +kernel
theorem dc_X7_typeOf_26 : decode mX7_typeOf.2.1 26 = .ok (.iconst 2, 1) := by decide +kernel
theorem dc_X7_typeOf_27 : decode mX7_typeOf.2.1 27 = .ok (.ireturn, 1) := by decide +kernel
theorem dc_X7_typeOf_28 : decode mX7_typeOf.2.1 28 = .ok (.iload_n 0, 1) := by decide +kernel
theorem dc_X7_typeOf_29 : decode mX7_typeOf.2.1 29 = .ok (.bipush 59, 2) := by decide +kernel
theorem dc_X7_typeOf_31 : decode mX7_typeOf.2.1 31 = .ok (.if_icmp .ne 7, 3) := by decide +kernel
theorem dc_X7_typeOf_34 : decode mX7_typeOf.2.1 34 = .ok (.iconst 3, 1) := by decide +kernel
theorem dc_X7_typeOf_35 : decode mX7_typeOf.2.1 35 = .ok (.goto 4, 3) := by decide +kernel
theorem dc_X7_typeOf_38 : decode mX7_typeOf.2.1 38 = .ok (.iconst 4, 1) := by decide +kernel
theorem dc_X7_typeOf_39 : decode mX7_typeOf.2.1 39 = .ok (.ireturn, 1) := by decide +kernel
theorem dc_X7_numberRead_0 : decode mX7_numberRead.2.1 0 = .ok (.iconst 0, 1) := by decide +kernel
theorem dc_X7_numberRead_1 : decode mX7_numberRead.2.1 1 = .ok (.istore_n 1, 1) := by decide +kernel
theorem dc_X7_numberRead_2 : decode mX7_numberRead.2.1 2 = .ok (.aload_n 0, 1) := by decide +kernel
theorem dc_X7_numberRead_3 : decode mX7_numberRead.2.1 3 = .ok (.getfield 32, 3) := by decide +kernel
theorem dc_X7_numberRead_6 : decode mX7_numberRead.2.1 6 = .ok (.istore_n 2, 1) := by decide +kernel
theorem dc_X7_numberRead_7 : decode mX7_numberRead.2.1 7 = .ok (.iload_n 2, 1) := by decide +kernel
theorem dc_X7_numberRead_8 : decode mX7_numberRead.2.1 8 = .ok (.aload_n 0, 1) := by decide +kernel
theorem dc_X7_numberRead_9 : decode mX7_numberRead.2.1 9 = .ok (.getfield 19, 3) := by decide +kernel
theorem dc_X7_numberRead_12 : decode mX7_numberRead.2.1 12 = .ok (.if_icmp .ge 30, 3) := by decide +kernel
theorem dc_X7_numberRead_15 : decode mX7_numberRead.2.1 15 = .ok (.iload_n 1, 1) := by decide +kernel
theorem dc_X7_numberRead_16 : decode mX7_numberRead.2.1 16 = .ok (.bipush 10, 2) := by decide +kernel
theorem dc_X7_numberRead_18 : decode mX7_numberRead.2.1 18 = .ok (.imul, 1) := by decide +kernel
theorem dc_X7_numberRead_19 : decode mX7_numberRead.2.1 19 = .ok (.aload_n 0, 1) := by decide +kernel
theorem dc_X7_numberRead_20 : decode mX7_numberRead.2.1 20 = .ok (.getfield 9, 3) := by decide +kernel
theorem dc_X7_numberRead_23 : decode mX7_numberRead.2.1 23 = .ok (.iload_n 2, 1) := by decide +kernel
theorem dc_X7_numberRead_24 : decode mX7_numberRead.2.1 24 = .ok (.iaload, 1) := by decide +kernel
theorem dc_X7_numberRead_25 : decode mX7_numberRead.2.1 25 = .ok (.iadd, 1) := by decide +kernel
theorem dc_X7_numberRead_26 : decode mX7_numberRead.2.1 26 = .ok (.bipush 48, 2) := by decide +kernel
theorem dc_X7_numberRead_28 : decode mX7_numberRead.2.1 28 = .ok (.isub, 1) := by decide +kernel
theorem dc_X7_numberRead_29 : decode mX7_numberRead.2.1 29 = .ok (.sipush 10000, 3) := by decide +kernel
theorem dc_X7_numberRead_32 : decode mX7_numberRead.2.1 32 = .ok (.invokestatic 145, 3) := by decide +kernel
theorem dc_X7_numberRead_35 : decode mX7_numberRead.2.1 35 = .ok (.istore_n 1, 1) := by decide +kernel
theorem dc_X7_numberRead_36 : decode mX7_numberRead.2.1 36 = .ok (.iinc 2 1, 3) := by decide +kernel
theorem dc_X7_numberRead_39 : decode mX7_numberRead.2.1 39 = .ok (.goto (-32), 3) := by decide +kernel
theorem dc_X7_numberRead_42 : decode mX7_numberRead.2.1 42 = .ok (.iload_n 1, 1) := by decide +kernel
theorem dc_X7_numberRead_43 : decode mX7_numberRead.2.1 43 = .ok (.ireturn, 1) := by decide +kernel
theorem dc_J6_bitCount_0f7a4_0 : decode mJ6_bitCount_0f7a4.2.1 0 = .ok (.iload_n 0, 1) := by decide +kernel
theorem dc_J6_bitCount_0f7a4_1 : decode mJ6_bitCount_0f7a4.2.1 1 = .ok (.iload_n 0, 1) := by decide +kernel
theorem dc_J6_bitCount_0f7a4_2 : decode mJ6_bitCount_0f7a4.2.1 2 = .ok (.iconst 1, 1) := by decide +kernel
theorem dc_J6_bitCount_0f7a4_3 : decode mJ6_bitCount_0f7a4.2.1 3 = .ok (.iushr, 1) := by decide +kernel
theorem dc_J6_bitCount_0f7a4_4 : decode mJ6_bitCount_0f7a4.2.1 4 = .ok (.ldc_w 265, 3) := by decide +kernel
theorem dc_J6_bitCount_0f7a4_7 : decode mJ6_bitCount_0f7a4.2.1 7 = .ok (.iand, 1) := by decide +kernel
theorem dc_J6_bitCount_0f7a4_8 : decode mJ6_bitCount_0f7a4.2.1 8 = .ok (.isub, 1) := by decide +kernel
theorem dc_J6_bitCount_0f7a4_9 : decode mJ6_bitCount_0f7a4.2.1 9 = .ok (.istore_n 0, 1) := by decide +kernel
theorem dc_J6_bitCount_0f7a4_10 : decode mJ6_bitCount_0f7a4.2.1 10 = .ok (.iload_n 0, 1) := by decide +kernel
theorem dc_J6_bitCount_0f7a4_11 : decode mJ6_bitCount_0f7a4.2.1 11 = .ok (.ldc_w 266, 3) := by decide +kernel
theorem dc_J6_bitCount_0f7a4_14 : decode mJ6_bitCount_0f7a4.2.1 14 = .ok (.iand, 1) := by decide +kernel
theorem dc_J6_bitCount_0f7a4_15 : decode mJ6_bitCount_0f7a4.2.1 15 = .ok (.iload_n 0, 1) := by decide +kernel
theorem dc_J6_bitCount_0f7a4_16 : decode mJ6_bitCount_0f7a4.2.1 16 = .ok (.iconst 2, 1) := by decide +kernel
theorem dc_J6_bitCount_0f7a4_17 : decode mJ6_bitCount_0f7a4.2.1 17 = .ok (.iushr, 1) := by decide +kernel
theorem dc_J6_bitCount_0f7a4_18 : decode mJ6_bitCount_0f7a4.2.1 18 = .ok (.ldc_w 266, 3) := by decide +kernel
theorem dc_J6_bitCount_0f7a4_21 : decode mJ6_bitCount_0f7a4.2.1 21 = .ok (.iand, 1) := by decide +kernel
theorem dc_J6_bitCount_0f7a4_22 : decode mJ6_bitCount_0f7a4.2.1 22 = .ok (.iadd, 1) := by decide +kernel
theorem dc_J6_bitCount_0f7a4_23 : decode mJ6_bitCount_0f7a4.2.1 23 = .ok (.istore_n 0, 1) := by decide +kernel
theorem dc_J6_bitCount_0f7a4_24 : decode mJ6_bitCount_0f7a4.2.1 24 = .ok (.iload_n 0, 1) := by decide +kernel
theorem dc_J6_bitCount_0f7a4_25 : decode mJ6_bitCount_0f7a4.2.1 25 = .ok (.iload_n 0, 1) := by decide +kernel
theorem dc_J6_bitCount_0f7a4_26 : decode mJ6_bitCount_0f7a4.2.1 26 = .ok (.iconst 4, 1) := by decide +kernel
theorem dc_J6_bitCount_0f7a4_27 : decode mJ6_bitCount_0f7a4.2.1 27 = .ok (.iushr, 1) := by decide +kernel
theorem dc_J6_bitCount_0f7a4_28 : decode mJ6_bitCount_0f7a4.2.1 28 = .ok (.iadd, 1) := by decide +kernel
theorem dc_J6_bitCount_0f7a4_29 : decode mJ6_bitCount_0f7a4.2.1 29 = .ok (.ldc_w 267, 3) := by decide +kernel
theorem dc_J6_bitCount_0f7a4_32 : decode mJ6_bitCount_0f7a4.2.1 32 = .ok (.iand, 1) := by decide +kernel
theorem dc_J6_bitCount_0f7a4_33 : decode mJ6_bitCount_0f7a4.2.1 33 = .ok (.istore_n 0, 1) := by decide +kernel
theorem dc_J6_bitCount_0f7a4_34 : decode mJ6_bitCount_0f7a4.2.1 34 = .ok (.iload_n 0, 1) := by decide +kernel
theorem dc_J6_bitCount_0f7a4_35 : decode mJ6_bitCount_0f7a4.2.1 35 = .ok (.iload_n 0, 1) := by decide +kernel
theorem dc_J6_bitCount_0f7a4_36 : decode mJ6_bitCount_0f7a4.2.1 36 = .ok (.bipush 8, 2) := by decide +kernel
theorem dc_J6_bitCount_0f7a4_38 : decode mJ6_bitCount_0f7a4.2.1 38 = .ok (.iushr, 1) := by decide +kernel
theorem dc_J6_bitCount_0f7a4_39 : decode mJ6_bitCount_0f7a4.2.1 39 = .ok (.iadd, 1) := by decide +kernel
theorem dc_J6_bitCount_0f7a4_40 : decode mJ6_bitCount_0f7a4.2.1 40 = .ok (.istore_n 0, 1) := by decide +kernel
theorem dc_J6_bitCount_0f7a4_41 : decode mJ6_bitCount_0f7a4.2.1 41 = .ok (.iload_n 0, 1) := by decide +kernel
theorem dc_J6_bitCount_0f7a4_42 : decode mJ6_bitCount_0f7a4.2.1 42 = .ok (.iload_n 0, 1) := by decide +kernel
theorem dc_J6_bitCount_0f7a4_43 : decode mJ6_bitCount_0f7a4.2.1 43 = .ok (.bipush 16, 2) := by decide +kernel
theorem dc_J6_bitCount_0f7a4_45 : decode mJ6_bitCount_0f7a4.2.1 45 = .ok (.iushr, 1) := by decide +kernel
theorem dc_J6_bitCount_0f7a4_46 : decode mJ6_bitCount_0f7a4.2.1 46 = .ok (.iadd, 1) := by decide +kernel
theorem dc_J6_bitCount_0f7a4_47 : decode mJ6_bitCount_0f7a4.2.1 47 = .ok (.istore_n 0, 1) := by decide +kernel
theorem dc_J6_bitCount_0f7a4_48 : decode mJ6_bitCount_0f7a4.2.1 48 = .ok (.iload_n 0, 1) := by decide +kernel
theorem dc_J6_bitCount_0f7a4_49 : decode mJ6_bitCount_0f7a4.2.1 49 = .ok (.bipush 63, 2) := by decide +kernel
theorem dc_J6_bitCount_0f7a4_51 : decode mJ6_bitCount_0f7a4.2.1 51 = .ok (.iand, 1) := by decide +kernel
theorem dc_J6_bitCount_0f7a4_52 : decode mJ6_bitCount_0f7a4.2.1 52 = .ok (.ireturn, 1) := by decide +kernel
theorem dc_J0_length_8abf5_0 : decode mJ0_length_8abf5.2.1 0 = .ok (.aload_n 0, 1) := by decide +kernel
theorem dc_J0_length_8abf5_1 : decode mJ0_length_8abf5.2.1 1 = .ok (.getfield 9, 3) := by decide +kernel
theorem dc_J0_length_8abf5_4 : decode mJ0_length_8abf5.2.1 4 = .ok (.arraylength, 1) := by decide +kernel
theorem dc_J0_length_8abf5_5 : decode mJ0_length_8abf5.2.1 5 = .ok (.aload_n 0, 1) := by decide +kernel
theorem dc_J0_length_8abf5_6 : decode mJ0_length_8abf5.2.1 6 = .ok (.invokevirtual 335, 3) := by decide +kernel
theorem dc_J0_length_8abf5_9 : decode mJ0_length_8abf5.2.1 9 = .ok (.ishr, 1) := by decide +kernel
theorem dc_J0_length_8abf5_10 : decode mJ0_length_8abf5.2.1 10 = .ok (.ireturn, 1) := by decide +kernel
theorem dc_J0_charAt_5068e_0 : decode mJ0_charAt_5068e.2.1 0 = .ok (.aload_n 0, 1) := by decide +kernel
theorem dc_J0_charAt_5068e_1 : decode mJ0_charAt_5068e.2.1 1 = .ok (.invokevirtual 492, 3) := by decide +kernel
theorem dc_J0_charAt_5068e_4 : decode mJ0_charAt_5068e.2.1 4 = .ok (.ifCond .eq 12, 3) := by decide +kernel
theorem dc_J0_charAt_5068e_7 : decode mJ0_charAt_5068e.2.1 7 = .ok (.aload_n 0, 1) := by decide +kernel
theorem dc_J0_charAt_5068e_8 : decode mJ0_charAt_5068e.2.1 8 = .ok (.getfield 9, 3) := by decide +kernel
theorem dc_J0_charAt_5068e_11 : decode mJ0_charAt_5068e.2.1 11 = .ok (.iload_n 1, 1) := by decide +kernel
theorem dc_J0_charAt_5068e_12 : decode mJ0_charAt_5068e.2.1 12 = .ok (.invokestatic 495, 3) := by decide +kernel
theorem dc_J0_charAt_5068e_15 : decode mJ0_charAt_5068e.2.1 15 = .ok (.ireturn, 1) := by decide +kernel
theorem dc_J0_charAt_5068e_16 : decode mJ0_charAt_5068e.2.1 16 = .ok (.aload_n 0, 1) := by decide +kernel
theorem dc_J0_charAt_5068e_17 : decode mJ0_charAt_5068e.2.1 17 = .ok (.getfield 9, 3) := by decide +kernel
theorem dc_J0_charAt_5068e_20 : decode mJ0_charAt_5068e.2.1 20 = .ok (.iload_n 1, 1) := by decide +kernel
theorem dc_J0_charAt_5068e_21 : decode mJ0_charAt_5068e.2.1 21 = .ok (.invokestatic 498, 3) := by decide +kernel
theorem dc_J0_charAt_5068e_24 : decode mJ0_charAt_5068e.2.1 24 = .ok (.ireturn, 1) := by decide +kernel
theorem dc_J0_coder_7d493_0 : decode mJ0_coder_7d493.2.1 0 = .ok (.getstatic 38, 3) := by decide +kernel
theorem dc_J0_coder_7d493_3 : decode mJ0_coder_7d493.2.1 3 = .ok (.ifCond .eq 10, 3) := by decide +kernel
theorem dc_J0_coder_7d493_6 : decode mJ0_coder_7d493.2.1 6 = .ok (.aload_n 0, 1) := by decide +kernel
theorem dc_J0_coder_7d493_7 : decode mJ0_coder_7d493.2.1 7 = .ok (.getfield 15, 3) := by decide +kernel
theorem dc_J0_coder_7d493_10 : decode mJ0_coder_7d493.2.1 10 = .ok (.goto 4, 3) := by decide +kernel
theorem dc_J0_coder_7d493_13 : decode mJ0_coder_7d493.2.1 13 = .ok (.iconst 1, 1) := by decide +kernel
theorem dc_J0_coder_7d493_14 : decode mJ0_coder_7d493.2.1 14 = .ok (.ireturn, 1) := by decide +kernel
theorem dc_J0_isLatin1_aae02_0 : decode mJ0_isLatin1_aae02.2.1 0 = .ok (.getstatic 38, 3) := by decide +kernel
theorem dc_J0_isLatin1_aae02_3 : decode mJ0_isLatin1_aae02.2.1 3 = .ok (.ifCond .eq 14, 3) := by decide +kernel
theorem dc_J0_isLatin1_aae02_6 : decode mJ0_isLatin1_aae02.2.1 6 = .ok (.aload_n 0, 1) := by decide +kernel
theorem dc_J0_isLatin1_aae02_7 : decode mJ0_isLatin1_aae02.2.1 7 = .ok (.getfield 15, 3) := by decide +kernel
theorem dc_J0_isLatin1_aae02_10 : decode mJ0_isLatin1_aae02.2.1 10 = .ok (.ifCond .ne 7, 3) := by decide +kernel
theorem dc_J0_isLatin1_aae02_13 : decode mJ0_isLatin1_aae02.2.1 13 = .ok (.iconst 1, 1) := by decide +kernel
theorem dc_J0_isLatin1_aae02_14 : decode mJ0_isLatin1_aae02.2.1 14 = .ok (.goto 4, 3) := by decide +kernel
theorem dc_J0_isLatin1_aae02_17 : decode mJ0_isLatin1_aae02.2.1 17 = .ok (.iconst 0, 1) := by decide +kernel
theorem dc_J0_isLatin1_aae02_18 : decode mJ0_isLatin1_aae02.2.1 18 = .ok (.ireturn, 1) := by decide +kernel
theorem dc_J0_checkIndex_df160_0 : decode mJ0_checkIndex_df160.2.1 0 = .ok (.iload_n 0, 1) := by decide +kernel
theorem dc_J0_checkIndex_df160_1 : decode mJ0_checkIndex_df160.2.1 1 = .ok (.iload_n 1, 1) := by decide +kernel
theorem dc_J0_checkIndex_df160_2 : decode mJ0_checkIndex_df160.2.1 2 = .ok (.getstatic 1053, 3) := by decide +kernel
theorem dc_J0_checkIndex_df160_5 : decode mJ0_checkIndex_df160.2.1 5 = .ok (.invokestatic 1059, 3) := by decide +kernel
theorem dc_J0_checkIndex_df160_8 : decode mJ0_checkIndex_df160.2.1 8 = .ok (.pop, 1) := by decide +kernel
theorem dc_J0_checkIndex_df160_9 : decode mJ0_checkIndex_df160.2.1 9 = .ok (.return_, 1) := by decide +kernel
theorem dc_J1_charAt_3b067_0 : decode mJ1_charAt_3b067.2.1 0 = .ok (.iload_n 1, 1) := by decide +kernel
theorem dc_J1_charAt_3b067_1 : decode mJ1_charAt_3b067.2.1 1 = .ok (.aload_n 0, 1) := by decide +kernel
theorem dc_J1_charAt_3b067_2 : decode mJ1_charAt_3b067.2.1 2 = .ok (.arraylength, 1) := by decide +kernel
theorem dc_J1_charAt_3b067_3 : decode mJ1_charAt_3b067.2.1 3 = .ok (.invokestatic 9, 3) := by decide +kernel
theorem dc_J1_charAt_3b067_6 : decode mJ1_charAt_3b067.2.1 6 = .ok (.aload_n 0, 1) := by decide +kernel
theorem dc_J1_charAt_3b067_7 : decode mJ1_charAt_3b067.2.1 7 = .ok (.iload_n 1, 1) := by decide +kernel
theorem dc_J1_charAt_3b067_8 : decode mJ1_charAt_3b067.2.1 8 = .ok (.baload, 1) := by decide +kernel
theorem dc_J1_charAt_3b067_9 : decode mJ1_charAt_3b067.2.1 9 = .ok (.sipush 255, 3) := by decide +kernel
theorem dc_J1_charAt_3b067_12 : decode mJ1_charAt_3b067.2.1 12 = .ok (.iand, 1) := by decide +kernel
theorem dc_J1_charAt_3b067_13 : decode mJ1_charAt_3b067.2.1 13 = .ok (.i2c, 1) := by decide +kernel
theorem dc_J1_charAt_3b067_14 : decode mJ1_charAt_3b067.2.1 14 = .ok (.ireturn, 1) := by decide +kernel
theorem dc_J3_checkIndex_8e157_0 : decode mJ3_checkIndex_8e157.2.1 0 = .ok (.iload_n 0, 1) := by decide +kernel
theorem dc_J3_checkIndex_8e157_1 : decode mJ3_checkIndex_8e157.2.1 1 = .ok (.ifCond .lt 8, 3) := by decide +kernel
theorem dc_J3_checkIndex_8e157_4 : decode mJ3_checkIndex_8e157.2.1 4 = .ok (.iload_n 0, 1) := by decide +kernel
theorem dc_J3_checkIndex_8e157_5 : decode mJ3_checkIndex_8e157.2.1 5 = .ok (.iload_n 1, 1) := by decide +kernel
theorem dc_J3_checkIndex_8e157_6 : decode mJ3_checkIndex_8e157.2.1 6 = .ok (.if_icmp .lt 10, 3) := by decide +kernel
theorem dc_J3_checkIndex_8e157_9 : decode mJ3_checkIndex_8e157.2.1 9 = .ok (.aload_n 2, 1) := by decide +kernel
theorem dc_J3_checkIndex_8e157_10 : decode mJ3_checkIndex_8e157.2.1 10 = .ok (.iload_n 0, 1) := by decide +kernel
theorem dc_J3_checkIndex_8e157_11 : decode mJ3_checkIndex_8e157.2.1 11 = .ok (.iload_n 1, 1) := by decide +kernel
theorem dc_J3_checkIndex_8e157_12 : decode mJ3_checkIndex_8e157.2.1 12 = .ok (.invokestatic 95, 3) := by decide +kernel
theorem dc_J3_checkIndex_8e157_15 : decode mJ3_checkIndex_8e157.2.1 15 = .ok (.athrow, 1) := by decide +kernel
theorem dc_J3_checkIndex_8e157_16 : decode mJ3_checkIndex_8e157.2.1 16 = .ok (.iload_n 0, 1) := by decide +kernel
theorem dc_J3_checkIndex_8e157_17 : decode mJ3_checkIndex_8e157.2.1 17 = .ok (.ireturn, 1) := by decide +kernel
